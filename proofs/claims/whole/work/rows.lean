section
-- ===== PART A: goes FIRST, ahead of the names: the tables' words, and 'selects' of the private methods out of them =====
/-- a private method of a class that the tables say can be made, by its rows of tables_1 -/
def lw_okq (q : MethodName × Nat) : Prop := (q.1.cls ≠ "java/lang/invoke/MethodHandle" ∧ q.1.cls ≠ "java/lang/invoke/VarHandle") ∧ Cond.instantiable q.1.cls q.2 ∈ tables_1 ∧ Cond.privateMethod q.1 ∈ tables_1 ∧ Cond.instanceMethod q.1 ∈ tables_1
theorem lw_p0 : lw_okq (⟨"FountainShow$Cues", "shift", "(III)V"⟩, 4) := ⟨⟨by decide +kernel, by decide +kernel⟩, List.mem_of_getElem? (i := 177) (by decide +kernel), List.mem_of_getElem? (i := 373) (by decide +kernel), List.mem_of_getElem? (i := 374) (by decide +kernel)⟩
theorem lw_p1 : lw_okq (⟨"FountainShow$Weather", "enter", "(I)V"⟩, 4) := ⟨⟨by decide +kernel, by decide +kernel⟩, List.mem_of_getElem? (i := 153) (by decide +kernel), List.mem_of_getElem? (i := 457) (by decide +kernel), List.mem_of_getElem? (i := 458) (by decide +kernel)⟩
theorem lw_p2 : lw_okq (⟨"FountainShow$Weather", "calmDown", "(I)V"⟩, 4) := ⟨⟨by decide +kernel, by decide +kernel⟩, List.mem_of_getElem? (i := 153) (by decide +kernel), List.mem_of_getElem? (i := 461) (by decide +kernel), List.mem_of_getElem? (i := 462) (by decide +kernel)⟩
theorem lw_p3 : lw_okq (⟨"FountainShow$Nozzles", "commandAt", "(II)I"⟩, 10) := ⟨⟨by decide +kernel, by decide +kernel⟩, List.mem_of_getElem? (i := 67) (by decide +kernel), List.mem_of_getElem? (i := 471) (by decide +kernel), List.mem_of_getElem? (i := 472) (by decide +kernel)⟩
theorem lw_p4 : lw_okq (⟨"FountainShow$Nozzles", "demandAt", "(I)I"⟩, 10) := ⟨⟨by decide +kernel, by decide +kernel⟩, List.mem_of_getElem? (i := 67) (by decide +kernel), List.mem_of_getElem? (i := 492) (by decide +kernel), List.mem_of_getElem? (i := 493) (by decide +kernel)⟩
theorem lw_p5 : lw_okq (⟨"FountainShow", "greatestDemand", "(II)I"⟩, 5) := ⟨⟨by decide +kernel, by decide +kernel⟩, List.mem_of_getElem? (i := 14) (by decide +kernel), List.mem_of_getElem? (i := 593) (by decide +kernel), List.mem_of_getElem? (i := 594) (by decide +kernel)⟩
theorem lw_p6 : lw_okq (⟨"FountainShow", "shortTicks", "(II)I"⟩, 5) := ⟨⟨by decide +kernel, by decide +kernel⟩, List.mem_of_getElem? (i := 14) (by decide +kernel), List.mem_of_getElem? (i := 597) (by decide +kernel), List.mem_of_getElem? (i := 598) (by decide +kernel)⟩
theorem lw_p7 : lw_okq (⟨"FountainShow", "firstShort", "(II)I"⟩, 5) := ⟨⟨by decide +kernel, by decide +kernel⟩, List.mem_of_getElem? (i := 14) (by decide +kernel), List.mem_of_getElem? (i := 601) (by decide +kernel), List.mem_of_getElem? (i := 602) (by decide +kernel)⟩
theorem lw_p8 : lw_okq (⟨"FountainShow", "wetTicks", "(I)I"⟩, 5) := ⟨⟨by decide +kernel, by decide +kernel⟩, List.mem_of_getElem? (i := 14) (by decide +kernel), List.mem_of_getElem? (i := 606) (by decide +kernel), List.mem_of_getElem? (i := 607) (by decide +kernel)⟩
theorem lw_p9 : lw_okq (⟨"FountainShow", "greatestHeight", "(I)I"⟩, 5) := ⟨⟨by decide +kernel, by decide +kernel⟩, List.mem_of_getElem? (i := 14) (by decide +kernel), List.mem_of_getElem? (i := 610) (by decide +kernel), List.mem_of_getElem? (i := 611) (by decide +kernel)⟩
theorem lw_p10 : lw_okq (⟨"FountainShow", "staysSupplied", "(I)Z"⟩, 5) := ⟨⟨by decide +kernel, by decide +kernel⟩, List.mem_of_getElem? (i := 14) (by decide +kernel), List.mem_of_getElem? (i := 622) (by decide +kernel), List.mem_of_getElem? (i := 623) (by decide +kernel)⟩
theorem lw_p11 : lw_okq (⟨"FountainShow", "staysDry", "(I)Z"⟩, 5) := ⟨⟨by decide +kernel, by decide +kernel⟩, List.mem_of_getElem? (i := 14) (by decide +kernel), List.mem_of_getElem? (i := 634) (by decide +kernel), List.mem_of_getElem? (i := 635) (by decide +kernel)⟩
theorem lw_p12 : lw_okq (⟨"FountainShow$Pad", "accepts", "(C)Z"⟩, 7) := ⟨⟨by decide +kernel, by decide +kernel⟩, List.mem_of_getElem? (i := 248) (by decide +kernel), List.mem_of_getElem? (i := 658) (by decide +kernel), List.mem_of_getElem? (i := 659) (by decide +kernel)⟩
theorem lw_p13 : lw_okq (⟨"FountainShow$Pad", "endsTime", "()Z"⟩, 7) := ⟨⟨by decide +kernel, by decide +kernel⟩, List.mem_of_getElem? (i := 248) (by decide +kernel), List.mem_of_getElem? (i := 662) (by decide +kernel), List.mem_of_getElem? (i := 663) (by decide +kernel)⟩
theorem lw_p14 : lw_okq (⟨"FountainShow$Pad", "isDigitUpTo", "(IC)Z"⟩, 7) := ⟨⟨by decide +kernel, by decide +kernel⟩, List.mem_of_getElem? (i := 248) (by decide +kernel), List.mem_of_getElem? (i := 666) (by decide +kernel), List.mem_of_getElem? (i := 667) (by decide +kernel)⟩
theorem lw_p15 : lw_okq (⟨"FountainShow$Pad", "endsSet", "()Z"⟩, 7) := ⟨⟨by decide +kernel, by decide +kernel⟩, List.mem_of_getElem? (i := 248) (by decide +kernel), List.mem_of_getElem? (i := 670) (by decide +kernel), List.mem_of_getElem? (i := 671) (by decide +kernel)⟩
def lw_privs_1 : List (MethodName × Nat) := [(⟨"FountainShow$Cues", "shift", "(III)V"⟩, 4), (⟨"FountainShow$Weather", "enter", "(I)V"⟩, 4), (⟨"FountainShow$Weather", "calmDown", "(I)V"⟩, 4), (⟨"FountainShow$Nozzles", "commandAt", "(II)I"⟩, 10), (⟨"FountainShow$Nozzles", "demandAt", "(I)I"⟩, 10), (⟨"FountainShow", "greatestDemand", "(II)I"⟩, 5), (⟨"FountainShow", "shortTicks", "(II)I"⟩, 5), (⟨"FountainShow", "firstShort", "(II)I"⟩, 5), (⟨"FountainShow", "wetTicks", "(I)I"⟩, 5), (⟨"FountainShow", "greatestHeight", "(I)I"⟩, 5), (⟨"FountainShow", "staysSupplied", "(I)Z"⟩, 5), (⟨"FountainShow", "staysDry", "(I)Z"⟩, 5), (⟨"FountainShow$Pad", "accepts", "(C)Z"⟩, 7), (⟨"FountainShow$Pad", "endsTime", "()Z"⟩, 7), (⟨"FountainShow$Pad", "isDigitUpTo", "(IC)Z"⟩, 7), (⟨"FountainShow$Pad", "endsSet", "()Z"⟩, 7)]
theorem lw_r1 : ∀ q ∈ lw_privs_1, lw_okq q := List.forall_mem_cons.mpr ⟨lw_p0, List.forall_mem_cons.mpr ⟨lw_p1, List.forall_mem_cons.mpr ⟨lw_p2, List.forall_mem_cons.mpr ⟨lw_p3, List.forall_mem_cons.mpr ⟨lw_p4, List.forall_mem_cons.mpr ⟨lw_p5, List.forall_mem_cons.mpr ⟨lw_p6, List.forall_mem_cons.mpr ⟨lw_p7, List.forall_mem_cons.mpr ⟨lw_p8, List.forall_mem_cons.mpr ⟨lw_p9, List.forall_mem_cons.mpr ⟨lw_p10, List.forall_mem_cons.mpr ⟨lw_p11, List.forall_mem_cons.mpr ⟨lw_p12, List.forall_mem_cons.mpr ⟨lw_p13, List.forall_mem_cons.mpr ⟨lw_p14, List.forall_mem_cons.mpr ⟨lw_p15, fun _ h => absurd h List.not_mem_nil⟩⟩⟩⟩⟩⟩⟩⟩⟩⟩⟩⟩⟩⟩⟩⟩
theorem lw_p16 : lw_okq (⟨"FountainShow$Pad", "isLetter", "(C)Z"⟩, 7) := ⟨⟨by decide +kernel, by decide +kernel⟩, List.mem_of_getElem? (i := 248) (by decide +kernel), List.mem_of_getElem? (i := 674) (by decide +kernel), List.mem_of_getElem? (i := 675) (by decide +kernel)⟩
theorem lw_p17 : lw_okq (⟨"FountainShow$Pad", "endsCue", "()Z"⟩, 7) := ⟨⟨by decide +kernel, by decide +kernel⟩, List.mem_of_getElem? (i := 248) (by decide +kernel), List.mem_of_getElem? (i := 678) (by decide +kernel), List.mem_of_getElem? (i := 679) (by decide +kernel)⟩
theorem lw_p18 : lw_okq (⟨"FountainShow", "slotAt", "(I)LFountainShow$Slot;"⟩, 5) := ⟨⟨by decide +kernel, by decide +kernel⟩, List.mem_of_getElem? (i := 14) (by decide +kernel), List.mem_of_getElem? (i := 692) (by decide +kernel), List.mem_of_getElem? (i := 693) (by decide +kernel)⟩
theorem lw_p19 : lw_okq (⟨"FountainShowModel", "begin", "(I)V"⟩, 10) := ⟨⟨by decide +kernel, by decide +kernel⟩, List.mem_of_getElem? (i := 700) (by decide +kernel), List.mem_of_getElem? (i := 706) (by decide +kernel), List.mem_of_getElem? (i := 707) (by decide +kernel)⟩
theorem lw_p20 : lw_okq (⟨"FountainShowModel", "isNozzle", "(I)Z"⟩, 10) := ⟨⟨by decide +kernel, by decide +kernel⟩, List.mem_of_getElem? (i := 700) (by decide +kernel), List.mem_of_getElem? (i := 753) (by decide +kernel), List.mem_of_getElem? (i := 754) (by decide +kernel)⟩
theorem lw_p21 : lw_okq (⟨"FountainShowModel", "change", "(II)I"⟩, 10) := ⟨⟨by decide +kernel, by decide +kernel⟩, List.mem_of_getElem? (i := 700) (by decide +kernel), List.mem_of_getElem? (i := 760) (by decide +kernel), List.mem_of_getElem? (i := 761) (by decide +kernel)⟩
theorem lw_p22 : lw_okq (⟨"FountainShowModel", "insert", "(III)I"⟩, 10) := ⟨⟨by decide +kernel, by decide +kernel⟩, List.mem_of_getElem? (i := 700) (by decide +kernel), List.mem_of_getElem? (i := 790) (by decide +kernel), List.mem_of_getElem? (i := 791) (by decide +kernel)⟩
theorem lw_p23 : lw_okq (⟨"FountainShowModel", "ofCue", "(II)I"⟩, 10) := ⟨⟨by decide +kernel, by decide +kernel⟩, List.mem_of_getElem? (i := 700) (by decide +kernel), List.mem_of_getElem? (i := 794) (by decide +kernel), List.mem_of_getElem? (i := 795) (by decide +kernel)⟩
theorem lw_p24 : lw_okq (⟨"FountainShowModel", "layCue", "(IIII)V"⟩, 10) := ⟨⟨by decide +kernel, by decide +kernel⟩, List.mem_of_getElem? (i := 700) (by decide +kernel), List.mem_of_getElem? (i := 798) (by decide +kernel), List.mem_of_getElem? (i := 799) (by decide +kernel)⟩
theorem lw_p25 : lw_okq (⟨"FountainShowModel", "isCue", "(I)Z"⟩, 10) := ⟨⟨by decide +kernel, by decide +kernel⟩, List.mem_of_getElem? (i := 700) (by decide +kernel), List.mem_of_getElem? (i := 806) (by decide +kernel), List.mem_of_getElem? (i := 807) (by decide +kernel)⟩
theorem lw_p26 : lw_okq (⟨"FountainShowModel", "takeOut", "(I)V"⟩, 10) := ⟨⟨by decide +kernel, by decide +kernel⟩, List.mem_of_getElem? (i := 700) (by decide +kernel), List.mem_of_getElem? (i := 810) (by decide +kernel), List.mem_of_getElem? (i := 811) (by decide +kernel)⟩
theorem lw_p27 : lw_okq (⟨"FountainShowModel", "shift", "(II)I"⟩, 10) := ⟨⟨by decide +kernel, by decide +kernel⟩, List.mem_of_getElem? (i := 700) (by decide +kernel), List.mem_of_getElem? (i := 819) (by decide +kernel), List.mem_of_getElem? (i := 820) (by decide +kernel)⟩
theorem lw_p28 : lw_okq (⟨"FountainShowModel", "carryOut", "(II)V"⟩, 10) := ⟨⟨by decide +kernel, by decide +kernel⟩, List.mem_of_getElem? (i := 700) (by decide +kernel), List.mem_of_getElem? (i := 831) (by decide +kernel), List.mem_of_getElem? (i := 832) (by decide +kernel)⟩
theorem lw_p29 : lw_okq (⟨"FountainShowModel", "makeTick", "()V"⟩, 10) := ⟨⟨by decide +kernel, by decide +kernel⟩, List.mem_of_getElem? (i := 700) (by decide +kernel), List.mem_of_getElem? (i := 840) (by decide +kernel), List.mem_of_getElem? (i := 841) (by decide +kernel)⟩
theorem lw_p30 : lw_okq (⟨"FountainShowModel", "stepWind", "()V"⟩, 10) := ⟨⟨by decide +kernel, by decide +kernel⟩, List.mem_of_getElem? (i := 700) (by decide +kernel), List.mem_of_getElem? (i := 844) (by decide +kernel), List.mem_of_getElem? (i := 845) (by decide +kernel)⟩
theorem lw_p31 : lw_okq (⟨"FountainShowModel", "goal", "(I)I"⟩, 10) := ⟨⟨by decide +kernel, by decide +kernel⟩, List.mem_of_getElem? (i := 700) (by decide +kernel), List.mem_of_getElem? (i := 848) (by decide +kernel), List.mem_of_getElem? (i := 849) (by decide +kernel)⟩
def lw_privs_2 : List (MethodName × Nat) := [(⟨"FountainShow$Pad", "isLetter", "(C)Z"⟩, 7), (⟨"FountainShow$Pad", "endsCue", "()Z"⟩, 7), (⟨"FountainShow", "slotAt", "(I)LFountainShow$Slot;"⟩, 5), (⟨"FountainShowModel", "begin", "(I)V"⟩, 10), (⟨"FountainShowModel", "isNozzle", "(I)Z"⟩, 10), (⟨"FountainShowModel", "change", "(II)I"⟩, 10), (⟨"FountainShowModel", "insert", "(III)I"⟩, 10), (⟨"FountainShowModel", "ofCue", "(II)I"⟩, 10), (⟨"FountainShowModel", "layCue", "(IIII)V"⟩, 10), (⟨"FountainShowModel", "isCue", "(I)Z"⟩, 10), (⟨"FountainShowModel", "takeOut", "(I)V"⟩, 10), (⟨"FountainShowModel", "shift", "(II)I"⟩, 10), (⟨"FountainShowModel", "carryOut", "(II)V"⟩, 10), (⟨"FountainShowModel", "makeTick", "()V"⟩, 10), (⟨"FountainShowModel", "stepWind", "()V"⟩, 10), (⟨"FountainShowModel", "goal", "(I)I"⟩, 10)]
theorem lw_r2 : ∀ q ∈ lw_privs_2, lw_okq q := List.forall_mem_cons.mpr ⟨lw_p16, List.forall_mem_cons.mpr ⟨lw_p17, List.forall_mem_cons.mpr ⟨lw_p18, List.forall_mem_cons.mpr ⟨lw_p19, List.forall_mem_cons.mpr ⟨lw_p20, List.forall_mem_cons.mpr ⟨lw_p21, List.forall_mem_cons.mpr ⟨lw_p22, List.forall_mem_cons.mpr ⟨lw_p23, List.forall_mem_cons.mpr ⟨lw_p24, List.forall_mem_cons.mpr ⟨lw_p25, List.forall_mem_cons.mpr ⟨lw_p26, List.forall_mem_cons.mpr ⟨lw_p27, List.forall_mem_cons.mpr ⟨lw_p28, List.forall_mem_cons.mpr ⟨lw_p29, List.forall_mem_cons.mpr ⟨lw_p30, List.forall_mem_cons.mpr ⟨lw_p31, fun _ h => absurd h List.not_mem_nil⟩⟩⟩⟩⟩⟩⟩⟩⟩⟩⟩⟩⟩⟩⟩⟩
theorem lw_p32 : lw_okq (⟨"FountainShowModel", "stepPump", "(I)V"⟩, 10) := ⟨⟨by decide +kernel, by decide +kernel⟩, List.mem_of_getElem? (i := 700) (by decide +kernel), List.mem_of_getElem? (i := 855) (by decide +kernel), List.mem_of_getElem? (i := 856) (by decide +kernel)⟩
theorem lw_p33 : lw_okq (⟨"FountainShowModel", "stepNozzle", "(I)Z"⟩, 10) := ⟨⟨by decide +kernel, by decide +kernel⟩, List.mem_of_getElem? (i := 700) (by decide +kernel), List.mem_of_getElem? (i := 859) (by decide +kernel), List.mem_of_getElem? (i := 860) (by decide +kernel)⟩
theorem lw_p34 : lw_okq (⟨"FountainShowModel", "nextCue", "()I"⟩, 10) := ⟨⟨by decide +kernel, by decide +kernel⟩, List.mem_of_getElem? (i := 700) (by decide +kernel), List.mem_of_getElem? (i := 889) (by decide +kernel), List.mem_of_getElem? (i := 890) (by decide +kernel)⟩
theorem lw_p35 : lw_okq (⟨"FountainShowModel", "putAside", "()V"⟩, 10) := ⟨⟨by decide +kernel, by decide +kernel⟩, List.mem_of_getElem? (i := 700) (by decide +kernel), List.mem_of_getElem? (i := 897) (by decide +kernel), List.mem_of_getElem? (i := 898) (by decide +kernel)⟩
theorem lw_p36 : lw_okq (⟨"FountainShowModel", "greatestNow", "()I"⟩, 10) := ⟨⟨by decide +kernel, by decide +kernel⟩, List.mem_of_getElem? (i := 700) (by decide +kernel), List.mem_of_getElem? (i := 901) (by decide +kernel), List.mem_of_getElem? (i := 902) (by decide +kernel)⟩
theorem lw_p37 : lw_okq (⟨"FountainShowModel", "putBack", "()V"⟩, 10) := ⟨⟨by decide +kernel, by decide +kernel⟩, List.mem_of_getElem? (i := 700) (by decide +kernel), List.mem_of_getElem? (i := 905) (by decide +kernel), List.mem_of_getElem? (i := 906) (by decide +kernel)⟩
theorem lw_p38 : lw_okq (⟨"FountainShowModel", "isEnough", "(I)Z"⟩, 10) := ⟨⟨by decide +kernel, by decide +kernel⟩, List.mem_of_getElem? (i := 700) (by decide +kernel), List.mem_of_getElem? (i := 913) (by decide +kernel), List.mem_of_getElem? (i := 914) (by decide +kernel)⟩
theorem lw_p39 : lw_okq (⟨"FountainShowModel", "shorts", "()I"⟩, 10) := ⟨⟨by decide +kernel, by decide +kernel⟩, List.mem_of_getElem? (i := 700) (by decide +kernel), List.mem_of_getElem? (i := 917) (by decide +kernel), List.mem_of_getElem? (i := 918) (by decide +kernel)⟩
theorem lw_p40 : lw_okq (⟨"FountainShowModel", "staysDry", "(I)Z"⟩, 10) := ⟨⟨by decide +kernel, by decide +kernel⟩, List.mem_of_getElem? (i := 700) (by decide +kernel), List.mem_of_getElem? (i := 925) (by decide +kernel), List.mem_of_getElem? (i := 926) (by decide +kernel)⟩
theorem lw_p41 : lw_okq (⟨"FountainShowModel", "takeCue", "()V"⟩, 10) := ⟨⟨by decide +kernel, by decide +kernel⟩, List.mem_of_getElem? (i := 700) (by decide +kernel), List.mem_of_getElem? (i := 941) (by decide +kernel), List.mem_of_getElem? (i := 942) (by decide +kernel)⟩
theorem lw_p42 : lw_okq (⟨"FountainShowModel", "takeNumber", "(I)I"⟩, 10) := ⟨⟨by decide +kernel, by decide +kernel⟩, List.mem_of_getElem? (i := 700) (by decide +kernel), List.mem_of_getElem? (i := 945) (by decide +kernel), List.mem_of_getElem? (i := 946) (by decide +kernel)⟩
theorem lw_p43 : lw_okq (⟨"FountainShowModel", "next", "()I"⟩, 10) := ⟨⟨by decide +kernel, by decide +kernel⟩, List.mem_of_getElem? (i := 700) (by decide +kernel), List.mem_of_getElem? (i := 949) (by decide +kernel), List.mem_of_getElem? (i := 950) (by decide +kernel)⟩
theorem lw_p44 : lw_okq (⟨"FountainShowModel", "need", "(I)V"⟩, 10) := ⟨⟨by decide +kernel, by decide +kernel⟩, List.mem_of_getElem? (i := 700) (by decide +kernel), List.mem_of_getElem? (i := 953) (by decide +kernel), List.mem_of_getElem? (i := 954) (by decide +kernel)⟩
theorem lw_p45 : lw_okq (⟨"FountainShowModel", "takeSet", "()I"⟩, 10) := ⟨⟨by decide +kernel, by decide +kernel⟩, List.mem_of_getElem? (i := 700) (by decide +kernel), List.mem_of_getElem? (i := 957) (by decide +kernel), List.mem_of_getElem? (i := 958) (by decide +kernel)⟩
def lw_privs_3 : List (MethodName × Nat) := [(⟨"FountainShowModel", "stepPump", "(I)V"⟩, 10), (⟨"FountainShowModel", "stepNozzle", "(I)Z"⟩, 10), (⟨"FountainShowModel", "nextCue", "()I"⟩, 10), (⟨"FountainShowModel", "putAside", "()V"⟩, 10), (⟨"FountainShowModel", "greatestNow", "()I"⟩, 10), (⟨"FountainShowModel", "putBack", "()V"⟩, 10), (⟨"FountainShowModel", "isEnough", "(I)Z"⟩, 10), (⟨"FountainShowModel", "shorts", "()I"⟩, 10), (⟨"FountainShowModel", "staysDry", "(I)Z"⟩, 10), (⟨"FountainShowModel", "takeCue", "()V"⟩, 10), (⟨"FountainShowModel", "takeNumber", "(I)I"⟩, 10), (⟨"FountainShowModel", "next", "()I"⟩, 10), (⟨"FountainShowModel", "need", "(I)V"⟩, 10), (⟨"FountainShowModel", "takeSet", "()I"⟩, 10)]
theorem lw_r3 : ∀ q ∈ lw_privs_3, lw_okq q := List.forall_mem_cons.mpr ⟨lw_p32, List.forall_mem_cons.mpr ⟨lw_p33, List.forall_mem_cons.mpr ⟨lw_p34, List.forall_mem_cons.mpr ⟨lw_p35, List.forall_mem_cons.mpr ⟨lw_p36, List.forall_mem_cons.mpr ⟨lw_p37, List.forall_mem_cons.mpr ⟨lw_p38, List.forall_mem_cons.mpr ⟨lw_p39, List.forall_mem_cons.mpr ⟨lw_p40, List.forall_mem_cons.mpr ⟨lw_p41, List.forall_mem_cons.mpr ⟨lw_p42, List.forall_mem_cons.mpr ⟨lw_p43, List.forall_mem_cons.mpr ⟨lw_p44, List.forall_mem_cons.mpr ⟨lw_p45, fun _ h => absurd h List.not_mem_nil⟩⟩⟩⟩⟩⟩⟩⟩⟩⟩⟩⟩⟩⟩
def lw_privs : List (MethodName × Nat) := lw_privs_1 ++ (lw_privs_2 ++ (lw_privs_3))
def lw_tbl : List Cond := k2_sels lw_privs ++ tables_1
theorem lw_privs_ok : ∀ q ∈ lw_privs, lw_okq q := by
  show ∀ q ∈ lw_privs_1 ++ (lw_privs_2 ++ (lw_privs_3)), lw_okq q
  exact List.forall_mem_append.mpr ⟨lw_r1, List.forall_mem_append.mpr ⟨lw_r2, lw_r3⟩⟩
/-- the streams that the claim lets the run draw from -/
abbrev lw_cs : List Choice := [Jvm.Choice.named "NaN.bits"]
theorem lw_bits : nanBits ∈ lw_cs := by first | decide | exact List.mem_cons_self | simp [lw_cs, nanBits]
end
section
def RX0 : String := "FountainShow$Cues"
def TX0 : u_T := fun k => match k with
  | 0 => ("FountainShow$Cues", "times", "[I", true)
  | 1 => ("FountainShow$Cues", "sets", "[I", true)
  | 2 => ("FountainShow$Cues", "values", "[I", true)
  | _ => ("FountainShow$Cues", "count", "I", false)
def tyX0 : Nat → FieldType := fun k => match k with
  | 0 => .array .int
  | 1 => .array .int
  | 2 => .array .int
  | _ => .int
theorem nmX0 : ∀ a, a < 4 → ∀ b, b < 4 → a ≠ b → (TX0 a).2.1 ≠ (TX0 b).2.1 := by decide +kernel
theorem tyX0_ok : ∀ k, k < 4 → parseFieldDescriptor (TX0 k).2.2.1 = some (tyX0 k) := by decide +kernel
abbrev cX0_init : ByteArray := prog_2_method_1_code
def yX0_init : MethodName := ⟨RX0, "<init>", "()V"⟩
abbrev cX0_has : ByteArray := prog_2_method_2_code
def yX0_has : MethodName := ⟨RX0, "has", "(I)Z"⟩
abbrev cX0_copy : ByteArray := prog_2_method_3_code
def yX0_copy : MethodName := ⟨RX0, "copy", "(LFountainShow$Cues;)V"⟩
abbrev cX0_insert : ByteArray := prog_2_method_4_code
def yX0_insert : MethodName := ⟨RX0, "insert", "(III)I"⟩
abbrev cX0_takeOut : ByteArray := prog_2_method_5_code
def yX0_takeOut : MethodName := ⟨RX0, "takeOut", "(I)V"⟩
abbrev cX0_postpone : ByteArray := prog_2_method_6_code
def yX0_postpone : MethodName := ⟨RX0, "postpone", "(II)I"⟩
abbrev cX0_next : ByteArray := prog_2_method_7_code
def yX0_next : MethodName := ⟨RX0, "next", "(I)I"⟩
abbrev cX0_carryOut : ByteArray := prog_2_method_8_code
def yX0_carryOut : MethodName := ⟨RX0, "carryOut", "(ILFountainShow$Nozzles;)V"⟩
abbrev cX0_shift : ByteArray := prog_2_method_9_code
def yX0_shift : MethodName := ⟨RX0, "shift", "(III)V"⟩
def RX1 : String := "FountainShow$Nozzles"
def TX1 : u_T := fun k => match k with
  | 0 => ("FountainShow$Nozzles", "settings", "LFountainShow$Settings;", true)
  | 1 => ("FountainShow$Nozzles", "commands", "[I", true)
  | 2 => ("FountainShow$Nozzles", "openings", "[I", true)
  | 3 => ("FountainShow$Nozzles", "flows", "[I", true)
  | 4 => ("FountainShow$Nozzles", "heights", "[I", true)
  | 5 => ("FountainShow$Nozzles", "drifts", "[I", true)
  | 6 => ("FountainShow$Nozzles", "greatest", "[I", true)
  | 7 => ("FountainShow$Nozzles", "past", "[I", true)
  | 8 => ("FountainShow$Nozzles", "count", "I", false)
  | _ => ("FountainShow$Nozzles", "greatestCutGoal", "I", false)
def tyX1 : Nat → FieldType := fun k => match k with
  | 0 => .object "FountainShow$Settings"
  | 1 => .array .int
  | 2 => .array .int
  | 3 => .array .int
  | 4 => .array .int
  | 5 => .array .int
  | 6 => .array .int
  | 7 => .array .int
  | 8 => .int
  | _ => .int
theorem nmX1 : ∀ a, a < 10 → ∀ b, b < 10 → a ≠ b → (TX1 a).2.1 ≠ (TX1 b).2.1 := by decide +kernel
theorem tyX1_ok : ∀ k, k < 10 → parseFieldDescriptor (TX1 k).2.2.1 = some (tyX1 k) := by decide +kernel
abbrev cX1_init : ByteArray := prog_3_method_1_code
def yX1_init : MethodName := ⟨RX1, "<init>", "()V"⟩
abbrev cX1_has : ByteArray := prog_3_method_2_code
def yX1_has : MethodName := ⟨RX1, "has", "(I)Z"⟩
abbrev cX1_begin : ByteArray := prog_3_method_3_code
def yX1_begin : MethodName := ⟨RX1, "begin", "(I)V"⟩
abbrev cX1_goBack : ByteArray := prog_3_method_4_code
def yX1_goBack : MethodName := ⟨RX1, "goBack", "()V"⟩
abbrev cX1_copy : ByteArray := prog_3_method_5_code
def yX1_copy : MethodName := ⟨RX1, "copy", "(LFountainShow$Nozzles;)V"⟩
abbrev cX1_obey : ByteArray := prog_3_method_6_code
def yX1_obey : MethodName := ⟨RX1, "obey", "(II)V"⟩
abbrev cX1_keepCommands : ByteArray := prog_3_method_7_code
def yX1_keepCommands : MethodName := ⟨RX1, "keepCommands", "(I)V"⟩
abbrev cX1_open : ByteArray := prog_3_method_8_code
def yX1_open : MethodName := ⟨RX1, "open", "(III)V"⟩
abbrev cX1_demandOf : ByteArray := prog_3_method_9_code
def yX1_demandOf : MethodName := ⟨RX1, "demandOf", "(I)I"⟩
abbrev cX1_flow : ByteArray := prog_3_method_10_code
def yX1_flow : MethodName := ⟨RX1, "flow", "(III)V"⟩
abbrev cX1_rise : ByteArray := prog_3_method_11_code
def yX1_rise : MethodName := ⟨RX1, "rise", "(I)V"⟩
abbrev cX1_driftsBeyond : ByteArray := prog_3_method_12_code
def yX1_driftsBeyond : MethodName := ⟨RX1, "driftsBeyond", "(I)Z"⟩
abbrev cX1_sumOfHeights : ByteArray := prog_3_method_13_code
def yX1_sumOfHeights : MethodName := ⟨RX1, "sumOfHeights", "()I"⟩
abbrev cX1_greatestHeightNow : ByteArray := prog_3_method_14_code
def yX1_greatestHeightNow : MethodName := ⟨RX1, "greatestHeightNow", "()I"⟩
abbrev cX1_demandAt : ByteArray := prog_3_method_15_code
def yX1_demandAt : MethodName := ⟨RX1, "demandAt", "(I)I"⟩
abbrev cX1_commandAt : ByteArray := prog_3_method_16_code
def yX1_commandAt : MethodName := ⟨RX1, "commandAt", "(II)I"⟩
abbrev cX1_rowOf : ByteArray := prog_3_method_17_code
def yX1_rowOf : MethodName := ⟨RX1, "rowOf", "(I)I"⟩
def RX2 : String := "FountainShow$Pad"
def TX2 : u_T := fun k => match k with
  | 0 => ("FountainShow$Pad", "found", "LFountainShow$Cues;", true)
  | 1 => ("FountainShow$Pad", "text", "[C", true)
  | 2 => ("FountainShow$Pad", "length", "I", false)
  | 3 => ("FountainShow$Pad", "phase", "I", false)
  | 4 => ("FountainShow$Pad", "time", "I", false)
  | 5 => ("FountainShow$Pad", "set", "I", false)
  | _ => ("FountainShow$Pad", "number", "I", false)
def tyX2 : Nat → FieldType := fun k => match k with
  | 0 => .object "FountainShow$Cues"
  | 1 => .array .char
  | 2 => .int
  | 3 => .int
  | 4 => .int
  | 5 => .int
  | _ => .int
theorem nmX2 : ∀ a, a < 7 → ∀ b, b < 7 → a ≠ b → (TX2 a).2.1 ≠ (TX2 b).2.1 := by decide +kernel
theorem tyX2_ok : ∀ k, k < 7 → parseFieldDescriptor (TX2 k).2.2.1 = some (tyX2 k) := by decide +kernel
abbrev cX2_init : ByteArray := prog_4_method_1_code
def yX2_init : MethodName := ⟨RX2, "<init>", "()V"⟩
abbrev cX2_append : ByteArray := prog_4_method_2_code
def yX2_append : MethodName := ⟨RX2, "append", "(C)I"⟩
abbrev cX2_findFault : ByteArray := prog_4_method_3_code
def yX2_findFault : MethodName := ⟨RX2, "findFault", "()I"⟩
abbrev cX2_accepts : ByteArray := prog_4_method_4_code
def yX2_accepts : MethodName := ⟨RX2, "accepts", "(C)Z"⟩
abbrev cX2_endsTime : ByteArray := prog_4_method_5_code
def yX2_endsTime : MethodName := ⟨RX2, "endsTime", "()Z"⟩
abbrev cX2_endsSet : ByteArray := prog_4_method_6_code
def yX2_endsSet : MethodName := ⟨RX2, "endsSet", "()Z"⟩
abbrev cX2_endsCue : ByteArray := prog_4_method_7_code
def yX2_endsCue : MethodName := ⟨RX2, "endsCue", "()Z"⟩
abbrev cX2_isDigitUpTo : ByteArray := prog_4_method_8_code
def yX2_isDigitUpTo : MethodName := ⟨RX2, "isDigitUpTo", "(IC)Z"⟩
abbrev cX2_isLetter : ByteArray := prog_4_method_9_code
def yX2_isLetter : MethodName := ⟨RX2, "isLetter", "(C)Z"⟩
def RX3 : String := "FountainShow$Pumps"
def TX3 : u_T := fun k => match k with
  | 0 => ("FountainShow$Pumps", "settings", "LFountainShow$Settings;", true)
  | 1 => ("FountainShow$Pumps", "flows", "[I", true)
  | 2 => ("FountainShow$Pumps", "demands", "[I", true)
  | _ => ("FountainShow$Pumps", "shortTicks", "[I", true)
def tyX3 : Nat → FieldType := fun k => match k with
  | 0 => .object "FountainShow$Settings"
  | 1 => .array .int
  | 2 => .array .int
  | _ => .array .int
theorem nmX3 : ∀ a, a < 4 → ∀ b, b < 4 → a ≠ b → (TX3 a).2.1 ≠ (TX3 b).2.1 := by decide +kernel
theorem tyX3_ok : ∀ k, k < 4 → parseFieldDescriptor (TX3 k).2.2.1 = some (tyX3 k) := by decide +kernel
abbrev cX3_init : ByteArray := prog_5_method_1_code
def yX3_init : MethodName := ⟨RX3, "<init>", "()V"⟩
abbrev cX3_goBack : ByteArray := prog_5_method_2_code
def yX3_goBack : MethodName := ⟨RX3, "goBack", "()V"⟩
abbrev cX3_copy : ByteArray := prog_5_method_3_code
def yX3_copy : MethodName := ⟨RX3, "copy", "(LFountainShow$Pumps;)V"⟩
abbrev cX3_supply : ByteArray := prog_5_method_4_code
def yX3_supply : MethodName := ⟨RX3, "supply", "(LFountainShow$Nozzles;)V"⟩
abbrev cX3_countShort : ByteArray := prog_5_method_5_code
def yX3_countShort : MethodName := ⟨RX3, "countShort", "()V"⟩
abbrev cX3_isShort : ByteArray := prog_5_method_6_code
def yX3_isShort : MethodName := ⟨RX3, "isShort", "(I)Z"⟩
abbrev cX3_someShort : ByteArray := prog_5_method_7_code
def yX3_someShort : MethodName := ⟨RX3, "someShort", "()Z"⟩
def RX4 : String := "FountainShow$Settings"
def TX4 : u_T := fun k => match k with
  | 0 => ("FountainShow$Settings", "least", "[I", true)
  | 1 => ("FountainShow$Settings", "most", "[I", true)
  | 2 => ("FountainShow$Settings", "initial", "[I", true)
  | 3 => ("FountainShow$Settings", "things", "I", true)
  | _ => ("FountainShow$Settings", "values", "[I", true)
def tyX4 : Nat → FieldType := fun k => match k with
  | 0 => .array .int
  | 1 => .array .int
  | 2 => .array .int
  | 3 => .int
  | _ => .array .int
theorem nmX4 : ∀ a, a < 5 → ∀ b, b < 5 → a ≠ b → (TX4 a).2.1 ≠ (TX4 b).2.1 := by decide +kernel
theorem tyX4_ok : ∀ k, k < 5 → parseFieldDescriptor (TX4 k).2.2.1 = some (tyX4 k) := by decide +kernel
abbrev cX4_init : ByteArray := prog_6_method_1_code
def yX4_init : MethodName := ⟨RX4, "<init>", "(I[I[I[I)V"⟩
abbrev cX4_reset : ByteArray := prog_6_method_2_code
def yX4_reset : MethodName := ⟨RX4, "reset", "()V"⟩
abbrev cX4_value : ByteArray := prog_6_method_3_code
def yX4_value : MethodName := ⟨RX4, "value", "(II)I"⟩
abbrev cX4_change : ByteArray := prog_6_method_4_code
def yX4_change : MethodName := ⟨RX4, "change", "(III)I"⟩
abbrev cX4_copy : ByteArray := prog_6_method_5_code
def yX4_copy : MethodName := ⟨RX4, "copy", "(LFountainShow$Settings;)V"⟩
def RX5 : String := "FountainShow$Show"
def TX5 : u_T := fun k => match k with
  | 0 => ("FountainShow$Show", "settings", "LFountainShow$Settings;", true)
  | 1 => ("FountainShow$Show", "nozzles", "LFountainShow$Nozzles;", true)
  | 2 => ("FountainShow$Show", "pumps", "LFountainShow$Pumps;", true)
  | 3 => ("FountainShow$Show", "weather", "LFountainShow$Weather;", true)
  | 4 => ("FountainShow$Show", "cues", "LFountainShow$Cues;", true)
  | 5 => ("FountainShow$Show", "time", "I", false)
  | _ => ("FountainShow$Show", "wetTicks", "I", false)
def tyX5 : Nat → FieldType := fun k => match k with
  | 0 => .object "FountainShow$Settings"
  | 1 => .object "FountainShow$Nozzles"
  | 2 => .object "FountainShow$Pumps"
  | 3 => .object "FountainShow$Weather"
  | 4 => .object "FountainShow$Cues"
  | 5 => .int
  | _ => .int
theorem nmX5 : ∀ a, a < 7 → ∀ b, b < 7 → a ≠ b → (TX5 a).2.1 ≠ (TX5 b).2.1 := by decide +kernel
theorem tyX5_ok : ∀ k, k < 7 → parseFieldDescriptor (TX5 k).2.2.1 = some (tyX5 k) := by decide +kernel
abbrev cX5_init : ByteArray := prog_7_method_1_code
def yX5_init : MethodName := ⟨RX5, "<init>", "()V"⟩
abbrev cX5_begin : ByteArray := prog_7_method_2_code
def yX5_begin : MethodName := ⟨RX5, "begin", "(I)V"⟩
abbrev cX5_goBack : ByteArray := prog_7_method_3_code
def yX5_goBack : MethodName := ⟨RX5, "goBack", "()V"⟩
abbrev cX5_copy : ByteArray := prog_7_method_4_code
def yX5_copy : MethodName := ⟨RX5, "copy", "(LFountainShow$Show;)V"⟩
abbrev cX5_makeTick : ByteArray := prog_7_method_5_code
def yX5_makeTick : MethodName := ⟨RX5, "makeTick", "()V"⟩
def RX6 : String := "FountainShow$Slot"
def TX6 : u_T := fun k => match k with
  | 0 => ("FountainShow$Slot", "kept", "LFountainShow$Show;", true)
  | _ => ("FountainShow$Slot", "filled", "Z", false)
def tyX6 : Nat → FieldType := fun k => match k with
  | 0 => .object "FountainShow$Show"
  | _ => .boolean
theorem nmX6 : ∀ a, a < 2 → ∀ b, b < 2 → a ≠ b → (TX6 a).2.1 ≠ (TX6 b).2.1 := by decide +kernel
theorem tyX6_ok : ∀ k, k < 2 → parseFieldDescriptor (TX6 k).2.2.1 = some (tyX6 k) := by decide +kernel
abbrev cX6_init : ByteArray := prog_8_method_1_code
def yX6_init : MethodName := ⟨RX6, "<init>", "()V"⟩
def RX7 : String := "FountainShow$Weather"
def TX7 : u_T := fun k => match k with
  | 0 => ("FountainShow$Weather", "wind", "I", false)
  | 1 => ("FountainShow$Weather", "filtered", "I", false)
  | 2 => ("FountainShow$Weather", "stage", "I", false)
  | _ => ("FountainShow$Weather", "calm", "I", false)
def tyX7 : Nat → FieldType := fun k => match k with
  | 0 => .int
  | 1 => .int
  | 2 => .int
  | _ => .int
theorem nmX7 : ∀ a, a < 4 → ∀ b, b < 4 → a ≠ b → (TX7 a).2.1 ≠ (TX7 b).2.1 := by decide +kernel
theorem tyX7_ok : ∀ k, k < 4 → parseFieldDescriptor (TX7 k).2.2.1 = some (tyX7 k) := by decide +kernel
abbrev cX7_init : ByteArray := prog_9_method_1_code
def yX7_init : MethodName := ⟨RX7, "<init>", "()V"⟩
abbrev cX7_measured : ByteArray := prog_9_method_2_code
def yX7_measured : MethodName := ⟨RX7, "measured", "()I"⟩
abbrev cX7_goBack : ByteArray := prog_9_method_3_code
def yX7_goBack : MethodName := ⟨RX7, "goBack", "()V"⟩
abbrev cX7_copy : ByteArray := prog_9_method_4_code
def yX7_copy : MethodName := ⟨RX7, "copy", "(LFountainShow$Weather;)V"⟩
abbrev cX7_blow : ByteArray := prog_9_method_5_code
def yX7_blow : MethodName := ⟨RX7, "blow", "(LFountainShow$Settings;)V"⟩
abbrev cX7_enter : ByteArray := prog_9_method_6_code
def yX7_enter : MethodName := ⟨RX7, "enter", "(I)V"⟩
abbrev cX7_calmDown : ByteArray := prog_9_method_7_code
def yX7_calmDown : MethodName := ⟨RX7, "calmDown", "(I)V"⟩
def RX8 : String := "FountainShow"
def TX8 : u_T := fun k => match k with
  | 0 => ("FountainShow", "show", "LFountainShow$Show;", true)
  | 1 => ("FountainShow", "trial", "LFountainShow$Show;", true)
  | 2 => ("FountainShow", "firstSlot", "LFountainShow$Slot;", true)
  | 3 => ("FountainShow", "secondSlot", "LFountainShow$Slot;", true)
  | _ => ("FountainShow", "pad", "LFountainShow$Pad;", true)
def tyX8 : Nat → FieldType := fun k => match k with
  | 0 => .object "FountainShow$Show"
  | 1 => .object "FountainShow$Show"
  | 2 => .object "FountainShow$Slot"
  | 3 => .object "FountainShow$Slot"
  | _ => .object "FountainShow$Pad"
theorem nmX8 : ∀ a, a < 5 → ∀ b, b < 5 → a ≠ b → (TX8 a).2.1 ≠ (TX8 b).2.1 := by decide +kernel
theorem tyX8_ok : ∀ k, k < 5 → parseFieldDescriptor (TX8 k).2.2.1 = some (tyX8 k) := by decide +kernel
abbrev cX8_init : ByteArray := prog_1_method_1_code
def yX8_init : MethodName := ⟨RX8, "<init>", "()V"⟩
abbrev cX8_setUp : ByteArray := prog_1_method_2_code
def yX8_setUp : MethodName := ⟨RX8, "setUp", "(I)I"⟩
abbrev cX8_nozzle : ByteArray := prog_1_method_3_code
def yX8_nozzle : MethodName := ⟨RX8, "nozzle", "(III)I"⟩
abbrev cX8_pump : ByteArray := prog_1_method_4_code
def yX8_pump : MethodName := ⟨RX8, "pump", "(III)I"⟩
abbrev cX8_set : ByteArray := prog_1_method_5_code
def yX8_set : MethodName := ⟨RX8, "set", "(II)I"⟩
abbrev cX8_wind : ByteArray := prog_1_method_6_code
def yX8_wind : MethodName := ⟨RX8, "wind", "(I)I"⟩
abbrev cX8_cue : ByteArray := prog_1_method_7_code
def yX8_cue : MethodName := ⟨RX8, "cue", "(III)I"⟩
abbrev cX8_remove : ByteArray := prog_1_method_8_code
def yX8_remove : MethodName := ⟨RX8, "remove", "(I)I"⟩
abbrev cX8_move : ByteArray := prog_1_method_9_code
def yX8_move : MethodName := ⟨RX8, "move", "(II)I"⟩
abbrev cX8_part : ByteArray := prog_1_method_10_code
def yX8_part : MethodName := ⟨RX8, "part", "(II)I"⟩
abbrev cX8_command : ByteArray := prog_1_method_11_code
def yX8_command : MethodName := ⟨RX8, "command", "(II)I"⟩
abbrev cX8_tick : ByteArray := prog_1_method_12_code
def yX8_tick : MethodName := ⟨RX8, "tick", "(I)I"⟩
abbrev cX8_rewind : ByteArray := prog_1_method_13_code
def yX8_rewind : MethodName := ⟨RX8, "rewind", "()I"⟩
abbrev cX8_spray : ByteArray := prog_1_method_14_code
def yX8_spray : MethodName := ⟨RX8, "spray", "(II)I"⟩
abbrev cX8_pressure : ByteArray := prog_1_method_15_code
def yX8_pressure : MethodName := ⟨RX8, "pressure", "(II)I"⟩
abbrev cX8_load : ByteArray := prog_1_method_16_code
def yX8_load : MethodName := ⟨RX8, "load", "(I)F"⟩
abbrev cX8_meanHeight : ByteArray := prog_1_method_17_code
def yX8_meanHeight : MethodName := ⟨RX8, "meanHeight", "()D"⟩
abbrev cX8_state : ByteArray := prog_1_method_18_code
def yX8_state : MethodName := ⟨RX8, "state", "(I)I"⟩
abbrev cX8_ahead : ByteArray := prog_1_method_19_code
def yX8_ahead : MethodName := ⟨RX8, "ahead", "(III)I"⟩
abbrev cX8_delay : ByteArray := prog_1_method_20_code
def yX8_delay : MethodName := ⟨RX8, "delay", "(III)I"⟩
abbrev cX8_safeCut : ByteArray := prog_1_method_21_code
def yX8_safeCut : MethodName := ⟨RX8, "safeCut", "(I)I"⟩
abbrev cX8_say : ByteArray := prog_1_method_22_code
def yX8_say : MethodName := ⟨RX8, "say", "(I)I"⟩
abbrev cX8_wipe : ByteArray := prog_1_method_23_code
def yX8_wipe : MethodName := ⟨RX8, "wipe", "()I"⟩
abbrev cX8_fault : ByteArray := prog_1_method_24_code
def yX8_fault : MethodName := ⟨RX8, "fault", "()I"⟩
abbrev cX8_read : ByteArray := prog_1_method_25_code
def yX8_read : MethodName := ⟨RX8, "read", "(I)I"⟩
abbrev cX8_save : ByteArray := prog_1_method_26_code
def yX8_save : MethodName := ⟨RX8, "save", "(I)I"⟩
abbrev cX8_restore : ByteArray := prog_1_method_27_code
def yX8_restore : MethodName := ⟨RX8, "restore", "(I)I"⟩
abbrev cX8_slotAt : ByteArray := prog_1_method_28_code
def yX8_slotAt : MethodName := ⟨RX8, "slotAt", "(I)LFountainShow$Slot;"⟩
abbrev cX8_greatestDemand : ByteArray := prog_1_method_29_code
def yX8_greatestDemand : MethodName := ⟨RX8, "greatestDemand", "(II)I"⟩
abbrev cX8_shortTicks : ByteArray := prog_1_method_30_code
def yX8_shortTicks : MethodName := ⟨RX8, "shortTicks", "(II)I"⟩
abbrev cX8_firstShort : ByteArray := prog_1_method_31_code
def yX8_firstShort : MethodName := ⟨RX8, "firstShort", "(II)I"⟩
abbrev cX8_wetTicks : ByteArray := prog_1_method_32_code
def yX8_wetTicks : MethodName := ⟨RX8, "wetTicks", "(I)I"⟩
abbrev cX8_greatestHeight : ByteArray := prog_1_method_33_code
def yX8_greatestHeight : MethodName := ⟨RX8, "greatestHeight", "(I)I"⟩
abbrev cX8_staysSupplied : ByteArray := prog_1_method_34_code
def yX8_staysSupplied : MethodName := ⟨RX8, "staysSupplied", "(I)Z"⟩
abbrev cX8_staysDry : ByteArray := prog_1_method_35_code
def yX8_staysDry : MethodName := ⟨RX8, "staysDry", "(I)Z"⟩
abbrev cX8_within : ByteArray := prog_1_method_36_code
def yX8_within : MethodName := ⟨RX8, "within", "(III)Z"⟩
abbrev cX8_quotient : ByteArray := prog_1_method_37_code
def yX8_quotient : MethodName := ⟨RX8, "quotient", "(JJ)J"⟩
abbrev cX8_toward : ByteArray := prog_1_method_38_code
def yX8_toward : MethodName := ⟨RX8, "toward", "(III)I"⟩
abbrev cX8_copyRow : ByteArray := prog_1_method_39_code
def yX8_copyRow : MethodName := ⟨RX8, "copyRow", "([I[I)V"⟩
abbrev cX8_clear : ByteArray := prog_1_method_40_code
def yX8_clear : MethodName := ⟨RX8, "clear", "([I)V"⟩
def RX9 : String := "FountainShowModel"
def TX9 : u_T := fun k => match k with
  | 0 => ("FountainShowModel", "at", "[I", true)
  | 1 => ("FountainShowModel", "aside", "[I", true)
  | 2 => ("FountainShowModel", "slots", "[I", true)
  | 3 => ("FountainShowModel", "isSaved", "[Z", true)
  | 4 => ("FountainShowModel", "pad", "[I", true)
  | 5 => ("FountainShowModel", "padMany", "I", false)
  | 6 => ("FountainShowModel", "spot", "I", false)
  | 7 => ("FountainShowModel", "isWrong", "Z", false)
  | 8 => ("FountainShowModel", "read", "[I", true)
  | _ => ("FountainShowModel", "readMany", "I", false)
def tyX9 : Nat → FieldType := fun k => match k with
  | 0 => .array .int
  | 1 => .array .int
  | 2 => .array .int
  | 3 => .array .boolean
  | 4 => .array .int
  | 5 => .int
  | 6 => .int
  | 7 => .boolean
  | 8 => .array .int
  | _ => .int
theorem nmX9 : ∀ a, a < 10 → ∀ b, b < 10 → a ≠ b → (TX9 a).2.1 ≠ (TX9 b).2.1 := by decide +kernel
theorem tyX9_ok : ∀ k, k < 10 → parseFieldDescriptor (TX9 k).2.2.1 = some (tyX9 k) := by decide +kernel
abbrev cX9_init : ByteArray := prog_11_method_1_code
def yX9_init : MethodName := ⟨RX9, "<init>", "()V"⟩
abbrev cX9_in : ByteArray := prog_11_method_2_code
def yX9_in : MethodName := ⟨RX9, "in", "(III)Z"⟩
abbrev cX9_begin : ByteArray := prog_11_method_3_code
def yX9_begin : MethodName := ⟨RX9, "begin", "(I)V"⟩
abbrev cX9_putAside : ByteArray := prog_11_method_4_code
def yX9_putAside : MethodName := ⟨RX9, "putAside", "()V"⟩
abbrev cX9_putBack : ByteArray := prog_11_method_5_code
def yX9_putBack : MethodName := ⟨RX9, "putBack", "()V"⟩
abbrev cX9_isNozzle : ByteArray := prog_11_method_6_code
def yX9_isNozzle : MethodName := ⟨RX9, "isNozzle", "(I)Z"⟩
abbrev cX9_isPump : ByteArray := prog_11_method_7_code
def yX9_isPump : MethodName := ⟨RX9, "isPump", "(I)Z"⟩
abbrev cX9_setUp : ByteArray := prog_11_method_8_code
def yX9_setUp : MethodName := ⟨RX9, "setUp", "(I)I"⟩
abbrev cX9_change : ByteArray := prog_11_method_9_code
def yX9_change : MethodName := ⟨RX9, "change", "(II)I"⟩
abbrev cX9_isOfNozzle : ByteArray := prog_11_method_10_code
def yX9_isOfNozzle : MethodName := ⟨RX9, "isOfNozzle", "(II)Z"⟩
abbrev cX9_nozzle : ByteArray := prog_11_method_11_code
def yX9_nozzle : MethodName := ⟨RX9, "nozzle", "(III)I"⟩
abbrev cX9_pump : ByteArray := prog_11_method_12_code
def yX9_pump : MethodName := ⟨RX9, "pump", "(III)I"⟩
abbrev cX9_isOfShow : ByteArray := prog_11_method_13_code
def yX9_isOfShow : MethodName := ⟨RX9, "isOfShow", "(II)Z"⟩
abbrev cX9_set : ByteArray := prog_11_method_14_code
def yX9_set : MethodName := ⟨RX9, "set", "(II)I"⟩
abbrev cX9_wind : ByteArray := prog_11_method_15_code
def yX9_wind : MethodName := ⟨RX9, "wind", "(I)I"⟩
abbrev cX9_ofCue : ByteArray := prog_11_method_16_code
def yX9_ofCue : MethodName := ⟨RX9, "ofCue", "(II)I"⟩
abbrev cX9_layCue : ByteArray := prog_11_method_17_code
def yX9_layCue : MethodName := ⟨RX9, "layCue", "(IIII)V"⟩
abbrev cX9_insert : ByteArray := prog_11_method_18_code
def yX9_insert : MethodName := ⟨RX9, "insert", "(III)I"⟩
abbrev cX9_takeOut : ByteArray := prog_11_method_19_code
def yX9_takeOut : MethodName := ⟨RX9, "takeOut", "(I)V"⟩
abbrev cX9_isCommand : ByteArray := prog_11_method_20_code
def yX9_isCommand : MethodName := ⟨RX9, "isCommand", "(II)Z"⟩
abbrev cX9_cue : ByteArray := prog_11_method_21_code
def yX9_cue : MethodName := ⟨RX9, "cue", "(III)I"⟩
abbrev cX9_isCue : ByteArray := prog_11_method_22_code
def yX9_isCue : MethodName := ⟨RX9, "isCue", "(I)Z"⟩
abbrev cX9_remove : ByteArray := prog_11_method_23_code
def yX9_remove : MethodName := ⟨RX9, "remove", "(I)I"⟩
abbrev cX9_shift : ByteArray := prog_11_method_24_code
def yX9_shift : MethodName := ⟨RX9, "shift", "(II)I"⟩
abbrev cX9_move : ByteArray := prog_11_method_25_code
def yX9_move : MethodName := ⟨RX9, "move", "(II)I"⟩
abbrev cX9_part : ByteArray := prog_11_method_26_code
def yX9_part : MethodName := ⟨RX9, "part", "(II)I"⟩
abbrev cX9_carryOut : ByteArray := prog_11_method_27_code
def yX9_carryOut : MethodName := ⟨RX9, "carryOut", "(II)V"⟩
abbrev cX9_toward : ByteArray := prog_11_method_28_code
def yX9_toward : MethodName := ⟨RX9, "toward", "(III)I"⟩
abbrev cX9_stepWind : ByteArray := prog_11_method_29_code
def yX9_stepWind : MethodName := ⟨RX9, "stepWind", "()V"⟩
abbrev cX9_goal : ByteArray := prog_11_method_30_code
def yX9_goal : MethodName := ⟨RX9, "goal", "(I)I"⟩
abbrev cX9_stepPump : ByteArray := prog_11_method_31_code
def yX9_stepPump : MethodName := ⟨RX9, "stepPump", "(I)V"⟩
abbrev cX9_stepNozzle : ByteArray := prog_11_method_32_code
def yX9_stepNozzle : MethodName := ⟨RX9, "stepNozzle", "(I)Z"⟩
abbrev cX9_makeTick : ByteArray := prog_11_method_33_code
def yX9_makeTick : MethodName := ⟨RX9, "makeTick", "()V"⟩
abbrev cX9_command : ByteArray := prog_11_method_34_code
def yX9_command : MethodName := ⟨RX9, "command", "(II)I"⟩
abbrev cX9_tick : ByteArray := prog_11_method_35_code
def yX9_tick : MethodName := ⟨RX9, "tick", "(I)I"⟩
abbrev cX9_rewind : ByteArray := prog_11_method_36_code
def yX9_rewind : MethodName := ⟨RX9, "rewind", "()I"⟩
abbrev cX9_spray : ByteArray := prog_11_method_37_code
def yX9_spray : MethodName := ⟨RX9, "spray", "(II)I"⟩
abbrev cX9_pressure : ByteArray := prog_11_method_38_code
def yX9_pressure : MethodName := ⟨RX9, "pressure", "(II)I"⟩
abbrev cX9_load : ByteArray := prog_11_method_39_code
def yX9_load : MethodName := ⟨RX9, "load", "(I)F"⟩
abbrev cX9_meanHeight : ByteArray := prog_11_method_40_code
def yX9_meanHeight : MethodName := ⟨RX9, "meanHeight", "()D"⟩
abbrev cX9_nextCue : ByteArray := prog_11_method_41_code
def yX9_nextCue : MethodName := ⟨RX9, "nextCue", "()I"⟩
abbrev cX9_state : ByteArray := prog_11_method_42_code
def yX9_state : MethodName := ⟨RX9, "state", "(I)I"⟩
abbrev cX9_greatestNow : ByteArray := prog_11_method_43_code
def yX9_greatestNow : MethodName := ⟨RX9, "greatestNow", "()I"⟩
abbrev cX9_ahead : ByteArray := prog_11_method_44_code
def yX9_ahead : MethodName := ⟨RX9, "ahead", "(III)I"⟩
abbrev cX9_shorts : ByteArray := prog_11_method_45_code
def yX9_shorts : MethodName := ⟨RX9, "shorts", "()I"⟩
abbrev cX9_isEnough : ByteArray := prog_11_method_46_code
def yX9_isEnough : MethodName := ⟨RX9, "isEnough", "(I)Z"⟩
abbrev cX9_delay : ByteArray := prog_11_method_47_code
def yX9_delay : MethodName := ⟨RX9, "delay", "(III)I"⟩
abbrev cX9_staysDry : ByteArray := prog_11_method_48_code
def yX9_staysDry : MethodName := ⟨RX9, "staysDry", "(I)Z"⟩
abbrev cX9_safeCut : ByteArray := prog_11_method_49_code
def yX9_safeCut : MethodName := ⟨RX9, "safeCut", "(I)I"⟩
abbrev cX9_say : ByteArray := prog_11_method_50_code
def yX9_say : MethodName := ⟨RX9, "say", "(I)I"⟩
abbrev cX9_wipe : ByteArray := prog_11_method_51_code
def yX9_wipe : MethodName := ⟨RX9, "wipe", "()I"⟩
abbrev cX9_next : ByteArray := prog_11_method_52_code
def yX9_next : MethodName := ⟨RX9, "next", "()I"⟩
abbrev cX9_takeNumber : ByteArray := prog_11_method_53_code
def yX9_takeNumber : MethodName := ⟨RX9, "takeNumber", "(I)I"⟩
abbrev cX9_need : ByteArray := prog_11_method_54_code
def yX9_need : MethodName := ⟨RX9, "need", "(I)V"⟩
abbrev cX9_takeSet : ByteArray := prog_11_method_55_code
def yX9_takeSet : MethodName := ⟨RX9, "takeSet", "()I"⟩
abbrev cX9_takeCue : ByteArray := prog_11_method_56_code
def yX9_takeCue : MethodName := ⟨RX9, "takeCue", "()V"⟩
abbrev cX9_fault : ByteArray := prog_11_method_57_code
def yX9_fault : MethodName := ⟨RX9, "fault", "()I"⟩
abbrev cX9_read : ByteArray := prog_11_method_58_code
def yX9_read : MethodName := ⟨RX9, "read", "(I)I"⟩
abbrev cX9_save : ByteArray := prog_11_method_59_code
def yX9_save : MethodName := ⟨RX9, "save", "(I)I"⟩
abbrev cX9_restore : ByteArray := prog_11_method_60_code
def yX9_restore : MethodName := ⟨RX9, "restore", "(I)I"⟩
def RJ9 : String := "java/lang/Math"
def TJ9 : u_T := fun k => match k with
  | _ => ("", "", "", false)
abbrev cJ9_floorDiv_f86c9 : ByteArray := prog_12_method_49_code
def yJ9_floorDiv_f86c9 : MethodName := ⟨RJ9, "floorDiv", "(JJ)J"⟩
abbrev cJ9_floorMod_7cf53 : ByteArray := prog_12_method_50_code
def yJ9_floorMod_7cf53 : MethodName := ⟨RJ9, "floorMod", "(II)I"⟩
abbrev cJ9_max_7cf53 : ByteArray := prog_12_method_65_code
def yJ9_max_7cf53 : MethodName := ⟨RJ9, "max", "(II)I"⟩
abbrev cJ9_min_7cf53 : ByteArray := prog_12_method_69_code
def yJ9_min_7cf53 : MethodName := ⟨RJ9, "min", "(II)I"⟩
def RJ10 : String := "java/lang/System"
def TJ10 : u_T := fun k => match k with
  | _ => ("", "", "", false)
def RL : String := "FountainShowLaw"
abbrev cL_law : ByteArray := code
def yL_law : MethodName := ⟨RL, "law", "([I)Z"⟩
abbrev vwCl : List vw_C := [(RX0, TX0, 4), (RX1, TX1, 10), (RX2, TX2, 7), (RX3, TX3, 4), (RX4, TX4, 5), (RX5, TX5, 7), (RX6, TX6, 2), (RX7, TX7, 4), (RX8, TX8, 5), (RX9, TX9, 10)]
end
section
theorem dX0_init_0 : decode cX0_init 0 = .ok (.aload_n 0, 1) := by decide +kernel
theorem dX0_init_1 : decode cX0_init 1 = .ok (.invokespecial 3, 3) := by decide +kernel
theorem dX0_init_4 : decode cX0_init 4 = .ok (.aload_n 0, 1) := by decide +kernel
theorem dX0_init_5 : decode cX0_init 5 = .ok (.bipush 60, 2) := by decide +kernel
theorem dX0_init_7 : decode cX0_init 7 = .ok (.newarray .int, 2) := by decide +kernel
theorem dX0_init_9 : decode cX0_init 9 = .ok (.putfield 9, 3) := by decide +kernel
theorem dX0_init_12 : decode cX0_init 12 = .ok (.aload_n 0, 1) := by decide +kernel
theorem dX0_init_13 : decode cX0_init 13 = .ok (.bipush 60, 2) := by decide +kernel
theorem dX0_init_15 : decode cX0_init 15 = .ok (.newarray .int, 2) := by decide +kernel
theorem dX0_init_17 : decode cX0_init 17 = .ok (.putfield 15, 3) := by decide +kernel
theorem dX0_init_20 : decode cX0_init 20 = .ok (.aload_n 0, 1) := by decide +kernel
theorem dX0_init_21 : decode cX0_init 21 = .ok (.bipush 60, 2) := by decide +kernel
theorem dX0_init_23 : decode cX0_init 23 = .ok (.newarray .int, 2) := by decide +kernel
theorem dX0_init_25 : decode cX0_init 25 = .ok (.putfield 18, 3) := by decide +kernel
theorem dX0_init_28 : decode cX0_init 28 = .ok (.aload_n 0, 1) := by decide +kernel
theorem dX0_init_29 : decode cX0_init 29 = .ok (.iconst 0, 1) := by decide +kernel
theorem dX0_init_30 : decode cX0_init 30 = .ok (.putfield 21, 3) := by decide +kernel
theorem dX0_init_33 : decode cX0_init 33 = .ok (.return_, 1) := by decide +kernel
theorem dX0_has_0 : decode cX0_has 0 = .ok (.iload_n 1, 1) := by decide +kernel
theorem dX0_has_1 : decode cX0_has 1 = .ok (.iconst 0, 1) := by decide +kernel
theorem dX0_has_2 : decode cX0_has 2 = .ok (.aload_n 0, 1) := by decide +kernel
theorem dX0_has_3 : decode cX0_has 3 = .ok (.getfield 21, 3) := by decide +kernel
theorem dX0_has_6 : decode cX0_has 6 = .ok (.iconst 1, 1) := by decide +kernel
theorem dX0_has_7 : decode cX0_has 7 = .ok (.isub, 1) := by decide +kernel
theorem dX0_has_8 : decode cX0_has 8 = .ok (.invokestatic 25, 3) := by decide +kernel
theorem dX0_has_11 : decode cX0_has 11 = .ok (.ireturn, 1) := by decide +kernel
theorem dX0_copy_0 : decode cX0_copy 0 = .ok (.aload_n 0, 1) := by decide +kernel
theorem dX0_copy_1 : decode cX0_copy 1 = .ok (.aload_n 1, 1) := by decide +kernel
theorem dX0_copy_2 : decode cX0_copy 2 = .ok (.getfield 21, 3) := by decide +kernel
theorem dX0_copy_5 : decode cX0_copy 5 = .ok (.putfield 21, 3) := by decide +kernel
theorem dX0_copy_8 : decode cX0_copy 8 = .ok (.aload_n 1, 1) := by decide +kernel
theorem dX0_copy_9 : decode cX0_copy 9 = .ok (.getfield 9, 3) := by decide +kernel
theorem dX0_copy_12 : decode cX0_copy 12 = .ok (.aload_n 0, 1) := by decide +kernel
theorem dX0_copy_13 : decode cX0_copy 13 = .ok (.getfield 9, 3) := by decide +kernel
theorem dX0_copy_16 : decode cX0_copy 16 = .ok (.invokestatic 29, 3) := by decide +kernel
theorem dX0_copy_19 : decode cX0_copy 19 = .ok (.aload_n 1, 1) := by decide +kernel
theorem dX0_copy_20 : decode cX0_copy 20 = .ok (.getfield 15, 3) := by decide +kernel
theorem dX0_copy_23 : decode cX0_copy 23 = .ok (.aload_n 0, 1) := by decide +kernel
theorem dX0_copy_24 : decode cX0_copy 24 = .ok (.getfield 15, 3) := by decide +kernel
theorem dX0_copy_27 : decode cX0_copy 27 = .ok (.invokestatic 29, 3) := by decide +kernel
theorem dX0_copy_30 : decode cX0_copy 30 = .ok (.aload_n 1, 1) := by decide +kernel
theorem dX0_copy_31 : decode cX0_copy 31 = .ok (.getfield 18, 3) := by decide +kernel
theorem dX0_copy_34 : decode cX0_copy 34 = .ok (.aload_n 0, 1) := by decide +kernel
theorem dX0_copy_35 : decode cX0_copy 35 = .ok (.getfield 18, 3) := by decide +kernel
theorem dX0_copy_38 : decode cX0_copy 38 = .ok (.invokestatic 29, 3) := by decide +kernel
theorem dX0_copy_41 : decode cX0_copy 41 = .ok (.return_, 1) := by decide +kernel
theorem dX0_insert_0 : decode cX0_insert 0 = .ok (.aload_n 0, 1) := by decide +kernel
theorem dX0_insert_1 : decode cX0_insert 1 = .ok (.getfield 21, 3) := by decide +kernel
theorem dX0_insert_4 : decode cX0_insert 4 = .ok (.bipush 60, 2) := by decide +kernel
theorem dX0_insert_6 : decode cX0_insert 6 = .ok (.if_icmp .lt 6, 3) := by decide +kernel
theorem dX0_insert_9 : decode cX0_insert 9 = .ok (.bipush (-4), 2) := by decide +kernel
theorem dX0_insert_11 : decode cX0_insert 11 = .ok (.ireturn, 1) := by decide +kernel
theorem dX0_insert_12 : decode cX0_insert 12 = .ok (.aload_n 0, 1) := by decide +kernel
theorem dX0_insert_13 : decode cX0_insert 13 = .ok (.iload_n 1, 1) := by decide +kernel
theorem dX0_insert_14 : decode cX0_insert 14 = .ok (.iconst 1, 1) := by decide +kernel
theorem dX0_insert_15 : decode cX0_insert 15 = .ok (.iadd, 1) := by decide +kernel
theorem dX0_insert_16 : decode cX0_insert 16 = .ok (.invokevirtual 33, 3) := by decide +kernel
theorem dX0_insert_19 : decode cX0_insert 19 = .ok (.istore 4, 2) := by decide +kernel
theorem dX0_insert_21 : decode cX0_insert 21 = .ok (.iload 4, 2) := by decide +kernel
theorem dX0_insert_23 : decode cX0_insert 23 = .ok (.bipush (-6), 2) := by decide +kernel
theorem dX0_insert_25 : decode cX0_insert 25 = .ok (.if_icmp .ne 9, 3) := by decide +kernel
theorem dX0_insert_28 : decode cX0_insert 28 = .ok (.aload_n 0, 1) := by decide +kernel
theorem dX0_insert_29 : decode cX0_insert 29 = .ok (.getfield 21, 3) := by decide +kernel
theorem dX0_insert_32 : decode cX0_insert 32 = .ok (.istore 4, 2) := by decide +kernel
theorem dX0_insert_34 : decode cX0_insert 34 = .ok (.aload_n 0, 1) := by decide +kernel
theorem dX0_insert_35 : decode cX0_insert 35 = .ok (.iload 4, 2) := by decide +kernel
theorem dX0_insert_37 : decode cX0_insert 37 = .ok (.iload 4, 2) := by decide +kernel
theorem dX0_insert_39 : decode cX0_insert 39 = .ok (.iconst 1, 1) := by decide +kernel
theorem dX0_insert_40 : decode cX0_insert 40 = .ok (.iadd, 1) := by decide +kernel
theorem dX0_insert_41 : decode cX0_insert 41 = .ok (.aload_n 0, 1) := by decide +kernel
theorem dX0_insert_42 : decode cX0_insert 42 = .ok (.getfield 21, 3) := by decide +kernel
theorem dX0_insert_45 : decode cX0_insert 45 = .ok (.iload 4, 2) := by decide +kernel
theorem dX0_insert_47 : decode cX0_insert 47 = .ok (.isub, 1) := by decide +kernel
theorem dX0_insert_48 : decode cX0_insert 48 = .ok (.invokevirtual 37, 3) := by decide +kernel
theorem dX0_insert_51 : decode cX0_insert 51 = .ok (.aload_n 0, 1) := by decide +kernel
theorem dX0_insert_52 : decode cX0_insert 52 = .ok (.getfield 9, 3) := by decide +kernel
theorem dX0_insert_55 : decode cX0_insert 55 = .ok (.iload 4, 2) := by decide +kernel
theorem dX0_insert_57 : decode cX0_insert 57 = .ok (.iload_n 1, 1) := by decide +kernel
theorem dX0_insert_58 : decode cX0_insert 58 = .ok (.iastore, 1) := by decide +kernel
theorem dX0_insert_59 : decode cX0_insert 59 = .ok (.aload_n 0, 1) := by decide +kernel
theorem dX0_insert_60 : decode cX0_insert 60 = .ok (.getfield 15, 3) := by decide +kernel
theorem dX0_insert_63 : decode cX0_insert 63 = .ok (.iload 4, 2) := by decide +kernel
theorem dX0_insert_65 : decode cX0_insert 65 = .ok (.iload_n 2, 1) := by decide +kernel
theorem dX0_insert_66 : decode cX0_insert 66 = .ok (.iastore, 1) := by decide +kernel
theorem dX0_insert_67 : decode cX0_insert 67 = .ok (.aload_n 0, 1) := by decide +kernel
theorem dX0_insert_68 : decode cX0_insert 68 = .ok (.getfield 18, 3) := by decide +kernel
theorem dX0_insert_71 : decode cX0_insert 71 = .ok (.iload 4, 2) := by decide +kernel
theorem dX0_insert_73 : decode cX0_insert 73 = .ok (.iload_n 3, 1) := by decide +kernel
theorem dX0_insert_74 : decode cX0_insert 74 = .ok (.iastore, 1) := by decide +kernel
theorem dX0_insert_75 : decode cX0_insert 75 = .ok (.aload_n 0, 1) := by decide +kernel
theorem dX0_insert_76 : decode cX0_insert 76 = .ok (.dup, 1) := by decide +kernel
theorem dX0_insert_77 : decode cX0_insert 77 = .ok (.getfield 21, 3) := by decide +kernel
theorem dX0_insert_80 : decode cX0_insert 80 = .ok (.iconst 1, 1) := by decide +kernel
theorem dX0_insert_81 : decode cX0_insert 81 = .ok (.iadd, 1) := by decide +kernel
theorem dX0_insert_82 : decode cX0_insert 82 = .ok (.putfield 21, 3) := by decide +kernel
theorem dX0_insert_85 : decode cX0_insert 85 = .ok (.iload 4, 2) := by decide +kernel
theorem dX0_insert_87 : decode cX0_insert 87 = .ok (.ireturn, 1) := by decide +kernel
theorem dX0_takeOut_0 : decode cX0_takeOut 0 = .ok (.aload_n 0, 1) := by decide +kernel
theorem dX0_takeOut_1 : decode cX0_takeOut 1 = .ok (.iload_n 1, 1) := by decide +kernel
theorem dX0_takeOut_2 : decode cX0_takeOut 2 = .ok (.iconst 1, 1) := by decide +kernel
theorem dX0_takeOut_3 : decode cX0_takeOut 3 = .ok (.iadd, 1) := by decide +kernel
theorem dX0_takeOut_4 : decode cX0_takeOut 4 = .ok (.iload_n 1, 1) := by decide +kernel
theorem dX0_takeOut_5 : decode cX0_takeOut 5 = .ok (.aload_n 0, 1) := by decide +kernel
theorem dX0_takeOut_6 : decode cX0_takeOut 6 = .ok (.getfield 21, 3) := by decide +kernel
theorem dX0_takeOut_9 : decode cX0_takeOut 9 = .ok (.iload_n 1, 1) := by decide +kernel
theorem dX0_takeOut_10 : decode cX0_takeOut 10 = .ok (.isub, 1) := by decide +kernel
theorem dX0_takeOut_11 : decode cX0_takeOut 11 = .ok (.iconst 1, 1) := by decide +kernel
theorem dX0_takeOut_12 : decode cX0_takeOut 12 = .ok (.isub, 1) := by decide +kernel
theorem dX0_takeOut_13 : decode cX0_takeOut 13 = .ok (.invokevirtual 37, 3) := by decide +kernel
theorem dX0_takeOut_16 : decode cX0_takeOut 16 = .ok (.aload_n 0, 1) := by decide +kernel
theorem dX0_takeOut_17 : decode cX0_takeOut 17 = .ok (.dup, 1) := by decide +kernel
theorem dX0_takeOut_18 : decode cX0_takeOut 18 = .ok (.getfield 21, 3) := by decide +kernel
theorem dX0_takeOut_21 : decode cX0_takeOut 21 = .ok (.iconst 1, 1) := by decide +kernel
theorem dX0_takeOut_22 : decode cX0_takeOut 22 = .ok (.isub, 1) := by decide +kernel
theorem dX0_takeOut_23 : decode cX0_takeOut 23 = .ok (.putfield 21, 3) := by decide +kernel
theorem dX0_takeOut_26 : decode cX0_takeOut 26 = .ok (.return_, 1) := by decide +kernel
theorem dX0_postpone_0 : decode cX0_postpone 0 = .ok (.aload_n 0, 1) := by decide +kernel
theorem dX0_postpone_1 : decode cX0_postpone 1 = .ok (.getfield 9, 3) := by decide +kernel
theorem dX0_postpone_4 : decode cX0_postpone 4 = .ok (.iload_n 1, 1) := by decide +kernel
theorem dX0_postpone_5 : decode cX0_postpone 5 = .ok (.iaload, 1) := by decide +kernel
theorem dX0_postpone_6 : decode cX0_postpone 6 = .ok (.iload_n 2, 1) := by decide +kernel
theorem dX0_postpone_7 : decode cX0_postpone 7 = .ok (.iadd, 1) := by decide +kernel
theorem dX0_postpone_8 : decode cX0_postpone 8 = .ok (.istore_n 3, 1) := by decide +kernel
theorem dX0_postpone_9 : decode cX0_postpone 9 = .ok (.aload_n 0, 1) := by decide +kernel
theorem dX0_postpone_10 : decode cX0_postpone 10 = .ok (.getfield 15, 3) := by decide +kernel
theorem dX0_postpone_13 : decode cX0_postpone 13 = .ok (.iload_n 1, 1) := by decide +kernel
theorem dX0_postpone_14 : decode cX0_postpone 14 = .ok (.iaload, 1) := by decide +kernel
theorem dX0_postpone_15 : decode cX0_postpone 15 = .ok (.istore 4, 2) := by decide +kernel
theorem dX0_postpone_17 : decode cX0_postpone 17 = .ok (.aload_n 0, 1) := by decide +kernel
theorem dX0_postpone_18 : decode cX0_postpone 18 = .ok (.getfield 18, 3) := by decide +kernel
theorem dX0_postpone_21 : decode cX0_postpone 21 = .ok (.iload_n 1, 1) := by decide +kernel
theorem dX0_postpone_22 : decode cX0_postpone 22 = .ok (.iaload, 1) := by decide +kernel
theorem dX0_postpone_23 : decode cX0_postpone 23 = .ok (.istore 5, 2) := by decide +kernel
theorem dX0_postpone_25 : decode cX0_postpone 25 = .ok (.aload_n 0, 1) := by decide +kernel
theorem dX0_postpone_26 : decode cX0_postpone 26 = .ok (.iload_n 1, 1) := by decide +kernel
theorem dX0_postpone_27 : decode cX0_postpone 27 = .ok (.invokevirtual 41, 3) := by decide +kernel
theorem dX0_postpone_30 : decode cX0_postpone 30 = .ok (.aload_n 0, 1) := by decide +kernel
theorem dX0_postpone_31 : decode cX0_postpone 31 = .ok (.iload_n 3, 1) := by decide +kernel
theorem dX0_postpone_32 : decode cX0_postpone 32 = .ok (.iload 4, 2) := by decide +kernel
theorem dX0_postpone_34 : decode cX0_postpone 34 = .ok (.iload 5, 2) := by decide +kernel
theorem dX0_postpone_36 : decode cX0_postpone 36 = .ok (.invokevirtual 45, 3) := by decide +kernel
theorem dX0_postpone_39 : decode cX0_postpone 39 = .ok (.ireturn, 1) := by decide +kernel
theorem dX0_next_0 : decode cX0_next 0 = .ok (.iconst 0, 1) := by decide +kernel
theorem dX0_next_1 : decode cX0_next 1 = .ok (.istore_n 2, 1) := by decide +kernel
theorem dX0_next_2 : decode cX0_next 2 = .ok (.iload_n 2, 1) := by decide +kernel
theorem dX0_next_3 : decode cX0_next 3 = .ok (.aload_n 0, 1) := by decide +kernel
theorem dX0_next_4 : decode cX0_next 4 = .ok (.getfield 21, 3) := by decide +kernel
theorem dX0_next_7 : decode cX0_next 7 = .ok (.if_icmp .ge 21, 3) := by decide +kernel
theorem dX0_next_10 : decode cX0_next 10 = .ok (.aload_n 0, 1) := by decide +kernel
theorem dX0_next_11 : decode cX0_next 11 = .ok (.getfield 9, 3) := by decide +kernel
theorem dX0_next_14 : decode cX0_next 14 = .ok (.iload_n 2, 1) := by decide +kernel
theorem dX0_next_15 : decode cX0_next 15 = .ok (.iaload, 1) := by decide +kernel
theorem dX0_next_16 : decode cX0_next 16 = .ok (.iload_n 1, 1) := by decide +kernel
theorem dX0_next_17 : decode cX0_next 17 = .ok (.if_icmp .lt 5, 3) := by decide +kernel
theorem dX0_next_20 : decode cX0_next 20 = .ok (.iload_n 2, 1) := by decide +kernel
theorem dX0_next_21 : decode cX0_next 21 = .ok (.ireturn, 1) := by decide +kernel
theorem dX0_next_22 : decode cX0_next 22 = .ok (.iinc 2 1, 3) := by decide +kernel
theorem dX0_next_25 : decode cX0_next 25 = .ok (.goto (-23), 3) := by decide +kernel
theorem dX0_next_28 : decode cX0_next 28 = .ok (.bipush (-6), 2) := by decide +kernel
theorem dX0_next_30 : decode cX0_next 30 = .ok (.ireturn, 1) := by decide +kernel
theorem dX0_carryOut_0 : decode cX0_carryOut 0 = .ok (.iconst 0, 1) := by decide +kernel
theorem dX0_carryOut_1 : decode cX0_carryOut 1 = .ok (.istore_n 3, 1) := by decide +kernel
theorem dX0_carryOut_2 : decode cX0_carryOut 2 = .ok (.iload_n 3, 1) := by decide +kernel
theorem dX0_carryOut_3 : decode cX0_carryOut 3 = .ok (.aload_n 0, 1) := by decide +kernel
theorem dX0_carryOut_4 : decode cX0_carryOut 4 = .ok (.getfield 21, 3) := by decide +kernel
theorem dX0_carryOut_7 : decode cX0_carryOut 7 = .ok (.if_icmp .ge 45, 3) := by decide +kernel
theorem dX0_carryOut_10 : decode cX0_carryOut 10 = .ok (.aload_n 0, 1) := by decide +kernel
theorem dX0_carryOut_11 : decode cX0_carryOut 11 = .ok (.getfield 9, 3) := by decide +kernel
theorem dX0_carryOut_14 : decode cX0_carryOut 14 = .ok (.iload_n 3, 1) := by decide +kernel
theorem dX0_carryOut_15 : decode cX0_carryOut 15 = .ok (.iaload, 1) := by decide +kernel
theorem dX0_carryOut_16 : decode cX0_carryOut 16 = .ok (.iload_n 1, 1) := by decide +kernel
theorem dX0_carryOut_17 : decode cX0_carryOut 17 = .ok (.if_icmp .gt 35, 3) := by decide +kernel
theorem dX0_carryOut_20 : decode cX0_carryOut 20 = .ok (.aload_n 0, 1) := by decide +kernel
theorem dX0_carryOut_21 : decode cX0_carryOut 21 = .ok (.getfield 9, 3) := by decide +kernel
theorem dX0_carryOut_24 : decode cX0_carryOut 24 = .ok (.iload_n 3, 1) := by decide +kernel
theorem dX0_carryOut_25 : decode cX0_carryOut 25 = .ok (.iaload, 1) := by decide +kernel
theorem dX0_carryOut_26 : decode cX0_carryOut 26 = .ok (.iload_n 1, 1) := by decide +kernel
theorem dX0_carryOut_27 : decode cX0_carryOut 27 = .ok (.if_icmp .ne 19, 3) := by decide +kernel
theorem dX0_carryOut_30 : decode cX0_carryOut 30 = .ok (.aload_n 2, 1) := by decide +kernel
theorem dX0_carryOut_31 : decode cX0_carryOut 31 = .ok (.aload_n 0, 1) := by decide +kernel
theorem dX0_carryOut_32 : decode cX0_carryOut 32 = .ok (.getfield 15, 3) := by decide +kernel
theorem dX0_carryOut_35 : decode cX0_carryOut 35 = .ok (.iload_n 3, 1) := by decide +kernel
theorem dX0_carryOut_36 : decode cX0_carryOut 36 = .ok (.iaload, 1) := by decide +kernel
theorem dX0_carryOut_37 : decode cX0_carryOut 37 = .ok (.aload_n 0, 1) := by decide +kernel
theorem dX0_carryOut_38 : decode cX0_carryOut 38 = .ok (.getfield 18, 3) := by decide +kernel
theorem dX0_carryOut_41 : decode cX0_carryOut 41 = .ok (.iload_n 3, 1) := by decide +kernel
theorem dX0_carryOut_42 : decode cX0_carryOut 42 = .ok (.iaload, 1) := by decide +kernel
theorem dX0_carryOut_43 : decode cX0_carryOut 43 = .ok (.invokevirtual 49, 3) := by decide +kernel
theorem dX0_carryOut_46 : decode cX0_carryOut 46 = .ok (.iinc 3 1, 3) := by decide +kernel
theorem dX0_carryOut_49 : decode cX0_carryOut 49 = .ok (.goto (-47), 3) := by decide +kernel
theorem dX0_carryOut_52 : decode cX0_carryOut 52 = .ok (.return_, 1) := by decide +kernel
theorem dX0_shift_0 : decode cX0_shift 0 = .ok (.aload_n 0, 1) := by decide +kernel
theorem dX0_shift_1 : decode cX0_shift 1 = .ok (.getfield 9, 3) := by decide +kernel
theorem dX0_shift_4 : decode cX0_shift 4 = .ok (.iload_n 1, 1) := by decide +kernel
theorem dX0_shift_5 : decode cX0_shift 5 = .ok (.aload_n 0, 1) := by decide +kernel
theorem dX0_shift_6 : decode cX0_shift 6 = .ok (.getfield 9, 3) := by decide +kernel
theorem dX0_shift_9 : decode cX0_shift 9 = .ok (.iload_n 2, 1) := by decide +kernel
theorem dX0_shift_10 : decode cX0_shift 10 = .ok (.iload_n 3, 1) := by decide +kernel
theorem dX0_shift_11 : decode cX0_shift 11 = .ok (.invokestatic 55, 3) := by decide +kernel
theorem dX0_shift_14 : decode cX0_shift 14 = .ok (.aload_n 0, 1) := by decide +kernel
theorem dX0_shift_15 : decode cX0_shift 15 = .ok (.getfield 15, 3) := by decide +kernel
theorem dX0_shift_18 : decode cX0_shift 18 = .ok (.iload_n 1, 1) := by decide +kernel
theorem dX0_shift_19 : decode cX0_shift 19 = .ok (.aload_n 0, 1) := by decide +kernel
theorem dX0_shift_20 : decode cX0_shift 20 = .ok (.getfield 15, 3) := by decide +kernel
theorem dX0_shift_23 : decode cX0_shift 23 = .ok (.iload_n 2, 1) := by decide +kernel
theorem dX0_shift_24 : decode cX0_shift 24 = .ok (.iload_n 3, 1) := by decide +kernel
theorem dX0_shift_25 : decode cX0_shift 25 = .ok (.invokestatic 55, 3) := by decide +kernel
theorem dX0_shift_28 : decode cX0_shift 28 = .ok (.aload_n 0, 1) := by decide +kernel
theorem dX0_shift_29 : decode cX0_shift 29 = .ok (.getfield 18, 3) := by decide +kernel
theorem dX0_shift_32 : decode cX0_shift 32 = .ok (.iload_n 1, 1) := by decide +kernel
theorem dX0_shift_33 : decode cX0_shift 33 = .ok (.aload_n 0, 1) := by decide +kernel
theorem dX0_shift_34 : decode cX0_shift 34 = .ok (.getfield 18, 3) := by decide +kernel
theorem dX0_shift_37 : decode cX0_shift 37 = .ok (.iload_n 2, 1) := by decide +kernel
theorem dX0_shift_38 : decode cX0_shift 38 = .ok (.iload_n 3, 1) := by decide +kernel
theorem dX0_shift_39 : decode cX0_shift 39 = .ok (.invokestatic 55, 3) := by decide +kernel
theorem dX0_shift_42 : decode cX0_shift 42 = .ok (.return_, 1) := by decide +kernel
theorem dX1_init_0 : decode cX1_init 0 = .ok (.aload_n 0, 1) := by decide +kernel
theorem dX1_init_1 : decode cX1_init 1 = .ok (.invokespecial 3, 3) := by decide +kernel
theorem dX1_init_4 : decode cX1_init 4 = .ok (.aload_n 0, 1) := by decide +kernel
theorem dX1_init_5 : decode cX1_init 5 = .ok (.new 9, 3) := by decide +kernel
theorem dX1_init_8 : decode cX1_init 8 = .ok (.dup, 1) := by decide +kernel
theorem dX1_init_9 : decode cX1_init 9 = .ok (.bipush 12, 2) := by decide +kernel
theorem dX1_init_11 : decode cX1_init 11 = .ok (.getstatic 11, 3) := by decide +kernel
theorem dX1_init_14 : decode cX1_init 14 = .ok (.getstatic 15, 3) := by decide +kernel
theorem dX1_init_17 : decode cX1_init 17 = .ok (.getstatic 18, 3) := by decide +kernel
theorem dX1_init_20 : decode cX1_init 20 = .ok (.invokespecial 21, 3) := by decide +kernel
theorem dX1_init_23 : decode cX1_init 23 = .ok (.putfield 24, 3) := by decide +kernel
theorem dX1_init_26 : decode cX1_init 26 = .ok (.aload_n 0, 1) := by decide +kernel
theorem dX1_init_27 : decode cX1_init 27 = .ok (.bipush 12, 2) := by decide +kernel
theorem dX1_init_29 : decode cX1_init 29 = .ok (.newarray .int, 2) := by decide +kernel
theorem dX1_init_31 : decode cX1_init 31 = .ok (.putfield 30, 3) := by decide +kernel
theorem dX1_init_34 : decode cX1_init 34 = .ok (.aload_n 0, 1) := by decide +kernel
theorem dX1_init_35 : decode cX1_init 35 = .ok (.bipush 12, 2) := by decide +kernel
theorem dX1_init_37 : decode cX1_init 37 = .ok (.newarray .int, 2) := by decide +kernel
theorem dX1_init_39 : decode cX1_init 39 = .ok (.putfield 33, 3) := by decide +kernel
theorem dX1_init_42 : decode cX1_init 42 = .ok (.aload_n 0, 1) := by decide +kernel
theorem dX1_init_43 : decode cX1_init 43 = .ok (.bipush 12, 2) := by decide +kernel
theorem dX1_init_45 : decode cX1_init 45 = .ok (.newarray .int, 2) := by decide +kernel
theorem dX1_init_47 : decode cX1_init 47 = .ok (.putfield 36, 3) := by decide +kernel
theorem dX1_init_50 : decode cX1_init 50 = .ok (.aload_n 0, 1) := by decide +kernel
theorem dX1_init_51 : decode cX1_init 51 = .ok (.bipush 12, 2) := by decide +kernel
theorem dX1_init_53 : decode cX1_init 53 = .ok (.newarray .int, 2) := by decide +kernel
theorem dX1_init_55 : decode cX1_init 55 = .ok (.putfield 39, 3) := by decide +kernel
theorem dX1_init_58 : decode cX1_init 58 = .ok (.aload_n 0, 1) := by decide +kernel
theorem dX1_init_59 : decode cX1_init 59 = .ok (.bipush 12, 2) := by decide +kernel
theorem dX1_init_61 : decode cX1_init 61 = .ok (.newarray .int, 2) := by decide +kernel
theorem dX1_init_63 : decode cX1_init 63 = .ok (.putfield 42, 3) := by decide +kernel
theorem dX1_init_66 : decode cX1_init 66 = .ok (.aload_n 0, 1) := by decide +kernel
theorem dX1_init_67 : decode cX1_init 67 = .ok (.bipush 12, 2) := by decide +kernel
theorem dX1_init_69 : decode cX1_init 69 = .ok (.newarray .int, 2) := by decide +kernel
theorem dX1_init_71 : decode cX1_init 71 = .ok (.putfield 45, 3) := by decide +kernel
theorem dX1_init_74 : decode cX1_init 74 = .ok (.aload_n 0, 1) := by decide +kernel
theorem dX1_init_75 : decode cX1_init 75 = .ok (.sipush 612, 3) := by decide +kernel
theorem dX1_init_78 : decode cX1_init 78 = .ok (.newarray .int, 2) := by decide +kernel
theorem dX1_init_80 : decode cX1_init 80 = .ok (.putfield 48, 3) := by decide +kernel
theorem dX1_init_83 : decode cX1_init 83 = .ok (.aload_n 0, 1) := by decide +kernel
theorem dX1_init_84 : decode cX1_init 84 = .ok (.iconst 4, 1) := by decide +kernel
theorem dX1_init_85 : decode cX1_init 85 = .ok (.putfield 51, 3) := by decide +kernel
theorem dX1_init_88 : decode cX1_init 88 = .ok (.aload_n 0, 1) := by decide +kernel
theorem dX1_init_89 : decode cX1_init 89 = .ok (.iconst 0, 1) := by decide +kernel
theorem dX1_init_90 : decode cX1_init 90 = .ok (.putfield 55, 3) := by decide +kernel
theorem dX1_init_93 : decode cX1_init 93 = .ok (.return_, 1) := by decide +kernel
theorem dX1_has_0 : decode cX1_has 0 = .ok (.iload_n 1, 1) := by decide +kernel
theorem dX1_has_1 : decode cX1_has 1 = .ok (.iconst 0, 1) := by decide +kernel
theorem dX1_has_2 : decode cX1_has 2 = .ok (.aload_n 0, 1) := by decide +kernel
theorem dX1_has_3 : decode cX1_has 3 = .ok (.getfield 51, 3) := by decide +kernel
theorem dX1_has_6 : decode cX1_has 6 = .ok (.iconst 1, 1) := by decide +kernel
theorem dX1_has_7 : decode cX1_has 7 = .ok (.isub, 1) := by decide +kernel
theorem dX1_has_8 : decode cX1_has 8 = .ok (.invokestatic 58, 3) := by decide +kernel
theorem dX1_has_11 : decode cX1_has 11 = .ok (.ireturn, 1) := by decide +kernel
theorem dX1_begin_0 : decode cX1_begin 0 = .ok (.aload_n 0, 1) := by decide +kernel
theorem dX1_begin_1 : decode cX1_begin 1 = .ok (.iload_n 1, 1) := by decide +kernel
theorem dX1_begin_2 : decode cX1_begin 2 = .ok (.putfield 51, 3) := by decide +kernel
theorem dX1_begin_5 : decode cX1_begin 5 = .ok (.aload_n 0, 1) := by decide +kernel
theorem dX1_begin_6 : decode cX1_begin 6 = .ok (.getfield 24, 3) := by decide +kernel
theorem dX1_begin_9 : decode cX1_begin 9 = .ok (.invokevirtual 62, 3) := by decide +kernel
theorem dX1_begin_12 : decode cX1_begin 12 = .ok (.return_, 1) := by decide +kernel
theorem dX1_goBack_0 : decode cX1_goBack 0 = .ok (.aload_n 0, 1) := by decide +kernel
theorem dX1_goBack_1 : decode cX1_goBack 1 = .ok (.getfield 30, 3) := by decide +kernel
theorem dX1_goBack_4 : decode cX1_goBack 4 = .ok (.invokestatic 65, 3) := by decide +kernel
theorem dX1_goBack_7 : decode cX1_goBack 7 = .ok (.aload_n 0, 1) := by decide +kernel
theorem dX1_goBack_8 : decode cX1_goBack 8 = .ok (.getfield 33, 3) := by decide +kernel
theorem dX1_goBack_11 : decode cX1_goBack 11 = .ok (.invokestatic 65, 3) := by decide +kernel
theorem dX1_goBack_14 : decode cX1_goBack 14 = .ok (.aload_n 0, 1) := by decide +kernel
theorem dX1_goBack_15 : decode cX1_goBack 15 = .ok (.getfield 36, 3) := by decide +kernel
theorem dX1_goBack_18 : decode cX1_goBack 18 = .ok (.invokestatic 65, 3) := by decide +kernel
theorem dX1_goBack_21 : decode cX1_goBack 21 = .ok (.aload_n 0, 1) := by decide +kernel
theorem dX1_goBack_22 : decode cX1_goBack 22 = .ok (.getfield 39, 3) := by decide +kernel
theorem dX1_goBack_25 : decode cX1_goBack 25 = .ok (.invokestatic 65, 3) := by decide +kernel
theorem dX1_goBack_28 : decode cX1_goBack 28 = .ok (.aload_n 0, 1) := by decide +kernel
theorem dX1_goBack_29 : decode cX1_goBack 29 = .ok (.getfield 42, 3) := by decide +kernel
theorem dX1_goBack_32 : decode cX1_goBack 32 = .ok (.invokestatic 65, 3) := by decide +kernel
theorem dX1_goBack_35 : decode cX1_goBack 35 = .ok (.aload_n 0, 1) := by decide +kernel
theorem dX1_goBack_36 : decode cX1_goBack 36 = .ok (.getfield 45, 3) := by decide +kernel
theorem dX1_goBack_39 : decode cX1_goBack 39 = .ok (.invokestatic 65, 3) := by decide +kernel
theorem dX1_goBack_42 : decode cX1_goBack 42 = .ok (.aload_n 0, 1) := by decide +kernel
theorem dX1_goBack_43 : decode cX1_goBack 43 = .ok (.getfield 48, 3) := by decide +kernel
theorem dX1_goBack_46 : decode cX1_goBack 46 = .ok (.invokestatic 65, 3) := by decide +kernel
theorem dX1_goBack_49 : decode cX1_goBack 49 = .ok (.return_, 1) := by decide +kernel
theorem dX1_copy_0 : decode cX1_copy 0 = .ok (.aload_n 0, 1) := by decide +kernel
theorem dX1_copy_1 : decode cX1_copy 1 = .ok (.aload_n 1, 1) := by decide +kernel
theorem dX1_copy_2 : decode cX1_copy 2 = .ok (.getfield 51, 3) := by decide +kernel
theorem dX1_copy_5 : decode cX1_copy 5 = .ok (.putfield 51, 3) := by decide +kernel
theorem dX1_copy_8 : decode cX1_copy 8 = .ok (.aload_n 0, 1) := by decide +kernel
theorem dX1_copy_9 : decode cX1_copy 9 = .ok (.getfield 24, 3) := by decide +kernel
theorem dX1_copy_12 : decode cX1_copy 12 = .ok (.aload_n 1, 1) := by decide +kernel
theorem dX1_copy_13 : decode cX1_copy 13 = .ok (.getfield 24, 3) := by decide +kernel
theorem dX1_copy_16 : decode cX1_copy 16 = .ok (.invokevirtual 69, 3) := by decide +kernel
theorem dX1_copy_19 : decode cX1_copy 19 = .ok (.aload_n 1, 1) := by decide +kernel
theorem dX1_copy_20 : decode cX1_copy 20 = .ok (.getfield 30, 3) := by decide +kernel
theorem dX1_copy_23 : decode cX1_copy 23 = .ok (.aload_n 0, 1) := by decide +kernel
theorem dX1_copy_24 : decode cX1_copy 24 = .ok (.getfield 30, 3) := by decide +kernel
theorem dX1_copy_27 : decode cX1_copy 27 = .ok (.invokestatic 73, 3) := by decide +kernel
theorem dX1_copy_30 : decode cX1_copy 30 = .ok (.aload_n 1, 1) := by decide +kernel
theorem dX1_copy_31 : decode cX1_copy 31 = .ok (.getfield 33, 3) := by decide +kernel
theorem dX1_copy_34 : decode cX1_copy 34 = .ok (.aload_n 0, 1) := by decide +kernel
theorem dX1_copy_35 : decode cX1_copy 35 = .ok (.getfield 33, 3) := by decide +kernel
theorem dX1_copy_38 : decode cX1_copy 38 = .ok (.invokestatic 73, 3) := by decide +kernel
theorem dX1_copy_41 : decode cX1_copy 41 = .ok (.aload_n 1, 1) := by decide +kernel
theorem dX1_copy_42 : decode cX1_copy 42 = .ok (.getfield 36, 3) := by decide +kernel
theorem dX1_copy_45 : decode cX1_copy 45 = .ok (.aload_n 0, 1) := by decide +kernel
theorem dX1_copy_46 : decode cX1_copy 46 = .ok (.getfield 36, 3) := by decide +kernel
theorem dX1_copy_49 : decode cX1_copy 49 = .ok (.invokestatic 73, 3) := by decide +kernel
theorem dX1_copy_52 : decode cX1_copy 52 = .ok (.aload_n 1, 1) := by decide +kernel
theorem dX1_copy_53 : decode cX1_copy 53 = .ok (.getfield 39, 3) := by decide +kernel
theorem dX1_copy_56 : decode cX1_copy 56 = .ok (.aload_n 0, 1) := by decide +kernel
theorem dX1_copy_57 : decode cX1_copy 57 = .ok (.getfield 39, 3) := by decide +kernel
theorem dX1_copy_60 : decode cX1_copy 60 = .ok (.invokestatic 73, 3) := by decide +kernel
theorem dX1_copy_63 : decode cX1_copy 63 = .ok (.aload_n 1, 1) := by decide +kernel
theorem dX1_copy_64 : decode cX1_copy 64 = .ok (.getfield 42, 3) := by decide +kernel
theorem dX1_copy_67 : decode cX1_copy 67 = .ok (.aload_n 0, 1) := by decide +kernel
theorem dX1_copy_68 : decode cX1_copy 68 = .ok (.getfield 42, 3) := by decide +kernel
theorem dX1_copy_71 : decode cX1_copy 71 = .ok (.invokestatic 73, 3) := by decide +kernel
theorem dX1_copy_74 : decode cX1_copy 74 = .ok (.aload_n 1, 1) := by decide +kernel
theorem dX1_copy_75 : decode cX1_copy 75 = .ok (.getfield 45, 3) := by decide +kernel
theorem dX1_copy_78 : decode cX1_copy 78 = .ok (.aload_n 0, 1) := by decide +kernel
theorem dX1_copy_79 : decode cX1_copy 79 = .ok (.getfield 45, 3) := by decide +kernel
theorem dX1_copy_82 : decode cX1_copy 82 = .ok (.invokestatic 73, 3) := by decide +kernel
theorem dX1_copy_85 : decode cX1_copy 85 = .ok (.aload_n 1, 1) := by decide +kernel
theorem dX1_copy_86 : decode cX1_copy 86 = .ok (.getfield 48, 3) := by decide +kernel
theorem dX1_copy_89 : decode cX1_copy 89 = .ok (.aload_n 0, 1) := by decide +kernel
theorem dX1_copy_90 : decode cX1_copy 90 = .ok (.getfield 48, 3) := by decide +kernel
theorem dX1_copy_93 : decode cX1_copy 93 = .ok (.invokestatic 73, 3) := by decide +kernel
theorem dX1_copy_96 : decode cX1_copy 96 = .ok (.return_, 1) := by decide +kernel
theorem dX1_obey_0 : decode cX1_obey 0 = .ok (.iconst 0, 1) := by decide +kernel
theorem dX1_obey_1 : decode cX1_obey 1 = .ok (.istore_n 3, 1) := by decide +kernel
theorem dX1_obey_2 : decode cX1_obey 2 = .ok (.iload_n 3, 1) := by decide +kernel
theorem dX1_obey_3 : decode cX1_obey 3 = .ok (.aload_n 0, 1) := by decide +kernel
theorem dX1_obey_4 : decode cX1_obey 4 = .ok (.getfield 51, 3) := by decide +kernel
theorem dX1_obey_7 : decode cX1_obey 7 = .ok (.if_icmp .ge 25, 3) := by decide +kernel
theorem dX1_obey_10 : decode cX1_obey 10 = .ok (.iload_n 1, 1) := by decide +kernel
theorem dX1_obey_11 : decode cX1_obey 11 = .ok (.iload_n 3, 1) := by decide +kernel
theorem dX1_obey_12 : decode cX1_obey 12 = .ok (.ishr, 1) := by decide +kernel
theorem dX1_obey_13 : decode cX1_obey 13 = .ok (.iconst 1, 1) := by decide +kernel
theorem dX1_obey_14 : decode cX1_obey 14 = .ok (.iand, 1) := by decide +kernel
theorem dX1_obey_15 : decode cX1_obey 15 = .ok (.iconst 1, 1) := by decide +kernel
theorem dX1_obey_16 : decode cX1_obey 16 = .ok (.if_icmp .ne 10, 3) := by decide +kernel
theorem dX1_obey_19 : decode cX1_obey 19 = .ok (.aload_n 0, 1) := by decide +kernel
theorem dX1_obey_20 : decode cX1_obey 20 = .ok (.getfield 30, 3) := by decide +kernel
theorem dX1_obey_23 : decode cX1_obey 23 = .ok (.iload_n 3, 1) := by decide +kernel
theorem dX1_obey_24 : decode cX1_obey 24 = .ok (.iload_n 2, 1) := by decide +kernel
theorem dX1_obey_25 : decode cX1_obey 25 = .ok (.iastore, 1) := by decide +kernel
theorem dX1_obey_26 : decode cX1_obey 26 = .ok (.iinc 3 1, 3) := by decide +kernel
theorem dX1_obey_29 : decode cX1_obey 29 = .ok (.goto (-27), 3) := by decide +kernel
theorem dX1_obey_32 : decode cX1_obey 32 = .ok (.return_, 1) := by decide +kernel
theorem dX1_keepCommands_0 : decode cX1_keepCommands 0 = .ok (.aload_n 0, 1) := by decide +kernel
theorem dX1_keepCommands_1 : decode cX1_keepCommands 1 = .ok (.getfield 30, 3) := by decide +kernel
theorem dX1_keepCommands_4 : decode cX1_keepCommands 4 = .ok (.iconst 0, 1) := by decide +kernel
theorem dX1_keepCommands_5 : decode cX1_keepCommands 5 = .ok (.aload_n 0, 1) := by decide +kernel
theorem dX1_keepCommands_6 : decode cX1_keepCommands 6 = .ok (.getfield 48, 3) := by decide +kernel
theorem dX1_keepCommands_9 : decode cX1_keepCommands 9 = .ok (.iload_n 1, 1) := by decide +kernel
theorem dX1_keepCommands_10 : decode cX1_keepCommands 10 = .ok (.invokestatic 77, 3) := by decide +kernel
theorem dX1_keepCommands_13 : decode cX1_keepCommands 13 = .ok (.bipush 12, 2) := by decide +kernel
theorem dX1_keepCommands_15 : decode cX1_keepCommands 15 = .ok (.invokestatic 81, 3) := by decide +kernel
theorem dX1_keepCommands_18 : decode cX1_keepCommands 18 = .ok (.return_, 1) := by decide +kernel
theorem dX1_open_0 : decode cX1_open 0 = .ok (.iconst 0, 1) := by decide +kernel
theorem dX1_open_1 : decode cX1_open 1 = .ok (.istore 4, 2) := by decide +kernel
theorem dX1_open_3 : decode cX1_open 3 = .ok (.iload 4, 2) := by decide +kernel
theorem dX1_open_5 : decode cX1_open 5 = .ok (.aload_n 0, 1) := by decide +kernel
theorem dX1_open_6 : decode cX1_open 6 = .ok (.getfield 51, 3) := by decide +kernel
theorem dX1_open_9 : decode cX1_open 9 = .ok (.if_icmp .ge 95, 3) := by decide +kernel
theorem dX1_open_12 : decode cX1_open 12 = .ok (.aload_n 0, 1) := by decide +kernel
theorem dX1_open_13 : decode cX1_open 13 = .ok (.iload_n 1, 1) := by decide +kernel
theorem dX1_open_14 : decode cX1_open 14 = .ok (.aload_n 0, 1) := by decide +kernel
theorem dX1_open_15 : decode cX1_open 15 = .ok (.getfield 24, 3) := by decide +kernel
theorem dX1_open_18 : decode cX1_open 18 = .ok (.iload 4, 2) := by decide +kernel
theorem dX1_open_20 : decode cX1_open 20 = .ok (.iconst 2, 1) := by decide +kernel
theorem dX1_open_21 : decode cX1_open 21 = .ok (.invokevirtual 87, 3) := by decide +kernel
theorem dX1_open_24 : decode cX1_open 24 = .ok (.isub, 1) := by decide +kernel
theorem dX1_open_25 : decode cX1_open 25 = .ok (.iload 4, 2) := by decide +kernel
theorem dX1_open_27 : decode cX1_open 27 = .ok (.invokevirtual 91, 3) := by decide +kernel
theorem dX1_open_30 : decode cX1_open 30 = .ok (.istore 5, 2) := by decide +kernel
theorem dX1_open_32 : decode cX1_open 32 = .ok (.iload_n 2, 1) := by decide +kernel
theorem dX1_open_33 : decode cX1_open 33 = .ok (.iconst 1, 1) := by decide +kernel
theorem dX1_open_34 : decode cX1_open 34 = .ok (.if_icmp .ne 27, 3) := by decide +kernel
theorem dX1_open_37 : decode cX1_open 37 = .ok (.aload_n 0, 1) := by decide +kernel
theorem dX1_open_38 : decode cX1_open 38 = .ok (.aload_n 0, 1) := by decide +kernel
theorem dX1_open_39 : decode cX1_open 39 = .ok (.getfield 55, 3) := by decide +kernel
theorem dX1_open_42 : decode cX1_open 42 = .ok (.iload 5, 2) := by decide +kernel
theorem dX1_open_44 : decode cX1_open 44 = .ok (.invokestatic 94, 3) := by decide +kernel
theorem dX1_open_47 : decode cX1_open 47 = .ok (.putfield 55, 3) := by decide +kernel
theorem dX1_open_50 : decode cX1_open 50 = .ok (.iload 5, 2) := by decide +kernel
theorem dX1_open_52 : decode cX1_open 52 = .ok (.iload_n 3, 1) := by decide +kernel
theorem dX1_open_53 : decode cX1_open 53 = .ok (.invokestatic 99, 3) := by decide +kernel
theorem dX1_open_56 : decode cX1_open 56 = .ok (.istore 5, 2) := by decide +kernel
theorem dX1_open_58 : decode cX1_open 58 = .ok (.goto 11, 3) := by decide +kernel
theorem dX1_open_61 : decode cX1_open 61 = .ok (.iload_n 2, 1) := by decide +kernel
theorem dX1_open_62 : decode cX1_open 62 = .ok (.iconst 2, 1) := by decide +kernel
theorem dX1_open_63 : decode cX1_open 63 = .ok (.if_icmp .ne 6, 3) := by decide +kernel
theorem dX1_open_66 : decode cX1_open 66 = .ok (.iconst 0, 1) := by decide +kernel
theorem dX1_open_67 : decode cX1_open 67 = .ok (.istore 5, 2) := by decide +kernel
theorem dX1_open_69 : decode cX1_open 69 = .ok (.aload_n 0, 1) := by decide +kernel
theorem dX1_open_70 : decode cX1_open 70 = .ok (.getfield 33, 3) := by decide +kernel
theorem dX1_open_73 : decode cX1_open 73 = .ok (.iload 4, 2) := by decide +kernel
theorem dX1_open_75 : decode cX1_open 75 = .ok (.aload_n 0, 1) := by decide +kernel
theorem dX1_open_76 : decode cX1_open 76 = .ok (.getfield 33, 3) := by decide +kernel
theorem dX1_open_79 : decode cX1_open 79 = .ok (.iload 4, 2) := by decide +kernel
theorem dX1_open_81 : decode cX1_open 81 = .ok (.iaload, 1) := by decide +kernel
theorem dX1_open_82 : decode cX1_open 82 = .ok (.iload 5, 2) := by decide +kernel
theorem dX1_open_84 : decode cX1_open 84 = .ok (.aload_n 0, 1) := by decide +kernel
theorem dX1_open_85 : decode cX1_open 85 = .ok (.getfield 24, 3) := by decide +kernel
theorem dX1_open_88 : decode cX1_open 88 = .ok (.iload 4, 2) := by decide +kernel
theorem dX1_open_90 : decode cX1_open 90 = .ok (.iconst 3, 1) := by decide +kernel
theorem dX1_open_91 : decode cX1_open 91 = .ok (.invokevirtual 87, 3) := by decide +kernel
theorem dX1_open_94 : decode cX1_open 94 = .ok (.invokestatic 102, 3) := by decide +kernel
theorem dX1_open_97 : decode cX1_open 97 = .ok (.iastore, 1) := by decide +kernel
theorem dX1_open_98 : decode cX1_open 98 = .ok (.iinc 4 1, 3) := by decide +kernel
theorem dX1_open_101 : decode cX1_open 101 = .ok (.goto (-98), 3) := by decide +kernel
theorem dX1_open_104 : decode cX1_open 104 = .ok (.return_, 1) := by decide +kernel
theorem dX1_demandOf_0 : decode cX1_demandOf 0 = .ok (.iconst 0, 1) := by decide +kernel
theorem dX1_demandOf_1 : decode cX1_demandOf 1 = .ok (.istore_n 2, 1) := by decide +kernel
theorem dX1_demandOf_2 : decode cX1_demandOf 2 = .ok (.iconst 0, 1) := by decide +kernel
theorem dX1_demandOf_3 : decode cX1_demandOf 3 = .ok (.istore_n 3, 1) := by decide +kernel
theorem dX1_demandOf_4 : decode cX1_demandOf 4 = .ok (.iload_n 3, 1) := by decide +kernel
theorem dX1_demandOf_5 : decode cX1_demandOf 5 = .ok (.aload_n 0, 1) := by decide +kernel
theorem dX1_demandOf_6 : decode cX1_demandOf 6 = .ok (.getfield 51, 3) := by decide +kernel
theorem dX1_demandOf_9 : decode cX1_demandOf 9 = .ok (.if_icmp .ge 30, 3) := by decide +kernel
theorem dX1_demandOf_12 : decode cX1_demandOf 12 = .ok (.aload_n 0, 1) := by decide +kernel
theorem dX1_demandOf_13 : decode cX1_demandOf 13 = .ok (.getfield 24, 3) := by decide +kernel
theorem dX1_demandOf_16 : decode cX1_demandOf 16 = .ok (.iload_n 3, 1) := by decide +kernel
theorem dX1_demandOf_17 : decode cX1_demandOf 17 = .ok (.iconst 4, 1) := by decide +kernel
theorem dX1_demandOf_18 : decode cX1_demandOf 18 = .ok (.invokevirtual 87, 3) := by decide +kernel
theorem dX1_demandOf_21 : decode cX1_demandOf 21 = .ok (.iload_n 1, 1) := by decide +kernel
theorem dX1_demandOf_22 : decode cX1_demandOf 22 = .ok (.if_icmp .ne 11, 3) := by decide +kernel
theorem dX1_demandOf_25 : decode cX1_demandOf 25 = .ok (.iload_n 2, 1) := by decide +kernel
theorem dX1_demandOf_26 : decode cX1_demandOf 26 = .ok (.aload_n 0, 1) := by decide +kernel
theorem dX1_demandOf_27 : decode cX1_demandOf 27 = .ok (.iload_n 3, 1) := by decide +kernel
theorem dX1_demandOf_28 : decode cX1_demandOf 28 = .ok (.invokevirtual 106, 3) := by decide +kernel
theorem dX1_demandOf_31 : decode cX1_demandOf 31 = .ok (.iadd, 1) := by decide +kernel
theorem dX1_demandOf_32 : decode cX1_demandOf 32 = .ok (.istore_n 2, 1) := by decide +kernel
theorem dX1_demandOf_33 : decode cX1_demandOf 33 = .ok (.iinc 3 1, 3) := by decide +kernel
theorem dX1_demandOf_36 : decode cX1_demandOf 36 = .ok (.goto (-32), 3) := by decide +kernel
theorem dX1_demandOf_39 : decode cX1_demandOf 39 = .ok (.iload_n 2, 1) := by decide +kernel
theorem dX1_demandOf_40 : decode cX1_demandOf 40 = .ok (.ireturn, 1) := by decide +kernel
theorem dX1_flow_0 : decode cX1_flow 0 = .ok (.iconst 0, 1) := by decide +kernel
theorem dX1_flow_1 : decode cX1_flow 1 = .ok (.istore 4, 2) := by decide +kernel
theorem dX1_flow_3 : decode cX1_flow 3 = .ok (.iload 4, 2) := by decide +kernel
theorem dX1_flow_5 : decode cX1_flow 5 = .ok (.aload_n 0, 1) := by decide +kernel
theorem dX1_flow_6 : decode cX1_flow 6 = .ok (.getfield 51, 3) := by decide +kernel
theorem dX1_flow_9 : decode cX1_flow 9 = .ok (.if_icmp .ge 60, 3) := by decide +kernel
theorem dX1_flow_12 : decode cX1_flow 12 = .ok (.aload_n 0, 1) := by decide +kernel
theorem dX1_flow_13 : decode cX1_flow 13 = .ok (.getfield 24, 3) := by decide +kernel
theorem dX1_flow_16 : decode cX1_flow 16 = .ok (.iload 4, 2) := by decide +kernel
theorem dX1_flow_18 : decode cX1_flow 18 = .ok (.iconst 4, 1) := by decide +kernel
theorem dX1_flow_19 : decode cX1_flow 19 = .ok (.invokevirtual 87, 3) := by decide +kernel
theorem dX1_flow_22 : decode cX1_flow 22 = .ok (.iload_n 1, 1) := by decide +kernel
theorem dX1_flow_23 : decode cX1_flow 23 = .ok (.if_icmp .ne 40, 3) := by decide +kernel
theorem dX1_flow_26 : decode cX1_flow 26 = .ok (.aload_n 0, 1) := by decide +kernel
theorem dX1_flow_27 : decode cX1_flow 27 = .ok (.iload 4, 2) := by decide +kernel
theorem dX1_flow_29 : decode cX1_flow 29 = .ok (.invokevirtual 106, 3) := by decide +kernel
theorem dX1_flow_32 : decode cX1_flow 32 = .ok (.istore 5, 2) := by decide +kernel
theorem dX1_flow_34 : decode cX1_flow 34 = .ok (.aload_n 0, 1) := by decide +kernel
theorem dX1_flow_35 : decode cX1_flow 35 = .ok (.getfield 36, 3) := by decide +kernel
theorem dX1_flow_38 : decode cX1_flow 38 = .ok (.iload 4, 2) := by decide +kernel
theorem dX1_flow_40 : decode cX1_flow 40 = .ok (.iload_n 2, 1) := by decide +kernel
theorem dX1_flow_41 : decode cX1_flow 41 = .ok (.iload_n 3, 1) := by decide +kernel
theorem dX1_flow_42 : decode cX1_flow 42 = .ok (.if_icmp .gt 8, 3) := by decide +kernel
theorem dX1_flow_45 : decode cX1_flow 45 = .ok (.iload 5, 2) := by decide +kernel
theorem dX1_flow_47 : decode cX1_flow 47 = .ok (.goto 15, 3) := by decide +kernel
theorem dX1_flow_50 : decode cX1_flow 50 = .ok (.iload 5, 2) := by decide +kernel
theorem dX1_flow_52 : decode cX1_flow 52 = .ok (.i2l, 1) := by decide +kernel
theorem dX1_flow_53 : decode cX1_flow 53 = .ok (.iload_n 3, 1) := by decide +kernel
theorem dX1_flow_54 : decode cX1_flow 54 = .ok (.i2l, 1) := by decide +kernel
theorem dX1_flow_55 : decode cX1_flow 55 = .ok (.lmul, 1) := by decide +kernel
theorem dX1_flow_56 : decode cX1_flow 56 = .ok (.iload_n 2, 1) := by decide +kernel
theorem dX1_flow_57 : decode cX1_flow 57 = .ok (.i2l, 1) := by decide +kernel
theorem dX1_flow_58 : decode cX1_flow 58 = .ok (.invokestatic 109, 3) := by decide +kernel
theorem dX1_flow_61 : decode cX1_flow 61 = .ok (.l2i, 1) := by decide +kernel
theorem dX1_flow_62 : decode cX1_flow 62 = .ok (.iastore, 1) := by decide +kernel
theorem dX1_flow_63 : decode cX1_flow 63 = .ok (.iinc 4 1, 3) := by decide +kernel
theorem dX1_flow_66 : decode cX1_flow 66 = .ok (.goto (-63), 3) := by decide +kernel
theorem dX1_flow_69 : decode cX1_flow 69 = .ok (.return_, 1) := by decide +kernel
theorem dX1_rise_0 : decode cX1_rise 0 = .ok (.iconst 0, 1) := by decide +kernel
theorem dX1_rise_1 : decode cX1_rise 1 = .ok (.istore_n 2, 1) := by decide +kernel
theorem dX1_rise_2 : decode cX1_rise 2 = .ok (.iload_n 2, 1) := by decide +kernel
theorem dX1_rise_3 : decode cX1_rise 3 = .ok (.aload_n 0, 1) := by decide +kernel
theorem dX1_rise_4 : decode cX1_rise 4 = .ok (.getfield 51, 3) := by decide +kernel
theorem dX1_rise_7 : decode cX1_rise 7 = .ok (.if_icmp .ge 108, 3) := by decide +kernel
theorem dX1_rise_10 : decode cX1_rise 10 = .ok (.aload_n 0, 1) := by decide +kernel
theorem dX1_rise_11 : decode cX1_rise 11 = .ok (.getfield 36, 3) := by decide +kernel
theorem dX1_rise_14 : decode cX1_rise 14 = .ok (.iload_n 2, 1) := by decide +kernel
theorem dX1_rise_15 : decode cX1_rise 15 = .ok (.iaload, 1) := by decide +kernel
theorem dX1_rise_16 : decode cX1_rise 16 = .ok (.i2l, 1) := by decide +kernel
theorem dX1_rise_17 : decode cX1_rise 17 = .ok (.aload_n 0, 1) := by decide +kernel
theorem dX1_rise_18 : decode cX1_rise 18 = .ok (.getfield 24, 3) := by decide +kernel
theorem dX1_rise_21 : decode cX1_rise 21 = .ok (.iload_n 2, 1) := by decide +kernel
theorem dX1_rise_22 : decode cX1_rise 22 = .ok (.iconst 0, 1) := by decide +kernel
theorem dX1_rise_23 : decode cX1_rise 23 = .ok (.invokevirtual 87, 3) := by decide +kernel
theorem dX1_rise_26 : decode cX1_rise 26 = .ok (.i2l, 1) := by decide +kernel
theorem dX1_rise_27 : decode cX1_rise 27 = .ok (.invokestatic 109, 3) := by decide +kernel
theorem dX1_rise_30 : decode cX1_rise 30 = .ok (.lstore_n 3, 1) := by decide +kernel
theorem dX1_rise_31 : decode cX1_rise 31 = .ok (.aload_n 0, 1) := by decide +kernel
theorem dX1_rise_32 : decode cX1_rise 32 = .ok (.getfield 39, 3) := by decide +kernel
theorem dX1_rise_35 : decode cX1_rise 35 = .ok (.iload_n 2, 1) := by decide +kernel
theorem dX1_rise_36 : decode cX1_rise 36 = .ok (.aload_n 0, 1) := by decide +kernel
theorem dX1_rise_37 : decode cX1_rise 37 = .ok (.getfield 24, 3) := by decide +kernel
theorem dX1_rise_40 : decode cX1_rise 40 = .ok (.iload_n 2, 1) := by decide +kernel
theorem dX1_rise_41 : decode cX1_rise 41 = .ok (.iconst 1, 1) := by decide +kernel
theorem dX1_rise_42 : decode cX1_rise 42 = .ok (.invokevirtual 87, 3) := by decide +kernel
theorem dX1_rise_45 : decode cX1_rise 45 = .ok (.i2l, 1) := by decide +kernel
theorem dX1_rise_46 : decode cX1_rise 46 = .ok (.lload_n 3, 1) := by decide +kernel
theorem dX1_rise_47 : decode cX1_rise 47 = .ok (.lmul, 1) := by decide +kernel
theorem dX1_rise_48 : decode cX1_rise 48 = .ok (.lload_n 3, 1) := by decide +kernel
theorem dX1_rise_49 : decode cX1_rise 49 = .ok (.lmul, 1) := by decide +kernel
theorem dX1_rise_50 : decode cX1_rise 50 = .ok (.ldc2_w 113, 3) := by decide +kernel
theorem dX1_rise_53 : decode cX1_rise 53 = .ok (.ldiv, 1) := by decide +kernel
theorem dX1_rise_54 : decode cX1_rise 54 = .ok (.l2i, 1) := by decide +kernel
theorem dX1_rise_55 : decode cX1_rise 55 = .ok (.iastore, 1) := by decide +kernel
theorem dX1_rise_56 : decode cX1_rise 56 = .ok (.aload_n 0, 1) := by decide +kernel
theorem dX1_rise_57 : decode cX1_rise 57 = .ok (.getfield 42, 3) := by decide +kernel
theorem dX1_rise_60 : decode cX1_rise 60 = .ok (.iload_n 2, 1) := by decide +kernel
theorem dX1_rise_61 : decode cX1_rise 61 = .ok (.aload_n 0, 1) := by decide +kernel
theorem dX1_rise_62 : decode cX1_rise 62 = .ok (.getfield 39, 3) := by decide +kernel
theorem dX1_rise_65 : decode cX1_rise 65 = .ok (.iload_n 2, 1) := by decide +kernel
theorem dX1_rise_66 : decode cX1_rise 66 = .ok (.iaload, 1) := by decide +kernel
theorem dX1_rise_67 : decode cX1_rise 67 = .ok (.i2l, 1) := by decide +kernel
theorem dX1_rise_68 : decode cX1_rise 68 = .ok (.iload_n 1, 1) := by decide +kernel
theorem dX1_rise_69 : decode cX1_rise 69 = .ok (.i2l, 1) := by decide +kernel
theorem dX1_rise_70 : decode cX1_rise 70 = .ok (.lmul, 1) := by decide +kernel
theorem dX1_rise_71 : decode cX1_rise 71 = .ok (.aload_n 0, 1) := by decide +kernel
theorem dX1_rise_72 : decode cX1_rise 72 = .ok (.getfield 24, 3) := by decide +kernel
theorem dX1_rise_75 : decode cX1_rise 75 = .ok (.iload_n 2, 1) := by decide +kernel
theorem dX1_rise_76 : decode cX1_rise 76 = .ok (.iconst 5, 1) := by decide +kernel
theorem dX1_rise_77 : decode cX1_rise 77 = .ok (.invokevirtual 87, 3) := by decide +kernel
theorem dX1_rise_80 : decode cX1_rise 80 = .ok (.i2l, 1) := by decide +kernel
theorem dX1_rise_81 : decode cX1_rise 81 = .ok (.lmul, 1) := by decide +kernel
theorem dX1_rise_82 : decode cX1_rise 82 = .ok (.ldc2_w 115, 3) := by decide +kernel
theorem dX1_rise_85 : decode cX1_rise 85 = .ok (.ldiv, 1) := by decide +kernel
theorem dX1_rise_86 : decode cX1_rise 86 = .ok (.l2i, 1) := by decide +kernel
theorem dX1_rise_87 : decode cX1_rise 87 = .ok (.iastore, 1) := by decide +kernel
theorem dX1_rise_88 : decode cX1_rise 88 = .ok (.aload_n 0, 1) := by decide +kernel
theorem dX1_rise_89 : decode cX1_rise 89 = .ok (.getfield 45, 3) := by decide +kernel
theorem dX1_rise_92 : decode cX1_rise 92 = .ok (.iload_n 2, 1) := by decide +kernel
theorem dX1_rise_93 : decode cX1_rise 93 = .ok (.aload_n 0, 1) := by decide +kernel
theorem dX1_rise_94 : decode cX1_rise 94 = .ok (.getfield 45, 3) := by decide +kernel
theorem dX1_rise_97 : decode cX1_rise 97 = .ok (.iload_n 2, 1) := by decide +kernel
theorem dX1_rise_98 : decode cX1_rise 98 = .ok (.iaload, 1) := by decide +kernel
theorem dX1_rise_99 : decode cX1_rise 99 = .ok (.aload_n 0, 1) := by decide +kernel
theorem dX1_rise_100 : decode cX1_rise 100 = .ok (.getfield 39, 3) := by decide +kernel
theorem dX1_rise_103 : decode cX1_rise 103 = .ok (.iload_n 2, 1) := by decide +kernel
theorem dX1_rise_104 : decode cX1_rise 104 = .ok (.iaload, 1) := by decide +kernel
theorem dX1_rise_105 : decode cX1_rise 105 = .ok (.invokestatic 94, 3) := by decide +kernel
theorem dX1_rise_108 : decode cX1_rise 108 = .ok (.iastore, 1) := by decide +kernel
theorem dX1_rise_109 : decode cX1_rise 109 = .ok (.iinc 2 1, 3) := by decide +kernel
theorem dX1_rise_112 : decode cX1_rise 112 = .ok (.goto (-110), 3) := by decide +kernel
theorem dX1_rise_115 : decode cX1_rise 115 = .ok (.return_, 1) := by decide +kernel
theorem dX1_driftsBeyond_0 : decode cX1_driftsBeyond 0 = .ok (.iconst 0, 1) := by decide +kernel
theorem dX1_driftsBeyond_1 : decode cX1_driftsBeyond 1 = .ok (.istore_n 2, 1) := by decide +kernel
theorem dX1_driftsBeyond_2 : decode cX1_driftsBeyond 2 = .ok (.iload_n 2, 1) := by decide +kernel
theorem dX1_driftsBeyond_3 : decode cX1_driftsBeyond 3 = .ok (.aload_n 0, 1) := by decide +kernel
theorem dX1_driftsBeyond_4 : decode cX1_driftsBeyond 4 = .ok (.getfield 51, 3) := by decide +kernel
theorem dX1_driftsBeyond_7 : decode cX1_driftsBeyond 7 = .ok (.if_icmp .ge 21, 3) := by decide +kernel
theorem dX1_driftsBeyond_10 : decode cX1_driftsBeyond 10 = .ok (.aload_n 0, 1) := by decide +kernel
theorem dX1_driftsBeyond_11 : decode cX1_driftsBeyond 11 = .ok (.getfield 42, 3) := by decide +kernel
theorem dX1_driftsBeyond_14 : decode cX1_driftsBeyond 14 = .ok (.iload_n 2, 1) := by decide +kernel
theorem dX1_driftsBeyond_15 : decode cX1_driftsBeyond 15 = .ok (.iaload, 1) := by decide +kernel
theorem dX1_driftsBeyond_16 : decode cX1_driftsBeyond 16 = .ok (.iload_n 1, 1) := by decide +kernel
theorem dX1_driftsBeyond_17 : decode cX1_driftsBeyond 17 = .ok (.if_icmp .le 5, 3) := by decide +kernel
theorem dX1_driftsBeyond_20 : decode cX1_driftsBeyond 20 = .ok (.iconst 1, 1) := by decide +kernel
theorem dX1_driftsBeyond_21 : decode cX1_driftsBeyond 21 = .ok (.ireturn, 1) := by decide +kernel
theorem dX1_driftsBeyond_22 : decode cX1_driftsBeyond 22 = .ok (.iinc 2 1, 3) := by decide +kernel
theorem dX1_driftsBeyond_25 : decode cX1_driftsBeyond 25 = .ok (.goto (-23), 3) := by decide +kernel
theorem dX1_driftsBeyond_28 : decode cX1_driftsBeyond 28 = .ok (.iconst 0, 1) := by decide +kernel
theorem dX1_driftsBeyond_29 : decode cX1_driftsBeyond 29 = .ok (.ireturn, 1) := by decide +kernel
theorem dX1_sumOfHeights_0 : decode cX1_sumOfHeights 0 = .ok (.iconst 0, 1) := by decide +kernel
theorem dX1_sumOfHeights_1 : decode cX1_sumOfHeights 1 = .ok (.istore_n 1, 1) := by decide +kernel
theorem dX1_sumOfHeights_2 : decode cX1_sumOfHeights 2 = .ok (.iconst 0, 1) := by decide +kernel
theorem dX1_sumOfHeights_3 : decode cX1_sumOfHeights 3 = .ok (.istore_n 2, 1) := by decide +kernel
theorem dX1_sumOfHeights_4 : decode cX1_sumOfHeights 4 = .ok (.iload_n 2, 1) := by decide +kernel
theorem dX1_sumOfHeights_5 : decode cX1_sumOfHeights 5 = .ok (.aload_n 0, 1) := by decide +kernel
theorem dX1_sumOfHeights_6 : decode cX1_sumOfHeights 6 = .ok (.getfield 51, 3) := by decide +kernel
theorem dX1_sumOfHeights_9 : decode cX1_sumOfHeights 9 = .ok (.if_icmp .ge 18, 3) := by decide +kernel
theorem dX1_sumOfHeights_12 : decode cX1_sumOfHeights 12 = .ok (.iload_n 1, 1) := by decide +kernel
theorem dX1_sumOfHeights_13 : decode cX1_sumOfHeights 13 = .ok (.aload_n 0, 1) := by decide +kernel
theorem dX1_sumOfHeights_14 : decode cX1_sumOfHeights 14 = .ok (.getfield 39, 3) := by decide +kernel
theorem dX1_sumOfHeights_17 : decode cX1_sumOfHeights 17 = .ok (.iload_n 2, 1) := by decide +kernel
theorem dX1_sumOfHeights_18 : decode cX1_sumOfHeights 18 = .ok (.iaload, 1) := by decide +kernel
theorem dX1_sumOfHeights_19 : decode cX1_sumOfHeights 19 = .ok (.iadd, 1) := by decide +kernel
theorem dX1_sumOfHeights_20 : decode cX1_sumOfHeights 20 = .ok (.istore_n 1, 1) := by decide +kernel
theorem dX1_sumOfHeights_21 : decode cX1_sumOfHeights 21 = .ok (.iinc 2 1, 3) := by decide +kernel
theorem dX1_sumOfHeights_24 : decode cX1_sumOfHeights 24 = .ok (.goto (-20), 3) := by decide +kernel
theorem dX1_sumOfHeights_27 : decode cX1_sumOfHeights 27 = .ok (.iload_n 1, 1) := by decide +kernel
theorem dX1_sumOfHeights_28 : decode cX1_sumOfHeights 28 = .ok (.ireturn, 1) := by decide +kernel
theorem dX1_greatestHeightNow_0 : decode cX1_greatestHeightNow 0 = .ok (.iconst 0, 1) := by decide +kernel
theorem dX1_greatestHeightNow_1 : decode cX1_greatestHeightNow 1 = .ok (.istore_n 1, 1) := by decide +kernel
theorem dX1_greatestHeightNow_2 : decode cX1_greatestHeightNow 2 = .ok (.iconst 0, 1) := by decide +kernel
theorem dX1_greatestHeightNow_3 : decode cX1_greatestHeightNow 3 = .ok (.istore_n 2, 1) := by decide +kernel
theorem dX1_greatestHeightNow_4 : decode cX1_greatestHeightNow 4 = .ok (.iload_n 2, 1) := by decide +kernel
theorem dX1_greatestHeightNow_5 : decode cX1_greatestHeightNow 5 = .ok (.aload_n 0, 1) := by decide +kernel
theorem dX1_greatestHeightNow_6 : decode cX1_greatestHeightNow 6 = .ok (.getfield 51, 3) := by decide +kernel
theorem dX1_greatestHeightNow_9 : decode cX1_greatestHeightNow 9 = .ok (.if_icmp .ge 20, 3) := by decide +kernel
theorem dX1_greatestHeightNow_12 : decode cX1_greatestHeightNow 12 = .ok (.iload_n 1, 1) := by decide +kernel
theorem dX1_greatestHeightNow_13 : decode cX1_greatestHeightNow 13 = .ok (.aload_n 0, 1) := by decide +kernel
theorem dX1_greatestHeightNow_14 : decode cX1_greatestHeightNow 14 = .ok (.getfield 39, 3) := by decide +kernel
theorem dX1_greatestHeightNow_17 : decode cX1_greatestHeightNow 17 = .ok (.iload_n 2, 1) := by decide +kernel
theorem dX1_greatestHeightNow_18 : decode cX1_greatestHeightNow 18 = .ok (.iaload, 1) := by decide +kernel
theorem dX1_greatestHeightNow_19 : decode cX1_greatestHeightNow 19 = .ok (.invokestatic 94, 3) := by decide +kernel
theorem dX1_greatestHeightNow_22 : decode cX1_greatestHeightNow 22 = .ok (.istore_n 1, 1) := by decide +kernel
theorem dX1_greatestHeightNow_23 : decode cX1_greatestHeightNow 23 = .ok (.iinc 2 1, 3) := by decide +kernel
theorem dX1_greatestHeightNow_26 : decode cX1_greatestHeightNow 26 = .ok (.goto (-22), 3) := by decide +kernel
theorem dX1_greatestHeightNow_29 : decode cX1_greatestHeightNow 29 = .ok (.iload_n 1, 1) := by decide +kernel
theorem dX1_greatestHeightNow_30 : decode cX1_greatestHeightNow 30 = .ok (.ireturn, 1) := by decide +kernel
theorem dX1_demandAt_0 : decode cX1_demandAt 0 = .ok (.aload_n 0, 1) := by decide +kernel
theorem dX1_demandAt_1 : decode cX1_demandAt 1 = .ok (.getfield 33, 3) := by decide +kernel
theorem dX1_demandAt_4 : decode cX1_demandAt 4 = .ok (.iload_n 1, 1) := by decide +kernel
theorem dX1_demandAt_5 : decode cX1_demandAt 5 = .ok (.iaload, 1) := by decide +kernel
theorem dX1_demandAt_6 : decode cX1_demandAt 6 = .ok (.aload_n 0, 1) := by decide +kernel
theorem dX1_demandAt_7 : decode cX1_demandAt 7 = .ok (.getfield 24, 3) := by decide +kernel
theorem dX1_demandAt_10 : decode cX1_demandAt 10 = .ok (.iload_n 1, 1) := by decide +kernel
theorem dX1_demandAt_11 : decode cX1_demandAt 11 = .ok (.iconst 0, 1) := by decide +kernel
theorem dX1_demandAt_12 : decode cX1_demandAt 12 = .ok (.invokevirtual 87, 3) := by decide +kernel
theorem dX1_demandAt_15 : decode cX1_demandAt 15 = .ok (.imul, 1) := by decide +kernel
theorem dX1_demandAt_16 : decode cX1_demandAt 16 = .ok (.ireturn, 1) := by decide +kernel
theorem dX1_commandAt_0 : decode cX1_commandAt 0 = .ok (.iload_n 1, 1) := by decide +kernel
theorem dX1_commandAt_1 : decode cX1_commandAt 1 = .ok (.ifCond .ge 7, 3) := by decide +kernel
theorem dX1_commandAt_4 : decode cX1_commandAt 4 = .ok (.iconst 0, 1) := by decide +kernel
theorem dX1_commandAt_5 : decode cX1_commandAt 5 = .ok (.goto 14, 3) := by decide +kernel
theorem dX1_commandAt_8 : decode cX1_commandAt 8 = .ok (.aload_n 0, 1) := by decide +kernel
theorem dX1_commandAt_9 : decode cX1_commandAt 9 = .ok (.getfield 48, 3) := by decide +kernel
theorem dX1_commandAt_12 : decode cX1_commandAt 12 = .ok (.iload_n 1, 1) := by decide +kernel
theorem dX1_commandAt_13 : decode cX1_commandAt 13 = .ok (.invokestatic 77, 3) := by decide +kernel
theorem dX1_commandAt_16 : decode cX1_commandAt 16 = .ok (.iload_n 2, 1) := by decide +kernel
theorem dX1_commandAt_17 : decode cX1_commandAt 17 = .ok (.iadd, 1) := by decide +kernel
theorem dX1_commandAt_18 : decode cX1_commandAt 18 = .ok (.iaload, 1) := by decide +kernel
theorem dX1_commandAt_19 : decode cX1_commandAt 19 = .ok (.ireturn, 1) := by decide +kernel
theorem dX1_rowOf_0 : decode cX1_rowOf 0 = .ok (.iload_n 0, 1) := by decide +kernel
theorem dX1_rowOf_1 : decode cX1_rowOf 1 = .ok (.bipush 51, 2) := by decide +kernel
theorem dX1_rowOf_3 : decode cX1_rowOf 3 = .ok (.invokestatic 117, 3) := by decide +kernel
theorem dX1_rowOf_6 : decode cX1_rowOf 6 = .ok (.bipush 12, 2) := by decide +kernel
theorem dX1_rowOf_8 : decode cX1_rowOf 8 = .ok (.imul, 1) := by decide +kernel
theorem dX1_rowOf_9 : decode cX1_rowOf 9 = .ok (.ireturn, 1) := by decide +kernel
theorem dX2_init_0 : decode cX2_init 0 = .ok (.aload_n 0, 1) := by decide +kernel
theorem dX2_init_1 : decode cX2_init 1 = .ok (.invokespecial 3, 3) := by decide +kernel
theorem dX2_init_4 : decode cX2_init 4 = .ok (.aload_n 0, 1) := by decide +kernel
theorem dX2_init_5 : decode cX2_init 5 = .ok (.new 9, 3) := by decide +kernel
theorem dX2_init_8 : decode cX2_init 8 = .ok (.dup, 1) := by decide +kernel
theorem dX2_init_9 : decode cX2_init 9 = .ok (.invokespecial 11, 3) := by decide +kernel
theorem dX2_init_12 : decode cX2_init 12 = .ok (.putfield 12, 3) := by decide +kernel
theorem dX2_init_15 : decode cX2_init 15 = .ok (.aload_n 0, 1) := by decide +kernel
theorem dX2_init_16 : decode cX2_init 16 = .ok (.bipush 80, 2) := by decide +kernel
theorem dX2_init_18 : decode cX2_init 18 = .ok (.newarray .char, 2) := by decide +kernel
theorem dX2_init_20 : decode cX2_init 20 = .ok (.putfield 18, 3) := by decide +kernel
theorem dX2_init_23 : decode cX2_init 23 = .ok (.aload_n 0, 1) := by decide +kernel
theorem dX2_init_24 : decode cX2_init 24 = .ok (.iconst 0, 1) := by decide +kernel
theorem dX2_init_25 : decode cX2_init 25 = .ok (.putfield 22, 3) := by decide +kernel
theorem dX2_init_28 : decode cX2_init 28 = .ok (.aload_n 0, 1) := by decide +kernel
theorem dX2_init_29 : decode cX2_init 29 = .ok (.iconst 0, 1) := by decide +kernel
theorem dX2_init_30 : decode cX2_init 30 = .ok (.putfield 26, 3) := by decide +kernel
theorem dX2_init_33 : decode cX2_init 33 = .ok (.aload_n 0, 1) := by decide +kernel
theorem dX2_init_34 : decode cX2_init 34 = .ok (.iconst 0, 1) := by decide +kernel
theorem dX2_init_35 : decode cX2_init 35 = .ok (.putfield 29, 3) := by decide +kernel
theorem dX2_init_38 : decode cX2_init 38 = .ok (.aload_n 0, 1) := by decide +kernel
theorem dX2_init_39 : decode cX2_init 39 = .ok (.iconst 0, 1) := by decide +kernel
theorem dX2_init_40 : decode cX2_init 40 = .ok (.putfield 32, 3) := by decide +kernel
theorem dX2_init_43 : decode cX2_init 43 = .ok (.aload_n 0, 1) := by decide +kernel
theorem dX2_init_44 : decode cX2_init 44 = .ok (.iconst (-1), 1) := by decide +kernel
theorem dX2_init_45 : decode cX2_init 45 = .ok (.putfield 35, 3) := by decide +kernel
theorem dX2_init_48 : decode cX2_init 48 = .ok (.return_, 1) := by decide +kernel
theorem dX2_append_0 : decode cX2_append 0 = .ok (.aload_n 0, 1) := by decide +kernel
theorem dX2_append_1 : decode cX2_append 1 = .ok (.getfield 22, 3) := by decide +kernel
theorem dX2_append_4 : decode cX2_append 4 = .ok (.bipush 80, 2) := by decide +kernel
theorem dX2_append_6 : decode cX2_append 6 = .ok (.if_icmp .lt 6, 3) := by decide +kernel
theorem dX2_append_9 : decode cX2_append 9 = .ok (.bipush (-4), 2) := by decide +kernel
theorem dX2_append_11 : decode cX2_append 11 = .ok (.ireturn, 1) := by decide +kernel
theorem dX2_append_12 : decode cX2_append 12 = .ok (.aload_n 0, 1) := by decide +kernel
theorem dX2_append_13 : decode cX2_append 13 = .ok (.getfield 18, 3) := by decide +kernel
theorem dX2_append_16 : decode cX2_append 16 = .ok (.aload_n 0, 1) := by decide +kernel
theorem dX2_append_17 : decode cX2_append 17 = .ok (.getfield 22, 3) := by decide +kernel
theorem dX2_append_20 : decode cX2_append 20 = .ok (.iload_n 1, 1) := by decide +kernel
theorem dX2_append_21 : decode cX2_append 21 = .ok (.castore, 1) := by decide +kernel
theorem dX2_append_22 : decode cX2_append 22 = .ok (.aload_n 0, 1) := by decide +kernel
theorem dX2_append_23 : decode cX2_append 23 = .ok (.dup, 1) := by decide +kernel
theorem dX2_append_24 : decode cX2_append 24 = .ok (.getfield 22, 3) := by decide +kernel
theorem dX2_append_27 : decode cX2_append 27 = .ok (.iconst 1, 1) := by decide +kernel
theorem dX2_append_28 : decode cX2_append 28 = .ok (.iadd, 1) := by decide +kernel
theorem dX2_append_29 : decode cX2_append 29 = .ok (.putfield 22, 3) := by decide +kernel
theorem dX2_append_32 : decode cX2_append 32 = .ok (.aload_n 0, 1) := by decide +kernel
theorem dX2_append_33 : decode cX2_append 33 = .ok (.getfield 22, 3) := by decide +kernel
theorem dX2_append_36 : decode cX2_append 36 = .ok (.ireturn, 1) := by decide +kernel
theorem dX2_findFault_0 : decode cX2_findFault 0 = .ok (.aload_n 0, 1) := by decide +kernel
theorem dX2_findFault_1 : decode cX2_findFault 1 = .ok (.getfield 12, 3) := by decide +kernel
theorem dX2_findFault_4 : decode cX2_findFault 4 = .ok (.iconst 0, 1) := by decide +kernel
theorem dX2_findFault_5 : decode cX2_findFault 5 = .ok (.putfield 38, 3) := by decide +kernel
theorem dX2_findFault_8 : decode cX2_findFault 8 = .ok (.aload_n 0, 1) := by decide +kernel
theorem dX2_findFault_9 : decode cX2_findFault 9 = .ok (.iconst 0, 1) := by decide +kernel
theorem dX2_findFault_10 : decode cX2_findFault 10 = .ok (.putfield 26, 3) := by decide +kernel
theorem dX2_findFault_13 : decode cX2_findFault 13 = .ok (.aload_n 0, 1) := by decide +kernel
theorem dX2_findFault_14 : decode cX2_findFault 14 = .ok (.iconst (-1), 1) := by decide +kernel
theorem dX2_findFault_15 : decode cX2_findFault 15 = .ok (.putfield 35, 3) := by decide +kernel
theorem dX2_findFault_18 : decode cX2_findFault 18 = .ok (.iconst 0, 1) := by decide +kernel
theorem dX2_findFault_19 : decode cX2_findFault 19 = .ok (.istore_n 1, 1) := by decide +kernel
theorem dX2_findFault_20 : decode cX2_findFault 20 = .ok (.iload_n 1, 1) := by decide +kernel
theorem dX2_findFault_21 : decode cX2_findFault 21 = .ok (.aload_n 0, 1) := by decide +kernel
theorem dX2_findFault_22 : decode cX2_findFault 22 = .ok (.getfield 22, 3) := by decide +kernel
theorem dX2_findFault_25 : decode cX2_findFault 25 = .ok (.if_icmp .ge 24, 3) := by decide +kernel
theorem dX2_findFault_28 : decode cX2_findFault 28 = .ok (.aload_n 0, 1) := by decide +kernel
theorem dX2_findFault_29 : decode cX2_findFault 29 = .ok (.aload_n 0, 1) := by decide +kernel
theorem dX2_findFault_30 : decode cX2_findFault 30 = .ok (.getfield 18, 3) := by decide +kernel
theorem dX2_findFault_33 : decode cX2_findFault 33 = .ok (.iload_n 1, 1) := by decide +kernel
theorem dX2_findFault_34 : decode cX2_findFault 34 = .ok (.caload, 1) := by decide +kernel
theorem dX2_findFault_35 : decode cX2_findFault 35 = .ok (.invokevirtual 41, 3) := by decide +kernel
theorem dX2_findFault_38 : decode cX2_findFault 38 = .ok (.ifCond .ne 5, 3) := by decide +kernel
theorem dX2_findFault_41 : decode cX2_findFault 41 = .ok (.iload_n 1, 1) := by decide +kernel
theorem dX2_findFault_42 : decode cX2_findFault 42 = .ok (.ireturn, 1) := by decide +kernel
theorem dX2_findFault_43 : decode cX2_findFault 43 = .ok (.iinc 1 1, 3) := by decide +kernel
theorem dX2_findFault_46 : decode cX2_findFault 46 = .ok (.goto (-26), 3) := by decide +kernel
theorem dX2_findFault_49 : decode cX2_findFault 49 = .ok (.aload_n 0, 1) := by decide +kernel
theorem dX2_findFault_50 : decode cX2_findFault 50 = .ok (.invokevirtual 45, 3) := by decide +kernel
theorem dX2_findFault_53 : decode cX2_findFault 53 = .ok (.ifCond .eq 8, 3) := by decide +kernel
theorem dX2_findFault_56 : decode cX2_findFault 56 = .ok (.bipush (-6), 2) := by decide +kernel
theorem dX2_findFault_58 : decode cX2_findFault 58 = .ok (.goto 7, 3) := by decide +kernel
theorem dX2_findFault_61 : decode cX2_findFault 61 = .ok (.aload_n 0, 1) := by decide +kernel
theorem dX2_findFault_62 : decode cX2_findFault 62 = .ok (.getfield 22, 3) := by decide +kernel
theorem dX2_findFault_65 : decode cX2_findFault 65 = .ok (.ireturn, 1) := by decide +kernel
theorem dX2_accepts_0 : decode cX2_accepts 0 = .ok (.aload_n 0, 1) := by decide +kernel
theorem dX2_accepts_1 : decode cX2_accepts 1 = .ok (.getfield 26, 3) := by decide +kernel
theorem dX2_accepts_4 : decode cX2_accepts 4 = .ok (.lookupswitch 69 #[(0, 28), (1, 50)], 28) := by decide +kernel
theorem dX2_accepts_32 : decode cX2_accepts 32 = .ok (.iload_n 1, 1) := by decide +kernel
theorem dX2_accepts_33 : decode cX2_accepts 33 = .ok (.bipush 58, 2) := by decide +kernel
theorem dX2_accepts_35 : decode cX2_accepts 35 = .ok (.if_icmp .ne 10, 3) := by decide +kernel
theorem dX2_accepts_38 : decode cX2_accepts 38 = .ok (.aload_n 0, 1) := by decide +kernel
theorem dX2_accepts_39 : decode cX2_accepts 39 = .ok (.invokevirtual 49, 3) := by decide +kernel
theorem dX2_accepts_42 : decode cX2_accepts 42 = .ok (.goto 11, 3) := by decide +kernel
theorem dX2_accepts_45 : decode cX2_accepts 45 = .ok (.aload_n 0, 1) := by decide +kernel
theorem dX2_accepts_46 : decode cX2_accepts 46 = .ok (.sipush 9999, 3) := by decide +kernel
theorem dX2_accepts_49 : decode cX2_accepts 49 = .ok (.iload_n 1, 1) := by decide +kernel
theorem dX2_accepts_50 : decode cX2_accepts 50 = .ok (.invokevirtual 52, 3) := by decide +kernel
theorem dX2_accepts_53 : decode cX2_accepts 53 = .ok (.ireturn, 1) := by decide +kernel
theorem dX2_accepts_54 : decode cX2_accepts 54 = .ok (.iload_n 1, 1) := by decide +kernel
theorem dX2_accepts_55 : decode cX2_accepts 55 = .ok (.bipush 61, 2) := by decide +kernel
theorem dX2_accepts_57 : decode cX2_accepts 57 = .ok (.if_icmp .ne 10, 3) := by decide +kernel
theorem dX2_accepts_60 : decode cX2_accepts 60 = .ok (.aload_n 0, 1) := by decide +kernel
theorem dX2_accepts_61 : decode cX2_accepts 61 = .ok (.invokevirtual 56, 3) := by decide +kernel
theorem dX2_accepts_64 : decode cX2_accepts 64 = .ok (.goto 8, 3) := by decide +kernel
theorem dX2_accepts_67 : decode cX2_accepts 67 = .ok (.aload_n 0, 1) := by decide +kernel
theorem dX2_accepts_68 : decode cX2_accepts 68 = .ok (.iload_n 1, 1) := by decide +kernel
theorem dX2_accepts_69 : decode cX2_accepts 69 = .ok (.invokevirtual 59, 3) := by decide +kernel
theorem dX2_accepts_72 : decode cX2_accepts 72 = .ok (.ireturn, 1) := by decide +kernel
theorem dX2_accepts_73 : decode cX2_accepts 73 = .ok (.iload_n 1, 1) := by decide +kernel
theorem dX2_accepts_74 : decode cX2_accepts 74 = .ok (.bipush 44, 2) := by decide +kernel
theorem dX2_accepts_76 : decode cX2_accepts 76 = .ok (.if_icmp .ne 10, 3) := by decide +kernel
theorem dX2_accepts_79 : decode cX2_accepts 79 = .ok (.aload_n 0, 1) := by decide +kernel
theorem dX2_accepts_80 : decode cX2_accepts 80 = .ok (.invokevirtual 45, 3) := by decide +kernel
theorem dX2_accepts_83 : decode cX2_accepts 83 = .ok (.goto 11, 3) := by decide +kernel
theorem dX2_accepts_86 : decode cX2_accepts 86 = .ok (.aload_n 0, 1) := by decide +kernel
theorem dX2_accepts_87 : decode cX2_accepts 87 = .ok (.sipush 1000, 3) := by decide +kernel
theorem dX2_accepts_90 : decode cX2_accepts 90 = .ok (.iload_n 1, 1) := by decide +kernel
theorem dX2_accepts_91 : decode cX2_accepts 91 = .ok (.invokevirtual 52, 3) := by decide +kernel
theorem dX2_accepts_94 : decode cX2_accepts 94 = .ok (.ireturn, 1) := by decide +kernel
theorem dX2_endsTime_0 : decode cX2_endsTime 0 = .ok (.aload_n 0, 1) := by decide +kernel
theorem dX2_endsTime_1 : decode cX2_endsTime 1 = .ok (.aload_n 0, 1) := by decide +kernel
theorem dX2_endsTime_2 : decode cX2_endsTime 2 = .ok (.getfield 35, 3) := by decide +kernel
theorem dX2_endsTime_5 : decode cX2_endsTime 5 = .ok (.putfield 29, 3) := by decide +kernel
theorem dX2_endsTime_8 : decode cX2_endsTime 8 = .ok (.aload_n 0, 1) := by decide +kernel
theorem dX2_endsTime_9 : decode cX2_endsTime 9 = .ok (.iconst 0, 1) := by decide +kernel
theorem dX2_endsTime_10 : decode cX2_endsTime 10 = .ok (.putfield 32, 3) := by decide +kernel
theorem dX2_endsTime_13 : decode cX2_endsTime 13 = .ok (.aload_n 0, 1) := by decide +kernel
theorem dX2_endsTime_14 : decode cX2_endsTime 14 = .ok (.iconst 1, 1) := by decide +kernel
theorem dX2_endsTime_15 : decode cX2_endsTime 15 = .ok (.putfield 26, 3) := by decide +kernel
theorem dX2_endsTime_18 : decode cX2_endsTime 18 = .ok (.aload_n 0, 1) := by decide +kernel
theorem dX2_endsTime_19 : decode cX2_endsTime 19 = .ok (.getfield 35, 3) := by decide +kernel
theorem dX2_endsTime_22 : decode cX2_endsTime 22 = .ok (.iconst (-1), 1) := by decide +kernel
theorem dX2_endsTime_23 : decode cX2_endsTime 23 = .ok (.if_icmp .eq 7, 3) := by decide +kernel
theorem dX2_endsTime_26 : decode cX2_endsTime 26 = .ok (.iconst 1, 1) := by decide +kernel
theorem dX2_endsTime_27 : decode cX2_endsTime 27 = .ok (.goto 4, 3) := by decide +kernel
theorem dX2_endsTime_30 : decode cX2_endsTime 30 = .ok (.iconst 0, 1) := by decide +kernel
theorem dX2_endsTime_31 : decode cX2_endsTime 31 = .ok (.ireturn, 1) := by decide +kernel
theorem dX2_endsSet_0 : decode cX2_endsSet 0 = .ok (.aload_n 0, 1) := by decide +kernel
theorem dX2_endsSet_1 : decode cX2_endsSet 1 = .ok (.iconst (-1), 1) := by decide +kernel
theorem dX2_endsSet_2 : decode cX2_endsSet 2 = .ok (.putfield 35, 3) := by decide +kernel
theorem dX2_endsSet_5 : decode cX2_endsSet 5 = .ok (.aload_n 0, 1) := by decide +kernel
theorem dX2_endsSet_6 : decode cX2_endsSet 6 = .ok (.iconst 2, 1) := by decide +kernel
theorem dX2_endsSet_7 : decode cX2_endsSet 7 = .ok (.putfield 26, 3) := by decide +kernel
theorem dX2_endsSet_10 : decode cX2_endsSet 10 = .ok (.aload_n 0, 1) := by decide +kernel
theorem dX2_endsSet_11 : decode cX2_endsSet 11 = .ok (.getfield 32, 3) := by decide +kernel
theorem dX2_endsSet_14 : decode cX2_endsSet 14 = .ok (.ifCond .eq 7, 3) := by decide +kernel
theorem dX2_endsSet_17 : decode cX2_endsSet 17 = .ok (.iconst 1, 1) := by decide +kernel
theorem dX2_endsSet_18 : decode cX2_endsSet 18 = .ok (.goto 4, 3) := by decide +kernel
theorem dX2_endsSet_21 : decode cX2_endsSet 21 = .ok (.iconst 0, 1) := by decide +kernel
theorem dX2_endsSet_22 : decode cX2_endsSet 22 = .ok (.ireturn, 1) := by decide +kernel
theorem dX2_endsCue_0 : decode cX2_endsCue 0 = .ok (.aload_n 0, 1) := by decide +kernel
theorem dX2_endsCue_1 : decode cX2_endsCue 1 = .ok (.getfield 26, 3) := by decide +kernel
theorem dX2_endsCue_4 : decode cX2_endsCue 4 = .ok (.iconst 2, 1) := by decide +kernel
theorem dX2_endsCue_5 : decode cX2_endsCue 5 = .ok (.if_icmp .ne 11, 3) := by decide +kernel
theorem dX2_endsCue_8 : decode cX2_endsCue 8 = .ok (.aload_n 0, 1) := by decide +kernel
theorem dX2_endsCue_9 : decode cX2_endsCue 9 = .ok (.getfield 35, 3) := by decide +kernel
theorem dX2_endsCue_12 : decode cX2_endsCue 12 = .ok (.iconst (-1), 1) := by decide +kernel
theorem dX2_endsCue_13 : decode cX2_endsCue 13 = .ok (.if_icmp .ne 5, 3) := by decide +kernel
theorem dX2_endsCue_16 : decode cX2_endsCue 16 = .ok (.iconst 0, 1) := by decide +kernel
theorem dX2_endsCue_17 : decode cX2_endsCue 17 = .ok (.ireturn, 1) := by decide +kernel
theorem dX2_endsCue_18 : decode cX2_endsCue 18 = .ok (.aload_n 0, 1) := by decide +kernel
theorem dX2_endsCue_19 : decode cX2_endsCue 19 = .ok (.getfield 12, 3) := by decide +kernel
theorem dX2_endsCue_22 : decode cX2_endsCue 22 = .ok (.aload_n 0, 1) := by decide +kernel
theorem dX2_endsCue_23 : decode cX2_endsCue 23 = .ok (.getfield 29, 3) := by decide +kernel
theorem dX2_endsCue_26 : decode cX2_endsCue 26 = .ok (.aload_n 0, 1) := by decide +kernel
theorem dX2_endsCue_27 : decode cX2_endsCue 27 = .ok (.getfield 32, 3) := by decide +kernel
theorem dX2_endsCue_30 : decode cX2_endsCue 30 = .ok (.aload_n 0, 1) := by decide +kernel
theorem dX2_endsCue_31 : decode cX2_endsCue 31 = .ok (.getfield 35, 3) := by decide +kernel
theorem dX2_endsCue_34 : decode cX2_endsCue 34 = .ok (.invokevirtual 62, 3) := by decide +kernel
theorem dX2_endsCue_37 : decode cX2_endsCue 37 = .ok (.pop, 1) := by decide +kernel
theorem dX2_endsCue_38 : decode cX2_endsCue 38 = .ok (.aload_n 0, 1) := by decide +kernel
theorem dX2_endsCue_39 : decode cX2_endsCue 39 = .ok (.iconst (-1), 1) := by decide +kernel
theorem dX2_endsCue_40 : decode cX2_endsCue 40 = .ok (.putfield 35, 3) := by decide +kernel
theorem dX2_endsCue_43 : decode cX2_endsCue 43 = .ok (.aload_n 0, 1) := by decide +kernel
theorem dX2_endsCue_44 : decode cX2_endsCue 44 = .ok (.iconst 0, 1) := by decide +kernel
theorem dX2_endsCue_45 : decode cX2_endsCue 45 = .ok (.putfield 26, 3) := by decide +kernel
theorem dX2_endsCue_48 : decode cX2_endsCue 48 = .ok (.iconst 1, 1) := by decide +kernel
theorem dX2_endsCue_49 : decode cX2_endsCue 49 = .ok (.ireturn, 1) := by decide +kernel
theorem dX2_isDigitUpTo_0 : decode cX2_isDigitUpTo 0 = .ok (.iload_n 2, 1) := by decide +kernel
theorem dX2_isDigitUpTo_1 : decode cX2_isDigitUpTo 1 = .ok (.bipush 48, 2) := by decide +kernel
theorem dX2_isDigitUpTo_3 : decode cX2_isDigitUpTo 3 = .ok (.if_icmp .lt 16, 3) := by decide +kernel
theorem dX2_isDigitUpTo_6 : decode cX2_isDigitUpTo 6 = .ok (.iload_n 2, 1) := by decide +kernel
theorem dX2_isDigitUpTo_7 : decode cX2_isDigitUpTo 7 = .ok (.bipush 57, 2) := by decide +kernel
theorem dX2_isDigitUpTo_9 : decode cX2_isDigitUpTo 9 = .ok (.if_icmp .gt 10, 3) := by decide +kernel
theorem dX2_isDigitUpTo_12 : decode cX2_isDigitUpTo 12 = .ok (.aload_n 0, 1) := by decide +kernel
theorem dX2_isDigitUpTo_13 : decode cX2_isDigitUpTo 13 = .ok (.getfield 35, 3) := by decide +kernel
theorem dX2_isDigitUpTo_16 : decode cX2_isDigitUpTo 16 = .ok (.ifCond .ne 5, 3) := by decide +kernel
theorem dX2_isDigitUpTo_19 : decode cX2_isDigitUpTo 19 = .ok (.iconst 0, 1) := by decide +kernel
theorem dX2_isDigitUpTo_20 : decode cX2_isDigitUpTo 20 = .ok (.ireturn, 1) := by decide +kernel
theorem dX2_isDigitUpTo_21 : decode cX2_isDigitUpTo 21 = .ok (.iload_n 2, 1) := by decide +kernel
theorem dX2_isDigitUpTo_22 : decode cX2_isDigitUpTo 22 = .ok (.bipush 48, 2) := by decide +kernel
theorem dX2_isDigitUpTo_24 : decode cX2_isDigitUpTo 24 = .ok (.isub, 1) := by decide +kernel
theorem dX2_isDigitUpTo_25 : decode cX2_isDigitUpTo 25 = .ok (.istore_n 3, 1) := by decide +kernel
theorem dX2_isDigitUpTo_26 : decode cX2_isDigitUpTo 26 = .ok (.aload_n 0, 1) := by decide +kernel
theorem dX2_isDigitUpTo_27 : decode cX2_isDigitUpTo 27 = .ok (.aload_n 0, 1) := by decide +kernel
theorem dX2_isDigitUpTo_28 : decode cX2_isDigitUpTo 28 = .ok (.getfield 35, 3) := by decide +kernel
theorem dX2_isDigitUpTo_31 : decode cX2_isDigitUpTo 31 = .ok (.iconst (-1), 1) := by decide +kernel
theorem dX2_isDigitUpTo_32 : decode cX2_isDigitUpTo 32 = .ok (.if_icmp .ne 7, 3) := by decide +kernel
theorem dX2_isDigitUpTo_35 : decode cX2_isDigitUpTo 35 = .ok (.iload_n 3, 1) := by decide +kernel
theorem dX2_isDigitUpTo_36 : decode cX2_isDigitUpTo 36 = .ok (.goto 12, 3) := by decide +kernel
theorem dX2_isDigitUpTo_39 : decode cX2_isDigitUpTo 39 = .ok (.bipush 10, 2) := by decide +kernel
theorem dX2_isDigitUpTo_41 : decode cX2_isDigitUpTo 41 = .ok (.aload_n 0, 1) := by decide +kernel
theorem dX2_isDigitUpTo_42 : decode cX2_isDigitUpTo 42 = .ok (.getfield 35, 3) := by decide +kernel
theorem dX2_isDigitUpTo_45 : decode cX2_isDigitUpTo 45 = .ok (.imul, 1) := by decide +kernel
theorem dX2_isDigitUpTo_46 : decode cX2_isDigitUpTo 46 = .ok (.iload_n 3, 1) := by decide +kernel
theorem dX2_isDigitUpTo_47 : decode cX2_isDigitUpTo 47 = .ok (.iadd, 1) := by decide +kernel
theorem dX2_isDigitUpTo_48 : decode cX2_isDigitUpTo 48 = .ok (.putfield 35, 3) := by decide +kernel
theorem dX2_isDigitUpTo_51 : decode cX2_isDigitUpTo 51 = .ok (.aload_n 0, 1) := by decide +kernel
theorem dX2_isDigitUpTo_52 : decode cX2_isDigitUpTo 52 = .ok (.getfield 35, 3) := by decide +kernel
theorem dX2_isDigitUpTo_55 : decode cX2_isDigitUpTo 55 = .ok (.iload_n 1, 1) := by decide +kernel
theorem dX2_isDigitUpTo_56 : decode cX2_isDigitUpTo 56 = .ok (.if_icmp .gt 7, 3) := by decide +kernel
theorem dX2_isDigitUpTo_59 : decode cX2_isDigitUpTo 59 = .ok (.iconst 1, 1) := by decide +kernel
theorem dX2_isDigitUpTo_60 : decode cX2_isDigitUpTo 60 = .ok (.goto 4, 3) := by decide +kernel
theorem dX2_isDigitUpTo_63 : decode cX2_isDigitUpTo 63 = .ok (.iconst 0, 1) := by decide +kernel
theorem dX2_isDigitUpTo_64 : decode cX2_isDigitUpTo 64 = .ok (.ireturn, 1) := by decide +kernel
theorem dX2_isLetter_0 : decode cX2_isLetter 0 = .ok (.iload_n 1, 1) := by decide +kernel
theorem dX2_isLetter_1 : decode cX2_isLetter 1 = .ok (.bipush 97, 2) := by decide +kernel
theorem dX2_isLetter_3 : decode cX2_isLetter 3 = .ok (.if_icmp .lt 9, 3) := by decide +kernel
theorem dX2_isLetter_6 : decode cX2_isLetter 6 = .ok (.iload_n 1, 1) := by decide +kernel
theorem dX2_isLetter_7 : decode cX2_isLetter 7 = .ok (.bipush 108, 2) := by decide +kernel
theorem dX2_isLetter_9 : decode cX2_isLetter 9 = .ok (.if_icmp .le 5, 3) := by decide +kernel
theorem dX2_isLetter_12 : decode cX2_isLetter 12 = .ok (.iconst 0, 1) := by decide +kernel
theorem dX2_isLetter_13 : decode cX2_isLetter 13 = .ok (.ireturn, 1) := by decide +kernel
theorem dX2_isLetter_14 : decode cX2_isLetter 14 = .ok (.iconst 1, 1) := by decide +kernel
theorem dX2_isLetter_15 : decode cX2_isLetter 15 = .ok (.iload_n 1, 1) := by decide +kernel
theorem dX2_isLetter_16 : decode cX2_isLetter 16 = .ok (.bipush 97, 2) := by decide +kernel
theorem dX2_isLetter_18 : decode cX2_isLetter 18 = .ok (.isub, 1) := by decide +kernel
theorem dX2_isLetter_19 : decode cX2_isLetter 19 = .ok (.ishl, 1) := by decide +kernel
theorem dX2_isLetter_20 : decode cX2_isLetter 20 = .ok (.istore_n 2, 1) := by decide +kernel
theorem dX2_isLetter_21 : decode cX2_isLetter 21 = .ok (.iload_n 2, 1) := by decide +kernel
theorem dX2_isLetter_22 : decode cX2_isLetter 22 = .ok (.aload_n 0, 1) := by decide +kernel
theorem dX2_isLetter_23 : decode cX2_isLetter 23 = .ok (.getfield 32, 3) := by decide +kernel
theorem dX2_isLetter_26 : decode cX2_isLetter 26 = .ok (.if_icmp .le 7, 3) := by decide +kernel
theorem dX2_isLetter_29 : decode cX2_isLetter 29 = .ok (.iconst 1, 1) := by decide +kernel
theorem dX2_isLetter_30 : decode cX2_isLetter 30 = .ok (.goto 4, 3) := by decide +kernel
theorem dX2_isLetter_33 : decode cX2_isLetter 33 = .ok (.iconst 0, 1) := by decide +kernel
theorem dX2_isLetter_34 : decode cX2_isLetter 34 = .ok (.istore_n 3, 1) := by decide +kernel
theorem dX2_isLetter_35 : decode cX2_isLetter 35 = .ok (.aload_n 0, 1) := by decide +kernel
theorem dX2_isLetter_36 : decode cX2_isLetter 36 = .ok (.dup, 1) := by decide +kernel
theorem dX2_isLetter_37 : decode cX2_isLetter 37 = .ok (.getfield 32, 3) := by decide +kernel
theorem dX2_isLetter_40 : decode cX2_isLetter 40 = .ok (.iload_n 2, 1) := by decide +kernel
theorem dX2_isLetter_41 : decode cX2_isLetter 41 = .ok (.ior, 1) := by decide +kernel
theorem dX2_isLetter_42 : decode cX2_isLetter 42 = .ok (.putfield 32, 3) := by decide +kernel
theorem dX2_isLetter_45 : decode cX2_isLetter 45 = .ok (.iload_n 3, 1) := by decide +kernel
theorem dX2_isLetter_46 : decode cX2_isLetter 46 = .ok (.ireturn, 1) := by decide +kernel
theorem dX3_init_0 : decode cX3_init 0 = .ok (.aload_n 0, 1) := by decide +kernel
theorem dX3_init_1 : decode cX3_init 1 = .ok (.invokespecial 3, 3) := by decide +kernel
theorem dX3_init_4 : decode cX3_init 4 = .ok (.aload_n 0, 1) := by decide +kernel
theorem dX3_init_5 : decode cX3_init 5 = .ok (.new 9, 3) := by decide +kernel
theorem dX3_init_8 : decode cX3_init 8 = .ok (.dup, 1) := by decide +kernel
theorem dX3_init_9 : decode cX3_init 9 = .ok (.iconst 3, 1) := by decide +kernel
theorem dX3_init_10 : decode cX3_init 10 = .ok (.getstatic 11, 3) := by decide +kernel
theorem dX3_init_13 : decode cX3_init 13 = .ok (.getstatic 15, 3) := by decide +kernel
theorem dX3_init_16 : decode cX3_init 16 = .ok (.getstatic 18, 3) := by decide +kernel
theorem dX3_init_19 : decode cX3_init 19 = .ok (.invokespecial 21, 3) := by decide +kernel
theorem dX3_init_22 : decode cX3_init 22 = .ok (.putfield 24, 3) := by decide +kernel
theorem dX3_init_25 : decode cX3_init 25 = .ok (.aload_n 0, 1) := by decide +kernel
theorem dX3_init_26 : decode cX3_init 26 = .ok (.iconst 3, 1) := by decide +kernel
theorem dX3_init_27 : decode cX3_init 27 = .ok (.newarray .int, 2) := by decide +kernel
theorem dX3_init_29 : decode cX3_init 29 = .ok (.putfield 30, 3) := by decide +kernel
theorem dX3_init_32 : decode cX3_init 32 = .ok (.aload_n 0, 1) := by decide +kernel
theorem dX3_init_33 : decode cX3_init 33 = .ok (.iconst 3, 1) := by decide +kernel
theorem dX3_init_34 : decode cX3_init 34 = .ok (.newarray .int, 2) := by decide +kernel
theorem dX3_init_36 : decode cX3_init 36 = .ok (.putfield 33, 3) := by decide +kernel
theorem dX3_init_39 : decode cX3_init 39 = .ok (.aload_n 0, 1) := by decide +kernel
theorem dX3_init_40 : decode cX3_init 40 = .ok (.iconst 3, 1) := by decide +kernel
theorem dX3_init_41 : decode cX3_init 41 = .ok (.newarray .int, 2) := by decide +kernel
theorem dX3_init_43 : decode cX3_init 43 = .ok (.putfield 36, 3) := by decide +kernel
theorem dX3_init_46 : decode cX3_init 46 = .ok (.return_, 1) := by decide +kernel
theorem dX3_goBack_0 : decode cX3_goBack 0 = .ok (.aload_n 0, 1) := by decide +kernel
theorem dX3_goBack_1 : decode cX3_goBack 1 = .ok (.getfield 30, 3) := by decide +kernel
theorem dX3_goBack_4 : decode cX3_goBack 4 = .ok (.invokestatic 39, 3) := by decide +kernel
theorem dX3_goBack_7 : decode cX3_goBack 7 = .ok (.aload_n 0, 1) := by decide +kernel
theorem dX3_goBack_8 : decode cX3_goBack 8 = .ok (.getfield 33, 3) := by decide +kernel
theorem dX3_goBack_11 : decode cX3_goBack 11 = .ok (.invokestatic 39, 3) := by decide +kernel
theorem dX3_goBack_14 : decode cX3_goBack 14 = .ok (.aload_n 0, 1) := by decide +kernel
theorem dX3_goBack_15 : decode cX3_goBack 15 = .ok (.getfield 36, 3) := by decide +kernel
theorem dX3_goBack_18 : decode cX3_goBack 18 = .ok (.invokestatic 39, 3) := by decide +kernel
theorem dX3_goBack_21 : decode cX3_goBack 21 = .ok (.return_, 1) := by decide +kernel
theorem dX3_copy_0 : decode cX3_copy 0 = .ok (.aload_n 0, 1) := by decide +kernel
theorem dX3_copy_1 : decode cX3_copy 1 = .ok (.getfield 24, 3) := by decide +kernel
theorem dX3_copy_4 : decode cX3_copy 4 = .ok (.aload_n 1, 1) := by decide +kernel
theorem dX3_copy_5 : decode cX3_copy 5 = .ok (.getfield 24, 3) := by decide +kernel
theorem dX3_copy_8 : decode cX3_copy 8 = .ok (.invokevirtual 43, 3) := by decide +kernel
theorem dX3_copy_11 : decode cX3_copy 11 = .ok (.aload_n 1, 1) := by decide +kernel
theorem dX3_copy_12 : decode cX3_copy 12 = .ok (.getfield 30, 3) := by decide +kernel
theorem dX3_copy_15 : decode cX3_copy 15 = .ok (.aload_n 0, 1) := by decide +kernel
theorem dX3_copy_16 : decode cX3_copy 16 = .ok (.getfield 30, 3) := by decide +kernel
theorem dX3_copy_19 : decode cX3_copy 19 = .ok (.invokestatic 47, 3) := by decide +kernel
theorem dX3_copy_22 : decode cX3_copy 22 = .ok (.aload_n 1, 1) := by decide +kernel
theorem dX3_copy_23 : decode cX3_copy 23 = .ok (.getfield 33, 3) := by decide +kernel
theorem dX3_copy_26 : decode cX3_copy 26 = .ok (.aload_n 0, 1) := by decide +kernel
theorem dX3_copy_27 : decode cX3_copy 27 = .ok (.getfield 33, 3) := by decide +kernel
theorem dX3_copy_30 : decode cX3_copy 30 = .ok (.invokestatic 47, 3) := by decide +kernel
theorem dX3_copy_33 : decode cX3_copy 33 = .ok (.aload_n 1, 1) := by decide +kernel
theorem dX3_copy_34 : decode cX3_copy 34 = .ok (.getfield 36, 3) := by decide +kernel
theorem dX3_copy_37 : decode cX3_copy 37 = .ok (.aload_n 0, 1) := by decide +kernel
theorem dX3_copy_38 : decode cX3_copy 38 = .ok (.getfield 36, 3) := by decide +kernel
theorem dX3_copy_41 : decode cX3_copy 41 = .ok (.invokestatic 47, 3) := by decide +kernel
theorem dX3_copy_44 : decode cX3_copy 44 = .ok (.return_, 1) := by decide +kernel
theorem dX3_supply_0 : decode cX3_supply 0 = .ok (.iconst 0, 1) := by decide +kernel
theorem dX3_supply_1 : decode cX3_supply 1 = .ok (.istore_n 2, 1) := by decide +kernel
theorem dX3_supply_2 : decode cX3_supply 2 = .ok (.iload_n 2, 1) := by decide +kernel
theorem dX3_supply_3 : decode cX3_supply 3 = .ok (.iconst 3, 1) := by decide +kernel
theorem dX3_supply_4 : decode cX3_supply 4 = .ok (.if_icmp .ge 89, 3) := by decide +kernel
theorem dX3_supply_7 : decode cX3_supply 7 = .ok (.aload_n 0, 1) := by decide +kernel
theorem dX3_supply_8 : decode cX3_supply 8 = .ok (.getfield 33, 3) := by decide +kernel
theorem dX3_supply_11 : decode cX3_supply 11 = .ok (.iload_n 2, 1) := by decide +kernel
theorem dX3_supply_12 : decode cX3_supply 12 = .ok (.aload_n 1, 1) := by decide +kernel
theorem dX3_supply_13 : decode cX3_supply 13 = .ok (.iload_n 2, 1) := by decide +kernel
theorem dX3_supply_14 : decode cX3_supply 14 = .ok (.invokevirtual 51, 3) := by decide +kernel
theorem dX3_supply_17 : decode cX3_supply 17 = .ok (.iastore, 1) := by decide +kernel
theorem dX3_supply_18 : decode cX3_supply 18 = .ok (.aload_n 0, 1) := by decide +kernel
theorem dX3_supply_19 : decode cX3_supply 19 = .ok (.getfield 33, 3) := by decide +kernel
theorem dX3_supply_22 : decode cX3_supply 22 = .ok (.iload_n 2, 1) := by decide +kernel
theorem dX3_supply_23 : decode cX3_supply 23 = .ok (.iaload, 1) := by decide +kernel
theorem dX3_supply_24 : decode cX3_supply 24 = .ok (.sipush 1000, 3) := by decide +kernel
theorem dX3_supply_27 : decode cX3_supply 27 = .ok (.aload_n 0, 1) := by decide +kernel
theorem dX3_supply_28 : decode cX3_supply 28 = .ok (.getfield 24, 3) := by decide +kernel
theorem dX3_supply_31 : decode cX3_supply 31 = .ok (.iload_n 2, 1) := by decide +kernel
theorem dX3_supply_32 : decode cX3_supply 32 = .ok (.iconst 0, 1) := by decide +kernel
theorem dX3_supply_33 : decode cX3_supply 33 = .ok (.invokevirtual 57, 3) := by decide +kernel
theorem dX3_supply_36 : decode cX3_supply 36 = .ok (.imul, 1) := by decide +kernel
theorem dX3_supply_37 : decode cX3_supply 37 = .ok (.invokestatic 61, 3) := by decide +kernel
theorem dX3_supply_40 : decode cX3_supply 40 = .ok (.istore_n 3, 1) := by decide +kernel
theorem dX3_supply_41 : decode cX3_supply 41 = .ok (.aload_n 0, 1) := by decide +kernel
theorem dX3_supply_42 : decode cX3_supply 42 = .ok (.getfield 30, 3) := by decide +kernel
theorem dX3_supply_45 : decode cX3_supply 45 = .ok (.iload_n 2, 1) := by decide +kernel
theorem dX3_supply_46 : decode cX3_supply 46 = .ok (.aload_n 0, 1) := by decide +kernel
theorem dX3_supply_47 : decode cX3_supply 47 = .ok (.getfield 30, 3) := by decide +kernel
theorem dX3_supply_50 : decode cX3_supply 50 = .ok (.iload_n 2, 1) := by decide +kernel
theorem dX3_supply_51 : decode cX3_supply 51 = .ok (.iaload, 1) := by decide +kernel
theorem dX3_supply_52 : decode cX3_supply 52 = .ok (.iload_n 3, 1) := by decide +kernel
theorem dX3_supply_53 : decode cX3_supply 53 = .ok (.sipush 1000, 3) := by decide +kernel
theorem dX3_supply_56 : decode cX3_supply 56 = .ok (.aload_n 0, 1) := by decide +kernel
theorem dX3_supply_57 : decode cX3_supply 57 = .ok (.getfield 24, 3) := by decide +kernel
theorem dX3_supply_60 : decode cX3_supply 60 = .ok (.iload_n 2, 1) := by decide +kernel
theorem dX3_supply_61 : decode cX3_supply 61 = .ok (.iconst 1, 1) := by decide +kernel
theorem dX3_supply_62 : decode cX3_supply 62 = .ok (.invokevirtual 57, 3) := by decide +kernel
theorem dX3_supply_65 : decode cX3_supply 65 = .ok (.imul, 1) := by decide +kernel
theorem dX3_supply_66 : decode cX3_supply 66 = .ok (.invokestatic 66, 3) := by decide +kernel
theorem dX3_supply_69 : decode cX3_supply 69 = .ok (.iastore, 1) := by decide +kernel
theorem dX3_supply_70 : decode cX3_supply 70 = .ok (.aload_n 1, 1) := by decide +kernel
theorem dX3_supply_71 : decode cX3_supply 71 = .ok (.iload_n 2, 1) := by decide +kernel
theorem dX3_supply_72 : decode cX3_supply 72 = .ok (.aload_n 0, 1) := by decide +kernel
theorem dX3_supply_73 : decode cX3_supply 73 = .ok (.getfield 33, 3) := by decide +kernel
theorem dX3_supply_76 : decode cX3_supply 76 = .ok (.iload_n 2, 1) := by decide +kernel
theorem dX3_supply_77 : decode cX3_supply 77 = .ok (.iaload, 1) := by decide +kernel
theorem dX3_supply_78 : decode cX3_supply 78 = .ok (.aload_n 0, 1) := by decide +kernel
theorem dX3_supply_79 : decode cX3_supply 79 = .ok (.getfield 30, 3) := by decide +kernel
theorem dX3_supply_82 : decode cX3_supply 82 = .ok (.iload_n 2, 1) := by decide +kernel
theorem dX3_supply_83 : decode cX3_supply 83 = .ok (.iaload, 1) := by decide +kernel
theorem dX3_supply_84 : decode cX3_supply 84 = .ok (.invokevirtual 70, 3) := by decide +kernel
theorem dX3_supply_87 : decode cX3_supply 87 = .ok (.iinc 2 1, 3) := by decide +kernel
theorem dX3_supply_90 : decode cX3_supply 90 = .ok (.goto (-88), 3) := by decide +kernel
theorem dX3_supply_93 : decode cX3_supply 93 = .ok (.return_, 1) := by decide +kernel
theorem dX3_countShort_0 : decode cX3_countShort 0 = .ok (.iconst 0, 1) := by decide +kernel
theorem dX3_countShort_1 : decode cX3_countShort 1 = .ok (.istore_n 1, 1) := by decide +kernel
theorem dX3_countShort_2 : decode cX3_countShort 2 = .ok (.iload_n 1, 1) := by decide +kernel
theorem dX3_countShort_3 : decode cX3_countShort 3 = .ok (.iconst 3, 1) := by decide +kernel
theorem dX3_countShort_4 : decode cX3_countShort 4 = .ok (.if_icmp .ge 27, 3) := by decide +kernel
theorem dX3_countShort_7 : decode cX3_countShort 7 = .ok (.aload_n 0, 1) := by decide +kernel
theorem dX3_countShort_8 : decode cX3_countShort 8 = .ok (.iload_n 1, 1) := by decide +kernel
theorem dX3_countShort_9 : decode cX3_countShort 9 = .ok (.invokevirtual 74, 3) := by decide +kernel
theorem dX3_countShort_12 : decode cX3_countShort 12 = .ok (.ifCond .eq 13, 3) := by decide +kernel
theorem dX3_countShort_15 : decode cX3_countShort 15 = .ok (.aload_n 0, 1) := by decide +kernel
theorem dX3_countShort_16 : decode cX3_countShort 16 = .ok (.getfield 36, 3) := by decide +kernel
theorem dX3_countShort_19 : decode cX3_countShort 19 = .ok (.iload_n 1, 1) := by decide +kernel
theorem dX3_countShort_20 : decode cX3_countShort 20 = .ok (.dup2, 1) := by decide +kernel
theorem dX3_countShort_21 : decode cX3_countShort 21 = .ok (.iaload, 1) := by decide +kernel
theorem dX3_countShort_22 : decode cX3_countShort 22 = .ok (.iconst 1, 1) := by decide +kernel
theorem dX3_countShort_23 : decode cX3_countShort 23 = .ok (.iadd, 1) := by decide +kernel
theorem dX3_countShort_24 : decode cX3_countShort 24 = .ok (.iastore, 1) := by decide +kernel
theorem dX3_countShort_25 : decode cX3_countShort 25 = .ok (.iinc 1 1, 3) := by decide +kernel
theorem dX3_countShort_28 : decode cX3_countShort 28 = .ok (.goto (-26), 3) := by decide +kernel
theorem dX3_countShort_31 : decode cX3_countShort 31 = .ok (.return_, 1) := by decide +kernel
theorem dX3_isShort_0 : decode cX3_isShort 0 = .ok (.aload_n 0, 1) := by decide +kernel
theorem dX3_isShort_1 : decode cX3_isShort 1 = .ok (.getfield 33, 3) := by decide +kernel
theorem dX3_isShort_4 : decode cX3_isShort 4 = .ok (.iload_n 1, 1) := by decide +kernel
theorem dX3_isShort_5 : decode cX3_isShort 5 = .ok (.iaload, 1) := by decide +kernel
theorem dX3_isShort_6 : decode cX3_isShort 6 = .ok (.aload_n 0, 1) := by decide +kernel
theorem dX3_isShort_7 : decode cX3_isShort 7 = .ok (.getfield 30, 3) := by decide +kernel
theorem dX3_isShort_10 : decode cX3_isShort 10 = .ok (.iload_n 1, 1) := by decide +kernel
theorem dX3_isShort_11 : decode cX3_isShort 11 = .ok (.iaload, 1) := by decide +kernel
theorem dX3_isShort_12 : decode cX3_isShort 12 = .ok (.if_icmp .le 7, 3) := by decide +kernel
theorem dX3_isShort_15 : decode cX3_isShort 15 = .ok (.iconst 1, 1) := by decide +kernel
theorem dX3_isShort_16 : decode cX3_isShort 16 = .ok (.goto 4, 3) := by decide +kernel
theorem dX3_isShort_19 : decode cX3_isShort 19 = .ok (.iconst 0, 1) := by decide +kernel
theorem dX3_isShort_20 : decode cX3_isShort 20 = .ok (.ireturn, 1) := by decide +kernel
theorem dX3_someShort_0 : decode cX3_someShort 0 = .ok (.iconst 0, 1) := by decide +kernel
theorem dX3_someShort_1 : decode cX3_someShort 1 = .ok (.istore_n 1, 1) := by decide +kernel
theorem dX3_someShort_2 : decode cX3_someShort 2 = .ok (.iload_n 1, 1) := by decide +kernel
theorem dX3_someShort_3 : decode cX3_someShort 3 = .ok (.iconst 3, 1) := by decide +kernel
theorem dX3_someShort_4 : decode cX3_someShort 4 = .ok (.if_icmp .ge 19, 3) := by decide +kernel
theorem dX3_someShort_7 : decode cX3_someShort 7 = .ok (.aload_n 0, 1) := by decide +kernel
theorem dX3_someShort_8 : decode cX3_someShort 8 = .ok (.iload_n 1, 1) := by decide +kernel
theorem dX3_someShort_9 : decode cX3_someShort 9 = .ok (.invokevirtual 74, 3) := by decide +kernel
theorem dX3_someShort_12 : decode cX3_someShort 12 = .ok (.ifCond .eq 5, 3) := by decide +kernel
theorem dX3_someShort_15 : decode cX3_someShort 15 = .ok (.iconst 1, 1) := by decide +kernel
theorem dX3_someShort_16 : decode cX3_someShort 16 = .ok (.ireturn, 1) := by decide +kernel
theorem dX3_someShort_17 : decode cX3_someShort 17 = .ok (.iinc 1 1, 3) := by decide +kernel
theorem dX3_someShort_20 : decode cX3_someShort 20 = .ok (.goto (-18), 3) := by decide +kernel
theorem dX3_someShort_23 : decode cX3_someShort 23 = .ok (.iconst 0, 1) := by decide +kernel
theorem dX3_someShort_24 : decode cX3_someShort 24 = .ok (.ireturn, 1) := by decide +kernel
theorem dX4_init_0 : decode cX4_init 0 = .ok (.aload_n 0, 1) := by decide +kernel
theorem dX4_init_1 : decode cX4_init 1 = .ok (.invokespecial 3, 3) := by decide +kernel
theorem dX4_init_4 : decode cX4_init 4 = .ok (.aload_n 0, 1) := by decide +kernel
theorem dX4_init_5 : decode cX4_init 5 = .ok (.iconst 0, 1) := by decide +kernel
theorem dX4_init_6 : decode cX4_init 6 = .ok (.iload_n 1, 1) := by decide +kernel
theorem dX4_init_7 : decode cX4_init 7 = .ok (.invokestatic 9, 3) := by decide +kernel
theorem dX4_init_10 : decode cX4_init 10 = .ok (.putfield 15, 3) := by decide +kernel
theorem dX4_init_13 : decode cX4_init 13 = .ok (.aload_n 0, 1) := by decide +kernel
theorem dX4_init_14 : decode cX4_init 14 = .ok (.aload_n 2, 1) := by decide +kernel
theorem dX4_init_15 : decode cX4_init 15 = .ok (.putfield 21, 3) := by decide +kernel
theorem dX4_init_18 : decode cX4_init 18 = .ok (.aload_n 0, 1) := by decide +kernel
theorem dX4_init_19 : decode cX4_init 19 = .ok (.aload_n 3, 1) := by decide +kernel
theorem dX4_init_20 : decode cX4_init 20 = .ok (.putfield 25, 3) := by decide +kernel
theorem dX4_init_23 : decode cX4_init 23 = .ok (.aload_n 0, 1) := by decide +kernel
theorem dX4_init_24 : decode cX4_init 24 = .ok (.aload 4, 2) := by decide +kernel
theorem dX4_init_26 : decode cX4_init 26 = .ok (.putfield 28, 3) := by decide +kernel
theorem dX4_init_29 : decode cX4_init 29 = .ok (.aload_n 0, 1) := by decide +kernel
theorem dX4_init_30 : decode cX4_init 30 = .ok (.aload_n 0, 1) := by decide +kernel
theorem dX4_init_31 : decode cX4_init 31 = .ok (.getfield 15, 3) := by decide +kernel
theorem dX4_init_34 : decode cX4_init 34 = .ok (.aload 4, 2) := by decide +kernel
theorem dX4_init_36 : decode cX4_init 36 = .ok (.arraylength, 1) := by decide +kernel
theorem dX4_init_37 : decode cX4_init 37 = .ok (.imul, 1) := by decide +kernel
theorem dX4_init_38 : decode cX4_init 38 = .ok (.newarray .int, 2) := by decide +kernel
theorem dX4_init_40 : decode cX4_init 40 = .ok (.putfield 31, 3) := by decide +kernel
theorem dX4_init_43 : decode cX4_init 43 = .ok (.aload_n 0, 1) := by decide +kernel
theorem dX4_init_44 : decode cX4_init 44 = .ok (.invokevirtual 34, 3) := by decide +kernel
theorem dX4_init_47 : decode cX4_init 47 = .ok (.return_, 1) := by decide +kernel
theorem dX4_reset_0 : decode cX4_reset 0 = .ok (.iconst 0, 1) := by decide +kernel
theorem dX4_reset_1 : decode cX4_reset 1 = .ok (.istore_n 1, 1) := by decide +kernel
theorem dX4_reset_2 : decode cX4_reset 2 = .ok (.iload_n 1, 1) := by decide +kernel
theorem dX4_reset_3 : decode cX4_reset 3 = .ok (.aload_n 0, 1) := by decide +kernel
theorem dX4_reset_4 : decode cX4_reset 4 = .ok (.getfield 15, 3) := by decide +kernel
theorem dX4_reset_7 : decode cX4_reset 7 = .ok (.if_icmp .ge 33, 3) := by decide +kernel
theorem dX4_reset_10 : decode cX4_reset 10 = .ok (.aload_n 0, 1) := by decide +kernel
theorem dX4_reset_11 : decode cX4_reset 11 = .ok (.getfield 28, 3) := by decide +kernel
theorem dX4_reset_14 : decode cX4_reset 14 = .ok (.iconst 0, 1) := by decide +kernel
theorem dX4_reset_15 : decode cX4_reset 15 = .ok (.aload_n 0, 1) := by decide +kernel
theorem dX4_reset_16 : decode cX4_reset 16 = .ok (.getfield 31, 3) := by decide +kernel
theorem dX4_reset_19 : decode cX4_reset 19 = .ok (.iload_n 1, 1) := by decide +kernel
theorem dX4_reset_20 : decode cX4_reset 20 = .ok (.aload_n 0, 1) := by decide +kernel
theorem dX4_reset_21 : decode cX4_reset 21 = .ok (.getfield 28, 3) := by decide +kernel
theorem dX4_reset_24 : decode cX4_reset 24 = .ok (.arraylength, 1) := by decide +kernel
theorem dX4_reset_25 : decode cX4_reset 25 = .ok (.imul, 1) := by decide +kernel
theorem dX4_reset_26 : decode cX4_reset 26 = .ok (.aload_n 0, 1) := by decide +kernel
theorem dX4_reset_27 : decode cX4_reset 27 = .ok (.getfield 28, 3) := by decide +kernel
theorem dX4_reset_30 : decode cX4_reset 30 = .ok (.arraylength, 1) := by decide +kernel
theorem dX4_reset_31 : decode cX4_reset 31 = .ok (.invokestatic 37, 3) := by decide +kernel
theorem dX4_reset_34 : decode cX4_reset 34 = .ok (.iinc 1 1, 3) := by decide +kernel
theorem dX4_reset_37 : decode cX4_reset 37 = .ok (.goto (-35), 3) := by decide +kernel
theorem dX4_reset_40 : decode cX4_reset 40 = .ok (.return_, 1) := by decide +kernel
theorem dX4_value_0 : decode cX4_value 0 = .ok (.iload_n 1, 1) := by decide +kernel
theorem dX4_value_1 : decode cX4_value 1 = .ok (.aload_n 0, 1) := by decide +kernel
theorem dX4_value_2 : decode cX4_value 2 = .ok (.getfield 28, 3) := by decide +kernel
theorem dX4_value_5 : decode cX4_value 5 = .ok (.arraylength, 1) := by decide +kernel
theorem dX4_value_6 : decode cX4_value 6 = .ok (.imul, 1) := by decide +kernel
theorem dX4_value_7 : decode cX4_value 7 = .ok (.iload_n 2, 1) := by decide +kernel
theorem dX4_value_8 : decode cX4_value 8 = .ok (.iadd, 1) := by decide +kernel
theorem dX4_value_9 : decode cX4_value 9 = .ok (.istore_n 3, 1) := by decide +kernel
theorem dX4_value_10 : decode cX4_value 10 = .ok (.iload_n 3, 1) := by decide +kernel
theorem dX4_value_11 : decode cX4_value 11 = .ok (.ifCond .lt 21, 3) := by decide +kernel
theorem dX4_value_14 : decode cX4_value 14 = .ok (.iload_n 3, 1) := by decide +kernel
theorem dX4_value_15 : decode cX4_value 15 = .ok (.aload_n 0, 1) := by decide +kernel
theorem dX4_value_16 : decode cX4_value 16 = .ok (.getfield 31, 3) := by decide +kernel
theorem dX4_value_19 : decode cX4_value 19 = .ok (.arraylength, 1) := by decide +kernel
theorem dX4_value_20 : decode cX4_value 20 = .ok (.if_icmp .ge 12, 3) := by decide +kernel
theorem dX4_value_23 : decode cX4_value 23 = .ok (.aload_n 0, 1) := by decide +kernel
theorem dX4_value_24 : decode cX4_value 24 = .ok (.getfield 31, 3) := by decide +kernel
theorem dX4_value_27 : decode cX4_value 27 = .ok (.iload_n 3, 1) := by decide +kernel
theorem dX4_value_28 : decode cX4_value 28 = .ok (.iaload, 1) := by decide +kernel
theorem dX4_value_29 : decode cX4_value 29 = .ok (.goto 4, 3) := by decide +kernel
theorem dX4_value_32 : decode cX4_value 32 = .ok (.iconst 0, 1) := by decide +kernel
theorem dX4_value_33 : decode cX4_value 33 = .ok (.ireturn, 1) := by decide +kernel
theorem dX4_change_0 : decode cX4_change 0 = .ok (.iload_n 1, 1) := by decide +kernel
theorem dX4_change_1 : decode cX4_change 1 = .ok (.iconst 0, 1) := by decide +kernel
theorem dX4_change_2 : decode cX4_change 2 = .ok (.aload_n 0, 1) := by decide +kernel
theorem dX4_change_3 : decode cX4_change 3 = .ok (.getfield 15, 3) := by decide +kernel
theorem dX4_change_6 : decode cX4_change 6 = .ok (.iconst 1, 1) := by decide +kernel
theorem dX4_change_7 : decode cX4_change 7 = .ok (.isub, 1) := by decide +kernel
theorem dX4_change_8 : decode cX4_change 8 = .ok (.invokestatic 43, 3) := by decide +kernel
theorem dX4_change_11 : decode cX4_change 11 = .ok (.ifCond .eq 37, 3) := by decide +kernel
theorem dX4_change_14 : decode cX4_change 14 = .ok (.iload_n 2, 1) := by decide +kernel
theorem dX4_change_15 : decode cX4_change 15 = .ok (.iconst 0, 1) := by decide +kernel
theorem dX4_change_16 : decode cX4_change 16 = .ok (.aload_n 0, 1) := by decide +kernel
theorem dX4_change_17 : decode cX4_change 17 = .ok (.getfield 28, 3) := by decide +kernel
theorem dX4_change_20 : decode cX4_change 20 = .ok (.arraylength, 1) := by decide +kernel
theorem dX4_change_21 : decode cX4_change 21 = .ok (.iconst 1, 1) := by decide +kernel
theorem dX4_change_22 : decode cX4_change 22 = .ok (.isub, 1) := by decide +kernel
theorem dX4_change_23 : decode cX4_change 23 = .ok (.invokestatic 43, 3) := by decide +kernel
theorem dX4_change_26 : decode cX4_change 26 = .ok (.ifCond .eq 22, 3) := by decide +kernel
theorem dX4_change_29 : decode cX4_change 29 = .ok (.iload_n 3, 1) := by decide +kernel
theorem dX4_change_30 : decode cX4_change 30 = .ok (.aload_n 0, 1) := by decide +kernel
theorem dX4_change_31 : decode cX4_change 31 = .ok (.getfield 21, 3) := by decide +kernel
theorem dX4_change_34 : decode cX4_change 34 = .ok (.iload_n 2, 1) := by decide +kernel
theorem dX4_change_35 : decode cX4_change 35 = .ok (.iaload, 1) := by decide +kernel
theorem dX4_change_36 : decode cX4_change 36 = .ok (.aload_n 0, 1) := by decide +kernel
theorem dX4_change_37 : decode cX4_change 37 = .ok (.getfield 25, 3) := by decide +kernel
theorem dX4_change_40 : decode cX4_change 40 = .ok (.iload_n 2, 1) := by decide +kernel
theorem dX4_change_41 : decode cX4_change 41 = .ok (.iaload, 1) := by decide +kernel
theorem dX4_change_42 : decode cX4_change 42 = .ok (.invokestatic 43, 3) := by decide +kernel
theorem dX4_change_45 : decode cX4_change 45 = .ok (.ifCond .ne 6, 3) := by decide +kernel
theorem dX4_change_48 : decode cX4_change 48 = .ok (.bipush (-2), 2) := by decide +kernel
theorem dX4_change_50 : decode cX4_change 50 = .ok (.ireturn, 1) := by decide +kernel
theorem dX4_change_51 : decode cX4_change 51 = .ok (.iload_n 1, 1) := by decide +kernel
theorem dX4_change_52 : decode cX4_change 52 = .ok (.aload_n 0, 1) := by decide +kernel
theorem dX4_change_53 : decode cX4_change 53 = .ok (.getfield 28, 3) := by decide +kernel
theorem dX4_change_56 : decode cX4_change 56 = .ok (.arraylength, 1) := by decide +kernel
theorem dX4_change_57 : decode cX4_change 57 = .ok (.imul, 1) := by decide +kernel
theorem dX4_change_58 : decode cX4_change 58 = .ok (.iload_n 2, 1) := by decide +kernel
theorem dX4_change_59 : decode cX4_change 59 = .ok (.iadd, 1) := by decide +kernel
theorem dX4_change_60 : decode cX4_change 60 = .ok (.istore 4, 2) := by decide +kernel
theorem dX4_change_62 : decode cX4_change 62 = .ok (.aload_n 0, 1) := by decide +kernel
theorem dX4_change_63 : decode cX4_change 63 = .ok (.getfield 31, 3) := by decide +kernel
theorem dX4_change_66 : decode cX4_change 66 = .ok (.iload 4, 2) := by decide +kernel
theorem dX4_change_68 : decode cX4_change 68 = .ok (.iaload, 1) := by decide +kernel
theorem dX4_change_69 : decode cX4_change 69 = .ok (.istore 5, 2) := by decide +kernel
theorem dX4_change_71 : decode cX4_change 71 = .ok (.aload_n 0, 1) := by decide +kernel
theorem dX4_change_72 : decode cX4_change 72 = .ok (.getfield 31, 3) := by decide +kernel
theorem dX4_change_75 : decode cX4_change 75 = .ok (.iload 4, 2) := by decide +kernel
theorem dX4_change_77 : decode cX4_change 77 = .ok (.iload_n 3, 1) := by decide +kernel
theorem dX4_change_78 : decode cX4_change 78 = .ok (.iastore, 1) := by decide +kernel
theorem dX4_change_79 : decode cX4_change 79 = .ok (.iload 5, 2) := by decide +kernel
theorem dX4_change_81 : decode cX4_change 81 = .ok (.ireturn, 1) := by decide +kernel
theorem dX4_copy_0 : decode cX4_copy 0 = .ok (.aload_n 1, 1) := by decide +kernel
theorem dX4_copy_1 : decode cX4_copy 1 = .ok (.getfield 31, 3) := by decide +kernel
theorem dX4_copy_4 : decode cX4_copy 4 = .ok (.aload_n 0, 1) := by decide +kernel
theorem dX4_copy_5 : decode cX4_copy 5 = .ok (.getfield 31, 3) := by decide +kernel
theorem dX4_copy_8 : decode cX4_copy 8 = .ok (.invokestatic 47, 3) := by decide +kernel
theorem dX4_copy_11 : decode cX4_copy 11 = .ok (.return_, 1) := by decide +kernel
theorem dX5_init_0 : decode cX5_init 0 = .ok (.aload_n 0, 1) := by decide +kernel
theorem dX5_init_1 : decode cX5_init 1 = .ok (.invokespecial 3, 3) := by decide +kernel
theorem dX5_init_4 : decode cX5_init 4 = .ok (.aload_n 0, 1) := by decide +kernel
theorem dX5_init_5 : decode cX5_init 5 = .ok (.new 9, 3) := by decide +kernel
theorem dX5_init_8 : decode cX5_init 8 = .ok (.dup, 1) := by decide +kernel
theorem dX5_init_9 : decode cX5_init 9 = .ok (.iconst 1, 1) := by decide +kernel
theorem dX5_init_10 : decode cX5_init 10 = .ok (.getstatic 11, 3) := by decide +kernel
theorem dX5_init_13 : decode cX5_init 13 = .ok (.getstatic 15, 3) := by decide +kernel
theorem dX5_init_16 : decode cX5_init 16 = .ok (.getstatic 18, 3) := by decide +kernel
theorem dX5_init_19 : decode cX5_init 19 = .ok (.invokespecial 21, 3) := by decide +kernel
theorem dX5_init_22 : decode cX5_init 22 = .ok (.putfield 24, 3) := by decide +kernel
theorem dX5_init_25 : decode cX5_init 25 = .ok (.aload_n 0, 1) := by decide +kernel
theorem dX5_init_26 : decode cX5_init 26 = .ok (.new 30, 3) := by decide +kernel
theorem dX5_init_29 : decode cX5_init 29 = .ok (.dup, 1) := by decide +kernel
theorem dX5_init_30 : decode cX5_init 30 = .ok (.invokespecial 32, 3) := by decide +kernel
theorem dX5_init_33 : decode cX5_init 33 = .ok (.putfield 33, 3) := by decide +kernel
theorem dX5_init_36 : decode cX5_init 36 = .ok (.aload_n 0, 1) := by decide +kernel
theorem dX5_init_37 : decode cX5_init 37 = .ok (.new 37, 3) := by decide +kernel
theorem dX5_init_40 : decode cX5_init 40 = .ok (.dup, 1) := by decide +kernel
theorem dX5_init_41 : decode cX5_init 41 = .ok (.invokespecial 39, 3) := by decide +kernel
theorem dX5_init_44 : decode cX5_init 44 = .ok (.putfield 40, 3) := by decide +kernel
theorem dX5_init_47 : decode cX5_init 47 = .ok (.aload_n 0, 1) := by decide +kernel
theorem dX5_init_48 : decode cX5_init 48 = .ok (.new 44, 3) := by decide +kernel
theorem dX5_init_51 : decode cX5_init 51 = .ok (.dup, 1) := by decide +kernel
theorem dX5_init_52 : decode cX5_init 52 = .ok (.invokespecial 46, 3) := by decide +kernel
theorem dX5_init_55 : decode cX5_init 55 = .ok (.putfield 47, 3) := by decide +kernel
theorem dX5_init_58 : decode cX5_init 58 = .ok (.aload_n 0, 1) := by decide +kernel
theorem dX5_init_59 : decode cX5_init 59 = .ok (.new 51, 3) := by decide +kernel
theorem dX5_init_62 : decode cX5_init 62 = .ok (.dup, 1) := by decide +kernel
theorem dX5_init_63 : decode cX5_init 63 = .ok (.invokespecial 53, 3) := by decide +kernel
theorem dX5_init_66 : decode cX5_init 66 = .ok (.putfield 54, 3) := by decide +kernel
theorem dX5_init_69 : decode cX5_init 69 = .ok (.aload_n 0, 1) := by decide +kernel
theorem dX5_init_70 : decode cX5_init 70 = .ok (.iconst 0, 1) := by decide +kernel
theorem dX5_init_71 : decode cX5_init 71 = .ok (.putfield 58, 3) := by decide +kernel
theorem dX5_init_74 : decode cX5_init 74 = .ok (.aload_n 0, 1) := by decide +kernel
theorem dX5_init_75 : decode cX5_init 75 = .ok (.iconst 0, 1) := by decide +kernel
theorem dX5_init_76 : decode cX5_init 76 = .ok (.putfield 62, 3) := by decide +kernel
theorem dX5_init_79 : decode cX5_init 79 = .ok (.return_, 1) := by decide +kernel
theorem dX5_begin_0 : decode cX5_begin 0 = .ok (.aload_n 0, 1) := by decide +kernel
theorem dX5_begin_1 : decode cX5_begin 1 = .ok (.getfield 24, 3) := by decide +kernel
theorem dX5_begin_4 : decode cX5_begin 4 = .ok (.invokevirtual 65, 3) := by decide +kernel
theorem dX5_begin_7 : decode cX5_begin 7 = .ok (.aload_n 0, 1) := by decide +kernel
theorem dX5_begin_8 : decode cX5_begin 8 = .ok (.getfield 33, 3) := by decide +kernel
theorem dX5_begin_11 : decode cX5_begin 11 = .ok (.iload_n 1, 1) := by decide +kernel
theorem dX5_begin_12 : decode cX5_begin 12 = .ok (.invokevirtual 68, 3) := by decide +kernel
theorem dX5_begin_15 : decode cX5_begin 15 = .ok (.aload_n 0, 1) := by decide +kernel
theorem dX5_begin_16 : decode cX5_begin 16 = .ok (.getfield 40, 3) := by decide +kernel
theorem dX5_begin_19 : decode cX5_begin 19 = .ok (.getfield 72, 3) := by decide +kernel
theorem dX5_begin_22 : decode cX5_begin 22 = .ok (.invokevirtual 65, 3) := by decide +kernel
theorem dX5_begin_25 : decode cX5_begin 25 = .ok (.aload_n 0, 1) := by decide +kernel
theorem dX5_begin_26 : decode cX5_begin 26 = .ok (.getfield 47, 3) := by decide +kernel
theorem dX5_begin_29 : decode cX5_begin 29 = .ok (.iconst 0, 1) := by decide +kernel
theorem dX5_begin_30 : decode cX5_begin 30 = .ok (.putfield 73, 3) := by decide +kernel
theorem dX5_begin_33 : decode cX5_begin 33 = .ok (.aload_n 0, 1) := by decide +kernel
theorem dX5_begin_34 : decode cX5_begin 34 = .ok (.getfield 54, 3) := by decide +kernel
theorem dX5_begin_37 : decode cX5_begin 37 = .ok (.iconst 0, 1) := by decide +kernel
theorem dX5_begin_38 : decode cX5_begin 38 = .ok (.putfield 76, 3) := by decide +kernel
theorem dX5_begin_41 : decode cX5_begin 41 = .ok (.aload_n 0, 1) := by decide +kernel
theorem dX5_begin_42 : decode cX5_begin 42 = .ok (.invokevirtual 79, 3) := by decide +kernel
theorem dX5_begin_45 : decode cX5_begin 45 = .ok (.return_, 1) := by decide +kernel
theorem dX5_goBack_0 : decode cX5_goBack 0 = .ok (.aload_n 0, 1) := by decide +kernel
theorem dX5_goBack_1 : decode cX5_goBack 1 = .ok (.getfield 33, 3) := by decide +kernel
theorem dX5_goBack_4 : decode cX5_goBack 4 = .ok (.invokevirtual 82, 3) := by decide +kernel
theorem dX5_goBack_7 : decode cX5_goBack 7 = .ok (.aload_n 0, 1) := by decide +kernel
theorem dX5_goBack_8 : decode cX5_goBack 8 = .ok (.getfield 40, 3) := by decide +kernel
theorem dX5_goBack_11 : decode cX5_goBack 11 = .ok (.invokevirtual 83, 3) := by decide +kernel
theorem dX5_goBack_14 : decode cX5_goBack 14 = .ok (.aload_n 0, 1) := by decide +kernel
theorem dX5_goBack_15 : decode cX5_goBack 15 = .ok (.getfield 47, 3) := by decide +kernel
theorem dX5_goBack_18 : decode cX5_goBack 18 = .ok (.invokevirtual 84, 3) := by decide +kernel
theorem dX5_goBack_21 : decode cX5_goBack 21 = .ok (.aload_n 0, 1) := by decide +kernel
theorem dX5_goBack_22 : decode cX5_goBack 22 = .ok (.iconst 0, 1) := by decide +kernel
theorem dX5_goBack_23 : decode cX5_goBack 23 = .ok (.putfield 58, 3) := by decide +kernel
theorem dX5_goBack_26 : decode cX5_goBack 26 = .ok (.aload_n 0, 1) := by decide +kernel
theorem dX5_goBack_27 : decode cX5_goBack 27 = .ok (.iconst 0, 1) := by decide +kernel
theorem dX5_goBack_28 : decode cX5_goBack 28 = .ok (.putfield 62, 3) := by decide +kernel
theorem dX5_goBack_31 : decode cX5_goBack 31 = .ok (.return_, 1) := by decide +kernel
theorem dX5_copy_0 : decode cX5_copy 0 = .ok (.aload_n 0, 1) := by decide +kernel
theorem dX5_copy_1 : decode cX5_copy 1 = .ok (.getfield 24, 3) := by decide +kernel
theorem dX5_copy_4 : decode cX5_copy 4 = .ok (.aload_n 1, 1) := by decide +kernel
theorem dX5_copy_5 : decode cX5_copy 5 = .ok (.getfield 24, 3) := by decide +kernel
theorem dX5_copy_8 : decode cX5_copy 8 = .ok (.invokevirtual 85, 3) := by decide +kernel
theorem dX5_copy_11 : decode cX5_copy 11 = .ok (.aload_n 0, 1) := by decide +kernel
theorem dX5_copy_12 : decode cX5_copy 12 = .ok (.getfield 33, 3) := by decide +kernel
theorem dX5_copy_15 : decode cX5_copy 15 = .ok (.aload_n 1, 1) := by decide +kernel
theorem dX5_copy_16 : decode cX5_copy 16 = .ok (.getfield 33, 3) := by decide +kernel
theorem dX5_copy_19 : decode cX5_copy 19 = .ok (.invokevirtual 89, 3) := by decide +kernel
theorem dX5_copy_22 : decode cX5_copy 22 = .ok (.aload_n 0, 1) := by decide +kernel
theorem dX5_copy_23 : decode cX5_copy 23 = .ok (.getfield 40, 3) := by decide +kernel
theorem dX5_copy_26 : decode cX5_copy 26 = .ok (.aload_n 1, 1) := by decide +kernel
theorem dX5_copy_27 : decode cX5_copy 27 = .ok (.getfield 40, 3) := by decide +kernel
theorem dX5_copy_30 : decode cX5_copy 30 = .ok (.invokevirtual 92, 3) := by decide +kernel
theorem dX5_copy_33 : decode cX5_copy 33 = .ok (.aload_n 0, 1) := by decide +kernel
theorem dX5_copy_34 : decode cX5_copy 34 = .ok (.getfield 47, 3) := by decide +kernel
theorem dX5_copy_37 : decode cX5_copy 37 = .ok (.aload_n 1, 1) := by decide +kernel
theorem dX5_copy_38 : decode cX5_copy 38 = .ok (.getfield 47, 3) := by decide +kernel
theorem dX5_copy_41 : decode cX5_copy 41 = .ok (.invokevirtual 95, 3) := by decide +kernel
theorem dX5_copy_44 : decode cX5_copy 44 = .ok (.aload_n 0, 1) := by decide +kernel
theorem dX5_copy_45 : decode cX5_copy 45 = .ok (.getfield 54, 3) := by decide +kernel
theorem dX5_copy_48 : decode cX5_copy 48 = .ok (.aload_n 1, 1) := by decide +kernel
theorem dX5_copy_49 : decode cX5_copy 49 = .ok (.getfield 54, 3) := by decide +kernel
theorem dX5_copy_52 : decode cX5_copy 52 = .ok (.invokevirtual 98, 3) := by decide +kernel
theorem dX5_copy_55 : decode cX5_copy 55 = .ok (.aload_n 0, 1) := by decide +kernel
theorem dX5_copy_56 : decode cX5_copy 56 = .ok (.aload_n 1, 1) := by decide +kernel
theorem dX5_copy_57 : decode cX5_copy 57 = .ok (.getfield 58, 3) := by decide +kernel
theorem dX5_copy_60 : decode cX5_copy 60 = .ok (.putfield 58, 3) := by decide +kernel
theorem dX5_copy_63 : decode cX5_copy 63 = .ok (.aload_n 0, 1) := by decide +kernel
theorem dX5_copy_64 : decode cX5_copy 64 = .ok (.aload_n 1, 1) := by decide +kernel
theorem dX5_copy_65 : decode cX5_copy 65 = .ok (.getfield 62, 3) := by decide +kernel
theorem dX5_copy_68 : decode cX5_copy 68 = .ok (.putfield 62, 3) := by decide +kernel
theorem dX5_copy_71 : decode cX5_copy 71 = .ok (.return_, 1) := by decide +kernel
theorem dX5_makeTick_0 : decode cX5_makeTick 0 = .ok (.aload_n 0, 1) := by decide +kernel
theorem dX5_makeTick_1 : decode cX5_makeTick 1 = .ok (.getfield 54, 3) := by decide +kernel
theorem dX5_makeTick_4 : decode cX5_makeTick 4 = .ok (.aload_n 0, 1) := by decide +kernel
theorem dX5_makeTick_5 : decode cX5_makeTick 5 = .ok (.getfield 58, 3) := by decide +kernel
theorem dX5_makeTick_8 : decode cX5_makeTick 8 = .ok (.aload_n 0, 1) := by decide +kernel
theorem dX5_makeTick_9 : decode cX5_makeTick 9 = .ok (.getfield 33, 3) := by decide +kernel
theorem dX5_makeTick_12 : decode cX5_makeTick 12 = .ok (.invokevirtual 101, 3) := by decide +kernel
theorem dX5_makeTick_15 : decode cX5_makeTick 15 = .ok (.aload_n 0, 1) := by decide +kernel
theorem dX5_makeTick_16 : decode cX5_makeTick 16 = .ok (.getfield 33, 3) := by decide +kernel
theorem dX5_makeTick_19 : decode cX5_makeTick 19 = .ok (.aload_n 0, 1) := by decide +kernel
theorem dX5_makeTick_20 : decode cX5_makeTick 20 = .ok (.getfield 58, 3) := by decide +kernel
theorem dX5_makeTick_23 : decode cX5_makeTick 23 = .ok (.invokevirtual 105, 3) := by decide +kernel
theorem dX5_makeTick_26 : decode cX5_makeTick 26 = .ok (.aload_n 0, 1) := by decide +kernel
theorem dX5_makeTick_27 : decode cX5_makeTick 27 = .ok (.getfield 47, 3) := by decide +kernel
theorem dX5_makeTick_30 : decode cX5_makeTick 30 = .ok (.aload_n 0, 1) := by decide +kernel
theorem dX5_makeTick_31 : decode cX5_makeTick 31 = .ok (.getfield 24, 3) := by decide +kernel
theorem dX5_makeTick_34 : decode cX5_makeTick 34 = .ok (.invokevirtual 108, 3) := by decide +kernel
theorem dX5_makeTick_37 : decode cX5_makeTick 37 = .ok (.aload_n 0, 1) := by decide +kernel
theorem dX5_makeTick_38 : decode cX5_makeTick 38 = .ok (.getfield 33, 3) := by decide +kernel
theorem dX5_makeTick_41 : decode cX5_makeTick 41 = .ok (.aload_n 0, 1) := by decide +kernel
theorem dX5_makeTick_42 : decode cX5_makeTick 42 = .ok (.getfield 58, 3) := by decide +kernel
theorem dX5_makeTick_45 : decode cX5_makeTick 45 = .ok (.aload_n 0, 1) := by decide +kernel
theorem dX5_makeTick_46 : decode cX5_makeTick 46 = .ok (.getfield 47, 3) := by decide +kernel
theorem dX5_makeTick_49 : decode cX5_makeTick 49 = .ok (.getfield 111, 3) := by decide +kernel
theorem dX5_makeTick_52 : decode cX5_makeTick 52 = .ok (.aload_n 0, 1) := by decide +kernel
theorem dX5_makeTick_53 : decode cX5_makeTick 53 = .ok (.getfield 24, 3) := by decide +kernel
theorem dX5_makeTick_56 : decode cX5_makeTick 56 = .ok (.iconst 0, 1) := by decide +kernel
theorem dX5_makeTick_57 : decode cX5_makeTick 57 = .ok (.iconst 3, 1) := by decide +kernel
theorem dX5_makeTick_58 : decode cX5_makeTick 58 = .ok (.invokevirtual 114, 3) := by decide +kernel
theorem dX5_makeTick_61 : decode cX5_makeTick 61 = .ok (.invokevirtual 118, 3) := by decide +kernel
theorem dX5_makeTick_64 : decode cX5_makeTick 64 = .ok (.aload_n 0, 1) := by decide +kernel
theorem dX5_makeTick_65 : decode cX5_makeTick 65 = .ok (.getfield 40, 3) := by decide +kernel
theorem dX5_makeTick_68 : decode cX5_makeTick 68 = .ok (.aload_n 0, 1) := by decide +kernel
theorem dX5_makeTick_69 : decode cX5_makeTick 69 = .ok (.getfield 33, 3) := by decide +kernel
theorem dX5_makeTick_72 : decode cX5_makeTick 72 = .ok (.invokevirtual 122, 3) := by decide +kernel
theorem dX5_makeTick_75 : decode cX5_makeTick 75 = .ok (.aload_n 0, 1) := by decide +kernel
theorem dX5_makeTick_76 : decode cX5_makeTick 76 = .ok (.getfield 33, 3) := by decide +kernel
theorem dX5_makeTick_79 : decode cX5_makeTick 79 = .ok (.aload_n 0, 1) := by decide +kernel
theorem dX5_makeTick_80 : decode cX5_makeTick 80 = .ok (.getfield 47, 3) := by decide +kernel
theorem dX5_makeTick_83 : decode cX5_makeTick 83 = .ok (.invokevirtual 125, 3) := by decide +kernel
theorem dX5_makeTick_86 : decode cX5_makeTick 86 = .ok (.invokevirtual 129, 3) := by decide +kernel
theorem dX5_makeTick_89 : decode cX5_makeTick 89 = .ok (.aload_n 0, 1) := by decide +kernel
theorem dX5_makeTick_90 : decode cX5_makeTick 90 = .ok (.getfield 40, 3) := by decide +kernel
theorem dX5_makeTick_93 : decode cX5_makeTick 93 = .ok (.invokevirtual 132, 3) := by decide +kernel
theorem dX5_makeTick_96 : decode cX5_makeTick 96 = .ok (.aload_n 0, 1) := by decide +kernel
theorem dX5_makeTick_97 : decode cX5_makeTick 97 = .ok (.getfield 33, 3) := by decide +kernel
theorem dX5_makeTick_100 : decode cX5_makeTick 100 = .ok (.aload_n 0, 1) := by decide +kernel
theorem dX5_makeTick_101 : decode cX5_makeTick 101 = .ok (.getfield 24, 3) := by decide +kernel
theorem dX5_makeTick_104 : decode cX5_makeTick 104 = .ok (.iconst 0, 1) := by decide +kernel
theorem dX5_makeTick_105 : decode cX5_makeTick 105 = .ok (.iconst 5, 1) := by decide +kernel
theorem dX5_makeTick_106 : decode cX5_makeTick 106 = .ok (.invokevirtual 114, 3) := by decide +kernel
theorem dX5_makeTick_109 : decode cX5_makeTick 109 = .ok (.invokevirtual 135, 3) := by decide +kernel
theorem dX5_makeTick_112 : decode cX5_makeTick 112 = .ok (.ifCond .eq 13, 3) := by decide +kernel
theorem dX5_makeTick_115 : decode cX5_makeTick 115 = .ok (.aload_n 0, 1) := by decide +kernel
theorem dX5_makeTick_116 : decode cX5_makeTick 116 = .ok (.dup, 1) := by decide +kernel
theorem dX5_makeTick_117 : decode cX5_makeTick 117 = .ok (.getfield 62, 3) := by decide +kernel
theorem dX5_makeTick_120 : decode cX5_makeTick 120 = .ok (.iconst 1, 1) := by decide +kernel
theorem dX5_makeTick_121 : decode cX5_makeTick 121 = .ok (.iadd, 1) := by decide +kernel
theorem dX5_makeTick_122 : decode cX5_makeTick 122 = .ok (.putfield 62, 3) := by decide +kernel
theorem dX5_makeTick_125 : decode cX5_makeTick 125 = .ok (.aload_n 0, 1) := by decide +kernel
theorem dX5_makeTick_126 : decode cX5_makeTick 126 = .ok (.dup, 1) := by decide +kernel
theorem dX5_makeTick_127 : decode cX5_makeTick 127 = .ok (.getfield 58, 3) := by decide +kernel
theorem dX5_makeTick_130 : decode cX5_makeTick 130 = .ok (.iconst 1, 1) := by decide +kernel
theorem dX5_makeTick_131 : decode cX5_makeTick 131 = .ok (.iadd, 1) := by decide +kernel
theorem dX5_makeTick_132 : decode cX5_makeTick 132 = .ok (.putfield 58, 3) := by decide +kernel
theorem dX5_makeTick_135 : decode cX5_makeTick 135 = .ok (.return_, 1) := by decide +kernel
theorem dX6_init_0 : decode cX6_init 0 = .ok (.aload_n 0, 1) := by decide +kernel
theorem dX6_init_1 : decode cX6_init 1 = .ok (.invokespecial 1, 3) := by decide +kernel
theorem dX6_init_4 : decode cX6_init 4 = .ok (.aload_n 0, 1) := by decide +kernel
theorem dX6_init_5 : decode cX6_init 5 = .ok (.new 7, 3) := by decide +kernel
theorem dX6_init_8 : decode cX6_init 8 = .ok (.dup, 1) := by decide +kernel
theorem dX6_init_9 : decode cX6_init 9 = .ok (.invokespecial 9, 3) := by decide +kernel
theorem dX6_init_12 : decode cX6_init 12 = .ok (.putfield 10, 3) := by decide +kernel
theorem dX6_init_15 : decode cX6_init 15 = .ok (.aload_n 0, 1) := by decide +kernel
theorem dX6_init_16 : decode cX6_init 16 = .ok (.iconst 0, 1) := by decide +kernel
theorem dX6_init_17 : decode cX6_init 17 = .ok (.putfield 16, 3) := by decide +kernel
theorem dX6_init_20 : decode cX6_init 20 = .ok (.return_, 1) := by decide +kernel
theorem dX7_init_0 : decode cX7_init 0 = .ok (.aload_n 0, 1) := by decide +kernel
theorem dX7_init_1 : decode cX7_init 1 = .ok (.invokespecial 3, 3) := by decide +kernel
theorem dX7_init_4 : decode cX7_init 4 = .ok (.aload_n 0, 1) := by decide +kernel
theorem dX7_init_5 : decode cX7_init 5 = .ok (.iconst 0, 1) := by decide +kernel
theorem dX7_init_6 : decode cX7_init 6 = .ok (.putfield 9, 3) := by decide +kernel
theorem dX7_init_9 : decode cX7_init 9 = .ok (.aload_n 0, 1) := by decide +kernel
theorem dX7_init_10 : decode cX7_init 10 = .ok (.iconst 0, 1) := by decide +kernel
theorem dX7_init_11 : decode cX7_init 11 = .ok (.putfield 15, 3) := by decide +kernel
theorem dX7_init_14 : decode cX7_init 14 = .ok (.aload_n 0, 1) := by decide +kernel
theorem dX7_init_15 : decode cX7_init 15 = .ok (.iconst 0, 1) := by decide +kernel
theorem dX7_init_16 : decode cX7_init 16 = .ok (.putfield 18, 3) := by decide +kernel
theorem dX7_init_19 : decode cX7_init 19 = .ok (.aload_n 0, 1) := by decide +kernel
theorem dX7_init_20 : decode cX7_init 20 = .ok (.iconst 0, 1) := by decide +kernel
theorem dX7_init_21 : decode cX7_init 21 = .ok (.putfield 21, 3) := by decide +kernel
theorem dX7_init_24 : decode cX7_init 24 = .ok (.return_, 1) := by decide +kernel
theorem dX7_measured_0 : decode cX7_measured 0 = .ok (.aload_n 0, 1) := by decide +kernel
theorem dX7_measured_1 : decode cX7_measured 1 = .ok (.getfield 15, 3) := by decide +kernel
theorem dX7_measured_4 : decode cX7_measured 4 = .ok (.sipush 1024, 3) := by decide +kernel
theorem dX7_measured_7 : decode cX7_measured 7 = .ok (.idiv, 1) := by decide +kernel
theorem dX7_measured_8 : decode cX7_measured 8 = .ok (.ireturn, 1) := by decide +kernel
theorem dX7_goBack_0 : decode cX7_goBack 0 = .ok (.aload_n 0, 1) := by decide +kernel
theorem dX7_goBack_1 : decode cX7_goBack 1 = .ok (.iconst 0, 1) := by decide +kernel
theorem dX7_goBack_2 : decode cX7_goBack 2 = .ok (.putfield 15, 3) := by decide +kernel
theorem dX7_goBack_5 : decode cX7_goBack 5 = .ok (.aload_n 0, 1) := by decide +kernel
theorem dX7_goBack_6 : decode cX7_goBack 6 = .ok (.iconst 0, 1) := by decide +kernel
theorem dX7_goBack_7 : decode cX7_goBack 7 = .ok (.putfield 18, 3) := by decide +kernel
theorem dX7_goBack_10 : decode cX7_goBack 10 = .ok (.aload_n 0, 1) := by decide +kernel
theorem dX7_goBack_11 : decode cX7_goBack 11 = .ok (.iconst 0, 1) := by decide +kernel
theorem dX7_goBack_12 : decode cX7_goBack 12 = .ok (.putfield 21, 3) := by decide +kernel
theorem dX7_goBack_15 : decode cX7_goBack 15 = .ok (.return_, 1) := by decide +kernel
theorem dX7_copy_0 : decode cX7_copy 0 = .ok (.aload_n 0, 1) := by decide +kernel
theorem dX7_copy_1 : decode cX7_copy 1 = .ok (.aload_n 1, 1) := by decide +kernel
theorem dX7_copy_2 : decode cX7_copy 2 = .ok (.getfield 9, 3) := by decide +kernel
theorem dX7_copy_5 : decode cX7_copy 5 = .ok (.putfield 9, 3) := by decide +kernel
theorem dX7_copy_8 : decode cX7_copy 8 = .ok (.aload_n 0, 1) := by decide +kernel
theorem dX7_copy_9 : decode cX7_copy 9 = .ok (.aload_n 1, 1) := by decide +kernel
theorem dX7_copy_10 : decode cX7_copy 10 = .ok (.getfield 15, 3) := by decide +kernel
theorem dX7_copy_13 : decode cX7_copy 13 = .ok (.putfield 15, 3) := by decide +kernel
theorem dX7_copy_16 : decode cX7_copy 16 = .ok (.aload_n 0, 1) := by decide +kernel
theorem dX7_copy_17 : decode cX7_copy 17 = .ok (.aload_n 1, 1) := by decide +kernel
theorem dX7_copy_18 : decode cX7_copy 18 = .ok (.getfield 18, 3) := by decide +kernel
theorem dX7_copy_21 : decode cX7_copy 21 = .ok (.putfield 18, 3) := by decide +kernel
theorem dX7_copy_24 : decode cX7_copy 24 = .ok (.aload_n 0, 1) := by decide +kernel
theorem dX7_copy_25 : decode cX7_copy 25 = .ok (.aload_n 1, 1) := by decide +kernel
theorem dX7_copy_26 : decode cX7_copy 26 = .ok (.getfield 21, 3) := by decide +kernel
theorem dX7_copy_29 : decode cX7_copy 29 = .ok (.putfield 21, 3) := by decide +kernel
theorem dX7_copy_32 : decode cX7_copy 32 = .ok (.return_, 1) := by decide +kernel
theorem dX7_blow_0 : decode cX7_blow 0 = .ok (.aload_n 0, 1) := by decide +kernel
theorem dX7_blow_1 : decode cX7_blow 1 = .ok (.dup, 1) := by decide +kernel
theorem dX7_blow_2 : decode cX7_blow 2 = .ok (.getfield 15, 3) := by decide +kernel
theorem dX7_blow_5 : decode cX7_blow 5 = .ok (.sipush 1024, 3) := by decide +kernel
theorem dX7_blow_8 : decode cX7_blow 8 = .ok (.aload_n 0, 1) := by decide +kernel
theorem dX7_blow_9 : decode cX7_blow 9 = .ok (.getfield 9, 3) := by decide +kernel
theorem dX7_blow_12 : decode cX7_blow 12 = .ok (.imul, 1) := by decide +kernel
theorem dX7_blow_13 : decode cX7_blow 13 = .ok (.aload_n 0, 1) := by decide +kernel
theorem dX7_blow_14 : decode cX7_blow 14 = .ok (.getfield 15, 3) := by decide +kernel
theorem dX7_blow_17 : decode cX7_blow 17 = .ok (.isub, 1) := by decide +kernel
theorem dX7_blow_18 : decode cX7_blow 18 = .ok (.i2l, 1) := by decide +kernel
theorem dX7_blow_19 : decode cX7_blow 19 = .ok (.aload_n 1, 1) := by decide +kernel
theorem dX7_blow_20 : decode cX7_blow 20 = .ok (.iconst 0, 1) := by decide +kernel
theorem dX7_blow_21 : decode cX7_blow 21 = .ok (.iconst 0, 1) := by decide +kernel
theorem dX7_blow_22 : decode cX7_blow 22 = .ok (.invokevirtual 24, 3) := by decide +kernel
theorem dX7_blow_25 : decode cX7_blow 25 = .ok (.i2l, 1) := by decide +kernel
theorem dX7_blow_26 : decode cX7_blow 26 = .ok (.invokestatic 30, 3) := by decide +kernel
theorem dX7_blow_29 : decode cX7_blow 29 = .ok (.l2i, 1) := by decide +kernel
theorem dX7_blow_30 : decode cX7_blow 30 = .ok (.iadd, 1) := by decide +kernel
theorem dX7_blow_31 : decode cX7_blow 31 = .ok (.putfield 15, 3) := by decide +kernel
theorem dX7_blow_34 : decode cX7_blow 34 = .ok (.aload_n 1, 1) := by decide +kernel
theorem dX7_blow_35 : decode cX7_blow 35 = .ok (.iconst 0, 1) := by decide +kernel
theorem dX7_blow_36 : decode cX7_blow 36 = .ok (.iconst 1, 1) := by decide +kernel
theorem dX7_blow_37 : decode cX7_blow 37 = .ok (.invokevirtual 24, 3) := by decide +kernel
theorem dX7_blow_40 : decode cX7_blow 40 = .ok (.istore_n 2, 1) := by decide +kernel
theorem dX7_blow_41 : decode cX7_blow 41 = .ok (.aload_n 1, 1) := by decide +kernel
theorem dX7_blow_42 : decode cX7_blow 42 = .ok (.iconst 0, 1) := by decide +kernel
theorem dX7_blow_43 : decode cX7_blow 43 = .ok (.iconst 2, 1) := by decide +kernel
theorem dX7_blow_44 : decode cX7_blow 44 = .ok (.invokevirtual 24, 3) := by decide +kernel
theorem dX7_blow_47 : decode cX7_blow 47 = .ok (.istore_n 3, 1) := by decide +kernel
theorem dX7_blow_48 : decode cX7_blow 48 = .ok (.aload_n 0, 1) := by decide +kernel
theorem dX7_blow_49 : decode cX7_blow 49 = .ok (.invokevirtual 34, 3) := by decide +kernel
theorem dX7_blow_52 : decode cX7_blow 52 = .ok (.iload_n 3, 1) := by decide +kernel
theorem dX7_blow_53 : decode cX7_blow 53 = .ok (.if_icmp .lt 11, 3) := by decide +kernel
theorem dX7_blow_56 : decode cX7_blow 56 = .ok (.aload_n 0, 1) := by decide +kernel
theorem dX7_blow_57 : decode cX7_blow 57 = .ok (.iconst 2, 1) := by decide +kernel
theorem dX7_blow_58 : decode cX7_blow 58 = .ok (.invokevirtual 38, 3) := by decide +kernel
theorem dX7_blow_61 : decode cX7_blow 61 = .ok (.goto 74, 3) := by decide +kernel
theorem dX7_blow_64 : decode cX7_blow 64 = .ok (.aload_n 0, 1) := by decide +kernel
theorem dX7_blow_65 : decode cX7_blow 65 = .ok (.invokevirtual 34, 3) := by decide +kernel
theorem dX7_blow_68 : decode cX7_blow 68 = .ok (.iload_n 2, 1) := by decide +kernel
theorem dX7_blow_69 : decode cX7_blow 69 = .ok (.if_icmp .lt 18, 3) := by decide +kernel
theorem dX7_blow_72 : decode cX7_blow 72 = .ok (.aload_n 0, 1) := by decide +kernel
theorem dX7_blow_73 : decode cX7_blow 73 = .ok (.getfield 18, 3) := by decide +kernel
theorem dX7_blow_76 : decode cX7_blow 76 = .ok (.ifCond .ne 11, 3) := by decide +kernel
theorem dX7_blow_79 : decode cX7_blow 79 = .ok (.aload_n 0, 1) := by decide +kernel
theorem dX7_blow_80 : decode cX7_blow 80 = .ok (.iconst 1, 1) := by decide +kernel
theorem dX7_blow_81 : decode cX7_blow 81 = .ok (.invokevirtual 38, 3) := by decide +kernel
theorem dX7_blow_84 : decode cX7_blow 84 = .ok (.goto 51, 3) := by decide +kernel
theorem dX7_blow_87 : decode cX7_blow 87 = .ok (.aload_n 0, 1) := by decide +kernel
theorem dX7_blow_88 : decode cX7_blow 88 = .ok (.getfield 18, 3) := by decide +kernel
theorem dX7_blow_91 : decode cX7_blow 91 = .ok (.ifCond .le 39, 3) := by decide +kernel
theorem dX7_blow_94 : decode cX7_blow 94 = .ok (.aload_n 0, 1) := by decide +kernel
theorem dX7_blow_95 : decode cX7_blow 95 = .ok (.invokevirtual 34, 3) := by decide +kernel
theorem dX7_blow_98 : decode cX7_blow 98 = .ok (.aload_n 0, 1) := by decide +kernel
theorem dX7_blow_99 : decode cX7_blow 99 = .ok (.getfield 18, 3) := by decide +kernel
theorem dX7_blow_102 : decode cX7_blow 102 = .ok (.iconst 2, 1) := by decide +kernel
theorem dX7_blow_103 : decode cX7_blow 103 = .ok (.if_icmp .ne 7, 3) := by decide +kernel
theorem dX7_blow_106 : decode cX7_blow 106 = .ok (.iload_n 3, 1) := by decide +kernel
theorem dX7_blow_107 : decode cX7_blow 107 = .ok (.goto 4, 3) := by decide +kernel
theorem dX7_blow_110 : decode cX7_blow 110 = .ok (.iload_n 2, 1) := by decide +kernel
theorem dX7_blow_111 : decode cX7_blow 111 = .ok (.bipush 10, 2) := by decide +kernel
theorem dX7_blow_113 : decode cX7_blow 113 = .ok (.isub, 1) := by decide +kernel
theorem dX7_blow_114 : decode cX7_blow 114 = .ok (.if_icmp .ge 16, 3) := by decide +kernel
theorem dX7_blow_117 : decode cX7_blow 117 = .ok (.aload_n 0, 1) := by decide +kernel
theorem dX7_blow_118 : decode cX7_blow 118 = .ok (.aload_n 1, 1) := by decide +kernel
theorem dX7_blow_119 : decode cX7_blow 119 = .ok (.iconst 0, 1) := by decide +kernel
theorem dX7_blow_120 : decode cX7_blow 120 = .ok (.iconst 4, 1) := by decide +kernel
theorem dX7_blow_121 : decode cX7_blow 121 = .ok (.invokevirtual 24, 3) := by decide +kernel
theorem dX7_blow_124 : decode cX7_blow 124 = .ok (.invokevirtual 42, 3) := by decide +kernel
theorem dX7_blow_127 : decode cX7_blow 127 = .ok (.goto 8, 3) := by decide +kernel
theorem dX7_blow_130 : decode cX7_blow 130 = .ok (.aload_n 0, 1) := by decide +kernel
theorem dX7_blow_131 : decode cX7_blow 131 = .ok (.iconst 0, 1) := by decide +kernel
theorem dX7_blow_132 : decode cX7_blow 132 = .ok (.putfield 21, 3) := by decide +kernel
theorem dX7_blow_135 : decode cX7_blow 135 = .ok (.return_, 1) := by decide +kernel
theorem dX7_enter_0 : decode cX7_enter 0 = .ok (.aload_n 0, 1) := by decide +kernel
theorem dX7_enter_1 : decode cX7_enter 1 = .ok (.iload_n 1, 1) := by decide +kernel
theorem dX7_enter_2 : decode cX7_enter 2 = .ok (.putfield 18, 3) := by decide +kernel
theorem dX7_enter_5 : decode cX7_enter 5 = .ok (.aload_n 0, 1) := by decide +kernel
theorem dX7_enter_6 : decode cX7_enter 6 = .ok (.iconst 0, 1) := by decide +kernel
theorem dX7_enter_7 : decode cX7_enter 7 = .ok (.putfield 21, 3) := by decide +kernel
theorem dX7_enter_10 : decode cX7_enter 10 = .ok (.return_, 1) := by decide +kernel
theorem dX7_calmDown_0 : decode cX7_calmDown 0 = .ok (.aload_n 0, 1) := by decide +kernel
theorem dX7_calmDown_1 : decode cX7_calmDown 1 = .ok (.dup, 1) := by decide +kernel
theorem dX7_calmDown_2 : decode cX7_calmDown 2 = .ok (.getfield 21, 3) := by decide +kernel
theorem dX7_calmDown_5 : decode cX7_calmDown 5 = .ok (.iconst 1, 1) := by decide +kernel
theorem dX7_calmDown_6 : decode cX7_calmDown 6 = .ok (.iadd, 1) := by decide +kernel
theorem dX7_calmDown_7 : decode cX7_calmDown 7 = .ok (.putfield 21, 3) := by decide +kernel
theorem dX7_calmDown_10 : decode cX7_calmDown 10 = .ok (.aload_n 0, 1) := by decide +kernel
theorem dX7_calmDown_11 : decode cX7_calmDown 11 = .ok (.getfield 21, 3) := by decide +kernel
theorem dX7_calmDown_14 : decode cX7_calmDown 14 = .ok (.iload_n 1, 1) := by decide +kernel
theorem dX7_calmDown_15 : decode cX7_calmDown 15 = .ok (.if_icmp .lt 13, 3) := by decide +kernel
theorem dX7_calmDown_18 : decode cX7_calmDown 18 = .ok (.aload_n 0, 1) := by decide +kernel
theorem dX7_calmDown_19 : decode cX7_calmDown 19 = .ok (.aload_n 0, 1) := by decide +kernel
theorem dX7_calmDown_20 : decode cX7_calmDown 20 = .ok (.getfield 18, 3) := by decide +kernel
theorem dX7_calmDown_23 : decode cX7_calmDown 23 = .ok (.iconst 1, 1) := by decide +kernel
theorem dX7_calmDown_24 : decode cX7_calmDown 24 = .ok (.isub, 1) := by decide +kernel
theorem dX7_calmDown_25 : decode cX7_calmDown 25 = .ok (.invokevirtual 38, 3) := by decide +kernel
theorem dX7_calmDown_28 : decode cX7_calmDown 28 = .ok (.return_, 1) := by decide +kernel
theorem dX8_init_0 : decode cX8_init 0 = .ok (.aload_n 0, 1) := by decide +kernel
theorem dX8_init_1 : decode cX8_init 1 = .ok (.invokespecial 1, 3) := by decide +kernel
theorem dX8_init_4 : decode cX8_init 4 = .ok (.aload_n 0, 1) := by decide +kernel
theorem dX8_init_5 : decode cX8_init 5 = .ok (.new 7, 3) := by decide +kernel
theorem dX8_init_8 : decode cX8_init 8 = .ok (.dup, 1) := by decide +kernel
theorem dX8_init_9 : decode cX8_init 9 = .ok (.invokespecial 9, 3) := by decide +kernel
theorem dX8_init_12 : decode cX8_init 12 = .ok (.putfield 10, 3) := by decide +kernel
theorem dX8_init_15 : decode cX8_init 15 = .ok (.aload_n 0, 1) := by decide +kernel
theorem dX8_init_16 : decode cX8_init 16 = .ok (.new 7, 3) := by decide +kernel
theorem dX8_init_19 : decode cX8_init 19 = .ok (.dup, 1) := by decide +kernel
theorem dX8_init_20 : decode cX8_init 20 = .ok (.invokespecial 9, 3) := by decide +kernel
theorem dX8_init_23 : decode cX8_init 23 = .ok (.putfield 16, 3) := by decide +kernel
theorem dX8_init_26 : decode cX8_init 26 = .ok (.aload_n 0, 1) := by decide +kernel
theorem dX8_init_27 : decode cX8_init 27 = .ok (.new 19, 3) := by decide +kernel
theorem dX8_init_30 : decode cX8_init 30 = .ok (.dup, 1) := by decide +kernel
theorem dX8_init_31 : decode cX8_init 31 = .ok (.invokespecial 21, 3) := by decide +kernel
theorem dX8_init_34 : decode cX8_init 34 = .ok (.putfield 22, 3) := by decide +kernel
theorem dX8_init_37 : decode cX8_init 37 = .ok (.aload_n 0, 1) := by decide +kernel
theorem dX8_init_38 : decode cX8_init 38 = .ok (.new 19, 3) := by decide +kernel
theorem dX8_init_41 : decode cX8_init 41 = .ok (.dup, 1) := by decide +kernel
theorem dX8_init_42 : decode cX8_init 42 = .ok (.invokespecial 21, 3) := by decide +kernel
theorem dX8_init_45 : decode cX8_init 45 = .ok (.putfield 26, 3) := by decide +kernel
theorem dX8_init_48 : decode cX8_init 48 = .ok (.aload_n 0, 1) := by decide +kernel
theorem dX8_init_49 : decode cX8_init 49 = .ok (.new 29, 3) := by decide +kernel
theorem dX8_init_52 : decode cX8_init 52 = .ok (.dup, 1) := by decide +kernel
theorem dX8_init_53 : decode cX8_init 53 = .ok (.invokespecial 31, 3) := by decide +kernel
theorem dX8_init_56 : decode cX8_init 56 = .ok (.putfield 32, 3) := by decide +kernel
theorem dX8_init_59 : decode cX8_init 59 = .ok (.return_, 1) := by decide +kernel
theorem dX8_setUp_0 : decode cX8_setUp 0 = .ok (.iload_n 1, 1) := by decide +kernel
theorem dX8_setUp_1 : decode cX8_setUp 1 = .ok (.iconst 1, 1) := by decide +kernel
theorem dX8_setUp_2 : decode cX8_setUp 2 = .ok (.bipush 12, 2) := by decide +kernel
theorem dX8_setUp_4 : decode cX8_setUp 4 = .ok (.invokestatic 36, 3) := by decide +kernel
theorem dX8_setUp_7 : decode cX8_setUp 7 = .ok (.ifCond .ne 6, 3) := by decide +kernel
theorem dX8_setUp_10 : decode cX8_setUp 10 = .ok (.bipush (-2), 2) := by decide +kernel
theorem dX8_setUp_12 : decode cX8_setUp 12 = .ok (.ireturn, 1) := by decide +kernel
theorem dX8_setUp_13 : decode cX8_setUp 13 = .ok (.aload_n 0, 1) := by decide +kernel
theorem dX8_setUp_14 : decode cX8_setUp 14 = .ok (.getfield 10, 3) := by decide +kernel
theorem dX8_setUp_17 : decode cX8_setUp 17 = .ok (.getfield 40, 3) := by decide +kernel
theorem dX8_setUp_20 : decode cX8_setUp 20 = .ok (.getfield 44, 3) := by decide +kernel
theorem dX8_setUp_23 : decode cX8_setUp 23 = .ok (.istore_n 2, 1) := by decide +kernel
theorem dX8_setUp_24 : decode cX8_setUp 24 = .ok (.aload_n 0, 1) := by decide +kernel
theorem dX8_setUp_25 : decode cX8_setUp 25 = .ok (.getfield 10, 3) := by decide +kernel
theorem dX8_setUp_28 : decode cX8_setUp 28 = .ok (.iload_n 1, 1) := by decide +kernel
theorem dX8_setUp_29 : decode cX8_setUp 29 = .ok (.invokevirtual 50, 3) := by decide +kernel
theorem dX8_setUp_32 : decode cX8_setUp 32 = .ok (.iload_n 2, 1) := by decide +kernel
theorem dX8_setUp_33 : decode cX8_setUp 33 = .ok (.ireturn, 1) := by decide +kernel
theorem dX8_nozzle_0 : decode cX8_nozzle 0 = .ok (.aload_n 0, 1) := by decide +kernel
theorem dX8_nozzle_1 : decode cX8_nozzle 1 = .ok (.getfield 10, 3) := by decide +kernel
theorem dX8_nozzle_4 : decode cX8_nozzle 4 = .ok (.getfield 40, 3) := by decide +kernel
theorem dX8_nozzle_7 : decode cX8_nozzle 7 = .ok (.iload_n 1, 1) := by decide +kernel
theorem dX8_nozzle_8 : decode cX8_nozzle 8 = .ok (.invokevirtual 54, 3) := by decide +kernel
theorem dX8_nozzle_11 : decode cX8_nozzle 11 = .ok (.ifCond .ne 5, 3) := by decide +kernel
theorem dX8_nozzle_14 : decode cX8_nozzle 14 = .ok (.iconst (-1), 1) := by decide +kernel
theorem dX8_nozzle_15 : decode cX8_nozzle 15 = .ok (.ireturn, 1) := by decide +kernel
theorem dX8_nozzle_16 : decode cX8_nozzle 16 = .ok (.aload_n 0, 1) := by decide +kernel
theorem dX8_nozzle_17 : decode cX8_nozzle 17 = .ok (.getfield 10, 3) := by decide +kernel
theorem dX8_nozzle_20 : decode cX8_nozzle 20 = .ok (.getfield 40, 3) := by decide +kernel
theorem dX8_nozzle_23 : decode cX8_nozzle 23 = .ok (.getfield 58, 3) := by decide +kernel
theorem dX8_nozzle_26 : decode cX8_nozzle 26 = .ok (.iload_n 1, 1) := by decide +kernel
theorem dX8_nozzle_27 : decode cX8_nozzle 27 = .ok (.iload_n 2, 1) := by decide +kernel
theorem dX8_nozzle_28 : decode cX8_nozzle 28 = .ok (.iload_n 3, 1) := by decide +kernel
theorem dX8_nozzle_29 : decode cX8_nozzle 29 = .ok (.invokevirtual 62, 3) := by decide +kernel
theorem dX8_nozzle_32 : decode cX8_nozzle 32 = .ok (.ireturn, 1) := by decide +kernel
theorem dX8_pump_0 : decode cX8_pump 0 = .ok (.iload_n 1, 1) := by decide +kernel
theorem dX8_pump_1 : decode cX8_pump 1 = .ok (.iconst 0, 1) := by decide +kernel
theorem dX8_pump_2 : decode cX8_pump 2 = .ok (.iconst 2, 1) := by decide +kernel
theorem dX8_pump_3 : decode cX8_pump 3 = .ok (.invokestatic 36, 3) := by decide +kernel
theorem dX8_pump_6 : decode cX8_pump 6 = .ok (.ifCond .ne 5, 3) := by decide +kernel
theorem dX8_pump_9 : decode cX8_pump 9 = .ok (.iconst (-1), 1) := by decide +kernel
theorem dX8_pump_10 : decode cX8_pump 10 = .ok (.ireturn, 1) := by decide +kernel
theorem dX8_pump_11 : decode cX8_pump 11 = .ok (.aload_n 0, 1) := by decide +kernel
theorem dX8_pump_12 : decode cX8_pump 12 = .ok (.getfield 10, 3) := by decide +kernel
theorem dX8_pump_15 : decode cX8_pump 15 = .ok (.getfield 68, 3) := by decide +kernel
theorem dX8_pump_18 : decode cX8_pump 18 = .ok (.getfield 72, 3) := by decide +kernel
theorem dX8_pump_21 : decode cX8_pump 21 = .ok (.iload_n 1, 1) := by decide +kernel
theorem dX8_pump_22 : decode cX8_pump 22 = .ok (.iload_n 2, 1) := by decide +kernel
theorem dX8_pump_23 : decode cX8_pump 23 = .ok (.iload_n 3, 1) := by decide +kernel
theorem dX8_pump_24 : decode cX8_pump 24 = .ok (.invokevirtual 62, 3) := by decide +kernel
theorem dX8_pump_27 : decode cX8_pump 27 = .ok (.ireturn, 1) := by decide +kernel
theorem dX8_set_0 : decode cX8_set 0 = .ok (.aload_n 0, 1) := by decide +kernel
theorem dX8_set_1 : decode cX8_set 1 = .ok (.getfield 10, 3) := by decide +kernel
theorem dX8_set_4 : decode cX8_set 4 = .ok (.getfield 75, 3) := by decide +kernel
theorem dX8_set_7 : decode cX8_set 7 = .ok (.iconst 0, 1) := by decide +kernel
theorem dX8_set_8 : decode cX8_set 8 = .ok (.iload_n 1, 1) := by decide +kernel
theorem dX8_set_9 : decode cX8_set 9 = .ok (.iload_n 2, 1) := by decide +kernel
theorem dX8_set_10 : decode cX8_set 10 = .ok (.invokevirtual 62, 3) := by decide +kernel
theorem dX8_set_13 : decode cX8_set 13 = .ok (.ireturn, 1) := by decide +kernel
theorem dX8_wind_0 : decode cX8_wind 0 = .ok (.iload_n 1, 1) := by decide +kernel
theorem dX8_wind_1 : decode cX8_wind 1 = .ok (.iconst 0, 1) := by decide +kernel
theorem dX8_wind_2 : decode cX8_wind 2 = .ok (.sipush 300, 3) := by decide +kernel
theorem dX8_wind_5 : decode cX8_wind 5 = .ok (.invokestatic 36, 3) := by decide +kernel
theorem dX8_wind_8 : decode cX8_wind 8 = .ok (.ifCond .ne 6, 3) := by decide +kernel
theorem dX8_wind_11 : decode cX8_wind 11 = .ok (.bipush (-2), 2) := by decide +kernel
theorem dX8_wind_13 : decode cX8_wind 13 = .ok (.ireturn, 1) := by decide +kernel
theorem dX8_wind_14 : decode cX8_wind 14 = .ok (.aload_n 0, 1) := by decide +kernel
theorem dX8_wind_15 : decode cX8_wind 15 = .ok (.getfield 10, 3) := by decide +kernel
theorem dX8_wind_18 : decode cX8_wind 18 = .ok (.getfield 76, 3) := by decide +kernel
theorem dX8_wind_21 : decode cX8_wind 21 = .ok (.getfield 80, 3) := by decide +kernel
theorem dX8_wind_24 : decode cX8_wind 24 = .ok (.istore_n 2, 1) := by decide +kernel
theorem dX8_wind_25 : decode cX8_wind 25 = .ok (.aload_n 0, 1) := by decide +kernel
theorem dX8_wind_26 : decode cX8_wind 26 = .ok (.getfield 10, 3) := by decide +kernel
theorem dX8_wind_29 : decode cX8_wind 29 = .ok (.getfield 76, 3) := by decide +kernel
theorem dX8_wind_32 : decode cX8_wind 32 = .ok (.iload_n 1, 1) := by decide +kernel
theorem dX8_wind_33 : decode cX8_wind 33 = .ok (.putfield 80, 3) := by decide +kernel
theorem dX8_wind_36 : decode cX8_wind 36 = .ok (.iload_n 2, 1) := by decide +kernel
theorem dX8_wind_37 : decode cX8_wind 37 = .ok (.ireturn, 1) := by decide +kernel
theorem dX8_cue_0 : decode cX8_cue 0 = .ok (.iload_n 1, 1) := by decide +kernel
theorem dX8_cue_1 : decode cX8_cue 1 = .ok (.iconst 0, 1) := by decide +kernel
theorem dX8_cue_2 : decode cX8_cue 2 = .ok (.ldc 85, 2) := by decide +kernel
theorem dX8_cue_4 : decode cX8_cue 4 = .ok (.invokestatic 36, 3) := by decide +kernel
theorem dX8_cue_7 : decode cX8_cue 7 = .ok (.ifCond .eq 25, 3) := by decide +kernel
theorem dX8_cue_10 : decode cX8_cue 10 = .ok (.iload_n 2, 1) := by decide +kernel
theorem dX8_cue_11 : decode cX8_cue 11 = .ok (.iconst 1, 1) := by decide +kernel
theorem dX8_cue_12 : decode cX8_cue 12 = .ok (.sipush 4095, 3) := by decide +kernel
theorem dX8_cue_15 : decode cX8_cue 15 = .ok (.invokestatic 36, 3) := by decide +kernel
theorem dX8_cue_18 : decode cX8_cue 18 = .ok (.ifCond .eq 14, 3) := by decide +kernel
theorem dX8_cue_21 : decode cX8_cue 21 = .ok (.iload_n 3, 1) := by decide +kernel
theorem dX8_cue_22 : decode cX8_cue 22 = .ok (.iconst 0, 1) := by decide +kernel
theorem dX8_cue_23 : decode cX8_cue 23 = .ok (.sipush 1000, 3) := by decide +kernel
theorem dX8_cue_26 : decode cX8_cue 26 = .ok (.invokestatic 36, 3) := by decide +kernel
theorem dX8_cue_29 : decode cX8_cue 29 = .ok (.ifCond .ne 6, 3) := by decide +kernel
theorem dX8_cue_32 : decode cX8_cue 32 = .ok (.bipush (-2), 2) := by decide +kernel
theorem dX8_cue_34 : decode cX8_cue 34 = .ok (.ireturn, 1) := by decide +kernel
theorem dX8_cue_35 : decode cX8_cue 35 = .ok (.aload_n 0, 1) := by decide +kernel
theorem dX8_cue_36 : decode cX8_cue 36 = .ok (.getfield 10, 3) := by decide +kernel
theorem dX8_cue_39 : decode cX8_cue 39 = .ok (.getfield 86, 3) := by decide +kernel
theorem dX8_cue_42 : decode cX8_cue 42 = .ok (.iload_n 1, 1) := by decide +kernel
theorem dX8_cue_43 : decode cX8_cue 43 = .ok (.iload_n 2, 1) := by decide +kernel
theorem dX8_cue_44 : decode cX8_cue 44 = .ok (.iload_n 3, 1) := by decide +kernel
theorem dX8_cue_45 : decode cX8_cue 45 = .ok (.invokevirtual 90, 3) := by decide +kernel
theorem dX8_cue_48 : decode cX8_cue 48 = .ok (.ireturn, 1) := by decide +kernel
theorem dX8_remove_0 : decode cX8_remove 0 = .ok (.aload_n 0, 1) := by decide +kernel
theorem dX8_remove_1 : decode cX8_remove 1 = .ok (.getfield 10, 3) := by decide +kernel
theorem dX8_remove_4 : decode cX8_remove 4 = .ok (.getfield 86, 3) := by decide +kernel
theorem dX8_remove_7 : decode cX8_remove 7 = .ok (.iload_n 1, 1) := by decide +kernel
theorem dX8_remove_8 : decode cX8_remove 8 = .ok (.invokevirtual 95, 3) := by decide +kernel
theorem dX8_remove_11 : decode cX8_remove 11 = .ok (.ifCond .ne 5, 3) := by decide +kernel
theorem dX8_remove_14 : decode cX8_remove 14 = .ok (.iconst (-1), 1) := by decide +kernel
theorem dX8_remove_15 : decode cX8_remove 15 = .ok (.ireturn, 1) := by decide +kernel
theorem dX8_remove_16 : decode cX8_remove 16 = .ok (.aload_n 0, 1) := by decide +kernel
theorem dX8_remove_17 : decode cX8_remove 17 = .ok (.getfield 10, 3) := by decide +kernel
theorem dX8_remove_20 : decode cX8_remove 20 = .ok (.getfield 86, 3) := by decide +kernel
theorem dX8_remove_23 : decode cX8_remove 23 = .ok (.iload_n 1, 1) := by decide +kernel
theorem dX8_remove_24 : decode cX8_remove 24 = .ok (.invokevirtual 96, 3) := by decide +kernel
theorem dX8_remove_27 : decode cX8_remove 27 = .ok (.aload_n 0, 1) := by decide +kernel
theorem dX8_remove_28 : decode cX8_remove 28 = .ok (.getfield 10, 3) := by decide +kernel
theorem dX8_remove_31 : decode cX8_remove 31 = .ok (.getfield 86, 3) := by decide +kernel
theorem dX8_remove_34 : decode cX8_remove 34 = .ok (.getfield 99, 3) := by decide +kernel
theorem dX8_remove_37 : decode cX8_remove 37 = .ok (.ireturn, 1) := by decide +kernel
theorem dX8_move_0 : decode cX8_move 0 = .ok (.aload_n 0, 1) := by decide +kernel
theorem dX8_move_1 : decode cX8_move 1 = .ok (.getfield 10, 3) := by decide +kernel
theorem dX8_move_4 : decode cX8_move 4 = .ok (.getfield 86, 3) := by decide +kernel
theorem dX8_move_7 : decode cX8_move 7 = .ok (.iload_n 1, 1) := by decide +kernel
theorem dX8_move_8 : decode cX8_move 8 = .ok (.invokevirtual 95, 3) := by decide +kernel
theorem dX8_move_11 : decode cX8_move 11 = .ok (.ifCond .ne 5, 3) := by decide +kernel
theorem dX8_move_14 : decode cX8_move 14 = .ok (.iconst (-1), 1) := by decide +kernel
theorem dX8_move_15 : decode cX8_move 15 = .ok (.ireturn, 1) := by decide +kernel
theorem dX8_move_16 : decode cX8_move 16 = .ok (.iload_n 2, 1) := by decide +kernel
theorem dX8_move_17 : decode cX8_move 17 = .ok (.ldc 100, 2) := by decide +kernel
theorem dX8_move_19 : decode cX8_move 19 = .ok (.ldc 85, 2) := by decide +kernel
theorem dX8_move_21 : decode cX8_move 21 = .ok (.invokestatic 36, 3) := by decide +kernel
theorem dX8_move_24 : decode cX8_move 24 = .ok (.ifCond .eq 26, 3) := by decide +kernel
theorem dX8_move_27 : decode cX8_move 27 = .ok (.aload_n 0, 1) := by decide +kernel
theorem dX8_move_28 : decode cX8_move 28 = .ok (.getfield 10, 3) := by decide +kernel
theorem dX8_move_31 : decode cX8_move 31 = .ok (.getfield 86, 3) := by decide +kernel
theorem dX8_move_34 : decode cX8_move 34 = .ok (.getfield 101, 3) := by decide +kernel
theorem dX8_move_37 : decode cX8_move 37 = .ok (.iload_n 1, 1) := by decide +kernel
theorem dX8_move_38 : decode cX8_move 38 = .ok (.iaload, 1) := by decide +kernel
theorem dX8_move_39 : decode cX8_move 39 = .ok (.iload_n 2, 1) := by decide +kernel
theorem dX8_move_40 : decode cX8_move 40 = .ok (.iadd, 1) := by decide +kernel
theorem dX8_move_41 : decode cX8_move 41 = .ok (.iconst 0, 1) := by decide +kernel
theorem dX8_move_42 : decode cX8_move 42 = .ok (.ldc 85, 2) := by decide +kernel
theorem dX8_move_44 : decode cX8_move 44 = .ok (.invokestatic 36, 3) := by decide +kernel
theorem dX8_move_47 : decode cX8_move 47 = .ok (.ifCond .ne 6, 3) := by decide +kernel
theorem dX8_move_50 : decode cX8_move 50 = .ok (.bipush (-2), 2) := by decide +kernel
theorem dX8_move_52 : decode cX8_move 52 = .ok (.ireturn, 1) := by decide +kernel
theorem dX8_move_53 : decode cX8_move 53 = .ok (.aload_n 0, 1) := by decide +kernel
theorem dX8_move_54 : decode cX8_move 54 = .ok (.getfield 10, 3) := by decide +kernel
theorem dX8_move_57 : decode cX8_move 57 = .ok (.getfield 86, 3) := by decide +kernel
theorem dX8_move_60 : decode cX8_move 60 = .ok (.iload_n 1, 1) := by decide +kernel
theorem dX8_move_61 : decode cX8_move 61 = .ok (.iload_n 2, 1) := by decide +kernel
theorem dX8_move_62 : decode cX8_move 62 = .ok (.invokevirtual 105, 3) := by decide +kernel
theorem dX8_move_65 : decode cX8_move 65 = .ok (.ireturn, 1) := by decide +kernel
theorem dX8_part_0 : decode cX8_part 0 = .ok (.aload_n 0, 1) := by decide +kernel
theorem dX8_part_1 : decode cX8_part 1 = .ok (.getfield 10, 3) := by decide +kernel
theorem dX8_part_4 : decode cX8_part 4 = .ok (.getfield 86, 3) := by decide +kernel
theorem dX8_part_7 : decode cX8_part 7 = .ok (.iload_n 1, 1) := by decide +kernel
theorem dX8_part_8 : decode cX8_part 8 = .ok (.invokevirtual 95, 3) := by decide +kernel
theorem dX8_part_11 : decode cX8_part 11 = .ok (.ifCond .ne 5, 3) := by decide +kernel
theorem dX8_part_14 : decode cX8_part 14 = .ok (.iconst (-1), 1) := by decide +kernel
theorem dX8_part_15 : decode cX8_part 15 = .ok (.ireturn, 1) := by decide +kernel
theorem dX8_part_16 : decode cX8_part 16 = .ok (.iload_n 2, 1) := by decide +kernel
theorem dX8_part_17 : decode cX8_part 17 = .ok (.tableswitch 66 0 2 #[27, 40, 53], 27) := by decide +kernel
theorem dX8_part_44 : decode cX8_part 44 = .ok (.aload_n 0, 1) := by decide +kernel
theorem dX8_part_45 : decode cX8_part 45 = .ok (.getfield 10, 3) := by decide +kernel
theorem dX8_part_48 : decode cX8_part 48 = .ok (.getfield 86, 3) := by decide +kernel
theorem dX8_part_51 : decode cX8_part 51 = .ok (.getfield 101, 3) := by decide +kernel
theorem dX8_part_54 : decode cX8_part 54 = .ok (.iload_n 1, 1) := by decide +kernel
theorem dX8_part_55 : decode cX8_part 55 = .ok (.iaload, 1) := by decide +kernel
theorem dX8_part_56 : decode cX8_part 56 = .ok (.ireturn, 1) := by decide +kernel
theorem dX8_part_57 : decode cX8_part 57 = .ok (.aload_n 0, 1) := by decide +kernel
theorem dX8_part_58 : decode cX8_part 58 = .ok (.getfield 10, 3) := by decide +kernel
theorem dX8_part_61 : decode cX8_part 61 = .ok (.getfield 86, 3) := by decide +kernel
theorem dX8_part_64 : decode cX8_part 64 = .ok (.getfield 109, 3) := by decide +kernel
theorem dX8_part_67 : decode cX8_part 67 = .ok (.iload_n 1, 1) := by decide +kernel
theorem dX8_part_68 : decode cX8_part 68 = .ok (.iaload, 1) := by decide +kernel
theorem dX8_part_69 : decode cX8_part 69 = .ok (.ireturn, 1) := by decide +kernel
theorem dX8_part_70 : decode cX8_part 70 = .ok (.aload_n 0, 1) := by decide +kernel
theorem dX8_part_71 : decode cX8_part 71 = .ok (.getfield 10, 3) := by decide +kernel
theorem dX8_part_74 : decode cX8_part 74 = .ok (.getfield 86, 3) := by decide +kernel
theorem dX8_part_77 : decode cX8_part 77 = .ok (.getfield 112, 3) := by decide +kernel
theorem dX8_part_80 : decode cX8_part 80 = .ok (.iload_n 1, 1) := by decide +kernel
theorem dX8_part_81 : decode cX8_part 81 = .ok (.iaload, 1) := by decide +kernel
theorem dX8_part_82 : decode cX8_part 82 = .ok (.ireturn, 1) := by decide +kernel
theorem dX8_part_83 : decode cX8_part 83 = .ok (.bipush (-2), 2) := by decide +kernel
theorem dX8_part_85 : decode cX8_part 85 = .ok (.ireturn, 1) := by decide +kernel
theorem dX8_command_0 : decode cX8_command 0 = .ok (.iload_n 1, 1) := by decide +kernel
theorem dX8_command_1 : decode cX8_command 1 = .ok (.iconst 1, 1) := by decide +kernel
theorem dX8_command_2 : decode cX8_command 2 = .ok (.sipush 4095, 3) := by decide +kernel
theorem dX8_command_5 : decode cX8_command 5 = .ok (.invokestatic 36, 3) := by decide +kernel
theorem dX8_command_8 : decode cX8_command 8 = .ok (.ifCond .eq 14, 3) := by decide +kernel
theorem dX8_command_11 : decode cX8_command 11 = .ok (.iload_n 2, 1) := by decide +kernel
theorem dX8_command_12 : decode cX8_command 12 = .ok (.iconst 0, 1) := by decide +kernel
theorem dX8_command_13 : decode cX8_command 13 = .ok (.sipush 1000, 3) := by decide +kernel
theorem dX8_command_16 : decode cX8_command 16 = .ok (.invokestatic 36, 3) := by decide +kernel
theorem dX8_command_19 : decode cX8_command 19 = .ok (.ifCond .ne 6, 3) := by decide +kernel
theorem dX8_command_22 : decode cX8_command 22 = .ok (.bipush (-2), 2) := by decide +kernel
theorem dX8_command_24 : decode cX8_command 24 = .ok (.ireturn, 1) := by decide +kernel
theorem dX8_command_25 : decode cX8_command 25 = .ok (.aload_n 0, 1) := by decide +kernel
theorem dX8_command_26 : decode cX8_command 26 = .ok (.getfield 10, 3) := by decide +kernel
theorem dX8_command_29 : decode cX8_command 29 = .ok (.getfield 40, 3) := by decide +kernel
theorem dX8_command_32 : decode cX8_command 32 = .ok (.iload_n 1, 1) := by decide +kernel
theorem dX8_command_33 : decode cX8_command 33 = .ok (.iload_n 2, 1) := by decide +kernel
theorem dX8_command_34 : decode cX8_command 34 = .ok (.invokevirtual 115, 3) := by decide +kernel
theorem dX8_command_37 : decode cX8_command 37 = .ok (.aload_n 0, 1) := by decide +kernel
theorem dX8_command_38 : decode cX8_command 38 = .ok (.getfield 10, 3) := by decide +kernel
theorem dX8_command_41 : decode cX8_command 41 = .ok (.getfield 119, 3) := by decide +kernel
theorem dX8_command_44 : decode cX8_command 44 = .ok (.ireturn, 1) := by decide +kernel
theorem dX8_tick_0 : decode cX8_tick 0 = .ok (.iload_n 1, 1) := by decide +kernel
theorem dX8_tick_1 : decode cX8_tick 1 = .ok (.iconst 1, 1) := by decide +kernel
theorem dX8_tick_2 : decode cX8_tick 2 = .ok (.sipush 2000, 3) := by decide +kernel
theorem dX8_tick_5 : decode cX8_tick 5 = .ok (.invokestatic 36, 3) := by decide +kernel
theorem dX8_tick_8 : decode cX8_tick 8 = .ok (.ifCond .ne 6, 3) := by decide +kernel
theorem dX8_tick_11 : decode cX8_tick 11 = .ok (.bipush (-2), 2) := by decide +kernel
theorem dX8_tick_13 : decode cX8_tick 13 = .ok (.ireturn, 1) := by decide +kernel
theorem dX8_tick_14 : decode cX8_tick 14 = .ok (.aload_n 0, 1) := by decide +kernel
theorem dX8_tick_15 : decode cX8_tick 15 = .ok (.getfield 10, 3) := by decide +kernel
theorem dX8_tick_18 : decode cX8_tick 18 = .ok (.getfield 119, 3) := by decide +kernel
theorem dX8_tick_21 : decode cX8_tick 21 = .ok (.iload_n 1, 1) := by decide +kernel
theorem dX8_tick_22 : decode cX8_tick 22 = .ok (.iadd, 1) := by decide +kernel
theorem dX8_tick_23 : decode cX8_tick 23 = .ok (.ldc 122, 2) := by decide +kernel
theorem dX8_tick_25 : decode cX8_tick 25 = .ok (.if_icmp .le 6, 3) := by decide +kernel
theorem dX8_tick_28 : decode cX8_tick 28 = .ok (.bipush (-5), 2) := by decide +kernel
theorem dX8_tick_30 : decode cX8_tick 30 = .ok (.ireturn, 1) := by decide +kernel
theorem dX8_tick_31 : decode cX8_tick 31 = .ok (.iconst 0, 1) := by decide +kernel
theorem dX8_tick_32 : decode cX8_tick 32 = .ok (.istore_n 2, 1) := by decide +kernel
theorem dX8_tick_33 : decode cX8_tick 33 = .ok (.iload_n 2, 1) := by decide +kernel
theorem dX8_tick_34 : decode cX8_tick 34 = .ok (.iload_n 1, 1) := by decide +kernel
theorem dX8_tick_35 : decode cX8_tick 35 = .ok (.if_icmp .ge 16, 3) := by decide +kernel
theorem dX8_tick_38 : decode cX8_tick 38 = .ok (.aload_n 0, 1) := by decide +kernel
theorem dX8_tick_39 : decode cX8_tick 39 = .ok (.getfield 10, 3) := by decide +kernel
theorem dX8_tick_42 : decode cX8_tick 42 = .ok (.invokevirtual 123, 3) := by decide +kernel
theorem dX8_tick_45 : decode cX8_tick 45 = .ok (.iinc 2 1, 3) := by decide +kernel
theorem dX8_tick_48 : decode cX8_tick 48 = .ok (.goto (-15), 3) := by decide +kernel
theorem dX8_tick_51 : decode cX8_tick 51 = .ok (.aload_n 0, 1) := by decide +kernel
theorem dX8_tick_52 : decode cX8_tick 52 = .ok (.getfield 10, 3) := by decide +kernel
theorem dX8_tick_55 : decode cX8_tick 55 = .ok (.getfield 119, 3) := by decide +kernel
theorem dX8_tick_58 : decode cX8_tick 58 = .ok (.ireturn, 1) := by decide +kernel
theorem dX8_rewind_0 : decode cX8_rewind 0 = .ok (.aload_n 0, 1) := by decide +kernel
theorem dX8_rewind_1 : decode cX8_rewind 1 = .ok (.getfield 10, 3) := by decide +kernel
theorem dX8_rewind_4 : decode cX8_rewind 4 = .ok (.getfield 119, 3) := by decide +kernel
theorem dX8_rewind_7 : decode cX8_rewind 7 = .ok (.istore_n 1, 1) := by decide +kernel
theorem dX8_rewind_8 : decode cX8_rewind 8 = .ok (.aload_n 0, 1) := by decide +kernel
theorem dX8_rewind_9 : decode cX8_rewind 9 = .ok (.getfield 10, 3) := by decide +kernel
theorem dX8_rewind_12 : decode cX8_rewind 12 = .ok (.invokevirtual 126, 3) := by decide +kernel
theorem dX8_rewind_15 : decode cX8_rewind 15 = .ok (.iload_n 1, 1) := by decide +kernel
theorem dX8_rewind_16 : decode cX8_rewind 16 = .ok (.ireturn, 1) := by decide +kernel
theorem dX8_spray_0 : decode cX8_spray 0 = .ok (.aload_n 0, 1) := by decide +kernel
theorem dX8_spray_1 : decode cX8_spray 1 = .ok (.getfield 10, 3) := by decide +kernel
theorem dX8_spray_4 : decode cX8_spray 4 = .ok (.getfield 40, 3) := by decide +kernel
theorem dX8_spray_7 : decode cX8_spray 7 = .ok (.iload_n 1, 1) := by decide +kernel
theorem dX8_spray_8 : decode cX8_spray 8 = .ok (.invokevirtual 54, 3) := by decide +kernel
theorem dX8_spray_11 : decode cX8_spray 11 = .ok (.ifCond .ne 5, 3) := by decide +kernel
theorem dX8_spray_14 : decode cX8_spray 14 = .ok (.iconst (-1), 1) := by decide +kernel
theorem dX8_spray_15 : decode cX8_spray 15 = .ok (.ireturn, 1) := by decide +kernel
theorem dX8_spray_16 : decode cX8_spray 16 = .ok (.iload_n 2, 1) := by decide +kernel
theorem dX8_spray_17 : decode cX8_spray 17 = .ok (.tableswitch 117 6 11 #[39, 52, 65, 78, 91, 104], 39) := by decide +kernel
theorem dX8_spray_56 : decode cX8_spray 56 = .ok (.aload_n 0, 1) := by decide +kernel
theorem dX8_spray_57 : decode cX8_spray 57 = .ok (.getfield 10, 3) := by decide +kernel
theorem dX8_spray_60 : decode cX8_spray 60 = .ok (.getfield 40, 3) := by decide +kernel
theorem dX8_spray_63 : decode cX8_spray 63 = .ok (.getfield 129, 3) := by decide +kernel
theorem dX8_spray_66 : decode cX8_spray 66 = .ok (.iload_n 1, 1) := by decide +kernel
theorem dX8_spray_67 : decode cX8_spray 67 = .ok (.iaload, 1) := by decide +kernel
theorem dX8_spray_68 : decode cX8_spray 68 = .ok (.ireturn, 1) := by decide +kernel
theorem dX8_spray_69 : decode cX8_spray 69 = .ok (.aload_n 0, 1) := by decide +kernel
theorem dX8_spray_70 : decode cX8_spray 70 = .ok (.getfield 10, 3) := by decide +kernel
theorem dX8_spray_73 : decode cX8_spray 73 = .ok (.getfield 40, 3) := by decide +kernel
theorem dX8_spray_76 : decode cX8_spray 76 = .ok (.getfield 132, 3) := by decide +kernel
theorem dX8_spray_79 : decode cX8_spray 79 = .ok (.iload_n 1, 1) := by decide +kernel
theorem dX8_spray_80 : decode cX8_spray 80 = .ok (.iaload, 1) := by decide +kernel
theorem dX8_spray_81 : decode cX8_spray 81 = .ok (.ireturn, 1) := by decide +kernel
theorem dX8_spray_82 : decode cX8_spray 82 = .ok (.aload_n 0, 1) := by decide +kernel
theorem dX8_spray_83 : decode cX8_spray 83 = .ok (.getfield 10, 3) := by decide +kernel
theorem dX8_spray_86 : decode cX8_spray 86 = .ok (.getfield 40, 3) := by decide +kernel
theorem dX8_spray_89 : decode cX8_spray 89 = .ok (.getfield 135, 3) := by decide +kernel
theorem dX8_spray_92 : decode cX8_spray 92 = .ok (.iload_n 1, 1) := by decide +kernel
theorem dX8_spray_93 : decode cX8_spray 93 = .ok (.iaload, 1) := by decide +kernel
theorem dX8_spray_94 : decode cX8_spray 94 = .ok (.ireturn, 1) := by decide +kernel
theorem dX8_spray_95 : decode cX8_spray 95 = .ok (.aload_n 0, 1) := by decide +kernel
theorem dX8_spray_96 : decode cX8_spray 96 = .ok (.getfield 10, 3) := by decide +kernel
theorem dX8_spray_99 : decode cX8_spray 99 = .ok (.getfield 40, 3) := by decide +kernel
theorem dX8_spray_102 : decode cX8_spray 102 = .ok (.getfield 138, 3) := by decide +kernel
theorem dX8_spray_105 : decode cX8_spray 105 = .ok (.iload_n 1, 1) := by decide +kernel
theorem dX8_spray_106 : decode cX8_spray 106 = .ok (.iaload, 1) := by decide +kernel
theorem dX8_spray_107 : decode cX8_spray 107 = .ok (.ireturn, 1) := by decide +kernel
theorem dX8_spray_108 : decode cX8_spray 108 = .ok (.aload_n 0, 1) := by decide +kernel
theorem dX8_spray_109 : decode cX8_spray 109 = .ok (.getfield 10, 3) := by decide +kernel
theorem dX8_spray_112 : decode cX8_spray 112 = .ok (.getfield 40, 3) := by decide +kernel
theorem dX8_spray_115 : decode cX8_spray 115 = .ok (.getfield 141, 3) := by decide +kernel
theorem dX8_spray_118 : decode cX8_spray 118 = .ok (.iload_n 1, 1) := by decide +kernel
theorem dX8_spray_119 : decode cX8_spray 119 = .ok (.iaload, 1) := by decide +kernel
theorem dX8_spray_120 : decode cX8_spray 120 = .ok (.ireturn, 1) := by decide +kernel
theorem dX8_spray_121 : decode cX8_spray 121 = .ok (.aload_n 0, 1) := by decide +kernel
theorem dX8_spray_122 : decode cX8_spray 122 = .ok (.getfield 10, 3) := by decide +kernel
theorem dX8_spray_125 : decode cX8_spray 125 = .ok (.getfield 40, 3) := by decide +kernel
theorem dX8_spray_128 : decode cX8_spray 128 = .ok (.getfield 144, 3) := by decide +kernel
theorem dX8_spray_131 : decode cX8_spray 131 = .ok (.iload_n 1, 1) := by decide +kernel
theorem dX8_spray_132 : decode cX8_spray 132 = .ok (.iaload, 1) := by decide +kernel
theorem dX8_spray_133 : decode cX8_spray 133 = .ok (.ireturn, 1) := by decide +kernel
theorem dX8_spray_134 : decode cX8_spray 134 = .ok (.iload_n 2, 1) := by decide +kernel
theorem dX8_spray_135 : decode cX8_spray 135 = .ok (.iconst 0, 1) := by decide +kernel
theorem dX8_spray_136 : decode cX8_spray 136 = .ok (.iconst 5, 1) := by decide +kernel
theorem dX8_spray_137 : decode cX8_spray 137 = .ok (.invokestatic 36, 3) := by decide +kernel
theorem dX8_spray_140 : decode cX8_spray 140 = .ok (.ifCond .eq 21, 3) := by decide +kernel
theorem dX8_spray_143 : decode cX8_spray 143 = .ok (.aload_n 0, 1) := by decide +kernel
theorem dX8_spray_144 : decode cX8_spray 144 = .ok (.getfield 10, 3) := by decide +kernel
theorem dX8_spray_147 : decode cX8_spray 147 = .ok (.getfield 40, 3) := by decide +kernel
theorem dX8_spray_150 : decode cX8_spray 150 = .ok (.getfield 58, 3) := by decide +kernel
theorem dX8_spray_153 : decode cX8_spray 153 = .ok (.iload_n 1, 1) := by decide +kernel
theorem dX8_spray_154 : decode cX8_spray 154 = .ok (.iload_n 2, 1) := by decide +kernel
theorem dX8_spray_155 : decode cX8_spray 155 = .ok (.invokevirtual 147, 3) := by decide +kernel
theorem dX8_spray_158 : decode cX8_spray 158 = .ok (.goto 5, 3) := by decide +kernel
theorem dX8_spray_161 : decode cX8_spray 161 = .ok (.bipush (-2), 2) := by decide +kernel
theorem dX8_spray_163 : decode cX8_spray 163 = .ok (.ireturn, 1) := by decide +kernel
theorem dX8_pressure_0 : decode cX8_pressure 0 = .ok (.iload_n 1, 1) := by decide +kernel
theorem dX8_pressure_1 : decode cX8_pressure 1 = .ok (.iconst 0, 1) := by decide +kernel
theorem dX8_pressure_2 : decode cX8_pressure 2 = .ok (.iconst 2, 1) := by decide +kernel
theorem dX8_pressure_3 : decode cX8_pressure 3 = .ok (.invokestatic 36, 3) := by decide +kernel
theorem dX8_pressure_6 : decode cX8_pressure 6 = .ok (.ifCond .ne 5, 3) := by decide +kernel
theorem dX8_pressure_9 : decode cX8_pressure 9 = .ok (.iconst (-1), 1) := by decide +kernel
theorem dX8_pressure_10 : decode cX8_pressure 10 = .ok (.ireturn, 1) := by decide +kernel
theorem dX8_pressure_11 : decode cX8_pressure 11 = .ok (.iload_n 2, 1) := by decide +kernel
theorem dX8_pressure_12 : decode cX8_pressure 12 = .ok (.tableswitch 67 2 4 #[28, 41, 54], 28) := by decide +kernel
theorem dX8_pressure_40 : decode cX8_pressure 40 = .ok (.aload_n 0, 1) := by decide +kernel
theorem dX8_pressure_41 : decode cX8_pressure 41 = .ok (.getfield 10, 3) := by decide +kernel
theorem dX8_pressure_44 : decode cX8_pressure 44 = .ok (.getfield 68, 3) := by decide +kernel
theorem dX8_pressure_47 : decode cX8_pressure 47 = .ok (.getfield 150, 3) := by decide +kernel
theorem dX8_pressure_50 : decode cX8_pressure 50 = .ok (.iload_n 1, 1) := by decide +kernel
theorem dX8_pressure_51 : decode cX8_pressure 51 = .ok (.iaload, 1) := by decide +kernel
theorem dX8_pressure_52 : decode cX8_pressure 52 = .ok (.ireturn, 1) := by decide +kernel
theorem dX8_pressure_53 : decode cX8_pressure 53 = .ok (.aload_n 0, 1) := by decide +kernel
theorem dX8_pressure_54 : decode cX8_pressure 54 = .ok (.getfield 10, 3) := by decide +kernel
theorem dX8_pressure_57 : decode cX8_pressure 57 = .ok (.getfield 68, 3) := by decide +kernel
theorem dX8_pressure_60 : decode cX8_pressure 60 = .ok (.getfield 151, 3) := by decide +kernel
theorem dX8_pressure_63 : decode cX8_pressure 63 = .ok (.iload_n 1, 1) := by decide +kernel
theorem dX8_pressure_64 : decode cX8_pressure 64 = .ok (.iaload, 1) := by decide +kernel
theorem dX8_pressure_65 : decode cX8_pressure 65 = .ok (.ireturn, 1) := by decide +kernel
theorem dX8_pressure_66 : decode cX8_pressure 66 = .ok (.aload_n 0, 1) := by decide +kernel
theorem dX8_pressure_67 : decode cX8_pressure 67 = .ok (.getfield 10, 3) := by decide +kernel
theorem dX8_pressure_70 : decode cX8_pressure 70 = .ok (.getfield 68, 3) := by decide +kernel
theorem dX8_pressure_73 : decode cX8_pressure 73 = .ok (.getfield 154, 3) := by decide +kernel
theorem dX8_pressure_76 : decode cX8_pressure 76 = .ok (.iload_n 1, 1) := by decide +kernel
theorem dX8_pressure_77 : decode cX8_pressure 77 = .ok (.iaload, 1) := by decide +kernel
theorem dX8_pressure_78 : decode cX8_pressure 78 = .ok (.ireturn, 1) := by decide +kernel
theorem dX8_pressure_79 : decode cX8_pressure 79 = .ok (.iload_n 2, 1) := by decide +kernel
theorem dX8_pressure_80 : decode cX8_pressure 80 = .ok (.iconst 0, 1) := by decide +kernel
theorem dX8_pressure_81 : decode cX8_pressure 81 = .ok (.iconst 1, 1) := by decide +kernel
theorem dX8_pressure_82 : decode cX8_pressure 82 = .ok (.invokestatic 36, 3) := by decide +kernel
theorem dX8_pressure_85 : decode cX8_pressure 85 = .ok (.ifCond .eq 21, 3) := by decide +kernel
theorem dX8_pressure_88 : decode cX8_pressure 88 = .ok (.aload_n 0, 1) := by decide +kernel
end
section
theorem dX8_pressure_89 : decode cX8_pressure 89 = .ok (.getfield 10, 3) := by decide +kernel
theorem dX8_pressure_92 : decode cX8_pressure 92 = .ok (.getfield 68, 3) := by decide +kernel
theorem dX8_pressure_95 : decode cX8_pressure 95 = .ok (.getfield 72, 3) := by decide +kernel
theorem dX8_pressure_98 : decode cX8_pressure 98 = .ok (.iload_n 1, 1) := by decide +kernel
theorem dX8_pressure_99 : decode cX8_pressure 99 = .ok (.iload_n 2, 1) := by decide +kernel
theorem dX8_pressure_100 : decode cX8_pressure 100 = .ok (.invokevirtual 147, 3) := by decide +kernel
theorem dX8_pressure_103 : decode cX8_pressure 103 = .ok (.goto 5, 3) := by decide +kernel
theorem dX8_pressure_106 : decode cX8_pressure 106 = .ok (.bipush (-2), 2) := by decide +kernel
theorem dX8_pressure_108 : decode cX8_pressure 108 = .ok (.ireturn, 1) := by decide +kernel
theorem dX8_load_0 : decode cX8_load 0 = .ok (.iload_n 1, 1) := by decide +kernel
theorem dX8_load_1 : decode cX8_load 1 = .ok (.iconst 0, 1) := by decide +kernel
theorem dX8_load_2 : decode cX8_load 2 = .ok (.iconst 2, 1) := by decide +kernel
theorem dX8_load_3 : decode cX8_load 3 = .ok (.invokestatic 36, 3) := by decide +kernel
theorem dX8_load_6 : decode cX8_load 6 = .ok (.ifCond .ne 6, 3) := by decide +kernel
theorem dX8_load_9 : decode cX8_load 9 = .ok (.ldc 157, 2) := by decide +kernel
theorem dX8_load_11 : decode cX8_load 11 = .ok (.freturn, 1) := by decide +kernel
theorem dX8_load_12 : decode cX8_load 12 = .ok (.aload_n 0, 1) := by decide +kernel
theorem dX8_load_13 : decode cX8_load 13 = .ok (.getfield 10, 3) := by decide +kernel
theorem dX8_load_16 : decode cX8_load 16 = .ok (.getfield 68, 3) := by decide +kernel
theorem dX8_load_19 : decode cX8_load 19 = .ok (.getfield 72, 3) := by decide +kernel
theorem dX8_load_22 : decode cX8_load 22 = .ok (.iload_n 1, 1) := by decide +kernel
theorem dX8_load_23 : decode cX8_load 23 = .ok (.iconst 0, 1) := by decide +kernel
theorem dX8_load_24 : decode cX8_load 24 = .ok (.invokevirtual 147, 3) := by decide +kernel
theorem dX8_load_27 : decode cX8_load 27 = .ok (.istore_n 2, 1) := by decide +kernel
theorem dX8_load_28 : decode cX8_load 28 = .ok (.iload_n 2, 1) := by decide +kernel
theorem dX8_load_29 : decode cX8_load 29 = .ok (.ifCond .ne 7, 3) := by decide +kernel
theorem dX8_load_32 : decode cX8_load 32 = .ok (.fconst 0, 1) := by decide +kernel
theorem dX8_load_33 : decode cX8_load 33 = .ok (.goto 23, 3) := by decide +kernel
theorem dX8_load_36 : decode cX8_load 36 = .ok (.aload_n 0, 1) := by decide +kernel
theorem dX8_load_37 : decode cX8_load 37 = .ok (.getfield 10, 3) := by decide +kernel
theorem dX8_load_40 : decode cX8_load 40 = .ok (.getfield 68, 3) := by decide +kernel
theorem dX8_load_43 : decode cX8_load 43 = .ok (.getfield 150, 3) := by decide +kernel
theorem dX8_load_46 : decode cX8_load 46 = .ok (.iload_n 1, 1) := by decide +kernel
theorem dX8_load_47 : decode cX8_load 47 = .ok (.iaload, 1) := by decide +kernel
theorem dX8_load_48 : decode cX8_load 48 = .ok (.i2f, 1) := by decide +kernel
theorem dX8_load_49 : decode cX8_load 49 = .ok (.sipush 1000, 3) := by decide +kernel
theorem dX8_load_52 : decode cX8_load 52 = .ok (.iload_n 2, 1) := by decide +kernel
theorem dX8_load_53 : decode cX8_load 53 = .ok (.imul, 1) := by decide +kernel
theorem dX8_load_54 : decode cX8_load 54 = .ok (.i2f, 1) := by decide +kernel
theorem dX8_load_55 : decode cX8_load 55 = .ok (.fdiv, 1) := by decide +kernel
theorem dX8_load_56 : decode cX8_load 56 = .ok (.freturn, 1) := by decide +kernel
theorem dX8_meanHeight_0 : decode cX8_meanHeight 0 = .ok (.aload_n 0, 1) := by decide +kernel
theorem dX8_meanHeight_1 : decode cX8_meanHeight 1 = .ok (.getfield 10, 3) := by decide +kernel
theorem dX8_meanHeight_4 : decode cX8_meanHeight 4 = .ok (.getfield 40, 3) := by decide +kernel
theorem dX8_meanHeight_7 : decode cX8_meanHeight 7 = .ok (.getfield 44, 3) := by decide +kernel
theorem dX8_meanHeight_10 : decode cX8_meanHeight 10 = .ok (.istore_n 1, 1) := by decide +kernel
theorem dX8_meanHeight_11 : decode cX8_meanHeight 11 = .ok (.iload_n 1, 1) := by decide +kernel
theorem dX8_meanHeight_12 : decode cX8_meanHeight 12 = .ok (.iconst 1, 1) := by decide +kernel
theorem dX8_meanHeight_13 : decode cX8_meanHeight 13 = .ok (.if_icmp .ge 7, 3) := by decide +kernel
theorem dX8_meanHeight_16 : decode cX8_meanHeight 16 = .ok (.dconst 0, 1) := by decide +kernel
theorem dX8_meanHeight_17 : decode cX8_meanHeight 17 = .ok (.goto 17, 3) := by decide +kernel
theorem dX8_meanHeight_20 : decode cX8_meanHeight 20 = .ok (.aload_n 0, 1) := by decide +kernel
theorem dX8_meanHeight_21 : decode cX8_meanHeight 21 = .ok (.getfield 10, 3) := by decide +kernel
theorem dX8_meanHeight_24 : decode cX8_meanHeight 24 = .ok (.getfield 40, 3) := by decide +kernel
theorem dX8_meanHeight_27 : decode cX8_meanHeight 27 = .ok (.invokevirtual 158, 3) := by decide +kernel
theorem dX8_meanHeight_30 : decode cX8_meanHeight 30 = .ok (.i2d, 1) := by decide +kernel
theorem dX8_meanHeight_31 : decode cX8_meanHeight 31 = .ok (.iload_n 1, 1) := by decide +kernel
theorem dX8_meanHeight_32 : decode cX8_meanHeight 32 = .ok (.i2d, 1) := by decide +kernel
theorem dX8_meanHeight_33 : decode cX8_meanHeight 33 = .ok (.ddiv, 1) := by decide +kernel
theorem dX8_meanHeight_34 : decode cX8_meanHeight 34 = .ok (.dreturn, 1) := by decide +kernel
theorem dX8_state_0 : decode cX8_state 0 = .ok (.iload_n 1, 1) := by decide +kernel
theorem dX8_state_1 : decode cX8_state 1 = .ok (.tableswitch 163 0 9 #[55, 63, 74, 85, 96, 107, 118, 129, 137, 155], 55) := by decide +kernel
theorem dX8_state_56 : decode cX8_state 56 = .ok (.aload_n 0, 1) := by decide +kernel
theorem dX8_state_57 : decode cX8_state 57 = .ok (.getfield 10, 3) := by decide +kernel
theorem dX8_state_60 : decode cX8_state 60 = .ok (.getfield 119, 3) := by decide +kernel
theorem dX8_state_63 : decode cX8_state 63 = .ok (.ireturn, 1) := by decide +kernel
theorem dX8_state_64 : decode cX8_state 64 = .ok (.aload_n 0, 1) := by decide +kernel
theorem dX8_state_65 : decode cX8_state 65 = .ok (.getfield 10, 3) := by decide +kernel
theorem dX8_state_68 : decode cX8_state 68 = .ok (.getfield 40, 3) := by decide +kernel
theorem dX8_state_71 : decode cX8_state 71 = .ok (.getfield 44, 3) := by decide +kernel
theorem dX8_state_74 : decode cX8_state 74 = .ok (.ireturn, 1) := by decide +kernel
theorem dX8_state_75 : decode cX8_state 75 = .ok (.aload_n 0, 1) := by decide +kernel
theorem dX8_state_76 : decode cX8_state 76 = .ok (.getfield 10, 3) := by decide +kernel
theorem dX8_state_79 : decode cX8_state 79 = .ok (.getfield 86, 3) := by decide +kernel
theorem dX8_state_82 : decode cX8_state 82 = .ok (.getfield 99, 3) := by decide +kernel
theorem dX8_state_85 : decode cX8_state 85 = .ok (.ireturn, 1) := by decide +kernel
theorem dX8_state_86 : decode cX8_state 86 = .ok (.aload_n 0, 1) := by decide +kernel
theorem dX8_state_87 : decode cX8_state 87 = .ok (.getfield 10, 3) := by decide +kernel
theorem dX8_state_90 : decode cX8_state 90 = .ok (.getfield 76, 3) := by decide +kernel
theorem dX8_state_93 : decode cX8_state 93 = .ok (.getfield 80, 3) := by decide +kernel
theorem dX8_state_96 : decode cX8_state 96 = .ok (.ireturn, 1) := by decide +kernel
theorem dX8_state_97 : decode cX8_state 97 = .ok (.aload_n 0, 1) := by decide +kernel
theorem dX8_state_98 : decode cX8_state 98 = .ok (.getfield 10, 3) := by decide +kernel
theorem dX8_state_101 : decode cX8_state 101 = .ok (.getfield 76, 3) := by decide +kernel
theorem dX8_state_104 : decode cX8_state 104 = .ok (.invokevirtual 162, 3) := by decide +kernel
theorem dX8_state_107 : decode cX8_state 107 = .ok (.ireturn, 1) := by decide +kernel
theorem dX8_state_108 : decode cX8_state 108 = .ok (.aload_n 0, 1) := by decide +kernel
theorem dX8_state_109 : decode cX8_state 109 = .ok (.getfield 10, 3) := by decide +kernel
theorem dX8_state_112 : decode cX8_state 112 = .ok (.getfield 76, 3) := by decide +kernel
theorem dX8_state_115 : decode cX8_state 115 = .ok (.getfield 165, 3) := by decide +kernel
theorem dX8_state_118 : decode cX8_state 118 = .ok (.ireturn, 1) := by decide +kernel
theorem dX8_state_119 : decode cX8_state 119 = .ok (.aload_n 0, 1) := by decide +kernel
theorem dX8_state_120 : decode cX8_state 120 = .ok (.getfield 10, 3) := by decide +kernel
theorem dX8_state_123 : decode cX8_state 123 = .ok (.getfield 76, 3) := by decide +kernel
theorem dX8_state_126 : decode cX8_state 126 = .ok (.getfield 168, 3) := by decide +kernel
theorem dX8_state_129 : decode cX8_state 129 = .ok (.ireturn, 1) := by decide +kernel
theorem dX8_state_130 : decode cX8_state 130 = .ok (.aload_n 0, 1) := by decide +kernel
theorem dX8_state_131 : decode cX8_state 131 = .ok (.getfield 10, 3) := by decide +kernel
theorem dX8_state_134 : decode cX8_state 134 = .ok (.getfield 171, 3) := by decide +kernel
theorem dX8_state_137 : decode cX8_state 137 = .ok (.ireturn, 1) := by decide +kernel
theorem dX8_state_138 : decode cX8_state 138 = .ok (.aload_n 0, 1) := by decide +kernel
theorem dX8_state_139 : decode cX8_state 139 = .ok (.getfield 10, 3) := by decide +kernel
theorem dX8_state_142 : decode cX8_state 142 = .ok (.getfield 86, 3) := by decide +kernel
theorem dX8_state_145 : decode cX8_state 145 = .ok (.aload_n 0, 1) := by decide +kernel
theorem dX8_state_146 : decode cX8_state 146 = .ok (.getfield 10, 3) := by decide +kernel
theorem dX8_state_149 : decode cX8_state 149 = .ok (.getfield 119, 3) := by decide +kernel
theorem dX8_state_152 : decode cX8_state 152 = .ok (.invokevirtual 174, 3) := by decide +kernel
theorem dX8_state_155 : decode cX8_state 155 = .ok (.ireturn, 1) := by decide +kernel
theorem dX8_state_156 : decode cX8_state 156 = .ok (.aload_n 0, 1) := by decide +kernel
theorem dX8_state_157 : decode cX8_state 157 = .ok (.getfield 32, 3) := by decide +kernel
theorem dX8_state_160 : decode cX8_state 160 = .ok (.getfield 178, 3) := by decide +kernel
theorem dX8_state_163 : decode cX8_state 163 = .ok (.ireturn, 1) := by decide +kernel
theorem dX8_state_164 : decode cX8_state 164 = .ok (.iload_n 1, 1) := by decide +kernel
theorem dX8_state_165 : decode cX8_state 165 = .ok (.bipush 10, 2) := by decide +kernel
theorem dX8_state_167 : decode cX8_state 167 = .ok (.bipush 15, 2) := by decide +kernel
theorem dX8_state_169 : decode cX8_state 169 = .ok (.invokestatic 36, 3) := by decide +kernel
theorem dX8_state_172 : decode cX8_state 172 = .ok (.ifCond .eq 21, 3) := by decide +kernel
theorem dX8_state_175 : decode cX8_state 175 = .ok (.aload_n 0, 1) := by decide +kernel
theorem dX8_state_176 : decode cX8_state 176 = .ok (.getfield 10, 3) := by decide +kernel
theorem dX8_state_179 : decode cX8_state 179 = .ok (.getfield 75, 3) := by decide +kernel
theorem dX8_state_182 : decode cX8_state 182 = .ok (.iconst 0, 1) := by decide +kernel
theorem dX8_state_183 : decode cX8_state 183 = .ok (.iload_n 1, 1) := by decide +kernel
theorem dX8_state_184 : decode cX8_state 184 = .ok (.bipush 10, 2) := by decide +kernel
theorem dX8_state_186 : decode cX8_state 186 = .ok (.isub, 1) := by decide +kernel
theorem dX8_state_187 : decode cX8_state 187 = .ok (.invokevirtual 147, 3) := by decide +kernel
theorem dX8_state_190 : decode cX8_state 190 = .ok (.goto 5, 3) := by decide +kernel
theorem dX8_state_193 : decode cX8_state 193 = .ok (.bipush (-2), 2) := by decide +kernel
theorem dX8_state_195 : decode cX8_state 195 = .ok (.ireturn, 1) := by decide +kernel
theorem dX8_ahead_0 : decode cX8_ahead 0 = .ok (.iload_n 1, 1) := by decide +kernel
theorem dX8_ahead_1 : decode cX8_ahead 1 = .ok (.iconst 1, 1) := by decide +kernel
theorem dX8_ahead_2 : decode cX8_ahead 2 = .ok (.sipush 1000, 3) := by decide +kernel
theorem dX8_ahead_5 : decode cX8_ahead 5 = .ok (.invokestatic 36, 3) := by decide +kernel
theorem dX8_ahead_8 : decode cX8_ahead 8 = .ok (.ifCond .eq 12, 3) := by decide +kernel
theorem dX8_ahead_11 : decode cX8_ahead 11 = .ok (.iload_n 3, 1) := by decide +kernel
theorem dX8_ahead_12 : decode cX8_ahead 12 = .ok (.iconst 0, 1) := by decide +kernel
theorem dX8_ahead_13 : decode cX8_ahead 13 = .ok (.iconst 4, 1) := by decide +kernel
theorem dX8_ahead_14 : decode cX8_ahead 14 = .ok (.invokestatic 36, 3) := by decide +kernel
theorem dX8_ahead_17 : decode cX8_ahead 17 = .ok (.ifCond .ne 6, 3) := by decide +kernel
theorem dX8_ahead_20 : decode cX8_ahead 20 = .ok (.bipush (-2), 2) := by decide +kernel
theorem dX8_ahead_22 : decode cX8_ahead 22 = .ok (.ireturn, 1) := by decide +kernel
theorem dX8_ahead_23 : decode cX8_ahead 23 = .ok (.iload_n 3, 1) := by decide +kernel
theorem dX8_ahead_24 : decode cX8_ahead 24 = .ok (.iconst 2, 1) := by decide +kernel
theorem dX8_ahead_25 : decode cX8_ahead 25 = .ok (.if_icmp .gt 14, 3) := by decide +kernel
theorem dX8_ahead_28 : decode cX8_ahead 28 = .ok (.iload_n 2, 1) := by decide +kernel
theorem dX8_ahead_29 : decode cX8_ahead 29 = .ok (.iconst 0, 1) := by decide +kernel
theorem dX8_ahead_30 : decode cX8_ahead 30 = .ok (.iconst 2, 1) := by decide +kernel
theorem dX8_ahead_31 : decode cX8_ahead 31 = .ok (.invokestatic 36, 3) := by decide +kernel
theorem dX8_ahead_34 : decode cX8_ahead 34 = .ok (.ifCond .ne 5, 3) := by decide +kernel
theorem dX8_ahead_37 : decode cX8_ahead 37 = .ok (.iconst (-1), 1) := by decide +kernel
theorem dX8_ahead_38 : decode cX8_ahead 38 = .ok (.ireturn, 1) := by decide +kernel
theorem dX8_ahead_39 : decode cX8_ahead 39 = .ok (.aload_n 0, 1) := by decide +kernel
theorem dX8_ahead_40 : decode cX8_ahead 40 = .ok (.getfield 16, 3) := by decide +kernel
theorem dX8_ahead_43 : decode cX8_ahead 43 = .ok (.aload_n 0, 1) := by decide +kernel
theorem dX8_ahead_44 : decode cX8_ahead 44 = .ok (.getfield 10, 3) := by decide +kernel
theorem dX8_ahead_47 : decode cX8_ahead 47 = .ok (.invokevirtual 181, 3) := by decide +kernel
theorem dX8_ahead_50 : decode cX8_ahead 50 = .ok (.iload_n 3, 1) := by decide +kernel
theorem dX8_ahead_51 : decode cX8_ahead 51 = .ok (.tableswitch 56 0 3 #[29, 36, 43, 50], 29) := by decide +kernel
theorem dX8_ahead_80 : decode cX8_ahead 80 = .ok (.aload_n 0, 1) := by decide +kernel
theorem dX8_ahead_81 : decode cX8_ahead 81 = .ok (.iload_n 1, 1) := by decide +kernel
theorem dX8_ahead_82 : decode cX8_ahead 82 = .ok (.iload_n 2, 1) := by decide +kernel
theorem dX8_ahead_83 : decode cX8_ahead 83 = .ok (.invokevirtual 185, 3) := by decide +kernel
theorem dX8_ahead_86 : decode cX8_ahead 86 = .ok (.ireturn, 1) := by decide +kernel
theorem dX8_ahead_87 : decode cX8_ahead 87 = .ok (.aload_n 0, 1) := by decide +kernel
theorem dX8_ahead_88 : decode cX8_ahead 88 = .ok (.iload_n 1, 1) := by decide +kernel
theorem dX8_ahead_89 : decode cX8_ahead 89 = .ok (.iload_n 2, 1) := by decide +kernel
theorem dX8_ahead_90 : decode cX8_ahead 90 = .ok (.invokevirtual 188, 3) := by decide +kernel
theorem dX8_ahead_93 : decode cX8_ahead 93 = .ok (.ireturn, 1) := by decide +kernel
theorem dX8_ahead_94 : decode cX8_ahead 94 = .ok (.aload_n 0, 1) := by decide +kernel
theorem dX8_ahead_95 : decode cX8_ahead 95 = .ok (.iload_n 1, 1) := by decide +kernel
theorem dX8_ahead_96 : decode cX8_ahead 96 = .ok (.iload_n 2, 1) := by decide +kernel
theorem dX8_ahead_97 : decode cX8_ahead 97 = .ok (.invokevirtual 190, 3) := by decide +kernel
theorem dX8_ahead_100 : decode cX8_ahead 100 = .ok (.ireturn, 1) := by decide +kernel
theorem dX8_ahead_101 : decode cX8_ahead 101 = .ok (.aload_n 0, 1) := by decide +kernel
theorem dX8_ahead_102 : decode cX8_ahead 102 = .ok (.iload_n 1, 1) := by decide +kernel
theorem dX8_ahead_103 : decode cX8_ahead 103 = .ok (.invokevirtual 193, 3) := by decide +kernel
theorem dX8_ahead_106 : decode cX8_ahead 106 = .ok (.ireturn, 1) := by decide +kernel
theorem dX8_ahead_107 : decode cX8_ahead 107 = .ok (.aload_n 0, 1) := by decide +kernel
theorem dX8_ahead_108 : decode cX8_ahead 108 = .ok (.iload_n 1, 1) := by decide +kernel
theorem dX8_ahead_109 : decode cX8_ahead 109 = .ok (.invokevirtual 195, 3) := by decide +kernel
theorem dX8_ahead_112 : decode cX8_ahead 112 = .ok (.ireturn, 1) := by decide +kernel
theorem dX8_delay_0 : decode cX8_delay 0 = .ok (.aload_n 0, 1) := by decide +kernel
theorem dX8_delay_1 : decode cX8_delay 1 = .ok (.getfield 10, 3) := by decide +kernel
theorem dX8_delay_4 : decode cX8_delay 4 = .ok (.getfield 86, 3) := by decide +kernel
theorem dX8_delay_7 : decode cX8_delay 7 = .ok (.iload_n 1, 1) := by decide +kernel
theorem dX8_delay_8 : decode cX8_delay 8 = .ok (.invokevirtual 95, 3) := by decide +kernel
theorem dX8_delay_11 : decode cX8_delay 11 = .ok (.ifCond .ne 5, 3) := by decide +kernel
theorem dX8_delay_14 : decode cX8_delay 14 = .ok (.iconst (-1), 1) := by decide +kernel
theorem dX8_delay_15 : decode cX8_delay 15 = .ok (.ireturn, 1) := by decide +kernel
theorem dX8_delay_16 : decode cX8_delay 16 = .ok (.iload_n 2, 1) := by decide +kernel
theorem dX8_delay_17 : decode cX8_delay 17 = .ok (.iconst 0, 1) := by decide +kernel
theorem dX8_delay_18 : decode cX8_delay 18 = .ok (.bipush 100, 2) := by decide +kernel
theorem dX8_delay_20 : decode cX8_delay 20 = .ok (.invokestatic 36, 3) := by decide +kernel
theorem dX8_delay_23 : decode cX8_delay 23 = .ok (.ifCond .eq 14, 3) := by decide +kernel
theorem dX8_delay_26 : decode cX8_delay 26 = .ok (.iload_n 3, 1) := by decide +kernel
theorem dX8_delay_27 : decode cX8_delay 27 = .ok (.iconst 1, 1) := by decide +kernel
theorem dX8_delay_28 : decode cX8_delay 28 = .ok (.sipush 300, 3) := by decide +kernel
theorem dX8_delay_31 : decode cX8_delay 31 = .ok (.invokestatic 36, 3) := by decide +kernel
theorem dX8_delay_34 : decode cX8_delay 34 = .ok (.ifCond .ne 6, 3) := by decide +kernel
theorem dX8_delay_37 : decode cX8_delay 37 = .ok (.bipush (-2), 2) := by decide +kernel
theorem dX8_delay_39 : decode cX8_delay 39 = .ok (.ireturn, 1) := by decide +kernel
theorem dX8_delay_40 : decode cX8_delay 40 = .ok (.iload_n 2, 1) := by decide +kernel
theorem dX8_delay_41 : decode cX8_delay 41 = .ok (.ldc 85, 2) := by decide +kernel
theorem dX8_delay_43 : decode cX8_delay 43 = .ok (.aload_n 0, 1) := by decide +kernel
theorem dX8_delay_44 : decode cX8_delay 44 = .ok (.getfield 10, 3) := by decide +kernel
theorem dX8_delay_47 : decode cX8_delay 47 = .ok (.getfield 86, 3) := by decide +kernel
theorem dX8_delay_50 : decode cX8_delay 50 = .ok (.getfield 101, 3) := by decide +kernel
theorem dX8_delay_53 : decode cX8_delay 53 = .ok (.iload_n 1, 1) := by decide +kernel
theorem dX8_delay_54 : decode cX8_delay 54 = .ok (.iaload, 1) := by decide +kernel
theorem dX8_delay_55 : decode cX8_delay 55 = .ok (.isub, 1) := by decide +kernel
theorem dX8_delay_56 : decode cX8_delay 56 = .ok (.invokestatic 198, 3) := by decide +kernel
theorem dX8_delay_59 : decode cX8_delay 59 = .ok (.istore 4, 2) := by decide +kernel
theorem dX8_delay_61 : decode cX8_delay 61 = .ok (.iconst 0, 1) := by decide +kernel
theorem dX8_delay_62 : decode cX8_delay 62 = .ok (.istore 5, 2) := by decide +kernel
theorem dX8_delay_64 : decode cX8_delay 64 = .ok (.iload 5, 2) := by decide +kernel
theorem dX8_delay_66 : decode cX8_delay 66 = .ok (.iload 4, 2) := by decide +kernel
theorem dX8_delay_68 : decode cX8_delay 68 = .ok (.if_icmp .gt 45, 3) := by decide +kernel
theorem dX8_delay_71 : decode cX8_delay 71 = .ok (.aload_n 0, 1) := by decide +kernel
theorem dX8_delay_72 : decode cX8_delay 72 = .ok (.getfield 16, 3) := by decide +kernel
theorem dX8_delay_75 : decode cX8_delay 75 = .ok (.aload_n 0, 1) := by decide +kernel
theorem dX8_delay_76 : decode cX8_delay 76 = .ok (.getfield 10, 3) := by decide +kernel
theorem dX8_delay_79 : decode cX8_delay 79 = .ok (.invokevirtual 181, 3) := by decide +kernel
theorem dX8_delay_82 : decode cX8_delay 82 = .ok (.aload_n 0, 1) := by decide +kernel
theorem dX8_delay_83 : decode cX8_delay 83 = .ok (.getfield 16, 3) := by decide +kernel
theorem dX8_delay_86 : decode cX8_delay 86 = .ok (.getfield 86, 3) := by decide +kernel
theorem dX8_delay_89 : decode cX8_delay 89 = .ok (.iload_n 1, 1) := by decide +kernel
theorem dX8_delay_90 : decode cX8_delay 90 = .ok (.iload 5, 2) := by decide +kernel
theorem dX8_delay_92 : decode cX8_delay 92 = .ok (.invokevirtual 105, 3) := by decide +kernel
theorem dX8_delay_95 : decode cX8_delay 95 = .ok (.pop, 1) := by decide +kernel
theorem dX8_delay_96 : decode cX8_delay 96 = .ok (.aload_n 0, 1) := by decide +kernel
theorem dX8_delay_97 : decode cX8_delay 97 = .ok (.iload_n 3, 1) := by decide +kernel
theorem dX8_delay_98 : decode cX8_delay 98 = .ok (.invokevirtual 203, 3) := by decide +kernel
theorem dX8_delay_101 : decode cX8_delay 101 = .ok (.ifCond .eq 6, 3) := by decide +kernel
theorem dX8_delay_104 : decode cX8_delay 104 = .ok (.iload 5, 2) := by decide +kernel
theorem dX8_delay_106 : decode cX8_delay 106 = .ok (.ireturn, 1) := by decide +kernel
theorem dX8_delay_107 : decode cX8_delay 107 = .ok (.iinc 5 1, 3) := by decide +kernel
theorem dX8_delay_110 : decode cX8_delay 110 = .ok (.goto (-46), 3) := by decide +kernel
theorem dX8_delay_113 : decode cX8_delay 113 = .ok (.bipush (-6), 2) := by decide +kernel
theorem dX8_delay_115 : decode cX8_delay 115 = .ok (.ireturn, 1) := by decide +kernel
theorem dX8_safeCut_0 : decode cX8_safeCut 0 = .ok (.iload_n 1, 1) := by decide +kernel
theorem dX8_safeCut_1 : decode cX8_safeCut 1 = .ok (.iconst 1, 1) := by decide +kernel
theorem dX8_safeCut_2 : decode cX8_safeCut 2 = .ok (.bipush 100, 2) := by decide +kernel
theorem dX8_safeCut_4 : decode cX8_safeCut 4 = .ok (.invokestatic 36, 3) := by decide +kernel
theorem dX8_safeCut_7 : decode cX8_safeCut 7 = .ok (.ifCond .ne 6, 3) := by decide +kernel
theorem dX8_safeCut_10 : decode cX8_safeCut 10 = .ok (.bipush (-2), 2) := by decide +kernel
theorem dX8_safeCut_12 : decode cX8_safeCut 12 = .ok (.ireturn, 1) := by decide +kernel
theorem dX8_safeCut_13 : decode cX8_safeCut 13 = .ok (.sipush 1000, 3) := by decide +kernel
theorem dX8_safeCut_16 : decode cX8_safeCut 16 = .ok (.istore_n 2, 1) := by decide +kernel
theorem dX8_safeCut_17 : decode cX8_safeCut 17 = .ok (.iload_n 2, 1) := by decide +kernel
theorem dX8_safeCut_18 : decode cX8_safeCut 18 = .ok (.ifCond .lt 59, 3) := by decide +kernel
theorem dX8_safeCut_21 : decode cX8_safeCut 21 = .ok (.aload_n 0, 1) := by decide +kernel
theorem dX8_safeCut_22 : decode cX8_safeCut 22 = .ok (.getfield 16, 3) := by decide +kernel
theorem dX8_safeCut_25 : decode cX8_safeCut 25 = .ok (.aload_n 0, 1) := by decide +kernel
theorem dX8_safeCut_26 : decode cX8_safeCut 26 = .ok (.getfield 10, 3) := by decide +kernel
theorem dX8_safeCut_29 : decode cX8_safeCut 29 = .ok (.invokevirtual 181, 3) := by decide +kernel
theorem dX8_safeCut_32 : decode cX8_safeCut 32 = .ok (.aload_n 0, 1) := by decide +kernel
theorem dX8_safeCut_33 : decode cX8_safeCut 33 = .ok (.getfield 16, 3) := by decide +kernel
theorem dX8_safeCut_36 : decode cX8_safeCut 36 = .ok (.getfield 75, 3) := by decide +kernel
theorem dX8_safeCut_39 : decode cX8_safeCut 39 = .ok (.iconst 0, 1) := by decide +kernel
theorem dX8_safeCut_40 : decode cX8_safeCut 40 = .ok (.iconst 3, 1) := by decide +kernel
theorem dX8_safeCut_41 : decode cX8_safeCut 41 = .ok (.iload_n 2, 1) := by decide +kernel
theorem dX8_safeCut_42 : decode cX8_safeCut 42 = .ok (.invokevirtual 62, 3) := by decide +kernel
theorem dX8_safeCut_45 : decode cX8_safeCut 45 = .ok (.pop, 1) := by decide +kernel
theorem dX8_safeCut_46 : decode cX8_safeCut 46 = .ok (.aload_n 0, 1) := by decide +kernel
theorem dX8_safeCut_47 : decode cX8_safeCut 47 = .ok (.iload_n 1, 1) := by decide +kernel
theorem dX8_safeCut_48 : decode cX8_safeCut 48 = .ok (.invokevirtual 206, 3) := by decide +kernel
theorem dX8_safeCut_51 : decode cX8_safeCut 51 = .ok (.ifCond .eq 5, 3) := by decide +kernel
theorem dX8_safeCut_54 : decode cX8_safeCut 54 = .ok (.iload_n 2, 1) := by decide +kernel
theorem dX8_safeCut_55 : decode cX8_safeCut 55 = .ok (.ireturn, 1) := by decide +kernel
theorem dX8_safeCut_56 : decode cX8_safeCut 56 = .ok (.iload_n 2, 1) := by decide +kernel
theorem dX8_safeCut_57 : decode cX8_safeCut 57 = .ok (.aload_n 0, 1) := by decide +kernel
theorem dX8_safeCut_58 : decode cX8_safeCut 58 = .ok (.getfield 16, 3) := by decide +kernel
theorem dX8_safeCut_61 : decode cX8_safeCut 61 = .ok (.getfield 40, 3) := by decide +kernel
theorem dX8_safeCut_64 : decode cX8_safeCut 64 = .ok (.getfield 209, 3) := by decide +kernel
theorem dX8_safeCut_67 : decode cX8_safeCut 67 = .ok (.invokestatic 198, 3) := by decide +kernel
theorem dX8_safeCut_70 : decode cX8_safeCut 70 = .ok (.istore_n 2, 1) := by decide +kernel
theorem dX8_safeCut_71 : decode cX8_safeCut 71 = .ok (.iinc 2 (-1), 3) := by decide +kernel
theorem dX8_safeCut_74 : decode cX8_safeCut 74 = .ok (.goto (-57), 3) := by decide +kernel
theorem dX8_safeCut_77 : decode cX8_safeCut 77 = .ok (.bipush (-6), 2) := by decide +kernel
theorem dX8_safeCut_79 : decode cX8_safeCut 79 = .ok (.ireturn, 1) := by decide +kernel
theorem dX8_say_0 : decode cX8_say 0 = .ok (.iload_n 1, 1) := by decide +kernel
theorem dX8_say_1 : decode cX8_say 1 = .ok (.bipush 33, 2) := by decide +kernel
theorem dX8_say_3 : decode cX8_say 3 = .ok (.bipush 126, 2) := by decide +kernel
theorem dX8_say_5 : decode cX8_say 5 = .ok (.invokestatic 36, 3) := by decide +kernel
theorem dX8_say_8 : decode cX8_say 8 = .ok (.ifCond .ne 6, 3) := by decide +kernel
theorem dX8_say_11 : decode cX8_say 11 = .ok (.bipush (-2), 2) := by decide +kernel
theorem dX8_say_13 : decode cX8_say 13 = .ok (.ireturn, 1) := by decide +kernel
theorem dX8_say_14 : decode cX8_say 14 = .ok (.aload_n 0, 1) := by decide +kernel
theorem dX8_say_15 : decode cX8_say 15 = .ok (.getfield 32, 3) := by decide +kernel
theorem dX8_say_18 : decode cX8_say 18 = .ok (.iload_n 1, 1) := by decide +kernel
theorem dX8_say_19 : decode cX8_say 19 = .ok (.i2c, 1) := by decide +kernel
theorem dX8_say_20 : decode cX8_say 20 = .ok (.invokevirtual 212, 3) := by decide +kernel
theorem dX8_say_23 : decode cX8_say 23 = .ok (.ireturn, 1) := by decide +kernel
theorem dX8_wipe_0 : decode cX8_wipe 0 = .ok (.aload_n 0, 1) := by decide +kernel
theorem dX8_wipe_1 : decode cX8_wipe 1 = .ok (.getfield 32, 3) := by decide +kernel
theorem dX8_wipe_4 : decode cX8_wipe 4 = .ok (.getfield 178, 3) := by decide +kernel
theorem dX8_wipe_7 : decode cX8_wipe 7 = .ok (.istore_n 1, 1) := by decide +kernel
theorem dX8_wipe_8 : decode cX8_wipe 8 = .ok (.aload_n 0, 1) := by decide +kernel
theorem dX8_wipe_9 : decode cX8_wipe 9 = .ok (.getfield 32, 3) := by decide +kernel
theorem dX8_wipe_12 : decode cX8_wipe 12 = .ok (.iconst 0, 1) := by decide +kernel
theorem dX8_wipe_13 : decode cX8_wipe 13 = .ok (.putfield 178, 3) := by decide +kernel
theorem dX8_wipe_16 : decode cX8_wipe 16 = .ok (.iload_n 1, 1) := by decide +kernel
theorem dX8_wipe_17 : decode cX8_wipe 17 = .ok (.ireturn, 1) := by decide +kernel
theorem dX8_fault_0 : decode cX8_fault 0 = .ok (.aload_n 0, 1) := by decide +kernel
theorem dX8_fault_1 : decode cX8_fault 1 = .ok (.getfield 32, 3) := by decide +kernel
theorem dX8_fault_4 : decode cX8_fault 4 = .ok (.invokevirtual 216, 3) := by decide +kernel
theorem dX8_fault_7 : decode cX8_fault 7 = .ok (.ireturn, 1) := by decide +kernel
theorem dX8_read_0 : decode cX8_read 0 = .ok (.aload_n 0, 1) := by decide +kernel
theorem dX8_read_1 : decode cX8_read 1 = .ok (.getfield 32, 3) := by decide +kernel
theorem dX8_read_4 : decode cX8_read 4 = .ok (.invokevirtual 216, 3) := by decide +kernel
theorem dX8_read_7 : decode cX8_read 7 = .ok (.bipush (-6), 2) := by decide +kernel
theorem dX8_read_9 : decode cX8_read 9 = .ok (.if_icmp .eq 6, 3) := by decide +kernel
theorem dX8_read_12 : decode cX8_read 12 = .ok (.bipush (-3), 2) := by decide +kernel
theorem dX8_read_14 : decode cX8_read 14 = .ok (.ireturn, 1) := by decide +kernel
theorem dX8_read_15 : decode cX8_read 15 = .ok (.iload_n 1, 1) := by decide +kernel
theorem dX8_read_16 : decode cX8_read 16 = .ok (.iconst 0, 1) := by decide +kernel
theorem dX8_read_17 : decode cX8_read 17 = .ok (.ldc 219, 2) := by decide +kernel
theorem dX8_read_19 : decode cX8_read 19 = .ok (.invokestatic 36, 3) := by decide +kernel
theorem dX8_read_22 : decode cX8_read 22 = .ok (.ifCond .ne 6, 3) := by decide +kernel
theorem dX8_read_25 : decode cX8_read 25 = .ok (.bipush (-2), 2) := by decide +kernel
theorem dX8_read_27 : decode cX8_read 27 = .ok (.ireturn, 1) := by decide +kernel
theorem dX8_read_28 : decode cX8_read 28 = .ok (.aload_n 0, 1) := by decide +kernel
theorem dX8_read_29 : decode cX8_read 29 = .ok (.getfield 32, 3) := by decide +kernel
theorem dX8_read_32 : decode cX8_read 32 = .ok (.getfield 220, 3) := by decide +kernel
theorem dX8_read_35 : decode cX8_read 35 = .ok (.getfield 99, 3) := by decide +kernel
theorem dX8_read_38 : decode cX8_read 38 = .ok (.istore_n 2, 1) := by decide +kernel
theorem dX8_read_39 : decode cX8_read 39 = .ok (.aload_n 0, 1) := by decide +kernel
theorem dX8_read_40 : decode cX8_read 40 = .ok (.getfield 10, 3) := by decide +kernel
theorem dX8_read_43 : decode cX8_read 43 = .ok (.getfield 86, 3) := by decide +kernel
theorem dX8_read_46 : decode cX8_read 46 = .ok (.getfield 99, 3) := by decide +kernel
theorem dX8_read_49 : decode cX8_read 49 = .ok (.iload_n 2, 1) := by decide +kernel
theorem dX8_read_50 : decode cX8_read 50 = .ok (.iadd, 1) := by decide +kernel
theorem dX8_read_51 : decode cX8_read 51 = .ok (.bipush 60, 2) := by decide +kernel
theorem dX8_read_53 : decode cX8_read 53 = .ok (.if_icmp .le 6, 3) := by decide +kernel
theorem dX8_read_56 : decode cX8_read 56 = .ok (.bipush (-4), 2) := by decide +kernel
theorem dX8_read_58 : decode cX8_read 58 = .ok (.ireturn, 1) := by decide +kernel
theorem dX8_read_59 : decode cX8_read 59 = .ok (.iconst 0, 1) := by decide +kernel
theorem dX8_read_60 : decode cX8_read 60 = .ok (.istore_n 3, 1) := by decide +kernel
theorem dX8_read_61 : decode cX8_read 61 = .ok (.iload_n 3, 1) := by decide +kernel
theorem dX8_read_62 : decode cX8_read 62 = .ok (.iload_n 2, 1) := by decide +kernel
theorem dX8_read_63 : decode cX8_read 63 = .ok (.if_icmp .ge 58, 3) := by decide +kernel
theorem dX8_read_66 : decode cX8_read 66 = .ok (.aload_n 0, 1) := by decide +kernel
theorem dX8_read_67 : decode cX8_read 67 = .ok (.getfield 10, 3) := by decide +kernel
theorem dX8_read_70 : decode cX8_read 70 = .ok (.getfield 86, 3) := by decide +kernel
theorem dX8_read_73 : decode cX8_read 73 = .ok (.aload_n 0, 1) := by decide +kernel
theorem dX8_read_74 : decode cX8_read 74 = .ok (.getfield 32, 3) := by decide +kernel
theorem dX8_read_77 : decode cX8_read 77 = .ok (.getfield 220, 3) := by decide +kernel
theorem dX8_read_80 : decode cX8_read 80 = .ok (.getfield 101, 3) := by decide +kernel
theorem dX8_read_83 : decode cX8_read 83 = .ok (.iload_n 3, 1) := by decide +kernel
theorem dX8_read_84 : decode cX8_read 84 = .ok (.iaload, 1) := by decide +kernel
theorem dX8_read_85 : decode cX8_read 85 = .ok (.iload_n 1, 1) := by decide +kernel
theorem dX8_read_86 : decode cX8_read 86 = .ok (.iadd, 1) := by decide +kernel
theorem dX8_read_87 : decode cX8_read 87 = .ok (.aload_n 0, 1) := by decide +kernel
theorem dX8_read_88 : decode cX8_read 88 = .ok (.getfield 32, 3) := by decide +kernel
theorem dX8_read_91 : decode cX8_read 91 = .ok (.getfield 220, 3) := by decide +kernel
theorem dX8_read_94 : decode cX8_read 94 = .ok (.getfield 109, 3) := by decide +kernel
theorem dX8_read_97 : decode cX8_read 97 = .ok (.iload_n 3, 1) := by decide +kernel
theorem dX8_read_98 : decode cX8_read 98 = .ok (.iaload, 1) := by decide +kernel
theorem dX8_read_99 : decode cX8_read 99 = .ok (.aload_n 0, 1) := by decide +kernel
theorem dX8_read_100 : decode cX8_read 100 = .ok (.getfield 32, 3) := by decide +kernel
theorem dX8_read_103 : decode cX8_read 103 = .ok (.getfield 220, 3) := by decide +kernel
theorem dX8_read_106 : decode cX8_read 106 = .ok (.getfield 112, 3) := by decide +kernel
theorem dX8_read_109 : decode cX8_read 109 = .ok (.iload_n 3, 1) := by decide +kernel
theorem dX8_read_110 : decode cX8_read 110 = .ok (.iaload, 1) := by decide +kernel
theorem dX8_read_111 : decode cX8_read 111 = .ok (.invokevirtual 90, 3) := by decide +kernel
theorem dX8_read_114 : decode cX8_read 114 = .ok (.pop, 1) := by decide +kernel
theorem dX8_read_115 : decode cX8_read 115 = .ok (.iinc 3 1, 3) := by decide +kernel
theorem dX8_read_118 : decode cX8_read 118 = .ok (.goto (-57), 3) := by decide +kernel
theorem dX8_read_121 : decode cX8_read 121 = .ok (.aload_n 0, 1) := by decide +kernel
theorem dX8_read_122 : decode cX8_read 122 = .ok (.getfield 32, 3) := by decide +kernel
theorem dX8_read_125 : decode cX8_read 125 = .ok (.iconst 0, 1) := by decide +kernel
theorem dX8_read_126 : decode cX8_read 126 = .ok (.putfield 178, 3) := by decide +kernel
theorem dX8_read_129 : decode cX8_read 129 = .ok (.iload_n 2, 1) := by decide +kernel
theorem dX8_read_130 : decode cX8_read 130 = .ok (.ireturn, 1) := by decide +kernel
theorem dX8_save_0 : decode cX8_save 0 = .ok (.aload_n 0, 1) := by decide +kernel
theorem dX8_save_1 : decode cX8_save 1 = .ok (.iload_n 1, 1) := by decide +kernel
theorem dX8_save_2 : decode cX8_save 2 = .ok (.invokevirtual 223, 3) := by decide +kernel
theorem dX8_save_5 : decode cX8_save 5 = .ok (.astore_n 2, 1) := by decide +kernel
theorem dX8_save_6 : decode cX8_save 6 = .ok (.aload_n 2, 1) := by decide +kernel
theorem dX8_save_7 : decode cX8_save 7 = .ok (.ifnonnull 6, 3) := by decide +kernel
theorem dX8_save_10 : decode cX8_save 10 = .ok (.bipush (-2), 2) := by decide +kernel
theorem dX8_save_12 : decode cX8_save 12 = .ok (.ireturn, 1) := by decide +kernel
theorem dX8_save_13 : decode cX8_save 13 = .ok (.aload_n 2, 1) := by decide +kernel
theorem dX8_save_14 : decode cX8_save 14 = .ok (.getfield 227, 3) := by decide +kernel
theorem dX8_save_17 : decode cX8_save 17 = .ok (.aload_n 0, 1) := by decide +kernel
theorem dX8_save_18 : decode cX8_save 18 = .ok (.getfield 10, 3) := by decide +kernel
theorem dX8_save_21 : decode cX8_save 21 = .ok (.invokevirtual 181, 3) := by decide +kernel
theorem dX8_save_24 : decode cX8_save 24 = .ok (.aload_n 2, 1) := by decide +kernel
theorem dX8_save_25 : decode cX8_save 25 = .ok (.iconst 1, 1) := by decide +kernel
theorem dX8_save_26 : decode cX8_save 26 = .ok (.putfield 230, 3) := by decide +kernel
theorem dX8_save_29 : decode cX8_save 29 = .ok (.aload_n 0, 1) := by decide +kernel
theorem dX8_save_30 : decode cX8_save 30 = .ok (.getfield 10, 3) := by decide +kernel
theorem dX8_save_33 : decode cX8_save 33 = .ok (.getfield 119, 3) := by decide +kernel
theorem dX8_save_36 : decode cX8_save 36 = .ok (.ireturn, 1) := by decide +kernel
theorem dX8_restore_0 : decode cX8_restore 0 = .ok (.aload_n 0, 1) := by decide +kernel
theorem dX8_restore_1 : decode cX8_restore 1 = .ok (.iload_n 1, 1) := by decide +kernel
theorem dX8_restore_2 : decode cX8_restore 2 = .ok (.invokevirtual 223, 3) := by decide +kernel
theorem dX8_restore_5 : decode cX8_restore 5 = .ok (.astore_n 2, 1) := by decide +kernel
theorem dX8_restore_6 : decode cX8_restore 6 = .ok (.aload_n 2, 1) := by decide +kernel
theorem dX8_restore_7 : decode cX8_restore 7 = .ok (.ifnonnull 6, 3) := by decide +kernel
theorem dX8_restore_10 : decode cX8_restore 10 = .ok (.bipush (-2), 2) := by decide +kernel
theorem dX8_restore_12 : decode cX8_restore 12 = .ok (.ireturn, 1) := by decide +kernel
theorem dX8_restore_13 : decode cX8_restore 13 = .ok (.aload_n 2, 1) := by decide +kernel
theorem dX8_restore_14 : decode cX8_restore 14 = .ok (.getfield 230, 3) := by decide +kernel
theorem dX8_restore_17 : decode cX8_restore 17 = .ok (.ifCond .ne 6, 3) := by decide +kernel
theorem dX8_restore_20 : decode cX8_restore 20 = .ok (.bipush (-5), 2) := by decide +kernel
theorem dX8_restore_22 : decode cX8_restore 22 = .ok (.ireturn, 1) := by decide +kernel
theorem dX8_restore_23 : decode cX8_restore 23 = .ok (.aload_n 0, 1) := by decide +kernel
theorem dX8_restore_24 : decode cX8_restore 24 = .ok (.getfield 10, 3) := by decide +kernel
theorem dX8_restore_27 : decode cX8_restore 27 = .ok (.aload_n 2, 1) := by decide +kernel
theorem dX8_restore_28 : decode cX8_restore 28 = .ok (.getfield 227, 3) := by decide +kernel
theorem dX8_restore_31 : decode cX8_restore 31 = .ok (.invokevirtual 181, 3) := by decide +kernel
theorem dX8_restore_34 : decode cX8_restore 34 = .ok (.aload_n 0, 1) := by decide +kernel
theorem dX8_restore_35 : decode cX8_restore 35 = .ok (.getfield 10, 3) := by decide +kernel
theorem dX8_restore_38 : decode cX8_restore 38 = .ok (.getfield 119, 3) := by decide +kernel
theorem dX8_restore_41 : decode cX8_restore 41 = .ok (.ireturn, 1) := by decide +kernel
theorem dX8_slotAt_0 : decode cX8_slotAt 0 = .ok (.iload_n 1, 1) := by decide +kernel
theorem dX8_slotAt_1 : decode cX8_slotAt 1 = .ok (.lookupswitch 37 #[(0, 27), (1, 32)], 27) := by decide +kernel
theorem dX8_slotAt_28 : decode cX8_slotAt 28 = .ok (.aload_n 0, 1) := by decide +kernel
theorem dX8_slotAt_29 : decode cX8_slotAt 29 = .ok (.getfield 22, 3) := by decide +kernel
theorem dX8_slotAt_32 : decode cX8_slotAt 32 = .ok (.areturn, 1) := by decide +kernel
theorem dX8_slotAt_33 : decode cX8_slotAt 33 = .ok (.aload_n 0, 1) := by decide +kernel
theorem dX8_slotAt_34 : decode cX8_slotAt 34 = .ok (.getfield 26, 3) := by decide +kernel
theorem dX8_slotAt_37 : decode cX8_slotAt 37 = .ok (.areturn, 1) := by decide +kernel
theorem dX8_slotAt_38 : decode cX8_slotAt 38 = .ok (.aconst_null, 1) := by decide +kernel
theorem dX8_slotAt_39 : decode cX8_slotAt 39 = .ok (.areturn, 1) := by decide +kernel
theorem dX8_greatestDemand_0 : decode cX8_greatestDemand 0 = .ok (.iconst 0, 1) := by decide +kernel
theorem dX8_greatestDemand_1 : decode cX8_greatestDemand 1 = .ok (.istore_n 3, 1) := by decide +kernel
theorem dX8_greatestDemand_2 : decode cX8_greatestDemand 2 = .ok (.iconst 0, 1) := by decide +kernel
theorem dX8_greatestDemand_3 : decode cX8_greatestDemand 3 = .ok (.istore 4, 2) := by decide +kernel
theorem dX8_greatestDemand_5 : decode cX8_greatestDemand 5 = .ok (.iload 4, 2) := by decide +kernel
theorem dX8_greatestDemand_7 : decode cX8_greatestDemand 7 = .ok (.iload_n 1, 1) := by decide +kernel
theorem dX8_greatestDemand_8 : decode cX8_greatestDemand 8 = .ok (.if_icmp .ge 33, 3) := by decide +kernel
theorem dX8_greatestDemand_11 : decode cX8_greatestDemand 11 = .ok (.aload_n 0, 1) := by decide +kernel
theorem dX8_greatestDemand_12 : decode cX8_greatestDemand 12 = .ok (.getfield 16, 3) := by decide +kernel
theorem dX8_greatestDemand_15 : decode cX8_greatestDemand 15 = .ok (.invokevirtual 123, 3) := by decide +kernel
theorem dX8_greatestDemand_18 : decode cX8_greatestDemand 18 = .ok (.iload_n 3, 1) := by decide +kernel
theorem dX8_greatestDemand_19 : decode cX8_greatestDemand 19 = .ok (.aload_n 0, 1) := by decide +kernel
theorem dX8_greatestDemand_20 : decode cX8_greatestDemand 20 = .ok (.getfield 16, 3) := by decide +kernel
theorem dX8_greatestDemand_23 : decode cX8_greatestDemand 23 = .ok (.getfield 68, 3) := by decide +kernel
theorem dX8_greatestDemand_26 : decode cX8_greatestDemand 26 = .ok (.getfield 151, 3) := by decide +kernel
theorem dX8_greatestDemand_29 : decode cX8_greatestDemand 29 = .ok (.iload_n 2, 1) := by decide +kernel
theorem dX8_greatestDemand_30 : decode cX8_greatestDemand 30 = .ok (.iaload, 1) := by decide +kernel
theorem dX8_greatestDemand_31 : decode cX8_greatestDemand 31 = .ok (.invokestatic 234, 3) := by decide +kernel
theorem dX8_greatestDemand_34 : decode cX8_greatestDemand 34 = .ok (.istore_n 3, 1) := by decide +kernel
theorem dX8_greatestDemand_35 : decode cX8_greatestDemand 35 = .ok (.iinc 4 1, 3) := by decide +kernel
theorem dX8_greatestDemand_38 : decode cX8_greatestDemand 38 = .ok (.goto (-33), 3) := by decide +kernel
theorem dX8_greatestDemand_41 : decode cX8_greatestDemand 41 = .ok (.iload_n 3, 1) := by decide +kernel
theorem dX8_greatestDemand_42 : decode cX8_greatestDemand 42 = .ok (.ireturn, 1) := by decide +kernel
theorem dX8_shortTicks_0 : decode cX8_shortTicks 0 = .ok (.aload_n 0, 1) := by decide +kernel
theorem dX8_shortTicks_1 : decode cX8_shortTicks 1 = .ok (.getfield 16, 3) := by decide +kernel
theorem dX8_shortTicks_4 : decode cX8_shortTicks 4 = .ok (.getfield 68, 3) := by decide +kernel
theorem dX8_shortTicks_7 : decode cX8_shortTicks 7 = .ok (.getfield 154, 3) := by decide +kernel
theorem dX8_shortTicks_10 : decode cX8_shortTicks 10 = .ok (.iload_n 2, 1) := by decide +kernel
theorem dX8_shortTicks_11 : decode cX8_shortTicks 11 = .ok (.iaload, 1) := by decide +kernel
theorem dX8_shortTicks_12 : decode cX8_shortTicks 12 = .ok (.istore_n 3, 1) := by decide +kernel
theorem dX8_shortTicks_13 : decode cX8_shortTicks 13 = .ok (.iconst 0, 1) := by decide +kernel
theorem dX8_shortTicks_14 : decode cX8_shortTicks 14 = .ok (.istore 4, 2) := by decide +kernel
theorem dX8_shortTicks_16 : decode cX8_shortTicks 16 = .ok (.iload 4, 2) := by decide +kernel
theorem dX8_shortTicks_18 : decode cX8_shortTicks 18 = .ok (.iload_n 1, 1) := by decide +kernel
theorem dX8_shortTicks_19 : decode cX8_shortTicks 19 = .ok (.if_icmp .ge 16, 3) := by decide +kernel
theorem dX8_shortTicks_22 : decode cX8_shortTicks 22 = .ok (.aload_n 0, 1) := by decide +kernel
theorem dX8_shortTicks_23 : decode cX8_shortTicks 23 = .ok (.getfield 16, 3) := by decide +kernel
theorem dX8_shortTicks_26 : decode cX8_shortTicks 26 = .ok (.invokevirtual 123, 3) := by decide +kernel
theorem dX8_shortTicks_29 : decode cX8_shortTicks 29 = .ok (.iinc 4 1, 3) := by decide +kernel
theorem dX8_shortTicks_32 : decode cX8_shortTicks 32 = .ok (.goto (-16), 3) := by decide +kernel
theorem dX8_shortTicks_35 : decode cX8_shortTicks 35 = .ok (.aload_n 0, 1) := by decide +kernel
theorem dX8_shortTicks_36 : decode cX8_shortTicks 36 = .ok (.getfield 16, 3) := by decide +kernel
theorem dX8_shortTicks_39 : decode cX8_shortTicks 39 = .ok (.getfield 68, 3) := by decide +kernel
theorem dX8_shortTicks_42 : decode cX8_shortTicks 42 = .ok (.getfield 154, 3) := by decide +kernel
theorem dX8_shortTicks_45 : decode cX8_shortTicks 45 = .ok (.iload_n 2, 1) := by decide +kernel
theorem dX8_shortTicks_46 : decode cX8_shortTicks 46 = .ok (.iaload, 1) := by decide +kernel
theorem dX8_shortTicks_47 : decode cX8_shortTicks 47 = .ok (.iload_n 3, 1) := by decide +kernel
theorem dX8_shortTicks_48 : decode cX8_shortTicks 48 = .ok (.isub, 1) := by decide +kernel
theorem dX8_shortTicks_49 : decode cX8_shortTicks 49 = .ok (.ireturn, 1) := by decide +kernel
theorem dX8_firstShort_0 : decode cX8_firstShort 0 = .ok (.iconst 0, 1) := by decide +kernel
theorem dX8_firstShort_1 : decode cX8_firstShort 1 = .ok (.istore_n 3, 1) := by decide +kernel
theorem dX8_firstShort_2 : decode cX8_firstShort 2 = .ok (.iload_n 3, 1) := by decide +kernel
theorem dX8_firstShort_3 : decode cX8_firstShort 3 = .ok (.iload_n 1, 1) := by decide +kernel
theorem dX8_firstShort_4 : decode cX8_firstShort 4 = .ok (.if_icmp .ge 32, 3) := by decide +kernel
theorem dX8_firstShort_7 : decode cX8_firstShort 7 = .ok (.aload_n 0, 1) := by decide +kernel
theorem dX8_firstShort_8 : decode cX8_firstShort 8 = .ok (.getfield 16, 3) := by decide +kernel
theorem dX8_firstShort_11 : decode cX8_firstShort 11 = .ok (.invokevirtual 123, 3) := by decide +kernel
theorem dX8_firstShort_14 : decode cX8_firstShort 14 = .ok (.aload_n 0, 1) := by decide +kernel
theorem dX8_firstShort_15 : decode cX8_firstShort 15 = .ok (.getfield 16, 3) := by decide +kernel
theorem dX8_firstShort_18 : decode cX8_firstShort 18 = .ok (.getfield 68, 3) := by decide +kernel
theorem dX8_firstShort_21 : decode cX8_firstShort 21 = .ok (.iload_n 2, 1) := by decide +kernel
theorem dX8_firstShort_22 : decode cX8_firstShort 22 = .ok (.invokevirtual 237, 3) := by decide +kernel
theorem dX8_firstShort_25 : decode cX8_firstShort 25 = .ok (.ifCond .eq 5, 3) := by decide +kernel
theorem dX8_firstShort_28 : decode cX8_firstShort 28 = .ok (.iload_n 3, 1) := by decide +kernel
theorem dX8_firstShort_29 : decode cX8_firstShort 29 = .ok (.ireturn, 1) := by decide +kernel
theorem dX8_firstShort_30 : decode cX8_firstShort 30 = .ok (.iinc 3 1, 3) := by decide +kernel
theorem dX8_firstShort_33 : decode cX8_firstShort 33 = .ok (.goto (-31), 3) := by decide +kernel
theorem dX8_firstShort_36 : decode cX8_firstShort 36 = .ok (.bipush (-6), 2) := by decide +kernel
theorem dX8_firstShort_38 : decode cX8_firstShort 38 = .ok (.ireturn, 1) := by decide +kernel
theorem dX8_wetTicks_0 : decode cX8_wetTicks 0 = .ok (.aload_n 0, 1) := by decide +kernel
theorem dX8_wetTicks_1 : decode cX8_wetTicks 1 = .ok (.getfield 16, 3) := by decide +kernel
theorem dX8_wetTicks_4 : decode cX8_wetTicks 4 = .ok (.getfield 171, 3) := by decide +kernel
theorem dX8_wetTicks_7 : decode cX8_wetTicks 7 = .ok (.istore_n 2, 1) := by decide +kernel
theorem dX8_wetTicks_8 : decode cX8_wetTicks 8 = .ok (.iconst 0, 1) := by decide +kernel
theorem dX8_wetTicks_9 : decode cX8_wetTicks 9 = .ok (.istore_n 3, 1) := by decide +kernel
theorem dX8_wetTicks_10 : decode cX8_wetTicks 10 = .ok (.iload_n 3, 1) := by decide +kernel
theorem dX8_wetTicks_11 : decode cX8_wetTicks 11 = .ok (.iload_n 1, 1) := by decide +kernel
theorem dX8_wetTicks_12 : decode cX8_wetTicks 12 = .ok (.if_icmp .ge 16, 3) := by decide +kernel
theorem dX8_wetTicks_15 : decode cX8_wetTicks 15 = .ok (.aload_n 0, 1) := by decide +kernel
theorem dX8_wetTicks_16 : decode cX8_wetTicks 16 = .ok (.getfield 16, 3) := by decide +kernel
theorem dX8_wetTicks_19 : decode cX8_wetTicks 19 = .ok (.invokevirtual 123, 3) := by decide +kernel
theorem dX8_wetTicks_22 : decode cX8_wetTicks 22 = .ok (.iinc 3 1, 3) := by decide +kernel
theorem dX8_wetTicks_25 : decode cX8_wetTicks 25 = .ok (.goto (-15), 3) := by decide +kernel
theorem dX8_wetTicks_28 : decode cX8_wetTicks 28 = .ok (.aload_n 0, 1) := by decide +kernel
theorem dX8_wetTicks_29 : decode cX8_wetTicks 29 = .ok (.getfield 16, 3) := by decide +kernel
theorem dX8_wetTicks_32 : decode cX8_wetTicks 32 = .ok (.getfield 171, 3) := by decide +kernel
theorem dX8_wetTicks_35 : decode cX8_wetTicks 35 = .ok (.iload_n 2, 1) := by decide +kernel
theorem dX8_wetTicks_36 : decode cX8_wetTicks 36 = .ok (.isub, 1) := by decide +kernel
theorem dX8_wetTicks_37 : decode cX8_wetTicks 37 = .ok (.ireturn, 1) := by decide +kernel
theorem dX8_greatestHeight_0 : decode cX8_greatestHeight 0 = .ok (.iconst 0, 1) := by decide +kernel
theorem dX8_greatestHeight_1 : decode cX8_greatestHeight 1 = .ok (.istore_n 2, 1) := by decide +kernel
theorem dX8_greatestHeight_2 : decode cX8_greatestHeight 2 = .ok (.iconst 0, 1) := by decide +kernel
theorem dX8_greatestHeight_3 : decode cX8_greatestHeight 3 = .ok (.istore_n 3, 1) := by decide +kernel
theorem dX8_greatestHeight_4 : decode cX8_greatestHeight 4 = .ok (.iload_n 3, 1) := by decide +kernel
theorem dX8_greatestHeight_5 : decode cX8_greatestHeight 5 = .ok (.iload_n 1, 1) := by decide +kernel
theorem dX8_greatestHeight_6 : decode cX8_greatestHeight 6 = .ok (.if_icmp .ge 31, 3) := by decide +kernel
theorem dX8_greatestHeight_9 : decode cX8_greatestHeight 9 = .ok (.aload_n 0, 1) := by decide +kernel
theorem dX8_greatestHeight_10 : decode cX8_greatestHeight 10 = .ok (.getfield 16, 3) := by decide +kernel
theorem dX8_greatestHeight_13 : decode cX8_greatestHeight 13 = .ok (.invokevirtual 123, 3) := by decide +kernel
theorem dX8_greatestHeight_16 : decode cX8_greatestHeight 16 = .ok (.iload_n 2, 1) := by decide +kernel
theorem dX8_greatestHeight_17 : decode cX8_greatestHeight 17 = .ok (.aload_n 0, 1) := by decide +kernel
theorem dX8_greatestHeight_18 : decode cX8_greatestHeight 18 = .ok (.getfield 16, 3) := by decide +kernel
theorem dX8_greatestHeight_21 : decode cX8_greatestHeight 21 = .ok (.getfield 40, 3) := by decide +kernel
theorem dX8_greatestHeight_24 : decode cX8_greatestHeight 24 = .ok (.invokevirtual 240, 3) := by decide +kernel
theorem dX8_greatestHeight_27 : decode cX8_greatestHeight 27 = .ok (.invokestatic 234, 3) := by decide +kernel
theorem dX8_greatestHeight_30 : decode cX8_greatestHeight 30 = .ok (.istore_n 2, 1) := by decide +kernel
theorem dX8_greatestHeight_31 : decode cX8_greatestHeight 31 = .ok (.iinc 3 1, 3) := by decide +kernel
theorem dX8_greatestHeight_34 : decode cX8_greatestHeight 34 = .ok (.goto (-30), 3) := by decide +kernel
theorem dX8_greatestHeight_37 : decode cX8_greatestHeight 37 = .ok (.iload_n 2, 1) := by decide +kernel
theorem dX8_greatestHeight_38 : decode cX8_greatestHeight 38 = .ok (.ireturn, 1) := by decide +kernel
theorem dX8_staysSupplied_0 : decode cX8_staysSupplied 0 = .ok (.iconst 0, 1) := by decide +kernel
theorem dX8_staysSupplied_1 : decode cX8_staysSupplied 1 = .ok (.istore_n 2, 1) := by decide +kernel
theorem dX8_staysSupplied_2 : decode cX8_staysSupplied 2 = .ok (.iload_n 2, 1) := by decide +kernel
theorem dX8_staysSupplied_3 : decode cX8_staysSupplied 3 = .ok (.iload_n 1, 1) := by decide +kernel
theorem dX8_staysSupplied_4 : decode cX8_staysSupplied 4 = .ok (.if_icmp .ge 31, 3) := by decide +kernel
theorem dX8_staysSupplied_7 : decode cX8_staysSupplied 7 = .ok (.aload_n 0, 1) := by decide +kernel
theorem dX8_staysSupplied_8 : decode cX8_staysSupplied 8 = .ok (.getfield 16, 3) := by decide +kernel
theorem dX8_staysSupplied_11 : decode cX8_staysSupplied 11 = .ok (.invokevirtual 123, 3) := by decide +kernel
theorem dX8_staysSupplied_14 : decode cX8_staysSupplied 14 = .ok (.aload_n 0, 1) := by decide +kernel
theorem dX8_staysSupplied_15 : decode cX8_staysSupplied 15 = .ok (.getfield 16, 3) := by decide +kernel
theorem dX8_staysSupplied_18 : decode cX8_staysSupplied 18 = .ok (.getfield 68, 3) := by decide +kernel
theorem dX8_staysSupplied_21 : decode cX8_staysSupplied 21 = .ok (.invokevirtual 243, 3) := by decide +kernel
theorem dX8_staysSupplied_24 : decode cX8_staysSupplied 24 = .ok (.ifCond .eq 5, 3) := by decide +kernel
theorem dX8_staysSupplied_27 : decode cX8_staysSupplied 27 = .ok (.iconst 0, 1) := by decide +kernel
theorem dX8_staysSupplied_28 : decode cX8_staysSupplied 28 = .ok (.ireturn, 1) := by decide +kernel
theorem dX8_staysSupplied_29 : decode cX8_staysSupplied 29 = .ok (.iinc 2 1, 3) := by decide +kernel
theorem dX8_staysSupplied_32 : decode cX8_staysSupplied 32 = .ok (.goto (-30), 3) := by decide +kernel
theorem dX8_staysSupplied_35 : decode cX8_staysSupplied 35 = .ok (.iconst 1, 1) := by decide +kernel
theorem dX8_staysSupplied_36 : decode cX8_staysSupplied 36 = .ok (.ireturn, 1) := by decide +kernel
theorem dX8_staysDry_0 : decode cX8_staysDry 0 = .ok (.aload_n 0, 1) := by decide +kernel
theorem dX8_staysDry_1 : decode cX8_staysDry 1 = .ok (.getfield 16, 3) := by decide +kernel
theorem dX8_staysDry_4 : decode cX8_staysDry 4 = .ok (.getfield 171, 3) := by decide +kernel
theorem dX8_staysDry_7 : decode cX8_staysDry 7 = .ok (.istore_n 2, 1) := by decide +kernel
theorem dX8_staysDry_8 : decode cX8_staysDry 8 = .ok (.aload_n 0, 1) := by decide +kernel
theorem dX8_staysDry_9 : decode cX8_staysDry 9 = .ok (.getfield 16, 3) := by decide +kernel
theorem dX8_staysDry_12 : decode cX8_staysDry 12 = .ok (.getfield 40, 3) := by decide +kernel
theorem dX8_staysDry_15 : decode cX8_staysDry 15 = .ok (.iconst 0, 1) := by decide +kernel
theorem dX8_staysDry_16 : decode cX8_staysDry 16 = .ok (.putfield 209, 3) := by decide +kernel
theorem dX8_staysDry_19 : decode cX8_staysDry 19 = .ok (.iconst 0, 1) := by decide +kernel
theorem dX8_staysDry_20 : decode cX8_staysDry 20 = .ok (.istore_n 3, 1) := by decide +kernel
theorem dX8_staysDry_21 : decode cX8_staysDry 21 = .ok (.iload_n 3, 1) := by decide +kernel
theorem dX8_staysDry_22 : decode cX8_staysDry 22 = .ok (.iload_n 1, 1) := by decide +kernel
theorem dX8_staysDry_23 : decode cX8_staysDry 23 = .ok (.if_icmp .ge 29, 3) := by decide +kernel
theorem dX8_staysDry_26 : decode cX8_staysDry 26 = .ok (.aload_n 0, 1) := by decide +kernel
theorem dX8_staysDry_27 : decode cX8_staysDry 27 = .ok (.getfield 16, 3) := by decide +kernel
theorem dX8_staysDry_30 : decode cX8_staysDry 30 = .ok (.invokevirtual 123, 3) := by decide +kernel
theorem dX8_staysDry_33 : decode cX8_staysDry 33 = .ok (.aload_n 0, 1) := by decide +kernel
theorem dX8_staysDry_34 : decode cX8_staysDry 34 = .ok (.getfield 16, 3) := by decide +kernel
theorem dX8_staysDry_37 : decode cX8_staysDry 37 = .ok (.getfield 171, 3) := by decide +kernel
theorem dX8_staysDry_40 : decode cX8_staysDry 40 = .ok (.iload_n 2, 1) := by decide +kernel
theorem dX8_staysDry_41 : decode cX8_staysDry 41 = .ok (.if_icmp .le 5, 3) := by decide +kernel
theorem dX8_staysDry_44 : decode cX8_staysDry 44 = .ok (.iconst 0, 1) := by decide +kernel
theorem dX8_staysDry_45 : decode cX8_staysDry 45 = .ok (.ireturn, 1) := by decide +kernel
theorem dX8_staysDry_46 : decode cX8_staysDry 46 = .ok (.iinc 3 1, 3) := by decide +kernel
theorem dX8_staysDry_49 : decode cX8_staysDry 49 = .ok (.goto (-28), 3) := by decide +kernel
theorem dX8_staysDry_52 : decode cX8_staysDry 52 = .ok (.iconst 1, 1) := by decide +kernel
theorem dX8_staysDry_53 : decode cX8_staysDry 53 = .ok (.ireturn, 1) := by decide +kernel
theorem dX8_within_0 : decode cX8_within 0 = .ok (.iload_n 0, 1) := by decide +kernel
theorem dX8_within_1 : decode cX8_within 1 = .ok (.iload_n 1, 1) := by decide +kernel
theorem dX8_within_2 : decode cX8_within 2 = .ok (.if_icmp .lt 12, 3) := by decide +kernel
theorem dX8_within_5 : decode cX8_within 5 = .ok (.iload_n 0, 1) := by decide +kernel
theorem dX8_within_6 : decode cX8_within 6 = .ok (.iload_n 2, 1) := by decide +kernel
theorem dX8_within_7 : decode cX8_within 7 = .ok (.if_icmp .gt 7, 3) := by decide +kernel
theorem dX8_within_10 : decode cX8_within 10 = .ok (.iconst 1, 1) := by decide +kernel
theorem dX8_within_11 : decode cX8_within 11 = .ok (.goto 4, 3) := by decide +kernel
theorem dX8_within_14 : decode cX8_within 14 = .ok (.iconst 0, 1) := by decide +kernel
theorem dX8_within_15 : decode cX8_within 15 = .ok (.ireturn, 1) := by decide +kernel
theorem dX8_quotient_0 : decode cX8_quotient 0 = .ok (.lload_n 2, 1) := by decide +kernel
theorem dX8_quotient_1 : decode cX8_quotient 1 = .ok (.lconst 1, 1) := by decide +kernel
theorem dX8_quotient_2 : decode cX8_quotient 2 = .ok (.lcmp, 1) := by decide +kernel
theorem dX8_quotient_3 : decode cX8_quotient 3 = .ok (.ifCond .ge 7, 3) := by decide +kernel
theorem dX8_quotient_6 : decode cX8_quotient 6 = .ok (.lconst 0, 1) := by decide +kernel
theorem dX8_quotient_7 : decode cX8_quotient 7 = .ok (.goto 8, 3) := by decide +kernel
theorem dX8_quotient_10 : decode cX8_quotient 10 = .ok (.lload_n 0, 1) := by decide +kernel
theorem dX8_quotient_11 : decode cX8_quotient 11 = .ok (.lload_n 2, 1) := by decide +kernel
theorem dX8_quotient_12 : decode cX8_quotient 12 = .ok (.invokestatic 247, 3) := by decide +kernel
theorem dX8_quotient_15 : decode cX8_quotient 15 = .ok (.lreturn, 1) := by decide +kernel
theorem dX8_toward_0 : decode cX8_toward 0 = .ok (.iload_n 0, 1) := by decide +kernel
theorem dX8_toward_1 : decode cX8_toward 1 = .ok (.iload_n 1, 1) := by decide +kernel
theorem dX8_toward_2 : decode cX8_toward 2 = .ok (.if_icmp .ge 13, 3) := by decide +kernel
theorem dX8_toward_5 : decode cX8_toward 5 = .ok (.iload_n 1, 1) := by decide +kernel
theorem dX8_toward_6 : decode cX8_toward 6 = .ok (.iload_n 0, 1) := by decide +kernel
theorem dX8_toward_7 : decode cX8_toward 7 = .ok (.iload_n 2, 1) := by decide +kernel
theorem dX8_toward_8 : decode cX8_toward 8 = .ok (.iadd, 1) := by decide +kernel
theorem dX8_toward_9 : decode cX8_toward 9 = .ok (.invokestatic 198, 3) := by decide +kernel
theorem dX8_toward_12 : decode cX8_toward 12 = .ok (.goto 10, 3) := by decide +kernel
theorem dX8_toward_15 : decode cX8_toward 15 = .ok (.iload_n 1, 1) := by decide +kernel
theorem dX8_toward_16 : decode cX8_toward 16 = .ok (.iload_n 0, 1) := by decide +kernel
theorem dX8_toward_17 : decode cX8_toward 17 = .ok (.iload_n 2, 1) := by decide +kernel
theorem dX8_toward_18 : decode cX8_toward 18 = .ok (.isub, 1) := by decide +kernel
theorem dX8_toward_19 : decode cX8_toward 19 = .ok (.invokestatic 234, 3) := by decide +kernel
theorem dX8_toward_22 : decode cX8_toward 22 = .ok (.ireturn, 1) := by decide +kernel
theorem dX8_copyRow_0 : decode cX8_copyRow 0 = .ok (.aload_n 0, 1) := by decide +kernel
theorem dX8_copyRow_1 : decode cX8_copyRow 1 = .ok (.iconst 0, 1) := by decide +kernel
theorem dX8_copyRow_2 : decode cX8_copyRow 2 = .ok (.aload_n 1, 1) := by decide +kernel
theorem dX8_copyRow_3 : decode cX8_copyRow 3 = .ok (.iconst 0, 1) := by decide +kernel
theorem dX8_copyRow_4 : decode cX8_copyRow 4 = .ok (.aload_n 0, 1) := by decide +kernel
theorem dX8_copyRow_5 : decode cX8_copyRow 5 = .ok (.arraylength, 1) := by decide +kernel
theorem dX8_copyRow_6 : decode cX8_copyRow 6 = .ok (.aload_n 1, 1) := by decide +kernel
theorem dX8_copyRow_7 : decode cX8_copyRow 7 = .ok (.arraylength, 1) := by decide +kernel
theorem dX8_copyRow_8 : decode cX8_copyRow 8 = .ok (.invokestatic 198, 3) := by decide +kernel
theorem dX8_copyRow_11 : decode cX8_copyRow 11 = .ok (.invokestatic 251, 3) := by decide +kernel
theorem dX8_copyRow_14 : decode cX8_copyRow 14 = .ok (.return_, 1) := by decide +kernel
theorem dX8_clear_0 : decode cX8_clear 0 = .ok (.iconst 0, 1) := by decide +kernel
theorem dX8_clear_1 : decode cX8_clear 1 = .ok (.istore_n 1, 1) := by decide +kernel
theorem dX8_clear_2 : decode cX8_clear 2 = .ok (.iload_n 1, 1) := by decide +kernel
theorem dX8_clear_3 : decode cX8_clear 3 = .ok (.aload_n 0, 1) := by decide +kernel
theorem dX8_clear_4 : decode cX8_clear 4 = .ok (.arraylength, 1) := by decide +kernel
theorem dX8_clear_5 : decode cX8_clear 5 = .ok (.if_icmp .ge 13, 3) := by decide +kernel
theorem dX8_clear_8 : decode cX8_clear 8 = .ok (.aload_n 0, 1) := by decide +kernel
theorem dX8_clear_9 : decode cX8_clear 9 = .ok (.iload_n 1, 1) := by decide +kernel
theorem dX8_clear_10 : decode cX8_clear 10 = .ok (.iconst 0, 1) := by decide +kernel
theorem dX8_clear_11 : decode cX8_clear 11 = .ok (.iastore, 1) := by decide +kernel
theorem dX8_clear_12 : decode cX8_clear 12 = .ok (.iinc 1 1, 3) := by decide +kernel
theorem dX8_clear_15 : decode cX8_clear 15 = .ok (.goto (-13), 3) := by decide +kernel
theorem dX8_clear_18 : decode cX8_clear 18 = .ok (.return_, 1) := by decide +kernel
theorem dX9_init_0 : decode cX9_init 0 = .ok (.aload_n 0, 1) := by decide +kernel
theorem dX9_init_1 : decode cX9_init 1 = .ok (.invokespecial 1, 3) := by decide +kernel
theorem dX9_init_4 : decode cX9_init 4 = .ok (.aload_n 0, 1) := by decide +kernel
theorem dX9_init_5 : decode cX9_init 5 = .ok (.sipush 1121, 3) := by decide +kernel
theorem dX9_init_8 : decode cX9_init 8 = .ok (.newarray .int, 2) := by decide +kernel
theorem dX9_init_10 : decode cX9_init 10 = .ok (.putfield 7, 3) := by decide +kernel
theorem dX9_init_13 : decode cX9_init 13 = .ok (.aload_n 0, 1) := by decide +kernel
theorem dX9_init_14 : decode cX9_init 14 = .ok (.sipush 1121, 3) := by decide +kernel
theorem dX9_init_17 : decode cX9_init 17 = .ok (.newarray .int, 2) := by decide +kernel
theorem dX9_init_19 : decode cX9_init 19 = .ok (.putfield 13, 3) := by decide +kernel
theorem dX9_init_22 : decode cX9_init 22 = .ok (.aload_n 0, 1) := by decide +kernel
theorem dX9_init_23 : decode cX9_init 23 = .ok (.sipush 2242, 3) := by decide +kernel
theorem dX9_init_26 : decode cX9_init 26 = .ok (.newarray .int, 2) := by decide +kernel
theorem dX9_init_28 : decode cX9_init 28 = .ok (.putfield 16, 3) := by decide +kernel
theorem dX9_init_31 : decode cX9_init 31 = .ok (.aload_n 0, 1) := by decide +kernel
theorem dX9_init_32 : decode cX9_init 32 = .ok (.iconst 2, 1) := by decide +kernel
theorem dX9_init_33 : decode cX9_init 33 = .ok (.newarray .boolean, 2) := by decide +kernel
theorem dX9_init_35 : decode cX9_init 35 = .ok (.putfield 19, 3) := by decide +kernel
theorem dX9_init_38 : decode cX9_init 38 = .ok (.aload_n 0, 1) := by decide +kernel
theorem dX9_init_39 : decode cX9_init 39 = .ok (.bipush 80, 2) := by decide +kernel
theorem dX9_init_41 : decode cX9_init 41 = .ok (.newarray .int, 2) := by decide +kernel
theorem dX9_init_43 : decode cX9_init 43 = .ok (.putfield 23, 3) := by decide +kernel
theorem dX9_init_46 : decode cX9_init 46 = .ok (.aload_n 0, 1) := by decide +kernel
theorem dX9_init_47 : decode cX9_init 47 = .ok (.bipush 60, 2) := by decide +kernel
theorem dX9_init_49 : decode cX9_init 49 = .ok (.newarray .int, 2) := by decide +kernel
theorem dX9_init_51 : decode cX9_init 51 = .ok (.putfield 26, 3) := by decide +kernel
theorem dX9_init_54 : decode cX9_init 54 = .ok (.aload_n 0, 1) := by decide +kernel
theorem dX9_init_55 : decode cX9_init 55 = .ok (.iconst 4, 1) := by decide +kernel
theorem dX9_init_56 : decode cX9_init 56 = .ok (.invokevirtual 29, 3) := by decide +kernel
theorem dX9_init_59 : decode cX9_init 59 = .ok (.return_, 1) := by decide +kernel
theorem dX9_in_0 : decode cX9_in 0 = .ok (.iload_n 0, 1) := by decide +kernel
theorem dX9_in_1 : decode cX9_in 1 = .ok (.iload_n 1, 1) := by decide +kernel
theorem dX9_in_2 : decode cX9_in 2 = .ok (.if_icmp .lt 12, 3) := by decide +kernel
theorem dX9_in_5 : decode cX9_in 5 = .ok (.iload_n 0, 1) := by decide +kernel
theorem dX9_in_6 : decode cX9_in 6 = .ok (.iload_n 2, 1) := by decide +kernel
theorem dX9_in_7 : decode cX9_in 7 = .ok (.if_icmp .gt 7, 3) := by decide +kernel
theorem dX9_in_10 : decode cX9_in 10 = .ok (.iconst 1, 1) := by decide +kernel
theorem dX9_in_11 : decode cX9_in 11 = .ok (.goto 4, 3) := by decide +kernel
theorem dX9_in_14 : decode cX9_in 14 = .ok (.iconst 0, 1) := by decide +kernel
theorem dX9_in_15 : decode cX9_in 15 = .ok (.ireturn, 1) := by decide +kernel
theorem dX9_begin_0 : decode cX9_begin 0 = .ok (.iconst 0, 1) := by decide +kernel
theorem dX9_begin_1 : decode cX9_begin 1 = .ok (.istore_n 2, 1) := by decide +kernel
theorem dX9_begin_2 : decode cX9_begin 2 = .ok (.iload_n 2, 1) := by decide +kernel
theorem dX9_begin_3 : decode cX9_begin 3 = .ok (.sipush 1121, 3) := by decide +kernel
theorem dX9_begin_6 : decode cX9_begin 6 = .ok (.if_icmp .ge 16, 3) := by decide +kernel
theorem dX9_begin_9 : decode cX9_begin 9 = .ok (.aload_n 0, 1) := by decide +kernel
theorem dX9_begin_10 : decode cX9_begin 10 = .ok (.getfield 7, 3) := by decide +kernel
theorem dX9_begin_13 : decode cX9_begin 13 = .ok (.iload_n 2, 1) := by decide +kernel
theorem dX9_begin_14 : decode cX9_begin 14 = .ok (.iconst 0, 1) := by decide +kernel
theorem dX9_begin_15 : decode cX9_begin 15 = .ok (.iastore, 1) := by decide +kernel
theorem dX9_begin_16 : decode cX9_begin 16 = .ok (.iinc 2 1, 3) := by decide +kernel
theorem dX9_begin_19 : decode cX9_begin 19 = .ok (.goto (-17), 3) := by decide +kernel
theorem dX9_begin_22 : decode cX9_begin 22 = .ok (.iconst 0, 1) := by decide +kernel
theorem dX9_begin_23 : decode cX9_begin 23 = .ok (.istore_n 2, 1) := by decide +kernel
theorem dX9_begin_24 : decode cX9_begin 24 = .ok (.iload_n 2, 1) := by decide +kernel
theorem dX9_begin_25 : decode cX9_begin 25 = .ok (.bipush 12, 2) := by decide +kernel
theorem dX9_begin_27 : decode cX9_begin 27 = .ok (.if_icmp .ge 75, 3) := by decide +kernel
theorem dX9_begin_30 : decode cX9_begin 30 = .ok (.aload_n 0, 1) := by decide +kernel
theorem dX9_begin_31 : decode cX9_begin 31 = .ok (.getfield 7, 3) := by decide +kernel
theorem dX9_begin_34 : decode cX9_begin 34 = .ok (.bipush 12, 2) := by decide +kernel
theorem dX9_begin_36 : decode cX9_begin 36 = .ok (.iload_n 2, 1) := by decide +kernel
theorem dX9_begin_37 : decode cX9_begin 37 = .ok (.imul, 1) := by decide +kernel
theorem dX9_begin_38 : decode cX9_begin 38 = .ok (.iconst 0, 1) := by decide +kernel
theorem dX9_begin_39 : decode cX9_begin 39 = .ok (.iadd, 1) := by decide +kernel
theorem dX9_begin_40 : decode cX9_begin 40 = .ok (.bipush 10, 2) := by decide +kernel
theorem dX9_begin_42 : decode cX9_begin 42 = .ok (.iastore, 1) := by decide +kernel
theorem dX9_begin_43 : decode cX9_begin 43 = .ok (.aload_n 0, 1) := by decide +kernel
theorem dX9_begin_44 : decode cX9_begin 44 = .ok (.getfield 7, 3) := by decide +kernel
theorem dX9_begin_47 : decode cX9_begin 47 = .ok (.bipush 12, 2) := by decide +kernel
theorem dX9_begin_49 : decode cX9_begin 49 = .ok (.iload_n 2, 1) := by decide +kernel
theorem dX9_begin_50 : decode cX9_begin 50 = .ok (.imul, 1) := by decide +kernel
theorem dX9_begin_51 : decode cX9_begin 51 = .ok (.iconst 1, 1) := by decide +kernel
theorem dX9_begin_52 : decode cX9_begin 52 = .ok (.iadd, 1) := by decide +kernel
theorem dX9_begin_53 : decode cX9_begin 53 = .ok (.sipush 1000, 3) := by decide +kernel
theorem dX9_begin_56 : decode cX9_begin 56 = .ok (.iastore, 1) := by decide +kernel
theorem dX9_begin_57 : decode cX9_begin 57 = .ok (.aload_n 0, 1) := by decide +kernel
theorem dX9_begin_58 : decode cX9_begin 58 = .ok (.getfield 7, 3) := by decide +kernel
theorem dX9_begin_61 : decode cX9_begin 61 = .ok (.bipush 12, 2) := by decide +kernel
theorem dX9_begin_63 : decode cX9_begin 63 = .ok (.iload_n 2, 1) := by decide +kernel
theorem dX9_begin_64 : decode cX9_begin 64 = .ok (.imul, 1) := by decide +kernel
theorem dX9_begin_65 : decode cX9_begin 65 = .ok (.iconst 2, 1) := by decide +kernel
theorem dX9_begin_66 : decode cX9_begin 66 = .ok (.iadd, 1) := by decide +kernel
theorem dX9_begin_67 : decode cX9_begin 67 = .ok (.iconst 3, 1) := by decide +kernel
theorem dX9_begin_68 : decode cX9_begin 68 = .ok (.iastore, 1) := by decide +kernel
theorem dX9_begin_69 : decode cX9_begin 69 = .ok (.aload_n 0, 1) := by decide +kernel
theorem dX9_begin_70 : decode cX9_begin 70 = .ok (.getfield 7, 3) := by decide +kernel
theorem dX9_begin_73 : decode cX9_begin 73 = .ok (.bipush 12, 2) := by decide +kernel
theorem dX9_begin_75 : decode cX9_begin 75 = .ok (.iload_n 2, 1) := by decide +kernel
theorem dX9_begin_76 : decode cX9_begin 76 = .ok (.imul, 1) := by decide +kernel
theorem dX9_begin_77 : decode cX9_begin 77 = .ok (.iconst 3, 1) := by decide +kernel
theorem dX9_begin_78 : decode cX9_begin 78 = .ok (.iadd, 1) := by decide +kernel
theorem dX9_begin_79 : decode cX9_begin 79 = .ok (.sipush 200, 3) := by decide +kernel
theorem dX9_begin_82 : decode cX9_begin 82 = .ok (.iastore, 1) := by decide +kernel
theorem dX9_begin_83 : decode cX9_begin 83 = .ok (.aload_n 0, 1) := by decide +kernel
theorem dX9_begin_84 : decode cX9_begin 84 = .ok (.getfield 7, 3) := by decide +kernel
theorem dX9_begin_87 : decode cX9_begin 87 = .ok (.bipush 12, 2) := by decide +kernel
theorem dX9_begin_89 : decode cX9_begin 89 = .ok (.iload_n 2, 1) := by decide +kernel
theorem dX9_begin_90 : decode cX9_begin 90 = .ok (.imul, 1) := by decide +kernel
theorem dX9_begin_91 : decode cX9_begin 91 = .ok (.iconst 5, 1) := by decide +kernel
theorem dX9_begin_92 : decode cX9_begin 92 = .ok (.iadd, 1) := by decide +kernel
theorem dX9_begin_93 : decode cX9_begin 93 = .ok (.bipush 10, 2) := by decide +kernel
theorem dX9_begin_95 : decode cX9_begin 95 = .ok (.iastore, 1) := by decide +kernel
theorem dX9_begin_96 : decode cX9_begin 96 = .ok (.iinc 2 1, 3) := by decide +kernel
theorem dX9_begin_99 : decode cX9_begin 99 = .ok (.goto (-75), 3) := by decide +kernel
theorem dX9_begin_102 : decode cX9_begin 102 = .ok (.iconst 0, 1) := by decide +kernel
theorem dX9_begin_103 : decode cX9_begin 103 = .ok (.istore_n 2, 1) := by decide +kernel
theorem dX9_begin_104 : decode cX9_begin 104 = .ok (.iload_n 2, 1) := by decide +kernel
theorem dX9_begin_105 : decode cX9_begin 105 = .ok (.iconst 3, 1) := by decide +kernel
theorem dX9_begin_106 : decode cX9_begin 106 = .ok (.if_icmp .ge 41, 3) := by decide +kernel
theorem dX9_begin_109 : decode cX9_begin 109 = .ok (.aload_n 0, 1) := by decide +kernel
theorem dX9_begin_110 : decode cX9_begin 110 = .ok (.getfield 7, 3) := by decide +kernel
theorem dX9_begin_113 : decode cX9_begin 113 = .ok (.sipush 912, 3) := by decide +kernel
theorem dX9_begin_116 : decode cX9_begin 116 = .ok (.iconst 5, 1) := by decide +kernel
theorem dX9_begin_117 : decode cX9_begin 117 = .ok (.iload_n 2, 1) := by decide +kernel
theorem dX9_begin_118 : decode cX9_begin 118 = .ok (.imul, 1) := by decide +kernel
theorem dX9_begin_119 : decode cX9_begin 119 = .ok (.iadd, 1) := by decide +kernel
theorem dX9_begin_120 : decode cX9_begin 120 = .ok (.iconst 0, 1) := by decide +kernel
theorem dX9_begin_121 : decode cX9_begin 121 = .ok (.iadd, 1) := by decide +kernel
theorem dX9_begin_122 : decode cX9_begin 122 = .ok (.bipush 100, 2) := by decide +kernel
theorem dX9_begin_124 : decode cX9_begin 124 = .ok (.iastore, 1) := by decide +kernel
theorem dX9_begin_125 : decode cX9_begin 125 = .ok (.aload_n 0, 1) := by decide +kernel
theorem dX9_begin_126 : decode cX9_begin 126 = .ok (.getfield 7, 3) := by decide +kernel
theorem dX9_begin_129 : decode cX9_begin 129 = .ok (.sipush 912, 3) := by decide +kernel
theorem dX9_begin_132 : decode cX9_begin 132 = .ok (.iconst 5, 1) := by decide +kernel
theorem dX9_begin_133 : decode cX9_begin 133 = .ok (.iload_n 2, 1) := by decide +kernel
theorem dX9_begin_134 : decode cX9_begin 134 = .ok (.imul, 1) := by decide +kernel
theorem dX9_begin_135 : decode cX9_begin 135 = .ok (.iadd, 1) := by decide +kernel
theorem dX9_begin_136 : decode cX9_begin 136 = .ok (.iconst 1, 1) := by decide +kernel
theorem dX9_begin_137 : decode cX9_begin 137 = .ok (.iadd, 1) := by decide +kernel
theorem dX9_begin_138 : decode cX9_begin 138 = .ok (.bipush 20, 2) := by decide +kernel
theorem dX9_begin_140 : decode cX9_begin 140 = .ok (.iastore, 1) := by decide +kernel
theorem dX9_begin_141 : decode cX9_begin 141 = .ok (.iinc 2 1, 3) := by decide +kernel
theorem dX9_begin_144 : decode cX9_begin 144 = .ok (.goto (-40), 3) := by decide +kernel
theorem dX9_begin_147 : decode cX9_begin 147 = .ok (.aload_n 0, 1) := by decide +kernel
theorem dX9_begin_148 : decode cX9_begin 148 = .ok (.getfield 7, 3) := by decide +kernel
theorem dX9_begin_151 : decode cX9_begin 151 = .ok (.sipush 927, 3) := by decide +kernel
theorem dX9_begin_154 : decode cX9_begin 154 = .ok (.iconst 4, 1) := by decide +kernel
theorem dX9_begin_155 : decode cX9_begin 155 = .ok (.iastore, 1) := by decide +kernel
theorem dX9_begin_156 : decode cX9_begin 156 = .ok (.aload_n 0, 1) := by decide +kernel
theorem dX9_begin_157 : decode cX9_begin 157 = .ok (.getfield 7, 3) := by decide +kernel
theorem dX9_begin_160 : decode cX9_begin 160 = .ok (.sipush 928, 3) := by decide +kernel
theorem dX9_begin_163 : decode cX9_begin 163 = .ok (.bipush 80, 2) := by decide +kernel
theorem dX9_begin_165 : decode cX9_begin 165 = .ok (.iastore, 1) := by decide +kernel
theorem dX9_begin_166 : decode cX9_begin 166 = .ok (.aload_n 0, 1) := by decide +kernel
theorem dX9_begin_167 : decode cX9_begin 167 = .ok (.getfield 7, 3) := by decide +kernel
theorem dX9_begin_170 : decode cX9_begin 170 = .ok (.sipush 929, 3) := by decide +kernel
theorem dX9_begin_173 : decode cX9_begin 173 = .ok (.sipush 150, 3) := by decide +kernel
theorem dX9_begin_176 : decode cX9_begin 176 = .ok (.iastore, 1) := by decide +kernel
theorem dX9_begin_177 : decode cX9_begin 177 = .ok (.aload_n 0, 1) := by decide +kernel
theorem dX9_begin_178 : decode cX9_begin 178 = .ok (.getfield 7, 3) := by decide +kernel
theorem dX9_begin_181 : decode cX9_begin 181 = .ok (.sipush 930, 3) := by decide +kernel
theorem dX9_begin_184 : decode cX9_begin 184 = .ok (.sipush 500, 3) := by decide +kernel
theorem dX9_begin_187 : decode cX9_begin 187 = .ok (.iastore, 1) := by decide +kernel
theorem dX9_begin_188 : decode cX9_begin 188 = .ok (.aload_n 0, 1) := by decide +kernel
theorem dX9_begin_189 : decode cX9_begin 189 = .ok (.getfield 7, 3) := by decide +kernel
theorem dX9_begin_192 : decode cX9_begin 192 = .ok (.sipush 931, 3) := by decide +kernel
theorem dX9_begin_195 : decode cX9_begin 195 = .ok (.bipush 30, 2) := by decide +kernel
theorem dX9_begin_197 : decode cX9_begin 197 = .ok (.iastore, 1) := by decide +kernel
theorem dX9_begin_198 : decode cX9_begin 198 = .ok (.aload_n 0, 1) := by decide +kernel
theorem dX9_begin_199 : decode cX9_begin 199 = .ok (.getfield 7, 3) := by decide +kernel
theorem dX9_begin_202 : decode cX9_begin 202 = .ok (.sipush 932, 3) := by decide +kernel
theorem dX9_begin_205 : decode cX9_begin 205 = .ok (.sipush 200, 3) := by decide +kernel
theorem dX9_begin_208 : decode cX9_begin 208 = .ok (.iastore, 1) := by decide +kernel
theorem dX9_begin_209 : decode cX9_begin 209 = .ok (.aload_n 0, 1) := by decide +kernel
theorem dX9_begin_210 : decode cX9_begin 210 = .ok (.getfield 7, 3) := by decide +kernel
theorem dX9_begin_213 : decode cX9_begin 213 = .ok (.sipush 938, 3) := by decide +kernel
theorem dX9_begin_216 : decode cX9_begin 216 = .ok (.iload_n 1, 1) := by decide +kernel
theorem dX9_begin_217 : decode cX9_begin 217 = .ok (.iastore, 1) := by decide +kernel
theorem dX9_begin_218 : decode cX9_begin 218 = .ok (.return_, 1) := by decide +kernel
theorem dX9_putAside_0 : decode cX9_putAside 0 = .ok (.iconst 0, 1) := by decide +kernel
theorem dX9_putAside_1 : decode cX9_putAside 1 = .ok (.istore_n 1, 1) := by decide +kernel
theorem dX9_putAside_2 : decode cX9_putAside 2 = .ok (.iload_n 1, 1) := by decide +kernel
theorem dX9_putAside_3 : decode cX9_putAside 3 = .ok (.sipush 1121, 3) := by decide +kernel
theorem dX9_putAside_6 : decode cX9_putAside 6 = .ok (.if_icmp .ge 21, 3) := by decide +kernel
theorem dX9_putAside_9 : decode cX9_putAside 9 = .ok (.aload_n 0, 1) := by decide +kernel
theorem dX9_putAside_10 : decode cX9_putAside 10 = .ok (.getfield 13, 3) := by decide +kernel
theorem dX9_putAside_13 : decode cX9_putAside 13 = .ok (.iload_n 1, 1) := by decide +kernel
theorem dX9_putAside_14 : decode cX9_putAside 14 = .ok (.aload_n 0, 1) := by decide +kernel
theorem dX9_putAside_15 : decode cX9_putAside 15 = .ok (.getfield 7, 3) := by decide +kernel
theorem dX9_putAside_18 : decode cX9_putAside 18 = .ok (.iload_n 1, 1) := by decide +kernel
theorem dX9_putAside_19 : decode cX9_putAside 19 = .ok (.iaload, 1) := by decide +kernel
theorem dX9_putAside_20 : decode cX9_putAside 20 = .ok (.iastore, 1) := by decide +kernel
theorem dX9_putAside_21 : decode cX9_putAside 21 = .ok (.iinc 1 1, 3) := by decide +kernel
theorem dX9_putAside_24 : decode cX9_putAside 24 = .ok (.goto (-22), 3) := by decide +kernel
theorem dX9_putAside_27 : decode cX9_putAside 27 = .ok (.return_, 1) := by decide +kernel
theorem dX9_putBack_0 : decode cX9_putBack 0 = .ok (.iconst 0, 1) := by decide +kernel
theorem dX9_putBack_1 : decode cX9_putBack 1 = .ok (.istore_n 1, 1) := by decide +kernel
theorem dX9_putBack_2 : decode cX9_putBack 2 = .ok (.iload_n 1, 1) := by decide +kernel
theorem dX9_putBack_3 : decode cX9_putBack 3 = .ok (.sipush 1121, 3) := by decide +kernel
theorem dX9_putBack_6 : decode cX9_putBack 6 = .ok (.if_icmp .ge 21, 3) := by decide +kernel
theorem dX9_putBack_9 : decode cX9_putBack 9 = .ok (.aload_n 0, 1) := by decide +kernel
theorem dX9_putBack_10 : decode cX9_putBack 10 = .ok (.getfield 7, 3) := by decide +kernel
theorem dX9_putBack_13 : decode cX9_putBack 13 = .ok (.iload_n 1, 1) := by decide +kernel
theorem dX9_putBack_14 : decode cX9_putBack 14 = .ok (.aload_n 0, 1) := by decide +kernel
theorem dX9_putBack_15 : decode cX9_putBack 15 = .ok (.getfield 13, 3) := by decide +kernel
theorem dX9_putBack_18 : decode cX9_putBack 18 = .ok (.iload_n 1, 1) := by decide +kernel
theorem dX9_putBack_19 : decode cX9_putBack 19 = .ok (.iaload, 1) := by decide +kernel
theorem dX9_putBack_20 : decode cX9_putBack 20 = .ok (.iastore, 1) := by decide +kernel
theorem dX9_putBack_21 : decode cX9_putBack 21 = .ok (.iinc 1 1, 3) := by decide +kernel
theorem dX9_putBack_24 : decode cX9_putBack 24 = .ok (.goto (-22), 3) := by decide +kernel
theorem dX9_putBack_27 : decode cX9_putBack 27 = .ok (.return_, 1) := by decide +kernel
theorem dX9_isNozzle_0 : decode cX9_isNozzle 0 = .ok (.iload_n 1, 1) := by decide +kernel
theorem dX9_isNozzle_1 : decode cX9_isNozzle 1 = .ok (.iconst 0, 1) := by decide +kernel
theorem dX9_isNozzle_2 : decode cX9_isNozzle 2 = .ok (.aload_n 0, 1) := by decide +kernel
theorem dX9_isNozzle_3 : decode cX9_isNozzle 3 = .ok (.getfield 7, 3) := by decide +kernel
theorem dX9_isNozzle_6 : decode cX9_isNozzle 6 = .ok (.sipush 938, 3) := by decide +kernel
theorem dX9_isNozzle_9 : decode cX9_isNozzle 9 = .ok (.iaload, 1) := by decide +kernel
theorem dX9_isNozzle_10 : decode cX9_isNozzle 10 = .ok (.iconst 1, 1) := by decide +kernel
theorem dX9_isNozzle_11 : decode cX9_isNozzle 11 = .ok (.isub, 1) := by decide +kernel
theorem dX9_isNozzle_12 : decode cX9_isNozzle 12 = .ok (.invokestatic 33, 3) := by decide +kernel
theorem dX9_isNozzle_15 : decode cX9_isNozzle 15 = .ok (.ireturn, 1) := by decide +kernel
theorem dX9_isPump_0 : decode cX9_isPump 0 = .ok (.iload_n 0, 1) := by decide +kernel
theorem dX9_isPump_1 : decode cX9_isPump 1 = .ok (.iconst 0, 1) := by decide +kernel
theorem dX9_isPump_2 : decode cX9_isPump 2 = .ok (.iconst 2, 1) := by decide +kernel
theorem dX9_isPump_3 : decode cX9_isPump 3 = .ok (.invokestatic 33, 3) := by decide +kernel
theorem dX9_isPump_6 : decode cX9_isPump 6 = .ok (.ireturn, 1) := by decide +kernel
theorem dX9_setUp_0 : decode cX9_setUp 0 = .ok (.iload_n 1, 1) := by decide +kernel
theorem dX9_setUp_1 : decode cX9_setUp 1 = .ok (.iconst 1, 1) := by decide +kernel
theorem dX9_setUp_2 : decode cX9_setUp 2 = .ok (.bipush 12, 2) := by decide +kernel
theorem dX9_setUp_4 : decode cX9_setUp 4 = .ok (.invokestatic 33, 3) := by decide +kernel
theorem dX9_setUp_7 : decode cX9_setUp 7 = .ok (.ifCond .ne 6, 3) := by decide +kernel
theorem dX9_setUp_10 : decode cX9_setUp 10 = .ok (.bipush (-2), 2) := by decide +kernel
theorem dX9_setUp_12 : decode cX9_setUp 12 = .ok (.ireturn, 1) := by decide +kernel
theorem dX9_setUp_13 : decode cX9_setUp 13 = .ok (.aload_n 0, 1) := by decide +kernel
theorem dX9_setUp_14 : decode cX9_setUp 14 = .ok (.getfield 7, 3) := by decide +kernel
theorem dX9_setUp_17 : decode cX9_setUp 17 = .ok (.sipush 938, 3) := by decide +kernel
theorem dX9_setUp_20 : decode cX9_setUp 20 = .ok (.iaload, 1) := by decide +kernel
theorem dX9_setUp_21 : decode cX9_setUp 21 = .ok (.istore_n 2, 1) := by decide +kernel
theorem dX9_setUp_22 : decode cX9_setUp 22 = .ok (.aload_n 0, 1) := by decide +kernel
theorem dX9_setUp_23 : decode cX9_setUp 23 = .ok (.iload_n 1, 1) := by decide +kernel
theorem dX9_setUp_24 : decode cX9_setUp 24 = .ok (.invokevirtual 29, 3) := by decide +kernel
theorem dX9_setUp_27 : decode cX9_setUp 27 = .ok (.iload_n 2, 1) := by decide +kernel
theorem dX9_setUp_28 : decode cX9_setUp 28 = .ok (.ireturn, 1) := by decide +kernel
theorem dX9_change_0 : decode cX9_change 0 = .ok (.aload_n 0, 1) := by decide +kernel
theorem dX9_change_1 : decode cX9_change 1 = .ok (.getfield 7, 3) := by decide +kernel
theorem dX9_change_4 : decode cX9_change 4 = .ok (.iload_n 1, 1) := by decide +kernel
theorem dX9_change_5 : decode cX9_change 5 = .ok (.iaload, 1) := by decide +kernel
theorem dX9_change_6 : decode cX9_change 6 = .ok (.istore_n 3, 1) := by decide +kernel
theorem dX9_change_7 : decode cX9_change 7 = .ok (.aload_n 0, 1) := by decide +kernel
theorem dX9_change_8 : decode cX9_change 8 = .ok (.getfield 7, 3) := by decide +kernel
theorem dX9_change_11 : decode cX9_change 11 = .ok (.iload_n 1, 1) := by decide +kernel
theorem dX9_change_12 : decode cX9_change 12 = .ok (.iload_n 2, 1) := by decide +kernel
theorem dX9_change_13 : decode cX9_change 13 = .ok (.iastore, 1) := by decide +kernel
theorem dX9_change_14 : decode cX9_change 14 = .ok (.iload_n 3, 1) := by decide +kernel
theorem dX9_change_15 : decode cX9_change 15 = .ok (.ireturn, 1) := by decide +kernel
theorem dX9_isOfNozzle_0 : decode cX9_isOfNozzle 0 = .ok (.iload_n 0, 1) := by decide +kernel
theorem dX9_isOfNozzle_1 : decode cX9_isOfNozzle 1 = .ok (.tableswitch 76 0 4 #[35, 43, 52, 60, 69], 35) := by decide +kernel
theorem dX9_isOfNozzle_36 : decode cX9_isOfNozzle 36 = .ok (.iload_n 1, 1) := by decide +kernel
theorem dX9_isOfNozzle_37 : decode cX9_isOfNozzle 37 = .ok (.iconst 1, 1) := by decide +kernel
theorem dX9_isOfNozzle_38 : decode cX9_isOfNozzle 38 = .ok (.bipush 100, 2) := by decide +kernel
theorem dX9_isOfNozzle_40 : decode cX9_isOfNozzle 40 = .ok (.invokestatic 33, 3) := by decide +kernel
theorem dX9_isOfNozzle_43 : decode cX9_isOfNozzle 43 = .ok (.ireturn, 1) := by decide +kernel
theorem dX9_isOfNozzle_44 : decode cX9_isOfNozzle 44 = .ok (.iload_n 1, 1) := by decide +kernel
theorem dX9_isOfNozzle_45 : decode cX9_isOfNozzle 45 = .ok (.iconst 1, 1) := by decide +kernel
theorem dX9_isOfNozzle_46 : decode cX9_isOfNozzle 46 = .ok (.sipush 5000, 3) := by decide +kernel
theorem dX9_isOfNozzle_49 : decode cX9_isOfNozzle 49 = .ok (.invokestatic 33, 3) := by decide +kernel
theorem dX9_isOfNozzle_52 : decode cX9_isOfNozzle 52 = .ok (.ireturn, 1) := by decide +kernel
theorem dX9_isOfNozzle_53 : decode cX9_isOfNozzle 53 = .ok (.iload_n 1, 1) := by decide +kernel
theorem dX9_isOfNozzle_54 : decode cX9_isOfNozzle 54 = .ok (.iconst 0, 1) := by decide +kernel
theorem dX9_isOfNozzle_55 : decode cX9_isOfNozzle 55 = .ok (.bipush 50, 2) := by decide +kernel
theorem dX9_isOfNozzle_57 : decode cX9_isOfNozzle 57 = .ok (.invokestatic 33, 3) := by decide +kernel
theorem dX9_isOfNozzle_60 : decode cX9_isOfNozzle 60 = .ok (.ireturn, 1) := by decide +kernel
theorem dX9_isOfNozzle_61 : decode cX9_isOfNozzle 61 = .ok (.iload_n 1, 1) := by decide +kernel
theorem dX9_isOfNozzle_62 : decode cX9_isOfNozzle 62 = .ok (.iconst 1, 1) := by decide +kernel
theorem dX9_isOfNozzle_63 : decode cX9_isOfNozzle 63 = .ok (.sipush 1000, 3) := by decide +kernel
theorem dX9_isOfNozzle_66 : decode cX9_isOfNozzle 66 = .ok (.invokestatic 33, 3) := by decide +kernel
theorem dX9_isOfNozzle_69 : decode cX9_isOfNozzle 69 = .ok (.ireturn, 1) := by decide +kernel
theorem dX9_isOfNozzle_70 : decode cX9_isOfNozzle 70 = .ok (.iload_n 1, 1) := by decide +kernel
theorem dX9_isOfNozzle_71 : decode cX9_isOfNozzle 71 = .ok (.iconst 0, 1) := by decide +kernel
theorem dX9_isOfNozzle_72 : decode cX9_isOfNozzle 72 = .ok (.iconst 2, 1) := by decide +kernel
theorem dX9_isOfNozzle_73 : decode cX9_isOfNozzle 73 = .ok (.invokestatic 33, 3) := by decide +kernel
theorem dX9_isOfNozzle_76 : decode cX9_isOfNozzle 76 = .ok (.ireturn, 1) := by decide +kernel
theorem dX9_isOfNozzle_77 : decode cX9_isOfNozzle 77 = .ok (.iload_n 0, 1) := by decide +kernel
theorem dX9_isOfNozzle_78 : decode cX9_isOfNozzle 78 = .ok (.iconst 5, 1) := by decide +kernel
theorem dX9_isOfNozzle_79 : decode cX9_isOfNozzle 79 = .ok (.if_icmp .ne 17, 3) := by decide +kernel
theorem dX9_isOfNozzle_82 : decode cX9_isOfNozzle 82 = .ok (.iload_n 1, 1) := by decide +kernel
theorem dX9_isOfNozzle_83 : decode cX9_isOfNozzle 83 = .ok (.iconst 0, 1) := by decide +kernel
theorem dX9_isOfNozzle_84 : decode cX9_isOfNozzle 84 = .ok (.bipush 100, 2) := by decide +kernel
theorem dX9_isOfNozzle_86 : decode cX9_isOfNozzle 86 = .ok (.invokestatic 33, 3) := by decide +kernel
theorem dX9_isOfNozzle_89 : decode cX9_isOfNozzle 89 = .ok (.ifCond .eq 7, 3) := by decide +kernel
theorem dX9_isOfNozzle_92 : decode cX9_isOfNozzle 92 = .ok (.iconst 1, 1) := by decide +kernel
theorem dX9_isOfNozzle_93 : decode cX9_isOfNozzle 93 = .ok (.goto 4, 3) := by decide +kernel
theorem dX9_isOfNozzle_96 : decode cX9_isOfNozzle 96 = .ok (.iconst 0, 1) := by decide +kernel
theorem dX9_isOfNozzle_97 : decode cX9_isOfNozzle 97 = .ok (.ireturn, 1) := by decide +kernel
theorem dX9_nozzle_0 : decode cX9_nozzle 0 = .ok (.aload_n 0, 1) := by decide +kernel
theorem dX9_nozzle_1 : decode cX9_nozzle 1 = .ok (.iload_n 1, 1) := by decide +kernel
theorem dX9_nozzle_2 : decode cX9_nozzle 2 = .ok (.invokevirtual 37, 3) := by decide +kernel
theorem dX9_nozzle_5 : decode cX9_nozzle 5 = .ok (.ifCond .ne 5, 3) := by decide +kernel
theorem dX9_nozzle_8 : decode cX9_nozzle 8 = .ok (.iconst (-1), 1) := by decide +kernel
theorem dX9_nozzle_9 : decode cX9_nozzle 9 = .ok (.ireturn, 1) := by decide +kernel
theorem dX9_nozzle_10 : decode cX9_nozzle 10 = .ok (.iload_n 2, 1) := by decide +kernel
theorem dX9_nozzle_11 : decode cX9_nozzle 11 = .ok (.iload_n 3, 1) := by decide +kernel
theorem dX9_nozzle_12 : decode cX9_nozzle 12 = .ok (.invokestatic 41, 3) := by decide +kernel
theorem dX9_nozzle_15 : decode cX9_nozzle 15 = .ok (.ifCond .eq 17, 3) := by decide +kernel
theorem dX9_nozzle_18 : decode cX9_nozzle 18 = .ok (.aload_n 0, 1) := by decide +kernel
theorem dX9_nozzle_19 : decode cX9_nozzle 19 = .ok (.bipush 12, 2) := by decide +kernel
theorem dX9_nozzle_21 : decode cX9_nozzle 21 = .ok (.iload_n 1, 1) := by decide +kernel
theorem dX9_nozzle_22 : decode cX9_nozzle 22 = .ok (.imul, 1) := by decide +kernel
theorem dX9_nozzle_23 : decode cX9_nozzle 23 = .ok (.iload_n 2, 1) := by decide +kernel
theorem dX9_nozzle_24 : decode cX9_nozzle 24 = .ok (.iadd, 1) := by decide +kernel
theorem dX9_nozzle_25 : decode cX9_nozzle 25 = .ok (.iload_n 3, 1) := by decide +kernel
theorem dX9_nozzle_26 : decode cX9_nozzle 26 = .ok (.invokevirtual 45, 3) := by decide +kernel
theorem dX9_nozzle_29 : decode cX9_nozzle 29 = .ok (.goto 5, 3) := by decide +kernel
theorem dX9_nozzle_32 : decode cX9_nozzle 32 = .ok (.bipush (-2), 2) := by decide +kernel
theorem dX9_nozzle_34 : decode cX9_nozzle 34 = .ok (.ireturn, 1) := by decide +kernel
theorem dX9_pump_0 : decode cX9_pump 0 = .ok (.iload_n 1, 1) := by decide +kernel
theorem dX9_pump_1 : decode cX9_pump 1 = .ok (.invokestatic 49, 3) := by decide +kernel
theorem dX9_pump_4 : decode cX9_pump 4 = .ok (.ifCond .ne 5, 3) := by decide +kernel
theorem dX9_pump_7 : decode cX9_pump 7 = .ok (.iconst (-1), 1) := by decide +kernel
theorem dX9_pump_8 : decode cX9_pump 8 = .ok (.ireturn, 1) := by decide +kernel
theorem dX9_pump_9 : decode cX9_pump 9 = .ok (.iload_n 2, 1) := by decide +kernel
theorem dX9_pump_10 : decode cX9_pump 10 = .ok (.ifCond .ne 14, 3) := by decide +kernel
theorem dX9_pump_13 : decode cX9_pump 13 = .ok (.iload_n 3, 1) := by decide +kernel
theorem dX9_pump_14 : decode cX9_pump 14 = .ok (.iconst 0, 1) := by decide +kernel
theorem dX9_pump_15 : decode cX9_pump 15 = .ok (.sipush 2000, 3) := by decide +kernel
theorem dX9_pump_18 : decode cX9_pump 18 = .ok (.invokestatic 33, 3) := by decide +kernel
theorem dX9_pump_21 : decode cX9_pump 21 = .ok (.ifCond .ne 19, 3) := by decide +kernel
theorem dX9_pump_24 : decode cX9_pump 24 = .ok (.iload_n 2, 1) := by decide +kernel
theorem dX9_pump_25 : decode cX9_pump 25 = .ok (.iconst 1, 1) := by decide +kernel
theorem dX9_pump_26 : decode cX9_pump 26 = .ok (.if_icmp .ne 18, 3) := by decide +kernel
theorem dX9_pump_29 : decode cX9_pump 29 = .ok (.iload_n 3, 1) := by decide +kernel
theorem dX9_pump_30 : decode cX9_pump 30 = .ok (.iconst 1, 1) := by decide +kernel
theorem dX9_pump_31 : decode cX9_pump 31 = .ok (.sipush 500, 3) := by decide +kernel
theorem dX9_pump_34 : decode cX9_pump 34 = .ok (.invokestatic 33, 3) := by decide +kernel
theorem dX9_pump_37 : decode cX9_pump 37 = .ok (.ifCond .eq 7, 3) := by decide +kernel
theorem dX9_pump_40 : decode cX9_pump 40 = .ok (.iconst 1, 1) := by decide +kernel
theorem dX9_pump_41 : decode cX9_pump 41 = .ok (.goto 4, 3) := by decide +kernel
theorem dX9_pump_44 : decode cX9_pump 44 = .ok (.iconst 0, 1) := by decide +kernel
theorem dX9_pump_45 : decode cX9_pump 45 = .ok (.istore 4, 2) := by decide +kernel
theorem dX9_pump_47 : decode cX9_pump 47 = .ok (.iload 4, 2) := by decide +kernel
theorem dX9_pump_49 : decode cX9_pump 49 = .ok (.ifCond .eq 20, 3) := by decide +kernel
theorem dX9_pump_52 : decode cX9_pump 52 = .ok (.aload_n 0, 1) := by decide +kernel
theorem dX9_pump_53 : decode cX9_pump 53 = .ok (.sipush 912, 3) := by decide +kernel
theorem dX9_pump_56 : decode cX9_pump 56 = .ok (.iconst 5, 1) := by decide +kernel
theorem dX9_pump_57 : decode cX9_pump 57 = .ok (.iload_n 1, 1) := by decide +kernel
theorem dX9_pump_58 : decode cX9_pump 58 = .ok (.imul, 1) := by decide +kernel
theorem dX9_pump_59 : decode cX9_pump 59 = .ok (.iadd, 1) := by decide +kernel
theorem dX9_pump_60 : decode cX9_pump 60 = .ok (.iload_n 2, 1) := by decide +kernel
theorem dX9_pump_61 : decode cX9_pump 61 = .ok (.iadd, 1) := by decide +kernel
theorem dX9_pump_62 : decode cX9_pump 62 = .ok (.iload_n 3, 1) := by decide +kernel
theorem dX9_pump_63 : decode cX9_pump 63 = .ok (.invokevirtual 45, 3) := by decide +kernel
theorem dX9_pump_66 : decode cX9_pump 66 = .ok (.goto 5, 3) := by decide +kernel
theorem dX9_pump_69 : decode cX9_pump 69 = .ok (.bipush (-2), 2) := by decide +kernel
theorem dX9_pump_71 : decode cX9_pump 71 = .ok (.ireturn, 1) := by decide +kernel
theorem dX9_isOfShow_0 : decode cX9_isOfShow 0 = .ok (.iload_n 0, 1) := by decide +kernel
theorem dX9_isOfShow_1 : decode cX9_isOfShow 1 = .ok (.tableswitch 70 0 4 #[35, 43, 43, 52, 61], 35) := by decide +kernel
theorem dX9_isOfShow_36 : decode cX9_isOfShow 36 = .ok (.iload_n 1, 1) := by decide +kernel
theorem dX9_isOfShow_37 : decode cX9_isOfShow 37 = .ok (.iconst 1, 1) := by decide +kernel
theorem dX9_isOfShow_38 : decode cX9_isOfShow 38 = .ok (.bipush 64, 2) := by decide +kernel
theorem dX9_isOfShow_40 : decode cX9_isOfShow 40 = .ok (.invokestatic 33, 3) := by decide +kernel
theorem dX9_isOfShow_43 : decode cX9_isOfShow 43 = .ok (.ireturn, 1) := by decide +kernel
theorem dX9_isOfShow_44 : decode cX9_isOfShow 44 = .ok (.iload_n 1, 1) := by decide +kernel
theorem dX9_isOfShow_45 : decode cX9_isOfShow 45 = .ok (.iconst 0, 1) := by decide +kernel
theorem dX9_isOfShow_46 : decode cX9_isOfShow 46 = .ok (.sipush 300, 3) := by decide +kernel
theorem dX9_isOfShow_49 : decode cX9_isOfShow 49 = .ok (.invokestatic 33, 3) := by decide +kernel
theorem dX9_isOfShow_52 : decode cX9_isOfShow 52 = .ok (.ireturn, 1) := by decide +kernel
theorem dX9_isOfShow_53 : decode cX9_isOfShow 53 = .ok (.iload_n 1, 1) := by decide +kernel
theorem dX9_isOfShow_54 : decode cX9_isOfShow 54 = .ok (.iconst 0, 1) := by decide +kernel
theorem dX9_isOfShow_55 : decode cX9_isOfShow 55 = .ok (.sipush 1000, 3) := by decide +kernel
theorem dX9_isOfShow_58 : decode cX9_isOfShow 58 = .ok (.invokestatic 33, 3) := by decide +kernel
theorem dX9_isOfShow_61 : decode cX9_isOfShow 61 = .ok (.ireturn, 1) := by decide +kernel
theorem dX9_isOfShow_62 : decode cX9_isOfShow 62 = .ok (.iload_n 1, 1) := by decide +kernel
theorem dX9_isOfShow_63 : decode cX9_isOfShow 63 = .ok (.iconst 0, 1) := by decide +kernel
theorem dX9_isOfShow_64 : decode cX9_isOfShow 64 = .ok (.sipush 600, 3) := by decide +kernel
theorem dX9_isOfShow_67 : decode cX9_isOfShow 67 = .ok (.invokestatic 33, 3) := by decide +kernel
theorem dX9_isOfShow_70 : decode cX9_isOfShow 70 = .ok (.ireturn, 1) := by decide +kernel
theorem dX9_isOfShow_71 : decode cX9_isOfShow 71 = .ok (.iload_n 0, 1) := by decide +kernel
theorem dX9_isOfShow_72 : decode cX9_isOfShow 72 = .ok (.iconst 5, 1) := by decide +kernel
theorem dX9_isOfShow_73 : decode cX9_isOfShow 73 = .ok (.if_icmp .ne 18, 3) := by decide +kernel
theorem dX9_isOfShow_76 : decode cX9_isOfShow 76 = .ok (.iload_n 1, 1) := by decide +kernel
theorem dX9_isOfShow_77 : decode cX9_isOfShow 77 = .ok (.iconst 0, 1) := by decide +kernel
theorem dX9_isOfShow_78 : decode cX9_isOfShow 78 = .ok (.sipush 5000, 3) := by decide +kernel
theorem dX9_isOfShow_81 : decode cX9_isOfShow 81 = .ok (.invokestatic 33, 3) := by decide +kernel
theorem dX9_isOfShow_84 : decode cX9_isOfShow 84 = .ok (.ifCond .eq 7, 3) := by decide +kernel
theorem dX9_isOfShow_87 : decode cX9_isOfShow 87 = .ok (.iconst 1, 1) := by decide +kernel
theorem dX9_isOfShow_88 : decode cX9_isOfShow 88 = .ok (.goto 4, 3) := by decide +kernel
theorem dX9_isOfShow_91 : decode cX9_isOfShow 91 = .ok (.iconst 0, 1) := by decide +kernel
theorem dX9_isOfShow_92 : decode cX9_isOfShow 92 = .ok (.ireturn, 1) := by decide +kernel
theorem dX9_set_0 : decode cX9_set 0 = .ok (.iload_n 1, 1) := by decide +kernel
theorem dX9_set_1 : decode cX9_set 1 = .ok (.iload_n 2, 1) := by decide +kernel
theorem dX9_set_2 : decode cX9_set 2 = .ok (.invokestatic 52, 3) := by decide +kernel
theorem dX9_set_5 : decode cX9_set 5 = .ok (.ifCond .eq 16, 3) := by decide +kernel
theorem dX9_set_8 : decode cX9_set 8 = .ok (.aload_n 0, 1) := by decide +kernel
theorem dX9_set_9 : decode cX9_set 9 = .ok (.sipush 927, 3) := by decide +kernel
theorem dX9_set_12 : decode cX9_set 12 = .ok (.iload_n 1, 1) := by decide +kernel
theorem dX9_set_13 : decode cX9_set 13 = .ok (.iadd, 1) := by decide +kernel
theorem dX9_set_14 : decode cX9_set 14 = .ok (.iload_n 2, 1) := by decide +kernel
theorem dX9_set_15 : decode cX9_set 15 = .ok (.invokevirtual 45, 3) := by decide +kernel
theorem dX9_set_18 : decode cX9_set 18 = .ok (.goto 5, 3) := by decide +kernel
theorem dX9_set_21 : decode cX9_set 21 = .ok (.bipush (-2), 2) := by decide +kernel
theorem dX9_set_23 : decode cX9_set 23 = .ok (.ireturn, 1) := by decide +kernel
theorem dX9_wind_0 : decode cX9_wind 0 = .ok (.iload_n 1, 1) := by decide +kernel
theorem dX9_wind_1 : decode cX9_wind 1 = .ok (.iconst 0, 1) := by decide +kernel
theorem dX9_wind_2 : decode cX9_wind 2 = .ok (.sipush 300, 3) := by decide +kernel
theorem dX9_wind_5 : decode cX9_wind 5 = .ok (.invokestatic 33, 3) := by decide +kernel
theorem dX9_wind_8 : decode cX9_wind 8 = .ok (.ifCond .eq 14, 3) := by decide +kernel
theorem dX9_wind_11 : decode cX9_wind 11 = .ok (.aload_n 0, 1) := by decide +kernel
theorem dX9_wind_12 : decode cX9_wind 12 = .ok (.sipush 933, 3) := by decide +kernel
theorem dX9_wind_15 : decode cX9_wind 15 = .ok (.iload_n 1, 1) := by decide +kernel
theorem dX9_wind_16 : decode cX9_wind 16 = .ok (.invokevirtual 45, 3) := by decide +kernel
theorem dX9_wind_19 : decode cX9_wind 19 = .ok (.goto 5, 3) := by decide +kernel
theorem dX9_wind_22 : decode cX9_wind 22 = .ok (.bipush (-2), 2) := by decide +kernel
theorem dX9_wind_24 : decode cX9_wind 24 = .ok (.ireturn, 1) := by decide +kernel
theorem dX9_ofCue_0 : decode cX9_ofCue 0 = .ok (.aload_n 0, 1) := by decide +kernel
theorem dX9_ofCue_1 : decode cX9_ofCue 1 = .ok (.getfield 7, 3) := by decide +kernel
theorem dX9_ofCue_4 : decode cX9_ofCue 4 = .ok (.sipush 941, 3) := by decide +kernel
theorem dX9_ofCue_7 : decode cX9_ofCue 7 = .ok (.iconst 3, 1) := by decide +kernel
theorem dX9_ofCue_8 : decode cX9_ofCue 8 = .ok (.iload_n 1, 1) := by decide +kernel
theorem dX9_ofCue_9 : decode cX9_ofCue 9 = .ok (.imul, 1) := by decide +kernel
theorem dX9_ofCue_10 : decode cX9_ofCue 10 = .ok (.iadd, 1) := by decide +kernel
theorem dX9_ofCue_11 : decode cX9_ofCue 11 = .ok (.iload_n 2, 1) := by decide +kernel
theorem dX9_ofCue_12 : decode cX9_ofCue 12 = .ok (.iadd, 1) := by decide +kernel
theorem dX9_ofCue_13 : decode cX9_ofCue 13 = .ok (.iaload, 1) := by decide +kernel
theorem dX9_ofCue_14 : decode cX9_ofCue 14 = .ok (.ireturn, 1) := by decide +kernel
theorem dX9_layCue_0 : decode cX9_layCue 0 = .ok (.aload_n 0, 1) := by decide +kernel
theorem dX9_layCue_1 : decode cX9_layCue 1 = .ok (.getfield 7, 3) := by decide +kernel
theorem dX9_layCue_4 : decode cX9_layCue 4 = .ok (.sipush 941, 3) := by decide +kernel
theorem dX9_layCue_7 : decode cX9_layCue 7 = .ok (.iconst 3, 1) := by decide +kernel
theorem dX9_layCue_8 : decode cX9_layCue 8 = .ok (.iload_n 1, 1) := by decide +kernel
theorem dX9_layCue_9 : decode cX9_layCue 9 = .ok (.imul, 1) := by decide +kernel
theorem dX9_layCue_10 : decode cX9_layCue 10 = .ok (.iadd, 1) := by decide +kernel
theorem dX9_layCue_11 : decode cX9_layCue 11 = .ok (.iload_n 2, 1) := by decide +kernel
theorem dX9_layCue_12 : decode cX9_layCue 12 = .ok (.iastore, 1) := by decide +kernel
theorem dX9_layCue_13 : decode cX9_layCue 13 = .ok (.aload_n 0, 1) := by decide +kernel
theorem dX9_layCue_14 : decode cX9_layCue 14 = .ok (.getfield 7, 3) := by decide +kernel
theorem dX9_layCue_17 : decode cX9_layCue 17 = .ok (.sipush 941, 3) := by decide +kernel
theorem dX9_layCue_20 : decode cX9_layCue 20 = .ok (.iconst 3, 1) := by decide +kernel
theorem dX9_layCue_21 : decode cX9_layCue 21 = .ok (.iload_n 1, 1) := by decide +kernel
theorem dX9_layCue_22 : decode cX9_layCue 22 = .ok (.imul, 1) := by decide +kernel
theorem dX9_layCue_23 : decode cX9_layCue 23 = .ok (.iadd, 1) := by decide +kernel
theorem dX9_layCue_24 : decode cX9_layCue 24 = .ok (.iconst 1, 1) := by decide +kernel
theorem dX9_layCue_25 : decode cX9_layCue 25 = .ok (.iadd, 1) := by decide +kernel
theorem dX9_layCue_26 : decode cX9_layCue 26 = .ok (.iload_n 3, 1) := by decide +kernel
theorem dX9_layCue_27 : decode cX9_layCue 27 = .ok (.iastore, 1) := by decide +kernel
theorem dX9_layCue_28 : decode cX9_layCue 28 = .ok (.aload_n 0, 1) := by decide +kernel
theorem dX9_layCue_29 : decode cX9_layCue 29 = .ok (.getfield 7, 3) := by decide +kernel
theorem dX9_layCue_32 : decode cX9_layCue 32 = .ok (.sipush 941, 3) := by decide +kernel
theorem dX9_layCue_35 : decode cX9_layCue 35 = .ok (.iconst 3, 1) := by decide +kernel
theorem dX9_layCue_36 : decode cX9_layCue 36 = .ok (.iload_n 1, 1) := by decide +kernel
theorem dX9_layCue_37 : decode cX9_layCue 37 = .ok (.imul, 1) := by decide +kernel
theorem dX9_layCue_38 : decode cX9_layCue 38 = .ok (.iadd, 1) := by decide +kernel
theorem dX9_layCue_39 : decode cX9_layCue 39 = .ok (.iconst 2, 1) := by decide +kernel
theorem dX9_layCue_40 : decode cX9_layCue 40 = .ok (.iadd, 1) := by decide +kernel
theorem dX9_layCue_41 : decode cX9_layCue 41 = .ok (.iload 4, 2) := by decide +kernel
theorem dX9_layCue_43 : decode cX9_layCue 43 = .ok (.iastore, 1) := by decide +kernel
theorem dX9_layCue_44 : decode cX9_layCue 44 = .ok (.return_, 1) := by decide +kernel
theorem dX9_insert_0 : decode cX9_insert 0 = .ok (.aload_n 0, 1) := by decide +kernel
theorem dX9_insert_1 : decode cX9_insert 1 = .ok (.getfield 7, 3) := by decide +kernel
theorem dX9_insert_4 : decode cX9_insert 4 = .ok (.sipush 940, 3) := by decide +kernel
theorem dX9_insert_7 : decode cX9_insert 7 = .ok (.iaload, 1) := by decide +kernel
theorem dX9_insert_8 : decode cX9_insert 8 = .ok (.istore 4, 2) := by decide +kernel
theorem dX9_insert_10 : decode cX9_insert 10 = .ok (.iload 4, 2) := by decide +kernel
theorem dX9_insert_12 : decode cX9_insert 12 = .ok (.ifCond .le 55, 3) := by decide +kernel
theorem dX9_insert_15 : decode cX9_insert 15 = .ok (.aload_n 0, 1) := by decide +kernel
theorem dX9_insert_16 : decode cX9_insert 16 = .ok (.iload 4, 2) := by decide +kernel
theorem dX9_insert_18 : decode cX9_insert 18 = .ok (.iconst 1, 1) := by decide +kernel
theorem dX9_insert_19 : decode cX9_insert 19 = .ok (.isub, 1) := by decide +kernel
theorem dX9_insert_20 : decode cX9_insert 20 = .ok (.iconst 0, 1) := by decide +kernel
theorem dX9_insert_21 : decode cX9_insert 21 = .ok (.invokevirtual 55, 3) := by decide +kernel
theorem dX9_insert_24 : decode cX9_insert 24 = .ok (.iload_n 1, 1) := by decide +kernel
theorem dX9_insert_25 : decode cX9_insert 25 = .ok (.if_icmp .le 42, 3) := by decide +kernel
theorem dX9_insert_28 : decode cX9_insert 28 = .ok (.aload_n 0, 1) := by decide +kernel
theorem dX9_insert_29 : decode cX9_insert 29 = .ok (.iload 4, 2) := by decide +kernel
theorem dX9_insert_31 : decode cX9_insert 31 = .ok (.aload_n 0, 1) := by decide +kernel
theorem dX9_insert_32 : decode cX9_insert 32 = .ok (.iload 4, 2) := by decide +kernel
theorem dX9_insert_34 : decode cX9_insert 34 = .ok (.iconst 1, 1) := by decide +kernel
theorem dX9_insert_35 : decode cX9_insert 35 = .ok (.isub, 1) := by decide +kernel
theorem dX9_insert_36 : decode cX9_insert 36 = .ok (.iconst 0, 1) := by decide +kernel
theorem dX9_insert_37 : decode cX9_insert 37 = .ok (.invokevirtual 55, 3) := by decide +kernel
theorem dX9_insert_40 : decode cX9_insert 40 = .ok (.aload_n 0, 1) := by decide +kernel
theorem dX9_insert_41 : decode cX9_insert 41 = .ok (.iload 4, 2) := by decide +kernel
theorem dX9_insert_43 : decode cX9_insert 43 = .ok (.iconst 1, 1) := by decide +kernel
theorem dX9_insert_44 : decode cX9_insert 44 = .ok (.isub, 1) := by decide +kernel
theorem dX9_insert_45 : decode cX9_insert 45 = .ok (.iconst 1, 1) := by decide +kernel
theorem dX9_insert_46 : decode cX9_insert 46 = .ok (.invokevirtual 55, 3) := by decide +kernel
theorem dX9_insert_49 : decode cX9_insert 49 = .ok (.aload_n 0, 1) := by decide +kernel
theorem dX9_insert_50 : decode cX9_insert 50 = .ok (.iload 4, 2) := by decide +kernel
theorem dX9_insert_52 : decode cX9_insert 52 = .ok (.iconst 1, 1) := by decide +kernel
theorem dX9_insert_53 : decode cX9_insert 53 = .ok (.isub, 1) := by decide +kernel
theorem dX9_insert_54 : decode cX9_insert 54 = .ok (.iconst 2, 1) := by decide +kernel
theorem dX9_insert_55 : decode cX9_insert 55 = .ok (.invokevirtual 55, 3) := by decide +kernel
theorem dX9_insert_58 : decode cX9_insert 58 = .ok (.invokevirtual 58, 3) := by decide +kernel
theorem dX9_insert_61 : decode cX9_insert 61 = .ok (.iinc 4 (-1), 3) := by decide +kernel
theorem dX9_insert_64 : decode cX9_insert 64 = .ok (.goto (-54), 3) := by decide +kernel
theorem dX9_insert_67 : decode cX9_insert 67 = .ok (.aload_n 0, 1) := by decide +kernel
theorem dX9_insert_68 : decode cX9_insert 68 = .ok (.iload 4, 2) := by decide +kernel
theorem dX9_insert_70 : decode cX9_insert 70 = .ok (.iload_n 1, 1) := by decide +kernel
theorem dX9_insert_71 : decode cX9_insert 71 = .ok (.iload_n 2, 1) := by decide +kernel
theorem dX9_insert_72 : decode cX9_insert 72 = .ok (.iload_n 3, 1) := by decide +kernel
theorem dX9_insert_73 : decode cX9_insert 73 = .ok (.invokevirtual 58, 3) := by decide +kernel
theorem dX9_insert_76 : decode cX9_insert 76 = .ok (.aload_n 0, 1) := by decide +kernel
theorem dX9_insert_77 : decode cX9_insert 77 = .ok (.getfield 7, 3) := by decide +kernel
theorem dX9_insert_80 : decode cX9_insert 80 = .ok (.sipush 940, 3) := by decide +kernel
theorem dX9_insert_83 : decode cX9_insert 83 = .ok (.dup2, 1) := by decide +kernel
theorem dX9_insert_84 : decode cX9_insert 84 = .ok (.iaload, 1) := by decide +kernel
theorem dX9_insert_85 : decode cX9_insert 85 = .ok (.iconst 1, 1) := by decide +kernel
theorem dX9_insert_86 : decode cX9_insert 86 = .ok (.iadd, 1) := by decide +kernel
theorem dX9_insert_87 : decode cX9_insert 87 = .ok (.iastore, 1) := by decide +kernel
theorem dX9_insert_88 : decode cX9_insert 88 = .ok (.iload 4, 2) := by decide +kernel
theorem dX9_insert_90 : decode cX9_insert 90 = .ok (.ireturn, 1) := by decide +kernel
theorem dX9_takeOut_0 : decode cX9_takeOut 0 = .ok (.aload_n 0, 1) := by decide +kernel
theorem dX9_takeOut_1 : decode cX9_takeOut 1 = .ok (.getfield 7, 3) := by decide +kernel
theorem dX9_takeOut_4 : decode cX9_takeOut 4 = .ok (.sipush 940, 3) := by decide +kernel
theorem dX9_takeOut_7 : decode cX9_takeOut 7 = .ok (.dup2, 1) := by decide +kernel
theorem dX9_takeOut_8 : decode cX9_takeOut 8 = .ok (.iaload, 1) := by decide +kernel
theorem dX9_takeOut_9 : decode cX9_takeOut 9 = .ok (.iconst 1, 1) := by decide +kernel
theorem dX9_takeOut_10 : decode cX9_takeOut 10 = .ok (.isub, 1) := by decide +kernel
theorem dX9_takeOut_11 : decode cX9_takeOut 11 = .ok (.iastore, 1) := by decide +kernel
theorem dX9_takeOut_12 : decode cX9_takeOut 12 = .ok (.iload_n 1, 1) := by decide +kernel
theorem dX9_takeOut_13 : decode cX9_takeOut 13 = .ok (.istore_n 2, 1) := by decide +kernel
theorem dX9_takeOut_14 : decode cX9_takeOut 14 = .ok (.iload_n 2, 1) := by decide +kernel
theorem dX9_takeOut_15 : decode cX9_takeOut 15 = .ok (.aload_n 0, 1) := by decide +kernel
theorem dX9_takeOut_16 : decode cX9_takeOut 16 = .ok (.getfield 7, 3) := by decide +kernel
theorem dX9_takeOut_19 : decode cX9_takeOut 19 = .ok (.sipush 940, 3) := by decide +kernel
theorem dX9_takeOut_22 : decode cX9_takeOut 22 = .ok (.iaload, 1) := by decide +kernel
theorem dX9_takeOut_23 : decode cX9_takeOut 23 = .ok (.if_icmp .ge 38, 3) := by decide +kernel
theorem dX9_takeOut_26 : decode cX9_takeOut 26 = .ok (.aload_n 0, 1) := by decide +kernel
theorem dX9_takeOut_27 : decode cX9_takeOut 27 = .ok (.iload_n 2, 1) := by decide +kernel
theorem dX9_takeOut_28 : decode cX9_takeOut 28 = .ok (.aload_n 0, 1) := by decide +kernel
theorem dX9_takeOut_29 : decode cX9_takeOut 29 = .ok (.iload_n 2, 1) := by decide +kernel
theorem dX9_takeOut_30 : decode cX9_takeOut 30 = .ok (.iconst 1, 1) := by decide +kernel
theorem dX9_takeOut_31 : decode cX9_takeOut 31 = .ok (.iadd, 1) := by decide +kernel
theorem dX9_takeOut_32 : decode cX9_takeOut 32 = .ok (.iconst 0, 1) := by decide +kernel
theorem dX9_takeOut_33 : decode cX9_takeOut 33 = .ok (.invokevirtual 55, 3) := by decide +kernel
theorem dX9_takeOut_36 : decode cX9_takeOut 36 = .ok (.aload_n 0, 1) := by decide +kernel
theorem dX9_takeOut_37 : decode cX9_takeOut 37 = .ok (.iload_n 2, 1) := by decide +kernel
theorem dX9_takeOut_38 : decode cX9_takeOut 38 = .ok (.iconst 1, 1) := by decide +kernel
theorem dX9_takeOut_39 : decode cX9_takeOut 39 = .ok (.iadd, 1) := by decide +kernel
theorem dX9_takeOut_40 : decode cX9_takeOut 40 = .ok (.iconst 1, 1) := by decide +kernel
theorem dX9_takeOut_41 : decode cX9_takeOut 41 = .ok (.invokevirtual 55, 3) := by decide +kernel
theorem dX9_takeOut_44 : decode cX9_takeOut 44 = .ok (.aload_n 0, 1) := by decide +kernel
theorem dX9_takeOut_45 : decode cX9_takeOut 45 = .ok (.iload_n 2, 1) := by decide +kernel
theorem dX9_takeOut_46 : decode cX9_takeOut 46 = .ok (.iconst 1, 1) := by decide +kernel
theorem dX9_takeOut_47 : decode cX9_takeOut 47 = .ok (.iadd, 1) := by decide +kernel
theorem dX9_takeOut_48 : decode cX9_takeOut 48 = .ok (.iconst 2, 1) := by decide +kernel
theorem dX9_takeOut_49 : decode cX9_takeOut 49 = .ok (.invokevirtual 55, 3) := by decide +kernel
theorem dX9_takeOut_52 : decode cX9_takeOut 52 = .ok (.invokevirtual 58, 3) := by decide +kernel
theorem dX9_takeOut_55 : decode cX9_takeOut 55 = .ok (.iinc 2 1, 3) := by decide +kernel
theorem dX9_takeOut_58 : decode cX9_takeOut 58 = .ok (.goto (-44), 3) := by decide +kernel
theorem dX9_takeOut_61 : decode cX9_takeOut 61 = .ok (.return_, 1) := by decide +kernel
theorem dX9_isCommand_0 : decode cX9_isCommand 0 = .ok (.iload_n 0, 1) := by decide +kernel
theorem dX9_isCommand_1 : decode cX9_isCommand 1 = .ok (.iconst 1, 1) := by decide +kernel
theorem dX9_isCommand_2 : decode cX9_isCommand 2 = .ok (.sipush 4095, 3) := by decide +kernel
theorem dX9_isCommand_5 : decode cX9_isCommand 5 = .ok (.invokestatic 33, 3) := by decide +kernel
theorem dX9_isCommand_8 : decode cX9_isCommand 8 = .ok (.ifCond .eq 18, 3) := by decide +kernel
theorem dX9_isCommand_11 : decode cX9_isCommand 11 = .ok (.iload_n 1, 1) := by decide +kernel
theorem dX9_isCommand_12 : decode cX9_isCommand 12 = .ok (.iconst 0, 1) := by decide +kernel
theorem dX9_isCommand_13 : decode cX9_isCommand 13 = .ok (.sipush 1000, 3) := by decide +kernel
theorem dX9_isCommand_16 : decode cX9_isCommand 16 = .ok (.invokestatic 33, 3) := by decide +kernel
theorem dX9_isCommand_19 : decode cX9_isCommand 19 = .ok (.ifCond .eq 7, 3) := by decide +kernel
theorem dX9_isCommand_22 : decode cX9_isCommand 22 = .ok (.iconst 1, 1) := by decide +kernel
theorem dX9_isCommand_23 : decode cX9_isCommand 23 = .ok (.goto 4, 3) := by decide +kernel
theorem dX9_isCommand_26 : decode cX9_isCommand 26 = .ok (.iconst 0, 1) := by decide +kernel
theorem dX9_isCommand_27 : decode cX9_isCommand 27 = .ok (.ireturn, 1) := by decide +kernel
theorem dX9_cue_0 : decode cX9_cue 0 = .ok (.iload_n 1, 1) := by decide +kernel
theorem dX9_cue_1 : decode cX9_cue 1 = .ok (.iconst 0, 1) := by decide +kernel
theorem dX9_cue_2 : decode cX9_cue 2 = .ok (.ldc 62, 2) := by decide +kernel
theorem dX9_cue_4 : decode cX9_cue 4 = .ok (.invokestatic 33, 3) := by decide +kernel
theorem dX9_cue_7 : decode cX9_cue 7 = .ok (.ifCond .eq 11, 3) := by decide +kernel
theorem dX9_cue_10 : decode cX9_cue 10 = .ok (.iload_n 2, 1) := by decide +kernel
theorem dX9_cue_11 : decode cX9_cue 11 = .ok (.iload_n 3, 1) := by decide +kernel
theorem dX9_cue_12 : decode cX9_cue 12 = .ok (.invokestatic 63, 3) := by decide +kernel
theorem dX9_cue_15 : decode cX9_cue 15 = .ok (.ifCond .ne 6, 3) := by decide +kernel
theorem dX9_cue_18 : decode cX9_cue 18 = .ok (.bipush (-2), 2) := by decide +kernel
theorem dX9_cue_20 : decode cX9_cue 20 = .ok (.ireturn, 1) := by decide +kernel
theorem dX9_cue_21 : decode cX9_cue 21 = .ok (.aload_n 0, 1) := by decide +kernel
theorem dX9_cue_22 : decode cX9_cue 22 = .ok (.getfield 7, 3) := by decide +kernel
theorem dX9_cue_25 : decode cX9_cue 25 = .ok (.sipush 940, 3) := by decide +kernel
theorem dX9_cue_28 : decode cX9_cue 28 = .ok (.iaload, 1) := by decide +kernel
theorem dX9_cue_29 : decode cX9_cue 29 = .ok (.bipush 60, 2) := by decide +kernel
theorem dX9_cue_31 : decode cX9_cue 31 = .ok (.if_icmp .ne 8, 3) := by decide +kernel
theorem dX9_cue_34 : decode cX9_cue 34 = .ok (.bipush (-4), 2) := by decide +kernel
theorem dX9_cue_36 : decode cX9_cue 36 = .ok (.goto 10, 3) := by decide +kernel
theorem dX9_cue_39 : decode cX9_cue 39 = .ok (.aload_n 0, 1) := by decide +kernel
theorem dX9_cue_40 : decode cX9_cue 40 = .ok (.iload_n 1, 1) := by decide +kernel
theorem dX9_cue_41 : decode cX9_cue 41 = .ok (.iload_n 2, 1) := by decide +kernel
theorem dX9_cue_42 : decode cX9_cue 42 = .ok (.iload_n 3, 1) := by decide +kernel
theorem dX9_cue_43 : decode cX9_cue 43 = .ok (.invokevirtual 66, 3) := by decide +kernel
theorem dX9_cue_46 : decode cX9_cue 46 = .ok (.ireturn, 1) := by decide +kernel
theorem dX9_isCue_0 : decode cX9_isCue 0 = .ok (.iload_n 1, 1) := by decide +kernel
theorem dX9_isCue_1 : decode cX9_isCue 1 = .ok (.iconst 0, 1) := by decide +kernel
theorem dX9_isCue_2 : decode cX9_isCue 2 = .ok (.aload_n 0, 1) := by decide +kernel
theorem dX9_isCue_3 : decode cX9_isCue 3 = .ok (.getfield 7, 3) := by decide +kernel
theorem dX9_isCue_6 : decode cX9_isCue 6 = .ok (.sipush 940, 3) := by decide +kernel
theorem dX9_isCue_9 : decode cX9_isCue 9 = .ok (.iaload, 1) := by decide +kernel
theorem dX9_isCue_10 : decode cX9_isCue 10 = .ok (.iconst 1, 1) := by decide +kernel
theorem dX9_isCue_11 : decode cX9_isCue 11 = .ok (.isub, 1) := by decide +kernel
theorem dX9_isCue_12 : decode cX9_isCue 12 = .ok (.invokestatic 33, 3) := by decide +kernel
theorem dX9_isCue_15 : decode cX9_isCue 15 = .ok (.ireturn, 1) := by decide +kernel
theorem dX9_remove_0 : decode cX9_remove 0 = .ok (.aload_n 0, 1) := by decide +kernel
theorem dX9_remove_1 : decode cX9_remove 1 = .ok (.iload_n 1, 1) := by decide +kernel
theorem dX9_remove_2 : decode cX9_remove 2 = .ok (.invokevirtual 70, 3) := by decide +kernel
theorem dX9_remove_5 : decode cX9_remove 5 = .ok (.ifCond .ne 5, 3) := by decide +kernel
theorem dX9_remove_8 : decode cX9_remove 8 = .ok (.iconst (-1), 1) := by decide +kernel
theorem dX9_remove_9 : decode cX9_remove 9 = .ok (.ireturn, 1) := by decide +kernel
theorem dX9_remove_10 : decode cX9_remove 10 = .ok (.aload_n 0, 1) := by decide +kernel
theorem dX9_remove_11 : decode cX9_remove 11 = .ok (.iload_n 1, 1) := by decide +kernel
theorem dX9_remove_12 : decode cX9_remove 12 = .ok (.invokevirtual 73, 3) := by decide +kernel
theorem dX9_remove_15 : decode cX9_remove 15 = .ok (.aload_n 0, 1) := by decide +kernel
theorem dX9_remove_16 : decode cX9_remove 16 = .ok (.getfield 7, 3) := by decide +kernel
theorem dX9_remove_19 : decode cX9_remove 19 = .ok (.sipush 940, 3) := by decide +kernel
theorem dX9_remove_22 : decode cX9_remove 22 = .ok (.iaload, 1) := by decide +kernel
theorem dX9_remove_23 : decode cX9_remove 23 = .ok (.ireturn, 1) := by decide +kernel
theorem dX9_shift_0 : decode cX9_shift 0 = .ok (.aload_n 0, 1) := by decide +kernel
theorem dX9_shift_1 : decode cX9_shift 1 = .ok (.iload_n 1, 1) := by decide +kernel
theorem dX9_shift_2 : decode cX9_shift 2 = .ok (.iconst 0, 1) := by decide +kernel
theorem dX9_shift_3 : decode cX9_shift 3 = .ok (.invokevirtual 55, 3) := by decide +kernel
theorem dX9_shift_6 : decode cX9_shift 6 = .ok (.iload_n 2, 1) := by decide +kernel
theorem dX9_shift_7 : decode cX9_shift 7 = .ok (.iadd, 1) := by decide +kernel
theorem dX9_shift_8 : decode cX9_shift 8 = .ok (.istore_n 3, 1) := by decide +kernel
theorem dX9_shift_9 : decode cX9_shift 9 = .ok (.aload_n 0, 1) := by decide +kernel
theorem dX9_shift_10 : decode cX9_shift 10 = .ok (.iload_n 1, 1) := by decide +kernel
theorem dX9_shift_11 : decode cX9_shift 11 = .ok (.iconst 1, 1) := by decide +kernel
theorem dX9_shift_12 : decode cX9_shift 12 = .ok (.invokevirtual 55, 3) := by decide +kernel
theorem dX9_shift_15 : decode cX9_shift 15 = .ok (.istore 4, 2) := by decide +kernel
theorem dX9_shift_17 : decode cX9_shift 17 = .ok (.aload_n 0, 1) := by decide +kernel
theorem dX9_shift_18 : decode cX9_shift 18 = .ok (.iload_n 1, 1) := by decide +kernel
theorem dX9_shift_19 : decode cX9_shift 19 = .ok (.iconst 2, 1) := by decide +kernel
theorem dX9_shift_20 : decode cX9_shift 20 = .ok (.invokevirtual 55, 3) := by decide +kernel
theorem dX9_shift_23 : decode cX9_shift 23 = .ok (.istore 5, 2) := by decide +kernel
theorem dX9_shift_25 : decode cX9_shift 25 = .ok (.aload_n 0, 1) := by decide +kernel
theorem dX9_shift_26 : decode cX9_shift 26 = .ok (.iload_n 1, 1) := by decide +kernel
theorem dX9_shift_27 : decode cX9_shift 27 = .ok (.invokevirtual 73, 3) := by decide +kernel
theorem dX9_shift_30 : decode cX9_shift 30 = .ok (.aload_n 0, 1) := by decide +kernel
theorem dX9_shift_31 : decode cX9_shift 31 = .ok (.iload_n 3, 1) := by decide +kernel
theorem dX9_shift_32 : decode cX9_shift 32 = .ok (.iload 4, 2) := by decide +kernel
theorem dX9_shift_34 : decode cX9_shift 34 = .ok (.iload 5, 2) := by decide +kernel
theorem dX9_shift_36 : decode cX9_shift 36 = .ok (.invokevirtual 66, 3) := by decide +kernel
theorem dX9_shift_39 : decode cX9_shift 39 = .ok (.ireturn, 1) := by decide +kernel
theorem dX9_move_0 : decode cX9_move 0 = .ok (.aload_n 0, 1) := by decide +kernel
theorem dX9_move_1 : decode cX9_move 1 = .ok (.iload_n 1, 1) := by decide +kernel
theorem dX9_move_2 : decode cX9_move 2 = .ok (.invokevirtual 70, 3) := by decide +kernel
theorem dX9_move_5 : decode cX9_move 5 = .ok (.ifCond .ne 5, 3) := by decide +kernel
theorem dX9_move_8 : decode cX9_move 8 = .ok (.iconst (-1), 1) := by decide +kernel
theorem dX9_move_9 : decode cX9_move 9 = .ok (.ireturn, 1) := by decide +kernel
theorem dX9_move_10 : decode cX9_move 10 = .ok (.iload_n 2, 1) := by decide +kernel
theorem dX9_move_11 : decode cX9_move 11 = .ok (.ldc 76, 2) := by decide +kernel
theorem dX9_move_13 : decode cX9_move 13 = .ok (.ldc 62, 2) := by decide +kernel
theorem dX9_move_15 : decode cX9_move 15 = .ok (.invokestatic 33, 3) := by decide +kernel
theorem dX9_move_18 : decode cX9_move 18 = .ok (.ifCond .eq 20, 3) := by decide +kernel
theorem dX9_move_21 : decode cX9_move 21 = .ok (.aload_n 0, 1) := by decide +kernel
theorem dX9_move_22 : decode cX9_move 22 = .ok (.iload_n 1, 1) := by decide +kernel
theorem dX9_move_23 : decode cX9_move 23 = .ok (.iconst 0, 1) := by decide +kernel
theorem dX9_move_24 : decode cX9_move 24 = .ok (.invokevirtual 55, 3) := by decide +kernel
theorem dX9_move_27 : decode cX9_move 27 = .ok (.iload_n 2, 1) := by decide +kernel
theorem dX9_move_28 : decode cX9_move 28 = .ok (.iadd, 1) := by decide +kernel
theorem dX9_move_29 : decode cX9_move 29 = .ok (.iconst 0, 1) := by decide +kernel
theorem dX9_move_30 : decode cX9_move 30 = .ok (.ldc 62, 2) := by decide +kernel
theorem dX9_move_32 : decode cX9_move 32 = .ok (.invokestatic 33, 3) := by decide +kernel
theorem dX9_move_35 : decode cX9_move 35 = .ok (.ifCond .ne 6, 3) := by decide +kernel
theorem dX9_move_38 : decode cX9_move 38 = .ok (.bipush (-2), 2) := by decide +kernel
theorem dX9_move_40 : decode cX9_move 40 = .ok (.ireturn, 1) := by decide +kernel
theorem dX9_move_41 : decode cX9_move 41 = .ok (.aload_n 0, 1) := by decide +kernel
theorem dX9_move_42 : decode cX9_move 42 = .ok (.iload_n 1, 1) := by decide +kernel
theorem dX9_move_43 : decode cX9_move 43 = .ok (.iload_n 2, 1) := by decide +kernel
theorem dX9_move_44 : decode cX9_move 44 = .ok (.invokevirtual 77, 3) := by decide +kernel
theorem dX9_move_47 : decode cX9_move 47 = .ok (.ireturn, 1) := by decide +kernel
theorem dX9_part_0 : decode cX9_part 0 = .ok (.aload_n 0, 1) := by decide +kernel
theorem dX9_part_1 : decode cX9_part 1 = .ok (.iload_n 1, 1) := by decide +kernel
theorem dX9_part_2 : decode cX9_part 2 = .ok (.invokevirtual 70, 3) := by decide +kernel
theorem dX9_part_5 : decode cX9_part 5 = .ok (.ifCond .ne 5, 3) := by decide +kernel
theorem dX9_part_8 : decode cX9_part 8 = .ok (.iconst (-1), 1) := by decide +kernel
theorem dX9_part_9 : decode cX9_part 9 = .ok (.ireturn, 1) := by decide +kernel
theorem dX9_part_10 : decode cX9_part 10 = .ok (.iload_n 2, 1) := by decide +kernel
theorem dX9_part_11 : decode cX9_part 11 = .ok (.iconst 0, 1) := by decide +kernel
theorem dX9_part_12 : decode cX9_part 12 = .ok (.iconst 2, 1) := by decide +kernel
theorem dX9_part_13 : decode cX9_part 13 = .ok (.invokestatic 33, 3) := by decide +kernel
theorem dX9_part_16 : decode cX9_part 16 = .ok (.ifCond .eq 12, 3) := by decide +kernel
theorem dX9_part_19 : decode cX9_part 19 = .ok (.aload_n 0, 1) := by decide +kernel
theorem dX9_part_20 : decode cX9_part 20 = .ok (.iload_n 1, 1) := by decide +kernel
theorem dX9_part_21 : decode cX9_part 21 = .ok (.iload_n 2, 1) := by decide +kernel
theorem dX9_part_22 : decode cX9_part 22 = .ok (.invokevirtual 55, 3) := by decide +kernel
theorem dX9_part_25 : decode cX9_part 25 = .ok (.goto 5, 3) := by decide +kernel
theorem dX9_part_28 : decode cX9_part 28 = .ok (.bipush (-2), 2) := by decide +kernel
theorem dX9_part_30 : decode cX9_part 30 = .ok (.ireturn, 1) := by decide +kernel
theorem dX9_carryOut_0 : decode cX9_carryOut 0 = .ok (.iconst 0, 1) := by decide +kernel
theorem dX9_carryOut_1 : decode cX9_carryOut 1 = .ok (.istore_n 3, 1) := by decide +kernel
theorem dX9_carryOut_2 : decode cX9_carryOut 2 = .ok (.iload_n 3, 1) := by decide +kernel
theorem dX9_carryOut_3 : decode cX9_carryOut 3 = .ok (.aload_n 0, 1) := by decide +kernel
theorem dX9_carryOut_4 : decode cX9_carryOut 4 = .ok (.getfield 7, 3) := by decide +kernel
theorem dX9_carryOut_7 : decode cX9_carryOut 7 = .ok (.sipush 938, 3) := by decide +kernel
theorem dX9_carryOut_10 : decode cX9_carryOut 10 = .ok (.iaload, 1) := by decide +kernel
theorem dX9_carryOut_11 : decode cX9_carryOut 11 = .ok (.if_icmp .ge 46, 3) := by decide +kernel
theorem dX9_carryOut_14 : decode cX9_carryOut 14 = .ok (.aload_n 0, 1) := by decide +kernel
theorem dX9_carryOut_15 : decode cX9_carryOut 15 = .ok (.getfield 7, 3) := by decide +kernel
theorem dX9_carryOut_18 : decode cX9_carryOut 18 = .ok (.bipush 12, 2) := by decide +kernel
theorem dX9_carryOut_20 : decode cX9_carryOut 20 = .ok (.iload_n 3, 1) := by decide +kernel
theorem dX9_carryOut_21 : decode cX9_carryOut 21 = .ok (.imul, 1) := by decide +kernel
theorem dX9_carryOut_22 : decode cX9_carryOut 22 = .ok (.bipush 6, 2) := by decide +kernel
theorem dX9_carryOut_24 : decode cX9_carryOut 24 = .ok (.iadd, 1) := by decide +kernel
theorem dX9_carryOut_25 : decode cX9_carryOut 25 = .ok (.iload_n 1, 1) := by decide +kernel
theorem dX9_carryOut_26 : decode cX9_carryOut 26 = .ok (.iload_n 3, 1) := by decide +kernel
theorem dX9_carryOut_27 : decode cX9_carryOut 27 = .ok (.ishr, 1) := by decide +kernel
theorem dX9_carryOut_28 : decode cX9_carryOut 28 = .ok (.iconst 1, 1) := by decide +kernel
theorem dX9_carryOut_29 : decode cX9_carryOut 29 = .ok (.iand, 1) := by decide +kernel
theorem dX9_carryOut_30 : decode cX9_carryOut 30 = .ok (.iconst 1, 1) := by decide +kernel
theorem dX9_carryOut_31 : decode cX9_carryOut 31 = .ok (.if_icmp .ne 7, 3) := by decide +kernel
theorem dX9_carryOut_34 : decode cX9_carryOut 34 = .ok (.iload_n 2, 1) := by decide +kernel
theorem dX9_carryOut_35 : decode cX9_carryOut 35 = .ok (.goto 15, 3) := by decide +kernel
theorem dX9_carryOut_38 : decode cX9_carryOut 38 = .ok (.aload_n 0, 1) := by decide +kernel
theorem dX9_carryOut_39 : decode cX9_carryOut 39 = .ok (.getfield 7, 3) := by decide +kernel
theorem dX9_carryOut_42 : decode cX9_carryOut 42 = .ok (.bipush 12, 2) := by decide +kernel
theorem dX9_carryOut_44 : decode cX9_carryOut 44 = .ok (.iload_n 3, 1) := by decide +kernel
theorem dX9_carryOut_45 : decode cX9_carryOut 45 = .ok (.imul, 1) := by decide +kernel
theorem dX9_carryOut_46 : decode cX9_carryOut 46 = .ok (.bipush 6, 2) := by decide +kernel
theorem dX9_carryOut_48 : decode cX9_carryOut 48 = .ok (.iadd, 1) := by decide +kernel
theorem dX9_carryOut_49 : decode cX9_carryOut 49 = .ok (.iaload, 1) := by decide +kernel
theorem dX9_carryOut_50 : decode cX9_carryOut 50 = .ok (.iastore, 1) := by decide +kernel
theorem dX9_carryOut_51 : decode cX9_carryOut 51 = .ok (.iinc 3 1, 3) := by decide +kernel
theorem dX9_carryOut_54 : decode cX9_carryOut 54 = .ok (.goto (-52), 3) := by decide +kernel
theorem dX9_carryOut_57 : decode cX9_carryOut 57 = .ok (.return_, 1) := by decide +kernel
theorem dX9_toward_0 : decode cX9_toward 0 = .ok (.iload_n 0, 1) := by decide +kernel
theorem dX9_toward_1 : decode cX9_toward 1 = .ok (.iload_n 1, 1) := by decide +kernel
theorem dX9_toward_2 : decode cX9_toward 2 = .ok (.if_icmp .ge 20, 3) := by decide +kernel
theorem dX9_toward_5 : decode cX9_toward 5 = .ok (.iload_n 0, 1) := by decide +kernel
theorem dX9_toward_6 : decode cX9_toward 6 = .ok (.iload_n 2, 1) := by decide +kernel
theorem dX9_toward_7 : decode cX9_toward 7 = .ok (.iadd, 1) := by decide +kernel
theorem dX9_toward_8 : decode cX9_toward 8 = .ok (.iload_n 1, 1) := by decide +kernel
theorem dX9_toward_9 : decode cX9_toward 9 = .ok (.if_icmp .ge 9, 3) := by decide +kernel
theorem dX9_toward_12 : decode cX9_toward 12 = .ok (.iload_n 0, 1) := by decide +kernel
theorem dX9_toward_13 : decode cX9_toward 13 = .ok (.iload_n 2, 1) := by decide +kernel
theorem dX9_toward_14 : decode cX9_toward 14 = .ok (.iadd, 1) := by decide +kernel
theorem dX9_toward_15 : decode cX9_toward 15 = .ok (.goto 21, 3) := by decide +kernel
theorem dX9_toward_18 : decode cX9_toward 18 = .ok (.iload_n 1, 1) := by decide +kernel
theorem dX9_toward_19 : decode cX9_toward 19 = .ok (.goto 17, 3) := by decide +kernel
theorem dX9_toward_22 : decode cX9_toward 22 = .ok (.iload_n 0, 1) := by decide +kernel
theorem dX9_toward_23 : decode cX9_toward 23 = .ok (.iload_n 2, 1) := by decide +kernel
theorem dX9_toward_24 : decode cX9_toward 24 = .ok (.isub, 1) := by decide +kernel
theorem dX9_toward_25 : decode cX9_toward 25 = .ok (.iload_n 1, 1) := by decide +kernel
theorem dX9_toward_26 : decode cX9_toward 26 = .ok (.if_icmp .le 9, 3) := by decide +kernel
theorem dX9_toward_29 : decode cX9_toward 29 = .ok (.iload_n 0, 1) := by decide +kernel
theorem dX9_toward_30 : decode cX9_toward 30 = .ok (.iload_n 2, 1) := by decide +kernel
theorem dX9_toward_31 : decode cX9_toward 31 = .ok (.isub, 1) := by decide +kernel
theorem dX9_toward_32 : decode cX9_toward 32 = .ok (.goto 4, 3) := by decide +kernel
theorem dX9_toward_35 : decode cX9_toward 35 = .ok (.iload_n 1, 1) := by decide +kernel
theorem dX9_toward_36 : decode cX9_toward 36 = .ok (.ireturn, 1) := by decide +kernel
theorem dX9_stepWind_0 : decode cX9_stepWind 0 = .ok (.sipush 1024, 3) := by decide +kernel
theorem dX9_stepWind_3 : decode cX9_stepWind 3 = .ok (.aload_n 0, 1) := by decide +kernel
theorem dX9_stepWind_4 : decode cX9_stepWind 4 = .ok (.getfield 7, 3) := by decide +kernel
theorem dX9_stepWind_7 : decode cX9_stepWind 7 = .ok (.sipush 933, 3) := by decide +kernel
theorem dX9_stepWind_10 : decode cX9_stepWind 10 = .ok (.iaload, 1) := by decide +kernel
theorem dX9_stepWind_11 : decode cX9_stepWind 11 = .ok (.imul, 1) := by decide +kernel
theorem dX9_stepWind_12 : decode cX9_stepWind 12 = .ok (.aload_n 0, 1) := by decide +kernel
theorem dX9_stepWind_13 : decode cX9_stepWind 13 = .ok (.getfield 7, 3) := by decide +kernel
theorem dX9_stepWind_16 : decode cX9_stepWind 16 = .ok (.sipush 934, 3) := by decide +kernel
theorem dX9_stepWind_19 : decode cX9_stepWind 19 = .ok (.iaload, 1) := by decide +kernel
theorem dX9_stepWind_20 : decode cX9_stepWind 20 = .ok (.isub, 1) := by decide +kernel
theorem dX9_stepWind_21 : decode cX9_stepWind 21 = .ok (.istore_n 1, 1) := by decide +kernel
theorem dX9_stepWind_22 : decode cX9_stepWind 22 = .ok (.iload_n 1, 1) := by decide +kernel
theorem dX9_stepWind_23 : decode cX9_stepWind 23 = .ok (.aload_n 0, 1) := by decide +kernel
theorem dX9_stepWind_24 : decode cX9_stepWind 24 = .ok (.getfield 7, 3) := by decide +kernel
theorem dX9_stepWind_27 : decode cX9_stepWind 27 = .ok (.sipush 927, 3) := by decide +kernel
theorem dX9_stepWind_30 : decode cX9_stepWind 30 = .ok (.iaload, 1) := by decide +kernel
theorem dX9_stepWind_31 : decode cX9_stepWind 31 = .ok (.idiv, 1) := by decide +kernel
theorem dX9_stepWind_32 : decode cX9_stepWind 32 = .ok (.iload_n 1, 1) := by decide +kernel
theorem dX9_stepWind_33 : decode cX9_stepWind 33 = .ok (.ifCond .ge 20, 3) := by decide +kernel
theorem dX9_stepWind_36 : decode cX9_stepWind 36 = .ok (.iload_n 1, 1) := by decide +kernel
theorem dX9_stepWind_37 : decode cX9_stepWind 37 = .ok (.aload_n 0, 1) := by decide +kernel
theorem dX9_stepWind_38 : decode cX9_stepWind 38 = .ok (.getfield 7, 3) := by decide +kernel
theorem dX9_stepWind_41 : decode cX9_stepWind 41 = .ok (.sipush 927, 3) := by decide +kernel
theorem dX9_stepWind_44 : decode cX9_stepWind 44 = .ok (.iaload, 1) := by decide +kernel
theorem dX9_stepWind_45 : decode cX9_stepWind 45 = .ok (.irem, 1) := by decide +kernel
theorem dX9_stepWind_46 : decode cX9_stepWind 46 = .ok (.ifCond .eq 7, 3) := by decide +kernel
theorem dX9_stepWind_49 : decode cX9_stepWind 49 = .ok (.iconst 1, 1) := by decide +kernel
theorem dX9_stepWind_50 : decode cX9_stepWind 50 = .ok (.goto 4, 3) := by decide +kernel
theorem dX9_stepWind_53 : decode cX9_stepWind 53 = .ok (.iconst 0, 1) := by decide +kernel
theorem dX9_stepWind_54 : decode cX9_stepWind 54 = .ok (.isub, 1) := by decide +kernel
theorem dX9_stepWind_55 : decode cX9_stepWind 55 = .ok (.istore_n 2, 1) := by decide +kernel
theorem dX9_stepWind_56 : decode cX9_stepWind 56 = .ok (.aload_n 0, 1) := by decide +kernel
theorem dX9_stepWind_57 : decode cX9_stepWind 57 = .ok (.getfield 7, 3) := by decide +kernel
theorem dX9_stepWind_60 : decode cX9_stepWind 60 = .ok (.sipush 934, 3) := by decide +kernel
theorem dX9_stepWind_63 : decode cX9_stepWind 63 = .ok (.dup2, 1) := by decide +kernel
theorem dX9_stepWind_64 : decode cX9_stepWind 64 = .ok (.iaload, 1) := by decide +kernel
theorem dX9_stepWind_65 : decode cX9_stepWind 65 = .ok (.iload_n 2, 1) := by decide +kernel
theorem dX9_stepWind_66 : decode cX9_stepWind 66 = .ok (.iadd, 1) := by decide +kernel
theorem dX9_stepWind_67 : decode cX9_stepWind 67 = .ok (.iastore, 1) := by decide +kernel
theorem dX9_stepWind_68 : decode cX9_stepWind 68 = .ok (.aload_n 0, 1) := by decide +kernel
theorem dX9_stepWind_69 : decode cX9_stepWind 69 = .ok (.getfield 7, 3) := by decide +kernel
theorem dX9_stepWind_72 : decode cX9_stepWind 72 = .ok (.sipush 934, 3) := by decide +kernel
theorem dX9_stepWind_75 : decode cX9_stepWind 75 = .ok (.iaload, 1) := by decide +kernel
theorem dX9_stepWind_76 : decode cX9_stepWind 76 = .ok (.sipush 1024, 3) := by decide +kernel
theorem dX9_stepWind_79 : decode cX9_stepWind 79 = .ok (.idiv, 1) := by decide +kernel
theorem dX9_stepWind_80 : decode cX9_stepWind 80 = .ok (.istore_n 3, 1) := by decide +kernel
theorem dX9_stepWind_81 : decode cX9_stepWind 81 = .ok (.aload_n 0, 1) := by decide +kernel
theorem dX9_stepWind_82 : decode cX9_stepWind 82 = .ok (.getfield 7, 3) := by decide +kernel
theorem dX9_stepWind_85 : decode cX9_stepWind 85 = .ok (.sipush 935, 3) := by decide +kernel
theorem dX9_stepWind_88 : decode cX9_stepWind 88 = .ok (.iaload, 1) := by decide +kernel
theorem dX9_stepWind_89 : decode cX9_stepWind 89 = .ok (.iconst 2, 1) := by decide +kernel
theorem dX9_stepWind_90 : decode cX9_stepWind 90 = .ok (.if_icmp .ne 18, 3) := by decide +kernel
theorem dX9_stepWind_93 : decode cX9_stepWind 93 = .ok (.iload_n 3, 1) := by decide +kernel
theorem dX9_stepWind_94 : decode cX9_stepWind 94 = .ok (.aload_n 0, 1) := by decide +kernel
theorem dX9_stepWind_95 : decode cX9_stepWind 95 = .ok (.getfield 7, 3) := by decide +kernel
theorem dX9_stepWind_98 : decode cX9_stepWind 98 = .ok (.sipush 929, 3) := by decide +kernel
theorem dX9_stepWind_101 : decode cX9_stepWind 101 = .ok (.iaload, 1) := by decide +kernel
theorem dX9_stepWind_102 : decode cX9_stepWind 102 = .ok (.bipush 10, 2) := by decide +kernel
theorem dX9_stepWind_104 : decode cX9_stepWind 104 = .ok (.isub, 1) := by decide +kernel
theorem dX9_stepWind_105 : decode cX9_stepWind 105 = .ok (.if_icmp .lt 30, 3) := by decide +kernel
theorem dX9_stepWind_108 : decode cX9_stepWind 108 = .ok (.aload_n 0, 1) := by decide +kernel
theorem dX9_stepWind_109 : decode cX9_stepWind 109 = .ok (.getfield 7, 3) := by decide +kernel
theorem dX9_stepWind_112 : decode cX9_stepWind 112 = .ok (.sipush 935, 3) := by decide +kernel
theorem dX9_stepWind_115 : decode cX9_stepWind 115 = .ok (.iaload, 1) := by decide +kernel
theorem dX9_stepWind_116 : decode cX9_stepWind 116 = .ok (.iconst 1, 1) := by decide +kernel
theorem dX9_stepWind_117 : decode cX9_stepWind 117 = .ok (.if_icmp .ne 22, 3) := by decide +kernel
theorem dX9_stepWind_120 : decode cX9_stepWind 120 = .ok (.iload_n 3, 1) := by decide +kernel
theorem dX9_stepWind_121 : decode cX9_stepWind 121 = .ok (.aload_n 0, 1) := by decide +kernel
theorem dX9_stepWind_122 : decode cX9_stepWind 122 = .ok (.getfield 7, 3) := by decide +kernel
theorem dX9_stepWind_125 : decode cX9_stepWind 125 = .ok (.sipush 928, 3) := by decide +kernel
theorem dX9_stepWind_128 : decode cX9_stepWind 128 = .ok (.iaload, 1) := by decide +kernel
theorem dX9_stepWind_129 : decode cX9_stepWind 129 = .ok (.bipush 10, 2) := by decide +kernel
theorem dX9_stepWind_131 : decode cX9_stepWind 131 = .ok (.isub, 1) := by decide +kernel
theorem dX9_stepWind_132 : decode cX9_stepWind 132 = .ok (.if_icmp .ge 7, 3) := by decide +kernel
theorem dX9_stepWind_135 : decode cX9_stepWind 135 = .ok (.iconst 1, 1) := by decide +kernel
theorem dX9_stepWind_136 : decode cX9_stepWind 136 = .ok (.goto 4, 3) := by decide +kernel
theorem dX9_stepWind_139 : decode cX9_stepWind 139 = .ok (.iconst 0, 1) := by decide +kernel
theorem dX9_stepWind_140 : decode cX9_stepWind 140 = .ok (.istore 4, 2) := by decide +kernel
theorem dX9_stepWind_142 : decode cX9_stepWind 142 = .ok (.iload_n 3, 1) := by decide +kernel
theorem dX9_stepWind_143 : decode cX9_stepWind 143 = .ok (.aload_n 0, 1) := by decide +kernel
theorem dX9_stepWind_144 : decode cX9_stepWind 144 = .ok (.getfield 7, 3) := by decide +kernel
theorem dX9_stepWind_147 : decode cX9_stepWind 147 = .ok (.sipush 929, 3) := by decide +kernel
theorem dX9_stepWind_150 : decode cX9_stepWind 150 = .ok (.iaload, 1) := by decide +kernel
theorem dX9_stepWind_151 : decode cX9_stepWind 151 = .ok (.if_icmp .ge 26, 3) := by decide +kernel
theorem dX9_stepWind_154 : decode cX9_stepWind 154 = .ok (.iload_n 3, 1) := by decide +kernel
theorem dX9_stepWind_155 : decode cX9_stepWind 155 = .ok (.aload_n 0, 1) := by decide +kernel
theorem dX9_stepWind_156 : decode cX9_stepWind 156 = .ok (.getfield 7, 3) := by decide +kernel
theorem dX9_stepWind_159 : decode cX9_stepWind 159 = .ok (.sipush 928, 3) := by decide +kernel
theorem dX9_stepWind_162 : decode cX9_stepWind 162 = .ok (.iaload, 1) := by decide +kernel
theorem dX9_stepWind_163 : decode cX9_stepWind 163 = .ok (.if_icmp .lt 51, 3) := by decide +kernel
theorem dX9_stepWind_166 : decode cX9_stepWind 166 = .ok (.aload_n 0, 1) := by decide +kernel
theorem dX9_stepWind_167 : decode cX9_stepWind 167 = .ok (.getfield 7, 3) := by decide +kernel
theorem dX9_stepWind_170 : decode cX9_stepWind 170 = .ok (.sipush 935, 3) := by decide +kernel
theorem dX9_stepWind_173 : decode cX9_stepWind 173 = .ok (.iaload, 1) := by decide +kernel
theorem dX9_stepWind_174 : decode cX9_stepWind 174 = .ok (.ifCond .ne 40, 3) := by decide +kernel
theorem dX9_stepWind_177 : decode cX9_stepWind 177 = .ok (.aload_n 0, 1) := by decide +kernel
theorem dX9_stepWind_178 : decode cX9_stepWind 178 = .ok (.getfield 7, 3) := by decide +kernel
theorem dX9_stepWind_181 : decode cX9_stepWind 181 = .ok (.sipush 935, 3) := by decide +kernel
theorem dX9_stepWind_184 : decode cX9_stepWind 184 = .ok (.iload_n 3, 1) := by decide +kernel
theorem dX9_stepWind_185 : decode cX9_stepWind 185 = .ok (.aload_n 0, 1) := by decide +kernel
theorem dX9_stepWind_186 : decode cX9_stepWind 186 = .ok (.getfield 7, 3) := by decide +kernel
theorem dX9_stepWind_189 : decode cX9_stepWind 189 = .ok (.sipush 929, 3) := by decide +kernel
theorem dX9_stepWind_192 : decode cX9_stepWind 192 = .ok (.iaload, 1) := by decide +kernel
theorem dX9_stepWind_193 : decode cX9_stepWind 193 = .ok (.if_icmp .lt 7, 3) := by decide +kernel
theorem dX9_stepWind_196 : decode cX9_stepWind 196 = .ok (.iconst 2, 1) := by decide +kernel
theorem dX9_stepWind_197 : decode cX9_stepWind 197 = .ok (.goto 4, 3) := by decide +kernel
theorem dX9_stepWind_200 : decode cX9_stepWind 200 = .ok (.iconst 1, 1) := by decide +kernel
theorem dX9_stepWind_201 : decode cX9_stepWind 201 = .ok (.iastore, 1) := by decide +kernel
theorem dX9_stepWind_202 : decode cX9_stepWind 202 = .ok (.aload_n 0, 1) := by decide +kernel
theorem dX9_stepWind_203 : decode cX9_stepWind 203 = .ok (.getfield 7, 3) := by decide +kernel
theorem dX9_stepWind_206 : decode cX9_stepWind 206 = .ok (.sipush 936, 3) := by decide +kernel
theorem dX9_stepWind_209 : decode cX9_stepWind 209 = .ok (.iconst 0, 1) := by decide +kernel
theorem dX9_stepWind_210 : decode cX9_stepWind 210 = .ok (.iastore, 1) := by decide +kernel
theorem dX9_stepWind_211 : decode cX9_stepWind 211 = .ok (.goto 72, 3) := by decide +kernel
theorem dX9_stepWind_214 : decode cX9_stepWind 214 = .ok (.iload 4, 2) := by decide +kernel
theorem dX9_stepWind_216 : decode cX9_stepWind 216 = .ok (.ifCond .eq 58, 3) := by decide +kernel
theorem dX9_stepWind_219 : decode cX9_stepWind 219 = .ok (.aload_n 0, 1) := by decide +kernel
theorem dX9_stepWind_220 : decode cX9_stepWind 220 = .ok (.getfield 7, 3) := by decide +kernel
theorem dX9_stepWind_223 : decode cX9_stepWind 223 = .ok (.sipush 936, 3) := by decide +kernel
theorem dX9_stepWind_226 : decode cX9_stepWind 226 = .ok (.dup2, 1) := by decide +kernel
theorem dX9_stepWind_227 : decode cX9_stepWind 227 = .ok (.iaload, 1) := by decide +kernel
theorem dX9_stepWind_228 : decode cX9_stepWind 228 = .ok (.iconst 1, 1) := by decide +kernel
theorem dX9_stepWind_229 : decode cX9_stepWind 229 = .ok (.iadd, 1) := by decide +kernel
theorem dX9_stepWind_230 : decode cX9_stepWind 230 = .ok (.iastore, 1) := by decide +kernel
theorem dX9_stepWind_231 : decode cX9_stepWind 231 = .ok (.aload_n 0, 1) := by decide +kernel
theorem dX9_stepWind_232 : decode cX9_stepWind 232 = .ok (.getfield 7, 3) := by decide +kernel
theorem dX9_stepWind_235 : decode cX9_stepWind 235 = .ok (.sipush 936, 3) := by decide +kernel
theorem dX9_stepWind_238 : decode cX9_stepWind 238 = .ok (.iaload, 1) := by decide +kernel
theorem dX9_stepWind_239 : decode cX9_stepWind 239 = .ok (.aload_n 0, 1) := by decide +kernel
theorem dX9_stepWind_240 : decode cX9_stepWind 240 = .ok (.getfield 7, 3) := by decide +kernel
theorem dX9_stepWind_243 : decode cX9_stepWind 243 = .ok (.sipush 931, 3) := by decide +kernel
theorem dX9_stepWind_246 : decode cX9_stepWind 246 = .ok (.iaload, 1) := by decide +kernel
theorem dX9_stepWind_247 : decode cX9_stepWind 247 = .ok (.if_icmp .lt 36, 3) := by decide +kernel
theorem dX9_stepWind_250 : decode cX9_stepWind 250 = .ok (.aload_n 0, 1) := by decide +kernel
theorem dX9_stepWind_251 : decode cX9_stepWind 251 = .ok (.getfield 7, 3) := by decide +kernel
theorem dX9_stepWind_254 : decode cX9_stepWind 254 = .ok (.sipush 935, 3) := by decide +kernel
theorem dX9_stepWind_257 : decode cX9_stepWind 257 = .ok (.dup2, 1) := by decide +kernel
theorem dX9_stepWind_258 : decode cX9_stepWind 258 = .ok (.iaload, 1) := by decide +kernel
theorem dX9_stepWind_259 : decode cX9_stepWind 259 = .ok (.iconst 1, 1) := by decide +kernel
theorem dX9_stepWind_260 : decode cX9_stepWind 260 = .ok (.isub, 1) := by decide +kernel
theorem dX9_stepWind_261 : decode cX9_stepWind 261 = .ok (.iastore, 1) := by decide +kernel
theorem dX9_stepWind_262 : decode cX9_stepWind 262 = .ok (.aload_n 0, 1) := by decide +kernel
theorem dX9_stepWind_263 : decode cX9_stepWind 263 = .ok (.getfield 7, 3) := by decide +kernel
theorem dX9_stepWind_266 : decode cX9_stepWind 266 = .ok (.sipush 936, 3) := by decide +kernel
theorem dX9_stepWind_269 : decode cX9_stepWind 269 = .ok (.iconst 0, 1) := by decide +kernel
theorem dX9_stepWind_270 : decode cX9_stepWind 270 = .ok (.iastore, 1) := by decide +kernel
theorem dX9_stepWind_271 : decode cX9_stepWind 271 = .ok (.goto 12, 3) := by decide +kernel
theorem dX9_stepWind_274 : decode cX9_stepWind 274 = .ok (.aload_n 0, 1) := by decide +kernel
theorem dX9_stepWind_275 : decode cX9_stepWind 275 = .ok (.getfield 7, 3) := by decide +kernel
theorem dX9_stepWind_278 : decode cX9_stepWind 278 = .ok (.sipush 936, 3) := by decide +kernel
theorem dX9_stepWind_281 : decode cX9_stepWind 281 = .ok (.iconst 0, 1) := by decide +kernel
theorem dX9_stepWind_282 : decode cX9_stepWind 282 = .ok (.iastore, 1) := by decide +kernel
theorem dX9_stepWind_283 : decode cX9_stepWind 283 = .ok (.return_, 1) := by decide +kernel
theorem dX9_goal_0 : decode cX9_goal 0 = .ok (.aload_n 0, 1) := by decide +kernel
theorem dX9_goal_1 : decode cX9_goal 1 = .ok (.getfield 7, 3) := by decide +kernel
theorem dX9_goal_4 : decode cX9_goal 4 = .ok (.sipush 937, 3) := by decide +kernel
theorem dX9_goal_7 : decode cX9_goal 7 = .ok (.iaload, 1) := by decide +kernel
theorem dX9_goal_8 : decode cX9_goal 8 = .ok (.aload_n 0, 1) := by decide +kernel
theorem dX9_goal_9 : decode cX9_goal 9 = .ok (.getfield 7, 3) := by decide +kernel
theorem dX9_goal_12 : decode cX9_goal 12 = .ok (.bipush 12, 2) := by decide +kernel
theorem dX9_goal_14 : decode cX9_goal 14 = .ok (.iload_n 1, 1) := by decide +kernel
theorem dX9_goal_15 : decode cX9_goal 15 = .ok (.imul, 1) := by decide +kernel
theorem dX9_goal_16 : decode cX9_goal 16 = .ok (.iconst 2, 1) := by decide +kernel
theorem dX9_goal_17 : decode cX9_goal 17 = .ok (.iadd, 1) := by decide +kernel
theorem dX9_goal_18 : decode cX9_goal 18 = .ok (.iaload, 1) := by decide +kernel
theorem dX9_goal_19 : decode cX9_goal 19 = .ok (.isub, 1) := by decide +kernel
theorem dX9_goal_20 : decode cX9_goal 20 = .ok (.istore_n 2, 1) := by decide +kernel
theorem dX9_goal_21 : decode cX9_goal 21 = .ok (.iload_n 2, 1) := by decide +kernel
theorem dX9_goal_22 : decode cX9_goal 22 = .ok (.ifCond .ge 7, 3) := by decide +kernel
theorem dX9_goal_25 : decode cX9_goal 25 = .ok (.iconst 0, 1) := by decide +kernel
theorem dX9_goal_26 : decode cX9_goal 26 = .ok (.goto 21, 3) := by decide +kernel
theorem dX9_goal_29 : decode cX9_goal 29 = .ok (.aload_n 0, 1) := by decide +kernel
theorem dX9_goal_30 : decode cX9_goal 30 = .ok (.getfield 7, 3) := by decide +kernel
theorem dX9_goal_33 : decode cX9_goal 33 = .ok (.sipush 144, 3) := by decide +kernel
theorem dX9_goal_36 : decode cX9_goal 36 = .ok (.bipush 64, 2) := by decide +kernel
theorem dX9_goal_38 : decode cX9_goal 38 = .ok (.iload_n 1, 1) := by decide +kernel
theorem dX9_goal_39 : decode cX9_goal 39 = .ok (.imul, 1) := by decide +kernel
theorem dX9_goal_40 : decode cX9_goal 40 = .ok (.iadd, 1) := by decide +kernel
theorem dX9_goal_41 : decode cX9_goal 41 = .ok (.iload_n 2, 1) := by decide +kernel
theorem dX9_goal_42 : decode cX9_goal 42 = .ok (.bipush 64, 2) := by decide +kernel
theorem dX9_goal_44 : decode cX9_goal 44 = .ok (.irem, 1) := by decide +kernel
theorem dX9_goal_45 : decode cX9_goal 45 = .ok (.iadd, 1) := by decide +kernel
theorem dX9_goal_46 : decode cX9_goal 46 = .ok (.iaload, 1) := by decide +kernel
theorem dX9_goal_47 : decode cX9_goal 47 = .ok (.istore_n 3, 1) := by decide +kernel
theorem dX9_goal_48 : decode cX9_goal 48 = .ok (.aload_n 0, 1) := by decide +kernel
theorem dX9_goal_49 : decode cX9_goal 49 = .ok (.getfield 7, 3) := by decide +kernel
theorem dX9_goal_52 : decode cX9_goal 52 = .ok (.sipush 935, 3) := by decide +kernel
theorem dX9_goal_55 : decode cX9_goal 55 = .ok (.iaload, 1) := by decide +kernel
theorem dX9_goal_56 : decode cX9_goal 56 = .ok (.iconst 2, 1) := by decide +kernel
theorem dX9_goal_57 : decode cX9_goal 57 = .ok (.if_icmp .ne 7, 3) := by decide +kernel
theorem dX9_goal_60 : decode cX9_goal 60 = .ok (.iconst 0, 1) := by decide +kernel
theorem dX9_goal_61 : decode cX9_goal 61 = .ok (.goto 39, 3) := by decide +kernel
theorem dX9_goal_64 : decode cX9_goal 64 = .ok (.aload_n 0, 1) := by decide +kernel
theorem dX9_goal_65 : decode cX9_goal 65 = .ok (.getfield 7, 3) := by decide +kernel
theorem dX9_goal_68 : decode cX9_goal 68 = .ok (.sipush 935, 3) := by decide +kernel
theorem dX9_goal_71 : decode cX9_goal 71 = .ok (.iaload, 1) := by decide +kernel
theorem dX9_goal_72 : decode cX9_goal 72 = .ok (.iconst 1, 1) := by decide +kernel
theorem dX9_goal_73 : decode cX9_goal 73 = .ok (.if_icmp .ne 26, 3) := by decide +kernel
theorem dX9_goal_76 : decode cX9_goal 76 = .ok (.iload_n 3, 1) := by decide +kernel
theorem dX9_goal_77 : decode cX9_goal 77 = .ok (.aload_n 0, 1) := by decide +kernel
theorem dX9_goal_78 : decode cX9_goal 78 = .ok (.getfield 7, 3) := by decide +kernel
theorem dX9_goal_81 : decode cX9_goal 81 = .ok (.sipush 930, 3) := by decide +kernel
theorem dX9_goal_84 : decode cX9_goal 84 = .ok (.iaload, 1) := by decide +kernel
theorem dX9_goal_85 : decode cX9_goal 85 = .ok (.if_icmp .le 14, 3) := by decide +kernel
theorem dX9_goal_88 : decode cX9_goal 88 = .ok (.aload_n 0, 1) := by decide +kernel
theorem dX9_goal_89 : decode cX9_goal 89 = .ok (.getfield 7, 3) := by decide +kernel
theorem dX9_goal_92 : decode cX9_goal 92 = .ok (.sipush 930, 3) := by decide +kernel
theorem dX9_goal_95 : decode cX9_goal 95 = .ok (.iaload, 1) := by decide +kernel
theorem dX9_goal_96 : decode cX9_goal 96 = .ok (.goto 4, 3) := by decide +kernel
theorem dX9_goal_99 : decode cX9_goal 99 = .ok (.iload_n 3, 1) := by decide +kernel
theorem dX9_goal_100 : decode cX9_goal 100 = .ok (.ireturn, 1) := by decide +kernel
theorem dX9_stepPump_0 : decode cX9_stepPump 0 = .ok (.sipush 912, 3) := by decide +kernel
theorem dX9_stepPump_3 : decode cX9_stepPump 3 = .ok (.iconst 5, 1) := by decide +kernel
theorem dX9_stepPump_4 : decode cX9_stepPump 4 = .ok (.iload_n 1, 1) := by decide +kernel
theorem dX9_stepPump_5 : decode cX9_stepPump 5 = .ok (.imul, 1) := by decide +kernel
theorem dX9_stepPump_6 : decode cX9_stepPump 6 = .ok (.iadd, 1) := by decide +kernel
theorem dX9_stepPump_7 : decode cX9_stepPump 7 = .ok (.istore_n 2, 1) := by decide +kernel
theorem dX9_stepPump_8 : decode cX9_stepPump 8 = .ok (.iconst 0, 1) := by decide +kernel
theorem dX9_stepPump_9 : decode cX9_stepPump 9 = .ok (.istore_n 3, 1) := by decide +kernel
theorem dX9_stepPump_10 : decode cX9_stepPump 10 = .ok (.iconst 0, 1) := by decide +kernel
theorem dX9_stepPump_11 : decode cX9_stepPump 11 = .ok (.istore 4, 2) := by decide +kernel
theorem dX9_stepPump_13 : decode cX9_stepPump 13 = .ok (.iload 4, 2) := by decide +kernel
theorem dX9_stepPump_15 : decode cX9_stepPump 15 = .ok (.aload_n 0, 1) := by decide +kernel
theorem dX9_stepPump_16 : decode cX9_stepPump 16 = .ok (.getfield 7, 3) := by decide +kernel
theorem dX9_stepPump_19 : decode cX9_stepPump 19 = .ok (.sipush 938, 3) := by decide +kernel
theorem dX9_stepPump_22 : decode cX9_stepPump 22 = .ok (.iaload, 1) := by decide +kernel
theorem dX9_stepPump_23 : decode cX9_stepPump 23 = .ok (.if_icmp .ge 58, 3) := by decide +kernel
theorem dX9_stepPump_26 : decode cX9_stepPump 26 = .ok (.iload_n 3, 1) := by decide +kernel
theorem dX9_stepPump_27 : decode cX9_stepPump 27 = .ok (.aload_n 0, 1) := by decide +kernel
theorem dX9_stepPump_28 : decode cX9_stepPump 28 = .ok (.getfield 7, 3) := by decide +kernel
theorem dX9_stepPump_31 : decode cX9_stepPump 31 = .ok (.bipush 12, 2) := by decide +kernel
theorem dX9_stepPump_33 : decode cX9_stepPump 33 = .ok (.iload 4, 2) := by decide +kernel
theorem dX9_stepPump_35 : decode cX9_stepPump 35 = .ok (.imul, 1) := by decide +kernel
theorem dX9_stepPump_36 : decode cX9_stepPump 36 = .ok (.iconst 4, 1) := by decide +kernel
theorem dX9_stepPump_37 : decode cX9_stepPump 37 = .ok (.iadd, 1) := by decide +kernel
theorem dX9_stepPump_38 : decode cX9_stepPump 38 = .ok (.iaload, 1) := by decide +kernel
theorem dX9_stepPump_39 : decode cX9_stepPump 39 = .ok (.iload_n 1, 1) := by decide +kernel
theorem dX9_stepPump_40 : decode cX9_stepPump 40 = .ok (.if_icmp .ne 32, 3) := by decide +kernel
theorem dX9_stepPump_43 : decode cX9_stepPump 43 = .ok (.aload_n 0, 1) := by decide +kernel
theorem dX9_stepPump_44 : decode cX9_stepPump 44 = .ok (.getfield 7, 3) := by decide +kernel
theorem dX9_stepPump_47 : decode cX9_stepPump 47 = .ok (.bipush 12, 2) := by decide +kernel
theorem dX9_stepPump_49 : decode cX9_stepPump 49 = .ok (.iload 4, 2) := by decide +kernel
theorem dX9_stepPump_51 : decode cX9_stepPump 51 = .ok (.imul, 1) := by decide +kernel
theorem dX9_stepPump_52 : decode cX9_stepPump 52 = .ok (.bipush 7, 2) := by decide +kernel
theorem dX9_stepPump_54 : decode cX9_stepPump 54 = .ok (.iadd, 1) := by decide +kernel
theorem dX9_stepPump_55 : decode cX9_stepPump 55 = .ok (.iaload, 1) := by decide +kernel
theorem dX9_stepPump_56 : decode cX9_stepPump 56 = .ok (.aload_n 0, 1) := by decide +kernel
theorem dX9_stepPump_57 : decode cX9_stepPump 57 = .ok (.getfield 7, 3) := by decide +kernel
theorem dX9_stepPump_60 : decode cX9_stepPump 60 = .ok (.bipush 12, 2) := by decide +kernel
theorem dX9_stepPump_62 : decode cX9_stepPump 62 = .ok (.iload 4, 2) := by decide +kernel
theorem dX9_stepPump_64 : decode cX9_stepPump 64 = .ok (.imul, 1) := by decide +kernel
theorem dX9_stepPump_65 : decode cX9_stepPump 65 = .ok (.iconst 0, 1) := by decide +kernel
theorem dX9_stepPump_66 : decode cX9_stepPump 66 = .ok (.iadd, 1) := by decide +kernel
theorem dX9_stepPump_67 : decode cX9_stepPump 67 = .ok (.iaload, 1) := by decide +kernel
theorem dX9_stepPump_68 : decode cX9_stepPump 68 = .ok (.imul, 1) := by decide +kernel
theorem dX9_stepPump_69 : decode cX9_stepPump 69 = .ok (.goto 4, 3) := by decide +kernel
theorem dX9_stepPump_72 : decode cX9_stepPump 72 = .ok (.iconst 0, 1) := by decide +kernel
theorem dX9_stepPump_73 : decode cX9_stepPump 73 = .ok (.iadd, 1) := by decide +kernel
theorem dX9_stepPump_74 : decode cX9_stepPump 74 = .ok (.istore_n 3, 1) := by decide +kernel
theorem dX9_stepPump_75 : decode cX9_stepPump 75 = .ok (.iinc 4 1, 3) := by decide +kernel
theorem dX9_stepPump_78 : decode cX9_stepPump 78 = .ok (.goto (-65), 3) := by decide +kernel
theorem dX9_stepPump_81 : decode cX9_stepPump 81 = .ok (.sipush 1000, 3) := by decide +kernel
theorem dX9_stepPump_84 : decode cX9_stepPump 84 = .ok (.aload_n 0, 1) := by decide +kernel
theorem dX9_stepPump_85 : decode cX9_stepPump 85 = .ok (.getfield 7, 3) := by decide +kernel
theorem dX9_stepPump_88 : decode cX9_stepPump 88 = .ok (.iload_n 2, 1) := by decide +kernel
theorem dX9_stepPump_89 : decode cX9_stepPump 89 = .ok (.iconst 0, 1) := by decide +kernel
theorem dX9_stepPump_90 : decode cX9_stepPump 90 = .ok (.iadd, 1) := by decide +kernel
theorem dX9_stepPump_91 : decode cX9_stepPump 91 = .ok (.iaload, 1) := by decide +kernel
theorem dX9_stepPump_92 : decode cX9_stepPump 92 = .ok (.imul, 1) := by decide +kernel
theorem dX9_stepPump_93 : decode cX9_stepPump 93 = .ok (.istore 4, 2) := by decide +kernel
theorem dX9_stepPump_95 : decode cX9_stepPump 95 = .ok (.aload_n 0, 1) := by decide +kernel
theorem dX9_stepPump_96 : decode cX9_stepPump 96 = .ok (.getfield 7, 3) := by decide +kernel
theorem dX9_stepPump_99 : decode cX9_stepPump 99 = .ok (.iload_n 2, 1) := by decide +kernel
theorem dX9_stepPump_100 : decode cX9_stepPump 100 = .ok (.iconst 3, 1) := by decide +kernel
theorem dX9_stepPump_101 : decode cX9_stepPump 101 = .ok (.iadd, 1) := by decide +kernel
theorem dX9_stepPump_102 : decode cX9_stepPump 102 = .ok (.iload_n 3, 1) := by decide +kernel
theorem dX9_stepPump_103 : decode cX9_stepPump 103 = .ok (.iastore, 1) := by decide +kernel
theorem dX9_stepPump_104 : decode cX9_stepPump 104 = .ok (.aload_n 0, 1) := by decide +kernel
theorem dX9_stepPump_105 : decode cX9_stepPump 105 = .ok (.getfield 7, 3) := by decide +kernel
theorem dX9_stepPump_108 : decode cX9_stepPump 108 = .ok (.iload_n 2, 1) := by decide +kernel
theorem dX9_stepPump_109 : decode cX9_stepPump 109 = .ok (.iconst 2, 1) := by decide +kernel
theorem dX9_stepPump_110 : decode cX9_stepPump 110 = .ok (.iadd, 1) := by decide +kernel
theorem dX9_stepPump_111 : decode cX9_stepPump 111 = .ok (.aload_n 0, 1) := by decide +kernel
theorem dX9_stepPump_112 : decode cX9_stepPump 112 = .ok (.getfield 7, 3) := by decide +kernel
theorem dX9_stepPump_115 : decode cX9_stepPump 115 = .ok (.iload_n 2, 1) := by decide +kernel
theorem dX9_stepPump_116 : decode cX9_stepPump 116 = .ok (.iconst 2, 1) := by decide +kernel
theorem dX9_stepPump_117 : decode cX9_stepPump 117 = .ok (.iadd, 1) := by decide +kernel
theorem dX9_stepPump_118 : decode cX9_stepPump 118 = .ok (.iaload, 1) := by decide +kernel
theorem dX9_stepPump_119 : decode cX9_stepPump 119 = .ok (.iload_n 3, 1) := by decide +kernel
theorem dX9_stepPump_120 : decode cX9_stepPump 120 = .ok (.iload 4, 2) := by decide +kernel
theorem dX9_stepPump_122 : decode cX9_stepPump 122 = .ok (.if_icmp .ge 7, 3) := by decide +kernel
theorem dX9_stepPump_125 : decode cX9_stepPump 125 = .ok (.iload_n 3, 1) := by decide +kernel
theorem dX9_stepPump_126 : decode cX9_stepPump 126 = .ok (.goto 5, 3) := by decide +kernel
theorem dX9_stepPump_129 : decode cX9_stepPump 129 = .ok (.iload 4, 2) := by decide +kernel
theorem dX9_stepPump_131 : decode cX9_stepPump 131 = .ok (.sipush 1000, 3) := by decide +kernel
theorem dX9_stepPump_134 : decode cX9_stepPump 134 = .ok (.aload_n 0, 1) := by decide +kernel
theorem dX9_stepPump_135 : decode cX9_stepPump 135 = .ok (.getfield 7, 3) := by decide +kernel
theorem dX9_stepPump_138 : decode cX9_stepPump 138 = .ok (.iload_n 2, 1) := by decide +kernel
theorem dX9_stepPump_139 : decode cX9_stepPump 139 = .ok (.iconst 1, 1) := by decide +kernel
theorem dX9_stepPump_140 : decode cX9_stepPump 140 = .ok (.iadd, 1) := by decide +kernel
theorem dX9_stepPump_141 : decode cX9_stepPump 141 = .ok (.iaload, 1) := by decide +kernel
theorem dX9_stepPump_142 : decode cX9_stepPump 142 = .ok (.imul, 1) := by decide +kernel
theorem dX9_stepPump_143 : decode cX9_stepPump 143 = .ok (.invokestatic 80, 3) := by decide +kernel
theorem dX9_stepPump_146 : decode cX9_stepPump 146 = .ok (.iastore, 1) := by decide +kernel
theorem dX9_stepPump_147 : decode cX9_stepPump 147 = .ok (.aload_n 0, 1) := by decide +kernel
theorem dX9_stepPump_148 : decode cX9_stepPump 148 = .ok (.getfield 7, 3) := by decide +kernel
theorem dX9_stepPump_151 : decode cX9_stepPump 151 = .ok (.iload_n 2, 1) := by decide +kernel
theorem dX9_stepPump_152 : decode cX9_stepPump 152 = .ok (.iconst 4, 1) := by decide +kernel
theorem dX9_stepPump_153 : decode cX9_stepPump 153 = .ok (.iadd, 1) := by decide +kernel
theorem dX9_stepPump_154 : decode cX9_stepPump 154 = .ok (.dup2, 1) := by decide +kernel
theorem dX9_stepPump_155 : decode cX9_stepPump 155 = .ok (.iaload, 1) := by decide +kernel
theorem dX9_stepPump_156 : decode cX9_stepPump 156 = .ok (.iload_n 3, 1) := by decide +kernel
theorem dX9_stepPump_157 : decode cX9_stepPump 157 = .ok (.aload_n 0, 1) := by decide +kernel
theorem dX9_stepPump_158 : decode cX9_stepPump 158 = .ok (.getfield 7, 3) := by decide +kernel
theorem dX9_stepPump_161 : decode cX9_stepPump 161 = .ok (.iload_n 2, 1) := by decide +kernel
theorem dX9_stepPump_162 : decode cX9_stepPump 162 = .ok (.iconst 2, 1) := by decide +kernel
theorem dX9_stepPump_163 : decode cX9_stepPump 163 = .ok (.iadd, 1) := by decide +kernel
theorem dX9_stepPump_164 : decode cX9_stepPump 164 = .ok (.iaload, 1) := by decide +kernel
theorem dX9_stepPump_165 : decode cX9_stepPump 165 = .ok (.if_icmp .le 7, 3) := by decide +kernel
theorem dX9_stepPump_168 : decode cX9_stepPump 168 = .ok (.iconst 1, 1) := by decide +kernel
theorem dX9_stepPump_169 : decode cX9_stepPump 169 = .ok (.goto 4, 3) := by decide +kernel
theorem dX9_stepPump_172 : decode cX9_stepPump 172 = .ok (.iconst 0, 1) := by decide +kernel
theorem dX9_stepPump_173 : decode cX9_stepPump 173 = .ok (.iadd, 1) := by decide +kernel
theorem dX9_stepPump_174 : decode cX9_stepPump 174 = .ok (.iastore, 1) := by decide +kernel
theorem dX9_stepPump_175 : decode cX9_stepPump 175 = .ok (.return_, 1) := by decide +kernel
theorem dX9_stepNozzle_0 : decode cX9_stepNozzle 0 = .ok (.bipush 12, 2) := by decide +kernel
theorem dX9_stepNozzle_2 : decode cX9_stepNozzle 2 = .ok (.iload_n 1, 1) := by decide +kernel
theorem dX9_stepNozzle_3 : decode cX9_stepNozzle 3 = .ok (.imul, 1) := by decide +kernel
theorem dX9_stepNozzle_4 : decode cX9_stepNozzle 4 = .ok (.istore_n 2, 1) := by decide +kernel
theorem dX9_stepNozzle_5 : decode cX9_stepNozzle 5 = .ok (.sipush 912, 3) := by decide +kernel
theorem dX9_stepNozzle_8 : decode cX9_stepNozzle 8 = .ok (.iconst 5, 1) := by decide +kernel
theorem dX9_stepNozzle_9 : decode cX9_stepNozzle 9 = .ok (.aload_n 0, 1) := by decide +kernel
theorem dX9_stepNozzle_10 : decode cX9_stepNozzle 10 = .ok (.getfield 7, 3) := by decide +kernel
theorem dX9_stepNozzle_13 : decode cX9_stepNozzle 13 = .ok (.iload_n 2, 1) := by decide +kernel
theorem dX9_stepNozzle_14 : decode cX9_stepNozzle 14 = .ok (.iconst 4, 1) := by decide +kernel
theorem dX9_stepNozzle_15 : decode cX9_stepNozzle 15 = .ok (.iadd, 1) := by decide +kernel
theorem dX9_stepNozzle_16 : decode cX9_stepNozzle 16 = .ok (.iaload, 1) := by decide +kernel
theorem dX9_stepNozzle_17 : decode cX9_stepNozzle 17 = .ok (.imul, 1) := by decide +kernel
theorem dX9_stepNozzle_18 : decode cX9_stepNozzle 18 = .ok (.iadd, 1) := by decide +kernel
theorem dX9_stepNozzle_19 : decode cX9_stepNozzle 19 = .ok (.istore_n 3, 1) := by decide +kernel
theorem dX9_stepNozzle_20 : decode cX9_stepNozzle 20 = .ok (.aload_n 0, 1) := by decide +kernel
theorem dX9_stepNozzle_21 : decode cX9_stepNozzle 21 = .ok (.getfield 7, 3) := by decide +kernel
theorem dX9_stepNozzle_24 : decode cX9_stepNozzle 24 = .ok (.iload_n 2, 1) := by decide +kernel
theorem dX9_stepNozzle_25 : decode cX9_stepNozzle 25 = .ok (.bipush 7, 2) := by decide +kernel
theorem dX9_stepNozzle_27 : decode cX9_stepNozzle 27 = .ok (.iadd, 1) := by decide +kernel
theorem dX9_stepNozzle_28 : decode cX9_stepNozzle 28 = .ok (.iaload, 1) := by decide +kernel
theorem dX9_stepNozzle_29 : decode cX9_stepNozzle 29 = .ok (.aload_n 0, 1) := by decide +kernel
theorem dX9_stepNozzle_30 : decode cX9_stepNozzle 30 = .ok (.getfield 7, 3) := by decide +kernel
theorem dX9_stepNozzle_33 : decode cX9_stepNozzle 33 = .ok (.iload_n 2, 1) := by decide +kernel
theorem dX9_stepNozzle_34 : decode cX9_stepNozzle 34 = .ok (.iconst 0, 1) := by decide +kernel
theorem dX9_stepNozzle_35 : decode cX9_stepNozzle 35 = .ok (.iadd, 1) := by decide +kernel
theorem dX9_stepNozzle_36 : decode cX9_stepNozzle 36 = .ok (.iaload, 1) := by decide +kernel
theorem dX9_stepNozzle_37 : decode cX9_stepNozzle 37 = .ok (.imul, 1) := by decide +kernel
theorem dX9_stepNozzle_38 : decode cX9_stepNozzle 38 = .ok (.i2l, 1) := by decide +kernel
theorem dX9_stepNozzle_39 : decode cX9_stepNozzle 39 = .ok (.lstore 4, 2) := by decide +kernel
theorem dX9_stepNozzle_41 : decode cX9_stepNozzle 41 = .ok (.aload_n 0, 1) := by decide +kernel
theorem dX9_stepNozzle_42 : decode cX9_stepNozzle 42 = .ok (.getfield 7, 3) := by decide +kernel
theorem dX9_stepNozzle_45 : decode cX9_stepNozzle 45 = .ok (.iload_n 3, 1) := by decide +kernel
theorem dX9_stepNozzle_46 : decode cX9_stepNozzle 46 = .ok (.iconst 3, 1) := by decide +kernel
theorem dX9_stepNozzle_47 : decode cX9_stepNozzle 47 = .ok (.iadd, 1) := by decide +kernel
theorem dX9_stepNozzle_48 : decode cX9_stepNozzle 48 = .ok (.iaload, 1) := by decide +kernel
theorem dX9_stepNozzle_49 : decode cX9_stepNozzle 49 = .ok (.aload_n 0, 1) := by decide +kernel
theorem dX9_stepNozzle_50 : decode cX9_stepNozzle 50 = .ok (.getfield 7, 3) := by decide +kernel
theorem dX9_stepNozzle_53 : decode cX9_stepNozzle 53 = .ok (.iload_n 3, 1) := by decide +kernel
theorem dX9_stepNozzle_54 : decode cX9_stepNozzle 54 = .ok (.iconst 2, 1) := by decide +kernel
theorem dX9_stepNozzle_55 : decode cX9_stepNozzle 55 = .ok (.iadd, 1) := by decide +kernel
theorem dX9_stepNozzle_56 : decode cX9_stepNozzle 56 = .ok (.iaload, 1) := by decide +kernel
theorem dX9_stepNozzle_57 : decode cX9_stepNozzle 57 = .ok (.if_icmp .gt 7, 3) := by decide +kernel
theorem dX9_stepNozzle_60 : decode cX9_stepNozzle 60 = .ok (.iconst 1, 1) := by decide +kernel
theorem dX9_stepNozzle_61 : decode cX9_stepNozzle 61 = .ok (.goto 4, 3) := by decide +kernel
theorem dX9_stepNozzle_64 : decode cX9_stepNozzle 64 = .ok (.iconst 0, 1) := by decide +kernel
theorem dX9_stepNozzle_65 : decode cX9_stepNozzle 65 = .ok (.istore 6, 2) := by decide +kernel
theorem dX9_stepNozzle_67 : decode cX9_stepNozzle 67 = .ok (.aload_n 0, 1) := by decide +kernel
theorem dX9_stepNozzle_68 : decode cX9_stepNozzle 68 = .ok (.getfield 7, 3) := by decide +kernel
theorem dX9_stepNozzle_71 : decode cX9_stepNozzle 71 = .ok (.iload_n 2, 1) := by decide +kernel
theorem dX9_stepNozzle_72 : decode cX9_stepNozzle 72 = .ok (.bipush 8, 2) := by decide +kernel
theorem dX9_stepNozzle_74 : decode cX9_stepNozzle 74 = .ok (.iadd, 1) := by decide +kernel
theorem dX9_stepNozzle_75 : decode cX9_stepNozzle 75 = .ok (.iload 6, 2) := by decide +kernel
theorem dX9_stepNozzle_77 : decode cX9_stepNozzle 77 = .ok (.ifCond .eq 8, 3) := by decide +kernel
theorem dX9_stepNozzle_80 : decode cX9_stepNozzle 80 = .ok (.lload 4, 2) := by decide +kernel
theorem dX9_stepNozzle_82 : decode cX9_stepNozzle 82 = .ok (.goto 25, 3) := by decide +kernel
theorem dX9_stepNozzle_85 : decode cX9_stepNozzle 85 = .ok (.lload 4, 2) := by decide +kernel
theorem dX9_stepNozzle_87 : decode cX9_stepNozzle 87 = .ok (.aload_n 0, 1) := by decide +kernel
theorem dX9_stepNozzle_88 : decode cX9_stepNozzle 88 = .ok (.getfield 7, 3) := by decide +kernel
theorem dX9_stepNozzle_91 : decode cX9_stepNozzle 91 = .ok (.iload_n 3, 1) := by decide +kernel
theorem dX9_stepNozzle_92 : decode cX9_stepNozzle 92 = .ok (.iconst 2, 1) := by decide +kernel
theorem dX9_stepNozzle_93 : decode cX9_stepNozzle 93 = .ok (.iadd, 1) := by decide +kernel
theorem dX9_stepNozzle_94 : decode cX9_stepNozzle 94 = .ok (.iaload, 1) := by decide +kernel
theorem dX9_stepNozzle_95 : decode cX9_stepNozzle 95 = .ok (.i2l, 1) := by decide +kernel
theorem dX9_stepNozzle_96 : decode cX9_stepNozzle 96 = .ok (.lmul, 1) := by decide +kernel
theorem dX9_stepNozzle_97 : decode cX9_stepNozzle 97 = .ok (.aload_n 0, 1) := by decide +kernel
theorem dX9_stepNozzle_98 : decode cX9_stepNozzle 98 = .ok (.getfield 7, 3) := by decide +kernel
theorem dX9_stepNozzle_101 : decode cX9_stepNozzle 101 = .ok (.iload_n 3, 1) := by decide +kernel
theorem dX9_stepNozzle_102 : decode cX9_stepNozzle 102 = .ok (.iconst 3, 1) := by decide +kernel
theorem dX9_stepNozzle_103 : decode cX9_stepNozzle 103 = .ok (.iadd, 1) := by decide +kernel
theorem dX9_stepNozzle_104 : decode cX9_stepNozzle 104 = .ok (.iaload, 1) := by decide +kernel
theorem dX9_stepNozzle_105 : decode cX9_stepNozzle 105 = .ok (.i2l, 1) := by decide +kernel
theorem dX9_stepNozzle_106 : decode cX9_stepNozzle 106 = .ok (.ldiv, 1) := by decide +kernel
theorem dX9_stepNozzle_107 : decode cX9_stepNozzle 107 = .ok (.l2i, 1) := by decide +kernel
theorem dX9_stepNozzle_108 : decode cX9_stepNozzle 108 = .ok (.iastore, 1) := by decide +kernel
theorem dX9_stepNozzle_109 : decode cX9_stepNozzle 109 = .ok (.aload_n 0, 1) := by decide +kernel
theorem dX9_stepNozzle_110 : decode cX9_stepNozzle 110 = .ok (.getfield 7, 3) := by decide +kernel
theorem dX9_stepNozzle_113 : decode cX9_stepNozzle 113 = .ok (.iload_n 2, 1) := by decide +kernel
theorem dX9_stepNozzle_114 : decode cX9_stepNozzle 114 = .ok (.bipush 8, 2) := by decide +kernel
theorem dX9_stepNozzle_116 : decode cX9_stepNozzle 116 = .ok (.iadd, 1) := by decide +kernel
theorem dX9_stepNozzle_117 : decode cX9_stepNozzle 117 = .ok (.iaload, 1) := by decide +kernel
theorem dX9_stepNozzle_118 : decode cX9_stepNozzle 118 = .ok (.aload_n 0, 1) := by decide +kernel
theorem dX9_stepNozzle_119 : decode cX9_stepNozzle 119 = .ok (.getfield 7, 3) := by decide +kernel
theorem dX9_stepNozzle_122 : decode cX9_stepNozzle 122 = .ok (.iload_n 2, 1) := by decide +kernel
theorem dX9_stepNozzle_123 : decode cX9_stepNozzle 123 = .ok (.iconst 0, 1) := by decide +kernel
theorem dX9_stepNozzle_124 : decode cX9_stepNozzle 124 = .ok (.iadd, 1) := by decide +kernel
theorem dX9_stepNozzle_125 : decode cX9_stepNozzle 125 = .ok (.iaload, 1) := by decide +kernel
theorem dX9_stepNozzle_126 : decode cX9_stepNozzle 126 = .ok (.idiv, 1) := by decide +kernel
theorem dX9_stepNozzle_127 : decode cX9_stepNozzle 127 = .ok (.i2l, 1) := by decide +kernel
theorem dX9_stepNozzle_128 : decode cX9_stepNozzle 128 = .ok (.lstore 7, 2) := by decide +kernel
theorem dX9_stepNozzle_130 : decode cX9_stepNozzle 130 = .ok (.aload_n 0, 1) := by decide +kernel
theorem dX9_stepNozzle_131 : decode cX9_stepNozzle 131 = .ok (.getfield 7, 3) := by decide +kernel
theorem dX9_stepNozzle_134 : decode cX9_stepNozzle 134 = .ok (.iload_n 2, 1) := by decide +kernel
theorem dX9_stepNozzle_135 : decode cX9_stepNozzle 135 = .ok (.bipush 9, 2) := by decide +kernel
theorem dX9_stepNozzle_137 : decode cX9_stepNozzle 137 = .ok (.iadd, 1) := by decide +kernel
theorem dX9_stepNozzle_138 : decode cX9_stepNozzle 138 = .ok (.aload_n 0, 1) := by decide +kernel
theorem dX9_stepNozzle_139 : decode cX9_stepNozzle 139 = .ok (.getfield 7, 3) := by decide +kernel
theorem dX9_stepNozzle_142 : decode cX9_stepNozzle 142 = .ok (.iload_n 2, 1) := by decide +kernel
theorem dX9_stepNozzle_143 : decode cX9_stepNozzle 143 = .ok (.iconst 1, 1) := by decide +kernel
theorem dX9_stepNozzle_144 : decode cX9_stepNozzle 144 = .ok (.iadd, 1) := by decide +kernel
theorem dX9_stepNozzle_145 : decode cX9_stepNozzle 145 = .ok (.iaload, 1) := by decide +kernel
theorem dX9_stepNozzle_146 : decode cX9_stepNozzle 146 = .ok (.i2l, 1) := by decide +kernel
theorem dX9_stepNozzle_147 : decode cX9_stepNozzle 147 = .ok (.lload 7, 2) := by decide +kernel
theorem dX9_stepNozzle_149 : decode cX9_stepNozzle 149 = .ok (.lmul, 1) := by decide +kernel
theorem dX9_stepNozzle_150 : decode cX9_stepNozzle 150 = .ok (.lload 7, 2) := by decide +kernel
theorem dX9_stepNozzle_152 : decode cX9_stepNozzle 152 = .ok (.lmul, 1) := by decide +kernel
theorem dX9_stepNozzle_153 : decode cX9_stepNozzle 153 = .ok (.ldc2_w 83, 3) := by decide +kernel
theorem dX9_stepNozzle_156 : decode cX9_stepNozzle 156 = .ok (.ldiv, 1) := by decide +kernel
theorem dX9_stepNozzle_157 : decode cX9_stepNozzle 157 = .ok (.l2i, 1) := by decide +kernel
theorem dX9_stepNozzle_158 : decode cX9_stepNozzle 158 = .ok (.iastore, 1) := by decide +kernel
theorem dX9_stepNozzle_159 : decode cX9_stepNozzle 159 = .ok (.aload_n 0, 1) := by decide +kernel
theorem dX9_stepNozzle_160 : decode cX9_stepNozzle 160 = .ok (.getfield 7, 3) := by decide +kernel
theorem dX9_stepNozzle_163 : decode cX9_stepNozzle 163 = .ok (.iload_n 2, 1) := by decide +kernel
theorem dX9_stepNozzle_164 : decode cX9_stepNozzle 164 = .ok (.bipush 10, 2) := by decide +kernel
theorem dX9_stepNozzle_166 : decode cX9_stepNozzle 166 = .ok (.iadd, 1) := by decide +kernel
theorem dX9_stepNozzle_167 : decode cX9_stepNozzle 167 = .ok (.aload_n 0, 1) := by decide +kernel
theorem dX9_stepNozzle_168 : decode cX9_stepNozzle 168 = .ok (.getfield 7, 3) := by decide +kernel
theorem dX9_stepNozzle_171 : decode cX9_stepNozzle 171 = .ok (.iload_n 2, 1) := by decide +kernel
theorem dX9_stepNozzle_172 : decode cX9_stepNozzle 172 = .ok (.bipush 9, 2) := by decide +kernel
theorem dX9_stepNozzle_174 : decode cX9_stepNozzle 174 = .ok (.iadd, 1) := by decide +kernel
theorem dX9_stepNozzle_175 : decode cX9_stepNozzle 175 = .ok (.iaload, 1) := by decide +kernel
theorem dX9_stepNozzle_176 : decode cX9_stepNozzle 176 = .ok (.aload_n 0, 1) := by decide +kernel
theorem dX9_stepNozzle_177 : decode cX9_stepNozzle 177 = .ok (.getfield 7, 3) := by decide +kernel
theorem dX9_stepNozzle_180 : decode cX9_stepNozzle 180 = .ok (.sipush 934, 3) := by decide +kernel
theorem dX9_stepNozzle_183 : decode cX9_stepNozzle 183 = .ok (.iaload, 1) := by decide +kernel
theorem dX9_stepNozzle_184 : decode cX9_stepNozzle 184 = .ok (.sipush 1024, 3) := by decide +kernel
theorem dX9_stepNozzle_187 : decode cX9_stepNozzle 187 = .ok (.idiv, 1) := by decide +kernel
theorem dX9_stepNozzle_188 : decode cX9_stepNozzle 188 = .ok (.imul, 1) := by decide +kernel
theorem dX9_stepNozzle_189 : decode cX9_stepNozzle 189 = .ok (.aload_n 0, 1) := by decide +kernel
theorem dX9_stepNozzle_190 : decode cX9_stepNozzle 190 = .ok (.getfield 7, 3) := by decide +kernel
theorem dX9_stepNozzle_193 : decode cX9_stepNozzle 193 = .ok (.iload_n 2, 1) := by decide +kernel
theorem dX9_stepNozzle_194 : decode cX9_stepNozzle 194 = .ok (.iconst 5, 1) := by decide +kernel
theorem dX9_stepNozzle_195 : decode cX9_stepNozzle 195 = .ok (.iadd, 1) := by decide +kernel
theorem dX9_stepNozzle_196 : decode cX9_stepNozzle 196 = .ok (.iaload, 1) := by decide +kernel
theorem dX9_stepNozzle_197 : decode cX9_stepNozzle 197 = .ok (.imul, 1) := by decide +kernel
theorem dX9_stepNozzle_198 : decode cX9_stepNozzle 198 = .ok (.ldc 62, 2) := by decide +kernel
theorem dX9_stepNozzle_200 : decode cX9_stepNozzle 200 = .ok (.idiv, 1) := by decide +kernel
theorem dX9_stepNozzle_201 : decode cX9_stepNozzle 201 = .ok (.iastore, 1) := by decide +kernel
theorem dX9_stepNozzle_202 : decode cX9_stepNozzle 202 = .ok (.aload_n 0, 1) := by decide +kernel
theorem dX9_stepNozzle_203 : decode cX9_stepNozzle 203 = .ok (.getfield 7, 3) := by decide +kernel
theorem dX9_stepNozzle_206 : decode cX9_stepNozzle 206 = .ok (.iload_n 2, 1) := by decide +kernel
theorem dX9_stepNozzle_207 : decode cX9_stepNozzle 207 = .ok (.bipush 11, 2) := by decide +kernel
theorem dX9_stepNozzle_209 : decode cX9_stepNozzle 209 = .ok (.iadd, 1) := by decide +kernel
theorem dX9_stepNozzle_210 : decode cX9_stepNozzle 210 = .ok (.aload_n 0, 1) := by decide +kernel
theorem dX9_stepNozzle_211 : decode cX9_stepNozzle 211 = .ok (.getfield 7, 3) := by decide +kernel
theorem dX9_stepNozzle_214 : decode cX9_stepNozzle 214 = .ok (.iload_n 2, 1) := by decide +kernel
theorem dX9_stepNozzle_215 : decode cX9_stepNozzle 215 = .ok (.bipush 9, 2) := by decide +kernel
theorem dX9_stepNozzle_217 : decode cX9_stepNozzle 217 = .ok (.iadd, 1) := by decide +kernel
theorem dX9_stepNozzle_218 : decode cX9_stepNozzle 218 = .ok (.iaload, 1) := by decide +kernel
theorem dX9_stepNozzle_219 : decode cX9_stepNozzle 219 = .ok (.aload_n 0, 1) := by decide +kernel
theorem dX9_stepNozzle_220 : decode cX9_stepNozzle 220 = .ok (.getfield 7, 3) := by decide +kernel
theorem dX9_stepNozzle_223 : decode cX9_stepNozzle 223 = .ok (.iload_n 2, 1) := by decide +kernel
theorem dX9_stepNozzle_224 : decode cX9_stepNozzle 224 = .ok (.bipush 11, 2) := by decide +kernel
theorem dX9_stepNozzle_226 : decode cX9_stepNozzle 226 = .ok (.iadd, 1) := by decide +kernel
theorem dX9_stepNozzle_227 : decode cX9_stepNozzle 227 = .ok (.iaload, 1) := by decide +kernel
theorem dX9_stepNozzle_228 : decode cX9_stepNozzle 228 = .ok (.if_icmp .le 15, 3) := by decide +kernel
theorem dX9_stepNozzle_231 : decode cX9_stepNozzle 231 = .ok (.aload_n 0, 1) := by decide +kernel
theorem dX9_stepNozzle_232 : decode cX9_stepNozzle 232 = .ok (.getfield 7, 3) := by decide +kernel
theorem dX9_stepNozzle_235 : decode cX9_stepNozzle 235 = .ok (.iload_n 2, 1) := by decide +kernel
theorem dX9_stepNozzle_236 : decode cX9_stepNozzle 236 = .ok (.bipush 9, 2) := by decide +kernel
theorem dX9_stepNozzle_238 : decode cX9_stepNozzle 238 = .ok (.iadd, 1) := by decide +kernel
theorem dX9_stepNozzle_239 : decode cX9_stepNozzle 239 = .ok (.iaload, 1) := by decide +kernel
theorem dX9_stepNozzle_240 : decode cX9_stepNozzle 240 = .ok (.goto 12, 3) := by decide +kernel
theorem dX9_stepNozzle_243 : decode cX9_stepNozzle 243 = .ok (.aload_n 0, 1) := by decide +kernel
theorem dX9_stepNozzle_244 : decode cX9_stepNozzle 244 = .ok (.getfield 7, 3) := by decide +kernel
theorem dX9_stepNozzle_247 : decode cX9_stepNozzle 247 = .ok (.iload_n 2, 1) := by decide +kernel
theorem dX9_stepNozzle_248 : decode cX9_stepNozzle 248 = .ok (.bipush 11, 2) := by decide +kernel
theorem dX9_stepNozzle_250 : decode cX9_stepNozzle 250 = .ok (.iadd, 1) := by decide +kernel
theorem dX9_stepNozzle_251 : decode cX9_stepNozzle 251 = .ok (.iaload, 1) := by decide +kernel
theorem dX9_stepNozzle_252 : decode cX9_stepNozzle 252 = .ok (.iastore, 1) := by decide +kernel
theorem dX9_stepNozzle_253 : decode cX9_stepNozzle 253 = .ok (.aload_n 0, 1) := by decide +kernel
theorem dX9_stepNozzle_254 : decode cX9_stepNozzle 254 = .ok (.getfield 7, 3) := by decide +kernel
theorem dX9_stepNozzle_257 : decode cX9_stepNozzle 257 = .ok (.iload_n 2, 1) := by decide +kernel
theorem dX9_stepNozzle_258 : decode cX9_stepNozzle 258 = .ok (.bipush 10, 2) := by decide +kernel
theorem dX9_stepNozzle_260 : decode cX9_stepNozzle 260 = .ok (.iadd, 1) := by decide +kernel
theorem dX9_stepNozzle_261 : decode cX9_stepNozzle 261 = .ok (.iaload, 1) := by decide +kernel
theorem dX9_stepNozzle_262 : decode cX9_stepNozzle 262 = .ok (.aload_n 0, 1) := by decide +kernel
theorem dX9_stepNozzle_263 : decode cX9_stepNozzle 263 = .ok (.getfield 7, 3) := by decide +kernel
theorem dX9_stepNozzle_266 : decode cX9_stepNozzle 266 = .ok (.sipush 932, 3) := by decide +kernel
theorem dX9_stepNozzle_269 : decode cX9_stepNozzle 269 = .ok (.iaload, 1) := by decide +kernel
theorem dX9_stepNozzle_270 : decode cX9_stepNozzle 270 = .ok (.if_icmp .le 7, 3) := by decide +kernel
theorem dX9_stepNozzle_273 : decode cX9_stepNozzle 273 = .ok (.iconst 1, 1) := by decide +kernel
theorem dX9_stepNozzle_274 : decode cX9_stepNozzle 274 = .ok (.goto 4, 3) := by decide +kernel
theorem dX9_stepNozzle_277 : decode cX9_stepNozzle 277 = .ok (.iconst 0, 1) := by decide +kernel
theorem dX9_stepNozzle_278 : decode cX9_stepNozzle 278 = .ok (.ireturn, 1) := by decide +kernel
theorem dX9_makeTick_0 : decode cX9_makeTick 0 = .ok (.iconst 0, 1) := by decide +kernel
theorem dX9_makeTick_1 : decode cX9_makeTick 1 = .ok (.istore_n 1, 1) := by decide +kernel
theorem dX9_makeTick_2 : decode cX9_makeTick 2 = .ok (.iload_n 1, 1) := by decide +kernel
theorem dX9_makeTick_3 : decode cX9_makeTick 3 = .ok (.aload_n 0, 1) := by decide +kernel
theorem dX9_makeTick_4 : decode cX9_makeTick 4 = .ok (.getfield 7, 3) := by decide +kernel
theorem dX9_makeTick_7 : decode cX9_makeTick 7 = .ok (.sipush 940, 3) := by decide +kernel
theorem dX9_makeTick_10 : decode cX9_makeTick 10 = .ok (.iaload, 1) := by decide +kernel
end
section
theorem dX9_makeTick_11 : decode cX9_makeTick 11 = .ok (.if_icmp .ge 42, 3) := by decide +kernel
theorem dX9_makeTick_14 : decode cX9_makeTick 14 = .ok (.aload_n 0, 1) := by decide +kernel
theorem dX9_makeTick_15 : decode cX9_makeTick 15 = .ok (.iload_n 1, 1) := by decide +kernel
theorem dX9_makeTick_16 : decode cX9_makeTick 16 = .ok (.iconst 0, 1) := by decide +kernel
theorem dX9_makeTick_17 : decode cX9_makeTick 17 = .ok (.invokevirtual 55, 3) := by decide +kernel
theorem dX9_makeTick_20 : decode cX9_makeTick 20 = .ok (.aload_n 0, 1) := by decide +kernel
theorem dX9_makeTick_21 : decode cX9_makeTick 21 = .ok (.getfield 7, 3) := by decide +kernel
theorem dX9_makeTick_24 : decode cX9_makeTick 24 = .ok (.sipush 937, 3) := by decide +kernel
theorem dX9_makeTick_27 : decode cX9_makeTick 27 = .ok (.iaload, 1) := by decide +kernel
theorem dX9_makeTick_28 : decode cX9_makeTick 28 = .ok (.if_icmp .ne 19, 3) := by decide +kernel
theorem dX9_makeTick_31 : decode cX9_makeTick 31 = .ok (.aload_n 0, 1) := by decide +kernel
theorem dX9_makeTick_32 : decode cX9_makeTick 32 = .ok (.aload_n 0, 1) := by decide +kernel
theorem dX9_makeTick_33 : decode cX9_makeTick 33 = .ok (.iload_n 1, 1) := by decide +kernel
theorem dX9_makeTick_34 : decode cX9_makeTick 34 = .ok (.iconst 1, 1) := by decide +kernel
theorem dX9_makeTick_35 : decode cX9_makeTick 35 = .ok (.invokevirtual 55, 3) := by decide +kernel
theorem dX9_makeTick_38 : decode cX9_makeTick 38 = .ok (.aload_n 0, 1) := by decide +kernel
theorem dX9_makeTick_39 : decode cX9_makeTick 39 = .ok (.iload_n 1, 1) := by decide +kernel
theorem dX9_makeTick_40 : decode cX9_makeTick 40 = .ok (.iconst 2, 1) := by decide +kernel
theorem dX9_makeTick_41 : decode cX9_makeTick 41 = .ok (.invokevirtual 55, 3) := by decide +kernel
theorem dX9_makeTick_44 : decode cX9_makeTick 44 = .ok (.invokevirtual 85, 3) := by decide +kernel
theorem dX9_makeTick_47 : decode cX9_makeTick 47 = .ok (.iinc 1 1, 3) := by decide +kernel
theorem dX9_makeTick_50 : decode cX9_makeTick 50 = .ok (.goto (-48), 3) := by decide +kernel
theorem dX9_makeTick_53 : decode cX9_makeTick 53 = .ok (.aload_n 0, 1) := by decide +kernel
theorem dX9_makeTick_54 : decode cX9_makeTick 54 = .ok (.invokevirtual 89, 3) := by decide +kernel
theorem dX9_makeTick_57 : decode cX9_makeTick 57 = .ok (.iconst 0, 1) := by decide +kernel
theorem dX9_makeTick_58 : decode cX9_makeTick 58 = .ok (.istore_n 1, 1) := by decide +kernel
theorem dX9_makeTick_59 : decode cX9_makeTick 59 = .ok (.iload_n 1, 1) := by decide +kernel
theorem dX9_makeTick_60 : decode cX9_makeTick 60 = .ok (.aload_n 0, 1) := by decide +kernel
theorem dX9_makeTick_61 : decode cX9_makeTick 61 = .ok (.getfield 7, 3) := by decide +kernel
theorem dX9_makeTick_64 : decode cX9_makeTick 64 = .ok (.sipush 938, 3) := by decide +kernel
theorem dX9_makeTick_67 : decode cX9_makeTick 67 = .ok (.iaload, 1) := by decide +kernel
theorem dX9_makeTick_68 : decode cX9_makeTick 68 = .ok (.if_icmp .ge 89, 3) := by decide +kernel
theorem dX9_makeTick_71 : decode cX9_makeTick 71 = .ok (.aload_n 0, 1) := by decide +kernel
theorem dX9_makeTick_72 : decode cX9_makeTick 72 = .ok (.getfield 7, 3) := by decide +kernel
theorem dX9_makeTick_75 : decode cX9_makeTick 75 = .ok (.sipush 144, 3) := by decide +kernel
theorem dX9_makeTick_78 : decode cX9_makeTick 78 = .ok (.bipush 64, 2) := by decide +kernel
theorem dX9_makeTick_80 : decode cX9_makeTick 80 = .ok (.iload_n 1, 1) := by decide +kernel
theorem dX9_makeTick_81 : decode cX9_makeTick 81 = .ok (.imul, 1) := by decide +kernel
theorem dX9_makeTick_82 : decode cX9_makeTick 82 = .ok (.iadd, 1) := by decide +kernel
theorem dX9_makeTick_83 : decode cX9_makeTick 83 = .ok (.aload_n 0, 1) := by decide +kernel
theorem dX9_makeTick_84 : decode cX9_makeTick 84 = .ok (.getfield 7, 3) := by decide +kernel
theorem dX9_makeTick_87 : decode cX9_makeTick 87 = .ok (.sipush 937, 3) := by decide +kernel
theorem dX9_makeTick_90 : decode cX9_makeTick 90 = .ok (.iaload, 1) := by decide +kernel
theorem dX9_makeTick_91 : decode cX9_makeTick 91 = .ok (.bipush 64, 2) := by decide +kernel
theorem dX9_makeTick_93 : decode cX9_makeTick 93 = .ok (.irem, 1) := by decide +kernel
theorem dX9_makeTick_94 : decode cX9_makeTick 94 = .ok (.iadd, 1) := by decide +kernel
theorem dX9_makeTick_95 : decode cX9_makeTick 95 = .ok (.aload_n 0, 1) := by decide +kernel
theorem dX9_makeTick_96 : decode cX9_makeTick 96 = .ok (.getfield 7, 3) := by decide +kernel
theorem dX9_makeTick_99 : decode cX9_makeTick 99 = .ok (.bipush 12, 2) := by decide +kernel
theorem dX9_makeTick_101 : decode cX9_makeTick 101 = .ok (.iload_n 1, 1) := by decide +kernel
theorem dX9_makeTick_102 : decode cX9_makeTick 102 = .ok (.imul, 1) := by decide +kernel
theorem dX9_makeTick_103 : decode cX9_makeTick 103 = .ok (.bipush 6, 2) := by decide +kernel
theorem dX9_makeTick_105 : decode cX9_makeTick 105 = .ok (.iadd, 1) := by decide +kernel
theorem dX9_makeTick_106 : decode cX9_makeTick 106 = .ok (.iaload, 1) := by decide +kernel
theorem dX9_makeTick_107 : decode cX9_makeTick 107 = .ok (.iastore, 1) := by decide +kernel
theorem dX9_makeTick_108 : decode cX9_makeTick 108 = .ok (.aload_n 0, 1) := by decide +kernel
theorem dX9_makeTick_109 : decode cX9_makeTick 109 = .ok (.getfield 7, 3) := by decide +kernel
theorem dX9_makeTick_112 : decode cX9_makeTick 112 = .ok (.bipush 12, 2) := by decide +kernel
theorem dX9_makeTick_114 : decode cX9_makeTick 114 = .ok (.iload_n 1, 1) := by decide +kernel
theorem dX9_makeTick_115 : decode cX9_makeTick 115 = .ok (.imul, 1) := by decide +kernel
theorem dX9_makeTick_116 : decode cX9_makeTick 116 = .ok (.bipush 7, 2) := by decide +kernel
theorem dX9_makeTick_118 : decode cX9_makeTick 118 = .ok (.iadd, 1) := by decide +kernel
theorem dX9_makeTick_119 : decode cX9_makeTick 119 = .ok (.aload_n 0, 1) := by decide +kernel
theorem dX9_makeTick_120 : decode cX9_makeTick 120 = .ok (.getfield 7, 3) := by decide +kernel
theorem dX9_makeTick_123 : decode cX9_makeTick 123 = .ok (.bipush 12, 2) := by decide +kernel
theorem dX9_makeTick_125 : decode cX9_makeTick 125 = .ok (.iload_n 1, 1) := by decide +kernel
theorem dX9_makeTick_126 : decode cX9_makeTick 126 = .ok (.imul, 1) := by decide +kernel
theorem dX9_makeTick_127 : decode cX9_makeTick 127 = .ok (.bipush 7, 2) := by decide +kernel
theorem dX9_makeTick_129 : decode cX9_makeTick 129 = .ok (.iadd, 1) := by decide +kernel
theorem dX9_makeTick_130 : decode cX9_makeTick 130 = .ok (.iaload, 1) := by decide +kernel
theorem dX9_makeTick_131 : decode cX9_makeTick 131 = .ok (.aload_n 0, 1) := by decide +kernel
theorem dX9_makeTick_132 : decode cX9_makeTick 132 = .ok (.iload_n 1, 1) := by decide +kernel
theorem dX9_makeTick_133 : decode cX9_makeTick 133 = .ok (.invokevirtual 92, 3) := by decide +kernel
theorem dX9_makeTick_136 : decode cX9_makeTick 136 = .ok (.aload_n 0, 1) := by decide +kernel
theorem dX9_makeTick_137 : decode cX9_makeTick 137 = .ok (.getfield 7, 3) := by decide +kernel
theorem dX9_makeTick_140 : decode cX9_makeTick 140 = .ok (.bipush 12, 2) := by decide +kernel
theorem dX9_makeTick_142 : decode cX9_makeTick 142 = .ok (.iload_n 1, 1) := by decide +kernel
theorem dX9_makeTick_143 : decode cX9_makeTick 143 = .ok (.imul, 1) := by decide +kernel
theorem dX9_makeTick_144 : decode cX9_makeTick 144 = .ok (.iconst 3, 1) := by decide +kernel
theorem dX9_makeTick_145 : decode cX9_makeTick 145 = .ok (.iadd, 1) := by decide +kernel
theorem dX9_makeTick_146 : decode cX9_makeTick 146 = .ok (.iaload, 1) := by decide +kernel
theorem dX9_makeTick_147 : decode cX9_makeTick 147 = .ok (.invokestatic 80, 3) := by decide +kernel
theorem dX9_makeTick_150 : decode cX9_makeTick 150 = .ok (.iastore, 1) := by decide +kernel
theorem dX9_makeTick_151 : decode cX9_makeTick 151 = .ok (.iinc 1 1, 3) := by decide +kernel
theorem dX9_makeTick_154 : decode cX9_makeTick 154 = .ok (.goto (-95), 3) := by decide +kernel
theorem dX9_makeTick_157 : decode cX9_makeTick 157 = .ok (.iconst 0, 1) := by decide +kernel
theorem dX9_makeTick_158 : decode cX9_makeTick 158 = .ok (.istore_n 1, 1) := by decide +kernel
theorem dX9_makeTick_159 : decode cX9_makeTick 159 = .ok (.iload_n 1, 1) := by decide +kernel
theorem dX9_makeTick_160 : decode cX9_makeTick 160 = .ok (.iconst 3, 1) := by decide +kernel
theorem dX9_makeTick_161 : decode cX9_makeTick 161 = .ok (.if_icmp .ge 14, 3) := by decide +kernel
theorem dX9_makeTick_164 : decode cX9_makeTick 164 = .ok (.aload_n 0, 1) := by decide +kernel
theorem dX9_makeTick_165 : decode cX9_makeTick 165 = .ok (.iload_n 1, 1) := by decide +kernel
theorem dX9_makeTick_166 : decode cX9_makeTick 166 = .ok (.invokevirtual 96, 3) := by decide +kernel
theorem dX9_makeTick_169 : decode cX9_makeTick 169 = .ok (.iinc 1 1, 3) := by decide +kernel
theorem dX9_makeTick_172 : decode cX9_makeTick 172 = .ok (.goto (-13), 3) := by decide +kernel
theorem dX9_makeTick_175 : decode cX9_makeTick 175 = .ok (.iconst 0, 1) := by decide +kernel
theorem dX9_makeTick_176 : decode cX9_makeTick 176 = .ok (.istore_n 1, 1) := by decide +kernel
theorem dX9_makeTick_177 : decode cX9_makeTick 177 = .ok (.iconst 0, 1) := by decide +kernel
theorem dX9_makeTick_178 : decode cX9_makeTick 178 = .ok (.istore_n 2, 1) := by decide +kernel
theorem dX9_makeTick_179 : decode cX9_makeTick 179 = .ok (.iload_n 2, 1) := by decide +kernel
theorem dX9_makeTick_180 : decode cX9_makeTick 180 = .ok (.aload_n 0, 1) := by decide +kernel
theorem dX9_makeTick_181 : decode cX9_makeTick 181 = .ok (.getfield 7, 3) := by decide +kernel
theorem dX9_makeTick_184 : decode cX9_makeTick 184 = .ok (.sipush 938, 3) := by decide +kernel
theorem dX9_makeTick_187 : decode cX9_makeTick 187 = .ok (.iaload, 1) := by decide +kernel
theorem dX9_makeTick_188 : decode cX9_makeTick 188 = .ok (.if_icmp .ge 27, 3) := by decide +kernel
theorem dX9_makeTick_191 : decode cX9_makeTick 191 = .ok (.aload_n 0, 1) := by decide +kernel
theorem dX9_makeTick_192 : decode cX9_makeTick 192 = .ok (.iload_n 2, 1) := by decide +kernel
theorem dX9_makeTick_193 : decode cX9_makeTick 193 = .ok (.invokevirtual 99, 3) := by decide +kernel
theorem dX9_makeTick_196 : decode cX9_makeTick 196 = .ok (.ifCond .ne 7, 3) := by decide +kernel
theorem dX9_makeTick_199 : decode cX9_makeTick 199 = .ok (.iload_n 1, 1) := by decide +kernel
theorem dX9_makeTick_200 : decode cX9_makeTick 200 = .ok (.ifCond .eq 7, 3) := by decide +kernel
theorem dX9_makeTick_203 : decode cX9_makeTick 203 = .ok (.iconst 1, 1) := by decide +kernel
theorem dX9_makeTick_204 : decode cX9_makeTick 204 = .ok (.goto 4, 3) := by decide +kernel
theorem dX9_makeTick_207 : decode cX9_makeTick 207 = .ok (.iconst 0, 1) := by decide +kernel
theorem dX9_makeTick_208 : decode cX9_makeTick 208 = .ok (.istore_n 1, 1) := by decide +kernel
theorem dX9_makeTick_209 : decode cX9_makeTick 209 = .ok (.iinc 2 1, 3) := by decide +kernel
theorem dX9_makeTick_212 : decode cX9_makeTick 212 = .ok (.goto (-33), 3) := by decide +kernel
theorem dX9_makeTick_215 : decode cX9_makeTick 215 = .ok (.aload_n 0, 1) := by decide +kernel
theorem dX9_makeTick_216 : decode cX9_makeTick 216 = .ok (.getfield 7, 3) := by decide +kernel
theorem dX9_makeTick_219 : decode cX9_makeTick 219 = .ok (.sipush 939, 3) := by decide +kernel
theorem dX9_makeTick_222 : decode cX9_makeTick 222 = .ok (.dup2, 1) := by decide +kernel
theorem dX9_makeTick_223 : decode cX9_makeTick 223 = .ok (.iaload, 1) := by decide +kernel
theorem dX9_makeTick_224 : decode cX9_makeTick 224 = .ok (.iload_n 1, 1) := by decide +kernel
theorem dX9_makeTick_225 : decode cX9_makeTick 225 = .ok (.ifCond .eq 7, 3) := by decide +kernel
theorem dX9_makeTick_228 : decode cX9_makeTick 228 = .ok (.iconst 1, 1) := by decide +kernel
theorem dX9_makeTick_229 : decode cX9_makeTick 229 = .ok (.goto 4, 3) := by decide +kernel
theorem dX9_makeTick_232 : decode cX9_makeTick 232 = .ok (.iconst 0, 1) := by decide +kernel
theorem dX9_makeTick_233 : decode cX9_makeTick 233 = .ok (.iadd, 1) := by decide +kernel
theorem dX9_makeTick_234 : decode cX9_makeTick 234 = .ok (.iastore, 1) := by decide +kernel
theorem dX9_makeTick_235 : decode cX9_makeTick 235 = .ok (.aload_n 0, 1) := by decide +kernel
theorem dX9_makeTick_236 : decode cX9_makeTick 236 = .ok (.getfield 7, 3) := by decide +kernel
theorem dX9_makeTick_239 : decode cX9_makeTick 239 = .ok (.sipush 937, 3) := by decide +kernel
theorem dX9_makeTick_242 : decode cX9_makeTick 242 = .ok (.dup2, 1) := by decide +kernel
theorem dX9_makeTick_243 : decode cX9_makeTick 243 = .ok (.iaload, 1) := by decide +kernel
theorem dX9_makeTick_244 : decode cX9_makeTick 244 = .ok (.iconst 1, 1) := by decide +kernel
theorem dX9_makeTick_245 : decode cX9_makeTick 245 = .ok (.iadd, 1) := by decide +kernel
theorem dX9_makeTick_246 : decode cX9_makeTick 246 = .ok (.iastore, 1) := by decide +kernel
theorem dX9_makeTick_247 : decode cX9_makeTick 247 = .ok (.return_, 1) := by decide +kernel
theorem dX9_command_0 : decode cX9_command 0 = .ok (.iload_n 1, 1) := by decide +kernel
theorem dX9_command_1 : decode cX9_command 1 = .ok (.iload_n 2, 1) := by decide +kernel
theorem dX9_command_2 : decode cX9_command 2 = .ok (.invokestatic 63, 3) := by decide +kernel
theorem dX9_command_5 : decode cX9_command 5 = .ok (.ifCond .ne 6, 3) := by decide +kernel
theorem dX9_command_8 : decode cX9_command 8 = .ok (.bipush (-2), 2) := by decide +kernel
theorem dX9_command_10 : decode cX9_command 10 = .ok (.ireturn, 1) := by decide +kernel
theorem dX9_command_11 : decode cX9_command 11 = .ok (.aload_n 0, 1) := by decide +kernel
theorem dX9_command_12 : decode cX9_command 12 = .ok (.iload_n 1, 1) := by decide +kernel
theorem dX9_command_13 : decode cX9_command 13 = .ok (.iload_n 2, 1) := by decide +kernel
theorem dX9_command_14 : decode cX9_command 14 = .ok (.invokevirtual 85, 3) := by decide +kernel
theorem dX9_command_17 : decode cX9_command 17 = .ok (.aload_n 0, 1) := by decide +kernel
theorem dX9_command_18 : decode cX9_command 18 = .ok (.getfield 7, 3) := by decide +kernel
theorem dX9_command_21 : decode cX9_command 21 = .ok (.sipush 937, 3) := by decide +kernel
theorem dX9_command_24 : decode cX9_command 24 = .ok (.iaload, 1) := by decide +kernel
theorem dX9_command_25 : decode cX9_command 25 = .ok (.ireturn, 1) := by decide +kernel
theorem dX9_tick_0 : decode cX9_tick 0 = .ok (.iload_n 1, 1) := by decide +kernel
theorem dX9_tick_1 : decode cX9_tick 1 = .ok (.iconst 1, 1) := by decide +kernel
theorem dX9_tick_2 : decode cX9_tick 2 = .ok (.sipush 2000, 3) := by decide +kernel
theorem dX9_tick_5 : decode cX9_tick 5 = .ok (.invokestatic 33, 3) := by decide +kernel
theorem dX9_tick_8 : decode cX9_tick 8 = .ok (.ifCond .ne 6, 3) := by decide +kernel
theorem dX9_tick_11 : decode cX9_tick 11 = .ok (.bipush (-2), 2) := by decide +kernel
theorem dX9_tick_13 : decode cX9_tick 13 = .ok (.ireturn, 1) := by decide +kernel
theorem dX9_tick_14 : decode cX9_tick 14 = .ok (.aload_n 0, 1) := by decide +kernel
theorem dX9_tick_15 : decode cX9_tick 15 = .ok (.getfield 7, 3) := by decide +kernel
theorem dX9_tick_18 : decode cX9_tick 18 = .ok (.sipush 937, 3) := by decide +kernel
theorem dX9_tick_21 : decode cX9_tick 21 = .ok (.iaload, 1) := by decide +kernel
theorem dX9_tick_22 : decode cX9_tick 22 = .ok (.iload_n 1, 1) := by decide +kernel
theorem dX9_tick_23 : decode cX9_tick 23 = .ok (.iadd, 1) := by decide +kernel
theorem dX9_tick_24 : decode cX9_tick 24 = .ok (.ldc 102, 2) := by decide +kernel
theorem dX9_tick_26 : decode cX9_tick 26 = .ok (.if_icmp .le 6, 3) := by decide +kernel
theorem dX9_tick_29 : decode cX9_tick 29 = .ok (.bipush (-5), 2) := by decide +kernel
theorem dX9_tick_31 : decode cX9_tick 31 = .ok (.ireturn, 1) := by decide +kernel
theorem dX9_tick_32 : decode cX9_tick 32 = .ok (.iconst 0, 1) := by decide +kernel
theorem dX9_tick_33 : decode cX9_tick 33 = .ok (.istore_n 2, 1) := by decide +kernel
theorem dX9_tick_34 : decode cX9_tick 34 = .ok (.iload_n 2, 1) := by decide +kernel
theorem dX9_tick_35 : decode cX9_tick 35 = .ok (.iload_n 1, 1) := by decide +kernel
theorem dX9_tick_36 : decode cX9_tick 36 = .ok (.if_icmp .ge 13, 3) := by decide +kernel
theorem dX9_tick_39 : decode cX9_tick 39 = .ok (.aload_n 0, 1) := by decide +kernel
theorem dX9_tick_40 : decode cX9_tick 40 = .ok (.invokevirtual 103, 3) := by decide +kernel
theorem dX9_tick_43 : decode cX9_tick 43 = .ok (.iinc 2 1, 3) := by decide +kernel
theorem dX9_tick_46 : decode cX9_tick 46 = .ok (.goto (-12), 3) := by decide +kernel
theorem dX9_tick_49 : decode cX9_tick 49 = .ok (.aload_n 0, 1) := by decide +kernel
theorem dX9_tick_50 : decode cX9_tick 50 = .ok (.getfield 7, 3) := by decide +kernel
theorem dX9_tick_53 : decode cX9_tick 53 = .ok (.sipush 937, 3) := by decide +kernel
theorem dX9_tick_56 : decode cX9_tick 56 = .ok (.iaload, 1) := by decide +kernel
theorem dX9_tick_57 : decode cX9_tick 57 = .ok (.ireturn, 1) := by decide +kernel
theorem dX9_rewind_0 : decode cX9_rewind 0 = .ok (.aload_n 0, 1) := by decide +kernel
theorem dX9_rewind_1 : decode cX9_rewind 1 = .ok (.getfield 7, 3) := by decide +kernel
theorem dX9_rewind_4 : decode cX9_rewind 4 = .ok (.sipush 937, 3) := by decide +kernel
theorem dX9_rewind_7 : decode cX9_rewind 7 = .ok (.iaload, 1) := by decide +kernel
theorem dX9_rewind_8 : decode cX9_rewind 8 = .ok (.istore_n 1, 1) := by decide +kernel
theorem dX9_rewind_9 : decode cX9_rewind 9 = .ok (.iconst 0, 1) := by decide +kernel
theorem dX9_rewind_10 : decode cX9_rewind 10 = .ok (.istore_n 2, 1) := by decide +kernel
theorem dX9_rewind_11 : decode cX9_rewind 11 = .ok (.iload_n 2, 1) := by decide +kernel
theorem dX9_rewind_12 : decode cX9_rewind 12 = .ok (.bipush 12, 2) := by decide +kernel
theorem dX9_rewind_14 : decode cX9_rewind 14 = .ok (.if_icmp .ge 36, 3) := by decide +kernel
theorem dX9_rewind_17 : decode cX9_rewind 17 = .ok (.bipush 6, 2) := by decide +kernel
theorem dX9_rewind_19 : decode cX9_rewind 19 = .ok (.istore_n 3, 1) := by decide +kernel
theorem dX9_rewind_20 : decode cX9_rewind 20 = .ok (.iload_n 3, 1) := by decide +kernel
theorem dX9_rewind_21 : decode cX9_rewind 21 = .ok (.bipush 11, 2) := by decide +kernel
theorem dX9_rewind_23 : decode cX9_rewind 23 = .ok (.if_icmp .gt 21, 3) := by decide +kernel
theorem dX9_rewind_26 : decode cX9_rewind 26 = .ok (.aload_n 0, 1) := by decide +kernel
theorem dX9_rewind_27 : decode cX9_rewind 27 = .ok (.getfield 7, 3) := by decide +kernel
theorem dX9_rewind_30 : decode cX9_rewind 30 = .ok (.bipush 12, 2) := by decide +kernel
theorem dX9_rewind_32 : decode cX9_rewind 32 = .ok (.iload_n 2, 1) := by decide +kernel
theorem dX9_rewind_33 : decode cX9_rewind 33 = .ok (.imul, 1) := by decide +kernel
theorem dX9_rewind_34 : decode cX9_rewind 34 = .ok (.iload_n 3, 1) := by decide +kernel
theorem dX9_rewind_35 : decode cX9_rewind 35 = .ok (.iadd, 1) := by decide +kernel
theorem dX9_rewind_36 : decode cX9_rewind 36 = .ok (.iconst 0, 1) := by decide +kernel
theorem dX9_rewind_37 : decode cX9_rewind 37 = .ok (.iastore, 1) := by decide +kernel
theorem dX9_rewind_38 : decode cX9_rewind 38 = .ok (.iinc 3 1, 3) := by decide +kernel
theorem dX9_rewind_41 : decode cX9_rewind 41 = .ok (.goto (-21), 3) := by decide +kernel
theorem dX9_rewind_44 : decode cX9_rewind 44 = .ok (.iinc 2 1, 3) := by decide +kernel
theorem dX9_rewind_47 : decode cX9_rewind 47 = .ok (.goto (-36), 3) := by decide +kernel
theorem dX9_rewind_50 : decode cX9_rewind 50 = .ok (.iconst 0, 1) := by decide +kernel
theorem dX9_rewind_51 : decode cX9_rewind 51 = .ok (.istore_n 2, 1) := by decide +kernel
theorem dX9_rewind_52 : decode cX9_rewind 52 = .ok (.iload_n 2, 1) := by decide +kernel
theorem dX9_rewind_53 : decode cX9_rewind 53 = .ok (.iconst 3, 1) := by decide +kernel
theorem dX9_rewind_54 : decode cX9_rewind 54 = .ok (.if_icmp .ge 37, 3) := by decide +kernel
theorem dX9_rewind_57 : decode cX9_rewind 57 = .ok (.iconst 2, 1) := by decide +kernel
theorem dX9_rewind_58 : decode cX9_rewind 58 = .ok (.istore_n 3, 1) := by decide +kernel
theorem dX9_rewind_59 : decode cX9_rewind 59 = .ok (.iload_n 3, 1) := by decide +kernel
theorem dX9_rewind_60 : decode cX9_rewind 60 = .ok (.iconst 4, 1) := by decide +kernel
theorem dX9_rewind_61 : decode cX9_rewind 61 = .ok (.if_icmp .gt 24, 3) := by decide +kernel
theorem dX9_rewind_64 : decode cX9_rewind 64 = .ok (.aload_n 0, 1) := by decide +kernel
theorem dX9_rewind_65 : decode cX9_rewind 65 = .ok (.getfield 7, 3) := by decide +kernel
theorem dX9_rewind_68 : decode cX9_rewind 68 = .ok (.sipush 912, 3) := by decide +kernel
theorem dX9_rewind_71 : decode cX9_rewind 71 = .ok (.iconst 5, 1) := by decide +kernel
theorem dX9_rewind_72 : decode cX9_rewind 72 = .ok (.iload_n 2, 1) := by decide +kernel
theorem dX9_rewind_73 : decode cX9_rewind 73 = .ok (.imul, 1) := by decide +kernel
theorem dX9_rewind_74 : decode cX9_rewind 74 = .ok (.iadd, 1) := by decide +kernel
theorem dX9_rewind_75 : decode cX9_rewind 75 = .ok (.iload_n 3, 1) := by decide +kernel
theorem dX9_rewind_76 : decode cX9_rewind 76 = .ok (.iadd, 1) := by decide +kernel
theorem dX9_rewind_77 : decode cX9_rewind 77 = .ok (.iconst 0, 1) := by decide +kernel
theorem dX9_rewind_78 : decode cX9_rewind 78 = .ok (.iastore, 1) := by decide +kernel
theorem dX9_rewind_79 : decode cX9_rewind 79 = .ok (.iinc 3 1, 3) := by decide +kernel
theorem dX9_rewind_82 : decode cX9_rewind 82 = .ok (.goto (-23), 3) := by decide +kernel
theorem dX9_rewind_85 : decode cX9_rewind 85 = .ok (.iinc 2 1, 3) := by decide +kernel
theorem dX9_rewind_88 : decode cX9_rewind 88 = .ok (.goto (-36), 3) := by decide +kernel
theorem dX9_rewind_91 : decode cX9_rewind 91 = .ok (.aload_n 0, 1) := by decide +kernel
theorem dX9_rewind_92 : decode cX9_rewind 92 = .ok (.getfield 7, 3) := by decide +kernel
theorem dX9_rewind_95 : decode cX9_rewind 95 = .ok (.sipush 934, 3) := by decide +kernel
theorem dX9_rewind_98 : decode cX9_rewind 98 = .ok (.iconst 0, 1) := by decide +kernel
theorem dX9_rewind_99 : decode cX9_rewind 99 = .ok (.iastore, 1) := by decide +kernel
theorem dX9_rewind_100 : decode cX9_rewind 100 = .ok (.aload_n 0, 1) := by decide +kernel
theorem dX9_rewind_101 : decode cX9_rewind 101 = .ok (.getfield 7, 3) := by decide +kernel
theorem dX9_rewind_104 : decode cX9_rewind 104 = .ok (.sipush 935, 3) := by decide +kernel
theorem dX9_rewind_107 : decode cX9_rewind 107 = .ok (.iconst 0, 1) := by decide +kernel
theorem dX9_rewind_108 : decode cX9_rewind 108 = .ok (.iastore, 1) := by decide +kernel
theorem dX9_rewind_109 : decode cX9_rewind 109 = .ok (.aload_n 0, 1) := by decide +kernel
theorem dX9_rewind_110 : decode cX9_rewind 110 = .ok (.getfield 7, 3) := by decide +kernel
theorem dX9_rewind_113 : decode cX9_rewind 113 = .ok (.sipush 936, 3) := by decide +kernel
theorem dX9_rewind_116 : decode cX9_rewind 116 = .ok (.iconst 0, 1) := by decide +kernel
theorem dX9_rewind_117 : decode cX9_rewind 117 = .ok (.iastore, 1) := by decide +kernel
theorem dX9_rewind_118 : decode cX9_rewind 118 = .ok (.aload_n 0, 1) := by decide +kernel
theorem dX9_rewind_119 : decode cX9_rewind 119 = .ok (.getfield 7, 3) := by decide +kernel
theorem dX9_rewind_122 : decode cX9_rewind 122 = .ok (.sipush 937, 3) := by decide +kernel
theorem dX9_rewind_125 : decode cX9_rewind 125 = .ok (.iconst 0, 1) := by decide +kernel
theorem dX9_rewind_126 : decode cX9_rewind 126 = .ok (.iastore, 1) := by decide +kernel
theorem dX9_rewind_127 : decode cX9_rewind 127 = .ok (.aload_n 0, 1) := by decide +kernel
theorem dX9_rewind_128 : decode cX9_rewind 128 = .ok (.getfield 7, 3) := by decide +kernel
theorem dX9_rewind_131 : decode cX9_rewind 131 = .ok (.sipush 939, 3) := by decide +kernel
theorem dX9_rewind_134 : decode cX9_rewind 134 = .ok (.iconst 0, 1) := by decide +kernel
theorem dX9_rewind_135 : decode cX9_rewind 135 = .ok (.iastore, 1) := by decide +kernel
theorem dX9_rewind_136 : decode cX9_rewind 136 = .ok (.iload_n 1, 1) := by decide +kernel
theorem dX9_rewind_137 : decode cX9_rewind 137 = .ok (.ireturn, 1) := by decide +kernel
theorem dX9_spray_0 : decode cX9_spray 0 = .ok (.aload_n 0, 1) := by decide +kernel
theorem dX9_spray_1 : decode cX9_spray 1 = .ok (.iload_n 1, 1) := by decide +kernel
theorem dX9_spray_2 : decode cX9_spray 2 = .ok (.invokevirtual 37, 3) := by decide +kernel
theorem dX9_spray_5 : decode cX9_spray 5 = .ok (.ifCond .ne 5, 3) := by decide +kernel
theorem dX9_spray_8 : decode cX9_spray 8 = .ok (.iconst (-1), 1) := by decide +kernel
theorem dX9_spray_9 : decode cX9_spray 9 = .ok (.ireturn, 1) := by decide +kernel
theorem dX9_spray_10 : decode cX9_spray 10 = .ok (.iload_n 2, 1) := by decide +kernel
theorem dX9_spray_11 : decode cX9_spray 11 = .ok (.iconst 0, 1) := by decide +kernel
theorem dX9_spray_12 : decode cX9_spray 12 = .ok (.bipush 11, 2) := by decide +kernel
theorem dX9_spray_14 : decode cX9_spray 14 = .ok (.invokestatic 33, 3) := by decide +kernel
theorem dX9_spray_17 : decode cX9_spray 17 = .ok (.ifCond .eq 17, 3) := by decide +kernel
theorem dX9_spray_20 : decode cX9_spray 20 = .ok (.aload_n 0, 1) := by decide +kernel
theorem dX9_spray_21 : decode cX9_spray 21 = .ok (.getfield 7, 3) := by decide +kernel
theorem dX9_spray_24 : decode cX9_spray 24 = .ok (.bipush 12, 2) := by decide +kernel
theorem dX9_spray_26 : decode cX9_spray 26 = .ok (.iload_n 1, 1) := by decide +kernel
theorem dX9_spray_27 : decode cX9_spray 27 = .ok (.imul, 1) := by decide +kernel
theorem dX9_spray_28 : decode cX9_spray 28 = .ok (.iload_n 2, 1) := by decide +kernel
theorem dX9_spray_29 : decode cX9_spray 29 = .ok (.iadd, 1) := by decide +kernel
theorem dX9_spray_30 : decode cX9_spray 30 = .ok (.iaload, 1) := by decide +kernel
theorem dX9_spray_31 : decode cX9_spray 31 = .ok (.goto 5, 3) := by decide +kernel
theorem dX9_spray_34 : decode cX9_spray 34 = .ok (.bipush (-2), 2) := by decide +kernel
theorem dX9_spray_36 : decode cX9_spray 36 = .ok (.ireturn, 1) := by decide +kernel
theorem dX9_pressure_0 : decode cX9_pressure 0 = .ok (.iload_n 1, 1) := by decide +kernel
theorem dX9_pressure_1 : decode cX9_pressure 1 = .ok (.invokestatic 49, 3) := by decide +kernel
theorem dX9_pressure_4 : decode cX9_pressure 4 = .ok (.ifCond .ne 5, 3) := by decide +kernel
theorem dX9_pressure_7 : decode cX9_pressure 7 = .ok (.iconst (-1), 1) := by decide +kernel
theorem dX9_pressure_8 : decode cX9_pressure 8 = .ok (.ireturn, 1) := by decide +kernel
theorem dX9_pressure_9 : decode cX9_pressure 9 = .ok (.iload_n 2, 1) := by decide +kernel
theorem dX9_pressure_10 : decode cX9_pressure 10 = .ok (.iconst 0, 1) := by decide +kernel
theorem dX9_pressure_11 : decode cX9_pressure 11 = .ok (.iconst 4, 1) := by decide +kernel
theorem dX9_pressure_12 : decode cX9_pressure 12 = .ok (.invokestatic 33, 3) := by decide +kernel
theorem dX9_pressure_15 : decode cX9_pressure 15 = .ok (.ifCond .eq 20, 3) := by decide +kernel
theorem dX9_pressure_18 : decode cX9_pressure 18 = .ok (.aload_n 0, 1) := by decide +kernel
theorem dX9_pressure_19 : decode cX9_pressure 19 = .ok (.getfield 7, 3) := by decide +kernel
theorem dX9_pressure_22 : decode cX9_pressure 22 = .ok (.sipush 912, 3) := by decide +kernel
theorem dX9_pressure_25 : decode cX9_pressure 25 = .ok (.iconst 5, 1) := by decide +kernel
theorem dX9_pressure_26 : decode cX9_pressure 26 = .ok (.iload_n 1, 1) := by decide +kernel
theorem dX9_pressure_27 : decode cX9_pressure 27 = .ok (.imul, 1) := by decide +kernel
theorem dX9_pressure_28 : decode cX9_pressure 28 = .ok (.iadd, 1) := by decide +kernel
theorem dX9_pressure_29 : decode cX9_pressure 29 = .ok (.iload_n 2, 1) := by decide +kernel
theorem dX9_pressure_30 : decode cX9_pressure 30 = .ok (.iadd, 1) := by decide +kernel
theorem dX9_pressure_31 : decode cX9_pressure 31 = .ok (.iaload, 1) := by decide +kernel
theorem dX9_pressure_32 : decode cX9_pressure 32 = .ok (.goto 5, 3) := by decide +kernel
theorem dX9_pressure_35 : decode cX9_pressure 35 = .ok (.bipush (-2), 2) := by decide +kernel
theorem dX9_pressure_37 : decode cX9_pressure 37 = .ok (.ireturn, 1) := by decide +kernel
theorem dX9_load_0 : decode cX9_load 0 = .ok (.iload_n 1, 1) := by decide +kernel
theorem dX9_load_1 : decode cX9_load 1 = .ok (.invokestatic 49, 3) := by decide +kernel
theorem dX9_load_4 : decode cX9_load 4 = .ok (.ifCond .ne 6, 3) := by decide +kernel
theorem dX9_load_7 : decode cX9_load 7 = .ok (.ldc 106, 2) := by decide +kernel
theorem dX9_load_9 : decode cX9_load 9 = .ok (.freturn, 1) := by decide +kernel
theorem dX9_load_10 : decode cX9_load 10 = .ok (.sipush 912, 3) := by decide +kernel
theorem dX9_load_13 : decode cX9_load 13 = .ok (.iconst 5, 1) := by decide +kernel
theorem dX9_load_14 : decode cX9_load 14 = .ok (.iload_n 1, 1) := by decide +kernel
theorem dX9_load_15 : decode cX9_load 15 = .ok (.imul, 1) := by decide +kernel
theorem dX9_load_16 : decode cX9_load 16 = .ok (.iadd, 1) := by decide +kernel
theorem dX9_load_17 : decode cX9_load 17 = .ok (.istore_n 2, 1) := by decide +kernel
theorem dX9_load_18 : decode cX9_load 18 = .ok (.aload_n 0, 1) := by decide +kernel
theorem dX9_load_19 : decode cX9_load 19 = .ok (.getfield 7, 3) := by decide +kernel
theorem dX9_load_22 : decode cX9_load 22 = .ok (.iload_n 2, 1) := by decide +kernel
theorem dX9_load_23 : decode cX9_load 23 = .ok (.iconst 0, 1) := by decide +kernel
theorem dX9_load_24 : decode cX9_load 24 = .ok (.iadd, 1) := by decide +kernel
theorem dX9_load_25 : decode cX9_load 25 = .ok (.iaload, 1) := by decide +kernel
theorem dX9_load_26 : decode cX9_load 26 = .ok (.ifCond .ne 7, 3) := by decide +kernel
theorem dX9_load_29 : decode cX9_load 29 = .ok (.fconst 0, 1) := by decide +kernel
theorem dX9_load_30 : decode cX9_load 30 = .ok (.goto 26, 3) := by decide +kernel
theorem dX9_load_33 : decode cX9_load 33 = .ok (.aload_n 0, 1) := by decide +kernel
theorem dX9_load_34 : decode cX9_load 34 = .ok (.getfield 7, 3) := by decide +kernel
theorem dX9_load_37 : decode cX9_load 37 = .ok (.iload_n 2, 1) := by decide +kernel
theorem dX9_load_38 : decode cX9_load 38 = .ok (.iconst 2, 1) := by decide +kernel
theorem dX9_load_39 : decode cX9_load 39 = .ok (.iadd, 1) := by decide +kernel
theorem dX9_load_40 : decode cX9_load 40 = .ok (.iaload, 1) := by decide +kernel
theorem dX9_load_41 : decode cX9_load 41 = .ok (.i2f, 1) := by decide +kernel
theorem dX9_load_42 : decode cX9_load 42 = .ok (.sipush 1000, 3) := by decide +kernel
theorem dX9_load_45 : decode cX9_load 45 = .ok (.aload_n 0, 1) := by decide +kernel
theorem dX9_load_46 : decode cX9_load 46 = .ok (.getfield 7, 3) := by decide +kernel
theorem dX9_load_49 : decode cX9_load 49 = .ok (.iload_n 2, 1) := by decide +kernel
theorem dX9_load_50 : decode cX9_load 50 = .ok (.iconst 0, 1) := by decide +kernel
theorem dX9_load_51 : decode cX9_load 51 = .ok (.iadd, 1) := by decide +kernel
theorem dX9_load_52 : decode cX9_load 52 = .ok (.iaload, 1) := by decide +kernel
theorem dX9_load_53 : decode cX9_load 53 = .ok (.imul, 1) := by decide +kernel
theorem dX9_load_54 : decode cX9_load 54 = .ok (.i2f, 1) := by decide +kernel
theorem dX9_load_55 : decode cX9_load 55 = .ok (.fdiv, 1) := by decide +kernel
theorem dX9_load_56 : decode cX9_load 56 = .ok (.freturn, 1) := by decide +kernel
theorem dX9_meanHeight_0 : decode cX9_meanHeight 0 = .ok (.iconst 0, 1) := by decide +kernel
theorem dX9_meanHeight_1 : decode cX9_meanHeight 1 = .ok (.istore_n 1, 1) := by decide +kernel
theorem dX9_meanHeight_2 : decode cX9_meanHeight 2 = .ok (.iconst 0, 1) := by decide +kernel
theorem dX9_meanHeight_3 : decode cX9_meanHeight 3 = .ok (.istore_n 2, 1) := by decide +kernel
theorem dX9_meanHeight_4 : decode cX9_meanHeight 4 = .ok (.iload_n 2, 1) := by decide +kernel
theorem dX9_meanHeight_5 : decode cX9_meanHeight 5 = .ok (.aload_n 0, 1) := by decide +kernel
theorem dX9_meanHeight_6 : decode cX9_meanHeight 6 = .ok (.getfield 7, 3) := by decide +kernel
theorem dX9_meanHeight_9 : decode cX9_meanHeight 9 = .ok (.sipush 938, 3) := by decide +kernel
theorem dX9_meanHeight_12 : decode cX9_meanHeight 12 = .ok (.iaload, 1) := by decide +kernel
theorem dX9_meanHeight_13 : decode cX9_meanHeight 13 = .ok (.if_icmp .ge 24, 3) := by decide +kernel
theorem dX9_meanHeight_16 : decode cX9_meanHeight 16 = .ok (.iload_n 1, 1) := by decide +kernel
theorem dX9_meanHeight_17 : decode cX9_meanHeight 17 = .ok (.aload_n 0, 1) := by decide +kernel
theorem dX9_meanHeight_18 : decode cX9_meanHeight 18 = .ok (.getfield 7, 3) := by decide +kernel
theorem dX9_meanHeight_21 : decode cX9_meanHeight 21 = .ok (.bipush 12, 2) := by decide +kernel
theorem dX9_meanHeight_23 : decode cX9_meanHeight 23 = .ok (.iload_n 2, 1) := by decide +kernel
theorem dX9_meanHeight_24 : decode cX9_meanHeight 24 = .ok (.imul, 1) := by decide +kernel
theorem dX9_meanHeight_25 : decode cX9_meanHeight 25 = .ok (.bipush 9, 2) := by decide +kernel
theorem dX9_meanHeight_27 : decode cX9_meanHeight 27 = .ok (.iadd, 1) := by decide +kernel
theorem dX9_meanHeight_28 : decode cX9_meanHeight 28 = .ok (.iaload, 1) := by decide +kernel
theorem dX9_meanHeight_29 : decode cX9_meanHeight 29 = .ok (.iadd, 1) := by decide +kernel
theorem dX9_meanHeight_30 : decode cX9_meanHeight 30 = .ok (.istore_n 1, 1) := by decide +kernel
theorem dX9_meanHeight_31 : decode cX9_meanHeight 31 = .ok (.iinc 2 1, 3) := by decide +kernel
theorem dX9_meanHeight_34 : decode cX9_meanHeight 34 = .ok (.goto (-30), 3) := by decide +kernel
theorem dX9_meanHeight_37 : decode cX9_meanHeight 37 = .ok (.iload_n 1, 1) := by decide +kernel
theorem dX9_meanHeight_38 : decode cX9_meanHeight 38 = .ok (.i2d, 1) := by decide +kernel
theorem dX9_meanHeight_39 : decode cX9_meanHeight 39 = .ok (.aload_n 0, 1) := by decide +kernel
theorem dX9_meanHeight_40 : decode cX9_meanHeight 40 = .ok (.getfield 7, 3) := by decide +kernel
theorem dX9_meanHeight_43 : decode cX9_meanHeight 43 = .ok (.sipush 938, 3) := by decide +kernel
theorem dX9_meanHeight_46 : decode cX9_meanHeight 46 = .ok (.iaload, 1) := by decide +kernel
theorem dX9_meanHeight_47 : decode cX9_meanHeight 47 = .ok (.i2d, 1) := by decide +kernel
theorem dX9_meanHeight_48 : decode cX9_meanHeight 48 = .ok (.ddiv, 1) := by decide +kernel
theorem dX9_meanHeight_49 : decode cX9_meanHeight 49 = .ok (.dreturn, 1) := by decide +kernel
theorem dX9_nextCue_0 : decode cX9_nextCue 0 = .ok (.iconst 0, 1) := by decide +kernel
theorem dX9_nextCue_1 : decode cX9_nextCue 1 = .ok (.istore_n 1, 1) := by decide +kernel
theorem dX9_nextCue_2 : decode cX9_nextCue 2 = .ok (.iload_n 1, 1) := by decide +kernel
theorem dX9_nextCue_3 : decode cX9_nextCue 3 = .ok (.aload_n 0, 1) := by decide +kernel
theorem dX9_nextCue_4 : decode cX9_nextCue 4 = .ok (.getfield 7, 3) := by decide +kernel
theorem dX9_nextCue_7 : decode cX9_nextCue 7 = .ok (.sipush 940, 3) := by decide +kernel
theorem dX9_nextCue_10 : decode cX9_nextCue 10 = .ok (.iaload, 1) := by decide +kernel
theorem dX9_nextCue_11 : decode cX9_nextCue 11 = .ok (.if_icmp .ge 28, 3) := by decide +kernel
theorem dX9_nextCue_14 : decode cX9_nextCue 14 = .ok (.aload_n 0, 1) := by decide +kernel
theorem dX9_nextCue_15 : decode cX9_nextCue 15 = .ok (.iload_n 1, 1) := by decide +kernel
theorem dX9_nextCue_16 : decode cX9_nextCue 16 = .ok (.iconst 0, 1) := by decide +kernel
theorem dX9_nextCue_17 : decode cX9_nextCue 17 = .ok (.invokevirtual 55, 3) := by decide +kernel
theorem dX9_nextCue_20 : decode cX9_nextCue 20 = .ok (.aload_n 0, 1) := by decide +kernel
theorem dX9_nextCue_21 : decode cX9_nextCue 21 = .ok (.getfield 7, 3) := by decide +kernel
theorem dX9_nextCue_24 : decode cX9_nextCue 24 = .ok (.sipush 937, 3) := by decide +kernel
theorem dX9_nextCue_27 : decode cX9_nextCue 27 = .ok (.iaload, 1) := by decide +kernel
theorem dX9_nextCue_28 : decode cX9_nextCue 28 = .ok (.if_icmp .lt 5, 3) := by decide +kernel
theorem dX9_nextCue_31 : decode cX9_nextCue 31 = .ok (.iload_n 1, 1) := by decide +kernel
theorem dX9_nextCue_32 : decode cX9_nextCue 32 = .ok (.ireturn, 1) := by decide +kernel
theorem dX9_nextCue_33 : decode cX9_nextCue 33 = .ok (.iinc 1 1, 3) := by decide +kernel
theorem dX9_nextCue_36 : decode cX9_nextCue 36 = .ok (.goto (-34), 3) := by decide +kernel
theorem dX9_nextCue_39 : decode cX9_nextCue 39 = .ok (.bipush (-6), 2) := by decide +kernel
theorem dX9_nextCue_41 : decode cX9_nextCue 41 = .ok (.ireturn, 1) := by decide +kernel
theorem dX9_state_0 : decode cX9_state 0 = .ok (.iload_n 1, 1) := by decide +kernel
theorem dX9_state_1 : decode cX9_state 1 = .ok (.bipush 10, 2) := by decide +kernel
theorem dX9_state_3 : decode cX9_state 3 = .ok (.bipush 15, 2) := by decide +kernel
theorem dX9_state_5 : decode cX9_state 5 = .ok (.invokestatic 33, 3) := by decide +kernel
theorem dX9_state_8 : decode cX9_state 8 = .ok (.ifCond .eq 17, 3) := by decide +kernel
theorem dX9_state_11 : decode cX9_state 11 = .ok (.aload_n 0, 1) := by decide +kernel
theorem dX9_state_12 : decode cX9_state 12 = .ok (.getfield 7, 3) := by decide +kernel
theorem dX9_state_15 : decode cX9_state 15 = .ok (.sipush 927, 3) := by decide +kernel
theorem dX9_state_18 : decode cX9_state 18 = .ok (.iload_n 1, 1) := by decide +kernel
theorem dX9_state_19 : decode cX9_state 19 = .ok (.iadd, 1) := by decide +kernel
theorem dX9_state_20 : decode cX9_state 20 = .ok (.bipush 10, 2) := by decide +kernel
theorem dX9_state_22 : decode cX9_state 22 = .ok (.isub, 1) := by decide +kernel
theorem dX9_state_23 : decode cX9_state 23 = .ok (.iaload, 1) := by decide +kernel
theorem dX9_state_24 : decode cX9_state 24 = .ok (.ireturn, 1) := by decide +kernel
theorem dX9_state_25 : decode cX9_state 25 = .ok (.iload_n 1, 1) := by decide +kernel
theorem dX9_state_26 : decode cX9_state 26 = .ok (.tableswitch 140 0 9 #[54, 63, 72, 81, 90, 103, 112, 121, 130, 135], 54) := by decide +kernel
theorem dX9_state_80 : decode cX9_state 80 = .ok (.aload_n 0, 1) := by decide +kernel
theorem dX9_state_81 : decode cX9_state 81 = .ok (.getfield 7, 3) := by decide +kernel
theorem dX9_state_84 : decode cX9_state 84 = .ok (.sipush 937, 3) := by decide +kernel
theorem dX9_state_87 : decode cX9_state 87 = .ok (.iaload, 1) := by decide +kernel
theorem dX9_state_88 : decode cX9_state 88 = .ok (.ireturn, 1) := by decide +kernel
theorem dX9_state_89 : decode cX9_state 89 = .ok (.aload_n 0, 1) := by decide +kernel
theorem dX9_state_90 : decode cX9_state 90 = .ok (.getfield 7, 3) := by decide +kernel
theorem dX9_state_93 : decode cX9_state 93 = .ok (.sipush 938, 3) := by decide +kernel
theorem dX9_state_96 : decode cX9_state 96 = .ok (.iaload, 1) := by decide +kernel
theorem dX9_state_97 : decode cX9_state 97 = .ok (.ireturn, 1) := by decide +kernel
theorem dX9_state_98 : decode cX9_state 98 = .ok (.aload_n 0, 1) := by decide +kernel
theorem dX9_state_99 : decode cX9_state 99 = .ok (.getfield 7, 3) := by decide +kernel
theorem dX9_state_102 : decode cX9_state 102 = .ok (.sipush 940, 3) := by decide +kernel
theorem dX9_state_105 : decode cX9_state 105 = .ok (.iaload, 1) := by decide +kernel
theorem dX9_state_106 : decode cX9_state 106 = .ok (.ireturn, 1) := by decide +kernel
theorem dX9_state_107 : decode cX9_state 107 = .ok (.aload_n 0, 1) := by decide +kernel
theorem dX9_state_108 : decode cX9_state 108 = .ok (.getfield 7, 3) := by decide +kernel
theorem dX9_state_111 : decode cX9_state 111 = .ok (.sipush 933, 3) := by decide +kernel
theorem dX9_state_114 : decode cX9_state 114 = .ok (.iaload, 1) := by decide +kernel
theorem dX9_state_115 : decode cX9_state 115 = .ok (.ireturn, 1) := by decide +kernel
theorem dX9_state_116 : decode cX9_state 116 = .ok (.aload_n 0, 1) := by decide +kernel
theorem dX9_state_117 : decode cX9_state 117 = .ok (.getfield 7, 3) := by decide +kernel
theorem dX9_state_120 : decode cX9_state 120 = .ok (.sipush 934, 3) := by decide +kernel
theorem dX9_state_123 : decode cX9_state 123 = .ok (.iaload, 1) := by decide +kernel
theorem dX9_state_124 : decode cX9_state 124 = .ok (.sipush 1024, 3) := by decide +kernel
theorem dX9_state_127 : decode cX9_state 127 = .ok (.idiv, 1) := by decide +kernel
theorem dX9_state_128 : decode cX9_state 128 = .ok (.ireturn, 1) := by decide +kernel
theorem dX9_state_129 : decode cX9_state 129 = .ok (.aload_n 0, 1) := by decide +kernel
theorem dX9_state_130 : decode cX9_state 130 = .ok (.getfield 7, 3) := by decide +kernel
theorem dX9_state_133 : decode cX9_state 133 = .ok (.sipush 935, 3) := by decide +kernel
theorem dX9_state_136 : decode cX9_state 136 = .ok (.iaload, 1) := by decide +kernel
theorem dX9_state_137 : decode cX9_state 137 = .ok (.ireturn, 1) := by decide +kernel
theorem dX9_state_138 : decode cX9_state 138 = .ok (.aload_n 0, 1) := by decide +kernel
theorem dX9_state_139 : decode cX9_state 139 = .ok (.getfield 7, 3) := by decide +kernel
theorem dX9_state_142 : decode cX9_state 142 = .ok (.sipush 936, 3) := by decide +kernel
theorem dX9_state_145 : decode cX9_state 145 = .ok (.iaload, 1) := by decide +kernel
theorem dX9_state_146 : decode cX9_state 146 = .ok (.ireturn, 1) := by decide +kernel
theorem dX9_state_147 : decode cX9_state 147 = .ok (.aload_n 0, 1) := by decide +kernel
theorem dX9_state_148 : decode cX9_state 148 = .ok (.getfield 7, 3) := by decide +kernel
theorem dX9_state_151 : decode cX9_state 151 = .ok (.sipush 939, 3) := by decide +kernel
theorem dX9_state_154 : decode cX9_state 154 = .ok (.iaload, 1) := by decide +kernel
theorem dX9_state_155 : decode cX9_state 155 = .ok (.ireturn, 1) := by decide +kernel
theorem dX9_state_156 : decode cX9_state 156 = .ok (.aload_n 0, 1) := by decide +kernel
theorem dX9_state_157 : decode cX9_state 157 = .ok (.invokevirtual 107, 3) := by decide +kernel
theorem dX9_state_160 : decode cX9_state 160 = .ok (.ireturn, 1) := by decide +kernel
theorem dX9_state_161 : decode cX9_state 161 = .ok (.aload_n 0, 1) := by decide +kernel
theorem dX9_state_162 : decode cX9_state 162 = .ok (.getfield 111, 3) := by decide +kernel
theorem dX9_state_165 : decode cX9_state 165 = .ok (.ireturn, 1) := by decide +kernel
theorem dX9_state_166 : decode cX9_state 166 = .ok (.bipush (-2), 2) := by decide +kernel
theorem dX9_state_168 : decode cX9_state 168 = .ok (.ireturn, 1) := by decide +kernel
theorem dX9_greatestNow_0 : decode cX9_greatestNow 0 = .ok (.iconst 0, 1) := by decide +kernel
theorem dX9_greatestNow_1 : decode cX9_greatestNow 1 = .ok (.istore_n 1, 1) := by decide +kernel
theorem dX9_greatestNow_2 : decode cX9_greatestNow 2 = .ok (.iconst 0, 1) := by decide +kernel
theorem dX9_greatestNow_3 : decode cX9_greatestNow 3 = .ok (.istore_n 2, 1) := by decide +kernel
theorem dX9_greatestNow_4 : decode cX9_greatestNow 4 = .ok (.iload_n 2, 1) := by decide +kernel
theorem dX9_greatestNow_5 : decode cX9_greatestNow 5 = .ok (.aload_n 0, 1) := by decide +kernel
theorem dX9_greatestNow_6 : decode cX9_greatestNow 6 = .ok (.getfield 7, 3) := by decide +kernel
theorem dX9_greatestNow_9 : decode cX9_greatestNow 9 = .ok (.sipush 938, 3) := by decide +kernel
theorem dX9_greatestNow_12 : decode cX9_greatestNow 12 = .ok (.iaload, 1) := by decide +kernel
theorem dX9_greatestNow_13 : decode cX9_greatestNow 13 = .ok (.if_icmp .ge 42, 3) := by decide +kernel
theorem dX9_greatestNow_16 : decode cX9_greatestNow 16 = .ok (.aload_n 0, 1) := by decide +kernel
theorem dX9_greatestNow_17 : decode cX9_greatestNow 17 = .ok (.getfield 7, 3) := by decide +kernel
theorem dX9_greatestNow_20 : decode cX9_greatestNow 20 = .ok (.bipush 12, 2) := by decide +kernel
theorem dX9_greatestNow_22 : decode cX9_greatestNow 22 = .ok (.iload_n 2, 1) := by decide +kernel
theorem dX9_greatestNow_23 : decode cX9_greatestNow 23 = .ok (.imul, 1) := by decide +kernel
theorem dX9_greatestNow_24 : decode cX9_greatestNow 24 = .ok (.bipush 9, 2) := by decide +kernel
theorem dX9_greatestNow_26 : decode cX9_greatestNow 26 = .ok (.iadd, 1) := by decide +kernel
theorem dX9_greatestNow_27 : decode cX9_greatestNow 27 = .ok (.iaload, 1) := by decide +kernel
theorem dX9_greatestNow_28 : decode cX9_greatestNow 28 = .ok (.iload_n 1, 1) := by decide +kernel
theorem dX9_greatestNow_29 : decode cX9_greatestNow 29 = .ok (.if_icmp .le 18, 3) := by decide +kernel
theorem dX9_greatestNow_32 : decode cX9_greatestNow 32 = .ok (.aload_n 0, 1) := by decide +kernel
theorem dX9_greatestNow_33 : decode cX9_greatestNow 33 = .ok (.getfield 7, 3) := by decide +kernel
theorem dX9_greatestNow_36 : decode cX9_greatestNow 36 = .ok (.bipush 12, 2) := by decide +kernel
theorem dX9_greatestNow_38 : decode cX9_greatestNow 38 = .ok (.iload_n 2, 1) := by decide +kernel
theorem dX9_greatestNow_39 : decode cX9_greatestNow 39 = .ok (.imul, 1) := by decide +kernel
theorem dX9_greatestNow_40 : decode cX9_greatestNow 40 = .ok (.bipush 9, 2) := by decide +kernel
theorem dX9_greatestNow_42 : decode cX9_greatestNow 42 = .ok (.iadd, 1) := by decide +kernel
theorem dX9_greatestNow_43 : decode cX9_greatestNow 43 = .ok (.iaload, 1) := by decide +kernel
theorem dX9_greatestNow_44 : decode cX9_greatestNow 44 = .ok (.goto 4, 3) := by decide +kernel
theorem dX9_greatestNow_47 : decode cX9_greatestNow 47 = .ok (.iload_n 1, 1) := by decide +kernel
theorem dX9_greatestNow_48 : decode cX9_greatestNow 48 = .ok (.istore_n 1, 1) := by decide +kernel
theorem dX9_greatestNow_49 : decode cX9_greatestNow 49 = .ok (.iinc 2 1, 3) := by decide +kernel
theorem dX9_greatestNow_52 : decode cX9_greatestNow 52 = .ok (.goto (-48), 3) := by decide +kernel
theorem dX9_greatestNow_55 : decode cX9_greatestNow 55 = .ok (.iload_n 1, 1) := by decide +kernel
theorem dX9_greatestNow_56 : decode cX9_greatestNow 56 = .ok (.ireturn, 1) := by decide +kernel
theorem dX9_ahead_0 : decode cX9_ahead 0 = .ok (.iload_n 1, 1) := by decide +kernel
theorem dX9_ahead_1 : decode cX9_ahead 1 = .ok (.iconst 1, 1) := by decide +kernel
theorem dX9_ahead_2 : decode cX9_ahead 2 = .ok (.sipush 1000, 3) := by decide +kernel
theorem dX9_ahead_5 : decode cX9_ahead 5 = .ok (.invokestatic 33, 3) := by decide +kernel
theorem dX9_ahead_8 : decode cX9_ahead 8 = .ok (.ifCond .eq 12, 3) := by decide +kernel
theorem dX9_ahead_11 : decode cX9_ahead 11 = .ok (.iload_n 3, 1) := by decide +kernel
theorem dX9_ahead_12 : decode cX9_ahead 12 = .ok (.iconst 0, 1) := by decide +kernel
theorem dX9_ahead_13 : decode cX9_ahead 13 = .ok (.iconst 4, 1) := by decide +kernel
theorem dX9_ahead_14 : decode cX9_ahead 14 = .ok (.invokestatic 33, 3) := by decide +kernel
theorem dX9_ahead_17 : decode cX9_ahead 17 = .ok (.ifCond .ne 6, 3) := by decide +kernel
theorem dX9_ahead_20 : decode cX9_ahead 20 = .ok (.bipush (-2), 2) := by decide +kernel
theorem dX9_ahead_22 : decode cX9_ahead 22 = .ok (.ireturn, 1) := by decide +kernel
theorem dX9_ahead_23 : decode cX9_ahead 23 = .ok (.iload_n 3, 1) := by decide +kernel
theorem dX9_ahead_24 : decode cX9_ahead 24 = .ok (.iconst 3, 1) := by decide +kernel
theorem dX9_ahead_25 : decode cX9_ahead 25 = .ok (.if_icmp .ge 12, 3) := by decide +kernel
theorem dX9_ahead_28 : decode cX9_ahead 28 = .ok (.iload_n 2, 1) := by decide +kernel
theorem dX9_ahead_29 : decode cX9_ahead 29 = .ok (.invokestatic 49, 3) := by decide +kernel
theorem dX9_ahead_32 : decode cX9_ahead 32 = .ok (.ifCond .ne 5, 3) := by decide +kernel
theorem dX9_ahead_35 : decode cX9_ahead 35 = .ok (.iconst (-1), 1) := by decide +kernel
theorem dX9_ahead_36 : decode cX9_ahead 36 = .ok (.ireturn, 1) := by decide +kernel
theorem dX9_ahead_37 : decode cX9_ahead 37 = .ok (.aload_n 0, 1) := by decide +kernel
theorem dX9_ahead_38 : decode cX9_ahead 38 = .ok (.invokevirtual 115, 3) := by decide +kernel
theorem dX9_ahead_41 : decode cX9_ahead 41 = .ok (.sipush 912, 3) := by decide +kernel
theorem dX9_ahead_44 : decode cX9_ahead 44 = .ok (.iconst 5, 1) := by decide +kernel
theorem dX9_ahead_45 : decode cX9_ahead 45 = .ok (.iload_n 3, 1) := by decide +kernel
theorem dX9_ahead_46 : decode cX9_ahead 46 = .ok (.iconst 3, 1) := by decide +kernel
theorem dX9_ahead_47 : decode cX9_ahead 47 = .ok (.if_icmp .ge 7, 3) := by decide +kernel
theorem dX9_ahead_50 : decode cX9_ahead 50 = .ok (.iload_n 2, 1) := by decide +kernel
theorem dX9_ahead_51 : decode cX9_ahead 51 = .ok (.goto 4, 3) := by decide +kernel
theorem dX9_ahead_54 : decode cX9_ahead 54 = .ok (.iconst 0, 1) := by decide +kernel
theorem dX9_ahead_55 : decode cX9_ahead 55 = .ok (.imul, 1) := by decide +kernel
theorem dX9_ahead_56 : decode cX9_ahead 56 = .ok (.iadd, 1) := by decide +kernel
theorem dX9_ahead_57 : decode cX9_ahead 57 = .ok (.istore 4, 2) := by decide +kernel
theorem dX9_ahead_59 : decode cX9_ahead 59 = .ok (.iconst 0, 1) := by decide +kernel
theorem dX9_ahead_60 : decode cX9_ahead 60 = .ok (.istore 5, 2) := by decide +kernel
theorem dX9_ahead_62 : decode cX9_ahead 62 = .ok (.iconst 0, 1) := by decide +kernel
theorem dX9_ahead_63 : decode cX9_ahead 63 = .ok (.istore 6, 2) := by decide +kernel
theorem dX9_ahead_65 : decode cX9_ahead 65 = .ok (.bipush (-6), 2) := by decide +kernel
theorem dX9_ahead_67 : decode cX9_ahead 67 = .ok (.istore 7, 2) := by decide +kernel
theorem dX9_ahead_69 : decode cX9_ahead 69 = .ok (.iconst 0, 1) := by decide +kernel
theorem dX9_ahead_70 : decode cX9_ahead 70 = .ok (.istore 8, 2) := by decide +kernel
theorem dX9_ahead_72 : decode cX9_ahead 72 = .ok (.iconst 0, 1) := by decide +kernel
theorem dX9_ahead_73 : decode cX9_ahead 73 = .ok (.istore 9, 2) := by decide +kernel
theorem dX9_ahead_75 : decode cX9_ahead 75 = .ok (.iload 9, 2) := by decide +kernel
theorem dX9_ahead_77 : decode cX9_ahead 77 = .ok (.iload_n 1, 1) := by decide +kernel
theorem dX9_ahead_78 : decode cX9_ahead 78 = .ok (.if_icmp .ge 121, 3) := by decide +kernel
theorem dX9_ahead_81 : decode cX9_ahead 81 = .ok (.aload_n 0, 1) := by decide +kernel
theorem dX9_ahead_82 : decode cX9_ahead 82 = .ok (.getfield 7, 3) := by decide +kernel
theorem dX9_ahead_85 : decode cX9_ahead 85 = .ok (.iload 4, 2) := by decide +kernel
theorem dX9_ahead_87 : decode cX9_ahead 87 = .ok (.iconst 4, 1) := by decide +kernel
theorem dX9_ahead_88 : decode cX9_ahead 88 = .ok (.iadd, 1) := by decide +kernel
theorem dX9_ahead_89 : decode cX9_ahead 89 = .ok (.iaload, 1) := by decide +kernel
theorem dX9_ahead_90 : decode cX9_ahead 90 = .ok (.istore 10, 2) := by decide +kernel
theorem dX9_ahead_92 : decode cX9_ahead 92 = .ok (.aload_n 0, 1) := by decide +kernel
theorem dX9_ahead_93 : decode cX9_ahead 93 = .ok (.invokevirtual 103, 3) := by decide +kernel
theorem dX9_ahead_96 : decode cX9_ahead 96 = .ok (.aload_n 0, 1) := by decide +kernel
theorem dX9_ahead_97 : decode cX9_ahead 97 = .ok (.getfield 7, 3) := by decide +kernel
theorem dX9_ahead_100 : decode cX9_ahead 100 = .ok (.iload 4, 2) := by decide +kernel
theorem dX9_ahead_102 : decode cX9_ahead 102 = .ok (.iconst 3, 1) := by decide +kernel
theorem dX9_ahead_103 : decode cX9_ahead 103 = .ok (.iadd, 1) := by decide +kernel
theorem dX9_ahead_104 : decode cX9_ahead 104 = .ok (.iaload, 1) := by decide +kernel
theorem dX9_ahead_105 : decode cX9_ahead 105 = .ok (.iload 5, 2) := by decide +kernel
theorem dX9_ahead_107 : decode cX9_ahead 107 = .ok (.if_icmp .le 15, 3) := by decide +kernel
theorem dX9_ahead_110 : decode cX9_ahead 110 = .ok (.aload_n 0, 1) := by decide +kernel
theorem dX9_ahead_111 : decode cX9_ahead 111 = .ok (.getfield 7, 3) := by decide +kernel
theorem dX9_ahead_114 : decode cX9_ahead 114 = .ok (.iload 4, 2) := by decide +kernel
theorem dX9_ahead_116 : decode cX9_ahead 116 = .ok (.iconst 3, 1) := by decide +kernel
theorem dX9_ahead_117 : decode cX9_ahead 117 = .ok (.iadd, 1) := by decide +kernel
theorem dX9_ahead_118 : decode cX9_ahead 118 = .ok (.iaload, 1) := by decide +kernel
theorem dX9_ahead_119 : decode cX9_ahead 119 = .ok (.goto 5, 3) := by decide +kernel
theorem dX9_ahead_122 : decode cX9_ahead 122 = .ok (.iload 5, 2) := by decide +kernel
theorem dX9_ahead_124 : decode cX9_ahead 124 = .ok (.istore 5, 2) := by decide +kernel
theorem dX9_ahead_126 : decode cX9_ahead 126 = .ok (.iload 6, 2) := by decide +kernel
theorem dX9_ahead_128 : decode cX9_ahead 128 = .ok (.aload_n 0, 1) := by decide +kernel
theorem dX9_ahead_129 : decode cX9_ahead 129 = .ok (.getfield 7, 3) := by decide +kernel
theorem dX9_ahead_132 : decode cX9_ahead 132 = .ok (.iload 4, 2) := by decide +kernel
theorem dX9_ahead_134 : decode cX9_ahead 134 = .ok (.iconst 4, 1) := by decide +kernel
theorem dX9_ahead_135 : decode cX9_ahead 135 = .ok (.iadd, 1) := by decide +kernel
theorem dX9_ahead_136 : decode cX9_ahead 136 = .ok (.iaload, 1) := by decide +kernel
theorem dX9_ahead_137 : decode cX9_ahead 137 = .ok (.iload 10, 2) := by decide +kernel
theorem dX9_ahead_139 : decode cX9_ahead 139 = .ok (.isub, 1) := by decide +kernel
theorem dX9_ahead_140 : decode cX9_ahead 140 = .ok (.iadd, 1) := by decide +kernel
theorem dX9_ahead_141 : decode cX9_ahead 141 = .ok (.istore 6, 2) := by decide +kernel
theorem dX9_ahead_143 : decode cX9_ahead 143 = .ok (.iload 7, 2) := by decide +kernel
theorem dX9_ahead_145 : decode cX9_ahead 145 = .ok (.ifCond .ge 22, 3) := by decide +kernel
theorem dX9_ahead_148 : decode cX9_ahead 148 = .ok (.aload_n 0, 1) := by decide +kernel
theorem dX9_ahead_149 : decode cX9_ahead 149 = .ok (.getfield 7, 3) := by decide +kernel
theorem dX9_ahead_152 : decode cX9_ahead 152 = .ok (.iload 4, 2) := by decide +kernel
theorem dX9_ahead_154 : decode cX9_ahead 154 = .ok (.iconst 4, 1) := by decide +kernel
theorem dX9_ahead_155 : decode cX9_ahead 155 = .ok (.iadd, 1) := by decide +kernel
theorem dX9_ahead_156 : decode cX9_ahead 156 = .ok (.iaload, 1) := by decide +kernel
theorem dX9_ahead_157 : decode cX9_ahead 157 = .ok (.iload 10, 2) := by decide +kernel
theorem dX9_ahead_159 : decode cX9_ahead 159 = .ok (.if_icmp .le 8, 3) := by decide +kernel
theorem dX9_ahead_162 : decode cX9_ahead 162 = .ok (.iload 9, 2) := by decide +kernel
theorem dX9_ahead_164 : decode cX9_ahead 164 = .ok (.goto 5, 3) := by decide +kernel
theorem dX9_ahead_167 : decode cX9_ahead 167 = .ok (.iload 7, 2) := by decide +kernel
theorem dX9_ahead_169 : decode cX9_ahead 169 = .ok (.istore 7, 2) := by decide +kernel
theorem dX9_ahead_171 : decode cX9_ahead 171 = .ok (.aload_n 0, 1) := by decide +kernel
theorem dX9_ahead_172 : decode cX9_ahead 172 = .ok (.invokevirtual 118, 3) := by decide +kernel
theorem dX9_ahead_175 : decode cX9_ahead 175 = .ok (.istore 11, 2) := by decide +kernel
theorem dX9_ahead_177 : decode cX9_ahead 177 = .ok (.iload 11, 2) := by decide +kernel
theorem dX9_ahead_179 : decode cX9_ahead 179 = .ok (.iload 8, 2) := by decide +kernel
theorem dX9_ahead_181 : decode cX9_ahead 181 = .ok (.if_icmp .le 8, 3) := by decide +kernel
theorem dX9_ahead_184 : decode cX9_ahead 184 = .ok (.iload 11, 2) := by decide +kernel
theorem dX9_ahead_186 : decode cX9_ahead 186 = .ok (.goto 5, 3) := by decide +kernel
theorem dX9_ahead_189 : decode cX9_ahead 189 = .ok (.iload 8, 2) := by decide +kernel
theorem dX9_ahead_191 : decode cX9_ahead 191 = .ok (.istore 8, 2) := by decide +kernel
theorem dX9_ahead_193 : decode cX9_ahead 193 = .ok (.iinc 9 1, 3) := by decide +kernel
theorem dX9_ahead_196 : decode cX9_ahead 196 = .ok (.goto (-121), 3) := by decide +kernel
theorem dX9_ahead_199 : decode cX9_ahead 199 = .ok (.aload_n 0, 1) := by decide +kernel
theorem dX9_ahead_200 : decode cX9_ahead 200 = .ok (.getfield 7, 3) := by decide +kernel
theorem dX9_ahead_203 : decode cX9_ahead 203 = .ok (.sipush 939, 3) := by decide +kernel
theorem dX9_ahead_206 : decode cX9_ahead 206 = .ok (.iaload, 1) := by decide +kernel
theorem dX9_ahead_207 : decode cX9_ahead 207 = .ok (.aload_n 0, 1) := by decide +kernel
theorem dX9_ahead_208 : decode cX9_ahead 208 = .ok (.getfield 13, 3) := by decide +kernel
theorem dX9_ahead_211 : decode cX9_ahead 211 = .ok (.sipush 939, 3) := by decide +kernel
theorem dX9_ahead_214 : decode cX9_ahead 214 = .ok (.iaload, 1) := by decide +kernel
theorem dX9_ahead_215 : decode cX9_ahead 215 = .ok (.isub, 1) := by decide +kernel
theorem dX9_ahead_216 : decode cX9_ahead 216 = .ok (.istore 9, 2) := by decide +kernel
theorem dX9_ahead_218 : decode cX9_ahead 218 = .ok (.aload_n 0, 1) := by decide +kernel
theorem dX9_ahead_219 : decode cX9_ahead 219 = .ok (.invokevirtual 121, 3) := by decide +kernel
theorem dX9_ahead_222 : decode cX9_ahead 222 = .ok (.iload_n 3, 1) := by decide +kernel
theorem dX9_ahead_223 : decode cX9_ahead 223 = .ok (.ifCond .ne 8, 3) := by decide +kernel
theorem dX9_ahead_226 : decode cX9_ahead 226 = .ok (.iload 5, 2) := by decide +kernel
theorem dX9_ahead_228 : decode cX9_ahead 228 = .ok (.goto 35, 3) := by decide +kernel
theorem dX9_ahead_231 : decode cX9_ahead 231 = .ok (.iload_n 3, 1) := by decide +kernel
theorem dX9_ahead_232 : decode cX9_ahead 232 = .ok (.iconst 1, 1) := by decide +kernel
theorem dX9_ahead_233 : decode cX9_ahead 233 = .ok (.if_icmp .ne 8, 3) := by decide +kernel
theorem dX9_ahead_236 : decode cX9_ahead 236 = .ok (.iload 6, 2) := by decide +kernel
theorem dX9_ahead_238 : decode cX9_ahead 238 = .ok (.goto 25, 3) := by decide +kernel
theorem dX9_ahead_241 : decode cX9_ahead 241 = .ok (.iload_n 3, 1) := by decide +kernel
theorem dX9_ahead_242 : decode cX9_ahead 242 = .ok (.iconst 2, 1) := by decide +kernel
theorem dX9_ahead_243 : decode cX9_ahead 243 = .ok (.if_icmp .ne 8, 3) := by decide +kernel
theorem dX9_ahead_246 : decode cX9_ahead 246 = .ok (.iload 7, 2) := by decide +kernel
theorem dX9_ahead_248 : decode cX9_ahead 248 = .ok (.goto 15, 3) := by decide +kernel
theorem dX9_ahead_251 : decode cX9_ahead 251 = .ok (.iload_n 3, 1) := by decide +kernel
theorem dX9_ahead_252 : decode cX9_ahead 252 = .ok (.iconst 3, 1) := by decide +kernel
theorem dX9_ahead_253 : decode cX9_ahead 253 = .ok (.if_icmp .ne 8, 3) := by decide +kernel
theorem dX9_ahead_256 : decode cX9_ahead 256 = .ok (.iload 9, 2) := by decide +kernel
theorem dX9_ahead_258 : decode cX9_ahead 258 = .ok (.goto 5, 3) := by decide +kernel
theorem dX9_ahead_261 : decode cX9_ahead 261 = .ok (.iload 8, 2) := by decide +kernel
theorem dX9_ahead_263 : decode cX9_ahead 263 = .ok (.ireturn, 1) := by decide +kernel
theorem dX9_shorts_0 : decode cX9_shorts 0 = .ok (.iconst 0, 1) := by decide +kernel
theorem dX9_shorts_1 : decode cX9_shorts 1 = .ok (.istore_n 1, 1) := by decide +kernel
theorem dX9_shorts_2 : decode cX9_shorts 2 = .ok (.iconst 0, 1) := by decide +kernel
theorem dX9_shorts_3 : decode cX9_shorts 3 = .ok (.istore_n 2, 1) := by decide +kernel
theorem dX9_shorts_4 : decode cX9_shorts 4 = .ok (.iload_n 2, 1) := by decide +kernel
theorem dX9_shorts_5 : decode cX9_shorts 5 = .ok (.iconst 3, 1) := by decide +kernel
theorem dX9_shorts_6 : decode cX9_shorts 6 = .ok (.if_icmp .ge 26, 3) := by decide +kernel
theorem dX9_shorts_9 : decode cX9_shorts 9 = .ok (.iload_n 1, 1) := by decide +kernel
theorem dX9_shorts_10 : decode cX9_shorts 10 = .ok (.aload_n 0, 1) := by decide +kernel
theorem dX9_shorts_11 : decode cX9_shorts 11 = .ok (.getfield 7, 3) := by decide +kernel
theorem dX9_shorts_14 : decode cX9_shorts 14 = .ok (.sipush 912, 3) := by decide +kernel
theorem dX9_shorts_17 : decode cX9_shorts 17 = .ok (.iconst 5, 1) := by decide +kernel
theorem dX9_shorts_18 : decode cX9_shorts 18 = .ok (.iload_n 2, 1) := by decide +kernel
theorem dX9_shorts_19 : decode cX9_shorts 19 = .ok (.imul, 1) := by decide +kernel
theorem dX9_shorts_20 : decode cX9_shorts 20 = .ok (.iadd, 1) := by decide +kernel
theorem dX9_shorts_21 : decode cX9_shorts 21 = .ok (.iconst 4, 1) := by decide +kernel
theorem dX9_shorts_22 : decode cX9_shorts 22 = .ok (.iadd, 1) := by decide +kernel
theorem dX9_shorts_23 : decode cX9_shorts 23 = .ok (.iaload, 1) := by decide +kernel
theorem dX9_shorts_24 : decode cX9_shorts 24 = .ok (.iadd, 1) := by decide +kernel
theorem dX9_shorts_25 : decode cX9_shorts 25 = .ok (.istore_n 1, 1) := by decide +kernel
theorem dX9_shorts_26 : decode cX9_shorts 26 = .ok (.iinc 2 1, 3) := by decide +kernel
theorem dX9_shorts_29 : decode cX9_shorts 29 = .ok (.goto (-25), 3) := by decide +kernel
theorem dX9_shorts_32 : decode cX9_shorts 32 = .ok (.iload_n 1, 1) := by decide +kernel
theorem dX9_shorts_33 : decode cX9_shorts 33 = .ok (.ireturn, 1) := by decide +kernel
theorem dX9_isEnough_0 : decode cX9_isEnough 0 = .ok (.aload_n 0, 1) := by decide +kernel
theorem dX9_isEnough_1 : decode cX9_isEnough 1 = .ok (.invokevirtual 124, 3) := by decide +kernel
theorem dX9_isEnough_4 : decode cX9_isEnough 4 = .ok (.istore_n 2, 1) := by decide +kernel
theorem dX9_isEnough_5 : decode cX9_isEnough 5 = .ok (.iconst 0, 1) := by decide +kernel
theorem dX9_isEnough_6 : decode cX9_isEnough 6 = .ok (.istore_n 3, 1) := by decide +kernel
theorem dX9_isEnough_7 : decode cX9_isEnough 7 = .ok (.iload_n 3, 1) := by decide +kernel
theorem dX9_isEnough_8 : decode cX9_isEnough 8 = .ok (.iload_n 1, 1) := by decide +kernel
theorem dX9_isEnough_9 : decode cX9_isEnough 9 = .ok (.if_icmp .ge 21, 3) := by decide +kernel
theorem dX9_isEnough_12 : decode cX9_isEnough 12 = .ok (.aload_n 0, 1) := by decide +kernel
theorem dX9_isEnough_13 : decode cX9_isEnough 13 = .ok (.invokevirtual 124, 3) := by decide +kernel
theorem dX9_isEnough_16 : decode cX9_isEnough 16 = .ok (.iload_n 2, 1) := by decide +kernel
theorem dX9_isEnough_17 : decode cX9_isEnough 17 = .ok (.if_icmp .ne 13, 3) := by decide +kernel
theorem dX9_isEnough_20 : decode cX9_isEnough 20 = .ok (.aload_n 0, 1) := by decide +kernel
theorem dX9_isEnough_21 : decode cX9_isEnough 21 = .ok (.invokevirtual 103, 3) := by decide +kernel
theorem dX9_isEnough_24 : decode cX9_isEnough 24 = .ok (.iinc 3 1, 3) := by decide +kernel
theorem dX9_isEnough_27 : decode cX9_isEnough 27 = .ok (.goto (-20), 3) := by decide +kernel
theorem dX9_isEnough_30 : decode cX9_isEnough 30 = .ok (.aload_n 0, 1) := by decide +kernel
theorem dX9_isEnough_31 : decode cX9_isEnough 31 = .ok (.invokevirtual 124, 3) := by decide +kernel
theorem dX9_isEnough_34 : decode cX9_isEnough 34 = .ok (.iload_n 2, 1) := by decide +kernel
theorem dX9_isEnough_35 : decode cX9_isEnough 35 = .ok (.if_icmp .ne 7, 3) := by decide +kernel
theorem dX9_isEnough_38 : decode cX9_isEnough 38 = .ok (.iconst 1, 1) := by decide +kernel
theorem dX9_isEnough_39 : decode cX9_isEnough 39 = .ok (.goto 4, 3) := by decide +kernel
theorem dX9_isEnough_42 : decode cX9_isEnough 42 = .ok (.iconst 0, 1) := by decide +kernel
theorem dX9_isEnough_43 : decode cX9_isEnough 43 = .ok (.ireturn, 1) := by decide +kernel
theorem dX9_delay_0 : decode cX9_delay 0 = .ok (.aload_n 0, 1) := by decide +kernel
theorem dX9_delay_1 : decode cX9_delay 1 = .ok (.iload_n 1, 1) := by decide +kernel
theorem dX9_delay_2 : decode cX9_delay 2 = .ok (.invokevirtual 70, 3) := by decide +kernel
theorem dX9_delay_5 : decode cX9_delay 5 = .ok (.ifCond .ne 5, 3) := by decide +kernel
theorem dX9_delay_8 : decode cX9_delay 8 = .ok (.iconst (-1), 1) := by decide +kernel
theorem dX9_delay_9 : decode cX9_delay 9 = .ok (.ireturn, 1) := by decide +kernel
theorem dX9_delay_10 : decode cX9_delay 10 = .ok (.iload_n 2, 1) := by decide +kernel
theorem dX9_delay_11 : decode cX9_delay 11 = .ok (.iconst 0, 1) := by decide +kernel
theorem dX9_delay_12 : decode cX9_delay 12 = .ok (.bipush 100, 2) := by decide +kernel
theorem dX9_delay_14 : decode cX9_delay 14 = .ok (.invokestatic 33, 3) := by decide +kernel
theorem dX9_delay_17 : decode cX9_delay 17 = .ok (.ifCond .eq 14, 3) := by decide +kernel
theorem dX9_delay_20 : decode cX9_delay 20 = .ok (.iload_n 3, 1) := by decide +kernel
theorem dX9_delay_21 : decode cX9_delay 21 = .ok (.iconst 1, 1) := by decide +kernel
theorem dX9_delay_22 : decode cX9_delay 22 = .ok (.sipush 300, 3) := by decide +kernel
theorem dX9_delay_25 : decode cX9_delay 25 = .ok (.invokestatic 33, 3) := by decide +kernel
theorem dX9_delay_28 : decode cX9_delay 28 = .ok (.ifCond .ne 6, 3) := by decide +kernel
theorem dX9_delay_31 : decode cX9_delay 31 = .ok (.bipush (-2), 2) := by decide +kernel
theorem dX9_delay_33 : decode cX9_delay 33 = .ok (.ireturn, 1) := by decide +kernel
theorem dX9_delay_34 : decode cX9_delay 34 = .ok (.aload_n 0, 1) := by decide +kernel
theorem dX9_delay_35 : decode cX9_delay 35 = .ok (.invokevirtual 115, 3) := by decide +kernel
theorem dX9_delay_38 : decode cX9_delay 38 = .ok (.bipush (-6), 2) := by decide +kernel
theorem dX9_delay_40 : decode cX9_delay 40 = .ok (.istore 4, 2) := by decide +kernel
theorem dX9_delay_42 : decode cX9_delay 42 = .ok (.iconst 0, 1) := by decide +kernel
theorem dX9_delay_43 : decode cX9_delay 43 = .ok (.istore 5, 2) := by decide +kernel
theorem dX9_delay_45 : decode cX9_delay 45 = .ok (.iload 5, 2) := by decide +kernel
theorem dX9_delay_47 : decode cX9_delay 47 = .ok (.iload_n 2, 1) := by decide +kernel
theorem dX9_delay_48 : decode cX9_delay 48 = .ok (.if_icmp .gt 58, 3) := by decide +kernel
theorem dX9_delay_51 : decode cX9_delay 51 = .ok (.iload 4, 2) := by decide +kernel
theorem dX9_delay_53 : decode cX9_delay 53 = .ok (.ifCond .ge 53, 3) := by decide +kernel
theorem dX9_delay_56 : decode cX9_delay 56 = .ok (.aload_n 0, 1) := by decide +kernel
theorem dX9_delay_57 : decode cX9_delay 57 = .ok (.iload_n 1, 1) := by decide +kernel
theorem dX9_delay_58 : decode cX9_delay 58 = .ok (.iconst 0, 1) := by decide +kernel
theorem dX9_delay_59 : decode cX9_delay 59 = .ok (.invokevirtual 55, 3) := by decide +kernel
theorem dX9_delay_62 : decode cX9_delay 62 = .ok (.iload 5, 2) := by decide +kernel
theorem dX9_delay_64 : decode cX9_delay 64 = .ok (.iadd, 1) := by decide +kernel
theorem dX9_delay_65 : decode cX9_delay 65 = .ok (.ldc 62, 2) := by decide +kernel
theorem dX9_delay_67 : decode cX9_delay 67 = .ok (.if_icmp .gt 33, 3) := by decide +kernel
theorem dX9_delay_70 : decode cX9_delay 70 = .ok (.aload_n 0, 1) := by decide +kernel
theorem dX9_delay_71 : decode cX9_delay 71 = .ok (.iload_n 1, 1) := by decide +kernel
theorem dX9_delay_72 : decode cX9_delay 72 = .ok (.iload 5, 2) := by decide +kernel
theorem dX9_delay_74 : decode cX9_delay 74 = .ok (.invokevirtual 77, 3) := by decide +kernel
theorem dX9_delay_77 : decode cX9_delay 77 = .ok (.istore 6, 2) := by decide +kernel
theorem dX9_delay_79 : decode cX9_delay 79 = .ok (.aload_n 0, 1) := by decide +kernel
theorem dX9_delay_80 : decode cX9_delay 80 = .ok (.iload_n 3, 1) := by decide +kernel
theorem dX9_delay_81 : decode cX9_delay 81 = .ok (.invokevirtual 127, 3) := by decide +kernel
theorem dX9_delay_84 : decode cX9_delay 84 = .ok (.ifCond .eq 8, 3) := by decide +kernel
theorem dX9_delay_87 : decode cX9_delay 87 = .ok (.iload 5, 2) := by decide +kernel
theorem dX9_delay_89 : decode cX9_delay 89 = .ok (.goto 5, 3) := by decide +kernel
theorem dX9_delay_92 : decode cX9_delay 92 = .ok (.iload 4, 2) := by decide +kernel
theorem dX9_delay_94 : decode cX9_delay 94 = .ok (.istore 4, 2) := by decide +kernel
theorem dX9_delay_96 : decode cX9_delay 96 = .ok (.aload_n 0, 1) := by decide +kernel
theorem dX9_delay_97 : decode cX9_delay 97 = .ok (.invokevirtual 121, 3) := by decide +kernel
theorem dX9_delay_100 : decode cX9_delay 100 = .ok (.iinc 5 1, 3) := by decide +kernel
theorem dX9_delay_103 : decode cX9_delay 103 = .ok (.goto (-58), 3) := by decide +kernel
theorem dX9_delay_106 : decode cX9_delay 106 = .ok (.iload 4, 2) := by decide +kernel
theorem dX9_delay_108 : decode cX9_delay 108 = .ok (.ireturn, 1) := by decide +kernel
theorem dX9_staysDry_0 : decode cX9_staysDry 0 = .ok (.aload_n 0, 1) := by decide +kernel
theorem dX9_staysDry_1 : decode cX9_staysDry 1 = .ok (.getfield 7, 3) := by decide +kernel
theorem dX9_staysDry_4 : decode cX9_staysDry 4 = .ok (.sipush 939, 3) := by decide +kernel
theorem dX9_staysDry_7 : decode cX9_staysDry 7 = .ok (.iaload, 1) := by decide +kernel
theorem dX9_staysDry_8 : decode cX9_staysDry 8 = .ok (.istore_n 2, 1) := by decide +kernel
theorem dX9_staysDry_9 : decode cX9_staysDry 9 = .ok (.iconst 0, 1) := by decide +kernel
theorem dX9_staysDry_10 : decode cX9_staysDry 10 = .ok (.istore_n 3, 1) := by decide +kernel
theorem dX9_staysDry_11 : decode cX9_staysDry 11 = .ok (.iload_n 3, 1) := by decide +kernel
theorem dX9_staysDry_12 : decode cX9_staysDry 12 = .ok (.iload_n 1, 1) := by decide +kernel
theorem dX9_staysDry_13 : decode cX9_staysDry 13 = .ok (.if_icmp .ge 25, 3) := by decide +kernel
theorem dX9_staysDry_16 : decode cX9_staysDry 16 = .ok (.aload_n 0, 1) := by decide +kernel
theorem dX9_staysDry_17 : decode cX9_staysDry 17 = .ok (.getfield 7, 3) := by decide +kernel
theorem dX9_staysDry_20 : decode cX9_staysDry 20 = .ok (.sipush 939, 3) := by decide +kernel
theorem dX9_staysDry_23 : decode cX9_staysDry 23 = .ok (.iaload, 1) := by decide +kernel
theorem dX9_staysDry_24 : decode cX9_staysDry 24 = .ok (.iload_n 2, 1) := by decide +kernel
theorem dX9_staysDry_25 : decode cX9_staysDry 25 = .ok (.if_icmp .ne 13, 3) := by decide +kernel
theorem dX9_staysDry_28 : decode cX9_staysDry 28 = .ok (.aload_n 0, 1) := by decide +kernel
theorem dX9_staysDry_29 : decode cX9_staysDry 29 = .ok (.invokevirtual 103, 3) := by decide +kernel
theorem dX9_staysDry_32 : decode cX9_staysDry 32 = .ok (.iinc 3 1, 3) := by decide +kernel
theorem dX9_staysDry_35 : decode cX9_staysDry 35 = .ok (.goto (-24), 3) := by decide +kernel
theorem dX9_staysDry_38 : decode cX9_staysDry 38 = .ok (.aload_n 0, 1) := by decide +kernel
theorem dX9_staysDry_39 : decode cX9_staysDry 39 = .ok (.getfield 7, 3) := by decide +kernel
theorem dX9_staysDry_42 : decode cX9_staysDry 42 = .ok (.sipush 939, 3) := by decide +kernel
theorem dX9_staysDry_45 : decode cX9_staysDry 45 = .ok (.iaload, 1) := by decide +kernel
theorem dX9_staysDry_46 : decode cX9_staysDry 46 = .ok (.iload_n 2, 1) := by decide +kernel
theorem dX9_staysDry_47 : decode cX9_staysDry 47 = .ok (.if_icmp .ne 7, 3) := by decide +kernel
theorem dX9_staysDry_50 : decode cX9_staysDry 50 = .ok (.iconst 1, 1) := by decide +kernel
theorem dX9_staysDry_51 : decode cX9_staysDry 51 = .ok (.goto 4, 3) := by decide +kernel
theorem dX9_staysDry_54 : decode cX9_staysDry 54 = .ok (.iconst 0, 1) := by decide +kernel
theorem dX9_staysDry_55 : decode cX9_staysDry 55 = .ok (.ireturn, 1) := by decide +kernel
theorem dX9_safeCut_0 : decode cX9_safeCut 0 = .ok (.iload_n 1, 1) := by decide +kernel
theorem dX9_safeCut_1 : decode cX9_safeCut 1 = .ok (.iconst 1, 1) := by decide +kernel
theorem dX9_safeCut_2 : decode cX9_safeCut 2 = .ok (.bipush 100, 2) := by decide +kernel
theorem dX9_safeCut_4 : decode cX9_safeCut 4 = .ok (.invokestatic 33, 3) := by decide +kernel
theorem dX9_safeCut_7 : decode cX9_safeCut 7 = .ok (.ifCond .ne 6, 3) := by decide +kernel
theorem dX9_safeCut_10 : decode cX9_safeCut 10 = .ok (.bipush (-2), 2) := by decide +kernel
theorem dX9_safeCut_12 : decode cX9_safeCut 12 = .ok (.ireturn, 1) := by decide +kernel
theorem dX9_safeCut_13 : decode cX9_safeCut 13 = .ok (.aload_n 0, 1) := by decide +kernel
theorem dX9_safeCut_14 : decode cX9_safeCut 14 = .ok (.invokevirtual 115, 3) := by decide +kernel
theorem dX9_safeCut_17 : decode cX9_safeCut 17 = .ok (.bipush (-6), 2) := by decide +kernel
theorem dX9_safeCut_19 : decode cX9_safeCut 19 = .ok (.istore_n 2, 1) := by decide +kernel
theorem dX9_safeCut_20 : decode cX9_safeCut 20 = .ok (.sipush 1000, 3) := by decide +kernel
theorem dX9_safeCut_23 : decode cX9_safeCut 23 = .ok (.istore_n 3, 1) := by decide +kernel
theorem dX9_safeCut_24 : decode cX9_safeCut 24 = .ok (.iload_n 3, 1) := by decide +kernel
theorem dX9_safeCut_25 : decode cX9_safeCut 25 = .ok (.ifCond .lt 40, 3) := by decide +kernel
theorem dX9_safeCut_28 : decode cX9_safeCut 28 = .ok (.iload_n 2, 1) := by decide +kernel
theorem dX9_safeCut_29 : decode cX9_safeCut 29 = .ok (.ifCond .ge 36, 3) := by decide +kernel
theorem dX9_safeCut_32 : decode cX9_safeCut 32 = .ok (.aload_n 0, 1) := by decide +kernel
theorem dX9_safeCut_33 : decode cX9_safeCut 33 = .ok (.getfield 7, 3) := by decide +kernel
theorem dX9_safeCut_36 : decode cX9_safeCut 36 = .ok (.sipush 930, 3) := by decide +kernel
theorem dX9_safeCut_39 : decode cX9_safeCut 39 = .ok (.iload_n 3, 1) := by decide +kernel
theorem dX9_safeCut_40 : decode cX9_safeCut 40 = .ok (.iastore, 1) := by decide +kernel
theorem dX9_safeCut_41 : decode cX9_safeCut 41 = .ok (.aload_n 0, 1) := by decide +kernel
theorem dX9_safeCut_42 : decode cX9_safeCut 42 = .ok (.iload_n 1, 1) := by decide +kernel
theorem dX9_safeCut_43 : decode cX9_safeCut 43 = .ok (.invokevirtual 130, 3) := by decide +kernel
theorem dX9_safeCut_46 : decode cX9_safeCut 46 = .ok (.ifCond .eq 7, 3) := by decide +kernel
theorem dX9_safeCut_49 : decode cX9_safeCut 49 = .ok (.iload_n 3, 1) := by decide +kernel
theorem dX9_safeCut_50 : decode cX9_safeCut 50 = .ok (.goto 4, 3) := by decide +kernel
theorem dX9_safeCut_53 : decode cX9_safeCut 53 = .ok (.iload_n 2, 1) := by decide +kernel
theorem dX9_safeCut_54 : decode cX9_safeCut 54 = .ok (.istore_n 2, 1) := by decide +kernel
theorem dX9_safeCut_55 : decode cX9_safeCut 55 = .ok (.aload_n 0, 1) := by decide +kernel
theorem dX9_safeCut_56 : decode cX9_safeCut 56 = .ok (.invokevirtual 121, 3) := by decide +kernel
theorem dX9_safeCut_59 : decode cX9_safeCut 59 = .ok (.iinc 3 (-1), 3) := by decide +kernel
theorem dX9_safeCut_62 : decode cX9_safeCut 62 = .ok (.goto (-38), 3) := by decide +kernel
theorem dX9_safeCut_65 : decode cX9_safeCut 65 = .ok (.iload_n 2, 1) := by decide +kernel
theorem dX9_safeCut_66 : decode cX9_safeCut 66 = .ok (.ireturn, 1) := by decide +kernel
theorem dX9_say_0 : decode cX9_say 0 = .ok (.iload_n 1, 1) := by decide +kernel
theorem dX9_say_1 : decode cX9_say 1 = .ok (.bipush 33, 2) := by decide +kernel
theorem dX9_say_3 : decode cX9_say 3 = .ok (.bipush 126, 2) := by decide +kernel
theorem dX9_say_5 : decode cX9_say 5 = .ok (.invokestatic 33, 3) := by decide +kernel
theorem dX9_say_8 : decode cX9_say 8 = .ok (.ifCond .ne 6, 3) := by decide +kernel
theorem dX9_say_11 : decode cX9_say 11 = .ok (.bipush (-2), 2) := by decide +kernel
theorem dX9_say_13 : decode cX9_say 13 = .ok (.ireturn, 1) := by decide +kernel
theorem dX9_say_14 : decode cX9_say 14 = .ok (.aload_n 0, 1) := by decide +kernel
theorem dX9_say_15 : decode cX9_say 15 = .ok (.getfield 111, 3) := by decide +kernel
theorem dX9_say_18 : decode cX9_say 18 = .ok (.bipush 80, 2) := by decide +kernel
theorem dX9_say_20 : decode cX9_say 20 = .ok (.if_icmp .ne 6, 3) := by decide +kernel
theorem dX9_say_23 : decode cX9_say 23 = .ok (.bipush (-4), 2) := by decide +kernel
theorem dX9_say_25 : decode cX9_say 25 = .ok (.ireturn, 1) := by decide +kernel
theorem dX9_say_26 : decode cX9_say 26 = .ok (.aload_n 0, 1) := by decide +kernel
theorem dX9_say_27 : decode cX9_say 27 = .ok (.getfield 23, 3) := by decide +kernel
theorem dX9_say_30 : decode cX9_say 30 = .ok (.aload_n 0, 1) := by decide +kernel
theorem dX9_say_31 : decode cX9_say 31 = .ok (.getfield 111, 3) := by decide +kernel
theorem dX9_say_34 : decode cX9_say 34 = .ok (.iload_n 1, 1) := by decide +kernel
theorem dX9_say_35 : decode cX9_say 35 = .ok (.iastore, 1) := by decide +kernel
theorem dX9_say_36 : decode cX9_say 36 = .ok (.aload_n 0, 1) := by decide +kernel
theorem dX9_say_37 : decode cX9_say 37 = .ok (.dup, 1) := by decide +kernel
theorem dX9_say_38 : decode cX9_say 38 = .ok (.getfield 111, 3) := by decide +kernel
theorem dX9_say_41 : decode cX9_say 41 = .ok (.iconst 1, 1) := by decide +kernel
theorem dX9_say_42 : decode cX9_say 42 = .ok (.iadd, 1) := by decide +kernel
theorem dX9_say_43 : decode cX9_say 43 = .ok (.putfield 111, 3) := by decide +kernel
theorem dX9_say_46 : decode cX9_say 46 = .ok (.aload_n 0, 1) := by decide +kernel
theorem dX9_say_47 : decode cX9_say 47 = .ok (.getfield 111, 3) := by decide +kernel
theorem dX9_say_50 : decode cX9_say 50 = .ok (.ireturn, 1) := by decide +kernel
theorem dX9_wipe_0 : decode cX9_wipe 0 = .ok (.aload_n 0, 1) := by decide +kernel
theorem dX9_wipe_1 : decode cX9_wipe 1 = .ok (.getfield 111, 3) := by decide +kernel
theorem dX9_wipe_4 : decode cX9_wipe 4 = .ok (.istore_n 1, 1) := by decide +kernel
theorem dX9_wipe_5 : decode cX9_wipe 5 = .ok (.aload_n 0, 1) := by decide +kernel
theorem dX9_wipe_6 : decode cX9_wipe 6 = .ok (.iconst 0, 1) := by decide +kernel
theorem dX9_wipe_7 : decode cX9_wipe 7 = .ok (.putfield 111, 3) := by decide +kernel
theorem dX9_wipe_10 : decode cX9_wipe 10 = .ok (.iload_n 1, 1) := by decide +kernel
theorem dX9_wipe_11 : decode cX9_wipe 11 = .ok (.ireturn, 1) := by decide +kernel
theorem dX9_next_0 : decode cX9_next 0 = .ok (.aload_n 0, 1) := by decide +kernel
theorem dX9_next_1 : decode cX9_next 1 = .ok (.getfield 133, 3) := by decide +kernel
theorem dX9_next_4 : decode cX9_next 4 = .ok (.aload_n 0, 1) := by decide +kernel
theorem dX9_next_5 : decode cX9_next 5 = .ok (.getfield 111, 3) := by decide +kernel
theorem dX9_next_8 : decode cX9_next 8 = .ok (.if_icmp .ge 15, 3) := by decide +kernel
theorem dX9_next_11 : decode cX9_next 11 = .ok (.aload_n 0, 1) := by decide +kernel
theorem dX9_next_12 : decode cX9_next 12 = .ok (.getfield 23, 3) := by decide +kernel
theorem dX9_next_15 : decode cX9_next 15 = .ok (.aload_n 0, 1) := by decide +kernel
theorem dX9_next_16 : decode cX9_next 16 = .ok (.getfield 133, 3) := by decide +kernel
theorem dX9_next_19 : decode cX9_next 19 = .ok (.iaload, 1) := by decide +kernel
theorem dX9_next_20 : decode cX9_next 20 = .ok (.goto 4, 3) := by decide +kernel
theorem dX9_next_23 : decode cX9_next 23 = .ok (.iconst 0, 1) := by decide +kernel
theorem dX9_next_24 : decode cX9_next 24 = .ok (.ireturn, 1) := by decide +kernel
theorem dX9_takeNumber_0 : decode cX9_takeNumber 0 = .ok (.aload_n 0, 1) := by decide +kernel
theorem dX9_takeNumber_1 : decode cX9_takeNumber 1 = .ok (.aload_n 0, 1) := by decide +kernel
theorem dX9_takeNumber_2 : decode cX9_takeNumber 2 = .ok (.getfield 136, 3) := by decide +kernel
theorem dX9_takeNumber_5 : decode cX9_takeNumber 5 = .ok (.ifCond .ne 17, 3) := by decide +kernel
theorem dX9_takeNumber_8 : decode cX9_takeNumber 8 = .ok (.aload_n 0, 1) := by decide +kernel
theorem dX9_takeNumber_9 : decode cX9_takeNumber 9 = .ok (.invokevirtual 140, 3) := by decide +kernel
theorem dX9_takeNumber_12 : decode cX9_takeNumber 12 = .ok (.bipush 48, 2) := by decide +kernel
theorem dX9_takeNumber_14 : decode cX9_takeNumber 14 = .ok (.bipush 57, 2) := by decide +kernel
theorem dX9_takeNumber_16 : decode cX9_takeNumber 16 = .ok (.invokestatic 33, 3) := by decide +kernel
theorem dX9_takeNumber_19 : decode cX9_takeNumber 19 = .ok (.ifCond .ne 7, 3) := by decide +kernel
theorem dX9_takeNumber_22 : decode cX9_takeNumber 22 = .ok (.iconst 1, 1) := by decide +kernel
theorem dX9_takeNumber_23 : decode cX9_takeNumber 23 = .ok (.goto 4, 3) := by decide +kernel
theorem dX9_takeNumber_26 : decode cX9_takeNumber 26 = .ok (.iconst 0, 1) := by decide +kernel
theorem dX9_takeNumber_27 : decode cX9_takeNumber 27 = .ok (.putfield 136, 3) := by decide +kernel
theorem dX9_takeNumber_30 : decode cX9_takeNumber 30 = .ok (.iconst 0, 1) := by decide +kernel
theorem dX9_takeNumber_31 : decode cX9_takeNumber 31 = .ok (.istore_n 2, 1) := by decide +kernel
theorem dX9_takeNumber_32 : decode cX9_takeNumber 32 = .ok (.aload_n 0, 1) := by decide +kernel
theorem dX9_takeNumber_33 : decode cX9_takeNumber 33 = .ok (.getfield 136, 3) := by decide +kernel
theorem dX9_takeNumber_36 : decode cX9_takeNumber 36 = .ok (.ifCond .ne 7, 3) := by decide +kernel
theorem dX9_takeNumber_39 : decode cX9_takeNumber 39 = .ok (.iconst 1, 1) := by decide +kernel
theorem dX9_takeNumber_40 : decode cX9_takeNumber 40 = .ok (.goto 4, 3) := by decide +kernel
theorem dX9_takeNumber_43 : decode cX9_takeNumber 43 = .ok (.iconst 0, 1) := by decide +kernel
theorem dX9_takeNumber_44 : decode cX9_takeNumber 44 = .ok (.istore_n 3, 1) := by decide +kernel
theorem dX9_takeNumber_45 : decode cX9_takeNumber 45 = .ok (.iload_n 3, 1) := by decide +kernel
theorem dX9_takeNumber_46 : decode cX9_takeNumber 46 = .ok (.ifCond .eq 69, 3) := by decide +kernel
theorem dX9_takeNumber_49 : decode cX9_takeNumber 49 = .ok (.bipush 10, 2) := by decide +kernel
theorem dX9_takeNumber_51 : decode cX9_takeNumber 51 = .ok (.iload_n 2, 1) := by decide +kernel
theorem dX9_takeNumber_52 : decode cX9_takeNumber 52 = .ok (.imul, 1) := by decide +kernel
theorem dX9_takeNumber_53 : decode cX9_takeNumber 53 = .ok (.aload_n 0, 1) := by decide +kernel
theorem dX9_takeNumber_54 : decode cX9_takeNumber 54 = .ok (.invokevirtual 140, 3) := by decide +kernel
theorem dX9_takeNumber_57 : decode cX9_takeNumber 57 = .ok (.iadd, 1) := by decide +kernel
theorem dX9_takeNumber_58 : decode cX9_takeNumber 58 = .ok (.bipush 48, 2) := by decide +kernel
theorem dX9_takeNumber_60 : decode cX9_takeNumber 60 = .ok (.isub, 1) := by decide +kernel
theorem dX9_takeNumber_61 : decode cX9_takeNumber 61 = .ok (.istore_n 2, 1) := by decide +kernel
theorem dX9_takeNumber_62 : decode cX9_takeNumber 62 = .ok (.aload_n 0, 1) := by decide +kernel
theorem dX9_takeNumber_63 : decode cX9_takeNumber 63 = .ok (.dup, 1) := by decide +kernel
theorem dX9_takeNumber_64 : decode cX9_takeNumber 64 = .ok (.getfield 133, 3) := by decide +kernel
theorem dX9_takeNumber_67 : decode cX9_takeNumber 67 = .ok (.iconst 1, 1) := by decide +kernel
theorem dX9_takeNumber_68 : decode cX9_takeNumber 68 = .ok (.iadd, 1) := by decide +kernel
theorem dX9_takeNumber_69 : decode cX9_takeNumber 69 = .ok (.putfield 133, 3) := by decide +kernel
theorem dX9_takeNumber_72 : decode cX9_takeNumber 72 = .ok (.iload_n 2, 1) := by decide +kernel
theorem dX9_takeNumber_73 : decode cX9_takeNumber 73 = .ok (.ifCond .le 37, 3) := by decide +kernel
theorem dX9_takeNumber_76 : decode cX9_takeNumber 76 = .ok (.aload_n 0, 1) := by decide +kernel
theorem dX9_takeNumber_77 : decode cX9_takeNumber 77 = .ok (.invokevirtual 140, 3) := by decide +kernel
theorem dX9_takeNumber_80 : decode cX9_takeNumber 80 = .ok (.bipush 48, 2) := by decide +kernel
theorem dX9_takeNumber_82 : decode cX9_takeNumber 82 = .ok (.bipush 57, 2) := by decide +kernel
theorem dX9_takeNumber_84 : decode cX9_takeNumber 84 = .ok (.invokestatic 33, 3) := by decide +kernel
theorem dX9_takeNumber_87 : decode cX9_takeNumber 87 = .ok (.ifCond .eq 23, 3) := by decide +kernel
theorem dX9_takeNumber_90 : decode cX9_takeNumber 90 = .ok (.bipush 10, 2) := by decide +kernel
theorem dX9_takeNumber_92 : decode cX9_takeNumber 92 = .ok (.iload_n 2, 1) := by decide +kernel
theorem dX9_takeNumber_93 : decode cX9_takeNumber 93 = .ok (.imul, 1) := by decide +kernel
theorem dX9_takeNumber_94 : decode cX9_takeNumber 94 = .ok (.aload_n 0, 1) := by decide +kernel
theorem dX9_takeNumber_95 : decode cX9_takeNumber 95 = .ok (.invokevirtual 140, 3) := by decide +kernel
theorem dX9_takeNumber_98 : decode cX9_takeNumber 98 = .ok (.iadd, 1) := by decide +kernel
theorem dX9_takeNumber_99 : decode cX9_takeNumber 99 = .ok (.bipush 48, 2) := by decide +kernel
theorem dX9_takeNumber_101 : decode cX9_takeNumber 101 = .ok (.isub, 1) := by decide +kernel
theorem dX9_takeNumber_102 : decode cX9_takeNumber 102 = .ok (.iload_n 1, 1) := by decide +kernel
theorem dX9_takeNumber_103 : decode cX9_takeNumber 103 = .ok (.if_icmp .gt 7, 3) := by decide +kernel
theorem dX9_takeNumber_106 : decode cX9_takeNumber 106 = .ok (.iconst 1, 1) := by decide +kernel
theorem dX9_takeNumber_107 : decode cX9_takeNumber 107 = .ok (.goto 4, 3) := by decide +kernel
theorem dX9_takeNumber_110 : decode cX9_takeNumber 110 = .ok (.iconst 0, 1) := by decide +kernel
theorem dX9_takeNumber_111 : decode cX9_takeNumber 111 = .ok (.istore_n 3, 1) := by decide +kernel
theorem dX9_takeNumber_112 : decode cX9_takeNumber 112 = .ok (.goto (-67), 3) := by decide +kernel
theorem dX9_takeNumber_115 : decode cX9_takeNumber 115 = .ok (.iload_n 2, 1) := by decide +kernel
theorem dX9_takeNumber_116 : decode cX9_takeNumber 116 = .ok (.ireturn, 1) := by decide +kernel
theorem dX9_need_0 : decode cX9_need 0 = .ok (.aload_n 0, 1) := by decide +kernel
theorem dX9_need_1 : decode cX9_need 1 = .ok (.aload_n 0, 1) := by decide +kernel
theorem dX9_need_2 : decode cX9_need 2 = .ok (.getfield 136, 3) := by decide +kernel
theorem dX9_need_5 : decode cX9_need 5 = .ok (.ifCond .ne 11, 3) := by decide +kernel
theorem dX9_need_8 : decode cX9_need 8 = .ok (.aload_n 0, 1) := by decide +kernel
theorem dX9_need_9 : decode cX9_need 9 = .ok (.invokevirtual 140, 3) := by decide +kernel
theorem dX9_need_12 : decode cX9_need 12 = .ok (.iload_n 1, 1) := by decide +kernel
theorem dX9_need_13 : decode cX9_need 13 = .ok (.if_icmp .eq 7, 3) := by decide +kernel
theorem dX9_need_16 : decode cX9_need 16 = .ok (.iconst 1, 1) := by decide +kernel
theorem dX9_need_17 : decode cX9_need 17 = .ok (.goto 4, 3) := by decide +kernel
theorem dX9_need_20 : decode cX9_need 20 = .ok (.iconst 0, 1) := by decide +kernel
theorem dX9_need_21 : decode cX9_need 21 = .ok (.putfield 136, 3) := by decide +kernel
theorem dX9_need_24 : decode cX9_need 24 = .ok (.aload_n 0, 1) := by decide +kernel
theorem dX9_need_25 : decode cX9_need 25 = .ok (.dup, 1) := by decide +kernel
theorem dX9_need_26 : decode cX9_need 26 = .ok (.getfield 133, 3) := by decide +kernel
theorem dX9_need_29 : decode cX9_need 29 = .ok (.aload_n 0, 1) := by decide +kernel
theorem dX9_need_30 : decode cX9_need 30 = .ok (.getfield 136, 3) := by decide +kernel
theorem dX9_need_33 : decode cX9_need 33 = .ok (.ifCond .eq 7, 3) := by decide +kernel
theorem dX9_need_36 : decode cX9_need 36 = .ok (.iconst 0, 1) := by decide +kernel
theorem dX9_need_37 : decode cX9_need 37 = .ok (.goto 4, 3) := by decide +kernel
theorem dX9_need_40 : decode cX9_need 40 = .ok (.iconst 1, 1) := by decide +kernel
theorem dX9_need_41 : decode cX9_need 41 = .ok (.iadd, 1) := by decide +kernel
theorem dX9_need_42 : decode cX9_need 42 = .ok (.putfield 133, 3) := by decide +kernel
theorem dX9_need_45 : decode cX9_need 45 = .ok (.return_, 1) := by decide +kernel
theorem dX9_takeSet_0 : decode cX9_takeSet 0 = .ok (.iconst 0, 1) := by decide +kernel
theorem dX9_takeSet_1 : decode cX9_takeSet 1 = .ok (.istore_n 1, 1) := by decide +kernel
theorem dX9_takeSet_2 : decode cX9_takeSet 2 = .ok (.aload_n 0, 1) := by decide +kernel
theorem dX9_takeSet_3 : decode cX9_takeSet 3 = .ok (.aload_n 0, 1) := by decide +kernel
theorem dX9_takeSet_4 : decode cX9_takeSet 4 = .ok (.getfield 136, 3) := by decide +kernel
theorem dX9_takeSet_7 : decode cX9_takeSet 7 = .ok (.ifCond .ne 17, 3) := by decide +kernel
theorem dX9_takeSet_10 : decode cX9_takeSet 10 = .ok (.aload_n 0, 1) := by decide +kernel
theorem dX9_takeSet_11 : decode cX9_takeSet 11 = .ok (.invokevirtual 140, 3) := by decide +kernel
theorem dX9_takeSet_14 : decode cX9_takeSet 14 = .ok (.bipush 97, 2) := by decide +kernel
theorem dX9_takeSet_16 : decode cX9_takeSet 16 = .ok (.bipush 108, 2) := by decide +kernel
theorem dX9_takeSet_18 : decode cX9_takeSet 18 = .ok (.invokestatic 33, 3) := by decide +kernel
theorem dX9_takeSet_21 : decode cX9_takeSet 21 = .ok (.ifCond .ne 7, 3) := by decide +kernel
theorem dX9_takeSet_24 : decode cX9_takeSet 24 = .ok (.iconst 1, 1) := by decide +kernel
theorem dX9_takeSet_25 : decode cX9_takeSet 25 = .ok (.goto 4, 3) := by decide +kernel
theorem dX9_takeSet_28 : decode cX9_takeSet 28 = .ok (.iconst 0, 1) := by decide +kernel
theorem dX9_takeSet_29 : decode cX9_takeSet 29 = .ok (.putfield 136, 3) := by decide +kernel
theorem dX9_takeSet_32 : decode cX9_takeSet 32 = .ok (.aload_n 0, 1) := by decide +kernel
theorem dX9_takeSet_33 : decode cX9_takeSet 33 = .ok (.getfield 136, 3) := by decide +kernel
theorem dX9_takeSet_36 : decode cX9_takeSet 36 = .ok (.ifCond .ne 55, 3) := by decide +kernel
theorem dX9_takeSet_39 : decode cX9_takeSet 39 = .ok (.aload_n 0, 1) := by decide +kernel
theorem dX9_takeSet_40 : decode cX9_takeSet 40 = .ok (.invokevirtual 140, 3) := by decide +kernel
theorem dX9_takeSet_43 : decode cX9_takeSet 43 = .ok (.bipush 97, 2) := by decide +kernel
theorem dX9_takeSet_45 : decode cX9_takeSet 45 = .ok (.bipush 108, 2) := by decide +kernel
theorem dX9_takeSet_47 : decode cX9_takeSet 47 = .ok (.invokestatic 33, 3) := by decide +kernel
theorem dX9_takeSet_50 : decode cX9_takeSet 50 = .ok (.ifCond .eq 41, 3) := by decide +kernel
theorem dX9_takeSet_53 : decode cX9_takeSet 53 = .ok (.iconst 1, 1) := by decide +kernel
theorem dX9_takeSet_54 : decode cX9_takeSet 54 = .ok (.aload_n 0, 1) := by decide +kernel
theorem dX9_takeSet_55 : decode cX9_takeSet 55 = .ok (.invokevirtual 140, 3) := by decide +kernel
theorem dX9_takeSet_58 : decode cX9_takeSet 58 = .ok (.bipush 97, 2) := by decide +kernel
theorem dX9_takeSet_60 : decode cX9_takeSet 60 = .ok (.isub, 1) := by decide +kernel
theorem dX9_takeSet_61 : decode cX9_takeSet 61 = .ok (.ishl, 1) := by decide +kernel
theorem dX9_takeSet_62 : decode cX9_takeSet 62 = .ok (.iload_n 1, 1) := by decide +kernel
theorem dX9_takeSet_63 : decode cX9_takeSet 63 = .ok (.if_icmp .le 28, 3) := by decide +kernel
theorem dX9_takeSet_66 : decode cX9_takeSet 66 = .ok (.iload_n 1, 1) := by decide +kernel
theorem dX9_takeSet_67 : decode cX9_takeSet 67 = .ok (.iconst 1, 1) := by decide +kernel
theorem dX9_takeSet_68 : decode cX9_takeSet 68 = .ok (.aload_n 0, 1) := by decide +kernel
theorem dX9_takeSet_69 : decode cX9_takeSet 69 = .ok (.invokevirtual 140, 3) := by decide +kernel
theorem dX9_takeSet_72 : decode cX9_takeSet 72 = .ok (.bipush 97, 2) := by decide +kernel
theorem dX9_takeSet_74 : decode cX9_takeSet 74 = .ok (.isub, 1) := by decide +kernel
theorem dX9_takeSet_75 : decode cX9_takeSet 75 = .ok (.ishl, 1) := by decide +kernel
theorem dX9_takeSet_76 : decode cX9_takeSet 76 = .ok (.ior, 1) := by decide +kernel
theorem dX9_takeSet_77 : decode cX9_takeSet 77 = .ok (.istore_n 1, 1) := by decide +kernel
theorem dX9_takeSet_78 : decode cX9_takeSet 78 = .ok (.aload_n 0, 1) := by decide +kernel
theorem dX9_takeSet_79 : decode cX9_takeSet 79 = .ok (.dup, 1) := by decide +kernel
theorem dX9_takeSet_80 : decode cX9_takeSet 80 = .ok (.getfield 133, 3) := by decide +kernel
theorem dX9_takeSet_83 : decode cX9_takeSet 83 = .ok (.iconst 1, 1) := by decide +kernel
theorem dX9_takeSet_84 : decode cX9_takeSet 84 = .ok (.iadd, 1) := by decide +kernel
theorem dX9_takeSet_85 : decode cX9_takeSet 85 = .ok (.putfield 133, 3) := by decide +kernel
theorem dX9_takeSet_88 : decode cX9_takeSet 88 = .ok (.goto (-56), 3) := by decide +kernel
theorem dX9_takeSet_91 : decode cX9_takeSet 91 = .ok (.iload_n 1, 1) := by decide +kernel
theorem dX9_takeSet_92 : decode cX9_takeSet 92 = .ok (.ireturn, 1) := by decide +kernel
theorem dX9_takeCue_0 : decode cX9_takeCue 0 = .ok (.iconst 3, 1) := by decide +kernel
theorem dX9_takeCue_1 : decode cX9_takeCue 1 = .ok (.aload_n 0, 1) := by decide +kernel
theorem dX9_takeCue_2 : decode cX9_takeCue 2 = .ok (.getfield 143, 3) := by decide +kernel
theorem dX9_takeCue_5 : decode cX9_takeCue 5 = .ok (.imul, 1) := by decide +kernel
theorem dX9_takeCue_6 : decode cX9_takeCue 6 = .ok (.istore_n 1, 1) := by decide +kernel
theorem dX9_takeCue_7 : decode cX9_takeCue 7 = .ok (.aload_n 0, 1) := by decide +kernel
theorem dX9_takeCue_8 : decode cX9_takeCue 8 = .ok (.getfield 26, 3) := by decide +kernel
theorem dX9_takeCue_11 : decode cX9_takeCue 11 = .ok (.iload_n 1, 1) := by decide +kernel
theorem dX9_takeCue_12 : decode cX9_takeCue 12 = .ok (.aload_n 0, 1) := by decide +kernel
theorem dX9_takeCue_13 : decode cX9_takeCue 13 = .ok (.sipush 9999, 3) := by decide +kernel
theorem dX9_takeCue_16 : decode cX9_takeCue 16 = .ok (.invokevirtual 146, 3) := by decide +kernel
theorem dX9_takeCue_19 : decode cX9_takeCue 19 = .ok (.iastore, 1) := by decide +kernel
theorem dX9_takeCue_20 : decode cX9_takeCue 20 = .ok (.aload_n 0, 1) := by decide +kernel
theorem dX9_takeCue_21 : decode cX9_takeCue 21 = .ok (.bipush 58, 2) := by decide +kernel
theorem dX9_takeCue_23 : decode cX9_takeCue 23 = .ok (.invokevirtual 149, 3) := by decide +kernel
theorem dX9_takeCue_26 : decode cX9_takeCue 26 = .ok (.aload_n 0, 1) := by decide +kernel
theorem dX9_takeCue_27 : decode cX9_takeCue 27 = .ok (.getfield 26, 3) := by decide +kernel
theorem dX9_takeCue_30 : decode cX9_takeCue 30 = .ok (.iload_n 1, 1) := by decide +kernel
theorem dX9_takeCue_31 : decode cX9_takeCue 31 = .ok (.iconst 1, 1) := by decide +kernel
theorem dX9_takeCue_32 : decode cX9_takeCue 32 = .ok (.iadd, 1) := by decide +kernel
theorem dX9_takeCue_33 : decode cX9_takeCue 33 = .ok (.aload_n 0, 1) := by decide +kernel
theorem dX9_takeCue_34 : decode cX9_takeCue 34 = .ok (.invokevirtual 152, 3) := by decide +kernel
theorem dX9_takeCue_37 : decode cX9_takeCue 37 = .ok (.iastore, 1) := by decide +kernel
theorem dX9_takeCue_38 : decode cX9_takeCue 38 = .ok (.aload_n 0, 1) := by decide +kernel
theorem dX9_takeCue_39 : decode cX9_takeCue 39 = .ok (.bipush 61, 2) := by decide +kernel
theorem dX9_takeCue_41 : decode cX9_takeCue 41 = .ok (.invokevirtual 149, 3) := by decide +kernel
theorem dX9_takeCue_44 : decode cX9_takeCue 44 = .ok (.aload_n 0, 1) := by decide +kernel
theorem dX9_takeCue_45 : decode cX9_takeCue 45 = .ok (.getfield 26, 3) := by decide +kernel
theorem dX9_takeCue_48 : decode cX9_takeCue 48 = .ok (.iload_n 1, 1) := by decide +kernel
theorem dX9_takeCue_49 : decode cX9_takeCue 49 = .ok (.iconst 2, 1) := by decide +kernel
theorem dX9_takeCue_50 : decode cX9_takeCue 50 = .ok (.iadd, 1) := by decide +kernel
theorem dX9_takeCue_51 : decode cX9_takeCue 51 = .ok (.aload_n 0, 1) := by decide +kernel
theorem dX9_takeCue_52 : decode cX9_takeCue 52 = .ok (.sipush 1000, 3) := by decide +kernel
theorem dX9_takeCue_55 : decode cX9_takeCue 55 = .ok (.invokevirtual 146, 3) := by decide +kernel
theorem dX9_takeCue_58 : decode cX9_takeCue 58 = .ok (.iastore, 1) := by decide +kernel
theorem dX9_takeCue_59 : decode cX9_takeCue 59 = .ok (.aload_n 0, 1) := by decide +kernel
theorem dX9_takeCue_60 : decode cX9_takeCue 60 = .ok (.dup, 1) := by decide +kernel
theorem dX9_takeCue_61 : decode cX9_takeCue 61 = .ok (.getfield 143, 3) := by decide +kernel
theorem dX9_takeCue_64 : decode cX9_takeCue 64 = .ok (.iconst 1, 1) := by decide +kernel
theorem dX9_takeCue_65 : decode cX9_takeCue 65 = .ok (.iadd, 1) := by decide +kernel
theorem dX9_takeCue_66 : decode cX9_takeCue 66 = .ok (.putfield 143, 3) := by decide +kernel
theorem dX9_takeCue_69 : decode cX9_takeCue 69 = .ok (.return_, 1) := by decide +kernel
theorem dX9_fault_0 : decode cX9_fault 0 = .ok (.aload_n 0, 1) := by decide +kernel
theorem dX9_fault_1 : decode cX9_fault 1 = .ok (.iconst 0, 1) := by decide +kernel
theorem dX9_fault_2 : decode cX9_fault 2 = .ok (.putfield 133, 3) := by decide +kernel
theorem dX9_fault_5 : decode cX9_fault 5 = .ok (.aload_n 0, 1) := by decide +kernel
theorem dX9_fault_6 : decode cX9_fault 6 = .ok (.iconst 0, 1) := by decide +kernel
theorem dX9_fault_7 : decode cX9_fault 7 = .ok (.putfield 136, 3) := by decide +kernel
theorem dX9_fault_10 : decode cX9_fault 10 = .ok (.aload_n 0, 1) := by decide +kernel
theorem dX9_fault_11 : decode cX9_fault 11 = .ok (.iconst 0, 1) := by decide +kernel
theorem dX9_fault_12 : decode cX9_fault 12 = .ok (.putfield 143, 3) := by decide +kernel
theorem dX9_fault_15 : decode cX9_fault 15 = .ok (.aload_n 0, 1) := by decide +kernel
theorem dX9_fault_16 : decode cX9_fault 16 = .ok (.invokevirtual 155, 3) := by decide +kernel
theorem dX9_fault_19 : decode cX9_fault 19 = .ok (.aload_n 0, 1) := by decide +kernel
theorem dX9_fault_20 : decode cX9_fault 20 = .ok (.getfield 136, 3) := by decide +kernel
theorem dX9_fault_23 : decode cX9_fault 23 = .ok (.ifCond .ne 29, 3) := by decide +kernel
theorem dX9_fault_26 : decode cX9_fault 26 = .ok (.aload_n 0, 1) := by decide +kernel
theorem dX9_fault_27 : decode cX9_fault 27 = .ok (.invokevirtual 140, 3) := by decide +kernel
theorem dX9_fault_30 : decode cX9_fault 30 = .ok (.bipush 44, 2) := by decide +kernel
theorem dX9_fault_32 : decode cX9_fault 32 = .ok (.if_icmp .ne 20, 3) := by decide +kernel
theorem dX9_fault_35 : decode cX9_fault 35 = .ok (.aload_n 0, 1) := by decide +kernel
theorem dX9_fault_36 : decode cX9_fault 36 = .ok (.dup, 1) := by decide +kernel
theorem dX9_fault_37 : decode cX9_fault 37 = .ok (.getfield 133, 3) := by decide +kernel
theorem dX9_fault_40 : decode cX9_fault 40 = .ok (.iconst 1, 1) := by decide +kernel
theorem dX9_fault_41 : decode cX9_fault 41 = .ok (.iadd, 1) := by decide +kernel
theorem dX9_fault_42 : decode cX9_fault 42 = .ok (.putfield 133, 3) := by decide +kernel
theorem dX9_fault_45 : decode cX9_fault 45 = .ok (.aload_n 0, 1) := by decide +kernel
theorem dX9_fault_46 : decode cX9_fault 46 = .ok (.invokevirtual 155, 3) := by decide +kernel
theorem dX9_fault_49 : decode cX9_fault 49 = .ok (.goto (-30), 3) := by decide +kernel
theorem dX9_fault_52 : decode cX9_fault 52 = .ok (.aload_n 0, 1) := by decide +kernel
theorem dX9_fault_53 : decode cX9_fault 53 = .ok (.getfield 136, 3) := by decide +kernel
theorem dX9_fault_56 : decode cX9_fault 56 = .ok (.ifCond .ne 14, 3) := by decide +kernel
theorem dX9_fault_59 : decode cX9_fault 59 = .ok (.aload_n 0, 1) := by decide +kernel
theorem dX9_fault_60 : decode cX9_fault 60 = .ok (.getfield 133, 3) := by decide +kernel
theorem dX9_fault_63 : decode cX9_fault 63 = .ok (.aload_n 0, 1) := by decide +kernel
theorem dX9_fault_64 : decode cX9_fault 64 = .ok (.getfield 111, 3) := by decide +kernel
theorem dX9_fault_67 : decode cX9_fault 67 = .ok (.if_icmp .ge 10, 3) := by decide +kernel
theorem dX9_fault_70 : decode cX9_fault 70 = .ok (.aload_n 0, 1) := by decide +kernel
theorem dX9_fault_71 : decode cX9_fault 71 = .ok (.getfield 133, 3) := by decide +kernel
theorem dX9_fault_74 : decode cX9_fault 74 = .ok (.goto 5, 3) := by decide +kernel
theorem dX9_fault_77 : decode cX9_fault 77 = .ok (.bipush (-6), 2) := by decide +kernel
theorem dX9_fault_79 : decode cX9_fault 79 = .ok (.ireturn, 1) := by decide +kernel
theorem dX9_read_0 : decode cX9_read 0 = .ok (.aload_n 0, 1) := by decide +kernel
theorem dX9_read_1 : decode cX9_read 1 = .ok (.invokevirtual 158, 3) := by decide +kernel
theorem dX9_read_4 : decode cX9_read 4 = .ok (.bipush (-6), 2) := by decide +kernel
theorem dX9_read_6 : decode cX9_read 6 = .ok (.if_icmp .eq 6, 3) := by decide +kernel
theorem dX9_read_9 : decode cX9_read 9 = .ok (.bipush (-3), 2) := by decide +kernel
theorem dX9_read_11 : decode cX9_read 11 = .ok (.ireturn, 1) := by decide +kernel
theorem dX9_read_12 : decode cX9_read 12 = .ok (.iload_n 1, 1) := by decide +kernel
theorem dX9_read_13 : decode cX9_read 13 = .ok (.iconst 0, 1) := by decide +kernel
theorem dX9_read_14 : decode cX9_read 14 = .ok (.ldc 161, 2) := by decide +kernel
theorem dX9_read_16 : decode cX9_read 16 = .ok (.invokestatic 33, 3) := by decide +kernel
theorem dX9_read_19 : decode cX9_read 19 = .ok (.ifCond .ne 6, 3) := by decide +kernel
theorem dX9_read_22 : decode cX9_read 22 = .ok (.bipush (-2), 2) := by decide +kernel
theorem dX9_read_24 : decode cX9_read 24 = .ok (.ireturn, 1) := by decide +kernel
theorem dX9_read_25 : decode cX9_read 25 = .ok (.aload_n 0, 1) := by decide +kernel
theorem dX9_read_26 : decode cX9_read 26 = .ok (.getfield 7, 3) := by decide +kernel
theorem dX9_read_29 : decode cX9_read 29 = .ok (.sipush 940, 3) := by decide +kernel
theorem dX9_read_32 : decode cX9_read 32 = .ok (.iaload, 1) := by decide +kernel
theorem dX9_read_33 : decode cX9_read 33 = .ok (.aload_n 0, 1) := by decide +kernel
theorem dX9_read_34 : decode cX9_read 34 = .ok (.getfield 143, 3) := by decide +kernel
theorem dX9_read_37 : decode cX9_read 37 = .ok (.iadd, 1) := by decide +kernel
theorem dX9_read_38 : decode cX9_read 38 = .ok (.bipush 60, 2) := by decide +kernel
theorem dX9_read_40 : decode cX9_read 40 = .ok (.if_icmp .le 6, 3) := by decide +kernel
theorem dX9_read_43 : decode cX9_read 43 = .ok (.bipush (-4), 2) := by decide +kernel
theorem dX9_read_45 : decode cX9_read 45 = .ok (.ireturn, 1) := by decide +kernel
theorem dX9_read_46 : decode cX9_read 46 = .ok (.iconst 0, 1) := by decide +kernel
theorem dX9_read_47 : decode cX9_read 47 = .ok (.istore_n 2, 1) := by decide +kernel
theorem dX9_read_48 : decode cX9_read 48 = .ok (.iload_n 2, 1) := by decide +kernel
theorem dX9_read_49 : decode cX9_read 49 = .ok (.aload_n 0, 1) := by decide +kernel
theorem dX9_read_50 : decode cX9_read 50 = .ok (.getfield 143, 3) := by decide +kernel
theorem dX9_read_53 : decode cX9_read 53 = .ok (.if_icmp .ge 44, 3) := by decide +kernel
theorem dX9_read_56 : decode cX9_read 56 = .ok (.aload_n 0, 1) := by decide +kernel
theorem dX9_read_57 : decode cX9_read 57 = .ok (.aload_n 0, 1) := by decide +kernel
theorem dX9_read_58 : decode cX9_read 58 = .ok (.getfield 26, 3) := by decide +kernel
theorem dX9_read_61 : decode cX9_read 61 = .ok (.iconst 3, 1) := by decide +kernel
theorem dX9_read_62 : decode cX9_read 62 = .ok (.iload_n 2, 1) := by decide +kernel
theorem dX9_read_63 : decode cX9_read 63 = .ok (.imul, 1) := by decide +kernel
theorem dX9_read_64 : decode cX9_read 64 = .ok (.iaload, 1) := by decide +kernel
theorem dX9_read_65 : decode cX9_read 65 = .ok (.iload_n 1, 1) := by decide +kernel
theorem dX9_read_66 : decode cX9_read 66 = .ok (.iadd, 1) := by decide +kernel
theorem dX9_read_67 : decode cX9_read 67 = .ok (.aload_n 0, 1) := by decide +kernel
theorem dX9_read_68 : decode cX9_read 68 = .ok (.getfield 26, 3) := by decide +kernel
theorem dX9_read_71 : decode cX9_read 71 = .ok (.iconst 3, 1) := by decide +kernel
theorem dX9_read_72 : decode cX9_read 72 = .ok (.iload_n 2, 1) := by decide +kernel
theorem dX9_read_73 : decode cX9_read 73 = .ok (.imul, 1) := by decide +kernel
theorem dX9_read_74 : decode cX9_read 74 = .ok (.iconst 1, 1) := by decide +kernel
theorem dX9_read_75 : decode cX9_read 75 = .ok (.iadd, 1) := by decide +kernel
theorem dX9_read_76 : decode cX9_read 76 = .ok (.iaload, 1) := by decide +kernel
theorem dX9_read_77 : decode cX9_read 77 = .ok (.aload_n 0, 1) := by decide +kernel
theorem dX9_read_78 : decode cX9_read 78 = .ok (.getfield 26, 3) := by decide +kernel
theorem dX9_read_81 : decode cX9_read 81 = .ok (.iconst 3, 1) := by decide +kernel
theorem dX9_read_82 : decode cX9_read 82 = .ok (.iload_n 2, 1) := by decide +kernel
theorem dX9_read_83 : decode cX9_read 83 = .ok (.imul, 1) := by decide +kernel
theorem dX9_read_84 : decode cX9_read 84 = .ok (.iconst 2, 1) := by decide +kernel
theorem dX9_read_85 : decode cX9_read 85 = .ok (.iadd, 1) := by decide +kernel
theorem dX9_read_86 : decode cX9_read 86 = .ok (.iaload, 1) := by decide +kernel
theorem dX9_read_87 : decode cX9_read 87 = .ok (.invokevirtual 66, 3) := by decide +kernel
theorem dX9_read_90 : decode cX9_read 90 = .ok (.istore_n 3, 1) := by decide +kernel
theorem dX9_read_91 : decode cX9_read 91 = .ok (.iinc 2 1, 3) := by decide +kernel
theorem dX9_read_94 : decode cX9_read 94 = .ok (.goto (-46), 3) := by decide +kernel
theorem dX9_read_97 : decode cX9_read 97 = .ok (.aload_n 0, 1) := by decide +kernel
theorem dX9_read_98 : decode cX9_read 98 = .ok (.iconst 0, 1) := by decide +kernel
theorem dX9_read_99 : decode cX9_read 99 = .ok (.putfield 111, 3) := by decide +kernel
theorem dX9_read_102 : decode cX9_read 102 = .ok (.aload_n 0, 1) := by decide +kernel
theorem dX9_read_103 : decode cX9_read 103 = .ok (.getfield 143, 3) := by decide +kernel
theorem dX9_read_106 : decode cX9_read 106 = .ok (.ireturn, 1) := by decide +kernel
theorem dX9_save_0 : decode cX9_save 0 = .ok (.iload_n 1, 1) := by decide +kernel
theorem dX9_save_1 : decode cX9_save 1 = .ok (.iconst 0, 1) := by decide +kernel
theorem dX9_save_2 : decode cX9_save 2 = .ok (.iconst 1, 1) := by decide +kernel
theorem dX9_save_3 : decode cX9_save 3 = .ok (.invokestatic 33, 3) := by decide +kernel
theorem dX9_save_6 : decode cX9_save 6 = .ok (.ifCond .ne 6, 3) := by decide +kernel
theorem dX9_save_9 : decode cX9_save 9 = .ok (.bipush (-2), 2) := by decide +kernel
theorem dX9_save_11 : decode cX9_save 11 = .ok (.ireturn, 1) := by decide +kernel
theorem dX9_save_12 : decode cX9_save 12 = .ok (.iconst 0, 1) := by decide +kernel
theorem dX9_save_13 : decode cX9_save 13 = .ok (.istore_n 2, 1) := by decide +kernel
theorem dX9_save_14 : decode cX9_save 14 = .ok (.iload_n 2, 1) := by decide +kernel
theorem dX9_save_15 : decode cX9_save 15 = .ok (.sipush 1121, 3) := by decide +kernel
theorem dX9_save_18 : decode cX9_save 18 = .ok (.if_icmp .ge 27, 3) := by decide +kernel
theorem dX9_save_21 : decode cX9_save 21 = .ok (.aload_n 0, 1) := by decide +kernel
theorem dX9_save_22 : decode cX9_save 22 = .ok (.getfield 16, 3) := by decide +kernel
theorem dX9_save_25 : decode cX9_save 25 = .ok (.sipush 1121, 3) := by decide +kernel
theorem dX9_save_28 : decode cX9_save 28 = .ok (.iload_n 1, 1) := by decide +kernel
theorem dX9_save_29 : decode cX9_save 29 = .ok (.imul, 1) := by decide +kernel
theorem dX9_save_30 : decode cX9_save 30 = .ok (.iload_n 2, 1) := by decide +kernel
theorem dX9_save_31 : decode cX9_save 31 = .ok (.iadd, 1) := by decide +kernel
theorem dX9_save_32 : decode cX9_save 32 = .ok (.aload_n 0, 1) := by decide +kernel
theorem dX9_save_33 : decode cX9_save 33 = .ok (.getfield 7, 3) := by decide +kernel
theorem dX9_save_36 : decode cX9_save 36 = .ok (.iload_n 2, 1) := by decide +kernel
theorem dX9_save_37 : decode cX9_save 37 = .ok (.iaload, 1) := by decide +kernel
theorem dX9_save_38 : decode cX9_save 38 = .ok (.iastore, 1) := by decide +kernel
theorem dX9_save_39 : decode cX9_save 39 = .ok (.iinc 2 1, 3) := by decide +kernel
theorem dX9_save_42 : decode cX9_save 42 = .ok (.goto (-28), 3) := by decide +kernel
theorem dX9_save_45 : decode cX9_save 45 = .ok (.aload_n 0, 1) := by decide +kernel
theorem dX9_save_46 : decode cX9_save 46 = .ok (.getfield 19, 3) := by decide +kernel
theorem dX9_save_49 : decode cX9_save 49 = .ok (.iload_n 1, 1) := by decide +kernel
theorem dX9_save_50 : decode cX9_save 50 = .ok (.iconst 1, 1) := by decide +kernel
theorem dX9_save_51 : decode cX9_save 51 = .ok (.bastore, 1) := by decide +kernel
theorem dX9_save_52 : decode cX9_save 52 = .ok (.aload_n 0, 1) := by decide +kernel
theorem dX9_save_53 : decode cX9_save 53 = .ok (.getfield 7, 3) := by decide +kernel
theorem dX9_save_56 : decode cX9_save 56 = .ok (.sipush 937, 3) := by decide +kernel
theorem dX9_save_59 : decode cX9_save 59 = .ok (.iaload, 1) := by decide +kernel
theorem dX9_save_60 : decode cX9_save 60 = .ok (.ireturn, 1) := by decide +kernel
theorem dX9_restore_0 : decode cX9_restore 0 = .ok (.iload_n 1, 1) := by decide +kernel
theorem dX9_restore_1 : decode cX9_restore 1 = .ok (.iconst 0, 1) := by decide +kernel
theorem dX9_restore_2 : decode cX9_restore 2 = .ok (.iconst 1, 1) := by decide +kernel
theorem dX9_restore_3 : decode cX9_restore 3 = .ok (.invokestatic 33, 3) := by decide +kernel
theorem dX9_restore_6 : decode cX9_restore 6 = .ok (.ifCond .ne 6, 3) := by decide +kernel
theorem dX9_restore_9 : decode cX9_restore 9 = .ok (.bipush (-2), 2) := by decide +kernel
theorem dX9_restore_11 : decode cX9_restore 11 = .ok (.ireturn, 1) := by decide +kernel
theorem dX9_restore_12 : decode cX9_restore 12 = .ok (.aload_n 0, 1) := by decide +kernel
theorem dX9_restore_13 : decode cX9_restore 13 = .ok (.getfield 19, 3) := by decide +kernel
theorem dX9_restore_16 : decode cX9_restore 16 = .ok (.iload_n 1, 1) := by decide +kernel
theorem dX9_restore_17 : decode cX9_restore 17 = .ok (.baload, 1) := by decide +kernel
theorem dX9_restore_18 : decode cX9_restore 18 = .ok (.ifCond .ne 6, 3) := by decide +kernel
theorem dX9_restore_21 : decode cX9_restore 21 = .ok (.bipush (-5), 2) := by decide +kernel
theorem dX9_restore_23 : decode cX9_restore 23 = .ok (.ireturn, 1) := by decide +kernel
theorem dX9_restore_24 : decode cX9_restore 24 = .ok (.iconst 0, 1) := by decide +kernel
theorem dX9_restore_25 : decode cX9_restore 25 = .ok (.istore_n 2, 1) := by decide +kernel
theorem dX9_restore_26 : decode cX9_restore 26 = .ok (.iload_n 2, 1) := by decide +kernel
theorem dX9_restore_27 : decode cX9_restore 27 = .ok (.sipush 1121, 3) := by decide +kernel
theorem dX9_restore_30 : decode cX9_restore 30 = .ok (.if_icmp .ge 27, 3) := by decide +kernel
theorem dX9_restore_33 : decode cX9_restore 33 = .ok (.aload_n 0, 1) := by decide +kernel
theorem dX9_restore_34 : decode cX9_restore 34 = .ok (.getfield 7, 3) := by decide +kernel
theorem dX9_restore_37 : decode cX9_restore 37 = .ok (.iload_n 2, 1) := by decide +kernel
theorem dX9_restore_38 : decode cX9_restore 38 = .ok (.aload_n 0, 1) := by decide +kernel
theorem dX9_restore_39 : decode cX9_restore 39 = .ok (.getfield 16, 3) := by decide +kernel
theorem dX9_restore_42 : decode cX9_restore 42 = .ok (.sipush 1121, 3) := by decide +kernel
theorem dX9_restore_45 : decode cX9_restore 45 = .ok (.iload_n 1, 1) := by decide +kernel
theorem dX9_restore_46 : decode cX9_restore 46 = .ok (.imul, 1) := by decide +kernel
theorem dX9_restore_47 : decode cX9_restore 47 = .ok (.iload_n 2, 1) := by decide +kernel
theorem dX9_restore_48 : decode cX9_restore 48 = .ok (.iadd, 1) := by decide +kernel
theorem dX9_restore_49 : decode cX9_restore 49 = .ok (.iaload, 1) := by decide +kernel
theorem dX9_restore_50 : decode cX9_restore 50 = .ok (.iastore, 1) := by decide +kernel
theorem dX9_restore_51 : decode cX9_restore 51 = .ok (.iinc 2 1, 3) := by decide +kernel
theorem dX9_restore_54 : decode cX9_restore 54 = .ok (.goto (-28), 3) := by decide +kernel
theorem dX9_restore_57 : decode cX9_restore 57 = .ok (.aload_n 0, 1) := by decide +kernel
theorem dX9_restore_58 : decode cX9_restore 58 = .ok (.getfield 7, 3) := by decide +kernel
theorem dX9_restore_61 : decode cX9_restore 61 = .ok (.sipush 937, 3) := by decide +kernel
theorem dX9_restore_64 : decode cX9_restore 64 = .ok (.iaload, 1) := by decide +kernel
theorem dX9_restore_65 : decode cX9_restore 65 = .ok (.ireturn, 1) := by decide +kernel
theorem dJ9_floorDiv_f86c9_0 : decode cJ9_floorDiv_f86c9 0 = .ok (.lload_n 0, 1) := by decide +kernel
theorem dJ9_floorDiv_f86c9_1 : decode cJ9_floorDiv_f86c9 1 = .ok (.lload_n 2, 1) := by decide +kernel
theorem dJ9_floorDiv_f86c9_2 : decode cJ9_floorDiv_f86c9 2 = .ok (.ldiv, 1) := by decide +kernel
theorem dJ9_floorDiv_f86c9_3 : decode cJ9_floorDiv_f86c9 3 = .ok (.lstore 4, 2) := by decide +kernel
theorem dJ9_floorDiv_f86c9_5 : decode cJ9_floorDiv_f86c9 5 = .ok (.lload_n 0, 1) := by decide +kernel
theorem dJ9_floorDiv_f86c9_6 : decode cJ9_floorDiv_f86c9 6 = .ok (.lload_n 2, 1) := by decide +kernel
theorem dJ9_floorDiv_f86c9_7 : decode cJ9_floorDiv_f86c9 7 = .ok (.lxor, 1) := by decide +kernel
theorem dJ9_floorDiv_f86c9_8 : decode cJ9_floorDiv_f86c9 8 = .ok (.lconst 0, 1) := by decide +kernel
theorem dJ9_floorDiv_f86c9_9 : decode cJ9_floorDiv_f86c9 9 = .ok (.lcmp, 1) := by decide +kernel
theorem dJ9_floorDiv_f86c9_10 : decode cJ9_floorDiv_f86c9 10 = .ok (.ifCond .ge 17, 3) := by decide +kernel
theorem dJ9_floorDiv_f86c9_13 : decode cJ9_floorDiv_f86c9 13 = .ok (.lload 4, 2) := by decide +kernel
theorem dJ9_floorDiv_f86c9_15 : decode cJ9_floorDiv_f86c9 15 = .ok (.lload_n 2, 1) := by decide +kernel
theorem dJ9_floorDiv_f86c9_16 : decode cJ9_floorDiv_f86c9 16 = .ok (.lmul, 1) := by decide +kernel
theorem dJ9_floorDiv_f86c9_17 : decode cJ9_floorDiv_f86c9 17 = .ok (.lload_n 0, 1) := by decide +kernel
theorem dJ9_floorDiv_f86c9_18 : decode cJ9_floorDiv_f86c9 18 = .ok (.lcmp, 1) := by decide +kernel
theorem dJ9_floorDiv_f86c9_19 : decode cJ9_floorDiv_f86c9 19 = .ok (.ifCond .eq 8, 3) := by decide +kernel
theorem dJ9_floorDiv_f86c9_22 : decode cJ9_floorDiv_f86c9 22 = .ok (.lload 4, 2) := by decide +kernel
theorem dJ9_floorDiv_f86c9_24 : decode cJ9_floorDiv_f86c9 24 = .ok (.lconst 1, 1) := by decide +kernel
theorem dJ9_floorDiv_f86c9_25 : decode cJ9_floorDiv_f86c9 25 = .ok (.lsub, 1) := by decide +kernel
theorem dJ9_floorDiv_f86c9_26 : decode cJ9_floorDiv_f86c9 26 = .ok (.lreturn, 1) := by decide +kernel
theorem dJ9_floorDiv_f86c9_27 : decode cJ9_floorDiv_f86c9 27 = .ok (.lload 4, 2) := by decide +kernel
theorem dJ9_floorDiv_f86c9_29 : decode cJ9_floorDiv_f86c9 29 = .ok (.lreturn, 1) := by decide +kernel
theorem dJ9_floorMod_7cf53_0 : decode cJ9_floorMod_7cf53 0 = .ok (.iload_n 0, 1) := by decide +kernel
theorem dJ9_floorMod_7cf53_1 : decode cJ9_floorMod_7cf53 1 = .ok (.iload_n 1, 1) := by decide +kernel
theorem dJ9_floorMod_7cf53_2 : decode cJ9_floorMod_7cf53 2 = .ok (.irem, 1) := by decide +kernel
theorem dJ9_floorMod_7cf53_3 : decode cJ9_floorMod_7cf53 3 = .ok (.istore_n 2, 1) := by decide +kernel
theorem dJ9_floorMod_7cf53_4 : decode cJ9_floorMod_7cf53 4 = .ok (.iload_n 0, 1) := by decide +kernel
theorem dJ9_floorMod_7cf53_5 : decode cJ9_floorMod_7cf53 5 = .ok (.iload_n 1, 1) := by decide +kernel
theorem dJ9_floorMod_7cf53_6 : decode cJ9_floorMod_7cf53 6 = .ok (.ixor, 1) := by decide +kernel
theorem dJ9_floorMod_7cf53_7 : decode cJ9_floorMod_7cf53 7 = .ok (.ifCond .ge 11, 3) := by decide +kernel
theorem dJ9_floorMod_7cf53_10 : decode cJ9_floorMod_7cf53 10 = .ok (.iload_n 2, 1) := by decide +kernel
theorem dJ9_floorMod_7cf53_11 : decode cJ9_floorMod_7cf53 11 = .ok (.ifCond .eq 7, 3) := by decide +kernel
theorem dJ9_floorMod_7cf53_14 : decode cJ9_floorMod_7cf53 14 = .ok (.iload_n 2, 1) := by decide +kernel
theorem dJ9_floorMod_7cf53_15 : decode cJ9_floorMod_7cf53 15 = .ok (.iload_n 1, 1) := by decide +kernel
theorem dJ9_floorMod_7cf53_16 : decode cJ9_floorMod_7cf53 16 = .ok (.iadd, 1) := by decide +kernel
theorem dJ9_floorMod_7cf53_17 : decode cJ9_floorMod_7cf53 17 = .ok (.ireturn, 1) := by decide +kernel
theorem dJ9_floorMod_7cf53_18 : decode cJ9_floorMod_7cf53 18 = .ok (.iload_n 2, 1) := by decide +kernel
theorem dJ9_floorMod_7cf53_19 : decode cJ9_floorMod_7cf53 19 = .ok (.ireturn, 1) := by decide +kernel
theorem dJ9_max_7cf53_0 : decode cJ9_max_7cf53 0 = .ok (.iload_n 0, 1) := by decide +kernel
theorem dJ9_max_7cf53_1 : decode cJ9_max_7cf53 1 = .ok (.iload_n 1, 1) := by decide +kernel
theorem dJ9_max_7cf53_2 : decode cJ9_max_7cf53 2 = .ok (.if_icmp .lt 7, 3) := by decide +kernel
theorem dJ9_max_7cf53_5 : decode cJ9_max_7cf53 5 = .ok (.iload_n 0, 1) := by decide +kernel
theorem dJ9_max_7cf53_6 : decode cJ9_max_7cf53 6 = .ok (.goto 4, 3) := by decide +kernel
theorem dJ9_max_7cf53_9 : decode cJ9_max_7cf53 9 = .ok (.iload_n 1, 1) := by decide +kernel
theorem dJ9_max_7cf53_10 : decode cJ9_max_7cf53 10 = .ok (.ireturn, 1) := by decide +kernel
theorem dJ9_min_7cf53_0 : decode cJ9_min_7cf53 0 = .ok (.iload_n 0, 1) := by decide +kernel
theorem dJ9_min_7cf53_1 : decode cJ9_min_7cf53 1 = .ok (.iload_n 1, 1) := by decide +kernel
theorem dJ9_min_7cf53_2 : decode cJ9_min_7cf53 2 = .ok (.if_icmp .gt 7, 3) := by decide +kernel
theorem dJ9_min_7cf53_5 : decode cJ9_min_7cf53 5 = .ok (.iload_n 0, 1) := by decide +kernel
theorem dJ9_min_7cf53_6 : decode cJ9_min_7cf53 6 = .ok (.goto 4, 3) := by decide +kernel
theorem dJ9_min_7cf53_9 : decode cJ9_min_7cf53 9 = .ok (.iload_n 1, 1) := by decide +kernel
theorem dJ9_min_7cf53_10 : decode cJ9_min_7cf53 10 = .ok (.ireturn, 1) := by decide +kernel
theorem dL_law_0 : decode cL_law 0 = .ok (.new 7, 3) := by decide +kernel
theorem dL_law_3 : decode cL_law 3 = .ok (.dup, 1) := by decide +kernel
theorem dL_law_4 : decode cL_law 4 = .ok (.invokespecial 9, 3) := by decide +kernel
theorem dL_law_7 : decode cL_law 7 = .ok (.astore_n 1, 1) := by decide +kernel
theorem dL_law_8 : decode cL_law 8 = .ok (.new 10, 3) := by decide +kernel
theorem dL_law_11 : decode cL_law 11 = .ok (.dup, 1) := by decide +kernel
theorem dL_law_12 : decode cL_law 12 = .ok (.invokespecial 12, 3) := by decide +kernel
theorem dL_law_15 : decode cL_law 15 = .ok (.astore_n 2, 1) := by decide +kernel
theorem dL_law_16 : decode cL_law 16 = .ok (.iconst 0, 1) := by decide +kernel
theorem dL_law_17 : decode cL_law 17 = .ok (.istore_n 3, 1) := by decide +kernel
theorem dL_law_18 : decode cL_law 18 = .ok (.iload_n 3, 1) := by decide +kernel
theorem dL_law_19 : decode cL_law 19 = .ok (.aload_n 0, 1) := by decide +kernel
theorem dL_law_20 : decode cL_law 20 = .ok (.arraylength, 1) := by decide +kernel
theorem dL_law_21 : decode cL_law 21 = .ok (.iconst 4, 1) := by decide +kernel
theorem dL_law_22 : decode cL_law 22 = .ok (.isub, 1) := by decide +kernel
theorem dL_law_23 : decode cL_law 23 = .ok (.if_icmp .gt 911, 3) := by decide +kernel
theorem dL_law_26 : decode cL_law 26 = .ok (.aload_n 0, 1) := by decide +kernel
theorem dL_law_27 : decode cL_law 27 = .ok (.iload_n 3, 1) := by decide +kernel
theorem dL_law_28 : decode cL_law 28 = .ok (.iaload, 1) := by decide +kernel
theorem dL_law_29 : decode cL_law 29 = .ok (.bipush 31, 2) := by decide +kernel
theorem dL_law_31 : decode cL_law 31 = .ok (.iand, 1) := by decide +kernel
theorem dL_law_32 : decode cL_law 32 = .ok (.tableswitch 896 0 25 #[120, 143, 186, 229, 262, 285, 328, 351, 384, 417, 450, 473, 486, 519, 552, 605, 646, 669, 712, 755, 778, 801, 814, 827, 850, 873], 120) := by decide +kernel
theorem dL_law_152 : decode cL_law 152 = .ok (.aload_n 1, 1) := by decide +kernel
theorem dL_law_153 : decode cL_law 153 = .ok (.aload_n 0, 1) := by decide +kernel
theorem dL_law_154 : decode cL_law 154 = .ok (.iload_n 3, 1) := by decide +kernel
theorem dL_law_155 : decode cL_law 155 = .ok (.iconst 1, 1) := by decide +kernel
theorem dL_law_156 : decode cL_law 156 = .ok (.iadd, 1) := by decide +kernel
theorem dL_law_157 : decode cL_law 157 = .ok (.iaload, 1) := by decide +kernel
theorem dL_law_158 : decode cL_law 158 = .ok (.invokevirtual 13, 3) := by decide +kernel
theorem dL_law_161 : decode cL_law 161 = .ok (.aload_n 2, 1) := by decide +kernel
theorem dL_law_162 : decode cL_law 162 = .ok (.aload_n 0, 1) := by decide +kernel
theorem dL_law_163 : decode cL_law 163 = .ok (.iload_n 3, 1) := by decide +kernel
theorem dL_law_164 : decode cL_law 164 = .ok (.iconst 1, 1) := by decide +kernel
theorem dL_law_165 : decode cL_law 165 = .ok (.iadd, 1) := by decide +kernel
theorem dL_law_166 : decode cL_law 166 = .ok (.iaload, 1) := by decide +kernel
theorem dL_law_167 : decode cL_law 167 = .ok (.invokevirtual 17, 3) := by decide +kernel
theorem dL_law_170 : decode cL_law 170 = .ok (.if_icmp .eq 758, 3) := by decide +kernel
theorem dL_law_173 : decode cL_law 173 = .ok (.iconst 0, 1) := by decide +kernel
theorem dL_law_174 : decode cL_law 174 = .ok (.ireturn, 1) := by decide +kernel
theorem dL_law_175 : decode cL_law 175 = .ok (.aload_n 1, 1) := by decide +kernel
theorem dL_law_176 : decode cL_law 176 = .ok (.aload_n 0, 1) := by decide +kernel
theorem dL_law_177 : decode cL_law 177 = .ok (.iload_n 3, 1) := by decide +kernel
theorem dL_law_178 : decode cL_law 178 = .ok (.iconst 1, 1) := by decide +kernel
theorem dL_law_179 : decode cL_law 179 = .ok (.iadd, 1) := by decide +kernel
theorem dL_law_180 : decode cL_law 180 = .ok (.iaload, 1) := by decide +kernel
theorem dL_law_181 : decode cL_law 181 = .ok (.aload_n 0, 1) := by decide +kernel
theorem dL_law_182 : decode cL_law 182 = .ok (.iload_n 3, 1) := by decide +kernel
theorem dL_law_183 : decode cL_law 183 = .ok (.iconst 2, 1) := by decide +kernel
theorem dL_law_184 : decode cL_law 184 = .ok (.iadd, 1) := by decide +kernel
theorem dL_law_185 : decode cL_law 185 = .ok (.iaload, 1) := by decide +kernel
theorem dL_law_186 : decode cL_law 186 = .ok (.aload_n 0, 1) := by decide +kernel
theorem dL_law_187 : decode cL_law 187 = .ok (.iload_n 3, 1) := by decide +kernel
theorem dL_law_188 : decode cL_law 188 = .ok (.iconst 3, 1) := by decide +kernel
theorem dL_law_189 : decode cL_law 189 = .ok (.iadd, 1) := by decide +kernel
theorem dL_law_190 : decode cL_law 190 = .ok (.iaload, 1) := by decide +kernel
theorem dL_law_191 : decode cL_law 191 = .ok (.invokevirtual 18, 3) := by decide +kernel
theorem dL_law_194 : decode cL_law 194 = .ok (.aload_n 2, 1) := by decide +kernel
theorem dL_law_195 : decode cL_law 195 = .ok (.aload_n 0, 1) := by decide +kernel
theorem dL_law_196 : decode cL_law 196 = .ok (.iload_n 3, 1) := by decide +kernel
theorem dL_law_197 : decode cL_law 197 = .ok (.iconst 1, 1) := by decide +kernel
theorem dL_law_198 : decode cL_law 198 = .ok (.iadd, 1) := by decide +kernel
theorem dL_law_199 : decode cL_law 199 = .ok (.iaload, 1) := by decide +kernel
theorem dL_law_200 : decode cL_law 200 = .ok (.aload_n 0, 1) := by decide +kernel
theorem dL_law_201 : decode cL_law 201 = .ok (.iload_n 3, 1) := by decide +kernel
theorem dL_law_202 : decode cL_law 202 = .ok (.iconst 2, 1) := by decide +kernel
theorem dL_law_203 : decode cL_law 203 = .ok (.iadd, 1) := by decide +kernel
theorem dL_law_204 : decode cL_law 204 = .ok (.iaload, 1) := by decide +kernel
theorem dL_law_205 : decode cL_law 205 = .ok (.aload_n 0, 1) := by decide +kernel
theorem dL_law_206 : decode cL_law 206 = .ok (.iload_n 3, 1) := by decide +kernel
theorem dL_law_207 : decode cL_law 207 = .ok (.iconst 3, 1) := by decide +kernel
theorem dL_law_208 : decode cL_law 208 = .ok (.iadd, 1) := by decide +kernel
theorem dL_law_209 : decode cL_law 209 = .ok (.iaload, 1) := by decide +kernel
theorem dL_law_210 : decode cL_law 210 = .ok (.invokevirtual 22, 3) := by decide +kernel
theorem dL_law_213 : decode cL_law 213 = .ok (.if_icmp .eq 715, 3) := by decide +kernel
theorem dL_law_216 : decode cL_law 216 = .ok (.iconst 0, 1) := by decide +kernel
theorem dL_law_217 : decode cL_law 217 = .ok (.ireturn, 1) := by decide +kernel
theorem dL_law_218 : decode cL_law 218 = .ok (.aload_n 1, 1) := by decide +kernel
theorem dL_law_219 : decode cL_law 219 = .ok (.aload_n 0, 1) := by decide +kernel
theorem dL_law_220 : decode cL_law 220 = .ok (.iload_n 3, 1) := by decide +kernel
theorem dL_law_221 : decode cL_law 221 = .ok (.iconst 1, 1) := by decide +kernel
theorem dL_law_222 : decode cL_law 222 = .ok (.iadd, 1) := by decide +kernel
theorem dL_law_223 : decode cL_law 223 = .ok (.iaload, 1) := by decide +kernel
theorem dL_law_224 : decode cL_law 224 = .ok (.aload_n 0, 1) := by decide +kernel
theorem dL_law_225 : decode cL_law 225 = .ok (.iload_n 3, 1) := by decide +kernel
theorem dL_law_226 : decode cL_law 226 = .ok (.iconst 2, 1) := by decide +kernel
theorem dL_law_227 : decode cL_law 227 = .ok (.iadd, 1) := by decide +kernel
theorem dL_law_228 : decode cL_law 228 = .ok (.iaload, 1) := by decide +kernel
theorem dL_law_229 : decode cL_law 229 = .ok (.aload_n 0, 1) := by decide +kernel
theorem dL_law_230 : decode cL_law 230 = .ok (.iload_n 3, 1) := by decide +kernel
theorem dL_law_231 : decode cL_law 231 = .ok (.iconst 3, 1) := by decide +kernel
theorem dL_law_232 : decode cL_law 232 = .ok (.iadd, 1) := by decide +kernel
theorem dL_law_233 : decode cL_law 233 = .ok (.iaload, 1) := by decide +kernel
theorem dL_law_234 : decode cL_law 234 = .ok (.invokevirtual 23, 3) := by decide +kernel
theorem dL_law_237 : decode cL_law 237 = .ok (.aload_n 2, 1) := by decide +kernel
theorem dL_law_238 : decode cL_law 238 = .ok (.aload_n 0, 1) := by decide +kernel
theorem dL_law_239 : decode cL_law 239 = .ok (.iload_n 3, 1) := by decide +kernel
theorem dL_law_240 : decode cL_law 240 = .ok (.iconst 1, 1) := by decide +kernel
theorem dL_law_241 : decode cL_law 241 = .ok (.iadd, 1) := by decide +kernel
theorem dL_law_242 : decode cL_law 242 = .ok (.iaload, 1) := by decide +kernel
theorem dL_law_243 : decode cL_law 243 = .ok (.aload_n 0, 1) := by decide +kernel
theorem dL_law_244 : decode cL_law 244 = .ok (.iload_n 3, 1) := by decide +kernel
theorem dL_law_245 : decode cL_law 245 = .ok (.iconst 2, 1) := by decide +kernel
theorem dL_law_246 : decode cL_law 246 = .ok (.iadd, 1) := by decide +kernel
theorem dL_law_247 : decode cL_law 247 = .ok (.iaload, 1) := by decide +kernel
theorem dL_law_248 : decode cL_law 248 = .ok (.aload_n 0, 1) := by decide +kernel
theorem dL_law_249 : decode cL_law 249 = .ok (.iload_n 3, 1) := by decide +kernel
theorem dL_law_250 : decode cL_law 250 = .ok (.iconst 3, 1) := by decide +kernel
theorem dL_law_251 : decode cL_law 251 = .ok (.iadd, 1) := by decide +kernel
theorem dL_law_252 : decode cL_law 252 = .ok (.iaload, 1) := by decide +kernel
theorem dL_law_253 : decode cL_law 253 = .ok (.invokevirtual 26, 3) := by decide +kernel
theorem dL_law_256 : decode cL_law 256 = .ok (.if_icmp .eq 672, 3) := by decide +kernel
theorem dL_law_259 : decode cL_law 259 = .ok (.iconst 0, 1) := by decide +kernel
theorem dL_law_260 : decode cL_law 260 = .ok (.ireturn, 1) := by decide +kernel
theorem dL_law_261 : decode cL_law 261 = .ok (.aload_n 1, 1) := by decide +kernel
theorem dL_law_262 : decode cL_law 262 = .ok (.aload_n 0, 1) := by decide +kernel
theorem dL_law_263 : decode cL_law 263 = .ok (.iload_n 3, 1) := by decide +kernel
theorem dL_law_264 : decode cL_law 264 = .ok (.iconst 1, 1) := by decide +kernel
theorem dL_law_265 : decode cL_law 265 = .ok (.iadd, 1) := by decide +kernel
theorem dL_law_266 : decode cL_law 266 = .ok (.iaload, 1) := by decide +kernel
theorem dL_law_267 : decode cL_law 267 = .ok (.aload_n 0, 1) := by decide +kernel
theorem dL_law_268 : decode cL_law 268 = .ok (.iload_n 3, 1) := by decide +kernel
theorem dL_law_269 : decode cL_law 269 = .ok (.iconst 2, 1) := by decide +kernel
theorem dL_law_270 : decode cL_law 270 = .ok (.iadd, 1) := by decide +kernel
theorem dL_law_271 : decode cL_law 271 = .ok (.iaload, 1) := by decide +kernel
theorem dL_law_272 : decode cL_law 272 = .ok (.invokevirtual 27, 3) := by decide +kernel
theorem dL_law_275 : decode cL_law 275 = .ok (.aload_n 2, 1) := by decide +kernel
theorem dL_law_276 : decode cL_law 276 = .ok (.aload_n 0, 1) := by decide +kernel
theorem dL_law_277 : decode cL_law 277 = .ok (.iload_n 3, 1) := by decide +kernel
theorem dL_law_278 : decode cL_law 278 = .ok (.iconst 1, 1) := by decide +kernel
theorem dL_law_279 : decode cL_law 279 = .ok (.iadd, 1) := by decide +kernel
theorem dL_law_280 : decode cL_law 280 = .ok (.iaload, 1) := by decide +kernel
theorem dL_law_281 : decode cL_law 281 = .ok (.aload_n 0, 1) := by decide +kernel
theorem dL_law_282 : decode cL_law 282 = .ok (.iload_n 3, 1) := by decide +kernel
theorem dL_law_283 : decode cL_law 283 = .ok (.iconst 2, 1) := by decide +kernel
theorem dL_law_284 : decode cL_law 284 = .ok (.iadd, 1) := by decide +kernel
theorem dL_law_285 : decode cL_law 285 = .ok (.iaload, 1) := by decide +kernel
theorem dL_law_286 : decode cL_law 286 = .ok (.invokevirtual 31, 3) := by decide +kernel
theorem dL_law_289 : decode cL_law 289 = .ok (.if_icmp .eq 639, 3) := by decide +kernel
theorem dL_law_292 : decode cL_law 292 = .ok (.iconst 0, 1) := by decide +kernel
theorem dL_law_293 : decode cL_law 293 = .ok (.ireturn, 1) := by decide +kernel
theorem dL_law_294 : decode cL_law 294 = .ok (.aload_n 1, 1) := by decide +kernel
theorem dL_law_295 : decode cL_law 295 = .ok (.aload_n 0, 1) := by decide +kernel
theorem dL_law_296 : decode cL_law 296 = .ok (.iload_n 3, 1) := by decide +kernel
theorem dL_law_297 : decode cL_law 297 = .ok (.iconst 1, 1) := by decide +kernel
theorem dL_law_298 : decode cL_law 298 = .ok (.iadd, 1) := by decide +kernel
theorem dL_law_299 : decode cL_law 299 = .ok (.iaload, 1) := by decide +kernel
theorem dL_law_300 : decode cL_law 300 = .ok (.invokevirtual 32, 3) := by decide +kernel
theorem dL_law_303 : decode cL_law 303 = .ok (.aload_n 2, 1) := by decide +kernel
theorem dL_law_304 : decode cL_law 304 = .ok (.aload_n 0, 1) := by decide +kernel
theorem dL_law_305 : decode cL_law 305 = .ok (.iload_n 3, 1) := by decide +kernel
theorem dL_law_306 : decode cL_law 306 = .ok (.iconst 1, 1) := by decide +kernel
theorem dL_law_307 : decode cL_law 307 = .ok (.iadd, 1) := by decide +kernel
theorem dL_law_308 : decode cL_law 308 = .ok (.iaload, 1) := by decide +kernel
theorem dL_law_309 : decode cL_law 309 = .ok (.invokevirtual 35, 3) := by decide +kernel
theorem dL_law_312 : decode cL_law 312 = .ok (.if_icmp .eq 616, 3) := by decide +kernel
theorem dL_law_315 : decode cL_law 315 = .ok (.iconst 0, 1) := by decide +kernel
theorem dL_law_316 : decode cL_law 316 = .ok (.ireturn, 1) := by decide +kernel
theorem dL_law_317 : decode cL_law 317 = .ok (.aload_n 1, 1) := by decide +kernel
theorem dL_law_318 : decode cL_law 318 = .ok (.aload_n 0, 1) := by decide +kernel
theorem dL_law_319 : decode cL_law 319 = .ok (.iload_n 3, 1) := by decide +kernel
theorem dL_law_320 : decode cL_law 320 = .ok (.iconst 1, 1) := by decide +kernel
theorem dL_law_321 : decode cL_law 321 = .ok (.iadd, 1) := by decide +kernel
theorem dL_law_322 : decode cL_law 322 = .ok (.iaload, 1) := by decide +kernel
theorem dL_law_323 : decode cL_law 323 = .ok (.aload_n 0, 1) := by decide +kernel
theorem dL_law_324 : decode cL_law 324 = .ok (.iload_n 3, 1) := by decide +kernel
theorem dL_law_325 : decode cL_law 325 = .ok (.iconst 2, 1) := by decide +kernel
theorem dL_law_326 : decode cL_law 326 = .ok (.iadd, 1) := by decide +kernel
theorem dL_law_327 : decode cL_law 327 = .ok (.iaload, 1) := by decide +kernel
theorem dL_law_328 : decode cL_law 328 = .ok (.aload_n 0, 1) := by decide +kernel
theorem dL_law_329 : decode cL_law 329 = .ok (.iload_n 3, 1) := by decide +kernel
theorem dL_law_330 : decode cL_law 330 = .ok (.iconst 3, 1) := by decide +kernel
theorem dL_law_331 : decode cL_law 331 = .ok (.iadd, 1) := by decide +kernel
theorem dL_law_332 : decode cL_law 332 = .ok (.iaload, 1) := by decide +kernel
theorem dL_law_333 : decode cL_law 333 = .ok (.invokevirtual 36, 3) := by decide +kernel
theorem dL_law_336 : decode cL_law 336 = .ok (.aload_n 2, 1) := by decide +kernel
theorem dL_law_337 : decode cL_law 337 = .ok (.aload_n 0, 1) := by decide +kernel
theorem dL_law_338 : decode cL_law 338 = .ok (.iload_n 3, 1) := by decide +kernel
theorem dL_law_339 : decode cL_law 339 = .ok (.iconst 1, 1) := by decide +kernel
theorem dL_law_340 : decode cL_law 340 = .ok (.iadd, 1) := by decide +kernel
theorem dL_law_341 : decode cL_law 341 = .ok (.iaload, 1) := by decide +kernel
theorem dL_law_342 : decode cL_law 342 = .ok (.aload_n 0, 1) := by decide +kernel
theorem dL_law_343 : decode cL_law 343 = .ok (.iload_n 3, 1) := by decide +kernel
theorem dL_law_344 : decode cL_law 344 = .ok (.iconst 2, 1) := by decide +kernel
theorem dL_law_345 : decode cL_law 345 = .ok (.iadd, 1) := by decide +kernel
theorem dL_law_346 : decode cL_law 346 = .ok (.iaload, 1) := by decide +kernel
theorem dL_law_347 : decode cL_law 347 = .ok (.aload_n 0, 1) := by decide +kernel
theorem dL_law_348 : decode cL_law 348 = .ok (.iload_n 3, 1) := by decide +kernel
theorem dL_law_349 : decode cL_law 349 = .ok (.iconst 3, 1) := by decide +kernel
theorem dL_law_350 : decode cL_law 350 = .ok (.iadd, 1) := by decide +kernel
theorem dL_law_351 : decode cL_law 351 = .ok (.iaload, 1) := by decide +kernel
theorem dL_law_352 : decode cL_law 352 = .ok (.invokevirtual 39, 3) := by decide +kernel
theorem dL_law_355 : decode cL_law 355 = .ok (.if_icmp .eq 573, 3) := by decide +kernel
theorem dL_law_358 : decode cL_law 358 = .ok (.iconst 0, 1) := by decide +kernel
theorem dL_law_359 : decode cL_law 359 = .ok (.ireturn, 1) := by decide +kernel
theorem dL_law_360 : decode cL_law 360 = .ok (.aload_n 1, 1) := by decide +kernel
theorem dL_law_361 : decode cL_law 361 = .ok (.aload_n 0, 1) := by decide +kernel
theorem dL_law_362 : decode cL_law 362 = .ok (.iload_n 3, 1) := by decide +kernel
theorem dL_law_363 : decode cL_law 363 = .ok (.iconst 1, 1) := by decide +kernel
theorem dL_law_364 : decode cL_law 364 = .ok (.iadd, 1) := by decide +kernel
theorem dL_law_365 : decode cL_law 365 = .ok (.iaload, 1) := by decide +kernel
theorem dL_law_366 : decode cL_law 366 = .ok (.invokevirtual 40, 3) := by decide +kernel
theorem dL_law_369 : decode cL_law 369 = .ok (.aload_n 2, 1) := by decide +kernel
theorem dL_law_370 : decode cL_law 370 = .ok (.aload_n 0, 1) := by decide +kernel
theorem dL_law_371 : decode cL_law 371 = .ok (.iload_n 3, 1) := by decide +kernel
theorem dL_law_372 : decode cL_law 372 = .ok (.iconst 1, 1) := by decide +kernel
theorem dL_law_373 : decode cL_law 373 = .ok (.iadd, 1) := by decide +kernel
theorem dL_law_374 : decode cL_law 374 = .ok (.iaload, 1) := by decide +kernel
theorem dL_law_375 : decode cL_law 375 = .ok (.invokevirtual 43, 3) := by decide +kernel
theorem dL_law_378 : decode cL_law 378 = .ok (.if_icmp .eq 550, 3) := by decide +kernel
theorem dL_law_381 : decode cL_law 381 = .ok (.iconst 0, 1) := by decide +kernel
theorem dL_law_382 : decode cL_law 382 = .ok (.ireturn, 1) := by decide +kernel
theorem dL_law_383 : decode cL_law 383 = .ok (.aload_n 1, 1) := by decide +kernel
theorem dL_law_384 : decode cL_law 384 = .ok (.aload_n 0, 1) := by decide +kernel
theorem dL_law_385 : decode cL_law 385 = .ok (.iload_n 3, 1) := by decide +kernel
theorem dL_law_386 : decode cL_law 386 = .ok (.iconst 1, 1) := by decide +kernel
theorem dL_law_387 : decode cL_law 387 = .ok (.iadd, 1) := by decide +kernel
theorem dL_law_388 : decode cL_law 388 = .ok (.iaload, 1) := by decide +kernel
theorem dL_law_389 : decode cL_law 389 = .ok (.aload_n 0, 1) := by decide +kernel
theorem dL_law_390 : decode cL_law 390 = .ok (.iload_n 3, 1) := by decide +kernel
theorem dL_law_391 : decode cL_law 391 = .ok (.iconst 2, 1) := by decide +kernel
theorem dL_law_392 : decode cL_law 392 = .ok (.iadd, 1) := by decide +kernel
theorem dL_law_393 : decode cL_law 393 = .ok (.iaload, 1) := by decide +kernel
theorem dL_law_394 : decode cL_law 394 = .ok (.invokevirtual 44, 3) := by decide +kernel
theorem dL_law_397 : decode cL_law 397 = .ok (.aload_n 2, 1) := by decide +kernel
theorem dL_law_398 : decode cL_law 398 = .ok (.aload_n 0, 1) := by decide +kernel
theorem dL_law_399 : decode cL_law 399 = .ok (.iload_n 3, 1) := by decide +kernel
theorem dL_law_400 : decode cL_law 400 = .ok (.iconst 1, 1) := by decide +kernel
theorem dL_law_401 : decode cL_law 401 = .ok (.iadd, 1) := by decide +kernel
theorem dL_law_402 : decode cL_law 402 = .ok (.iaload, 1) := by decide +kernel
theorem dL_law_403 : decode cL_law 403 = .ok (.aload_n 0, 1) := by decide +kernel
theorem dL_law_404 : decode cL_law 404 = .ok (.iload_n 3, 1) := by decide +kernel
theorem dL_law_405 : decode cL_law 405 = .ok (.iconst 2, 1) := by decide +kernel
theorem dL_law_406 : decode cL_law 406 = .ok (.iadd, 1) := by decide +kernel
theorem dL_law_407 : decode cL_law 407 = .ok (.iaload, 1) := by decide +kernel
theorem dL_law_408 : decode cL_law 408 = .ok (.invokevirtual 47, 3) := by decide +kernel
theorem dL_law_411 : decode cL_law 411 = .ok (.if_icmp .eq 517, 3) := by decide +kernel
theorem dL_law_414 : decode cL_law 414 = .ok (.iconst 0, 1) := by decide +kernel
theorem dL_law_415 : decode cL_law 415 = .ok (.ireturn, 1) := by decide +kernel
theorem dL_law_416 : decode cL_law 416 = .ok (.aload_n 1, 1) := by decide +kernel
theorem dL_law_417 : decode cL_law 417 = .ok (.aload_n 0, 1) := by decide +kernel
theorem dL_law_418 : decode cL_law 418 = .ok (.iload_n 3, 1) := by decide +kernel
theorem dL_law_419 : decode cL_law 419 = .ok (.iconst 1, 1) := by decide +kernel
theorem dL_law_420 : decode cL_law 420 = .ok (.iadd, 1) := by decide +kernel
theorem dL_law_421 : decode cL_law 421 = .ok (.iaload, 1) := by decide +kernel
theorem dL_law_422 : decode cL_law 422 = .ok (.aload_n 0, 1) := by decide +kernel
theorem dL_law_423 : decode cL_law 423 = .ok (.iload_n 3, 1) := by decide +kernel
theorem dL_law_424 : decode cL_law 424 = .ok (.iconst 2, 1) := by decide +kernel
theorem dL_law_425 : decode cL_law 425 = .ok (.iadd, 1) := by decide +kernel
theorem dL_law_426 : decode cL_law 426 = .ok (.iaload, 1) := by decide +kernel
theorem dL_law_427 : decode cL_law 427 = .ok (.invokevirtual 48, 3) := by decide +kernel
theorem dL_law_430 : decode cL_law 430 = .ok (.aload_n 2, 1) := by decide +kernel
theorem dL_law_431 : decode cL_law 431 = .ok (.aload_n 0, 1) := by decide +kernel
theorem dL_law_432 : decode cL_law 432 = .ok (.iload_n 3, 1) := by decide +kernel
theorem dL_law_433 : decode cL_law 433 = .ok (.iconst 1, 1) := by decide +kernel
theorem dL_law_434 : decode cL_law 434 = .ok (.iadd, 1) := by decide +kernel
theorem dL_law_435 : decode cL_law 435 = .ok (.iaload, 1) := by decide +kernel
theorem dL_law_436 : decode cL_law 436 = .ok (.aload_n 0, 1) := by decide +kernel
theorem dL_law_437 : decode cL_law 437 = .ok (.iload_n 3, 1) := by decide +kernel
theorem dL_law_438 : decode cL_law 438 = .ok (.iconst 2, 1) := by decide +kernel
theorem dL_law_439 : decode cL_law 439 = .ok (.iadd, 1) := by decide +kernel
theorem dL_law_440 : decode cL_law 440 = .ok (.iaload, 1) := by decide +kernel
theorem dL_law_441 : decode cL_law 441 = .ok (.invokevirtual 51, 3) := by decide +kernel
theorem dL_law_444 : decode cL_law 444 = .ok (.if_icmp .eq 484, 3) := by decide +kernel
theorem dL_law_447 : decode cL_law 447 = .ok (.iconst 0, 1) := by decide +kernel
theorem dL_law_448 : decode cL_law 448 = .ok (.ireturn, 1) := by decide +kernel
theorem dL_law_449 : decode cL_law 449 = .ok (.aload_n 1, 1) := by decide +kernel
theorem dL_law_450 : decode cL_law 450 = .ok (.aload_n 0, 1) := by decide +kernel
theorem dL_law_451 : decode cL_law 451 = .ok (.iload_n 3, 1) := by decide +kernel
theorem dL_law_452 : decode cL_law 452 = .ok (.iconst 1, 1) := by decide +kernel
theorem dL_law_453 : decode cL_law 453 = .ok (.iadd, 1) := by decide +kernel
theorem dL_law_454 : decode cL_law 454 = .ok (.iaload, 1) := by decide +kernel
theorem dL_law_455 : decode cL_law 455 = .ok (.aload_n 0, 1) := by decide +kernel
theorem dL_law_456 : decode cL_law 456 = .ok (.iload_n 3, 1) := by decide +kernel
theorem dL_law_457 : decode cL_law 457 = .ok (.iconst 2, 1) := by decide +kernel
theorem dL_law_458 : decode cL_law 458 = .ok (.iadd, 1) := by decide +kernel
theorem dL_law_459 : decode cL_law 459 = .ok (.iaload, 1) := by decide +kernel
theorem dL_law_460 : decode cL_law 460 = .ok (.invokevirtual 52, 3) := by decide +kernel
theorem dL_law_463 : decode cL_law 463 = .ok (.aload_n 2, 1) := by decide +kernel
theorem dL_law_464 : decode cL_law 464 = .ok (.aload_n 0, 1) := by decide +kernel
theorem dL_law_465 : decode cL_law 465 = .ok (.iload_n 3, 1) := by decide +kernel
theorem dL_law_466 : decode cL_law 466 = .ok (.iconst 1, 1) := by decide +kernel
theorem dL_law_467 : decode cL_law 467 = .ok (.iadd, 1) := by decide +kernel
theorem dL_law_468 : decode cL_law 468 = .ok (.iaload, 1) := by decide +kernel
theorem dL_law_469 : decode cL_law 469 = .ok (.aload_n 0, 1) := by decide +kernel
theorem dL_law_470 : decode cL_law 470 = .ok (.iload_n 3, 1) := by decide +kernel
theorem dL_law_471 : decode cL_law 471 = .ok (.iconst 2, 1) := by decide +kernel
theorem dL_law_472 : decode cL_law 472 = .ok (.iadd, 1) := by decide +kernel
theorem dL_law_473 : decode cL_law 473 = .ok (.iaload, 1) := by decide +kernel
theorem dL_law_474 : decode cL_law 474 = .ok (.invokevirtual 55, 3) := by decide +kernel
theorem dL_law_477 : decode cL_law 477 = .ok (.if_icmp .eq 451, 3) := by decide +kernel
theorem dL_law_480 : decode cL_law 480 = .ok (.iconst 0, 1) := by decide +kernel
theorem dL_law_481 : decode cL_law 481 = .ok (.ireturn, 1) := by decide +kernel
theorem dL_law_482 : decode cL_law 482 = .ok (.aload_n 1, 1) := by decide +kernel
theorem dL_law_483 : decode cL_law 483 = .ok (.aload_n 0, 1) := by decide +kernel
theorem dL_law_484 : decode cL_law 484 = .ok (.iload_n 3, 1) := by decide +kernel
theorem dL_law_485 : decode cL_law 485 = .ok (.iconst 1, 1) := by decide +kernel
theorem dL_law_486 : decode cL_law 486 = .ok (.iadd, 1) := by decide +kernel
theorem dL_law_487 : decode cL_law 487 = .ok (.iaload, 1) := by decide +kernel
theorem dL_law_488 : decode cL_law 488 = .ok (.invokevirtual 56, 3) := by decide +kernel
theorem dL_law_491 : decode cL_law 491 = .ok (.aload_n 2, 1) := by decide +kernel
theorem dL_law_492 : decode cL_law 492 = .ok (.aload_n 0, 1) := by decide +kernel
theorem dL_law_493 : decode cL_law 493 = .ok (.iload_n 3, 1) := by decide +kernel
theorem dL_law_494 : decode cL_law 494 = .ok (.iconst 1, 1) := by decide +kernel
theorem dL_law_495 : decode cL_law 495 = .ok (.iadd, 1) := by decide +kernel
theorem dL_law_496 : decode cL_law 496 = .ok (.iaload, 1) := by decide +kernel
theorem dL_law_497 : decode cL_law 497 = .ok (.invokevirtual 59, 3) := by decide +kernel
theorem dL_law_500 : decode cL_law 500 = .ok (.if_icmp .eq 428, 3) := by decide +kernel
theorem dL_law_503 : decode cL_law 503 = .ok (.iconst 0, 1) := by decide +kernel
theorem dL_law_504 : decode cL_law 504 = .ok (.ireturn, 1) := by decide +kernel
theorem dL_law_505 : decode cL_law 505 = .ok (.aload_n 1, 1) := by decide +kernel
theorem dL_law_506 : decode cL_law 506 = .ok (.invokevirtual 60, 3) := by decide +kernel
theorem dL_law_509 : decode cL_law 509 = .ok (.aload_n 2, 1) := by decide +kernel
theorem dL_law_510 : decode cL_law 510 = .ok (.invokevirtual 64, 3) := by decide +kernel
theorem dL_law_513 : decode cL_law 513 = .ok (.if_icmp .eq 415, 3) := by decide +kernel
theorem dL_law_516 : decode cL_law 516 = .ok (.iconst 0, 1) := by decide +kernel
theorem dL_law_517 : decode cL_law 517 = .ok (.ireturn, 1) := by decide +kernel
theorem dL_law_518 : decode cL_law 518 = .ok (.aload_n 1, 1) := by decide +kernel
theorem dL_law_519 : decode cL_law 519 = .ok (.aload_n 0, 1) := by decide +kernel
theorem dL_law_520 : decode cL_law 520 = .ok (.iload_n 3, 1) := by decide +kernel
theorem dL_law_521 : decode cL_law 521 = .ok (.iconst 1, 1) := by decide +kernel
theorem dL_law_522 : decode cL_law 522 = .ok (.iadd, 1) := by decide +kernel
theorem dL_law_523 : decode cL_law 523 = .ok (.iaload, 1) := by decide +kernel
theorem dL_law_524 : decode cL_law 524 = .ok (.aload_n 0, 1) := by decide +kernel
theorem dL_law_525 : decode cL_law 525 = .ok (.iload_n 3, 1) := by decide +kernel
theorem dL_law_526 : decode cL_law 526 = .ok (.iconst 2, 1) := by decide +kernel
theorem dL_law_527 : decode cL_law 527 = .ok (.iadd, 1) := by decide +kernel
theorem dL_law_528 : decode cL_law 528 = .ok (.iaload, 1) := by decide +kernel
theorem dL_law_529 : decode cL_law 529 = .ok (.invokevirtual 65, 3) := by decide +kernel
theorem dL_law_532 : decode cL_law 532 = .ok (.aload_n 2, 1) := by decide +kernel
theorem dL_law_533 : decode cL_law 533 = .ok (.aload_n 0, 1) := by decide +kernel
theorem dL_law_534 : decode cL_law 534 = .ok (.iload_n 3, 1) := by decide +kernel
theorem dL_law_535 : decode cL_law 535 = .ok (.iconst 1, 1) := by decide +kernel
theorem dL_law_536 : decode cL_law 536 = .ok (.iadd, 1) := by decide +kernel
theorem dL_law_537 : decode cL_law 537 = .ok (.iaload, 1) := by decide +kernel
theorem dL_law_538 : decode cL_law 538 = .ok (.aload_n 0, 1) := by decide +kernel
theorem dL_law_539 : decode cL_law 539 = .ok (.iload_n 3, 1) := by decide +kernel
theorem dL_law_540 : decode cL_law 540 = .ok (.iconst 2, 1) := by decide +kernel
theorem dL_law_541 : decode cL_law 541 = .ok (.iadd, 1) := by decide +kernel
theorem dL_law_542 : decode cL_law 542 = .ok (.iaload, 1) := by decide +kernel
theorem dL_law_543 : decode cL_law 543 = .ok (.invokevirtual 68, 3) := by decide +kernel
theorem dL_law_546 : decode cL_law 546 = .ok (.if_icmp .eq 382, 3) := by decide +kernel
theorem dL_law_549 : decode cL_law 549 = .ok (.iconst 0, 1) := by decide +kernel
theorem dL_law_550 : decode cL_law 550 = .ok (.ireturn, 1) := by decide +kernel
theorem dL_law_551 : decode cL_law 551 = .ok (.aload_n 1, 1) := by decide +kernel
theorem dL_law_552 : decode cL_law 552 = .ok (.aload_n 0, 1) := by decide +kernel
theorem dL_law_553 : decode cL_law 553 = .ok (.iload_n 3, 1) := by decide +kernel
theorem dL_law_554 : decode cL_law 554 = .ok (.iconst 1, 1) := by decide +kernel
theorem dL_law_555 : decode cL_law 555 = .ok (.iadd, 1) := by decide +kernel
theorem dL_law_556 : decode cL_law 556 = .ok (.iaload, 1) := by decide +kernel
theorem dL_law_557 : decode cL_law 557 = .ok (.aload_n 0, 1) := by decide +kernel
theorem dL_law_558 : decode cL_law 558 = .ok (.iload_n 3, 1) := by decide +kernel
theorem dL_law_559 : decode cL_law 559 = .ok (.iconst 2, 1) := by decide +kernel
theorem dL_law_560 : decode cL_law 560 = .ok (.iadd, 1) := by decide +kernel
theorem dL_law_561 : decode cL_law 561 = .ok (.iaload, 1) := by decide +kernel
theorem dL_law_562 : decode cL_law 562 = .ok (.invokevirtual 69, 3) := by decide +kernel
theorem dL_law_565 : decode cL_law 565 = .ok (.aload_n 2, 1) := by decide +kernel
theorem dL_law_566 : decode cL_law 566 = .ok (.aload_n 0, 1) := by decide +kernel
theorem dL_law_567 : decode cL_law 567 = .ok (.iload_n 3, 1) := by decide +kernel
theorem dL_law_568 : decode cL_law 568 = .ok (.iconst 1, 1) := by decide +kernel
theorem dL_law_569 : decode cL_law 569 = .ok (.iadd, 1) := by decide +kernel
theorem dL_law_570 : decode cL_law 570 = .ok (.iaload, 1) := by decide +kernel
theorem dL_law_571 : decode cL_law 571 = .ok (.aload_n 0, 1) := by decide +kernel
theorem dL_law_572 : decode cL_law 572 = .ok (.iload_n 3, 1) := by decide +kernel
theorem dL_law_573 : decode cL_law 573 = .ok (.iconst 2, 1) := by decide +kernel
theorem dL_law_574 : decode cL_law 574 = .ok (.iadd, 1) := by decide +kernel
theorem dL_law_575 : decode cL_law 575 = .ok (.iaload, 1) := by decide +kernel
theorem dL_law_576 : decode cL_law 576 = .ok (.invokevirtual 72, 3) := by decide +kernel
theorem dL_law_579 : decode cL_law 579 = .ok (.if_icmp .eq 349, 3) := by decide +kernel
theorem dL_law_582 : decode cL_law 582 = .ok (.iconst 0, 1) := by decide +kernel
theorem dL_law_583 : decode cL_law 583 = .ok (.ireturn, 1) := by decide +kernel
theorem dL_law_584 : decode cL_law 584 = .ok (.aload_n 1, 1) := by decide +kernel
theorem dL_law_585 : decode cL_law 585 = .ok (.aload_n 0, 1) := by decide +kernel
theorem dL_law_586 : decode cL_law 586 = .ok (.iload_n 3, 1) := by decide +kernel
theorem dL_law_587 : decode cL_law 587 = .ok (.iconst 1, 1) := by decide +kernel
theorem dL_law_588 : decode cL_law 588 = .ok (.iadd, 1) := by decide +kernel
theorem dL_law_589 : decode cL_law 589 = .ok (.iaload, 1) := by decide +kernel
theorem dL_law_590 : decode cL_law 590 = .ok (.invokevirtual 73, 3) := by decide +kernel
theorem dL_law_593 : decode cL_law 593 = .ok (.f2d, 1) := by decide +kernel
theorem dL_law_594 : decode cL_law 594 = .ok (.dstore 4, 2) := by decide +kernel
theorem dL_law_596 : decode cL_law 596 = .ok (.aload_n 2, 1) := by decide +kernel
theorem dL_law_597 : decode cL_law 597 = .ok (.aload_n 0, 1) := by decide +kernel
theorem dL_law_598 : decode cL_law 598 = .ok (.iload_n 3, 1) := by decide +kernel
theorem dL_law_599 : decode cL_law 599 = .ok (.iconst 1, 1) := by decide +kernel
theorem dL_law_600 : decode cL_law 600 = .ok (.iadd, 1) := by decide +kernel
theorem dL_law_601 : decode cL_law 601 = .ok (.iaload, 1) := by decide +kernel
theorem dL_law_602 : decode cL_law 602 = .ok (.invokevirtual 77, 3) := by decide +kernel
theorem dL_law_605 : decode cL_law 605 = .ok (.f2d, 1) := by decide +kernel
theorem dL_law_606 : decode cL_law 606 = .ok (.dstore 6, 2) := by decide +kernel
theorem dL_law_608 : decode cL_law 608 = .ok (.dload 4, 2) := by decide +kernel
theorem dL_law_610 : decode cL_law 610 = .ok (.dload 6, 2) := by decide +kernel
theorem dL_law_612 : decode cL_law 612 = .ok (.dcmp .l, 1) := by decide +kernel
theorem dL_law_613 : decode cL_law 613 = .ok (.ifCond .eq 21, 3) := by decide +kernel
theorem dL_law_616 : decode cL_law 616 = .ok (.dload 4, 2) := by decide +kernel
theorem dL_law_618 : decode cL_law 618 = .ok (.dload 4, 2) := by decide +kernel
theorem dL_law_620 : decode cL_law 620 = .ok (.dcmp .l, 1) := by decide +kernel
theorem dL_law_621 : decode cL_law 621 = .ok (.ifCond .eq 11, 3) := by decide +kernel
theorem dL_law_624 : decode cL_law 624 = .ok (.dload 6, 2) := by decide +kernel
theorem dL_law_626 : decode cL_law 626 = .ok (.dload 6, 2) := by decide +kernel
theorem dL_law_628 : decode cL_law 628 = .ok (.dcmp .l, 1) := by decide +kernel
theorem dL_law_629 : decode cL_law 629 = .ok (.ifCond .ne 5, 3) := by decide +kernel
theorem dL_law_632 : decode cL_law 632 = .ok (.iconst 0, 1) := by decide +kernel
theorem dL_law_633 : decode cL_law 633 = .ok (.ireturn, 1) := by decide +kernel
theorem dL_law_634 : decode cL_law 634 = .ok (.goto 294, 3) := by decide +kernel
theorem dL_law_637 : decode cL_law 637 = .ok (.aload_n 1, 1) := by decide +kernel
theorem dL_law_638 : decode cL_law 638 = .ok (.invokevirtual 78, 3) := by decide +kernel
theorem dL_law_641 : decode cL_law 641 = .ok (.dstore 4, 2) := by decide +kernel
theorem dL_law_643 : decode cL_law 643 = .ok (.aload_n 2, 1) := by decide +kernel
theorem dL_law_644 : decode cL_law 644 = .ok (.invokevirtual 82, 3) := by decide +kernel
theorem dL_law_647 : decode cL_law 647 = .ok (.dstore 6, 2) := by decide +kernel
theorem dL_law_649 : decode cL_law 649 = .ok (.dload 4, 2) := by decide +kernel
theorem dL_law_651 : decode cL_law 651 = .ok (.dload 6, 2) := by decide +kernel
theorem dL_law_653 : decode cL_law 653 = .ok (.dcmp .l, 1) := by decide +kernel
theorem dL_law_654 : decode cL_law 654 = .ok (.ifCond .eq 21, 3) := by decide +kernel
theorem dL_law_657 : decode cL_law 657 = .ok (.dload 4, 2) := by decide +kernel
theorem dL_law_659 : decode cL_law 659 = .ok (.dload 4, 2) := by decide +kernel
theorem dL_law_661 : decode cL_law 661 = .ok (.dcmp .l, 1) := by decide +kernel
theorem dL_law_662 : decode cL_law 662 = .ok (.ifCond .eq 11, 3) := by decide +kernel
theorem dL_law_665 : decode cL_law 665 = .ok (.dload 6, 2) := by decide +kernel
theorem dL_law_667 : decode cL_law 667 = .ok (.dload 6, 2) := by decide +kernel
theorem dL_law_669 : decode cL_law 669 = .ok (.dcmp .l, 1) := by decide +kernel
theorem dL_law_670 : decode cL_law 670 = .ok (.ifCond .ne 5, 3) := by decide +kernel
theorem dL_law_673 : decode cL_law 673 = .ok (.iconst 0, 1) := by decide +kernel
theorem dL_law_674 : decode cL_law 674 = .ok (.ireturn, 1) := by decide +kernel
theorem dL_law_675 : decode cL_law 675 = .ok (.goto 253, 3) := by decide +kernel
theorem dL_law_678 : decode cL_law 678 = .ok (.aload_n 1, 1) := by decide +kernel
theorem dL_law_679 : decode cL_law 679 = .ok (.aload_n 0, 1) := by decide +kernel
theorem dL_law_680 : decode cL_law 680 = .ok (.iload_n 3, 1) := by decide +kernel
theorem dL_law_681 : decode cL_law 681 = .ok (.iconst 1, 1) := by decide +kernel
theorem dL_law_682 : decode cL_law 682 = .ok (.iadd, 1) := by decide +kernel
theorem dL_law_683 : decode cL_law 683 = .ok (.iaload, 1) := by decide +kernel
theorem dL_law_684 : decode cL_law 684 = .ok (.invokevirtual 83, 3) := by decide +kernel
theorem dL_law_687 : decode cL_law 687 = .ok (.aload_n 2, 1) := by decide +kernel
theorem dL_law_688 : decode cL_law 688 = .ok (.aload_n 0, 1) := by decide +kernel
theorem dL_law_689 : decode cL_law 689 = .ok (.iload_n 3, 1) := by decide +kernel
theorem dL_law_690 : decode cL_law 690 = .ok (.iconst 1, 1) := by decide +kernel
theorem dL_law_691 : decode cL_law 691 = .ok (.iadd, 1) := by decide +kernel
theorem dL_law_692 : decode cL_law 692 = .ok (.iaload, 1) := by decide +kernel
theorem dL_law_693 : decode cL_law 693 = .ok (.invokevirtual 86, 3) := by decide +kernel
theorem dL_law_696 : decode cL_law 696 = .ok (.if_icmp .eq 232, 3) := by decide +kernel
theorem dL_law_699 : decode cL_law 699 = .ok (.iconst 0, 1) := by decide +kernel
theorem dL_law_700 : decode cL_law 700 = .ok (.ireturn, 1) := by decide +kernel
theorem dL_law_701 : decode cL_law 701 = .ok (.aload_n 1, 1) := by decide +kernel
theorem dL_law_702 : decode cL_law 702 = .ok (.aload_n 0, 1) := by decide +kernel
theorem dL_law_703 : decode cL_law 703 = .ok (.iload_n 3, 1) := by decide +kernel
theorem dL_law_704 : decode cL_law 704 = .ok (.iconst 1, 1) := by decide +kernel
theorem dL_law_705 : decode cL_law 705 = .ok (.iadd, 1) := by decide +kernel
theorem dL_law_706 : decode cL_law 706 = .ok (.iaload, 1) := by decide +kernel
theorem dL_law_707 : decode cL_law 707 = .ok (.aload_n 0, 1) := by decide +kernel
theorem dL_law_708 : decode cL_law 708 = .ok (.iload_n 3, 1) := by decide +kernel
theorem dL_law_709 : decode cL_law 709 = .ok (.iconst 2, 1) := by decide +kernel
theorem dL_law_710 : decode cL_law 710 = .ok (.iadd, 1) := by decide +kernel
theorem dL_law_711 : decode cL_law 711 = .ok (.iaload, 1) := by decide +kernel
theorem dL_law_712 : decode cL_law 712 = .ok (.aload_n 0, 1) := by decide +kernel
theorem dL_law_713 : decode cL_law 713 = .ok (.iload_n 3, 1) := by decide +kernel
theorem dL_law_714 : decode cL_law 714 = .ok (.iconst 3, 1) := by decide +kernel
theorem dL_law_715 : decode cL_law 715 = .ok (.iadd, 1) := by decide +kernel
theorem dL_law_716 : decode cL_law 716 = .ok (.iaload, 1) := by decide +kernel
theorem dL_law_717 : decode cL_law 717 = .ok (.invokevirtual 87, 3) := by decide +kernel
theorem dL_law_720 : decode cL_law 720 = .ok (.aload_n 2, 1) := by decide +kernel
theorem dL_law_721 : decode cL_law 721 = .ok (.aload_n 0, 1) := by decide +kernel
theorem dL_law_722 : decode cL_law 722 = .ok (.iload_n 3, 1) := by decide +kernel
theorem dL_law_723 : decode cL_law 723 = .ok (.iconst 1, 1) := by decide +kernel
theorem dL_law_724 : decode cL_law 724 = .ok (.iadd, 1) := by decide +kernel
theorem dL_law_725 : decode cL_law 725 = .ok (.iaload, 1) := by decide +kernel
theorem dL_law_726 : decode cL_law 726 = .ok (.aload_n 0, 1) := by decide +kernel
theorem dL_law_727 : decode cL_law 727 = .ok (.iload_n 3, 1) := by decide +kernel
theorem dL_law_728 : decode cL_law 728 = .ok (.iconst 2, 1) := by decide +kernel
theorem dL_law_729 : decode cL_law 729 = .ok (.iadd, 1) := by decide +kernel
theorem dL_law_730 : decode cL_law 730 = .ok (.iaload, 1) := by decide +kernel
theorem dL_law_731 : decode cL_law 731 = .ok (.aload_n 0, 1) := by decide +kernel
theorem dL_law_732 : decode cL_law 732 = .ok (.iload_n 3, 1) := by decide +kernel
theorem dL_law_733 : decode cL_law 733 = .ok (.iconst 3, 1) := by decide +kernel
theorem dL_law_734 : decode cL_law 734 = .ok (.iadd, 1) := by decide +kernel
theorem dL_law_735 : decode cL_law 735 = .ok (.iaload, 1) := by decide +kernel
theorem dL_law_736 : decode cL_law 736 = .ok (.invokevirtual 90, 3) := by decide +kernel
theorem dL_law_739 : decode cL_law 739 = .ok (.if_icmp .eq 189, 3) := by decide +kernel
theorem dL_law_742 : decode cL_law 742 = .ok (.iconst 0, 1) := by decide +kernel
theorem dL_law_743 : decode cL_law 743 = .ok (.ireturn, 1) := by decide +kernel
theorem dL_law_744 : decode cL_law 744 = .ok (.aload_n 1, 1) := by decide +kernel
theorem dL_law_745 : decode cL_law 745 = .ok (.aload_n 0, 1) := by decide +kernel
theorem dL_law_746 : decode cL_law 746 = .ok (.iload_n 3, 1) := by decide +kernel
theorem dL_law_747 : decode cL_law 747 = .ok (.iconst 1, 1) := by decide +kernel
theorem dL_law_748 : decode cL_law 748 = .ok (.iadd, 1) := by decide +kernel
theorem dL_law_749 : decode cL_law 749 = .ok (.iaload, 1) := by decide +kernel
theorem dL_law_750 : decode cL_law 750 = .ok (.aload_n 0, 1) := by decide +kernel
theorem dL_law_751 : decode cL_law 751 = .ok (.iload_n 3, 1) := by decide +kernel
theorem dL_law_752 : decode cL_law 752 = .ok (.iconst 2, 1) := by decide +kernel
theorem dL_law_753 : decode cL_law 753 = .ok (.iadd, 1) := by decide +kernel
theorem dL_law_754 : decode cL_law 754 = .ok (.iaload, 1) := by decide +kernel
theorem dL_law_755 : decode cL_law 755 = .ok (.aload_n 0, 1) := by decide +kernel
theorem dL_law_756 : decode cL_law 756 = .ok (.iload_n 3, 1) := by decide +kernel
theorem dL_law_757 : decode cL_law 757 = .ok (.iconst 3, 1) := by decide +kernel
theorem dL_law_758 : decode cL_law 758 = .ok (.iadd, 1) := by decide +kernel
theorem dL_law_759 : decode cL_law 759 = .ok (.iaload, 1) := by decide +kernel
theorem dL_law_760 : decode cL_law 760 = .ok (.invokevirtual 91, 3) := by decide +kernel
theorem dL_law_763 : decode cL_law 763 = .ok (.aload_n 2, 1) := by decide +kernel
theorem dL_law_764 : decode cL_law 764 = .ok (.aload_n 0, 1) := by decide +kernel
theorem dL_law_765 : decode cL_law 765 = .ok (.iload_n 3, 1) := by decide +kernel
theorem dL_law_766 : decode cL_law 766 = .ok (.iconst 1, 1) := by decide +kernel
theorem dL_law_767 : decode cL_law 767 = .ok (.iadd, 1) := by decide +kernel
theorem dL_law_768 : decode cL_law 768 = .ok (.iaload, 1) := by decide +kernel
theorem dL_law_769 : decode cL_law 769 = .ok (.aload_n 0, 1) := by decide +kernel
theorem dL_law_770 : decode cL_law 770 = .ok (.iload_n 3, 1) := by decide +kernel
theorem dL_law_771 : decode cL_law 771 = .ok (.iconst 2, 1) := by decide +kernel
theorem dL_law_772 : decode cL_law 772 = .ok (.iadd, 1) := by decide +kernel
theorem dL_law_773 : decode cL_law 773 = .ok (.iaload, 1) := by decide +kernel
theorem dL_law_774 : decode cL_law 774 = .ok (.aload_n 0, 1) := by decide +kernel
theorem dL_law_775 : decode cL_law 775 = .ok (.iload_n 3, 1) := by decide +kernel
theorem dL_law_776 : decode cL_law 776 = .ok (.iconst 3, 1) := by decide +kernel
theorem dL_law_777 : decode cL_law 777 = .ok (.iadd, 1) := by decide +kernel
theorem dL_law_778 : decode cL_law 778 = .ok (.iaload, 1) := by decide +kernel
theorem dL_law_779 : decode cL_law 779 = .ok (.invokevirtual 94, 3) := by decide +kernel
theorem dL_law_782 : decode cL_law 782 = .ok (.if_icmp .eq 146, 3) := by decide +kernel
theorem dL_law_785 : decode cL_law 785 = .ok (.iconst 0, 1) := by decide +kernel
theorem dL_law_786 : decode cL_law 786 = .ok (.ireturn, 1) := by decide +kernel
theorem dL_law_787 : decode cL_law 787 = .ok (.aload_n 1, 1) := by decide +kernel
theorem dL_law_788 : decode cL_law 788 = .ok (.aload_n 0, 1) := by decide +kernel
theorem dL_law_789 : decode cL_law 789 = .ok (.iload_n 3, 1) := by decide +kernel
theorem dL_law_790 : decode cL_law 790 = .ok (.iconst 1, 1) := by decide +kernel
theorem dL_law_791 : decode cL_law 791 = .ok (.iadd, 1) := by decide +kernel
theorem dL_law_792 : decode cL_law 792 = .ok (.iaload, 1) := by decide +kernel
theorem dL_law_793 : decode cL_law 793 = .ok (.invokevirtual 95, 3) := by decide +kernel
theorem dL_law_796 : decode cL_law 796 = .ok (.aload_n 2, 1) := by decide +kernel
theorem dL_law_797 : decode cL_law 797 = .ok (.aload_n 0, 1) := by decide +kernel
theorem dL_law_798 : decode cL_law 798 = .ok (.iload_n 3, 1) := by decide +kernel
theorem dL_law_799 : decode cL_law 799 = .ok (.iconst 1, 1) := by decide +kernel
theorem dL_law_800 : decode cL_law 800 = .ok (.iadd, 1) := by decide +kernel
theorem dL_law_801 : decode cL_law 801 = .ok (.iaload, 1) := by decide +kernel
theorem dL_law_802 : decode cL_law 802 = .ok (.invokevirtual 98, 3) := by decide +kernel
theorem dL_law_805 : decode cL_law 805 = .ok (.if_icmp .eq 123, 3) := by decide +kernel
theorem dL_law_808 : decode cL_law 808 = .ok (.iconst 0, 1) := by decide +kernel
theorem dL_law_809 : decode cL_law 809 = .ok (.ireturn, 1) := by decide +kernel
theorem dL_law_810 : decode cL_law 810 = .ok (.aload_n 1, 1) := by decide +kernel
theorem dL_law_811 : decode cL_law 811 = .ok (.aload_n 0, 1) := by decide +kernel
theorem dL_law_812 : decode cL_law 812 = .ok (.iload_n 3, 1) := by decide +kernel
theorem dL_law_813 : decode cL_law 813 = .ok (.iconst 1, 1) := by decide +kernel
theorem dL_law_814 : decode cL_law 814 = .ok (.iadd, 1) := by decide +kernel
theorem dL_law_815 : decode cL_law 815 = .ok (.iaload, 1) := by decide +kernel
theorem dL_law_816 : decode cL_law 816 = .ok (.invokevirtual 99, 3) := by decide +kernel
theorem dL_law_819 : decode cL_law 819 = .ok (.aload_n 2, 1) := by decide +kernel
theorem dL_law_820 : decode cL_law 820 = .ok (.aload_n 0, 1) := by decide +kernel
theorem dL_law_821 : decode cL_law 821 = .ok (.iload_n 3, 1) := by decide +kernel
theorem dL_law_822 : decode cL_law 822 = .ok (.iconst 1, 1) := by decide +kernel
theorem dL_law_823 : decode cL_law 823 = .ok (.iadd, 1) := by decide +kernel
theorem dL_law_824 : decode cL_law 824 = .ok (.iaload, 1) := by decide +kernel
theorem dL_law_825 : decode cL_law 825 = .ok (.invokevirtual 102, 3) := by decide +kernel
theorem dL_law_828 : decode cL_law 828 = .ok (.if_icmp .eq 100, 3) := by decide +kernel
theorem dL_law_831 : decode cL_law 831 = .ok (.iconst 0, 1) := by decide +kernel
theorem dL_law_832 : decode cL_law 832 = .ok (.ireturn, 1) := by decide +kernel
theorem dL_law_833 : decode cL_law 833 = .ok (.aload_n 1, 1) := by decide +kernel
theorem dL_law_834 : decode cL_law 834 = .ok (.invokevirtual 103, 3) := by decide +kernel
theorem dL_law_837 : decode cL_law 837 = .ok (.aload_n 2, 1) := by decide +kernel
theorem dL_law_838 : decode cL_law 838 = .ok (.invokevirtual 106, 3) := by decide +kernel
theorem dL_law_841 : decode cL_law 841 = .ok (.if_icmp .eq 87, 3) := by decide +kernel
theorem dL_law_844 : decode cL_law 844 = .ok (.iconst 0, 1) := by decide +kernel
theorem dL_law_845 : decode cL_law 845 = .ok (.ireturn, 1) := by decide +kernel
theorem dL_law_846 : decode cL_law 846 = .ok (.aload_n 1, 1) := by decide +kernel
theorem dL_law_847 : decode cL_law 847 = .ok (.invokevirtual 107, 3) := by decide +kernel
theorem dL_law_850 : decode cL_law 850 = .ok (.aload_n 2, 1) := by decide +kernel
theorem dL_law_851 : decode cL_law 851 = .ok (.invokevirtual 110, 3) := by decide +kernel
theorem dL_law_854 : decode cL_law 854 = .ok (.if_icmp .eq 74, 3) := by decide +kernel
theorem dL_law_857 : decode cL_law 857 = .ok (.iconst 0, 1) := by decide +kernel
theorem dL_law_858 : decode cL_law 858 = .ok (.ireturn, 1) := by decide +kernel
theorem dL_law_859 : decode cL_law 859 = .ok (.aload_n 1, 1) := by decide +kernel
theorem dL_law_860 : decode cL_law 860 = .ok (.aload_n 0, 1) := by decide +kernel
theorem dL_law_861 : decode cL_law 861 = .ok (.iload_n 3, 1) := by decide +kernel
theorem dL_law_862 : decode cL_law 862 = .ok (.iconst 1, 1) := by decide +kernel
theorem dL_law_863 : decode cL_law 863 = .ok (.iadd, 1) := by decide +kernel
theorem dL_law_864 : decode cL_law 864 = .ok (.iaload, 1) := by decide +kernel
theorem dL_law_865 : decode cL_law 865 = .ok (.invokevirtual 111, 3) := by decide +kernel
theorem dL_law_868 : decode cL_law 868 = .ok (.aload_n 2, 1) := by decide +kernel
theorem dL_law_869 : decode cL_law 869 = .ok (.aload_n 0, 1) := by decide +kernel
theorem dL_law_870 : decode cL_law 870 = .ok (.iload_n 3, 1) := by decide +kernel
theorem dL_law_871 : decode cL_law 871 = .ok (.iconst 1, 1) := by decide +kernel
theorem dL_law_872 : decode cL_law 872 = .ok (.iadd, 1) := by decide +kernel
theorem dL_law_873 : decode cL_law 873 = .ok (.iaload, 1) := by decide +kernel
theorem dL_law_874 : decode cL_law 874 = .ok (.invokevirtual 114, 3) := by decide +kernel
theorem dL_law_877 : decode cL_law 877 = .ok (.if_icmp .eq 51, 3) := by decide +kernel
theorem dL_law_880 : decode cL_law 880 = .ok (.iconst 0, 1) := by decide +kernel
theorem dL_law_881 : decode cL_law 881 = .ok (.ireturn, 1) := by decide +kernel
theorem dL_law_882 : decode cL_law 882 = .ok (.aload_n 1, 1) := by decide +kernel
theorem dL_law_883 : decode cL_law 883 = .ok (.aload_n 0, 1) := by decide +kernel
theorem dL_law_884 : decode cL_law 884 = .ok (.iload_n 3, 1) := by decide +kernel
theorem dL_law_885 : decode cL_law 885 = .ok (.iconst 1, 1) := by decide +kernel
theorem dL_law_886 : decode cL_law 886 = .ok (.iadd, 1) := by decide +kernel
theorem dL_law_887 : decode cL_law 887 = .ok (.iaload, 1) := by decide +kernel
theorem dL_law_888 : decode cL_law 888 = .ok (.invokevirtual 115, 3) := by decide +kernel
theorem dL_law_891 : decode cL_law 891 = .ok (.aload_n 2, 1) := by decide +kernel
theorem dL_law_892 : decode cL_law 892 = .ok (.aload_n 0, 1) := by decide +kernel
theorem dL_law_893 : decode cL_law 893 = .ok (.iload_n 3, 1) := by decide +kernel
theorem dL_law_894 : decode cL_law 894 = .ok (.iconst 1, 1) := by decide +kernel
theorem dL_law_895 : decode cL_law 895 = .ok (.iadd, 1) := by decide +kernel
theorem dL_law_896 : decode cL_law 896 = .ok (.iaload, 1) := by decide +kernel
theorem dL_law_897 : decode cL_law 897 = .ok (.invokevirtual 118, 3) := by decide +kernel
theorem dL_law_900 : decode cL_law 900 = .ok (.if_icmp .eq 28, 3) := by decide +kernel
theorem dL_law_903 : decode cL_law 903 = .ok (.iconst 0, 1) := by decide +kernel
theorem dL_law_904 : decode cL_law 904 = .ok (.ireturn, 1) := by decide +kernel
theorem dL_law_905 : decode cL_law 905 = .ok (.aload_n 1, 1) := by decide +kernel
theorem dL_law_906 : decode cL_law 906 = .ok (.aload_n 0, 1) := by decide +kernel
theorem dL_law_907 : decode cL_law 907 = .ok (.iload_n 3, 1) := by decide +kernel
theorem dL_law_908 : decode cL_law 908 = .ok (.iconst 1, 1) := by decide +kernel
theorem dL_law_909 : decode cL_law 909 = .ok (.iadd, 1) := by decide +kernel
theorem dL_law_910 : decode cL_law 910 = .ok (.iaload, 1) := by decide +kernel
theorem dL_law_911 : decode cL_law 911 = .ok (.invokevirtual 119, 3) := by decide +kernel
theorem dL_law_914 : decode cL_law 914 = .ok (.aload_n 2, 1) := by decide +kernel
theorem dL_law_915 : decode cL_law 915 = .ok (.aload_n 0, 1) := by decide +kernel
theorem dL_law_916 : decode cL_law 916 = .ok (.iload_n 3, 1) := by decide +kernel
theorem dL_law_917 : decode cL_law 917 = .ok (.iconst 1, 1) := by decide +kernel
theorem dL_law_918 : decode cL_law 918 = .ok (.iadd, 1) := by decide +kernel
theorem dL_law_919 : decode cL_law 919 = .ok (.iaload, 1) := by decide +kernel
theorem dL_law_920 : decode cL_law 920 = .ok (.invokevirtual 122, 3) := by decide +kernel
theorem dL_law_923 : decode cL_law 923 = .ok (.if_icmp .eq 5, 3) := by decide +kernel
theorem dL_law_926 : decode cL_law 926 = .ok (.iconst 0, 1) := by decide +kernel
theorem dL_law_927 : decode cL_law 927 = .ok (.ireturn, 1) := by decide +kernel
theorem dL_law_928 : decode cL_law 928 = .ok (.iinc 3 4, 3) := by decide +kernel
theorem dL_law_931 : decode cL_law 931 = .ok (.goto (-913), 3) := by decide +kernel
theorem dL_law_934 : decode cL_law 934 = .ok (.iconst 1, 1) := by decide +kernel
theorem dL_law_935 : decode cL_law 935 = .ok (.ireturn, 1) := by decide +kernel
end
section
/-! ONE MEMORY: the cells of the class and of the reference by number; what each holds; the judgement J over it, a row an instruction (my own layer over the kit's rows) -/
/-- the words that every method of ours is given: those that a caller can hand on; and the nest mates' links -/
def lw_g : List Cond := lw_tbl.filter goodWord
def nestWord : Cond → Bool
  | .fieldLinkNest .. => true
  | .methodLinkNest .. => true
  | _ => false
def lw_n : List Cond := lw_tbl.filter nestWord
theorem in_g {c : Cond} (i : Nat) (h : lw_tbl[i]? = some c) (hg : goodWord c = true) : c ∈ lw_g := List.mem_filter.mpr ⟨List.mem_of_getElem? h, hg⟩
theorem in_n {c : Cond} (i : Nat) (h : lw_tbl[i]? = some c) (hg : nestWord c = true) : c ∈ lw_n := List.mem_filter.mpr ⟨List.mem_of_getElem? h, hg⟩
def Nw (U : State) : Prop := ∀ w ∈ lw_n, va_Nw w U
theorem Nw.warm {s U : State} (h : Nw s) (hW : s.WarmedH U.vm) : Nw U := fun w hw => by
  have h1 := h w hw
  have h2 := (List.mem_filter.mp hw).2
  cases w <;> first | exact va_Nw.warmF hW h1 | exact va_Nw.warmM hW h1 | (simp [nestWord] at h2)
theorem Nw.same {u U : State} (h : u.vm = U.vm) (hN : Nw u) : Nw U := fun w hw => by
  have h2 := (List.mem_filter.mp hw).2
  refine va_Nw.same ?_ h (hN w hw)
  cases w <;> first | rfl | (simp [nestWord] at h2)
abbrev Mem : Type := Nat → Nat → Int32
def gput (σ : Mem) (k : Nat) (f : Nat → Int32) : Mem := fun a => if a = k then f else σ a
theorem gput_s (σ : Mem) (k : Nat) (f : Nat → Int32) : gput σ k f k = f := by simp [gput]
theorem gput_n {σ : Mem} {k a : Nat} {f : Nat → Int32} (h : a ≠ k) : gput σ k f a = σ a := by simp [gput, h]
def clsL : List Nat := [8, 5, 4, 100, 1, 4, 100, 100, 100, 100, 100, 100, 100, 100, 3, 4, 100, 100, 100, 100, 7, 0, 100, 100, 100, 5, 4, 100, 1, 4, 100, 100, 100, 100, 100, 100, 100, 100, 3, 4, 100, 100, 100, 100, 7, 0, 100, 100, 100, 6, 5, 4, 100, 1, 4, 100, 100, 100, 100, 100, 100, 100, 100, 3, 4, 100, 100, 100, 100, 7, 0, 100, 100, 100, 6, 5, 4, 100, 1, 4, 100, 100, 100, 100, 100, 100, 100, 100, 3, 4, 100, 100, 100, 100, 7, 0, 100, 100, 100, 2, 0, 100, 100, 100, 102, 9, 100, 100, 100, 101, 100, 100, 103, 103, 103, 103, 103, 103, 103, 103, 103]
def alenL : List Nat := [0, 0, 0, 6, 0, 0, 72, 12, 12, 12, 12, 12, 12, 612, 0, 0, 6, 3, 3, 3, 0, 0, 60, 60, 60, 0, 0, 6, 0, 0, 72, 12, 12, 12, 12, 12, 12, 612, 0, 0, 6, 3, 3, 3, 0, 0, 60, 60, 60, 0, 0, 0, 6, 0, 0, 72, 12, 12, 12, 12, 12, 12, 612, 0, 0, 6, 3, 3, 3, 0, 0, 60, 60, 60, 0, 0, 0, 6, 0, 0, 72, 12, 12, 12, 12, 12, 12, 612, 0, 0, 6, 3, 3, 3, 0, 0, 60, 60, 60, 0, 0, 60, 60, 60, 80, 0, 1121, 1121, 2242, 2, 80, 60, 6, 6, 6, 2, 2, 2, 6, 6, 6]
def ptrL : List (List Nat) := [[1, 25, 49, 74, 99], [2, 4, 14, 20, 21], [118, 119, 120, 0, 3], [], [5, 7, 8, 9, 10, 11, 12, 13], [112, 113, 114, 0, 6], [], [], [], [], [], [], [], [], [15, 17, 18, 19], [115, 116, 117, 0, 16], [], [], [], [], [], [22, 23, 24], [], [], [], [26, 28, 38, 44, 45], [118, 119, 120, 0, 27], [], [29, 31, 32, 33, 34, 35, 36, 37], [112, 113, 114, 0, 30], [], [], [], [], [], [], [], [], [39, 41, 42, 43], [115, 116, 117, 0, 40], [], [], [], [], [], [46, 47, 48], [], [], [], [50], [51, 53, 63, 69, 70], [118, 119, 120, 0, 52], [], [54, 56, 57, 58, 59, 60, 61, 62], [112, 113, 114, 0, 55], [], [], [], [], [], [], [], [], [64, 66, 67, 68], [115, 116, 117, 0, 65], [], [], [], [], [], [71, 72, 73], [], [], [], [75], [76, 78, 88, 94, 95], [118, 119, 120, 0, 77], [], [79, 81, 82, 83, 84, 85, 86, 87], [112, 113, 114, 0, 80], [], [], [], [], [], [], [], [], [89, 91, 92, 93], [115, 116, 117, 0, 90], [], [], [], [], [], [96, 97, 98], [], [], [], [100, 104], [101, 102, 103], [], [], [], [], [106, 107, 108, 109, 110, 0, 0, 0, 111, 0], [], [], [], [], [], [], [], [], [], [], [], [], [], [], []]
def clsOf (k : Nat) : Nat := clsL.getD k 999
def alen (k : Nat) : Nat := alenL.getD k 0
def ptr (k j : Nat) : Nat := (ptrL.getD k []).getD j 0
def fpat (c : Nat) : List Bool := match c with
  | 0 => [true, true, true, false]
  | 1 => [true, true, true, true, true, true, true, true, false, false]
  | 2 => [true, true, false, false, false, false, false]
  | 3 => [true, true, true, true]
  | 4 => [true, true, true, false, true]
  | 5 => [true, true, true, true, true, false, false]
  | 6 => [true, false]
  | 7 => [false, false, false, false]
  | 8 => [true, true, true, true, true]
  | _ => [true, true, true, true, true, false, false, false, true, false]
def fl (pa : Nat → Nat) (f : Nat → Int32) : List Bool → Nat → List Value
  | [], _ => []
  | true :: l, i => .ref (pa i) :: fl pa f l (i + 1)
  | false :: l, i => .int (f i) :: fl pa f l (i + 1)
theorem fl_len (pa : Nat → Nat) (f : Nat → Int32) : ∀ (l : List Bool) (i : Nat), (fl pa f l i).length = l.length
  | [], _ => rfl
  | true :: l, i => by simp [fl, fl_len pa f l (i + 1)]
  | false :: l, i => by simp [fl, fl_len pa f l (i + 1)]
theorem fl_ref (pa : Nat → Nat) (f : Nat → Int32) : ∀ (l : List Bool) (i j : Nat), l[j]? = some true → (fl pa f l i)[j]? = some (.ref (pa (i + j)))
  | [], _, _, h => by simp at h
  | true :: l, i, 0, _ => by simp [fl]
  | false :: l, i, 0, h => by simp at h
  | true :: l, i, j + 1, h => by
    have := fl_ref pa f l (i + 1) j (by simpa using h)
    simp only [fl, List.getElem?_cons_succ, this]
    congr 3; omega
  | false :: l, i, j + 1, h => by
    have := fl_ref pa f l (i + 1) j (by simpa using h)
    simp only [fl, List.getElem?_cons_succ, this]
    congr 3; omega
theorem fl_int (pa : Nat → Nat) (f : Nat → Int32) : ∀ (l : List Bool) (i j : Nat), l[j]? = some false → (fl pa f l i)[j]? = some (.int (f (i + j)))
  | [], _, _, h => by simp at h
  | false :: l, i, 0, _ => by simp [fl]
  | true :: l, i, 0, h => by simp at h
  | true :: l, i, j + 1, h => by
    have := fl_int pa f l (i + 1) j (by simpa using h)
    simp only [fl, List.getElem?_cons_succ, this]
    congr 3; omega
  | false :: l, i, j + 1, h => by
    have := fl_int pa f l (i + 1) j (by simpa using h)
    simp only [fl, List.getElem?_cons_succ, this]
    congr 3; omega
theorem fl_new (pa : Nat → Nat) {f g : Nat → Int32} : ∀ (l : List Bool) (i : Nat), (∀ j, i ≤ j → f j = g j) → fl pa f l i = fl pa g l i
  | [], _, _ => rfl
  | true :: l, i, h => by simp [fl, fl_new pa l (i + 1) (fun j hj => h j (by omega))]
  | false :: l, i, h => by simp [fl, fl_new pa l (i + 1) (fun j hj => h j (by omega)), h i (Nat.le_refl i)]
theorem fl_set (pa : Nat → Nat) (f : Nat → Int32) (v : Int32) : ∀ (l : List Bool) (i j : Nat), l[j]? = some false → (fl pa f l i).set j (.int v) = fl pa (upd f (i + j) v) l i
  | [], _, _, h => by simp at h
  | true :: l, i, 0, h => by simp at h
  | false :: l, i, 0, _ => by
    have : fl pa f l (i + 1) = fl pa (upd f (i + 0) v) l (i + 1) := fl_new pa l (i + 1) (fun j hj => by simp [upd]; intro h; omega)
    simp [fl, this, upd]
  | true :: l, i, j + 1, h => by
    have := fl_set pa f v l (i + 1) j (by simpa using h)
    simp only [fl, List.set_cons_succ, this]
    congr 3; omega
  | false :: l, i, j + 1, h => by
    have := fl_set pa f v l (i + 1) j (by simpa using h)
    simp only [fl, List.set_cons_succ, this]
    have e : i + 1 + j = i + (j + 1) := by omega
    rw [e]
    congr 2
    simp [upd]
def ce (cI : Nat → ClassId) (ad : Nat → Nat) (σ : Mem) (k : Nat) : va_E :=
  if clsOf k < 100 then .inr (clsOf k, fl (fun j => ad (ptr k j)) (σ k) (fpat (clsOf k)) 0) else .inl (cI (clsOf k), alen k, .inl (σ k))
def wl (cI : Nat → ClassId) (ad : Nat → Nat) (σ : Mem) (ks : List Nat) : va_W := ks.map (fun k => (ad k, ce cI ad σ k))
theorem wl_get (cI : Nat → ClassId) (ad : Nat → Nat) (σ : Mem) {ks : List Nat} {k : Nat} (h : k ∈ ks) : ∃ q : Nat, ks[q]? = some k ∧ (wl cI ad σ ks)[q]? = some (ad k, ce cI ad σ k) := by
  obtain ⟨q, hq⟩ := List.getElem?_of_mem h
  exact ⟨q, hq, by simp [wl, hq]⟩
theorem ce_same {cI : Nat → ClassId} {ad : Nat → Nat} {σ σ' : Mem} {k : Nat} (h : σ' k = σ k) : ce cI ad σ' k = ce cI ad σ k := by simp [ce, h]
/-- one cell written: the whole list anew -/
theorem wl_set {cI : Nat → ClassId} {ad : Nat → Nat} {σ : Mem} {ks : List Nat} {A : Nat → Prop} (hD : va_D A (wl cI ad σ ks)) {k q : Nat} (hq : ks[q]? = some k) (f : Nat → Int32) : (wl cI ad σ ks).set q (ad k, ce cI ad (gput σ k f) k) = wl cI ad (gput σ k f) ks := by
  apply List.ext_getElem?
  intro i
  rw [List.getElem?_set]
  by_cases hi : q = i
  · subst hi
    have hl : q < ks.length := (List.getElem?_eq_some_iff.mp hq).1
    have hl' : q < (wl cI ad σ ks).length := by simpa [wl] using hl
    rw [if_pos rfl, if_pos hl']
    simp [wl, hq]
  · rw [if_neg hi]
    simp only [wl, List.getElem?_map]
    cases hk : ks[i]? with
    | none => rfl
    | some j =>
      simp only [Option.map_some]
      have hj : j ≠ k := by
        intro e
        subst e
        exact hi (hD.1 q i (ad j, ce cI ad σ j) (ad j, ce cI ad σ j) (by simp [wl, hq]) (by simp [wl, hk]) rfl)
      rw [ce_same (gput_n hj)]
def tysI (cI : Nat → ClassId) : List (ClassId × FieldType) := [(cI 100, .int), (cI 101, .boolean), (cI 102, .char)]
/-- every pointer of a cell that is there is there -/
def Cl (ks : List Nat) : Prop := ∀ k, k ∈ ks → ∀ j, (fpat (clsOf k))[j]? = some true → clsOf k < 100 → ptr k j ∈ ks ∨ clsOf (ptr k j) = 103
def Ok (ks : List Nat) (k c : Nat) : Prop := k ∈ ks ∧ clsOf k = c
/-- the static rows -/
def Ws (ad : Nat → Nat) (A0 : Nat → Prop) (σ : Mem) (U : State) : Prop := ∀ k, clsOf k = 103 → va_T .int (ad k) (alen k) (fun j => .int (σ k j)) A0 U U.heap
def Wx (D : va_G) (cI : Nat → ClassId) (ad : Nat → Nat) (A0 : Nat → Prop) (ks : List Nat) (σ : Mem) (U : State) : Prop :=
  va_K D vwCl (tysI cI) U ∧ va_P D vwCl (wl cI ad σ ks) U.heap ∧ va_D A0 (wl cI ad σ ks) ∧ Ws ad A0 σ U
abbrev Ctx : Type := Program × Launch × Env × Room × State × MethodId × Array Value × List Frame × Method × Code × va_G × (Nat → ClassId) × (Nat → Nat) × (Nat → Prop) × List Nat × Nat × Nat × Nat × (State → Prop)
def Xad (X : Ctx) : Nat → Nat := match X with | (_, _, _, _, _, _, _, _, _, _, _, _, ad, _) => ad
def Xks (X : Ctx) : List Nat := match X with | (_, _, _, _, _, _, _, _, _, _, _, _, _, _, ks, _) => ks
def Xl (X : Ctx) : Launch := match X with | (_, l, _) => l
def J (X : Ctx) (pc : Nat) (loc : List (Nat × Value)) (stk : List Value) (σ : Mem) : Prop := match X with
  | (p, l, e, R, s, m, args, below, meth, c, D, cI, ad, A0, ks, nL, mc, ms, Q) => ∀ (H : Heap) (locs : List Loc) (ls : Array Slot), va_P D vwCl (wl cI ad σ ks) H → va_D A0 (wl cI ad σ ks) → Ws ad A0 σ s → va_S A0 s.heap H locs → lv_has ls nL loc → W p l e R s m args below meth c H locs mc ms Q (F0 m pc ls stk)
def Cx (X : Ctx) (own : String) (cc : ByteArray) (n0 : Nat) (ret : Option FieldType) (fr lo : Nat) : Prop := match X with
  | (p, _, _, R, s, m, args, _, meth, c, D, cI, _, _, ks, nL, mc, ms, _) => p.tables.exec = Jvm.exec ∧ c.code = cc ∧ c.maxLocals = nL ∧ n0 = nL ∧ meth.sig.returnType = ret ∧ s.vm.findClass own = some m.cls ∧ (∀ w ∈ lw_g, w.before args s = true) ∧ meth.locks = false ∧ va_K D vwCl (tysI cI) s ∧ Cl ks ∧ fr ≤ R.frames ∧ lo ≤ R.locals ∧ mc ≤ R.cells ∧ ms ≤ R.slots ∧ Nw s
def QcOf (D : va_G) (cI : Nat → ClassId) (ad : Nat → Nat) (A0 : Nat → Prop) (ks : List Nat) (o : Option Value) (σ' : Mem) : Array Value → State → Outcome → State → Prop := fun _ st oc t => oc = .returned o ∧ Wx D cI ad A0 ks σ' t ∧ va_F A0 st t
def Rt (X : Ctx) (o : Option Value) (σ' : Mem) : Prop := match X with
  | (_, _, _, _, s, _, args, below, _, _, D, cI, ad, A0, ks, _, mc, ms, Q) => Q = MQ below (QcOf D cI ad A0 ks o σ') args s mc ms A0
/-- A CONTRACT over the memory: from σ to σ', with the answer o -/
def Ct (l : Launch) (y : MethodName) (cc : ByteArray) (nL : Nat) (ret : Option FieldType) (fr lo : Nat) (ok : List Nat → Prop) (as : (Nat → Nat) → List Value) (σ : Mem) (o : (Nat → Nat) → Option Value) (σ' : Mem) : Prop :=
  ∀ (D : va_G) (cI : Nat → ClassId) (ad : Nat → Nat) (A0 : Nat → Prop) (ks : List Nat), Cl ks → ok ks → Met l y (Cond.code y cc nL ret :: lw_g) ({ frames := fr, cells := 0, slots := 0, locals := lo }) (va_Pc (as ad) (fun U => Wx D cI ad A0 ks σ U ∧ Nw U)) (QcOf D cI ad A0 ks (o ad) σ') 0 0 A0
theorem Wx.moved {D : va_G} {cI : Nat → ClassId} {ad : Nat → Nat} {A0 : Nat → Prop} {ks : List Nat} {σ : Mem} {u U : State} (hvm : u.vm.Alike U.vm) (hh : U.heap = u.heap) (h : Wx D cI ad A0 ks σ u) : Wx D cI ad A0 ks σ U := by
  obtain ⟨h1, h2, h3, h4⟩ := h
  refine ⟨va_K.moved hvm h1, by rw [hh]; exact h2, h3, fun k hk => ?_⟩
  rw [hh]
  exact va_T.moved hvm (h4 k hk)
theorem Ws.out {ad : Nat → Nat} {A0 : Nat → Prop} {σ : Mem} {s t : State} {H : Heap} {locs : List Loc} (hT : Ws ad A0 σ s) (hS : va_S A0 s.heap H locs) (ht : t.heap = H) (hvm : s.vm.Alike t.vm) : Ws ad A0 σ t := fun k hk => by
  rw [ht]
  exact va_T.moved hvm (va_T.kept (hT k hk) (fun a h1 h2 => hS.2.1 a h1 h2))
theorem Ws.put {ad : Nat → Nat} {A0 : Nat → Prop} {σ : Mem} {U : State} (hT : Ws ad A0 σ U) {k : Nat} (hk : ¬ clsOf k = 103) (f : Nat → Int32) : Ws ad A0 (gput σ k f) U := fun j hj => by
  have : j ≠ k := fun e => hk (by rw [← e]; exact hj)
  rw [gput_n this]
  exact hT j hj
theorem Ws.back {ad : Nat → Nat} {A0 : Nat → Prop} {σ σ' : Mem} {s t : State} (hT : Ws ad A0 σ s) (h1 : Ws ad A0 σ' t) (hq : ∀ q : Nat, q < s.heap.size → ¬ A0 q → t.heap[q]? = s.heap[q]?) : Ws ad A0 σ' s := fun k hk => by
  obtain ⟨cell, a1, a2, a3, a4, a5, a6, a7⟩ := hT k hk
  obtain ⟨cell', b1, b2, b3, b4, b5, b6, b7⟩ := h1 k hk
  have e : cell' = cell := by
    rw [hq _ (Array.getElem?_eq_some_iff.mp a1).1 a7, a1] at b1
    exact (Option.some.inj b1).symm
  subst e
  exact ⟨cell', a1, a2, a3, a4, a5, b6, a7⟩
theorem tblIn {y : MethodName} {cc : ByteArray} {nL : Nat} {ret : Option FieldType} (h : Cond.code y cc nL ret ∈ lw_g) : GoodIn lw_g (Cond.code y cc nL ret :: lw_g) := fun w hw => by
  have hm : w ∈ lw_g := by
    rcases List.mem_cons.mp hw with e | e
    · rw [e]; exact h
    · exact e
  exact ⟨hm, good_of_word (List.mem_filter.mp hm).2⟩
theorem lv_loc {ls : Array Slot} {n : Nat} {l l' : List (Nat × Value)} (h : lv_has ls n l) (e : l = l') : lv_has ls n l' := e ▸ h
/-- a method's contract out of J from its entry -/
theorem Ct.of {l : Launch} {y : MethodName} {cc : ByteArray} {nL : Nat} {ret : Option FieldType} {fr lo : Nat} {ok : List Nat → Prop} {as : (Nat → Nat) → List Value} {σ : Mem} {o : (Nat → Nat) → Option Value} {σ' : Mem} (hy : plainName y.cls = true) (hlen : ∀ ad, (lg_sl (as ad)).length ≤ nL)
    (body : ∀ X : Ctx, Cx X y.cls cc nL ret fr lo → Xl X = l → ok (Xks X) → Cl (Xks X) → Rt X (o (Xad X)) σ' → J X 0 (lv_args 0 (as (Xad X))) [] σ) : Ct l y cc nL ret fr lo ok as σ o σ' := by
  intro D cI ad A0 ks hcl hok
  refine Met.ofW (cc := cc) (maxL := nL) (ret := ret) hy rfl ?_
  intro p e s m args below meth c s₁ B hml hv
  obtain ⟨rfl, ⟨hK, hP, hD, hT⟩, hnw⟩ := hv
  have hts := atoms_spec (ws := Cond.code y cc nL ret :: lw_g) B.pre
  have K := body (p, l, e, (headSpec (Cond.code y cc nL ret :: lw_g) ({ frames := fr, cells := 0, slots := 0, locals := lo })).room, s, m, (as ad).toArray, below, meth, c, D, cI, ad, A0, ks, nL, 0, 0, MQ below (QcOf D cI ad A0 ks (o ad) σ') (as ad).toArray s 0 0 A0)
    ⟨B.exec, B.bytes, hml, rfl, B.returns, findClass_of_methodNamed B.named, fun w hw => hts w (List.mem_cons_of_mem _ hw), B.notSynchronized, hK, hcl, Nat.le_refl _, Nat.le_refl _, Nat.le_refl _, Nat.le_refl _, hnw⟩ rfl hok hcl rfl
  have hl := lv_entry (as ad) (n := nL) (hlen ad)
  rw [lg_entry_eq]
  exact K s.heap [] _ hP hD hT va_S.rf hl
section JR
variable {X : Ctx} {own : String} {cc : ByteArray} {n0 : Nat} {ret : Option FieldType} {fr lo pc : Nat} {loc : List (Nat × Value)} {stk rest : List Value} {σ : Mem}
/-- fewer locals -/
theorem J.sub {loc' : List (Nat × Value)} (ks : List Nat) (h : lv_pick loc ks = loc') (K : J X pc loc' stk σ) : J X pc loc stk σ := by
  obtain ⟨p, l, e, R, s, m, args, below, meth, c, D, cI, ad, A0, ks, nL, mc, ms, Q⟩ := X
  intro H locs ls hP hD hT hS hl
  exact K H locs ls hP hD hT hS (lv_sub hl _ h)
theorem J.iconst (C : Cx X own cc n0 ret fr lo) {n : Int} {v : Int32} (hdg : decode cc pc = .ok (.iconst n, 1)) (hv : Int32.ofInt n = v) (K : J X (pc + 1) loc (.int v :: rest) σ) : J X pc loc (rest) σ := by
  obtain ⟨p, l, e, R, s, m, args, below, meth, c, D, cI, ad, A0, ks, nL, mc, ms, Q⟩ := X
  obtain ⟨hx, hb, hml, hn0, hr, hown, hts, hlocks, hK, hcl, hfr, hlo, hmc, hms, hnw⟩ := C
  intro H locs ls hP hD hT hS hl
  exact lv_iconst hx hb hdg hv (K H locs ls hP hD hT hS hl)
theorem J.bipush (C : Cx X own cc n0 ret fr lo) {n : Int} {v : Int32} (hdg : decode cc pc = .ok (.bipush n, 2)) (hv : (Int8.ofInt n).toInt32 = v) (K : J X (pc + 2) loc (.int v :: rest) σ) : J X pc loc (rest) σ := by
  obtain ⟨p, l, e, R, s, m, args, below, meth, c, D, cI, ad, A0, ks, nL, mc, ms, Q⟩ := X
  obtain ⟨hx, hb, hml, hn0, hr, hown, hts, hlocks, hK, hcl, hfr, hlo, hmc, hms, hnw⟩ := C
  intro H locs ls hP hD hT hS hl
  exact lv_bipush hx hb hdg hv (K H locs ls hP hD hT hS hl)
theorem J.sipush (C : Cx X own cc n0 ret fr lo) {n : Int} {v : Int32} (hdg : decode cc pc = .ok (.sipush n, 3)) (hv : (Int16.ofInt n).toInt32 = v) (K : J X (pc + 3) loc (.int v :: rest) σ) : J X pc loc (rest) σ := by
  obtain ⟨p, l, e, R, s, m, args, below, meth, c, D, cI, ad, A0, ks, nL, mc, ms, Q⟩ := X
  obtain ⟨hx, hb, hml, hn0, hr, hown, hts, hlocks, hK, hcl, hfr, hlo, hmc, hms, hnw⟩ := C
  intro H locs ls hP hD hT hS hl
  exact lv_sipush hx hb hdg hv (K H locs ls hP hD hT hS hl)
theorem J.lconst (C : Cx X own cc n0 ret fr lo) {n : Fin 2} {v : Int64} (hdg : decode cc pc = .ok (.lconst n, 1)) (hv : Int64.ofNat (n : Nat) = v) (K : J X (pc + 1) loc (.long v :: rest) σ) : J X pc loc (rest) σ := by
  obtain ⟨p, l, e, R, s, m, args, below, meth, c, D, cI, ad, A0, ks, nL, mc, ms, Q⟩ := X
  obtain ⟨hx, hb, hml, hn0, hr, hown, hts, hlocks, hK, hcl, hfr, hlo, hmc, hms, hnw⟩ := C
  intro H locs ls hP hD hT hS hl
  exact lv_lconst hx hb hdg hv (K H locs ls hP hD hT hS hl)
theorem J.ldc (C : Cx X own cc n0 ret fr lo) {i : Nat} {v : Int32} (hdg : decode cc pc = .ok (.ldc i, 2)) (hw : Cond.constant own i v ∈ lw_g) (K : J X (pc + 2) loc (.int v :: rest) σ) : J X pc loc rest σ := by
  obtain ⟨p, l, e, R, s, m, args, below, meth, c, D, cI, ad, A0, ks, nL, mc, ms, Q⟩ := X
  obtain ⟨hx, hb, hml, hn0, hr, hown, hts, hlocks, hK, hcl, hfr, hlo, hmc, hms, hnw⟩ := C
  intro H locs ls hP hD hT hS hl
  exact lv_ldc hx hb hown (hts _ hw) hdg (K H locs ls hP hD hT hS hl)
theorem J.ldc2 (C : Cx X own cc n0 ret fr lo) {i : Nat} {v : Int64} (hdg : decode cc pc = .ok (.ldc2_w i, 3)) (hw : Cond.constantLong own i v ∈ lw_g) (K : J X (pc + 3) loc (.long v :: rest) σ) : J X pc loc rest σ := by
  obtain ⟨p, l, e, R, s, m, args, below, meth, c, D, cI, ad, A0, ks, nL, mc, ms, Q⟩ := X
  obtain ⟨hx, hb, hml, hn0, hr, hown, hts, hlocks, hK, hcl, hfr, hlo, hmc, hms, hnw⟩ := C
  intro H locs ls hP hD hT hS hl
  exact lv_ldc2 hx hb hown (hts _ hw) hdg (K H locs ls hP hD hT hS hl)
theorem J.iload_n (C : Cx X own cc n0 ret fr lo) {k : Fin 4} {i : Nat} {x : Int32} (hdg : decode cc pc = .ok (.iload_n k, 1)) (hi : (k : Nat) = i) (q : Nat) (hq : loc[q]? = some (i, .int x)) (K : J X (pc + 1) loc (.int x :: rest) σ) : J X pc loc rest σ := by
  obtain ⟨p, l, e, R, s, m, args, below, meth, c, D, cI, ad, A0, ks, nL, mc, ms, Q⟩ := X
  obtain ⟨hx, hb, hml, hn0, hr, hown, hts, hlocks, hK, hcl, hfr, hlo, hmc, hms, hnw⟩ := C
  intro H locs ls hP hD hT hS hl
  exact lv_iload_n hx hb hdg hi (lv_at hl q hq) (K H locs ls hP hD hT hS hl)
theorem J.iload (C : Cx X own cc n0 ret fr lo) {i : Nat} {x : Int32} (hdg : decode cc pc = .ok (.iload i, 2)) (q : Nat) (hq : loc[q]? = some (i, .int x)) (K : J X (pc + 2) loc (.int x :: rest) σ) : J X pc loc rest σ := by
  obtain ⟨p, l, e, R, s, m, args, below, meth, c, D, cI, ad, A0, ks, nL, mc, ms, Q⟩ := X
  obtain ⟨hx, hb, hml, hn0, hr, hown, hts, hlocks, hK, hcl, hfr, hlo, hmc, hms, hnw⟩ := C
  intro H locs ls hP hD hT hS hl
  exact lv_iload hx hb hdg (lv_at hl q hq) (K H locs ls hP hD hT hS hl)
theorem J.lload_n (C : Cx X own cc n0 ret fr lo) {k : Fin 4} {i : Nat} {x : Int64} (hdg : decode cc pc = .ok (.lload_n k, 1)) (hi : (k : Nat) = i) (q : Nat) (hq : loc[q]? = some (i, .long x)) (K : J X (pc + 1) loc (.long x :: rest) σ) : J X pc loc rest σ := by
  obtain ⟨p, l, e, R, s, m, args, below, meth, c, D, cI, ad, A0, ks, nL, mc, ms, Q⟩ := X
  obtain ⟨hx, hb, hml, hn0, hr, hown, hts, hlocks, hK, hcl, hfr, hlo, hmc, hms, hnw⟩ := C
  intro H locs ls hP hD hT hS hl
  exact lv_lload_n hx hb hdg hi (lv_at hl q hq) (K H locs ls hP hD hT hS hl)
theorem J.lload (C : Cx X own cc n0 ret fr lo) {i : Nat} {x : Int64} (hdg : decode cc pc = .ok (.lload i, 2)) (q : Nat) (hq : loc[q]? = some (i, .long x)) (K : J X (pc + 2) loc (.long x :: rest) σ) : J X pc loc rest σ := by
  obtain ⟨p, l, e, R, s, m, args, below, meth, c, D, cI, ad, A0, ks, nL, mc, ms, Q⟩ := X
  obtain ⟨hx, hb, hml, hn0, hr, hown, hts, hlocks, hK, hcl, hfr, hlo, hmc, hms, hnw⟩ := C
  intro H locs ls hP hD hT hS hl
  exact lv_lload hx hb hdg (lv_at hl q hq) (K H locs ls hP hD hT hS hl)
theorem J.aload_n (C : Cx X own cc n0 ret fr lo) {k : Fin 4} {i : Nat} {x : Nat} (hdg : decode cc pc = .ok (.aload_n k, 1)) (hi : (k : Nat) = i) (q : Nat) (hq : loc[q]? = some (i, .ref x)) (K : J X (pc + 1) loc (.ref x :: rest) σ) : J X pc loc rest σ := by
  obtain ⟨p, l, e, R, s, m, args, below, meth, c, D, cI, ad, A0, ks, nL, mc, ms, Q⟩ := X
  obtain ⟨hx, hb, hml, hn0, hr, hown, hts, hlocks, hK, hcl, hfr, hlo, hmc, hms, hnw⟩ := C
  intro H locs ls hP hD hT hS hl
  exact lv_aload_n hx hb hdg hi (lv_at hl q hq) (K H locs ls hP hD hT hS hl)
theorem J.aload (C : Cx X own cc n0 ret fr lo) {i : Nat} {x : Nat} (hdg : decode cc pc = .ok (.aload i, 2)) (q : Nat) (hq : loc[q]? = some (i, .ref x)) (K : J X (pc + 2) loc (.ref x :: rest) σ) : J X pc loc rest σ := by
  obtain ⟨p, l, e, R, s, m, args, below, meth, c, D, cI, ad, A0, ks, nL, mc, ms, Q⟩ := X
  obtain ⟨hx, hb, hml, hn0, hr, hown, hts, hlocks, hK, hcl, hfr, hlo, hmc, hms, hnw⟩ := C
  intro H locs ls hP hD hT hS hl
  exact lv_aload hx hb hdg (lv_at hl q hq) (K H locs ls hP hD hT hS hl)
theorem J.dload (C : Cx X own cc n0 ret fr lo) {i : Nat} {x : UInt64} (hdg : decode cc pc = .ok (.dload i, 2)) (q : Nat) (hq : loc[q]? = some (i, .double x)) (K : J X (pc + 2) loc (.double x :: rest) σ) : J X pc loc rest σ := by
  obtain ⟨p, l, e, R, s, m, args, below, meth, c, D, cI, ad, A0, ks, nL, mc, ms, Q⟩ := X
  obtain ⟨hx, hb, hml, hn0, hr, hown, hts, hlocks, hK, hcl, hfr, hlo, hmc, hms, hnw⟩ := C
  intro H locs ls hP hD hT hS hl
  exact lv_dload hx hb hdg (lv_at hl q hq) (K H locs ls hP hD hT hS hl)
theorem J.istore_n (C : Cx X own cc n0 ret fr lo) {k : Fin 4} {i : Nat} {x : Int32} {loc' : List (Nat × Value)} (hdg : decode cc pc = .ok (.istore_n k, 1)) (hi : (k : Nat) = i) (hn : i < n0) (hl' : (i, Value.int x) :: loc.filter (fun q => !(q.1 == i) && !(q.1 + 1 == i && q.2.category == 2)) = loc') (K : J X (pc + 1) loc' rest σ) : J X pc loc (.int x :: rest) σ := by
  obtain ⟨p, l, e, R, s, m, args, below, meth, c, D, cI, ad, A0, ks, nL, mc, ms, Q⟩ := X
  obtain ⟨hx, hb, hml, hn0, hr, hown, hts, hlocks, hK, hcl, hfr, hlo, hmc, hms, hnw⟩ := C
  subst hn0
  intro H locs ls hP hD hT hS hl
  exact lv_istore_n hx hb hdg hi hl hn hl' (fun ls hl => K H locs ls hP hD hT hS hl)
theorem J.istore (C : Cx X own cc n0 ret fr lo) {i : Nat} {x : Int32} {loc' : List (Nat × Value)} (hdg : decode cc pc = .ok (.istore i, 2)) (hn : i < n0) (hl' : (i, Value.int x) :: loc.filter (fun q => !(q.1 == i) && !(q.1 + 1 == i && q.2.category == 2)) = loc') (K : J X (pc + 2) loc' rest σ) : J X pc loc (.int x :: rest) σ := by
  obtain ⟨p, l, e, R, s, m, args, below, meth, c, D, cI, ad, A0, ks, nL, mc, ms, Q⟩ := X
  obtain ⟨hx, hb, hml, hn0, hr, hown, hts, hlocks, hK, hcl, hfr, hlo, hmc, hms, hnw⟩ := C
  subst hn0
  intro H locs ls hP hD hT hS hl
  exact lv_istore hx hb hdg hl hn hl' (fun ls hl => K H locs ls hP hD hT hS hl)
theorem J.lstore_n (C : Cx X own cc n0 ret fr lo) {k : Fin 4} {i : Nat} {x : Int64} {loc' : List (Nat × Value)} (hdg : decode cc pc = .ok (.lstore_n k, 1)) (hi : (k : Nat) = i) (hn : i + 1 < n0) (hl' : (i, Value.long x) :: loc.filter (fun q => !(q.1 == i) && (!(q.1 == i + 1) && !(q.1 + 1 == i && q.2.category == 2))) = loc') (K : J X (pc + 1) loc' rest σ) : J X pc loc (.long x :: rest) σ := by
  obtain ⟨p, l, e, R, s, m, args, below, meth, c, D, cI, ad, A0, ks, nL, mc, ms, Q⟩ := X
  obtain ⟨hx, hb, hml, hn0, hr, hown, hts, hlocks, hK, hcl, hfr, hlo, hmc, hms, hnw⟩ := C
  subst hn0
  intro H locs ls hP hD hT hS hl
  exact lv_lstore_n hx hb hdg hi hl hn hl' (fun ls hl => K H locs ls hP hD hT hS hl)
theorem J.lstore (C : Cx X own cc n0 ret fr lo) {i : Nat} {x : Int64} {loc' : List (Nat × Value)} (hdg : decode cc pc = .ok (.lstore i, 2)) (hn : i + 1 < n0) (hl' : (i, Value.long x) :: loc.filter (fun q => !(q.1 == i) && (!(q.1 == i + 1) && !(q.1 + 1 == i && q.2.category == 2))) = loc') (K : J X (pc + 2) loc' rest σ) : J X pc loc (.long x :: rest) σ := by
  obtain ⟨p, l, e, R, s, m, args, below, meth, c, D, cI, ad, A0, ks, nL, mc, ms, Q⟩ := X
  obtain ⟨hx, hb, hml, hn0, hr, hown, hts, hlocks, hK, hcl, hfr, hlo, hmc, hms, hnw⟩ := C
  subst hn0
  intro H locs ls hP hD hT hS hl
  exact lv_lstore hx hb hdg hl hn hl' (fun ls hl => K H locs ls hP hD hT hS hl)
theorem J.astore_n (C : Cx X own cc n0 ret fr lo) {k : Fin 4} {i : Nat} {x : Nat} {loc' : List (Nat × Value)} (hdg : decode cc pc = .ok (.astore_n k, 1)) (hi : (k : Nat) = i) (hn : i < n0) (hl' : (i, Value.ref x) :: loc.filter (fun q => !(q.1 == i) && !(q.1 + 1 == i && q.2.category == 2)) = loc') (K : J X (pc + 1) loc' rest σ) : J X pc loc (.ref x :: rest) σ := by
  obtain ⟨p, l, e, R, s, m, args, below, meth, c, D, cI, ad, A0, ks, nL, mc, ms, Q⟩ := X
  obtain ⟨hx, hb, hml, hn0, hr, hown, hts, hlocks, hK, hcl, hfr, hlo, hmc, hms, hnw⟩ := C
  subst hn0
  intro H locs ls hP hD hT hS hl
  exact lv_astore_n hx hb hdg hi hl hn hl' (fun ls hl => K H locs ls hP hD hT hS hl)
theorem J.astore (C : Cx X own cc n0 ret fr lo) {i : Nat} {x : Nat} {loc' : List (Nat × Value)} (hdg : decode cc pc = .ok (.astore i, 2)) (hn : i < n0) (hl' : (i, Value.ref x) :: loc.filter (fun q => !(q.1 == i) && !(q.1 + 1 == i && q.2.category == 2)) = loc') (K : J X (pc + 2) loc' rest σ) : J X pc loc (.ref x :: rest) σ := by
  obtain ⟨p, l, e, R, s, m, args, below, meth, c, D, cI, ad, A0, ks, nL, mc, ms, Q⟩ := X
  obtain ⟨hx, hb, hml, hn0, hr, hown, hts, hlocks, hK, hcl, hfr, hlo, hmc, hms, hnw⟩ := C
  subst hn0
  intro H locs ls hP hD hT hS hl
  exact lv_astore hx hb hdg hl hn hl' (fun ls hl => K H locs ls hP hD hT hS hl)
theorem J.iinc (C : Cx X own cc n0 ret fr lo) {i k : Nat} {n : Int} {x v : Int32} {loc' : List (Nat × Value)} (hdg : decode cc pc = .ok (.iinc i n, 3)) (hk : loc[k]? = some (i, .int x)) (hv : x + Int32.ofInt n = v) (hn : i < n0) (hl' : (i, Value.int v) :: loc.filter (fun q => !(q.1 == i) && !(q.1 + 1 == i && q.2.category == 2)) = loc') (K : J X (pc + 3) loc' rest σ) : J X pc loc rest σ := by
  obtain ⟨p, l, e, R, s, m, args, below, meth, c, D, cI, ad, A0, ks, nL, mc, ms, Q⟩ := X
  obtain ⟨hx, hb, hml, hn0, hr, hown, hts, hlocks, hK, hcl, hfr, hlo, hmc, hms, hnw⟩ := C
  subst hn0
  intro H locs ls hP hD hT hS hl
  exact lv_iinc hx hb hdg hl hk hv hn hl' (fun ls hl => K H locs ls hP hD hT hS hl)
theorem J.iadd (C : Cx X own cc n0 ret fr lo) {x y : Int32} (hdg : decode cc pc = .ok (.iadd, 1)) (K : J X (pc + 1) loc (.int (x + y) :: rest) σ) : J X pc loc (.int y :: .int x :: rest) σ := by
  obtain ⟨p, l, e, R, s, m, args, below, meth, c, D, cI, ad, A0, ks, nL, mc, ms, Q⟩ := X
  obtain ⟨hx, hb, hml, hn0, hr, hown, hts, hlocks, hK, hcl, hfr, hlo, hmc, hms, hnw⟩ := C
  intro H locs ls hP hD hT hS hl
  exact lv_iadd hx hb hdg (K H locs ls hP hD hT hS hl)
theorem J.isub (C : Cx X own cc n0 ret fr lo) {x y : Int32} (hdg : decode cc pc = .ok (.isub, 1)) (K : J X (pc + 1) loc (.int (x - y) :: rest) σ) : J X pc loc (.int y :: .int x :: rest) σ := by
  obtain ⟨p, l, e, R, s, m, args, below, meth, c, D, cI, ad, A0, ks, nL, mc, ms, Q⟩ := X
  obtain ⟨hx, hb, hml, hn0, hr, hown, hts, hlocks, hK, hcl, hfr, hlo, hmc, hms, hnw⟩ := C
  intro H locs ls hP hD hT hS hl
  exact lv_isub hx hb hdg (K H locs ls hP hD hT hS hl)
theorem J.imul (C : Cx X own cc n0 ret fr lo) {x y : Int32} (hdg : decode cc pc = .ok (.imul, 1)) (K : J X (pc + 1) loc (.int (x * y) :: rest) σ) : J X pc loc (.int y :: .int x :: rest) σ := by
  obtain ⟨p, l, e, R, s, m, args, below, meth, c, D, cI, ad, A0, ks, nL, mc, ms, Q⟩ := X
  obtain ⟨hx, hb, hml, hn0, hr, hown, hts, hlocks, hK, hcl, hfr, hlo, hmc, hms, hnw⟩ := C
  intro H locs ls hP hD hT hS hl
  exact lv_imul hx hb hdg (K H locs ls hP hD hT hS hl)
theorem J.iand (C : Cx X own cc n0 ret fr lo) {x y : Int32} (hdg : decode cc pc = .ok (.iand, 1)) (K : J X (pc + 1) loc (.int (x &&& y) :: rest) σ) : J X pc loc (.int y :: .int x :: rest) σ := by
  obtain ⟨p, l, e, R, s, m, args, below, meth, c, D, cI, ad, A0, ks, nL, mc, ms, Q⟩ := X
  obtain ⟨hx, hb, hml, hn0, hr, hown, hts, hlocks, hK, hcl, hfr, hlo, hmc, hms, hnw⟩ := C
  intro H locs ls hP hD hT hS hl
  exact lv_iand hx hb hdg (K H locs ls hP hD hT hS hl)
theorem J.ior (C : Cx X own cc n0 ret fr lo) {x y : Int32} (hdg : decode cc pc = .ok (.ior, 1)) (K : J X (pc + 1) loc (.int (x ||| y) :: rest) σ) : J X pc loc (.int y :: .int x :: rest) σ := by
  obtain ⟨p, l, e, R, s, m, args, below, meth, c, D, cI, ad, A0, ks, nL, mc, ms, Q⟩ := X
  obtain ⟨hx, hb, hml, hn0, hr, hown, hts, hlocks, hK, hcl, hfr, hlo, hmc, hms, hnw⟩ := C
  intro H locs ls hP hD hT hS hl
  exact lv_ior hx hb hdg (K H locs ls hP hD hT hS hl)
theorem J.ixor (C : Cx X own cc n0 ret fr lo) {x y : Int32} (hdg : decode cc pc = .ok (.ixor, 1)) (K : J X (pc + 1) loc (.int (x ^^^ y) :: rest) σ) : J X pc loc (.int y :: .int x :: rest) σ := by
  obtain ⟨p, l, e, R, s, m, args, below, meth, c, D, cI, ad, A0, ks, nL, mc, ms, Q⟩ := X
  obtain ⟨hx, hb, hml, hn0, hr, hown, hts, hlocks, hK, hcl, hfr, hlo, hmc, hms, hnw⟩ := C
  intro H locs ls hP hD hT hS hl
  exact lv_ixor hx hb hdg (K H locs ls hP hD hT hS hl)
theorem J.ishl (C : Cx X own cc n0 ret fr lo) {x y : Int32} (hdg : decode cc pc = .ok (.ishl, 1)) (K : J X (pc + 1) loc (.int (x <<< (y &&& 31)) :: rest) σ) : J X pc loc (.int y :: .int x :: rest) σ := by
  obtain ⟨p, l, e, R, s, m, args, below, meth, c, D, cI, ad, A0, ks, nL, mc, ms, Q⟩ := X
  obtain ⟨hx, hb, hml, hn0, hr, hown, hts, hlocks, hK, hcl, hfr, hlo, hmc, hms, hnw⟩ := C
  intro H locs ls hP hD hT hS hl
  exact lv_ishl hx hb hdg (K H locs ls hP hD hT hS hl)
theorem J.ishr (C : Cx X own cc n0 ret fr lo) {x y : Int32} (hdg : decode cc pc = .ok (.ishr, 1)) (K : J X (pc + 1) loc (.int (x >>> (y &&& 31)) :: rest) σ) : J X pc loc (.int y :: .int x :: rest) σ := by
  obtain ⟨p, l, e, R, s, m, args, below, meth, c, D, cI, ad, A0, ks, nL, mc, ms, Q⟩ := X
  obtain ⟨hx, hb, hml, hn0, hr, hown, hts, hlocks, hK, hcl, hfr, hlo, hmc, hms, hnw⟩ := C
  intro H locs ls hP hD hT hS hl
  exact lv_ishr hx hb hdg (K H locs ls hP hD hT hS hl)
theorem J.ladd (C : Cx X own cc n0 ret fr lo) {x y : Int64} (hdg : decode cc pc = .ok (.ladd, 1)) (K : J X (pc + 1) loc (.long (x + y) :: rest) σ) : J X pc loc (.long y :: .long x :: rest) σ := by
  obtain ⟨p, l, e, R, s, m, args, below, meth, c, D, cI, ad, A0, ks, nL, mc, ms, Q⟩ := X
  obtain ⟨hx, hb, hml, hn0, hr, hown, hts, hlocks, hK, hcl, hfr, hlo, hmc, hms, hnw⟩ := C
  intro H locs ls hP hD hT hS hl
  exact lv_ladd hx hb hdg (K H locs ls hP hD hT hS hl)
theorem J.lsub (C : Cx X own cc n0 ret fr lo) {x y : Int64} (hdg : decode cc pc = .ok (.lsub, 1)) (K : J X (pc + 1) loc (.long (x - y) :: rest) σ) : J X pc loc (.long y :: .long x :: rest) σ := by
  obtain ⟨p, l, e, R, s, m, args, below, meth, c, D, cI, ad, A0, ks, nL, mc, ms, Q⟩ := X
  obtain ⟨hx, hb, hml, hn0, hr, hown, hts, hlocks, hK, hcl, hfr, hlo, hmc, hms, hnw⟩ := C
  intro H locs ls hP hD hT hS hl
  exact lv_lsub hx hb hdg (K H locs ls hP hD hT hS hl)
theorem J.lmul (C : Cx X own cc n0 ret fr lo) {x y : Int64} (hdg : decode cc pc = .ok (.lmul, 1)) (K : J X (pc + 1) loc (.long (x * y) :: rest) σ) : J X pc loc (.long y :: .long x :: rest) σ := by
  obtain ⟨p, l, e, R, s, m, args, below, meth, c, D, cI, ad, A0, ks, nL, mc, ms, Q⟩ := X
  obtain ⟨hx, hb, hml, hn0, hr, hown, hts, hlocks, hK, hcl, hfr, hlo, hmc, hms, hnw⟩ := C
  intro H locs ls hP hD hT hS hl
  exact lv_lmul hx hb hdg (K H locs ls hP hD hT hS hl)
theorem J.lxor (C : Cx X own cc n0 ret fr lo) {x y : Int64} (hdg : decode cc pc = .ok (.lxor, 1)) (K : J X (pc + 1) loc (.long (x ^^^ y) :: rest) σ) : J X pc loc (.long y :: .long x :: rest) σ := by
  obtain ⟨p, l, e, R, s, m, args, below, meth, c, D, cI, ad, A0, ks, nL, mc, ms, Q⟩ := X
  obtain ⟨hx, hb, hml, hn0, hr, hown, hts, hlocks, hK, hcl, hfr, hlo, hmc, hms, hnw⟩ := C
  intro H locs ls hP hD hT hS hl
  exact lv_lxor hx hb hdg (K H locs ls hP hD hT hS hl)
theorem J.idiv (C : Cx X own cc n0 ret fr lo) {x y : Int32} (hdg : decode cc pc = .ok (.idiv, 1)) (hne : ¬ y = 0) (K : J X (pc + 1) loc (.int (x / y) :: rest) σ) : J X pc loc (.int y :: .int x :: rest) σ := by
  obtain ⟨p, l, e, R, s, m, args, below, meth, c, D, cI, ad, A0, ks, nL, mc, ms, Q⟩ := X
  obtain ⟨hx, hb, hml, hn0, hr, hown, hts, hlocks, hK, hcl, hfr, hlo, hmc, hms, hnw⟩ := C
  intro H locs ls hP hD hT hS hl
  exact lv_idiv hx hb hdg hne (K H locs ls hP hD hT hS hl)
theorem J.irem (C : Cx X own cc n0 ret fr lo) {x y : Int32} (hdg : decode cc pc = .ok (.irem, 1)) (hne : ¬ y = 0) (K : J X (pc + 1) loc (.int (x - x / y * y) :: rest) σ) : J X pc loc (.int y :: .int x :: rest) σ := by
  obtain ⟨p, l, e, R, s, m, args, below, meth, c, D, cI, ad, A0, ks, nL, mc, ms, Q⟩ := X
  obtain ⟨hx, hb, hml, hn0, hr, hown, hts, hlocks, hK, hcl, hfr, hlo, hmc, hms, hnw⟩ := C
  intro H locs ls hP hD hT hS hl
  exact lv_irem hx hb hdg hne (K H locs ls hP hD hT hS hl)
theorem J.ldiv (C : Cx X own cc n0 ret fr lo) {x y : Int64} (hdg : decode cc pc = .ok (.ldiv, 1)) (hne : ¬ y = 0) (K : J X (pc + 1) loc (.long (x / y) :: rest) σ) : J X pc loc (.long y :: .long x :: rest) σ := by
  obtain ⟨p, l, e, R, s, m, args, below, meth, c, D, cI, ad, A0, ks, nL, mc, ms, Q⟩ := X
  obtain ⟨hx, hb, hml, hn0, hr, hown, hts, hlocks, hK, hcl, hfr, hlo, hmc, hms, hnw⟩ := C
  intro H locs ls hP hD hT hS hl
  exact lv_ldiv hx hb hdg hne (K H locs ls hP hD hT hS hl)
theorem J.ineg (C : Cx X own cc n0 ret fr lo) {x : Int32} (hdg : decode cc pc = .ok (.ineg, 1)) (K : J X (pc + 1) loc (.int (-x) :: rest) σ) : J X pc loc (.int x :: rest) σ := by
  obtain ⟨p, l, e, R, s, m, args, below, meth, c, D, cI, ad, A0, ks, nL, mc, ms, Q⟩ := X
  obtain ⟨hx, hb, hml, hn0, hr, hown, hts, hlocks, hK, hcl, hfr, hlo, hmc, hms, hnw⟩ := C
  intro H locs ls hP hD hT hS hl
  exact lv_ineg hx hb hdg (K H locs ls hP hD hT hS hl)
theorem J.i2l (C : Cx X own cc n0 ret fr lo) {x : Int32} (hdg : decode cc pc = .ok (.i2l, 1)) (K : J X (pc + 1) loc (.long x.toInt64 :: rest) σ) : J X pc loc (.int x :: rest) σ := by
  obtain ⟨p, l, e, R, s, m, args, below, meth, c, D, cI, ad, A0, ks, nL, mc, ms, Q⟩ := X
  obtain ⟨hx, hb, hml, hn0, hr, hown, hts, hlocks, hK, hcl, hfr, hlo, hmc, hms, hnw⟩ := C
  intro H locs ls hP hD hT hS hl
  exact lv_i2l hx hb hdg rfl (K H locs ls hP hD hT hS hl)
theorem J.l2i (C : Cx X own cc n0 ret fr lo) {x : Int64} (hdg : decode cc pc = .ok (.l2i, 1)) (K : J X (pc + 1) loc (.int x.toInt32 :: rest) σ) : J X pc loc (.long x :: rest) σ := by
  obtain ⟨p, l, e, R, s, m, args, below, meth, c, D, cI, ad, A0, ks, nL, mc, ms, Q⟩ := X
  obtain ⟨hx, hb, hml, hn0, hr, hown, hts, hlocks, hK, hcl, hfr, hlo, hmc, hms, hnw⟩ := C
  intro H locs ls hP hD hT hS hl
  exact lv_l2i hx hb hdg rfl (K H locs ls hP hD hT hS hl)
theorem J.i2c (C : Cx X own cc n0 ret fr lo) {x : Int32} (hdg : decode cc pc = .ok (.i2c, 1)) (K : J X (pc + 1) loc (.int (x.toUInt32 % 65536).toInt32 :: rest) σ) : J X pc loc (.int x :: rest) σ := by
  obtain ⟨p, l, e, R, s, m, args, below, meth, c, D, cI, ad, A0, ks, nL, mc, ms, Q⟩ := X
  obtain ⟨hx, hb, hml, hn0, hr, hown, hts, hlocks, hK, hcl, hfr, hlo, hmc, hms, hnw⟩ := C
  intro H locs ls hP hD hT hS hl
  exact lv_i2c hx hb hdg rfl (K H locs ls hP hD hT hS hl)
theorem J.lcmp (C : Cx X own cc n0 ret fr lo) {x y : Int64} (hdg : decode cc pc = .ok (.lcmp, 1)) (K : J X (pc + 1) loc (.int (lg_cmp x y) :: rest) σ) : J X pc loc (.long y :: .long x :: rest) σ := by
  obtain ⟨p, l, e, R, s, m, args, below, meth, c, D, cI, ad, A0, ks, nL, mc, ms, Q⟩ := X
  obtain ⟨hx, hb, hml, hn0, hr, hown, hts, hlocks, hK, hcl, hfr, hlo, hmc, hms, hnw⟩ := C
  intro H locs ls hP hD hT hS hl
  exact W.lcmp hx hb hdg (K H locs ls hP hD hT hS hl)
theorem J.dup (C : Cx X own cc n0 ret fr lo) {v : Value} (hdg : decode cc pc = .ok (.dup, 1)) (hv : v.category = 1) (K : J X (pc + 1) loc (v :: v :: rest) σ) : J X pc loc (v :: rest) σ := by
  obtain ⟨p, l, e, R, s, m, args, below, meth, c, D, cI, ad, A0, ks, nL, mc, ms, Q⟩ := X
  obtain ⟨hx, hb, hml, hn0, hr, hown, hts, hlocks, hK, hcl, hfr, hlo, hmc, hms, hnw⟩ := C
  intro H locs ls hP hD hT hS hl
  exact lv_dup hx hb hdg hv (K H locs ls hP hD hT hS hl)
theorem J.pop (C : Cx X own cc n0 ret fr lo) {v : Value} (hdg : decode cc pc = .ok (.pop, 1)) (hv : v.category = 1) (K : J X (pc + 1) loc (rest) σ) : J X pc loc (v :: rest) σ := by
  obtain ⟨p, l, e, R, s, m, args, below, meth, c, D, cI, ad, A0, ks, nL, mc, ms, Q⟩ := X
  obtain ⟨hx, hb, hml, hn0, hr, hown, hts, hlocks, hK, hcl, hfr, hlo, hmc, hms, hnw⟩ := C
  intro H locs ls hP hD hT hS hl
  exact lv_pop hx hb hdg hv (K H locs ls hP hD hT hS hl)
theorem J.dup2 (C : Cx X own cc n0 ret fr lo) {va vb : Value} (hdg : decode cc pc = .ok (.dup2, 1)) (hva : va.category = 1) (hvb : vb.category = 1) (K : J X (pc + 1) loc (va :: vb :: va :: vb :: rest) σ) : J X pc loc (va :: vb :: rest) σ := by
  obtain ⟨p, l, e, R, s, m, args, below, meth, c, D, cI, ad, A0, ks, nL, mc, ms, Q⟩ := X
  obtain ⟨hx, hb, hml, hn0, hr, hown, hts, hlocks, hK, hcl, hfr, hlo, hmc, hms, hnw⟩ := C
  intro H locs ls hP hD hT hS hl
  exact lv_dup2_11 hx hb hdg hva hvb (K H locs ls hP hD hT hS hl)
theorem J.if_eq (C : Cx X own cc n0 ret fr lo) {τ : Type} {A B t : τ} {x : Int32} {off : Int} {tgt : Nat} (hdg : decode cc pc = .ok (.ifCond .eq off, 3)) (ht : (pc : Int) + off = (tgt : Int)) (hf : (if x = 0 then A else B) = t) (kt : A = t → J X tgt loc rest σ) (kf : B = t → J X (pc + 3) loc rest σ) : J X pc loc (.int x :: rest) σ := by
  obtain ⟨p, l, e, R, s, m, args, below, meth, c, D, cI, ad, A0, ks, nL, mc, ms, Q⟩ := X
  obtain ⟨hx, hb, hml, hn0, hr, hown, hts, hlocks, hK, hcl, hfr, hlo, hmc, hms, hnw⟩ := C
  intro H locs ls hP hD hT hS hl
  exact lv_if_eq hx hb hdg ht (fun h => kt (by rw [← hf, if_pos h]) H locs ls hP hD hT hS hl) (fun h => kf (by rw [← hf, if_neg h]) H locs ls hP hD hT hS hl)
theorem J.icmp_eq (C : Cx X own cc n0 ret fr lo) {τ : Type} {A B t : τ} {x y : Int32} {off : Int} {tgt : Nat} (hdg : decode cc pc = .ok (.if_icmp .eq off, 3)) (ht : (pc : Int) + off = (tgt : Int)) (hf : (if x = y then A else B) = t) (kt : A = t → J X tgt loc rest σ) (kf : B = t → J X (pc + 3) loc rest σ) : J X pc loc (.int y :: .int x :: rest) σ := by
  obtain ⟨p, l, e, R, s, m, args, below, meth, c, D, cI, ad, A0, ks, nL, mc, ms, Q⟩ := X
  obtain ⟨hx, hb, hml, hn0, hr, hown, hts, hlocks, hK, hcl, hfr, hlo, hmc, hms, hnw⟩ := C
  intro H locs ls hP hD hT hS hl
  exact lv_icmp_eq hx hb hdg ht (fun h => kt (by rw [← hf, if_pos h]) H locs ls hP hD hT hS hl) (fun h => kf (by rw [← hf, if_neg h]) H locs ls hP hD hT hS hl)
theorem J.if_ne (C : Cx X own cc n0 ret fr lo) {τ : Type} {A B t : τ} {x : Int32} {off : Int} {tgt : Nat} (hdg : decode cc pc = .ok (.ifCond .ne off, 3)) (ht : (pc : Int) + off = (tgt : Int)) (hf : (if x = 0 then A else B) = t) (kt : B = t → J X tgt loc rest σ) (kf : A = t → J X (pc + 3) loc rest σ) : J X pc loc (.int x :: rest) σ := by
  obtain ⟨p, l, e, R, s, m, args, below, meth, c, D, cI, ad, A0, ks, nL, mc, ms, Q⟩ := X
  obtain ⟨hx, hb, hml, hn0, hr, hown, hts, hlocks, hK, hcl, hfr, hlo, hmc, hms, hnw⟩ := C
  intro H locs ls hP hD hT hS hl
  exact lv_if_ne hx hb hdg ht (fun h => kt (by rw [← hf, if_neg h]) H locs ls hP hD hT hS hl) (fun h => kf (by rw [← hf, if_pos h]) H locs ls hP hD hT hS hl)
theorem J.icmp_ne (C : Cx X own cc n0 ret fr lo) {τ : Type} {A B t : τ} {x y : Int32} {off : Int} {tgt : Nat} (hdg : decode cc pc = .ok (.if_icmp .ne off, 3)) (ht : (pc : Int) + off = (tgt : Int)) (hf : (if x = y then A else B) = t) (kt : B = t → J X tgt loc rest σ) (kf : A = t → J X (pc + 3) loc rest σ) : J X pc loc (.int y :: .int x :: rest) σ := by
  obtain ⟨p, l, e, R, s, m, args, below, meth, c, D, cI, ad, A0, ks, nL, mc, ms, Q⟩ := X
  obtain ⟨hx, hb, hml, hn0, hr, hown, hts, hlocks, hK, hcl, hfr, hlo, hmc, hms, hnw⟩ := C
  intro H locs ls hP hD hT hS hl
  exact lv_icmp_ne hx hb hdg ht (fun h => kt (by rw [← hf, if_neg h]) H locs ls hP hD hT hS hl) (fun h => kf (by rw [← hf, if_pos h]) H locs ls hP hD hT hS hl)
theorem J.if_lt (C : Cx X own cc n0 ret fr lo) {τ : Type} {A B t : τ} {x : Int32} {off : Int} {tgt : Nat} (hdg : decode cc pc = .ok (.ifCond .lt off, 3)) (ht : (pc : Int) + off = (tgt : Int)) (hf : (if x < 0 then A else B) = t) (kt : A = t → J X tgt loc rest σ) (kf : B = t → J X (pc + 3) loc rest σ) : J X pc loc (.int x :: rest) σ := by
  obtain ⟨p, l, e, R, s, m, args, below, meth, c, D, cI, ad, A0, ks, nL, mc, ms, Q⟩ := X
  obtain ⟨hx, hb, hml, hn0, hr, hown, hts, hlocks, hK, hcl, hfr, hlo, hmc, hms, hnw⟩ := C
  intro H locs ls hP hD hT hS hl
  exact lv_if_lt hx hb hdg ht (fun h => kt (by rw [← hf, if_pos h]) H locs ls hP hD hT hS hl) (fun h => kf (by rw [← hf, if_neg h]) H locs ls hP hD hT hS hl)
theorem J.icmp_lt (C : Cx X own cc n0 ret fr lo) {τ : Type} {A B t : τ} {x y : Int32} {off : Int} {tgt : Nat} (hdg : decode cc pc = .ok (.if_icmp .lt off, 3)) (ht : (pc : Int) + off = (tgt : Int)) (hf : (if x < y then A else B) = t) (kt : A = t → J X tgt loc rest σ) (kf : B = t → J X (pc + 3) loc rest σ) : J X pc loc (.int y :: .int x :: rest) σ := by
  obtain ⟨p, l, e, R, s, m, args, below, meth, c, D, cI, ad, A0, ks, nL, mc, ms, Q⟩ := X
  obtain ⟨hx, hb, hml, hn0, hr, hown, hts, hlocks, hK, hcl, hfr, hlo, hmc, hms, hnw⟩ := C
  intro H locs ls hP hD hT hS hl
  exact lv_icmp_lt hx hb hdg ht (fun h => kt (by rw [← hf, if_pos h]) H locs ls hP hD hT hS hl) (fun h => kf (by rw [← hf, if_neg h]) H locs ls hP hD hT hS hl)
theorem J.if_ge (C : Cx X own cc n0 ret fr lo) {τ : Type} {A B t : τ} {x : Int32} {off : Int} {tgt : Nat} (hdg : decode cc pc = .ok (.ifCond .ge off, 3)) (ht : (pc : Int) + off = (tgt : Int)) (hf : (if 0 ≤ x then A else B) = t) (kt : A = t → J X tgt loc rest σ) (kf : B = t → J X (pc + 3) loc rest σ) : J X pc loc (.int x :: rest) σ := by
  obtain ⟨p, l, e, R, s, m, args, below, meth, c, D, cI, ad, A0, ks, nL, mc, ms, Q⟩ := X
  obtain ⟨hx, hb, hml, hn0, hr, hown, hts, hlocks, hK, hcl, hfr, hlo, hmc, hms, hnw⟩ := C
  intro H locs ls hP hD hT hS hl
  exact lv_if_ge hx hb hdg ht (fun h => kt (by rw [← hf, if_pos h]) H locs ls hP hD hT hS hl) (fun h => kf (by rw [← hf, if_neg h]) H locs ls hP hD hT hS hl)
theorem J.icmp_ge (C : Cx X own cc n0 ret fr lo) {τ : Type} {A B t : τ} {x y : Int32} {off : Int} {tgt : Nat} (hdg : decode cc pc = .ok (.if_icmp .ge off, 3)) (ht : (pc : Int) + off = (tgt : Int)) (hf : (if y ≤ x then A else B) = t) (kt : A = t → J X tgt loc rest σ) (kf : B = t → J X (pc + 3) loc rest σ) : J X pc loc (.int y :: .int x :: rest) σ := by
  obtain ⟨p, l, e, R, s, m, args, below, meth, c, D, cI, ad, A0, ks, nL, mc, ms, Q⟩ := X
  obtain ⟨hx, hb, hml, hn0, hr, hown, hts, hlocks, hK, hcl, hfr, hlo, hmc, hms, hnw⟩ := C
  intro H locs ls hP hD hT hS hl
  exact lv_icmp_ge hx hb hdg ht (fun h => kt (by rw [← hf, if_pos h]) H locs ls hP hD hT hS hl) (fun h => kf (by rw [← hf, if_neg h]) H locs ls hP hD hT hS hl)
theorem J.if_gt (C : Cx X own cc n0 ret fr lo) {τ : Type} {A B t : τ} {x : Int32} {off : Int} {tgt : Nat} (hdg : decode cc pc = .ok (.ifCond .gt off, 3)) (ht : (pc : Int) + off = (tgt : Int)) (hf : (if 0 < x then A else B) = t) (kt : A = t → J X tgt loc rest σ) (kf : B = t → J X (pc + 3) loc rest σ) : J X pc loc (.int x :: rest) σ := by
  obtain ⟨p, l, e, R, s, m, args, below, meth, c, D, cI, ad, A0, ks, nL, mc, ms, Q⟩ := X
  obtain ⟨hx, hb, hml, hn0, hr, hown, hts, hlocks, hK, hcl, hfr, hlo, hmc, hms, hnw⟩ := C
  intro H locs ls hP hD hT hS hl
  exact lv_if_gt hx hb hdg ht (fun h => kt (by rw [← hf, if_pos h]) H locs ls hP hD hT hS hl) (fun h => kf (by rw [← hf, if_neg h]) H locs ls hP hD hT hS hl)
theorem J.icmp_gt (C : Cx X own cc n0 ret fr lo) {τ : Type} {A B t : τ} {x y : Int32} {off : Int} {tgt : Nat} (hdg : decode cc pc = .ok (.if_icmp .gt off, 3)) (ht : (pc : Int) + off = (tgt : Int)) (hf : (if y < x then A else B) = t) (kt : A = t → J X tgt loc rest σ) (kf : B = t → J X (pc + 3) loc rest σ) : J X pc loc (.int y :: .int x :: rest) σ := by
  obtain ⟨p, l, e, R, s, m, args, below, meth, c, D, cI, ad, A0, ks, nL, mc, ms, Q⟩ := X
  obtain ⟨hx, hb, hml, hn0, hr, hown, hts, hlocks, hK, hcl, hfr, hlo, hmc, hms, hnw⟩ := C
  intro H locs ls hP hD hT hS hl
  exact lv_icmp_gt hx hb hdg ht (fun h => kt (by rw [← hf, if_pos h]) H locs ls hP hD hT hS hl) (fun h => kf (by rw [← hf, if_neg h]) H locs ls hP hD hT hS hl)
theorem J.if_le (C : Cx X own cc n0 ret fr lo) {τ : Type} {A B t : τ} {x : Int32} {off : Int} {tgt : Nat} (hdg : decode cc pc = .ok (.ifCond .le off, 3)) (ht : (pc : Int) + off = (tgt : Int)) (hf : (if x ≤ 0 then A else B) = t) (kt : A = t → J X tgt loc rest σ) (kf : B = t → J X (pc + 3) loc rest σ) : J X pc loc (.int x :: rest) σ := by
  obtain ⟨p, l, e, R, s, m, args, below, meth, c, D, cI, ad, A0, ks, nL, mc, ms, Q⟩ := X
  obtain ⟨hx, hb, hml, hn0, hr, hown, hts, hlocks, hK, hcl, hfr, hlo, hmc, hms, hnw⟩ := C
  intro H locs ls hP hD hT hS hl
  exact lv_if_le hx hb hdg ht (fun h => kt (by rw [← hf, if_pos h]) H locs ls hP hD hT hS hl) (fun h => kf (by rw [← hf, if_neg h]) H locs ls hP hD hT hS hl)
theorem J.icmp_le (C : Cx X own cc n0 ret fr lo) {τ : Type} {A B t : τ} {x y : Int32} {off : Int} {tgt : Nat} (hdg : decode cc pc = .ok (.if_icmp .le off, 3)) (ht : (pc : Int) + off = (tgt : Int)) (hf : (if x ≤ y then A else B) = t) (kt : A = t → J X tgt loc rest σ) (kf : B = t → J X (pc + 3) loc rest σ) : J X pc loc (.int y :: .int x :: rest) σ := by
  obtain ⟨p, l, e, R, s, m, args, below, meth, c, D, cI, ad, A0, ks, nL, mc, ms, Q⟩ := X
  obtain ⟨hx, hb, hml, hn0, hr, hown, hts, hlocks, hK, hcl, hfr, hlo, hmc, hms, hnw⟩ := C
  intro H locs ls hP hD hT hS hl
  exact lv_icmp_le hx hb hdg ht (fun h => kt (by rw [← hf, if_pos h]) H locs ls hP hD hT hS hl) (fun h => kf (by rw [← hf, if_neg h]) H locs ls hP hD hT hS hl)
theorem J.goto (C : Cx X own cc n0 ret fr lo) {off : Int} {tgt : Nat} (hdg : decode cc pc = .ok (.goto off, 3)) (ht : (pc : Int) + off = (tgt : Int)) (K : J X tgt loc rest σ) : J X pc loc rest σ := by
  obtain ⟨p, l, e, R, s, m, args, below, meth, c, D, cI, ad, A0, ks, nL, mc, ms, Q⟩ := X
  obtain ⟨hx, hb, hml, hn0, hr, hown, hts, hlocks, hK, hcl, hfr, hlo, hmc, hms, hnw⟩ := C
  intro H locs ls hP hD hT hS hl
  exact lv_goto hx hb hdg ht (K H locs ls hP hD hT hS hl)
/-- what the tables say of a class, by its number -/
def Kc (ci : Nat) (C : String) (T : u_T) (N : Nat) (ty : Nat → FieldType) : Prop := vwCl[ci]? = some (C, T, N) ∧ ci < 100 ∧ (∀ w ∈ u_ws C T N, w ∈ lw_g) ∧ (∀ k, k < N → parseFieldDescriptor (T k).2.2.1 = some (ty k)) ∧ (∀ a, a < N → ∀ b, b < N → a ≠ b → (T a).2.1 ≠ (T b).2.1) ∧ (fpat ci).length = N
theorem ce_obj {cI : Nat → ClassId} {ad : Nat → Nat} {σ : Mem} {k ci : Nat} (h : clsOf k = ci) (hc : ci < 100) : ce cI ad σ k = .inr (ci, fl (fun j => ad (ptr k j)) (σ k) (fpat ci) 0) := by
  subst h
  simp [ce, hc]
theorem ce_arr {cI : Nat → ClassId} {ad : Nat → Nat} {σ : Mem} {k ci : Nat} (h : clsOf k = ci) (hc : ¬ ci < 100) : ce cI ad σ k = .inl (cI ci, alen k, .inl (σ k)) := by
  subst h
  simp [ce, hc]
theorem J.getR (C : Cx X own cc n0 ret fr lo) {ci N index : Nat} {Cn ref : String} {T : u_T} {ty : Nat → FieldType} (hk : Kc ci Cn T N ty) {k : Nat} (hok : Ok (Xks X) k ci) (j : Nat) (hj : (fpat ci)[j]? = some true) (hw : Cond.fieldLink own index ref (T j).2.1 (T j).2.2.1 ∈ lw_g) (href : (T j).1 = ref) (hdg : decode cc pc = .ok (.getfield index, 3)) (K : J X (pc + 3) loc (.ref (Xad X (ptr k j)) :: rest) σ) : J X pc loc (.ref (Xad X k) :: rest) σ := by
  obtain ⟨p, l, e, R, s, m, args, below, meth, c, D, cI, ad, A0, ks, nL, mc, ms, Q⟩ := X
  obtain ⟨hx, hb, hml, hn0, hr, hown, hts, hlocks, hK, hcl, hfr, hlo, hmc, hms, hnw⟩ := C
  obtain ⟨h1, h2, h3, h4, h5, h6⟩ := hk
  have hjN : j < N := by rw [← h6]; exact (List.getElem?_eq_some_iff.mp hj).1
  intro H locs ls hP hD hT hS hl
  obtain ⟨q, hq, he⟩ := wl_get cI ad σ hok.1
  rw [ce_obj hok.2 h2] at he
  refine va_get (D := D) hx hb hts h3 hown hK hP q he h1 j hjN (hts _ hw) (fun x hx => by rw [← href]; exact hx) (v := .ref (ad (ptr k j))) ?_ hdg (K H locs ls hP hD hT hS hl)
  rw [fl_ref _ _ _ _ _ hj, Nat.zero_add]
theorem J.getI (C : Cx X own cc n0 ret fr lo) {ci N index : Nat} {Cn ref : String} {T : u_T} {ty : Nat → FieldType} (hk : Kc ci Cn T N ty) {k : Nat} (hok : Ok (Xks X) k ci) (j : Nat) (hj : (fpat ci)[j]? = some false) (hw : Cond.fieldLink own index ref (T j).2.1 (T j).2.2.1 ∈ lw_g) (href : (T j).1 = ref) (hdg : decode cc pc = .ok (.getfield index, 3)) (K : J X (pc + 3) loc (.int (σ k j) :: rest) σ) : J X pc loc (.ref (Xad X k) :: rest) σ := by
  obtain ⟨p, l, e, R, s, m, args, below, meth, c, D, cI, ad, A0, ks, nL, mc, ms, Q⟩ := X
  obtain ⟨hx, hb, hml, hn0, hr, hown, hts, hlocks, hK, hcl, hfr, hlo, hmc, hms, hnw⟩ := C
  obtain ⟨h1, h2, h3, h4, h5, h6⟩ := hk
  have hjN : j < N := by rw [← h6]; exact (List.getElem?_eq_some_iff.mp hj).1
  intro H locs ls hP hD hT hS hl
  obtain ⟨q, hq, he⟩ := wl_get cI ad σ hok.1
  rw [ce_obj hok.2 h2] at he
  refine va_get (D := D) hx hb hts h3 hown hK hP q he h1 j hjN (hts _ hw) (fun x hx => by rw [← href]; exact hx) (v := .int (σ k j)) ?_ hdg (K H locs ls hP hD hT hS hl)
  rw [fl_int _ _ _ _ _ hj, Nat.zero_add]
theorem J.putI (C : Cx X own cc n0 ret fr lo) {ci N index : Nat} {Cn ref : String} {T : u_T} {ty : Nat → FieldType} (hk : Kc ci Cn T N ty) {k : Nat} (hok : Ok (Xks X) k ci) (j : Nat) (hj : (fpat ci)[j]? = some false) (hw : Cond.fieldLink own index ref (T j).2.1 (T j).2.2.1 ∈ lw_g) (href : (T j).1 = ref) (hfin : (T j).2.2.2 = false) {v : Int32} (hn : narrow (ty j) (.int v) = .int v) (hfit : fits (ty j) (.int v) = true) (hdg : decode cc pc = .ok (.putfield index, 3)) (K : J X (pc + 3) loc rest (gput σ k (upd (σ k) j v))) : J X pc loc (.int v :: .ref (Xad X k) :: rest) σ := by
  obtain ⟨p, l, e, R, s, m, args, below, meth, c, D, cI, ad, A0, ks, nL, mc, ms, Q⟩ := X
  obtain ⟨hx, hb, hml, hn0, hr, hown, hts, hlocks, hK, hcl, hfr, hlo, hmc, hms, hnw⟩ := C
  obtain ⟨h1, h2, h3, h4, h5, h6⟩ := hk
  have hjN : j < N := by rw [← h6]; exact (List.getElem?_eq_some_iff.mp hj).1
  intro H locs ls hP hD hT hS hl
  obtain ⟨q, hq, he⟩ := wl_get cI ad σ hok.1
  have hset := wl_set hD hq (upd (σ k) j v)
  rw [ce_obj hok.2 h2, gput_s] at hset
  rw [ce_obj hok.2 h2] at he
  have hfs : (fl (fun j => ad (ptr k j)) (σ k) (fpat ci) 0).set j (.int v) = fl (fun j => ad (ptr k j)) (upd (σ k) j v) (fpat ci) 0 := by
    have := fl_set (fun j => ad (ptr k j)) (σ k) v (fpat ci) 0 j hj
    rw [Nat.zero_add] at this
    exact this
  refine va_put (D := D) hx hb hts h3 ty h4 h5 hown hK hP hD hS q he h1 j hjN (hts _ hw) (fun x hx => by rw [← href]; exact hx) hfin (h4 j hjN) hn hfit (by rw [fl_len, h6]; exact hjN) hdg (fun H1 locs1 hP1 hD1 hS1 => ?_)
  rw [hfs, hset] at hP1 hD1
  exact K H1 locs1 ls hP1 hD1 (hT.put (by rw [hok.2]; omega) _) hS1 hl
/-- an index that is in a row -/
def ckI (i : Int32) (n : Nat) : Bool := decide (0 ≤ i.toInt ∧ i.toInt < (n : Int))
theorem ckI_in {i : Int32} {n : Nat} (h : ckI i n = true) : vp_in i n := vp_in_iff.mpr (by simpa [ckI] using h)
def chk {τ : Type} (b : Bool) (e : Option τ) : Option τ := if b then e else none
theorem chk_some {τ : Type} {b : Bool} {e : Option τ} {t : τ} (h : chk b e = some t) : b = true ∧ e = some t := by
  cases b
  · simp [chk] at h
  · exact ⟨rfl, h⟩
def ix (i : Int32) : Nat := i.toNatClampNeg
theorem J.iald (C : Cx X own cc n0 ret fr lo) {τ : Type} {e : Option τ} {t : τ} {k : Nat} (hok : Ok (Xks X) k 100) {i : Int32} (hf : chk (ckI i (alen k)) e = some t) (hdg : decode cc pc = .ok (.iaload, 1)) (K : e = some t → J X (pc + 1) loc (.int (σ k (ix i)) :: rest) σ) : J X pc loc (.int i :: .ref (Xad X k) :: rest) σ := by
  obtain ⟨p, l, e, R, s, m, args, below, meth, c, D, cI, ad, A0, ks, nL, mc, ms, Q⟩ := X
  obtain ⟨hx, hb, hml, hn0, hr, hown, hts, hlocks, hK, hcl, hfr, hlo, hmc, hms, hnw⟩ := C
  intro H locs ls hP hD hT hS hl
  obtain ⟨hin, hf⟩ := chk_some hf
  obtain ⟨q, hq, he⟩ := wl_get cI ad σ hok.1
  rw [ce_arr hok.2 (by decide)] at he
  exact va_iald hx hb hK hP q 0 he rfl (ckI_in hin) hdg (K hf H locs ls hP hD hT hS hl)
theorem J.zald (C : Cx X own cc n0 ret fr lo) {τ : Type} {e : Option τ} {t : τ} {k : Nat} (hok : Ok (Xks X) k 101) {i : Int32} (hf : chk (ckI i (alen k)) e = some t) (hdg : decode cc pc = .ok (.baload, 1)) (K : e = some t → J X (pc + 1) loc (.int (σ k (ix i)) :: rest) σ) : J X pc loc (.int i :: .ref (Xad X k) :: rest) σ := by
  obtain ⟨p, l, e, R, s, m, args, below, meth, c, D, cI, ad, A0, ks, nL, mc, ms, Q⟩ := X
  obtain ⟨hx, hb, hml, hn0, hr, hown, hts, hlocks, hK, hcl, hfr, hlo, hmc, hms, hnw⟩ := C
  intro H locs ls hP hD hT hS hl
  obtain ⟨hin, hf⟩ := chk_some hf
  obtain ⟨q, hq, he⟩ := wl_get cI ad σ hok.1
  rw [ce_arr hok.2 (by decide)] at he
  exact va_zald hx hb hK hP q 1 he rfl (ckI_in hin) hdg (K hf H locs ls hP hD hT hS hl)
theorem J.cald (C : Cx X own cc n0 ret fr lo) {τ : Type} {e : Option τ} {t : τ} {k : Nat} (hok : Ok (Xks X) k 102) {i : Int32} (hf : chk (ckI i (alen k)) e = some t) (hdg : decode cc pc = .ok (.caload, 1)) (K : e = some t → J X (pc + 1) loc (.int (σ k (ix i)) :: rest) σ) : J X pc loc (.int i :: .ref (Xad X k) :: rest) σ := by
  obtain ⟨p, l, e, R, s, m, args, below, meth, c, D, cI, ad, A0, ks, nL, mc, ms, Q⟩ := X
  obtain ⟨hx, hb, hml, hn0, hr, hown, hts, hlocks, hK, hcl, hfr, hlo, hmc, hms, hnw⟩ := C
  intro H locs ls hP hD hT hS hl
  obtain ⟨hin, hf⟩ := chk_some hf
  obtain ⟨q, hq, he⟩ := wl_get cI ad σ hok.1
  rw [ce_arr hok.2 (by decide)] at he
  exact va_cald hx hb hK hP q 2 he rfl (ckI_in hin) hdg (K hf H locs ls hP hD hT hS hl)
/-- of a static row -/
theorem J.sald (C : Cx X own cc n0 ret fr lo) {τ : Type} {e : Option τ} {t : τ} {k : Nat} (hok : clsOf k = 103) {i : Int32} (hf : chk (ckI i (alen k)) e = some t) (hdg : decode cc pc = .ok (.iaload, 1)) (K : e = some t → J X (pc + 1) loc (.int (σ k (ix i)) :: rest) σ) : J X pc loc (.int i :: .ref (Xad X k) :: rest) σ := by
  obtain ⟨p, l, e, R, s, m, args, below, meth, c, D, cI, ad, A0, ks, nL, mc, ms, Q⟩ := X
  obtain ⟨hx, hb, hml, hn0, hr, hown, hts, hlocks, hK, hcl, hfr, hlo, hmc, hms, hnw⟩ := C
  intro H locs ls hP hD hT hS hl
  obtain ⟨hin, hf⟩ := chk_some hf
  exact va_ti hx hb (hT k hok) hS (ckI_in hin) rfl hdg (K hf H locs ls hP hD hT hS hl)
theorem J.arrlen (C : Cx X own cc n0 ret fr lo) {k : Nat} (hok : Ok (Xks X) k 100) (hdg : decode cc pc = .ok (.arraylength, 1)) (K : J X (pc + 1) loc (.int (Int32.ofNat (alen k)) :: rest) σ) : J X pc loc (.ref (Xad X k) :: rest) σ := by
  obtain ⟨p, l, e, R, s, m, args, below, meth, c, D, cI, ad, A0, ks, nL, mc, ms, Q⟩ := X
  obtain ⟨hx, hb, hml, hn0, hr, hown, hts, hlocks, hK, hcl, hfr, hlo, hmc, hms, hnw⟩ := C
  intro H locs ls hP hD hT hS hl
  obtain ⟨q, hq, he⟩ := wl_get cI ad σ hok.1
  rw [ce_arr hok.2 (by decide)] at he
  exact va_alen hx hb hK hP q 0 he (ty := .int) rfl rfl hdg (K H locs ls hP hD hT hS hl)
theorem J.srrlen (C : Cx X own cc n0 ret fr lo) {k : Nat} (hok : clsOf k = 103) (hdg : decode cc pc = .ok (.arraylength, 1)) (K : J X (pc + 1) loc (.int (Int32.ofNat (alen k)) :: rest) σ) : J X pc loc (.ref (Xad X k) :: rest) σ := by
  obtain ⟨p, l, e, R, s, m, args, below, meth, c, D, cI, ad, A0, ks, nL, mc, ms, Q⟩ := X
  obtain ⟨hx, hb, hml, hn0, hr, hown, hts, hlocks, hK, hcl, hfr, hlo, hmc, hms, hnw⟩ := C
  intro H locs ls hP hD hT hS hl
  exact va_tlen hx hb (hT k hok) hS rfl hdg (K H locs ls hP hD hT hS hl)

theorem J.iast (C : Cx X own cc n0 ret fr lo) {τ : Type} {e : Option τ} {t : τ} {k : Nat} (hok : Ok (Xks X) k 100) {i x : Int32} (hf : chk (ckI i (alen k)) e = some t) (hdg : decode cc pc = .ok (.iastore, 1)) (K : e = some t → J X (pc + 1) loc rest (gput σ k (upd (σ k) (ix i) x))) : J X pc loc (.int x :: .int i :: .ref (Xad X k) :: rest) σ := by
  obtain ⟨p, l, e, R, s, m, args, below, meth, c, D, cI, ad, A0, ks, nL, mc, ms, Q⟩ := X
  obtain ⟨hx, hb, hml, hn0, hr, hown, hts, hlocks, hK, hcl, hfr, hlo, hmc, hms, hnw⟩ := C
  intro H locs ls hP hD hT hS hl
  obtain ⟨hin, hf⟩ := chk_some hf
  obtain ⟨q, hq, he⟩ := wl_get cI ad σ hok.1
  have hset := wl_set hD hq (upd (σ k) (ix i) x)
  rw [ce_arr hok.2 (by decide), gput_s] at hset
  rw [ce_arr hok.2 (by decide)] at he
  refine va_iast hx hb hK hP hD hS q 0 he rfl (ckI_in hin) hdg (fun H1 locs1 hP1 hD1 hS1 => ?_)
  have hP1 : va_P D vwCl ((wl cI ad σ ks).set q (ad k, .inl (cI 100, alen k, .inl (upd (σ k) (ix i) x)))) H1 := hP1
  have hD1 : va_D A0 ((wl cI ad σ ks).set q (ad k, .inl (cI 100, alen k, .inl (upd (σ k) (ix i) x)))) := hD1
  rw [hset] at hP1 hD1
  exact K hf H1 locs1 ls hP1 hD1 (hT.put (by rw [hok.2]; decide) _) hS1 hl
theorem J.zast (C : Cx X own cc n0 ret fr lo) {τ : Type} {e : Option τ} {t : τ} {k : Nat} (hok : Ok (Xks X) k 101) {i x : Int32} (hf : chk (ckI i (alen k)) e = some t) (hdg : decode cc pc = .ok (.bastore, 1)) (K : e = some t → J X (pc + 1) loc rest (gput σ k (upd (σ k) (ix i) (vp_nar .boolean x)))) : J X pc loc (.int x :: .int i :: .ref (Xad X k) :: rest) σ := by
  obtain ⟨p, l, e, R, s, m, args, below, meth, c, D, cI, ad, A0, ks, nL, mc, ms, Q⟩ := X
  obtain ⟨hx, hb, hml, hn0, hr, hown, hts, hlocks, hK, hcl, hfr, hlo, hmc, hms, hnw⟩ := C
  intro H locs ls hP hD hT hS hl
  obtain ⟨hin, hf⟩ := chk_some hf
  obtain ⟨q, hq, he⟩ := wl_get cI ad σ hok.1
  have hset := wl_set hD hq (upd (σ k) (ix i) (vp_nar .boolean x))
  rw [ce_arr hok.2 (by decide), gput_s] at hset
  rw [ce_arr hok.2 (by decide)] at he
  refine va_zast hx hb hK hP hD hS q 1 he rfl (ckI_in hin) hdg (fun H1 locs1 hP1 hD1 hS1 => ?_)
  have hP1 : va_P D vwCl ((wl cI ad σ ks).set q (ad k, .inl (cI 101, alen k, .inl (upd (σ k) (ix i) (vp_nar .boolean x))))) H1 := hP1
  have hD1 : va_D A0 ((wl cI ad σ ks).set q (ad k, .inl (cI 101, alen k, .inl (upd (σ k) (ix i) (vp_nar .boolean x))))) := hD1
  rw [hset] at hP1 hD1
  exact K hf H1 locs1 ls hP1 hD1 (hT.put (by rw [hok.2]; decide) _) hS1 hl
theorem J.cast (C : Cx X own cc n0 ret fr lo) {τ : Type} {e : Option τ} {t : τ} {k : Nat} (hok : Ok (Xks X) k 102) {i x : Int32} (hf : chk (ckI i (alen k)) e = some t) (hdg : decode cc pc = .ok (.castore, 1)) (K : e = some t → J X (pc + 1) loc rest (gput σ k (upd (σ k) (ix i) (vp_nar .char x)))) : J X pc loc (.int x :: .int i :: .ref (Xad X k) :: rest) σ := by
  obtain ⟨p, l, e, R, s, m, args, below, meth, c, D, cI, ad, A0, ks, nL, mc, ms, Q⟩ := X
  obtain ⟨hx, hb, hml, hn0, hr, hown, hts, hlocks, hK, hcl, hfr, hlo, hmc, hms, hnw⟩ := C
  intro H locs ls hP hD hT hS hl
  obtain ⟨hin, hf⟩ := chk_some hf
  obtain ⟨q, hq, he⟩ := wl_get cI ad σ hok.1
  have hset := wl_set hD hq (upd (σ k) (ix i) (vp_nar .char x))
  rw [ce_arr hok.2 (by decide), gput_s] at hset
  rw [ce_arr hok.2 (by decide)] at he
  refine va_cast hx hb hK hP hD hS q 2 he rfl (ckI_in hin) hdg (fun H1 locs1 hP1 hD1 hS1 => ?_)
  have hP1 : va_P D vwCl ((wl cI ad σ ks).set q (ad k, .inl (cI 102, alen k, .inl (upd (σ k) (ix i) (vp_nar .char x))))) H1 := hP1
  have hD1 : va_D A0 ((wl cI ad σ ks).set q (ad k, .inl (cI 102, alen k, .inl (upd (σ k) (ix i) (vp_nar .char x))))) := hD1
  rw [hset] at hP1 hD1
  exact K hf H1 locs1 ls hP1 hD1 (hT.put (by rw [hok.2]; decide) _) hS1 hl
/-- a loop: its body goes on (inr) or goes out (inl) -/
def iter {S R : Type} (body : S → Option (R ⊕ S)) : Nat → S → Option R
  | 0, _ => none
  | n + 1, s => match body s with
    | none => none
    | some (.inl r) => some r
    | some (.inr s') => iter body n s'
theorem J_iter {S R : Type} {body : S → Option (R ⊕ S)} {JJ : S → Prop} {Ps : R → Prop} (hb : ∀ s t, body s = some t → (∀ r, t = .inl r → Ps r) → (∀ s', t = .inr s' → JJ s') → JJ s) : ∀ (n : Nat) (s : S) (r : R), iter body n s = some r → Ps r → JJ s := by
  intro n
  induction n with
  | zero => intro s r h; simp [iter] at h
  | succ n ih =>
    intro s r h hp
    rw [iter] at h
    cases hbs : body s with
    | none => rw [hbs] at h; cases h
    | some t =>
      rw [hbs] at h
      refine hb s t hbs ?_ ?_
      · intro r' e
        subst e
        cases h
        exact hp
      · intro s' e
        subst e
        exact ih s' r h hp
/-- ends -/
theorem J.iret (C : Cx X own cc n0 (some .int) fr lo) {v r : Int32} {σ' : Mem} (hR : Rt X (some (.int r)) σ') (hv : v = r) (hs : σ = σ') (hdg : decode cc pc = .ok (.ireturn, 1)) : J X pc loc [.int v] σ := by
  subst hv
  subst hs
  obtain ⟨p, l, e, R, s, m, args, below, meth, c, D, cI, ad, A0, ks, nL, mc, ms, Q⟩ := X
  obtain ⟨hx, hb, hml, hn0, hr, hown, hts, hlocks, hK, hcl, hfr, hlo, hmc, hms, hnw⟩ := C
  intro H locs ls hP hD hT hS hl
  show W _ _ _ _ _ _ _ _ _ _ _ _ _ _ Q _
  rw [show Q = _ from hR]
  exact W.iret hx hb hr (fun t ht hW => ⟨rfl, ⟨va_K.moved hW.alike hK, by rw [ht]; exact hP, hD, hT.out hS ht hW.alike⟩, hS.F ht⟩) hS.2.2 hdg hlocks
theorem J.zret {rt : FieldType} (C : Cx X own cc n0 (some rt) fr lo) {v r : Int32} {σ' : Mem} (hn : narrow rt (.int v) = .int v) (hR : Rt X (some (.int r)) σ') (hv : v = r) (hs : σ = σ') (hdg : decode cc pc = .ok (.ireturn, 1)) : J X pc loc [.int v] σ := by
  subst hv
  subst hs
  obtain ⟨p, l, e, R, s, m, args, below, meth, c, D, cI, ad, A0, ks, nL, mc, ms, Q⟩ := X
  obtain ⟨hx, hb, hml, hn0, hr, hown, hts, hlocks, hK, hcl, hfr, hlo, hmc, hms, hnw⟩ := C
  intro H locs ls hP hD hT hS hl
  show W _ _ _ _ _ _ _ _ _ _ _ _ _ _ Q _
  rw [show Q = _ from hR]
  exact W.zret hx hb hr hn (fun t ht hW => ⟨rfl, ⟨va_K.moved hW.alike hK, by rw [ht]; exact hP, hD, hT.out hS ht hW.alike⟩, hS.F ht⟩) hS.2.2 hdg hlocks
theorem J.lret (C : Cx X own cc n0 (some .long) fr lo) {v r : Int64} {σ' : Mem} (hR : Rt X (some (.long r)) σ') (hv : v = r) (hs : σ = σ') (hdg : decode cc pc = .ok (.lreturn, 1)) : J X pc loc [.long v] σ := by
  subst hv
  subst hs
  obtain ⟨p, l, e, R, s, m, args, below, meth, c, D, cI, ad, A0, ks, nL, mc, ms, Q⟩ := X
  obtain ⟨hx, hb, hml, hn0, hr, hown, hts, hlocks, hK, hcl, hfr, hlo, hmc, hms, hnw⟩ := C
  intro H locs ls hP hD hT hS hl
  show W _ _ _ _ _ _ _ _ _ _ _ _ _ _ Q _
  rw [show Q = _ from hR]
  exact W.lret hx hb hr (fun t ht hW => ⟨rfl, ⟨va_K.moved hW.alike hK, by rw [ht]; exact hP, hD, hT.out hS ht hW.alike⟩, hS.F ht⟩) hS.2.2 hdg hlocks
theorem J.vret (C : Cx X own cc n0 none fr lo) {σ' : Mem} (hR : Rt X none σ') (hs : σ = σ') (hdg : decode cc pc = .ok (.return_, 1)) : J X pc loc [] σ := by
  subst hs
  obtain ⟨p, l, e, R, s, m, args, below, meth, c, D, cI, ad, A0, ks, nL, mc, ms, Q⟩ := X
  obtain ⟨hx, hb, hml, hn0, hr, hown, hts, hlocks, hK, hcl, hfr, hlo, hmc, hms, hnw⟩ := C
  intro H locs ls hP hD hT hS hl
  show W _ _ _ _ _ _ _ _ _ _ _ _ _ _ Q _
  rw [show Q = _ from hR]
  exact W.vret hx hb hr (fun t ht hW => ⟨rfl, ⟨va_K.moved hW.alike hK, by rw [ht]; exact hP, hD, hT.out hS ht hW.alike⟩, hS.F ht⟩) hS.2.2 hdg hlocks

/-- what the tables say of a method that is called, but the place that calls it -/
def Wy (y : MethodName) (cc : ByteArray) (nL : Nat) (ret : Option FieldType) (n : Nat) : Prop := Cond.code y cc nL ret ∈ lw_g ∧ Cond.initialized y.cls ∈ lw_g ∧ (y.cls ≠ "java/lang/invoke/MethodHandle" ∧ y.cls ≠ "java/lang/invoke/VarHandle" ∧ (parseMethodDescriptor y.desc).map (fun d => d.parameters.length) = some n)
theorem PcBlind {D : va_G} {cI : Nat → ClassId} {ad : Nat → Nat} {A0 : Nat → Prop} {ks : List Nat} {σ : Mem} {av : List Value} : FrameBlind (va_Pc av (fun U => Wx D cI ad A0 ks σ U ∧ Nw U)) := fun a U g mk h => ⟨h.1, Wx.moved (u := U) (U := U.calling g mk a) (Vm.Alike.refl U.vm) rfl h.2.1, Nw.same (u := U) (U := U.calling g mk a) rfl h.2.2⟩
theorem J_run {p : Program} {l : Launch} {e : Env} {R : Room} {s : State} {m : MethodId} {args : Array Value} {below : List Frame} {meth : Method} {c : Code} {D : va_G} {cI : Nat → ClassId} {ad : Nat → Nat} {A0 : Nat → Prop} {ks : List Nat} {nL mc ms : Nat} {Q : State → Prop} {H : Heap} {locs : List Loc} {ls : Array Slot} {o : Option Value} {σ' : Mem} {a : Array Value} {stk' : List Value}
    (hr : va_Run p l e R s m args below meth c H locs mc ms 0 0 (F0 m pc ls stk) rest (QcOf D cI ad A0 ks o σ' a) A0) (hT : Ws ad A0 σ s) (hS : va_S A0 s.heap H locs) (hl : lv_has ls nL loc) (hst : o.toList ++ rest = stk')
    (K : J (p, l, e, R, s, m, args, below, meth, c, D, cI, ad, A0, ks, nL, mc, ms, Q) (pc + 3) loc stk' σ') : W p l e R s m args below meth c H locs mc ms Q (F0 m pc ls stk) := by
  intro T hTT X
  obtain ⟨v, st₀, t, T', L, h0, X', hL, e1, e2, ⟨hv, ⟨-, hP1, hD1, hT1⟩, hz, hk⟩, st⟩ := hr T hTT X
  cases hv
  rw [h0] at hz hk
  subst hst
  have hT' : Ws ad A0 σ' s := hT.back hT1 (fun q h1 h2 => by rw [hk q (Nat.lt_of_lt_of_le h1 hS.1) h2]; exact hS.2.1 q h1 h2)
  obtain ⟨t2, a1, b1⟩ := K T'.heap (locs ++ L) ls (by rw [e1]; exact hP1) hD1 hT' ⟨Nat.le_trans hS.1 (by rw [e1]; exact hz), fun q h1 h2 => by rw [e1, hk q (Nat.lt_of_lt_of_le h1 hS.1) h2]; exact hS.2.1 q h1 h2, fun q hq => by
      rcases List.mem_append.mp hq with h | h
      · exact hS.2.2 q h
      · exact hL q h⟩ hl T' rfl X'
  exact ⟨t2, st t2 a1, b1⟩

theorem J.callV (C : Cx X own cc n0 ret fr lo) {y : MethodName} {cc' : ByteArray} {nL' fr' lo' n : Nat} {ret' : Option FieldType} {ok : List Nat → Prop} {as : (Nat → Nat) → List Value} {o : (Nat → Nat) → Option Value} {σ' : Mem} (hM : Ct (Xl X) y cc' nL' ret' fr' lo' ok as σ o σ') (hok : ok (Xks X)) (wy : Wy y cc' nL' ret' n) (hin : Cond.instanceMethod y ∈ lw_g) (hsel : Cond.selects y.cls y y ∈ lw_g) {idx : Nat} (hlink : Cond.methodLink own idx y ∈ lw_g) {ci N : Nat} {Cn : String} {T : u_T} {ty : Nat → FieldType} (hkc : Kc ci Cn T N ty) (hCn : y.cls = Cn) {k : Nat} (hk : Ok (Xks X) k ci) (As rest : List Value) (has : as (Xad X) = .ref (Xad X k) :: As) (hn : As.length = n) (hcat : (rest.map fun v => v.category).sum ≤ 8) (hfr' : fr' + 1 ≤ fr) (hlo' : 8 + (nL' + 11) + lo' ≤ lo) {stk stk' : List Value} (hst : stk = As.reverse ++ .ref (Xad X k) :: rest) (hdg : decode cc pc = .ok (.invokevirtual idx, 3)) (hst' : (o (Xad X)).toList ++ rest = stk') (K : J X (pc + 3) loc stk' σ') : J X pc loc stk σ := by
  obtain ⟨p, l, e, R, s, m, args, below, meth, c, D, cI, ad, A0, ks, nL, mc, ms, Q⟩ := X
  obtain ⟨hx, hb, hml, hn0, hr, hown, hts, hlocks, hK, hcl, hfr, hlo, hmc, hms, hnw⟩ := C
  intro H locs ls hP hD hT hS hl
  obtain ⟨q, hq, he⟩ := wl_get cI ad σ hk.1
  rw [ce_obj hk.2 hkc.2.1] at he
  have hrc : ∃ cellB : Cell, H[ad k]? = some cellB ∧ cellB.vm.isStatics = false ∧ s.vm.findClass y.cls = some cellB.cls := by rw [hCn]; exact va_recv hK hP hkc.1 he
  exact J_run (va_runV ⟨hx, hb, hml, hown, hts⟩ (hM D cI ad A0 ks hcl hok) ⟨⟨rfl, rfl, Nat.le_trans hfr' hfr, Nat.le_trans hlo' hlo, pay_in hts (tblIn wy.1), List.mem_cons_self, hts _ wy.1, hts _ wy.2.1, ⟨wy.2.2.1, wy.2.2.2.1⟩, fun sig h => by have h2 := wy.2.2.2.2; rw [h] at h2; exact (Option.some.inj h2).symm, hts _ hlink⟩, hts _ hin, hts _ hsel⟩ ⟨PcBlind, hrc, fun U hU hW => ⟨by have := has; dsimp only [Xad] at this; rw [this], ⟨va_K.moved hW.alike hK, by rw [hU]; exact hP, hD, hT.out hS hU hW.alike⟩, hnw.warm hW⟩⟩ rfl hn hl.1 hst (lv_room hcat) hdg ⟨hmc, hms⟩) hT hS hl hst' K
theorem J.callS (C : Cx X own cc n0 ret fr lo) {y : MethodName} {cc' : ByteArray} {nL' fr' lo' n : Nat} {ret' : Option FieldType} {ok : List Nat → Prop} {as : (Nat → Nat) → List Value} {o : (Nat → Nat) → Option Value} {σ' : Mem} (hM : Ct (Xl X) y cc' nL' ret' fr' lo' ok as σ o σ') (hok : ok (Xks X)) (wy : Wy y cc' nL' ret' n) (hin : Cond.static y ∈ lw_g) {idx : Nat} (hlink : Cond.methodLink own idx y ∈ lw_g) (As rest : List Value) (has : as (Xad X) = As) (hn : As.length = n) (hcat : (rest.map fun v => v.category).sum ≤ 8) (hfr' : fr' + 1 ≤ fr) (hlo' : 8 + (nL' + 11) + lo' ≤ lo) {stk stk' : List Value} (hst : stk = As.reverse ++ rest) (hdg : decode cc pc = .ok (.invokestatic idx, 3)) (hst' : (o (Xad X)).toList ++ rest = stk') (K : J X (pc + 3) loc stk' σ') : J X pc loc stk σ := by
  obtain ⟨p, l, e, R, s, m, args, below, meth, c, D, cI, ad, A0, ks, nL, mc, ms, Q⟩ := X
  obtain ⟨hx, hb, hml, hn0, hr, hown, hts, hlocks, hK, hcl, hfr, hlo, hmc, hms, hnw⟩ := C
  intro H locs ls hP hD hT hS hl
  exact J_run (va_runS ⟨hx, hb, hml, hown, hts⟩ (hM D cI ad A0 ks hcl hok) ⟨⟨rfl, rfl, Nat.le_trans hfr' hfr, Nat.le_trans hlo' hlo, pay_in hts (tblIn wy.1), List.mem_cons_self, hts _ wy.1, hts _ wy.2.1, ⟨wy.2.2.1, wy.2.2.2.1⟩, fun sig h => by have h2 := wy.2.2.2.2; rw [h] at h2; exact (Option.some.inj h2).symm, hts _ hlink⟩, hts _ hin⟩ ⟨PcBlind, fun U hU hW => ⟨by have := has; dsimp only [Xad] at this; rw [this], ⟨va_K.moved hW.alike hK, by rw [hU]; exact hP, hD, hT.out hS hU hW.alike⟩, hnw.warm hW⟩⟩ rfl hn hl.1 hst (lv_room hcat) hdg ⟨hmc, hms⟩) hT hS hl hst' K
theorem J.callSN (C : Cx X own cc n0 ret fr lo) {y : MethodName} {cc' : ByteArray} {nL' fr' lo' n : Nat} {ret' : Option FieldType} {ok : List Nat → Prop} {as : (Nat → Nat) → List Value} {o : (Nat → Nat) → Option Value} {σ' : Mem} (hM : Ct (Xl X) y cc' nL' ret' fr' lo' ok as σ o σ') (hok : ok (Xks X)) (wy : Wy y cc' nL' ret' n) (hin : Cond.static y ∈ lw_g) {idx : Nat} {host : String} (hlink : Cond.methodLinkNest own idx y host ∈ lw_n) (As rest : List Value) (has : as (Xad X) = As) (hn : As.length = n) (hcat : (rest.map fun v => v.category).sum ≤ 8) (hfr' : fr' + 1 ≤ fr) (hlo' : 8 + (nL' + 11) + lo' ≤ lo) {stk stk' : List Value} (hst : stk = As.reverse ++ rest) (hdg : decode cc pc = .ok (.invokestatic idx, 3)) (hst' : (o (Xad X)).toList ++ rest = stk') (K : J X (pc + 3) loc stk' σ') : J X pc loc stk σ := by
  obtain ⟨p, l, e, R, s, m, args, below, meth, c, D, cI, ad, A0, ks, nL, mc, ms, Q⟩ := X
  obtain ⟨hx, hb, hml, hn0, hr, hown, hts, hlocks, hK, hcl, hfr, hlo, hmc, hms, hnw⟩ := C
  intro H locs ls hP hD hT hS hl
  exact J_run (va_runSN ⟨hx, hb, hml, hown, hts⟩ (hM D cI ad A0 ks hcl hok) ⟨⟨⟨rfl, rfl, Nat.le_trans hfr' hfr, Nat.le_trans hlo' hlo, pay_in hts (tblIn wy.1), List.mem_cons_self⟩, hts _ wy.1, hts _ wy.2.1, ⟨wy.2.2.1, wy.2.2.2.1⟩, fun sig h => by have h2 := wy.2.2.2.2; rw [h] at h2; exact (Option.some.inj h2).symm, va_Nw.use rfl (hnw _ hlink)⟩, hts _ hin, trivial⟩ ⟨PcBlind, fun U hU hW => ⟨by have := has; dsimp only [Xad] at this; rw [this], ⟨va_K.moved hW.alike hK, by rw [hU]; exact hP, hD, hT.out hS hU hW.alike⟩, hnw.warm hW⟩⟩ rfl hn hl.1 hst (lv_room hcat) hdg ⟨hmc, hms⟩) hT hS hl hst' K
theorem J.mmax (C : Cx X own cc n0 ret fr lo) {idx : Nat} (hlink : Cond.methodLink own idx Lib.Math.max.name ∈ lw_g) (h2 : Cond.static Lib.Math.max.name ∈ lw_g) (h3 : Cond.initialized "java/lang/Math" ∈ lw_g) (h4 : Cond.code Lib.Math.max.name Lib.Math.max.code 2 (some .int) ∈ lw_g) (hcat : (rest.map fun v => v.category).sum + 13 ≤ lo) (hf1 : 1 ≤ fr) {x y : Int32} (hdg : decode cc pc = .ok (.invokestatic idx, 3)) (K : J X (pc + 3) loc (.int (if x < y then y else x) :: rest) σ) : J X pc loc (.int y :: .int x :: rest) σ := by
  obtain ⟨p, l, e, R, s, m, args, below, meth, c, D, cI, ad, A0, ks, nL, mc, ms, Q⟩ := X
  obtain ⟨hx, hb, hml, hn0, hr, hown, hts, hlocks, hK, hcl, hfr, hlo, hmc, hms, hnw⟩ := C
  intro H locs ls hP hD hT hS hl
  exact va_mmax hx hb (hml.trans hl.1.symm) hown (hts _ hlink) (hts _ h2) (hts _ h3) (hts _ h4) (Nat.le_trans hf1 hfr) (Nat.le_trans hcat hlo) hmc hms hdg (K H locs ls hP hD hT hS hl)
theorem J.mmin (C : Cx X own cc n0 ret fr lo) {idx : Nat} (hlink : Cond.methodLink own idx Lib.Math.min.name ∈ lw_g) (h2 : Cond.static Lib.Math.min.name ∈ lw_g) (h3 : Cond.initialized "java/lang/Math" ∈ lw_g) (h4 : Cond.code Lib.Math.min.name Lib.Math.min.code 2 (some .int) ∈ lw_g) (hcat : (rest.map fun v => v.category).sum + 13 ≤ lo) (hf1 : 1 ≤ fr) {x y : Int32} (hdg : decode cc pc = .ok (.invokestatic idx, 3)) (K : J X (pc + 3) loc (.int (if y < x then y else x) :: rest) σ) : J X pc loc (.int y :: .int x :: rest) σ := by
  obtain ⟨p, l, e, R, s, m, args, below, meth, c, D, cI, ad, A0, ks, nL, mc, ms, Q⟩ := X
  obtain ⟨hx, hb, hml, hn0, hr, hown, hts, hlocks, hK, hcl, hfr, hlo, hmc, hms, hnw⟩ := C
  intro H locs ls hP hD hT hS hl
  exact va_mmin hx hb (hml.trans hl.1.symm) hown (hts _ hlink) (hts _ h2) (hts _ h3) (hts _ h4) (Nat.le_trans hf1 hfr) (Nat.le_trans hcat hlo) hmc hms hdg (K H locs ls hP hD hT hS hl)
/-- what System.arraycopy asks -/
def ckC (sp dp n : Int32) (na nb : Nat) : Bool := decide (0 ≤ sp.toInt ∧ 0 ≤ dp.toInt ∧ 0 ≤ n.toInt ∧ sp.toInt + n.toInt ≤ (na : Int) ∧ dp.toInt + n.toInt ≤ (nb : Int))
theorem ckC_in {sp dp n : Int32} {na nb : Nat} (h : ckC sp dp n na nb = true) : ¬ sp < 0 ∧ ¬ dp < 0 ∧ ¬ n < 0 ∧ sp.toNatClampNeg + n.toNatClampNeg ≤ na ∧ dp.toNatClampNeg + n.toNatClampNeg ≤ nb := by
  have h := of_decide_eq_true h
  have e : ∀ z : Int32, z.toNatClampNeg = z.toInt.toNat := fun z => rfl
  have lt : ∀ z : Int32, 0 ≤ z.toInt → ¬ z < 0 := fun z hz => by rw [Int32.lt_iff_toInt_lt, Int32.toInt_zero]; omega
  refine ⟨lt _ h.1, lt _ h.2.1, lt _ h.2.2.1, ?_, ?_⟩ <;> rw [e, e] <;> omega
theorem J.acopy (C : Cx X own cc n0 ret fr lo) {τ : Type} {ex : Option τ} {t : τ} {idx : Nat} (hlink : Cond.methodLink own idx arraycopyName ∈ lw_g) (h2 : Cond.native arraycopyName ∈ lw_g) (h3 : Cond.static arraycopyName ∈ lw_g) (h4 : Cond.initialized "java/lang/System" ∈ lw_g) (hcat : (rest.map fun v => v.category).sum + 18 ≤ lo) (hf1 : 1 ≤ fr) {a b : Nat} (ha : Ok (Xks X) a 100) (hbk : Ok (Xks X) b 100) {sp dp n : Int32} (hf : chk (ckC sp dp n (alen a) (alen b)) ex = some t) (hdg : decode cc pc = .ok (.invokestatic idx, 3))
    (K : ex = some t → J X (pc + 3) loc rest (gput σ b (va_cpy (σ a) (σ b) (ix sp) (ix dp) (ix n)))) : J X pc loc (.int n :: .int dp :: .ref (Xad X b) :: .int sp :: .ref (Xad X a) :: rest) σ := by
  obtain ⟨p, l, e, R, s, m, args, below, meth, c, D, cI, ad, A0, ks, nL, mc, ms, Q⟩ := X
  obtain ⟨hx, hb, hml, hn0, hr, hown, hts, hlocks, hK, hcl, hfr, hlo, hmc, hms, hnw⟩ := C
  intro H locs ls hP hD hT hS hl
  obtain ⟨hin, hf⟩ := chk_some hf
  obtain ⟨g1, g2, g3, g4, g5⟩ := ckC_in hin
  obtain ⟨q, hq, he⟩ := wl_get cI ad σ ha.1
  obtain ⟨q', hq', he'⟩ := wl_get cI ad σ hbk.1
  have hset := wl_set hD hq' (va_cpy (σ a) (σ b) (ix sp) (ix dp) (ix n))
  rw [ce_arr hbk.2 (by decide), gput_s] at hset
  rw [ce_arr ha.2 (by decide)] at he
  rw [ce_arr hbk.2 (by decide)] at he'
  refine va_copyi (ty := .int) hx hb (hml.trans hl.1.symm) hown (hts _ hlink) (hts _ h2) (hts _ h3) (hts _ h4) hK hP hD hS q q' 0 0 he he' rfl rfl rfl g1 g2 g3 g4 g5 (fun _ _ => rfl) (Nat.le_trans hf1 hfr) (Nat.le_trans hcat hlo) hdg (fun H1 locs1 hP1 hD1 hS1 => ?_)
  have hP1 : va_P D vwCl ((wl cI ad σ ks).set q' (ad b, .inl (cI 100, alen b, .inl (va_cpy (σ a) (σ b) (ix sp) (ix dp) (ix n))))) H1 := hP1
  have hD1 : va_D A0 ((wl cI ad σ ks).set q' (ad b, .inl (cI 100, alen b, .inl (va_cpy (σ a) (σ b) (ix sp) (ix dp) (ix n))))) := hD1
  rw [hset] at hP1 hD1
  exact K hf H1 locs1 ls hP1 hD1 (hT.put (by rw [hbk.2]; decide) _) hS1 hl
theorem stretch_eq {cs : Cell} {N sp n : Nat} {f : Nat → Value} (hv : ∀ j : Nat, j < N → cs.slots[j]? = some (f j)) (h : sp + n ≤ N) (c0 : ClassId) : cs.stretch sp n = (arrV c0 N f).stretch sp n := by
  unfold Cell.stretch
  apply List.map_congr_left
  intro i hi
  have hi' := List.mem_range.mp hi
  rw [Array.getD_eq_getD_getElem?, Array.getD_eq_getD_getElem?, arrV_read _ _ (by omega), hv _ (by omega)]
/-- from a static row -/
theorem J.scopy (C : Cx X own cc n0 ret fr lo) {τ : Type} {ex : Option τ} {t : τ} {idx : Nat} (hlink : Cond.methodLink own idx arraycopyName ∈ lw_g) (h2 : Cond.native arraycopyName ∈ lw_g) (h3 : Cond.static arraycopyName ∈ lw_g) (h4 : Cond.initialized "java/lang/System" ∈ lw_g) (hcat : (rest.map fun v => v.category).sum + 18 ≤ lo) (hf1 : 1 ≤ fr) {a b : Nat} (ha : clsOf a = 103) (hbk : Ok (Xks X) b 100) {sp dp n : Int32} (hf : chk (ckC sp dp n (alen a) (alen b)) ex = some t) (hdg : decode cc pc = .ok (.invokestatic idx, 3))
    (K : ex = some t → J X (pc + 3) loc rest (gput σ b (va_cpy (σ a) (σ b) (ix sp) (ix dp) (ix n)))) : J X pc loc (.int n :: .int dp :: .ref (Xad X b) :: .int sp :: .ref (Xad X a) :: rest) σ := by
  obtain ⟨p, l, e, R, s, m, args, below, meth, c, D, cI, ad, A0, ks, nL, mc, ms, Q⟩ := X
  obtain ⟨hx, hb, hml, hn0, hr, hown, hts, hlocks, hK, hcl, hfr, hlo, hmc, hms, hnw⟩ := C
  intro H locs ls hP hD hT hS hl
  obtain ⟨hin, hf⟩ := chk_some hf
  obtain ⟨g1, g2, g3, g4, g5⟩ := ckC_in hin
  obtain ⟨q', hq', he'⟩ := wl_get cI ad σ hbk.1
  have hset := wl_set hD hq' (va_cpy (σ a) (σ b) (ix sp) (ix dp) (ix n))
  rw [ce_arr hbk.2 (by decide), gput_s] at hset
  rw [ce_arr hbk.2 (by decide)] at he'
  obtain ⟨cs, a1, a2, a3, a4, a5, a6, a7⟩ := hT a ha
  have a1 : H[ad a]? = some cs := by rw [hS.2.1 _ (Array.getElem?_eq_some_iff.mp a1).1 a7]; exact a1
  have nn : ∀ z : Int32, ¬ z < 0 → z.toInt = (z.toNatClampNeg : Int) := by
    intro z hz
    have hz0 : (0 : Int) ≤ z.toInt := by
      have := Int32.not_lt.mp hz
      simpa using Int32.le_iff_toInt_le.mp this
    show z.toInt = ((z.toInt.toNat : Nat) : Int)
    omega
  have hc1 : H[ad b]? = some (vp_cell (cI 100) (alen b, .inl (σ b))) := hP q' _ he'
  obtain ⟨b1, k0, hk0, cm0, hkk0⟩ := a2
  obtain ⟨-, k1, hk1, cm1, hkk1⟩ := (hK.2 0 (cI 100, .int) rfl).1 (alen b) (fun j => .int (σ b j))
  intro TT hTT XX
  obtain ⟨vm', X', step⟩ := XX.arraycopy hx hown (hts _ hlink) (hts _ h2) (hts _ h3) (hts _ h4) (src := ad a) (dst := ad b) (cs := cs) (cd := vp_cell (cI 100) (alen b, .inl (σ b))) (srcPos := sp) (destPos := dp) (n := n) (by rw [hTT]; exact a1) (by rw [hTT]; exact hc1)
    b1 (fun _ h => by cases h) a3 (fun h => by cases h) hk0 hk1 hkk0 hkk1 rfl g1 g2 g3
    (by rw [nn sp g1, nn n g3]; omega)
    (by rw [nn dp g2, nn n g3]; show ¬ _ > ((arrV (cI 100) (alen b) (fun j => .int (σ b j))).slots.size : Int); rw [arrV_size]; omega)
    (fun vm₁ _ i hi => by
      have e : cs.slots.getD (sp.toNatClampNeg + i) .null = .int (σ a (sp.toNatClampNeg + i)) := by
        rw [Array.getD_eq_getD_getElem?, a6 _ (by omega)]
        rfl
      refine ⟨?_, ?_⟩
      · rw [e]; rfl
      · rw [e]; exact trivial)
    (g := F0 m pc ls (.int n :: .int dp :: .ref (ad b) :: .int sp :: .ref (ad a) :: rest)) rfl (by show ls.size = _; rw [hml, hl.1]) (rest := rest) rfl (by rw [hb]; exact hdg) (Nat.le_trans hf1 hfr) (by show 2 * 0 + _ + 18 ≤ _; omega)
  have e1 : copied cs (vp_cell (cI 100) (alen b, .inl (σ b))) sp dp n = vp_cell (cI 100) (alen b, .inl (va_cpy (σ a) (σ b) (ix sp) (ix dp) (ix n))) := by
    show (vp_cell (cI 100) (alen b, .inl (σ b))).storeRun _ (cs.stretch _ _) = _
    rw [stretch_eq a6 g4 (cI 100)]
    exact va_copied (fun z => .int z) (cI 100) (cI 100) (σ a) (σ b) g4
  rw [e1] at X' step
  have hlb : ad b < H.size := (Array.getElem?_eq_some_iff.mp hc1).1
  have hheap : ((TT.setVm vm').setCell (ad b) (vp_cell (cI 100) (alen b, .inl (va_cpy (σ a) (σ b) (ix sp) (ix dp) (ix n))))).heap = H.setIfInBounds (ad b) (vp_cell (cI 100) (alen b, .inl (va_cpy (σ a) (σ b) (ix sp) (ix dp) (ix n)))) := by rw [← hTT]; rfl
  have oq : ∀ z : Nat, z ≠ ad b → (H.setIfInBounds (ad b) (vp_cell (cI 100) (alen b, .inl (va_cpy (σ a) (σ b) (ix sp) (ix dp) (ix n)))))[z]? = H[z]? := fun z hz => by simp [Array.getElem?_setIfInBounds, Ne.symm hz]
  have hP1 := hP.set hD he' (e := .inl (cI 100, alen b, .inl (va_cpy (σ a) (σ b) (ix sp) (ix dp) (ix n)))) (show (H.setIfInBounds (ad b) _)[ad b]? = some _ by simp [Array.getElem?_setIfInBounds, hlb]) oq
  have hD1 := hD.set (e := .inl (cI 100, alen b, .inl (va_cpy (σ a) (σ b) (ix sp) (ix dp) (ix n)))) he'
  rw [hset] at hP1 hD1
  obtain ⟨t2, r1, r2⟩ := K hf _ _ ls hP1 hD1 (hT.put (by rw [hbk.2]; decide) _) ⟨by simp; exact hS.1, fun z y1 y2 => by
      rw [oq z (fun e => y2 (by rw [e]; exact hD.2 q' _ he'))]
      exact hS.2.1 z y1 y2, fun z hz => by
      rcases List.mem_append.mp hz with h | h
      · exact hS.2.2 z h
      · obtain ⟨y, -, hy⟩ := List.mem_map.mp h
        rw [← hy]
        exact hD.2 q' _ he'⟩ hl _ hheap X'
  exact ⟨t2, step t2 r1, r2⟩
theorem J.tblIn (C : Cx X own cc n0 ret fr lo) {τ : Type} {t : τ} {dflt lo' hi' : Int} {offs : Array Int} {len : Nat} {x : Int32} (hdg : decode cc pc = .ok (.tableswitch dflt lo' hi' offs, len)) (v : Int32) {A B : τ} (hf : (if x = v then A else B) = t) (h1 : ¬ v.toInt < lo') (h2 : ¬ hi' < v.toInt) {off : Int} {tgt : Nat} (ho : offs[(v.toInt - lo').toNat]? = some off) (ht : (pc : Int) + off = (tgt : Int)) (kt : A = t → J X tgt loc rest σ) (kf : ¬ x = v → B = t → J X pc loc (.int x :: rest) σ) : J X pc loc (.int x :: rest) σ := by
  by_cases h : x = v
  · subst h
    obtain ⟨p, l, e, R, s, m, args, below, meth, c, D, cI, ad, A0, ks, nL, mc, ms, Q⟩ := X
    obtain ⟨hx, hb, hml, hn0, hr, hown, hts, hlocks, hK, hcl, hfr, hlo, hmc, hms, hnw⟩ := C
    intro H locs ls hP hD hT hS hl
    exact lv_tableIn hx hb hdg h1 h2 ho ht (kt (by rw [← hf, if_pos rfl]) H locs ls hP hD hT hS hl)
  · exact kf h (by rw [← hf, if_neg h])
theorem J.tblOut (C : Cx X own cc n0 ret fr lo) {dflt lo' hi' : Int} {offs : Array Int} {len : Nat} {x : Int32} {tgt : Nat} (hdg : decode cc pc = .ok (.tableswitch dflt lo' hi' offs, len)) (h : x.toInt < lo' ∨ hi' < x.toInt) (ht : (pc : Int) + dflt = (tgt : Int)) (K : J X tgt loc rest σ) : J X pc loc (.int x :: rest) σ := by
  obtain ⟨p, l, e, R, s, m, args, below, meth, c, D, cI, ad, A0, ks, nL, mc, ms, Q⟩ := X
  obtain ⟨hx, hb, hml, hn0, hr, hown, hts, hlocks, hK, hcl, hfr, hlo, hmc, hms, hnw⟩ := C
  intro H locs ls hP hD hT hS hl
  exact lv_tableOut hx hb hdg h ht (K H locs ls hP hD hT hS hl)
theorem J.lookup (C : Cx X own cc n0 ret fr lo) {dflt : Int} {ps : Array (Int × Int)} {len : Nat} {x : Int32} {off : Int} {tgt : Nat} (hdg : decode cc pc = .ok (.lookupswitch dflt ps, len)) (hp : (ps.toList.zip (ps.toList.drop 1)).all (fun (a, next) => a.1 < next.1) = true) (ho : Op.lookupswitch.offset ps.toList dflt x.toInt = off) (ht : (pc : Int) + off = (tgt : Int)) (K : J X tgt loc rest σ) : J X pc loc (.int x :: rest) σ := by
  obtain ⟨p, l, e, R, s, m, args, below, meth, c, D, cI, ad, A0, ks, nL, mc, ms, Q⟩ := X
  obtain ⟨hx, hb, hml, hn0, hr, hown, hts, hlocks, hK, hcl, hfr, hlo, hmc, hms, hnw⟩ := C
  intro H locs ls hP hD hT hS hl
  exact lv_lookup hx hb hdg hp ho ht (K H locs ls hP hD hT hS hl)
theorem J.ifnonnull (C : Cx X own cc n0 ret fr lo) {x : Nat} {off : Int} {tgt : Nat} (hdg : decode cc pc = .ok (.ifnonnull off, 3)) (ht : (pc : Int) + off = (tgt : Int)) (K : J X tgt loc rest σ) : J X pc loc (.ref x :: rest) σ := by
  obtain ⟨p, l, e, R, s, m, args, below, meth, c, D, cI, ad, A0, ks, nL, mc, ms, Q⟩ := X
  obtain ⟨hx, hb, hml, hn0, hr, hown, hts, hlocks, hK, hcl, hfr, hlo, hmc, hms, hnw⟩ := C
  intro H locs ls hP hD hT hS hl
  exact lv_ifnonnull hx hb hdg ht (K H locs ls hP hD hT hS hl)

end JR
end
