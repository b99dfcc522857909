-- ===== PART A: goes FIRST, ahead of the names: the tables' words, and 'selects' of the private methods out of them =====
/-- a private method of a class that the tables say can be made, by its rows of tables_1 -/
def lw_okq (q : MethodName × Nat) : Prop := (q.1.cls ≠ "java/lang/invoke/MethodHandle" ∧ q.1.cls ≠ "java/lang/invoke/VarHandle") ∧ Cond.instantiable q.1.cls q.2 ∈ tables_1 ∧ Cond.privateMethod q.1 ∈ tables_1 ∧ Cond.instanceMethod q.1 ∈ tables_1
theorem lw_p0 : lw_okq (⟨"HourRingers$Rota", "clean", "()V"⟩, 4) := ⟨⟨by decide +kernel, by decide +kernel⟩, List.mem_of_getElem? (i := 114) (by decide +kernel), List.mem_of_getElem? (i := 120) (by decide +kernel), List.mem_of_getElem? (i := 121) (by decide +kernel)⟩
theorem lw_p1 : lw_okq (⟨"HourRingers$Script", "skipBlanks", "()V"⟩, 6) := ⟨⟨by decide +kernel, by decide +kernel⟩, List.mem_of_getElem? (i := 24) (by decide +kernel), List.mem_of_getElem? (i := 255) (by decide +kernel), List.mem_of_getElem? (i := 256) (by decide +kernel)⟩
theorem lw_p2 : lw_okq (⟨"HourRingers$Script", "readItem", "(LHourRingers$Parish;)V"⟩, 6) := ⟨⟨by decide +kernel, by decide +kernel⟩, List.mem_of_getElem? (i := 24) (by decide +kernel), List.mem_of_getElem? (i := 259) (by decide +kernel), List.mem_of_getElem? (i := 260) (by decide +kernel)⟩
theorem lw_p3 : lw_okq (⟨"HourRingers$Script", "kindOfWord", "()I"⟩, 6) := ⟨⟨by decide +kernel, by decide +kernel⟩, List.mem_of_getElem? (i := 24) (by decide +kernel), List.mem_of_getElem? (i := 263) (by decide +kernel), List.mem_of_getElem? (i := 264) (by decide +kernel)⟩
theorem lw_p4 : lw_okq (⟨"HourRingers$Script", "isWord", "(Ljava/lang/String;II)Z"⟩, 6) := ⟨⟨by decide +kernel, by decide +kernel⟩, List.mem_of_getElem? (i := 24) (by decide +kernel), List.mem_of_getElem? (i := 275) (by decide +kernel), List.mem_of_getElem? (i := 276) (by decide +kernel)⟩
theorem lw_p5 : lw_okq (⟨"HourRingers$Script", "mayStand", "(ILHourRingers$Parish;)Z"⟩, 6) := ⟨⟨by decide +kernel, by decide +kernel⟩, List.mem_of_getElem? (i := 24) (by decide +kernel), List.mem_of_getElem? (i := 327) (by decide +kernel), List.mem_of_getElem? (i := 328) (by decide +kernel)⟩
theorem lw_p6 : lw_okq (⟨"HourRingers$Script", "readNumbers", "(I)V"⟩, 6) := ⟨⟨by decide +kernel, by decide +kernel⟩, List.mem_of_getElem? (i := 24) (by decide +kernel), List.mem_of_getElem? (i := 331) (by decide +kernel), List.mem_of_getElem? (i := 332) (by decide +kernel)⟩
theorem lw_p7 : lw_okq (⟨"HourRingers$Script", "readNumber", "(III)V"⟩, 6) := ⟨⟨by decide +kernel, by decide +kernel⟩, List.mem_of_getElem? (i := 24) (by decide +kernel), List.mem_of_getElem? (i := 335) (by decide +kernel), List.mem_of_getElem? (i := 336) (by decide +kernel)⟩
theorem lw_p8 : lw_okq (⟨"HourRingers$Script", "endsTooEarly", "()Z"⟩, 6) := ⟨⟨by decide +kernel, by decide +kernel⟩, List.mem_of_getElem? (i := 24) (by decide +kernel), List.mem_of_getElem? (i := 339) (by decide +kernel), List.mem_of_getElem? (i := 340) (by decide +kernel)⟩
theorem lw_p9 : lw_okq (⟨"HourRingers$Script", "readEnd", "()V"⟩, 6) := ⟨⟨by decide +kernel, by decide +kernel⟩, List.mem_of_getElem? (i := 24) (by decide +kernel), List.mem_of_getElem? (i := 346) (by decide +kernel), List.mem_of_getElem? (i := 347) (by decide +kernel)⟩
theorem lw_p10 : lw_okq (⟨"HourRingers$Script", "tell", "(ILHourRingers$Parish;)V"⟩, 6) := ⟨⟨by decide +kernel, by decide +kernel⟩, List.mem_of_getElem? (i := 24) (by decide +kernel), List.mem_of_getElem? (i := 350) (by decide +kernel), List.mem_of_getElem? (i := 351) (by decide +kernel)⟩
theorem lw_p11 : lw_okq (⟨"HourRingers", "canTakeOver", "(II)Z"⟩, 8) := ⟨⟨by decide +kernel, by decide +kernel⟩, List.mem_of_getElem? (i := 16) (by decide +kernel), List.mem_of_getElem? (i := 464) (by decide +kernel), List.mem_of_getElem? (i := 465) (by decide +kernel)⟩
theorem lw_p12 : lw_okq (⟨"HourRingers$Nights", "priceHour", "(LHourRingers$Parish;II)V"⟩, 17) := ⟨⟨by decide +kernel, by decide +kernel⟩, List.mem_of_getElem? (i := 141) (by decide +kernel), List.mem_of_getElem? (i := 530) (by decide +kernel), List.mem_of_getElem? (i := 531) (by decide +kernel)⟩
theorem lw_p13 : lw_okq (⟨"HourRingers$Nights", "addInOrder", "(II)V"⟩, 17) := ⟨⟨by decide +kernel, by decide +kernel⟩, List.mem_of_getElem? (i := 141) (by decide +kernel), List.mem_of_getElem? (i := 548) (by decide +kernel), List.mem_of_getElem? (i := 549) (by decide +kernel)⟩
theorem lw_p14 : lw_okq (⟨"HourRingers$Nights", "findLeast", "(I)V"⟩, 17) := ⟨⟨by decide +kernel, by decide +kernel⟩, List.mem_of_getElem? (i := 141) (by decide +kernel), List.mem_of_getElem? (i := 552) (by decide +kernel), List.mem_of_getElem? (i := 553) (by decide +kernel)⟩
theorem lw_p15 : lw_okq (⟨"HourRingers$Nights", "everyone", "()I"⟩, 17) := ⟨⟨by decide +kernel, by decide +kernel⟩, List.mem_of_getElem? (i := 141) (by decide +kernel), List.mem_of_getElem? (i := 559) (by decide +kernel), List.mem_of_getElem? (i := 560) (by decide +kernel)⟩
def lw_privs_1 : List (MethodName × Nat) := [(⟨"HourRingers$Rota", "clean", "()V"⟩, 4), (⟨"HourRingers$Script", "skipBlanks", "()V"⟩, 6), (⟨"HourRingers$Script", "readItem", "(LHourRingers$Parish;)V"⟩, 6), (⟨"HourRingers$Script", "kindOfWord", "()I"⟩, 6), (⟨"HourRingers$Script", "isWord", "(Ljava/lang/String;II)Z"⟩, 6), (⟨"HourRingers$Script", "mayStand", "(ILHourRingers$Parish;)Z"⟩, 6), (⟨"HourRingers$Script", "readNumbers", "(I)V"⟩, 6), (⟨"HourRingers$Script", "readNumber", "(III)V"⟩, 6), (⟨"HourRingers$Script", "endsTooEarly", "()Z"⟩, 6), (⟨"HourRingers$Script", "readEnd", "()V"⟩, 6), (⟨"HourRingers$Script", "tell", "(ILHourRingers$Parish;)V"⟩, 6), (⟨"HourRingers", "canTakeOver", "(II)Z"⟩, 8), (⟨"HourRingers$Nights", "priceHour", "(LHourRingers$Parish;II)V"⟩, 17), (⟨"HourRingers$Nights", "addInOrder", "(II)V"⟩, 17), (⟨"HourRingers$Nights", "findLeast", "(I)V"⟩, 17), (⟨"HourRingers$Nights", "everyone", "()I"⟩, 17)]
theorem lw_r1 : ∀ q ∈ lw_privs_1, lw_okq q := List.forall_mem_cons.mpr ⟨lw_p0, List.forall_mem_cons.mpr ⟨lw_p1, List.forall_mem_cons.mpr ⟨lw_p2, List.forall_mem_cons.mpr ⟨lw_p3, List.forall_mem_cons.mpr ⟨lw_p4, List.forall_mem_cons.mpr ⟨lw_p5, List.forall_mem_cons.mpr ⟨lw_p6, List.forall_mem_cons.mpr ⟨lw_p7, List.forall_mem_cons.mpr ⟨lw_p8, List.forall_mem_cons.mpr ⟨lw_p9, List.forall_mem_cons.mpr ⟨lw_p10, List.forall_mem_cons.mpr ⟨lw_p11, List.forall_mem_cons.mpr ⟨lw_p12, List.forall_mem_cons.mpr ⟨lw_p13, List.forall_mem_cons.mpr ⟨lw_p14, List.forall_mem_cons.mpr ⟨lw_p15, fun _ h => absurd h List.not_mem_nil⟩⟩⟩⟩⟩⟩⟩⟩⟩⟩⟩⟩⟩⟩⟩⟩
theorem lw_p16 : lw_okq (⟨"HourRingers$Nights", "search", "(JIIJ)J"⟩, 17) := ⟨⟨by decide +kernel, by decide +kernel⟩, List.mem_of_getElem? (i := 141) (by decide +kernel), List.mem_of_getElem? (i := 563) (by decide +kernel), List.mem_of_getElem? (i := 564) (by decide +kernel)⟩
theorem lw_p17 : lw_okq (⟨"HourRingers$Nights", "leastAfter", "(I)J"⟩, 17) := ⟨⟨by decide +kernel, by decide +kernel⟩, List.mem_of_getElem? (i := 141) (by decide +kernel), List.mem_of_getElem? (i := 570) (by decide +kernel), List.mem_of_getElem? (i := 571) (by decide +kernel)⟩
theorem lw_p18 : lw_okq (⟨"HourRingers$Nights", "openIn", "(II)I"⟩, 17) := ⟨⟨by decide +kernel, by decide +kernel⟩, List.mem_of_getElem? (i := 141) (by decide +kernel), List.mem_of_getElem? (i := 574) (by decide +kernel), List.mem_of_getElem? (i := 575) (by decide +kernel)⟩
theorem lw_p19 : lw_okq (⟨"HourRingers$Nights", "areEnough", "(I)Z"⟩, 17) := ⟨⟨by decide +kernel, by decide +kernel⟩, List.mem_of_getElem? (i := 141) (by decide +kernel), List.mem_of_getElem? (i := 591) (by decide +kernel), List.mem_of_getElem? (i := 592) (by decide +kernel)⟩
theorem lw_p20 : lw_okq (⟨"HourRingers$Nights", "isEnough", "(II)Z"⟩, 17) := ⟨⟨by decide +kernel, by decide +kernel⟩, List.mem_of_getElem? (i := 141) (by decide +kernel), List.mem_of_getElem? (i := 595) (by decide +kernel), List.mem_of_getElem? (i := 596) (by decide +kernel)⟩
theorem lw_p21 : lw_okq (⟨"HourRingers$Nights", "ringsInFirst", "(I)Z"⟩, 17) := ⟨⟨by decide +kernel, by decide +kernel⟩, List.mem_of_getElem? (i := 141) (by decide +kernel), List.mem_of_getElem? (i := 621) (by decide +kernel), List.mem_of_getElem? (i := 622) (by decide +kernel)⟩
theorem lw_p22 : lw_okq (⟨"HourRingers", "markRinger", "(I)I"⟩, 8) := ⟨⟨by decide +kernel, by decide +kernel⟩, List.mem_of_getElem? (i := 16) (by decide +kernel), List.mem_of_getElem? (i := 676) (by decide +kernel), List.mem_of_getElem? (i := 677) (by decide +kernel)⟩
theorem lw_p23 : lw_okq (⟨"HourRingers", "markSexton", "(I)I"⟩, 8) := ⟨⟨by decide +kernel, by decide +kernel⟩, List.mem_of_getElem? (i := 16) (by decide +kernel), List.mem_of_getElem? (i := 680) (by decide +kernel), List.mem_of_getElem? (i := 681) (by decide +kernel)⟩
theorem lw_p24 : lw_okq (⟨"HourRingers", "markChild", "(I)I"⟩, 8) := ⟨⟨by decide +kernel, by decide +kernel⟩, List.mem_of_getElem? (i := 16) (by decide +kernel), List.mem_of_getElem? (i := 685) (by decide +kernel), List.mem_of_getElem? (i := 686) (by decide +kernel)⟩
theorem lw_p25 : lw_okq (⟨"HourRingers", "markWarden", "(I)I"⟩, 8) := ⟨⟨by decide +kernel, by decide +kernel⟩, List.mem_of_getElem? (i := 16) (by decide +kernel), List.mem_of_getElem? (i := 695) (by decide +kernel), List.mem_of_getElem? (i := 696) (by decide +kernel)⟩
theorem lw_p26 : lw_okq (⟨"HourRingers", "markNovice", "(I)I"⟩, 8) := ⟨⟨by decide +kernel, by decide +kernel⟩, List.mem_of_getElem? (i := 16) (by decide +kernel), List.mem_of_getElem? (i := 700) (by decide +kernel), List.mem_of_getElem? (i := 701) (by decide +kernel)⟩
theorem lw_p27 : lw_okq (⟨"HourRingers", "markStranger", "(I)I"⟩, 8) := ⟨⟨by decide +kernel, by decide +kernel⟩, List.mem_of_getElem? (i := 16) (by decide +kernel), List.mem_of_getElem? (i := 705) (by decide +kernel), List.mem_of_getElem? (i := 706) (by decide +kernel)⟩
theorem lw_p28 : lw_okq (⟨"HourRingersModel", "begin", "()V"⟩, 36) := ⟨⟨by decide +kernel, by decide +kernel⟩, List.mem_of_getElem? (i := 734) (by decide +kernel), List.mem_of_getElem? (i := 740) (by decide +kernel), List.mem_of_getElem? (i := 741) (by decide +kernel)⟩
theorem lw_p29 : lw_okq (⟨"HourRingersModel", "next", "()V"⟩, 36) := ⟨⟨by decide +kernel, by decide +kernel⟩, List.mem_of_getElem? (i := 734) (by decide +kernel), List.mem_of_getElem? (i := 869) (by decide +kernel), List.mem_of_getElem? (i := 870) (by decide +kernel)⟩
theorem lw_p30 : lw_okq (⟨"HourRingersModel", "here", "()I"⟩, 36) := ⟨⟨by decide +kernel, by decide +kernel⟩, List.mem_of_getElem? (i := 734) (by decide +kernel), List.mem_of_getElem? (i := 873) (by decide +kernel), List.mem_of_getElem? (i := 874) (by decide +kernel)⟩
theorem lw_p31 : lw_okq (⟨"HourRingersModel", "readItem", "()V"⟩, 36) := ⟨⟨by decide +kernel, by decide +kernel⟩, List.mem_of_getElem? (i := 734) (by decide +kernel), List.mem_of_getElem? (i := 880) (by decide +kernel), List.mem_of_getElem? (i := 881) (by decide +kernel)⟩
def lw_privs_2 : List (MethodName × Nat) := [(⟨"HourRingers$Nights", "search", "(JIIJ)J"⟩, 17), (⟨"HourRingers$Nights", "leastAfter", "(I)J"⟩, 17), (⟨"HourRingers$Nights", "openIn", "(II)I"⟩, 17), (⟨"HourRingers$Nights", "areEnough", "(I)Z"⟩, 17), (⟨"HourRingers$Nights", "isEnough", "(II)Z"⟩, 17), (⟨"HourRingers$Nights", "ringsInFirst", "(I)Z"⟩, 17), (⟨"HourRingers", "markRinger", "(I)I"⟩, 8), (⟨"HourRingers", "markSexton", "(I)I"⟩, 8), (⟨"HourRingers", "markChild", "(I)I"⟩, 8), (⟨"HourRingers", "markWarden", "(I)I"⟩, 8), (⟨"HourRingers", "markNovice", "(I)I"⟩, 8), (⟨"HourRingers", "markStranger", "(I)I"⟩, 8), (⟨"HourRingersModel", "begin", "()V"⟩, 36), (⟨"HourRingersModel", "next", "()V"⟩, 36), (⟨"HourRingersModel", "here", "()I"⟩, 36), (⟨"HourRingersModel", "readItem", "()V"⟩, 36)]
theorem lw_r2 : ∀ q ∈ lw_privs_2, lw_okq q := List.forall_mem_cons.mpr ⟨lw_p16, List.forall_mem_cons.mpr ⟨lw_p17, List.forall_mem_cons.mpr ⟨lw_p18, List.forall_mem_cons.mpr ⟨lw_p19, List.forall_mem_cons.mpr ⟨lw_p20, List.forall_mem_cons.mpr ⟨lw_p21, List.forall_mem_cons.mpr ⟨lw_p22, List.forall_mem_cons.mpr ⟨lw_p23, List.forall_mem_cons.mpr ⟨lw_p24, List.forall_mem_cons.mpr ⟨lw_p25, List.forall_mem_cons.mpr ⟨lw_p26, List.forall_mem_cons.mpr ⟨lw_p27, List.forall_mem_cons.mpr ⟨lw_p28, List.forall_mem_cons.mpr ⟨lw_p29, List.forall_mem_cons.mpr ⟨lw_p30, List.forall_mem_cons.mpr ⟨lw_p31, fun _ h => absurd h List.not_mem_nil⟩⟩⟩⟩⟩⟩⟩⟩⟩⟩⟩⟩⟩⟩⟩⟩
theorem lw_p32 : lw_okq (⟨"HourRingersModel", "due", "(Z)I"⟩, 36) := ⟨⟨by decide +kernel, by decide +kernel⟩, List.mem_of_getElem? (i := 734) (by decide +kernel), List.mem_of_getElem? (i := 884) (by decide +kernel), List.mem_of_getElem? (i := 885) (by decide +kernel)⟩
theorem lw_p33 : lw_okq (⟨"HourRingersModel", "number", "(II)I"⟩, 36) := ⟨⟨by decide +kernel, by decide +kernel⟩, List.mem_of_getElem? (i := 734) (by decide +kernel), List.mem_of_getElem? (i := 888) (by decide +kernel), List.mem_of_getElem? (i := 889) (by decide +kernel)⟩
theorem lw_p34 : lw_okq (⟨"HourRingersModel", "isRinger", "(I)Z"⟩, 36) := ⟨⟨by decide +kernel, by decide +kernel⟩, List.mem_of_getElem? (i := 734) (by decide +kernel), List.mem_of_getElem? (i := 896) (by decide +kernel), List.mem_of_getElem? (i := 897) (by decide +kernel)⟩
theorem lw_p35 : lw_okq (⟨"HourRingersModel", "timesOf", "(I)I"⟩, 36) := ⟨⟨by decide +kernel, by decide +kernel⟩, List.mem_of_getElem? (i := 734) (by decide +kernel), List.mem_of_getElem? (i := 900) (by decide +kernel), List.mem_of_getElem? (i := 901) (by decide +kernel)⟩
theorem lw_p36 : lw_okq (⟨"HourRingersModel", "bellOf", "(II)I"⟩, 36) := ⟨⟨by decide +kernel, by decide +kernel⟩, List.mem_of_getElem? (i := 734) (by decide +kernel), List.mem_of_getElem? (i := 904) (by decide +kernel), List.mem_of_getElem? (i := 905) (by decide +kernel)⟩
theorem lw_p37 : lw_okq (⟨"HourRingersModel", "isHour", "(I)Z"⟩, 36) := ⟨⟨by decide +kernel, by decide +kernel⟩, List.mem_of_getElem? (i := 734) (by decide +kernel), List.mem_of_getElem? (i := 912) (by decide +kernel), List.mem_of_getElem? (i := 913) (by decide +kernel)⟩
theorem lw_p38 : lw_okq (⟨"HourRingersModel", "inRota", "(I)I"⟩, 36) := ⟨⟨by decide +kernel, by decide +kernel⟩, List.mem_of_getElem? (i := 734) (by decide +kernel), List.mem_of_getElem? (i := 916) (by decide +kernel), List.mem_of_getElem? (i := 917) (by decide +kernel)⟩
theorem lw_p39 : lw_okq (⟨"HourRingersModel", "isWanted", "(II)Z"⟩, 36) := ⟨⟨by decide +kernel, by decide +kernel⟩, List.mem_of_getElem? (i := 734) (by decide +kernel), List.mem_of_getElem? (i := 924) (by decide +kernel), List.mem_of_getElem? (i := 925) (by decide +kernel)⟩
theorem lw_p40 : lw_okq (⟨"HourRingersModel", "isLawful", "(I)Z"⟩, 36) := ⟨⟨by decide +kernel, by decide +kernel⟩, List.mem_of_getElem? (i := 734) (by decide +kernel), List.mem_of_getElem? (i := 928) (by decide +kernel), List.mem_of_getElem? (i := 929) (by decide +kernel)⟩
theorem lw_p41 : lw_okq (⟨"HourRingersModel", "isBusy", "(II)Z"⟩, 36) := ⟨⟨by decide +kernel, by decide +kernel⟩, List.mem_of_getElem? (i := 734) (by decide +kernel), List.mem_of_getElem? (i := 932) (by decide +kernel), List.mem_of_getElem? (i := 933) (by decide +kernel)⟩
theorem lw_p42 : lw_okq (⟨"HourRingersModel", "allInRota", "()I"⟩, 36) := ⟨⟨by decide +kernel, by decide +kernel⟩, List.mem_of_getElem? (i := 734) (by decide +kernel), List.mem_of_getElem? (i := 936) (by decide +kernel), List.mem_of_getElem? (i := 937) (by decide +kernel)⟩
theorem lw_p43 : lw_okq (⟨"HourRingersModel", "change", "(II)V"⟩, 36) := ⟨⟨by decide +kernel, by decide +kernel⟩, List.mem_of_getElem? (i := 734) (by decide +kernel), List.mem_of_getElem? (i := 952) (by decide +kernel), List.mem_of_getElem? (i := 953) (by decide +kernel)⟩
theorem lw_p44 : lw_okq (⟨"HourRingersModel", "allWanted", "()I"⟩, 36) := ⟨⟨by decide +kernel, by decide +kernel⟩, List.mem_of_getElem? (i := 734) (by decide +kernel), List.mem_of_getElem? (i := 960) (by decide +kernel), List.mem_of_getElem? (i := 961) (by decide +kernel)⟩
theorem lw_p45 : lw_okq (⟨"HourRingersModel", "walkTo", "(I)I"⟩, 36) := ⟨⟨by decide +kernel, by decide +kernel⟩, List.mem_of_getElem? (i := 734) (by decide +kernel), List.mem_of_getElem? (i := 964) (by decide +kernel), List.mem_of_getElem? (i := 965) (by decide +kernel)⟩
theorem lw_p46 : lw_okq (⟨"HourRingersModel", "wayOf", "(II)I"⟩, 36) := ⟨⟨by decide +kernel, by decide +kernel⟩, List.mem_of_getElem? (i := 734) (by decide +kernel), List.mem_of_getElem? (i := 968) (by decide +kernel), List.mem_of_getElem? (i := 969) (by decide +kernel)⟩
theorem lw_p47 : lw_okq (⟨"HourRingersModel", "findCrews", "()V"⟩, 36) := ⟨⟨by decide +kernel, by decide +kernel⟩, List.mem_of_getElem? (i := 734) (by decide +kernel), List.mem_of_getElem? (i := 980) (by decide +kernel), List.mem_of_getElem? (i := 981) (by decide +kernel)⟩
def lw_privs_3 : List (MethodName × Nat) := [(⟨"HourRingersModel", "due", "(Z)I"⟩, 36), (⟨"HourRingersModel", "number", "(II)I"⟩, 36), (⟨"HourRingersModel", "isRinger", "(I)Z"⟩, 36), (⟨"HourRingersModel", "timesOf", "(I)I"⟩, 36), (⟨"HourRingersModel", "bellOf", "(II)I"⟩, 36), (⟨"HourRingersModel", "isHour", "(I)Z"⟩, 36), (⟨"HourRingersModel", "inRota", "(I)I"⟩, 36), (⟨"HourRingersModel", "isWanted", "(II)Z"⟩, 36), (⟨"HourRingersModel", "isLawful", "(I)Z"⟩, 36), (⟨"HourRingersModel", "isBusy", "(II)Z"⟩, 36), (⟨"HourRingersModel", "allInRota", "()I"⟩, 36), (⟨"HourRingersModel", "change", "(II)V"⟩, 36), (⟨"HourRingersModel", "allWanted", "()I"⟩, 36), (⟨"HourRingersModel", "walkTo", "(I)I"⟩, 36), (⟨"HourRingersModel", "wayOf", "(II)I"⟩, 36), (⟨"HourRingersModel", "findCrews", "()V"⟩, 36)]
theorem lw_r3 : ∀ q ∈ lw_privs_3, lw_okq q := List.forall_mem_cons.mpr ⟨lw_p32, List.forall_mem_cons.mpr ⟨lw_p33, List.forall_mem_cons.mpr ⟨lw_p34, List.forall_mem_cons.mpr ⟨lw_p35, List.forall_mem_cons.mpr ⟨lw_p36, List.forall_mem_cons.mpr ⟨lw_p37, List.forall_mem_cons.mpr ⟨lw_p38, List.forall_mem_cons.mpr ⟨lw_p39, List.forall_mem_cons.mpr ⟨lw_p40, List.forall_mem_cons.mpr ⟨lw_p41, List.forall_mem_cons.mpr ⟨lw_p42, List.forall_mem_cons.mpr ⟨lw_p43, List.forall_mem_cons.mpr ⟨lw_p44, List.forall_mem_cons.mpr ⟨lw_p45, List.forall_mem_cons.mpr ⟨lw_p46, List.forall_mem_cons.mpr ⟨lw_p47, fun _ h => absurd h List.not_mem_nil⟩⟩⟩⟩⟩⟩⟩⟩⟩⟩⟩⟩⟩⟩⟩⟩
theorem lw_p48 : lw_okq (⟨"HourRingersModel", "wayToRing", "(II)I"⟩, 36) := ⟨⟨by decide +kernel, by decide +kernel⟩, List.mem_of_getElem? (i := 734) (by decide +kernel), List.mem_of_getElem? (i := 987) (by decide +kernel), List.mem_of_getElem? (i := 988) (by decide +kernel)⟩
theorem lw_p49 : lw_okq (⟨"HourRingersModel", "findNight", "()V"⟩, 36) := ⟨⟨by decide +kernel, by decide +kernel⟩, List.mem_of_getElem? (i := 734) (by decide +kernel), List.mem_of_getElem? (i := 999) (by decide +kernel), List.mem_of_getElem? (i := 1000) (by decide +kernel)⟩
theorem lw_p50 : lw_okq (⟨"HourRingersModel", "mostBut", "(I)I"⟩, 36) := ⟨⟨by decide +kernel, by decide +kernel⟩, List.mem_of_getElem? (i := 734) (by decide +kernel), List.mem_of_getElem? (i := 1003) (by decide +kernel), List.mem_of_getElem? (i := 1004) (by decide +kernel)⟩
theorem lw_p51 : lw_okq (⟨"HourRingersModel", "goThrough", "(IZ)V"⟩, 36) := ⟨⟨by decide +kernel, by decide +kernel⟩, List.mem_of_getElem? (i := 734) (by decide +kernel), List.mem_of_getElem? (i := 1007) (by decide +kernel), List.mem_of_getElem? (i := 1008) (by decide +kernel)⟩
theorem lw_p52 : lw_okq (⟨"HourRingersModel", "wantedFrom", "(I)I"⟩, 36) := ⟨⟨by decide +kernel, by decide +kernel⟩, List.mem_of_getElem? (i := 734) (by decide +kernel), List.mem_of_getElem? (i := 1011) (by decide +kernel), List.mem_of_getElem? (i := 1012) (by decide +kernel)⟩
theorem lw_p53 : lw_okq (⟨"HourRingersModel", "mayFollow", "(III)Z"⟩, 36) := ⟨⟨by decide +kernel, by decide +kernel⟩, List.mem_of_getElem? (i := 734) (by decide +kernel), List.mem_of_getElem? (i := 1015) (by decide +kernel), List.mem_of_getElem? (i := 1016) (by decide +kernel)⟩
theorem lw_p54 : lw_okq (⟨"HourRingersModel", "follow", "(II)V"⟩, 36) := ⟨⟨by decide +kernel, by decide +kernel⟩, List.mem_of_getElem? (i := 734) (by decide +kernel), List.mem_of_getElem? (i := 1019) (by decide +kernel), List.mem_of_getElem? (i := 1020) (by decide +kernel)⟩
theorem lw_p55 : lw_okq (⟨"HourRingersModel", "weigh", "(Z)V"⟩, 36) := ⟨⟨by decide +kernel, by decide +kernel⟩, List.mem_of_getElem? (i := 734) (by decide +kernel), List.mem_of_getElem? (i := 1023) (by decide +kernel), List.mem_of_getElem? (i := 1024) (by decide +kernel)⟩
theorem lw_p56 : lw_okq (⟨"HourRingersModel", "isFirst", "([I)Z"⟩, 36) := ⟨⟨by decide +kernel, by decide +kernel⟩, List.mem_of_getElem? (i := 734) (by decide +kernel), List.mem_of_getElem? (i := 1027) (by decide +kernel), List.mem_of_getElem? (i := 1028) (by decide +kernel)⟩
theorem lw_p57 : lw_okq (⟨"HourRingersModel", "fits", "(I)Z"⟩, 36) := ⟨⟨by decide +kernel, by decide +kernel⟩, List.mem_of_getElem? (i := 734) (by decide +kernel), List.mem_of_getElem? (i := 1062) (by decide +kernel), List.mem_of_getElem? (i := 1063) (by decide +kernel)⟩
theorem lw_p58 : lw_okq (⟨"HourRingersModel", "copy", "(II)V"⟩, 36) := ⟨⟨by decide +kernel, by decide +kernel⟩, List.mem_of_getElem? (i := 734) (by decide +kernel), List.mem_of_getElem? (i := 1080) (by decide +kernel), List.mem_of_getElem? (i := 1081) (by decide +kernel)⟩
def lw_privs_4 : List (MethodName × Nat) := [(⟨"HourRingersModel", "wayToRing", "(II)I"⟩, 36), (⟨"HourRingersModel", "findNight", "()V"⟩, 36), (⟨"HourRingersModel", "mostBut", "(I)I"⟩, 36), (⟨"HourRingersModel", "goThrough", "(IZ)V"⟩, 36), (⟨"HourRingersModel", "wantedFrom", "(I)I"⟩, 36), (⟨"HourRingersModel", "mayFollow", "(III)Z"⟩, 36), (⟨"HourRingersModel", "follow", "(II)V"⟩, 36), (⟨"HourRingersModel", "weigh", "(Z)V"⟩, 36), (⟨"HourRingersModel", "isFirst", "([I)Z"⟩, 36), (⟨"HourRingersModel", "fits", "(I)Z"⟩, 36), (⟨"HourRingersModel", "copy", "(II)V"⟩, 36)]
theorem lw_r4 : ∀ q ∈ lw_privs_4, lw_okq q := List.forall_mem_cons.mpr ⟨lw_p48, List.forall_mem_cons.mpr ⟨lw_p49, List.forall_mem_cons.mpr ⟨lw_p50, List.forall_mem_cons.mpr ⟨lw_p51, List.forall_mem_cons.mpr ⟨lw_p52, List.forall_mem_cons.mpr ⟨lw_p53, List.forall_mem_cons.mpr ⟨lw_p54, List.forall_mem_cons.mpr ⟨lw_p55, List.forall_mem_cons.mpr ⟨lw_p56, List.forall_mem_cons.mpr ⟨lw_p57, List.forall_mem_cons.mpr ⟨lw_p58, fun _ h => absurd h List.not_mem_nil⟩⟩⟩⟩⟩⟩⟩⟩⟩⟩⟩
def lw_privs : List (MethodName × Nat) := lw_privs_1 ++ (lw_privs_2 ++ (lw_privs_3 ++ (lw_privs_4)))
def lw_tbl : List Cond := k2_sels lw_privs ++ tables_1
theorem lw_privs_ok : ∀ q ∈ lw_privs, lw_okq q := by
  show ∀ q ∈ lw_privs_1 ++ (lw_privs_2 ++ (lw_privs_3 ++ (lw_privs_4))), lw_okq q
  exact List.forall_mem_append.mpr ⟨lw_r1, List.forall_mem_append.mpr ⟨lw_r2, List.forall_mem_append.mpr ⟨lw_r3, lw_r4⟩⟩⟩
-- ===== end of PART A; then your names; then what follows =====
/-! ===== BEGIN words of one list among another's, by their places ===== -/
theorem goodIn_r {big : List Cond} (ws : List Cond) (ps : List Nat) (hp : ws = ps.filterMap (fun i => big[i]?)) (h : ws.all goodWord = true) : GoodIn big ws := by
  intro w hw
  have h1 := List.all_eq_true.mp h w hw
  rw [hp] at hw
  obtain ⟨i, -, hi⟩ := List.mem_filterMap.mp hw
  have hm : w ∈ big := by first | exact List.mem_of_getElem? hi | exact List.getElem?_mem hi
  exact ⟨hm, good_of_word h1⟩
theorem goodIn_app {big a b : List Cond} (ha : GoodIn big a) (hb : GoodIn big b) : GoodIn big (a ++ b) := fun w h => (List.mem_append.mp h).elim (ha w) (hb w)
theorem goodIn_ca {big a b : List Cond} {c : Cond} (ha : GoodIn big (c :: a)) (hb : GoodIn big b) : GoodIn big (c :: (a ++ b)) := fun w h => (List.mem_cons.mp h).elim (fun e => ha w (List.mem_cons.mpr (Or.inl e))) (fun h => (List.mem_append.mp h).elim (fun h => ha w (List.mem_cons.mpr (Or.inr h))) (hb w))
theorem goodIn_sub {big ws : List Cond} (hm : ∀ w ∈ ws, w ∈ big) (h : ws.all goodWord = true) : GoodIn big ws := fun w hw => ⟨hm w hw, good_of_word (List.all_eq_true.mp h w hw)⟩
/-! ===== END ===== -/

/-! ===== BEGIN printed: names, fields, word lists, decode rows ===== -/
def RX0 : String := "HourRingers$Crews"
def TX0 : u_T := fun k => match k with
  | _ => ("", "", "", false)
def tyX0 : Nat → FieldType := fun k => match k with
  | _ => .int
abbrev wsX00 : List Cond := u_ws RX0 TX0 0
theorem nmX0 : ∀ a, a < 0 → ∀ b, b < 0 → a ≠ b → (TX0 a).2.1 ≠ (TX0 b).2.1 := by decide +kernel
theorem tyX0_ok : ∀ k, k < 0 → parseFieldDescriptor (TX0 k).2.2.1 = some (tyX0 k) := by decide +kernel
abbrev cX0_most : ByteArray := prog_2_method_2_code
def yX0_most : MethodName := ⟨RX0, "most", "(LHourRingers$Parish;I)I"⟩
abbrev cX0_firstBar : ByteArray := prog_2_method_3_code
def yX0_firstBar : MethodName := ⟨RX0, "firstBar", "(LHourRingers$Parish;II)I"⟩
abbrev cX0_lostIn : ByteArray := prog_2_method_4_code
def yX0_lostIn : MethodName := ⟨RX0, "lostIn", "(LHourRingers$Parish;III)I"⟩
abbrev cX0_fullWeight : ByteArray := prog_2_method_5_code
def yX0_fullWeight : MethodName := ⟨RX0, "fullWeight", "(LHourRingers$Parish;I)I"⟩
def RX1 : String := "HourRingers$Nights"
def TX1 : u_T := fun k => match k with
  | 0 => ("HourRingers$Nights", "settled", "Z", false)
  | 1 => ("HourRingers$Nights", "ringers", "I", false)
  | 2 => ("HourRingers$Nights", "times", "I", false)
  | 3 => ("HourRingers$Nights", "rest", "I", false)
  | 4 => ("HourRingers$Nights", "cheapest", "J", false)
  | 5 => ("HourRingers$Nights", "fewest", "I", false)
  | 6 => ("HourRingers$Nights", "even", "I", false)
  | 7 => ("HourRingers$Nights", "missed", "I", false)
  | 8 => ("HourRingers$Nights", "sets", "[I", true)
  | 9 => ("HourRingers$Nights", "setsIn", "[I", true)
  | 10 => ("HourRingers$Nights", "price", "[J", true)
  | 11 => ("HourRingers$Nights", "leastWithin", "[J", true)
  | 12 => ("HourRingers$Nights", "among", "I", false)
  | 13 => ("HourRingers$Nights", "timesNow", "I", false)
  | 14 => ("HourRingers$Nights", "counted", "J", false)
  | 15 => ("HourRingers$Nights", "found", "J", false)
  | _ => ("HourRingers$Nights", "picked", "[I", true)
def tyX1 : Nat → FieldType := fun k => match k with
  | 0 => .boolean
  | 1 => .int
  | 2 => .int
  | 3 => .int
  | 4 => .long
  | 5 => .int
  | 6 => .int
  | 7 => .int
  | 8 => .array .int
  | 9 => .array .int
  | 10 => .array .long
  | 11 => .array .long
  | 12 => .int
  | 13 => .int
  | 14 => .long
  | 15 => .long
  | _ => .array .int
abbrev wsX10 : List Cond := u_ws RX1 TX1 17
theorem nmX1 : ∀ a, a < 17 → ∀ b, b < 17 → a ≠ b → (TX1 a).2.1 ≠ (TX1 b).2.1 := by decide +kernel
theorem tyX1_ok : ∀ k, k < 17 → parseFieldDescriptor (TX1 k).2.2.1 = some (tyX1 k) := by decide +kernel
abbrev cX1_init : ByteArray := prog_3_method_1_code
def yX1_init : MethodName := ⟨RX1, "<init>", "()V"⟩
abbrev cX1_forParish : ByteArray := prog_3_method_2_code
def yX1_forParish : MethodName := ⟨RX1, "forParish", "()V"⟩
abbrev cX1_forTower : ByteArray := prog_3_method_3_code
def yX1_forTower : MethodName := ⟨RX1, "forTower", "()V"⟩
abbrev cX1_settle : ByteArray := prog_3_method_4_code
def yX1_settle : MethodName := ⟨RX1, "settle", "(LHourRingers$Parish;I)V"⟩
abbrev cX1_everyone : ByteArray := prog_3_method_5_code
def yX1_everyone : MethodName := ⟨RX1, "everyone", "()I"⟩
abbrev cX1_fewestShort : ByteArray := prog_3_method_6_code
def yX1_fewestShort : MethodName := ⟨RX1, "fewestShort", "()I"⟩
abbrev cX1_leastWalk : ByteArray := prog_3_method_7_code
def yX1_leastWalk : MethodName := ⟨RX1, "leastWalk", "()I"⟩
abbrev cX1_firstBell : ByteArray := prog_3_method_8_code
def yX1_firstBell : MethodName := ⟨RX1, "firstBell", "(II)I"⟩
abbrev cX1_fewestRingers : ByteArray := prog_3_method_9_code
def yX1_fewestRingers : MethodName := ⟨RX1, "fewestRingers", "()I"⟩
abbrev cX1_areEnough : ByteArray := prog_3_method_10_code
def yX1_areEnough : MethodName := ⟨RX1, "areEnough", "(I)Z"⟩
abbrev cX1_mostEven : ByteArray := prog_3_method_11_code
def yX1_mostEven : MethodName := ⟨RX1, "mostEven", "()I"⟩
abbrev cX1_missedRingers : ByteArray := prog_3_method_12_code
def yX1_missedRingers : MethodName := ⟨RX1, "missedRingers", "()I"⟩
abbrev cX1_ringsInFirst : ByteArray := prog_3_method_13_code
def yX1_ringsInFirst : MethodName := ⟨RX1, "ringsInFirst", "(I)Z"⟩
abbrev cX1_isEnough : ByteArray := prog_3_method_14_code
def yX1_isEnough : MethodName := ⟨RX1, "isEnough", "(II)Z"⟩
abbrev cX1_shiftOf : ByteArray := prog_3_method_15_code
def yX1_shiftOf : MethodName := ⟨RX1, "shiftOf", "(II)I"⟩
abbrev cX1_priceHour : ByteArray := prog_3_method_16_code
def yX1_priceHour : MethodName := ⟨RX1, "priceHour", "(LHourRingers$Parish;II)V"⟩
abbrev cX1_addInOrder : ByteArray := prog_3_method_17_code
def yX1_addInOrder : MethodName := ⟨RX1, "addInOrder", "(II)V"⟩
abbrev cX1_walkOf : ByteArray := prog_3_method_18_code
def yX1_walkOf : MethodName := ⟨RX1, "walkOf", "(LHourRingers$Parish;II)I"⟩
abbrev cX1_seatsOf : ByteArray := prog_3_method_19_code
def yX1_seatsOf : MethodName := ⟨RX1, "seatsOf", "(LHourRingers$Parish;IIII)J"⟩
abbrev cX1_findLeast : ByteArray := prog_3_method_20_code
def yX1_findLeast : MethodName := ⟨RX1, "findLeast", "(I)V"⟩
abbrev cX1_search : ByteArray := prog_3_method_21_code
def yX1_search : MethodName := ⟨RX1, "search", "(JIIJ)J"⟩
abbrev cX1_seek : ByteArray := prog_3_method_22_code
def yX1_seek : MethodName := ⟨RX1, "seek", "(LHourRingers$Nights;IJ)V"⟩
abbrev cX1_leastAfter : ByteArray := prog_3_method_23_code
def yX1_leastAfter : MethodName := ⟨RX1, "leastAfter", "(I)J"⟩
abbrev cX1_openIn : ByteArray := prog_3_method_24_code
def yX1_openIn : MethodName := ⟨RX1, "openIn", "(II)I"⟩
def RX2 : String := "HourRingers$Parish"
def TX2 : u_T := fun k => match k with
  | 0 => ("HourRingers$Parish", "hours", "I", false)
  | 1 => ("HourRingers$Parish", "ringers", "I", false)
  | 2 => ("HourRingers$Parish", "tower", "I", false)
  | 3 => ("HourRingers$Parish", "times", "I", false)
  | 4 => ("HourRingers$Parish", "rest", "I", false)
  | 5 => ("HourRingers$Parish", "wants", "[I", true)
  | 6 => ("HourRingers$Parish", "homes", "[I", true)
  | 7 => ("HourRingers$Parish", "bells", "[I", true)
  | 8 => ("HourRingers$Parish", "busy", "[I", true)
  | _ => ("HourRingers$Parish", "ills", "[I", true)
def tyX2 : Nat → FieldType := fun k => match k with
  | 0 => .int
  | 1 => .int
  | 2 => .int
  | 3 => .int
  | 4 => .int
  | 5 => .array .int
  | 6 => .array .int
  | 7 => .array .int
  | 8 => .array .int
  | _ => .array .int
abbrev wsX20 : List Cond := u_ws RX2 TX2 10
theorem nmX2 : ∀ a, a < 10 → ∀ b, b < 10 → a ≠ b → (TX2 a).2.1 ≠ (TX2 b).2.1 := by decide +kernel
theorem tyX2_ok : ∀ k, k < 10 → parseFieldDescriptor (TX2 k).2.2.1 = some (tyX2 k) := by decide +kernel
abbrev cX2_init : ByteArray := prog_4_method_1_code
def yX2_init : MethodName := ⟨RX2, "<init>", "()V"⟩
abbrev cX2_empty : ByteArray := prog_4_method_2_code
def yX2_empty : MethodName := ⟨RX2, "empty", "()V"⟩
abbrev cX2_addHour : ByteArray := prog_4_method_3_code
def yX2_addHour : MethodName := ⟨RX2, "addHour", "(I)V"⟩
abbrev cX2_addRinger : ByteArray := prog_4_method_4_code
def yX2_addRinger : MethodName := ⟨RX2, "addRinger", "(IIII)V"⟩
abbrev cX2_hasHour : ByteArray := prog_4_method_5_code
def yX2_hasHour : MethodName := ⟨RX2, "hasHour", "(I)Z"⟩
abbrev cX2_hasRinger : ByteArray := prog_4_method_6_code
def yX2_hasRinger : MethodName := ⟨RX2, "hasRinger", "(I)Z"⟩
abbrev cX2_hasBell : ByteArray := prog_4_method_7_code
def yX2_hasBell : MethodName := ⟨RX2, "hasBell", "(II)Z"⟩
abbrev cX2_wantedInAll : ByteArray := prog_4_method_8_code
def yX2_wantedInAll : MethodName := ⟨RX2, "wantedInAll", "()I"⟩
abbrev cX2_bellsFor : ByteArray := prog_4_method_9_code
def yX2_bellsFor : MethodName := ⟨RX2, "bellsFor", "(II)I"⟩
abbrev cX2_canRing : ByteArray := prog_4_method_10_code
def yX2_canRing : MethodName := ⟨RX2, "canRing", "(III)Z"⟩
abbrev cX2_ableOf : ByteArray := prog_4_method_11_code
def yX2_ableOf : MethodName := ⟨RX2, "ableOf", "(III)I"⟩
abbrev cX2_busyHours : ByteArray := prog_4_method_12_code
def yX2_busyHours : MethodName := ⟨RX2, "busyHours", "(I)I"⟩
abbrev cX2_way : ByteArray := prog_4_method_13_code
def yX2_way : MethodName := ⟨RX2, "way", "(II)I"⟩
abbrev cX2_weightOf : ByteArray := prog_4_method_14_code
def yX2_weightOf : MethodName := ⟨RX2, "weightOf", "(I)I"⟩
abbrev cX2_weightInAll : ByteArray := prog_4_method_15_code
def yX2_weightInAll : MethodName := ⟨RX2, "weightInAll", "()I"⟩
def RX3 : String := "HourRingers$Rota"
def TX3 : u_T := fun k => match k with
  | 0 => ("HourRingers$Rota", "turns", "I", false)
  | 1 => ("HourRingers$Rota", "tower", "I", false)
  | 2 => ("HourRingers$Rota", "strokes", "[I", true)
  | _ => ("HourRingers$Rota", "bells", "[I", true)
def tyX3 : Nat → FieldType := fun k => match k with
  | 0 => .int
  | 1 => .int
  | 2 => .array .int
  | _ => .array .int
abbrev wsX30 : List Cond := u_ws RX3 TX3 4
theorem nmX3 : ∀ a, a < 4 → ∀ b, b < 4 → a ≠ b → (TX3 a).2.1 ≠ (TX3 b).2.1 := by decide +kernel
theorem tyX3_ok : ∀ k, k < 4 → parseFieldDescriptor (TX3 k).2.2.1 = some (tyX3 k) := by decide +kernel
abbrev cX3_init : ByteArray := prog_5_method_1_code
def yX3_init : MethodName := ⟨RX3, "<init>", "()V"⟩
abbrev cX3_empty : ByteArray := prog_5_method_2_code
def yX3_empty : MethodName := ⟨RX3, "empty", "(I)V"⟩
abbrev cX3_clean : ByteArray := prog_5_method_3_code
def yX3_clean : MethodName := ⟨RX3, "clean", "()V"⟩
abbrev cX3_copy : ByteArray := prog_5_method_4_code
def yX3_copy : MethodName := ⟨RX3, "copy", "(LHourRingers$Rota;)V"⟩
abbrev cX3_bellOf : ByteArray := prog_5_method_5_code
def yX3_bellOf : MethodName := ⟨RX3, "bellOf", "(II)I"⟩
abbrev cX3_isTurn : ByteArray := prog_5_method_6_code
def yX3_isTurn : MethodName := ⟨RX3, "isTurn", "(II)Z"⟩
abbrev cX3_hasTurn : ByteArray := prog_5_method_7_code
def yX3_hasTurn : MethodName := ⟨RX3, "hasTurn", "(II)Z"⟩
abbrev cX3_give : ByteArray := prog_5_method_8_code
def yX3_give : MethodName := ⟨RX3, "give", "(III)V"⟩
abbrev cX3_free : ByteArray := prog_5_method_9_code
def yX3_free : MethodName := ⟨RX3, "free", "(II)V"⟩
abbrev cX3_swap : ByteArray := prog_5_method_10_code
def yX3_swap : MethodName := ⟨RX3, "swap", "(II)V"⟩
abbrev cX3_ringerAt : ByteArray := prog_5_method_11_code
def yX3_ringerAt : MethodName := ⟨RX3, "ringerAt", "(II)I"⟩
abbrev cX3_timesOf : ByteArray := prog_5_method_12_code
def yX3_timesOf : MethodName := ⟨RX3, "timesOf", "(I)I"⟩
abbrev cX3_hasRoom : ByteArray := prog_5_method_13_code
def yX3_hasRoom : MethodName := ⟨RX3, "hasRoom", "(LHourRingers$Parish;III)Z"⟩
abbrev cX3_ringersIn : ByteArray := prog_5_method_14_code
def yX3_ringersIn : MethodName := ⟨RX3, "ringersIn", "(I)I"⟩
abbrev cX3_ringersAtAll : ByteArray := prog_5_method_15_code
def yX3_ringersAtAll : MethodName := ⟨RX3, "ringersAtAll", "()I"⟩
abbrev cX3_soundsWithout : ByteArray := prog_5_method_16_code
def yX3_soundsWithout : MethodName := ⟨RX3, "soundsWithout", "(I)Z"⟩
abbrev cX3_walk : ByteArray := prog_5_method_17_code
def yX3_walk : MethodName := ⟨RX3, "walk", "(LHourRingers$Parish;I)I"⟩
def RX4 : String := "HourRingers$Script"
def TX4 : u_T := fun k => match k with
  | 0 => ("HourRingers$Script", "length", "I", false)
  | 1 => ("HourRingers$Script", "text", "[B", true)
  | 2 => ("HourRingers$Script", "place", "I", false)
  | 3 => ("HourRingers$Script", "fault", "I", false)
  | 4 => ("HourRingers$Script", "numbers", "[I", true)
  | _ => ("HourRingers$Script", "toldOnce", "[Z", true)
def tyX4 : Nat → FieldType := fun k => match k with
  | 0 => .int
  | 1 => .array .byte
  | 2 => .int
  | 3 => .int
  | 4 => .array .int
  | _ => .array .boolean
abbrev wsX40 : List Cond := u_ws RX4 TX4 6
theorem nmX4 : ∀ a, a < 6 → ∀ b, b < 6 → a ≠ b → (TX4 a).2.1 ≠ (TX4 b).2.1 := by decide +kernel
theorem tyX4_ok : ∀ k, k < 6 → parseFieldDescriptor (TX4 k).2.2.1 = some (tyX4 k) := by decide +kernel
abbrev cX4_init : ByteArray := prog_6_method_1_code
def yX4_init : MethodName := ⟨RX4, "<init>", "()V"⟩
abbrev cX4_empty : ByteArray := prog_6_method_2_code
def yX4_empty : MethodName := ⟨RX4, "empty", "()V"⟩
abbrev cX4_add : ByteArray := prog_6_method_3_code
def yX4_add : MethodName := ⟨RX4, "add", "(B)V"⟩
abbrev cX4_read : ByteArray := prog_6_method_4_code
def yX4_read : MethodName := ⟨RX4, "read", "(LHourRingers$Parish;)I"⟩
abbrev cX4_readItem : ByteArray := prog_6_method_5_code
def yX4_readItem : MethodName := ⟨RX4, "readItem", "(LHourRingers$Parish;)V"⟩
abbrev cX4_kindOfWord : ByteArray := prog_6_method_6_code
def yX4_kindOfWord : MethodName := ⟨RX4, "kindOfWord", "()I"⟩
abbrev cX4_nameOf : ByteArray := prog_6_method_7_code
def yX4_nameOf : MethodName := ⟨RX4, "nameOf", "(I)Ljava/lang/String;"⟩
abbrev cX4_isWord : ByteArray := prog_6_method_8_code
def yX4_isWord : MethodName := ⟨RX4, "isWord", "(Ljava/lang/String;II)Z"⟩
abbrev cX4_mayStand : ByteArray := prog_6_method_9_code
def yX4_mayStand : MethodName := ⟨RX4, "mayStand", "(ILHourRingers$Parish;)Z"⟩
abbrev cX4_readNumbers : ByteArray := prog_6_method_10_code
def yX4_readNumbers : MethodName := ⟨RX4, "readNumbers", "(I)V"⟩
abbrev cX4_readNumber : ByteArray := prog_6_method_11_code
def yX4_readNumber : MethodName := ⟨RX4, "readNumber", "(III)V"⟩
abbrev cX4_readEnd : ByteArray := prog_6_method_12_code
def yX4_readEnd : MethodName := ⟨RX4, "readEnd", "()V"⟩
abbrev cX4_endsTooEarly : ByteArray := prog_6_method_13_code
def yX4_endsTooEarly : MethodName := ⟨RX4, "endsTooEarly", "()Z"⟩
abbrev cX4_skipBlanks : ByteArray := prog_6_method_14_code
def yX4_skipBlanks : MethodName := ⟨RX4, "skipBlanks", "()V"⟩
abbrev cX4_tell : ByteArray := prog_6_method_15_code
def yX4_tell : MethodName := ⟨RX4, "tell", "(ILHourRingers$Parish;)V"⟩
def RX5 : String := "HourRingers"
def TX5 : u_T := fun k => match k with
  | 0 => ("HourRingers", "script", "LHourRingers$Script;", true)
  | 1 => ("HourRingers", "told", "LHourRingers$Parish;", false)
  | 2 => ("HourRingers", "draft", "LHourRingers$Parish;", false)
  | 3 => ("HourRingers", "rota", "LHourRingers$Rota;", true)
  | 4 => ("HourRingers", "images", "[LHourRingers$Rota;", true)
  | 5 => ("HourRingers", "kept", "[Z", true)
  | 6 => ("HourRingers", "nights", "LHourRingers$Nights;", true)
  | _ => ("HourRingers", "traced", "J", false)
def tyX5 : Nat → FieldType := fun k => match k with
  | 0 => .object "HourRingers$Script"
  | 1 => .object "HourRingers$Parish"
  | 2 => .object "HourRingers$Parish"
  | 3 => .object "HourRingers$Rota"
  | 4 => .array (.object "HourRingers$Rota")
  | 5 => .array .boolean
  | 6 => .object "HourRingers$Nights"
  | _ => .long
abbrev wsX50 : List Cond := u_ws RX5 TX5 8
theorem nmX5 : ∀ a, a < 8 → ∀ b, b < 8 → a ≠ b → (TX5 a).2.1 ≠ (TX5 b).2.1 := by decide +kernel
theorem tyX5_ok : ∀ k, k < 8 → parseFieldDescriptor (TX5 k).2.2.1 = some (tyX5 k) := by decide +kernel
abbrev cX5_init : ByteArray := prog_1_method_1_code
def yX5_init : MethodName := ⟨RX5, "<init>", "()V"⟩
abbrev cX5_type : ByteArray := prog_1_method_2_code
def yX5_type : MethodName := ⟨RX5, "type", "(JI)I"⟩
abbrev cX5_clear : ByteArray := prog_1_method_3_code
def yX5_clear : MethodName := ⟨RX5, "clear", "()I"⟩
abbrev cX5_parish : ByteArray := prog_1_method_4_code
def yX5_parish : MethodName := ⟨RX5, "parish", "()I"⟩
abbrev cX5_ringer : ByteArray := prog_1_method_5_code
def yX5_ringer : MethodName := ⟨RX5, "ringer", "(II)I"⟩
abbrev cX5_hour : ByteArray := prog_1_method_6_code
def yX5_hour : MethodName := ⟨RX5, "hour", "(II)I"⟩
abbrev cX5_put : ByteArray := prog_1_method_7_code
def yX5_put : MethodName := ⟨RX5, "put", "(III)I"⟩
abbrev cX5_rings : ByteArray := prog_1_method_8_code
def yX5_rings : MethodName := ⟨RX5, "rings", "(II)I"⟩
abbrev cX5_take : ByteArray := prog_1_method_9_code
def yX5_take : MethodName := ⟨RX5, "take", "(II)I"⟩
abbrev cX5_exchange : ByteArray := prog_1_method_10_code
def yX5_exchange : MethodName := ⟨RX5, "exchange", "(II)I"⟩
abbrev cX5_canTakeOver : ByteArray := prog_1_method_11_code
def yX5_canTakeOver : MethodName := ⟨RX5, "canTakeOver", "(II)Z"⟩
abbrev cX5_now : ByteArray := prog_1_method_12_code
def yX5_now : MethodName := ⟨RX5, "now", "(I)I"⟩
abbrev cX5_moves : ByteArray := prog_1_method_13_code
def yX5_moves : MethodName := ⟨RX5, "moves", "(I)I"⟩
abbrev cX5_crew : ByteArray := prog_1_method_14_code
def yX5_crew : MethodName := ⟨RX5, "crew", "(I)I"⟩
abbrev cX5_bars : ByteArray := prog_1_method_15_code
def yX5_bars : MethodName := ⟨RX5, "bars", "(I)I"⟩
abbrev cX5_night : ByteArray := prog_1_method_16_code
def yX5_night : MethodName := ⟨RX5, "night", "(I)I"⟩
abbrev cX5_best : ByteArray := prog_1_method_17_code
def yX5_best : MethodName := ⟨RX5, "best", "(II)I"⟩
abbrev cX5_needed : ByteArray := prog_1_method_18_code
def yX5_needed : MethodName := ⟨RX5, "needed", "()I"⟩
abbrev cX5_odds : ByteArray := prog_1_method_19_code
def yX5_odds : MethodName := ⟨RX5, "odds", "(II)I"⟩
abbrev cX5_commonDivisor : ByteArray := prog_1_method_20_code
def yX5_commonDivisor : MethodName := ⟨RX5, "commonDivisor", "(II)I"⟩
abbrev cX5_stands : ByteArray := prog_1_method_21_code
def yX5_stands : MethodName := ⟨RX5, "stands", "(I)I"⟩
abbrev cX5_heard : ByteArray := prog_1_method_22_code
def yX5_heard : MethodName := ⟨RX5, "heard", "(II)I"⟩
abbrev cX5_forget : ByteArray := prog_1_method_23_code
def yX5_forget : MethodName := ⟨RX5, "forget", "()I"⟩
abbrev cX5_away : ByteArray := prog_1_method_24_code
def yX5_away : MethodName := ⟨RX5, "away", "(I)I"⟩
abbrev cX5_mark : ByteArray := prog_1_method_25_code
def yX5_mark : MethodName := ⟨RX5, "mark", "(II)I"⟩
abbrev cX5_markRinger : ByteArray := prog_1_method_26_code
def yX5_markRinger : MethodName := ⟨RX5, "markRinger", "(I)I"⟩
abbrev cX5_markSexton : ByteArray := prog_1_method_27_code
def yX5_markSexton : MethodName := ⟨RX5, "markSexton", "(I)I"⟩
abbrev cX5_markChild : ByteArray := prog_1_method_28_code
def yX5_markChild : MethodName := ⟨RX5, "markChild", "(I)I"⟩
abbrev cX5_markWarden : ByteArray := prog_1_method_29_code
def yX5_markWarden : MethodName := ⟨RX5, "markWarden", "(I)I"⟩
abbrev cX5_markNovice : ByteArray := prog_1_method_30_code
def yX5_markNovice : MethodName := ⟨RX5, "markNovice", "(I)I"⟩
abbrev cX5_markStranger : ByteArray := prog_1_method_31_code
def yX5_markStranger : MethodName := ⟨RX5, "markStranger", "(I)I"⟩
abbrev cX5_keep : ByteArray := prog_1_method_32_code
def yX5_keep : MethodName := ⟨RX5, "keep", "(I)I"⟩
abbrev cX5_back : ByteArray := prog_1_method_33_code
def yX5_back : MethodName := ⟨RX5, "back", "(I)I"⟩
abbrev cX5_count : ByteArray := prog_1_method_34_code
def yX5_count : MethodName := ⟨RX5, "count", "(I)I"⟩
abbrev cX5_trace : ByteArray := prog_1_method_35_code
def yX5_trace : MethodName := ⟨RX5, "trace", "()J"⟩
def RX6 : String := "HourRingersModel"
def TX6 : u_T := fun k => match k with
  | 0 => ("HourRingersModel", "trace", "J", false)
  | 1 => ("HourRingersModel", "text", "[B", true)
  | 2 => ("HourRingersModel", "typed", "I", false)
  | 3 => ("HourRingersModel", "hours", "[I", true)
  | 4 => ("HourRingersModel", "wants", "[I", true)
  | 5 => ("HourRingersModel", "ringers", "[I", true)
  | 6 => ("HourRingersModel", "home", "[I", true)
  | 7 => ("HourRingersModel", "bells", "[I", true)
  | 8 => ("HourRingersModel", "busy", "[I", true)
  | 9 => ("HourRingersModel", "ill", "[I", true)
  | 10 => ("HourRingersModel", "tower", "[I", true)
  | 11 => ("HourRingersModel", "times", "[I", true)
  | 12 => ("HourRingersModel", "rest", "[I", true)
  | 13 => ("HourRingersModel", "at", "I", false)
  | 14 => ("HourRingersModel", "start", "I", false)
  | 15 => ("HourRingersModel", "sort", "I", false)
  | 16 => ("HourRingersModel", "value", "I", false)
  | 17 => ("HourRingersModel", "fault", "I", false)
  | 18 => ("HourRingersModel", "told", "I", false)
  | 19 => ("HourRingersModel", "now", "[I", true)
  | 20 => ("HourRingersModel", "isKept", "[Z", true)
  | 21 => ("HourRingersModel", "crews", "[I", true)
  | 22 => ("HourRingersModel", "bellsOf", "[I", true)
  | 23 => ("HourRingersModel", "crewMany", "[I", true)
  | 24 => ("HourRingersModel", "pick", "[I", true)
  | 25 => ("HourRingersModel", "set", "[I", true)
  | 26 => ("HourRingersModel", "once", "[I", true)
  | 27 => ("HourRingersModel", "twice", "[I", true)
  | 28 => ("HourRingersModel", "thrice", "[I", true)
  | 29 => ("HourRingersModel", "rung", "[I", true)
  | 30 => ("HourRingersModel", "most", "I", false)
  | 31 => ("HourRingersModel", "walk", "I", false)
  | 32 => ("HourRingersModel", "few", "I", false)
  | 33 => ("HourRingersModel", "even", "I", false)
  | 34 => ("HourRingersModel", "bestRow", "[I", true)
  | _ => ("HourRingersModel", "row", "[I", true)
def tyX6 : Nat → FieldType := fun k => match k with
  | 0 => .long
  | 1 => .array .byte
  | 2 => .int
  | 3 => .array .int
  | 4 => .array .int
  | 5 => .array .int
  | 6 => .array .int
  | 7 => .array .int
  | 8 => .array .int
  | 9 => .array .int
  | 10 => .array .int
  | 11 => .array .int
  | 12 => .array .int
  | 13 => .int
  | 14 => .int
  | 15 => .int
  | 16 => .int
  | 17 => .int
  | 18 => .int
  | 19 => .array .int
  | 20 => .array .boolean
  | 21 => .array .int
  | 22 => .array .int
  | 23 => .array .int
  | 24 => .array .int
  | 25 => .array .int
  | 26 => .array .int
  | 27 => .array .int
  | 28 => .array .int
  | 29 => .array .int
  | 30 => .int
  | 31 => .int
  | 32 => .int
  | 33 => .int
  | 34 => .array .int
  | _ => .array .int
abbrev wsX60 : List Cond := u_ws RX6 TX6 36
theorem nmX6 : ∀ a, a < 36 → ∀ b, b < 36 → a ≠ b → (TX6 a).2.1 ≠ (TX6 b).2.1 := by decide +kernel
theorem tyX6_ok : ∀ k, k < 36 → parseFieldDescriptor (TX6 k).2.2.1 = some (tyX6 k) := by decide +kernel
abbrev cX6_init : ByteArray := prog_8_method_1_code
def yX6_init : MethodName := ⟨RX6, "<init>", "()V"⟩
abbrev cX6_in : ByteArray := prog_8_method_3_code
def yX6_in : MethodName := ⟨RX6, "in", "(III)Z"⟩
abbrev cX6_type : ByteArray := prog_8_method_4_code
def yX6_type : MethodName := ⟨RX6, "type", "(JI)I"⟩
abbrev cX6_clear : ByteArray := prog_8_method_5_code
def yX6_clear : MethodName := ⟨RX6, "clear", "()I"⟩
abbrev cX6_here : ByteArray := prog_8_method_6_code
def yX6_here : MethodName := ⟨RX6, "here", "()I"⟩
abbrev cX6_meaning : ByteArray := prog_8_method_7_code
def yX6_meaning : MethodName := ⟨RX6, "meaning", "(I)I"⟩
abbrev cX6_next : ByteArray := prog_8_method_8_code
def yX6_next : MethodName := ⟨RX6, "next", "()V"⟩
abbrev cX6_due : ByteArray := prog_8_method_9_code
def yX6_due : MethodName := ⟨RX6, "due", "(Z)I"⟩
abbrev cX6_number : ByteArray := prog_8_method_10_code
def yX6_number : MethodName := ⟨RX6, "number", "(II)I"⟩
abbrev cX6_readItem : ByteArray := prog_8_method_11_code
def yX6_readItem : MethodName := ⟨RX6, "readItem", "()V"⟩
abbrev cX6_parish : ByteArray := prog_8_method_12_code
def yX6_parish : MethodName := ⟨RX6, "parish", "()I"⟩
abbrev cX6_begin : ByteArray := prog_8_method_13_code
def yX6_begin : MethodName := ⟨RX6, "begin", "()V"⟩
abbrev cX6_isHour : ByteArray := prog_8_method_14_code
def yX6_isHour : MethodName := ⟨RX6, "isHour", "(I)Z"⟩
abbrev cX6_isRinger : ByteArray := prog_8_method_15_code
def yX6_isRinger : MethodName := ⟨RX6, "isRinger", "(I)Z"⟩
abbrev cX6_isWanted : ByteArray := prog_8_method_16_code
def yX6_isWanted : MethodName := ⟨RX6, "isWanted", "(II)Z"⟩
abbrev cX6_bellOf : ByteArray := prog_8_method_17_code
def yX6_bellOf : MethodName := ⟨RX6, "bellOf", "(II)I"⟩
abbrev cX6_timesOf : ByteArray := prog_8_method_18_code
def yX6_timesOf : MethodName := ⟨RX6, "timesOf", "(I)I"⟩
abbrev cX6_inRota : ByteArray := prog_8_method_19_code
def yX6_inRota : MethodName := ⟨RX6, "inRota", "(I)I"⟩
abbrev cX6_allInRota : ByteArray := prog_8_method_20_code
def yX6_allInRota : MethodName := ⟨RX6, "allInRota", "()I"⟩
abbrev cX6_wayOf : ByteArray := prog_8_method_21_code
def yX6_wayOf : MethodName := ⟨RX6, "wayOf", "(II)I"⟩
abbrev cX6_walkTo : ByteArray := prog_8_method_22_code
def yX6_walkTo : MethodName := ⟨RX6, "walkTo", "(I)I"⟩
abbrev cX6_ringer : ByteArray := prog_8_method_23_code
def yX6_ringer : MethodName := ⟨RX6, "ringer", "(II)I"⟩
abbrev cX6_hour : ByteArray := prog_8_method_24_code
def yX6_hour : MethodName := ⟨RX6, "hour", "(II)I"⟩
abbrev cX6_isBusy : ByteArray := prog_8_method_25_code
def yX6_isBusy : MethodName := ⟨RX6, "isBusy", "(II)Z"⟩
abbrev cX6_isLawful : ByteArray := prog_8_method_26_code
def yX6_isLawful : MethodName := ⟨RX6, "isLawful", "(I)Z"⟩
abbrev cX6_put : ByteArray := prog_8_method_27_code
def yX6_put : MethodName := ⟨RX6, "put", "(III)I"⟩
abbrev cX6_rings : ByteArray := prog_8_method_28_code
def yX6_rings : MethodName := ⟨RX6, "rings", "(II)I"⟩
abbrev cX6_take : ByteArray := prog_8_method_29_code
def yX6_take : MethodName := ⟨RX6, "take", "(II)I"⟩
abbrev cX6_change : ByteArray := prog_8_method_30_code
def yX6_change : MethodName := ⟨RX6, "change", "(II)V"⟩
abbrev cX6_exchange : ByteArray := prog_8_method_31_code
def yX6_exchange : MethodName := ⟨RX6, "exchange", "(II)I"⟩
abbrev cX6_allWanted : ByteArray := prog_8_method_32_code
def yX6_allWanted : MethodName := ⟨RX6, "allWanted", "()I"⟩
abbrev cX6_now : ByteArray := prog_8_method_33_code
def yX6_now : MethodName := ⟨RX6, "now", "(I)I"⟩
abbrev cX6_moves : ByteArray := prog_8_method_34_code
def yX6_moves : MethodName := ⟨RX6, "moves", "(I)I"⟩
abbrev cX6_bitsIn : ByteArray := prog_8_method_35_code
def yX6_bitsIn : MethodName := ⟨RX6, "bitsIn", "(I)I"⟩
abbrev cX6_wayToRing : ByteArray := prog_8_method_36_code
def yX6_wayToRing : MethodName := ⟨RX6, "wayToRing", "(II)I"⟩
abbrev cX6_findCrews : ByteArray := prog_8_method_37_code
def yX6_findCrews : MethodName := ⟨RX6, "findCrews", "()V"⟩
abbrev cX6_crew : ByteArray := prog_8_method_38_code
def yX6_crew : MethodName := ⟨RX6, "crew", "(I)I"⟩
abbrev cX6_bars : ByteArray := prog_8_method_39_code
def yX6_bars : MethodName := ⟨RX6, "bars", "(I)I"⟩
abbrev cX6_mayFollow : ByteArray := prog_8_method_40_code
def yX6_mayFollow : MethodName := ⟨RX6, "mayFollow", "(III)Z"⟩
abbrev cX6_follow : ByteArray := prog_8_method_41_code
def yX6_follow : MethodName := ⟨RX6, "follow", "(II)V"⟩
abbrev cX6_wantedFrom : ByteArray := prog_8_method_42_code
def yX6_wantedFrom : MethodName := ⟨RX6, "wantedFrom", "(I)I"⟩
abbrev cX6_isFirst : ByteArray := prog_8_method_43_code
def yX6_isFirst : MethodName := ⟨RX6, "isFirst", "([I)Z"⟩
abbrev cX6_weigh : ByteArray := prog_8_method_44_code
def yX6_weigh : MethodName := ⟨RX6, "weigh", "(Z)V"⟩
abbrev cX6_goThrough : ByteArray := prog_8_method_45_code
def yX6_goThrough : MethodName := ⟨RX6, "goThrough", "(IZ)V"⟩
abbrev cX6_mostBut : ByteArray := prog_8_method_46_code
def yX6_mostBut : MethodName := ⟨RX6, "mostBut", "(I)I"⟩
abbrev cX6_findNight : ByteArray := prog_8_method_47_code
def yX6_findNight : MethodName := ⟨RX6, "findNight", "()V"⟩
abbrev cX6_night : ByteArray := prog_8_method_48_code
def yX6_night : MethodName := ⟨RX6, "night", "(I)I"⟩
abbrev cX6_best : ByteArray := prog_8_method_49_code
def yX6_best : MethodName := ⟨RX6, "best", "(II)I"⟩
abbrev cX6_needed : ByteArray := prog_8_method_50_code
def yX6_needed : MethodName := ⟨RX6, "needed", "()I"⟩
abbrev cX6_common : ByteArray := prog_8_method_51_code
def yX6_common : MethodName := ⟨RX6, "common", "(II)I"⟩
abbrev cX6_odds : ByteArray := prog_8_method_52_code
def yX6_odds : MethodName := ⟨RX6, "odds", "(II)I"⟩
abbrev cX6_stands : ByteArray := prog_8_method_53_code
def yX6_stands : MethodName := ⟨RX6, "stands", "(I)I"⟩
abbrev cX6_heard : ByteArray := prog_8_method_54_code
def yX6_heard : MethodName := ⟨RX6, "heard", "(II)I"⟩
abbrev cX6_forget : ByteArray := prog_8_method_55_code
def yX6_forget : MethodName := ⟨RX6, "forget", "()I"⟩
abbrev cX6_fits : ByteArray := prog_8_method_56_code
def yX6_fits : MethodName := ⟨RX6, "fits", "(I)Z"⟩
abbrev cX6_away : ByteArray := prog_8_method_57_code
def yX6_away : MethodName := ⟨RX6, "away", "(I)I"⟩
abbrev cX6_mark : ByteArray := prog_8_method_58_code
def yX6_mark : MethodName := ⟨RX6, "mark", "(II)I"⟩
abbrev cX6_copy : ByteArray := prog_8_method_59_code
def yX6_copy : MethodName := ⟨RX6, "copy", "(II)V"⟩
abbrev cX6_keep : ByteArray := prog_8_method_60_code
def yX6_keep : MethodName := ⟨RX6, "keep", "(I)I"⟩
abbrev cX6_back : ByteArray := prog_8_method_61_code
def yX6_back : MethodName := ⟨RX6, "back", "(I)I"⟩
abbrev cX6_count : ByteArray := prog_8_method_62_code
def yX6_count : MethodName := ⟨RX6, "count", "(I)I"⟩
abbrev cX6_trace : ByteArray := prog_8_method_63_code
def yX6_trace : MethodName := ⟨RX6, "trace", "()J"⟩
def RJ6 : String := "java/lang/Integer"
def TJ6 : u_T := fun k => match k with
  | _ => ("", "", "", false)
def tyJ6 : Nat → FieldType := fun k => match k with
  | _ => .int
abbrev wsJ60 : List Cond := u_ws RJ6 TJ6 0
theorem nmJ6 : ∀ a, a < 0 → ∀ b, b < 0 → a ≠ b → (TJ6 a).2.1 ≠ (TJ6 b).2.1 := by decide +kernel
theorem tyJ6_ok : ∀ k, k < 0 → parseFieldDescriptor (TJ6 k).2.2.1 = some (tyJ6 k) := by decide +kernel
abbrev cJ6_bitCount_0f7a4 : ByteArray := prog_9_method_49_code
def yJ6_bitCount_0f7a4 : MethodName := ⟨RJ6, "bitCount", "(I)I"⟩
def RJ9 : String := "java/lang/Math"
def TJ9 : u_T := fun k => match k with
  | _ => ("", "", "", false)
def tyJ9 : Nat → FieldType := fun k => match k with
  | _ => .int
abbrev wsJ90 : List Cond := u_ws RJ9 TJ9 0
theorem nmJ9 : ∀ a, a < 0 → ∀ b, b < 0 → a ≠ b → (TJ9 a).2.1 ≠ (TJ9 b).2.1 := by decide +kernel
theorem tyJ9_ok : ∀ k, k < 0 → parseFieldDescriptor (TJ9 k).2.2.1 = some (tyJ9 k) := by decide +kernel
abbrev cJ9_abs_0f7a4 : ByteArray := prog_10_method_59_code
def yJ9_abs_0f7a4 : MethodName := ⟨RJ9, "abs", "(I)I"⟩
abbrev cJ9_max_7cf53 : ByteArray := prog_10_method_65_code
def yJ9_max_7cf53 : MethodName := ⟨RJ9, "max", "(II)I"⟩
abbrev cJ9_min_7cf53 : ByteArray := prog_10_method_69_code
def yJ9_min_7cf53 : MethodName := ⟨RJ9, "min", "(II)I"⟩
abbrev cJ9_min_f86c9 : ByteArray := prog_10_method_70_code
def yJ9_min_f86c9 : MethodName := ⟨RJ9, "min", "(JJ)J"⟩
def RJ0 : String := "java/lang/String"
def TJ0 : u_T := fun k => match k with
  | _ => ("", "", "", false)
def tyJ0 : Nat → FieldType := fun k => match k with
  | _ => .int
abbrev wsJ00 : List Cond := u_ws RJ0 TJ0 0
theorem nmJ0 : ∀ a, a < 0 → ∀ b, b < 0 → a ≠ b → (TJ0 a).2.1 ≠ (TJ0 b).2.1 := by decide +kernel
theorem tyJ0_ok : ∀ k, k < 0 → parseFieldDescriptor (TJ0 k).2.2.1 = some (tyJ0 k) := by decide +kernel
abbrev cJ0_length_8abf5 : ByteArray := prog_11_method_54_code
def yJ0_length_8abf5 : MethodName := ⟨RJ0, "length", "()I"⟩
abbrev cJ0_charAt_5068e : ByteArray := prog_11_method_56_code
def yJ0_charAt_5068e : MethodName := ⟨RJ0, "charAt", "(I)C"⟩
abbrev cJ0_coder_7d493 : ByteArray := prog_11_method_152_code
def yJ0_coder_7d493 : MethodName := ⟨RJ0, "coder", "()B"⟩
abbrev cJ0_isLatin1_aae02 : ByteArray := prog_11_method_154_code
def yJ0_isLatin1_aae02 : MethodName := ⟨RJ0, "isLatin1", "()Z"⟩
abbrev cJ0_checkIndex_df160 : ByteArray := prog_11_method_155_code
def yJ0_checkIndex_df160 : MethodName := ⟨RJ0, "checkIndex", "(II)V"⟩
def RJ1 : String := "java/lang/StringLatin1"
def TJ1 : u_T := fun k => match k with
  | _ => ("", "", "", false)
def tyJ1 : Nat → FieldType := fun k => match k with
  | _ => .int
abbrev wsJ10 : List Cond := u_ws RJ1 TJ1 0
theorem nmJ1 : ∀ a, a < 0 → ∀ b, b < 0 → a ≠ b → (TJ1 a).2.1 ≠ (TJ1 b).2.1 := by decide +kernel
theorem tyJ1_ok : ∀ k, k < 0 → parseFieldDescriptor (TJ1 k).2.2.1 = some (tyJ1 k) := by decide +kernel
abbrev cJ1_charAt_3b067 : ByteArray := prog_12_method_2_code
def yJ1_charAt_3b067 : MethodName := ⟨RJ1, "charAt", "([BI)C"⟩
def RJ2 : String := "java/lang/StringUTF16"
def TJ2 : u_T := fun k => match k with
  | _ => ("", "", "", false)
def tyJ2 : Nat → FieldType := fun k => match k with
  | _ => .int
abbrev wsJ20 : List Cond := u_ws RJ2 TJ2 0
theorem nmJ2 : ∀ a, a < 0 → ∀ b, b < 0 → a ≠ b → (TJ2 a).2.1 ≠ (TJ2 b).2.1 := by decide +kernel
theorem tyJ2_ok : ∀ k, k < 0 → parseFieldDescriptor (TJ2 k).2.2.1 = some (tyJ2 k) := by decide +kernel
abbrev cJ2_getChar_3b067 : ByteArray := prog_13_method_5_code
def yJ2_getChar_3b067 : MethodName := ⟨RJ2, "getChar", "([BI)C"⟩
abbrev cJ2_length_9d52b : ByteArray := prog_13_method_6_code
def yJ2_length_9d52b : MethodName := ⟨RJ2, "length", "([B)I"⟩
abbrev cJ2_charAt_3b067 : ByteArray := prog_13_method_83_code
def yJ2_charAt_3b067 : MethodName := ⟨RJ2, "charAt", "([BI)C"⟩
abbrev cJ2_checkIndex_2214a : ByteArray := prog_13_method_91_code
def yJ2_checkIndex_2214a : MethodName := ⟨RJ2, "checkIndex", "(I[B)V"⟩
def RJ10 : String := "java/lang/System"
def TJ10 : u_T := fun k => match k with
  | _ => ("", "", "", false)
def tyJ10 : Nat → FieldType := fun k => match k with
  | _ => .int
abbrev wsJ100 : List Cond := u_ws RJ10 TJ10 0
theorem nmJ10 : ∀ a, a < 0 → ∀ b, b < 0 → a ≠ b → (TJ10 a).2.1 ≠ (TJ10 b).2.1 := by decide +kernel
theorem tyJ10_ok : ∀ k, k < 0 → parseFieldDescriptor (TJ10 k).2.2.1 = some (tyJ10 k) := by decide +kernel
def RJ3 : String := "jdk/internal/util/Preconditions"
def TJ3 : u_T := fun k => match k with
  | _ => ("", "", "", false)
def tyJ3 : Nat → FieldType := fun k => match k with
  | _ => .int
abbrev wsJ30 : List Cond := u_ws RJ3 TJ3 0
theorem nmJ3 : ∀ a, a < 0 → ∀ b, b < 0 → a ≠ b → (TJ3 a).2.1 ≠ (TJ3 b).2.1 := by decide +kernel
theorem tyJ3_ok : ∀ k, k < 0 → parseFieldDescriptor (TJ3 k).2.2.1 = some (tyJ3 k) := by decide +kernel
abbrev cJ3_checkIndex_8e157 : ByteArray := prog_15_method_11_code
def yJ3_checkIndex_8e157 : MethodName := ⟨RJ3, "checkIndex", "(IILjava/util/function/BiFunction;)I"⟩
def RL : String := "HourRingersLaw"
abbrev vwCl : List vw_C := [(RX1, TX1, 17), (RX2, TX2, 10), (RX3, TX3, 4), (RX4, TX4, 6), (RX5, TX5, 8), (RX6, TX6, 36)]

