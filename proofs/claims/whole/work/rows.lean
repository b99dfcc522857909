section
-- ===== PART A: goes FIRST, ahead of the names: the tables' words, and 'selects' of the private methods out of them =====
/-- a private method of a class that the tables say can be made, by its rows of tables_1 -/
def lw_okq (q : MethodName × Nat) : Prop := (q.1.cls ≠ "java/lang/invoke/MethodHandle" ∧ q.1.cls ≠ "java/lang/invoke/VarHandle") ∧ Cond.instantiable q.1.cls q.2 ∈ tables_1 ∧ Cond.privateMethod q.1 ∈ tables_1 ∧ Cond.instanceMethod q.1 ∈ tables_1
theorem lw_p0 : lw_okq (⟨"HourRingers$Rota", "clean", "()V"⟩, 4) := ⟨⟨by decide +kernel, by decide +kernel⟩, List.mem_of_getElem? (i := 114) (by decide +kernel), List.mem_of_getElem? (i := 120) (by decide +kernel), List.mem_of_getElem? (i := 121) (by decide +kernel)⟩
theorem lw_p1 : lw_okq (⟨"HourRingers$Script", "skipBlanks", "()V"⟩, 6) := ⟨⟨by decide +kernel, by decide +kernel⟩, List.mem_of_getElem? (i := 24) (by decide +kernel), List.mem_of_getElem? (i := 255) (by decide +kernel), List.mem_of_getElem? (i := 256) (by decide +kernel)⟩
theorem lw_p2 : lw_okq (⟨"HourRingers$Script", "readItem", "(LHourRingers$Parish;)V"⟩, 6) := ⟨⟨by decide +kernel, by decide +kernel⟩, List.mem_of_getElem? (i := 24) (by decide +kernel), List.mem_of_getElem? (i := 259) (by decide +kernel), List.mem_of_getElem? (i := 260) (by decide +kernel)⟩
theorem lw_p3 : lw_okq (⟨"HourRingers$Script", "kindOfWord", "()I"⟩, 6) := ⟨⟨by decide +kernel, by decide +kernel⟩, List.mem_of_getElem? (i := 24) (by decide +kernel), List.mem_of_getElem? (i := 263) (by decide +kernel), List.mem_of_getElem? (i := 264) (by decide +kernel)⟩
theorem lw_p4 : lw_okq (⟨"HourRingers$Script", "isWord", "(Ljava/lang/String;II)Z"⟩, 6) := ⟨⟨by decide +kernel, by decide +kernel⟩, List.mem_of_getElem? (i := 24) (by decide +kernel), List.mem_of_getElem? (i := 275) (by decide +kernel), List.mem_of_getElem? (i := 276) (by decide +kernel)⟩
theorem lw_p5 : lw_okq (⟨"HourRingers$Script", "mayStand", "(ILHourRingers$Parish;)Z"⟩, 6) := ⟨⟨by decide +kernel, by decide +kernel⟩, List.mem_of_getElem? (i := 24) (by decide +kernel), List.mem_of_getElem? (i := 327) (by decide +kernel), List.mem_of_getElem? (i := 328) (by decide +kernel)⟩
theorem lw_p6 : lw_okq (⟨"HourRingers$Script", "readNumbers", "(I)V"⟩, 6) := ⟨⟨by decide +kernel, by decide +kernel⟩, List.mem_of_getElem? (i := 24) (by decide +kernel), List.mem_of_getElem? (i := 331) (by decide +kernel), List.mem_of_getElem? (i := 332) (by decide +kernel)⟩
theorem lw_p7 : lw_okq (⟨"HourRingers$Script", "readNumber", "(III)V"⟩, 6) := ⟨⟨by decide +kernel, by decide +kernel⟩, List.mem_of_getElem? (i := 24) (by decide +kernel), List.mem_of_getElem? (i := 335) (by decide +kernel), List.mem_of_getElem? (i := 336) (by decide +kernel)⟩
theorem lw_p8 : lw_okq (⟨"HourRingers$Script", "endsTooEarly", "()Z"⟩, 6) := ⟨⟨by decide +kernel, by decide +kernel⟩, List.mem_of_getElem? (i := 24) (by decide +kernel), List.mem_of_getElem? (i := 339) (by decide +kernel), List.mem_of_getElem? (i := 340) (by decide +kernel)⟩
theorem lw_p9 : lw_okq (⟨"HourRingers$Script", "readEnd", "()V"⟩, 6) := ⟨⟨by decide +kernel, by decide +kernel⟩, List.mem_of_getElem? (i := 24) (by decide +kernel), List.mem_of_getElem? (i := 346) (by decide +kernel), List.mem_of_getElem? (i := 347) (by decide +kernel)⟩
theorem lw_p10 : lw_okq (⟨"HourRingers$Script", "tell", "(ILHourRingers$Parish;)V"⟩, 6) := ⟨⟨by decide +kernel, by decide +kernel⟩, List.mem_of_getElem? (i := 24) (by decide +kernel), List.mem_of_getElem? (i := 350) (by decide +kernel), List.mem_of_getElem? (i := 351) (by decide +kernel)⟩
theorem lw_p11 : lw_okq (⟨"HourRingers", "canTakeOver", "(II)Z"⟩, 8) := ⟨⟨by decide +kernel, by decide +kernel⟩, List.mem_of_getElem? (i := 16) (by decide +kernel), List.mem_of_getElem? (i := 464) (by decide +kernel), List.mem_of_getElem? (i := 465) (by decide +kernel)⟩
theorem lw_p12 : lw_okq (⟨"HourRingers$Nights", "priceHour", "(LHourRingers$Parish;II)V"⟩, 17) := ⟨⟨by decide +kernel, by decide +kernel⟩, List.mem_of_getElem? (i := 141) (by decide +kernel), List.mem_of_getElem? (i := 530) (by decide +kernel), List.mem_of_getElem? (i := 531) (by decide +kernel)⟩
theorem lw_p13 : lw_okq (⟨"HourRingers$Nights", "addInOrder", "(II)V"⟩, 17) := ⟨⟨by decide +kernel, by decide +kernel⟩, List.mem_of_getElem? (i := 141) (by decide +kernel), List.mem_of_getElem? (i := 548) (by decide +kernel), List.mem_of_getElem? (i := 549) (by decide +kernel)⟩
theorem lw_p14 : lw_okq (⟨"HourRingers$Nights", "findLeast", "(I)V"⟩, 17) := ⟨⟨by decide +kernel, by decide +kernel⟩, List.mem_of_getElem? (i := 141) (by decide +kernel), List.mem_of_getElem? (i := 552) (by decide +kernel), List.mem_of_getElem? (i := 553) (by decide +kernel)⟩
theorem lw_p15 : lw_okq (⟨"HourRingers$Nights", "everyone", "()I"⟩, 17) := ⟨⟨by decide +kernel, by decide +kernel⟩, List.mem_of_getElem? (i := 141) (by decide +kernel), List.mem_of_getElem? (i := 559) (by decide +kernel), List.mem_of_getElem? (i := 560) (by decide +kernel)⟩
def lw_privs_1 : List (MethodName × Nat) := [(⟨"HourRingers$Rota", "clean", "()V"⟩, 4), (⟨"HourRingers$Script", "skipBlanks", "()V"⟩, 6), (⟨"HourRingers$Script", "readItem", "(LHourRingers$Parish;)V"⟩, 6), (⟨"HourRingers$Script", "kindOfWord", "()I"⟩, 6), (⟨"HourRingers$Script", "isWord", "(Ljava/lang/String;II)Z"⟩, 6), (⟨"HourRingers$Script", "mayStand", "(ILHourRingers$Parish;)Z"⟩, 6), (⟨"HourRingers$Script", "readNumbers", "(I)V"⟩, 6), (⟨"HourRingers$Script", "readNumber", "(III)V"⟩, 6), (⟨"HourRingers$Script", "endsTooEarly", "()Z"⟩, 6), (⟨"HourRingers$Script", "readEnd", "()V"⟩, 6), (⟨"HourRingers$Script", "tell", "(ILHourRingers$Parish;)V"⟩, 6), (⟨"HourRingers", "canTakeOver", "(II)Z"⟩, 8), (⟨"HourRingers$Nights", "priceHour", "(LHourRingers$Parish;II)V"⟩, 17), (⟨"HourRingers$Nights", "addInOrder", "(II)V"⟩, 17), (⟨"HourRingers$Nights", "findLeast", "(I)V"⟩, 17), (⟨"HourRingers$Nights", "everyone", "()I"⟩, 17)]
theorem lw_r1 : ∀ q ∈ lw_privs_1, lw_okq q := List.forall_mem_cons.mpr ⟨lw_p0, List.forall_mem_cons.mpr ⟨lw_p1, List.forall_mem_cons.mpr ⟨lw_p2, List.forall_mem_cons.mpr ⟨lw_p3, List.forall_mem_cons.mpr ⟨lw_p4, List.forall_mem_cons.mpr ⟨lw_p5, List.forall_mem_cons.mpr ⟨lw_p6, List.forall_mem_cons.mpr ⟨lw_p7, List.forall_mem_cons.mpr ⟨lw_p8, List.forall_mem_cons.mpr ⟨lw_p9, List.forall_mem_cons.mpr ⟨lw_p10, List.forall_mem_cons.mpr ⟨lw_p11, List.forall_mem_cons.mpr ⟨lw_p12, List.forall_mem_cons.mpr ⟨lw_p13, List.forall_mem_cons.mpr ⟨lw_p14, List.forall_mem_cons.mpr ⟨lw_p15, fun _ h => absurd h List.not_mem_nil⟩⟩⟩⟩⟩⟩⟩⟩⟩⟩⟩⟩⟩⟩⟩⟩
theorem lw_p16 : lw_okq (⟨"HourRingers$Nights", "search", "(JIIJ)J"⟩, 17) := ⟨⟨by decide +kernel, by decide +kernel⟩, List.mem_of_getElem? (i := 141) (by decide +kernel), List.mem_of_getElem? (i := 563) (by decide +kernel), List.mem_of_getElem? (i := 564) (by decide +kernel)⟩
theorem lw_p17 : lw_okq (⟨"HourRingers$Nights", "leastAfter", "(I)J"⟩, 17) := ⟨⟨by decide +kernel, by decide +kernel⟩, List.mem_of_getElem? (i := 141) (by decide +kernel), List.mem_of_getElem? (i := 570) (by decide +kernel), List.mem_of_getElem? (i := 571) (by decide +kernel)⟩
theorem lw_p18 : lw_okq (⟨"HourRingers$Nights", "openIn", "(II)I"⟩, 17) := ⟨⟨by decide +kernel, by decide +kernel⟩, List.mem_of_getElem? (i := 141) (by decide +kernel), List.mem_of_getElem? (i := 574) (by decide +kernel), List.mem_of_getElem? (i := 575) (by decide +kernel)⟩
theorem lw_p19 : lw_okq (⟨"HourRingers$Nights", "areEnough", "(I)Z"⟩, 17) := ⟨⟨by decide +kernel, by decide +kernel⟩, List.mem_of_getElem? (i := 141) (by decide +kernel), List.mem_of_getElem? (i := 591) (by decide +kernel), List.mem_of_getElem? (i := 592) (by decide +kernel)⟩
theorem lw_p20 : lw_okq (⟨"HourRingers$Nights", "isEnough", "(II)Z"⟩, 17) := ⟨⟨by decide +kernel, by decide +kernel⟩, List.mem_of_getElem? (i := 141) (by decide +kernel), List.mem_of_getElem? (i := 595) (by decide +kernel), List.mem_of_getElem? (i := 596) (by decide +kernel)⟩
theorem lw_p21 : lw_okq (⟨"HourRingers$Nights", "ringsInFirst", "(I)Z"⟩, 17) := ⟨⟨by decide +kernel, by decide +kernel⟩, List.mem_of_getElem? (i := 141) (by decide +kernel), List.mem_of_getElem? (i := 621) (by decide +kernel), List.mem_of_getElem? (i := 622) (by decide +kernel)⟩
theorem lw_p22 : lw_okq (⟨"HourRingers", "markRinger", "(I)I"⟩, 8) := ⟨⟨by decide +kernel, by decide +kernel⟩, List.mem_of_getElem? (i := 16) (by decide +kernel), List.mem_of_getElem? (i := 676) (by decide +kernel), List.mem_of_getElem? (i := 677) (by decide +kernel)⟩
theorem lw_p23 : lw_okq (⟨"HourRingers", "markSexton", "(I)I"⟩, 8) := ⟨⟨by decide +kernel, by decide +kernel⟩, List.mem_of_getElem? (i := 16) (by decide +kernel), List.mem_of_getElem? (i := 680) (by decide +kernel), List.mem_of_getElem? (i := 681) (by decide +kernel)⟩
theorem lw_p24 : lw_okq (⟨"HourRingers", "markChild", "(I)I"⟩, 8) := ⟨⟨by decide +kernel, by decide +kernel⟩, List.mem_of_getElem? (i := 16) (by decide +kernel), List.mem_of_getElem? (i := 685) (by decide +kernel), List.mem_of_getElem? (i := 686) (by decide +kernel)⟩
theorem lw_p25 : lw_okq (⟨"HourRingers", "markWarden", "(I)I"⟩, 8) := ⟨⟨by decide +kernel, by decide +kernel⟩, List.mem_of_getElem? (i := 16) (by decide +kernel), List.mem_of_getElem? (i := 695) (by decide +kernel), List.mem_of_getElem? (i := 696) (by decide +kernel)⟩
theorem lw_p26 : lw_okq (⟨"HourRingers", "markNovice", "(I)I"⟩, 8) := ⟨⟨by decide +kernel, by decide +kernel⟩, List.mem_of_getElem? (i := 16) (by decide +kernel), List.mem_of_getElem? (i := 700) (by decide +kernel), List.mem_of_getElem? (i := 701) (by decide +kernel)⟩
theorem lw_p27 : lw_okq (⟨"HourRingers", "markStranger", "(I)I"⟩, 8) := ⟨⟨by decide +kernel, by decide +kernel⟩, List.mem_of_getElem? (i := 16) (by decide +kernel), List.mem_of_getElem? (i := 705) (by decide +kernel), List.mem_of_getElem? (i := 706) (by decide +kernel)⟩
theorem lw_p28 : lw_okq (⟨"HourRingersModel", "begin", "()V"⟩, 36) := ⟨⟨by decide +kernel, by decide +kernel⟩, List.mem_of_getElem? (i := 734) (by decide +kernel), List.mem_of_getElem? (i := 740) (by decide +kernel), List.mem_of_getElem? (i := 741) (by decide +kernel)⟩
theorem lw_p29 : lw_okq (⟨"HourRingersModel", "next", "()V"⟩, 36) := ⟨⟨by decide +kernel, by decide +kernel⟩, List.mem_of_getElem? (i := 734) (by decide +kernel), List.mem_of_getElem? (i := 869) (by decide +kernel), List.mem_of_getElem? (i := 870) (by decide +kernel)⟩
theorem lw_p30 : lw_okq (⟨"HourRingersModel", "here", "()I"⟩, 36) := ⟨⟨by decide +kernel, by decide +kernel⟩, List.mem_of_getElem? (i := 734) (by decide +kernel), List.mem_of_getElem? (i := 873) (by decide +kernel), List.mem_of_getElem? (i := 874) (by decide +kernel)⟩
theorem lw_p31 : lw_okq (⟨"HourRingersModel", "readItem", "()V"⟩, 36) := ⟨⟨by decide +kernel, by decide +kernel⟩, List.mem_of_getElem? (i := 734) (by decide +kernel), List.mem_of_getElem? (i := 880) (by decide +kernel), List.mem_of_getElem? (i := 881) (by decide +kernel)⟩
def lw_privs_2 : List (MethodName × Nat) := [(⟨"HourRingers$Nights", "search", "(JIIJ)J"⟩, 17), (⟨"HourRingers$Nights", "leastAfter", "(I)J"⟩, 17), (⟨"HourRingers$Nights", "openIn", "(II)I"⟩, 17), (⟨"HourRingers$Nights", "areEnough", "(I)Z"⟩, 17), (⟨"HourRingers$Nights", "isEnough", "(II)Z"⟩, 17), (⟨"HourRingers$Nights", "ringsInFirst", "(I)Z"⟩, 17), (⟨"HourRingers", "markRinger", "(I)I"⟩, 8), (⟨"HourRingers", "markSexton", "(I)I"⟩, 8), (⟨"HourRingers", "markChild", "(I)I"⟩, 8), (⟨"HourRingers", "markWarden", "(I)I"⟩, 8), (⟨"HourRingers", "markNovice", "(I)I"⟩, 8), (⟨"HourRingers", "markStranger", "(I)I"⟩, 8), (⟨"HourRingersModel", "begin", "()V"⟩, 36), (⟨"HourRingersModel", "next", "()V"⟩, 36), (⟨"HourRingersModel", "here", "()I"⟩, 36), (⟨"HourRingersModel", "readItem", "()V"⟩, 36)]
theorem lw_r2 : ∀ q ∈ lw_privs_2, lw_okq q := List.forall_mem_cons.mpr ⟨lw_p16, List.forall_mem_cons.mpr ⟨lw_p17, List.forall_mem_cons.mpr ⟨lw_p18, List.forall_mem_cons.mpr ⟨lw_p19, List.forall_mem_cons.mpr ⟨lw_p20, List.forall_mem_cons.mpr ⟨lw_p21, List.forall_mem_cons.mpr ⟨lw_p22, List.forall_mem_cons.mpr ⟨lw_p23, List.forall_mem_cons.mpr ⟨lw_p24, List.forall_mem_cons.mpr ⟨lw_p25, List.forall_mem_cons.mpr ⟨lw_p26, List.forall_mem_cons.mpr ⟨lw_p27, List.forall_mem_cons.mpr ⟨lw_p28, List.forall_mem_cons.mpr ⟨lw_p29, List.forall_mem_cons.mpr ⟨lw_p30, List.forall_mem_cons.mpr ⟨lw_p31, fun _ h => absurd h List.not_mem_nil⟩⟩⟩⟩⟩⟩⟩⟩⟩⟩⟩⟩⟩⟩⟩⟩
theorem lw_p32 : lw_okq (⟨"HourRingersModel", "due", "(Z)I"⟩, 36) := ⟨⟨by decide +kernel, by decide +kernel⟩, List.mem_of_getElem? (i := 734) (by decide +kernel), List.mem_of_getElem? (i := 884) (by decide +kernel), List.mem_of_getElem? (i := 885) (by decide +kernel)⟩
theorem lw_p33 : lw_okq (⟨"HourRingersModel", "number", "(II)I"⟩, 36) := ⟨⟨by decide +kernel, by decide +kernel⟩, List.mem_of_getElem? (i := 734) (by decide +kernel), List.mem_of_getElem? (i := 888) (by decide +kernel), List.mem_of_getElem? (i := 889) (by decide +kernel)⟩
theorem lw_p34 : lw_okq (⟨"HourRingersModel", "isRinger", "(I)Z"⟩, 36) := ⟨⟨by decide +kernel, by decide +kernel⟩, List.mem_of_getElem? (i := 734) (by decide +kernel), List.mem_of_getElem? (i := 896) (by decide +kernel), List.mem_of_getElem? (i := 897) (by decide +kernel)⟩
theorem lw_p35 : lw_okq (⟨"HourRingersModel", "timesOf", "(I)I"⟩, 36) := ⟨⟨by decide +kernel, by decide +kernel⟩, List.mem_of_getElem? (i := 734) (by decide +kernel), List.mem_of_getElem? (i := 900) (by decide +kernel), List.mem_of_getElem? (i := 901) (by decide +kernel)⟩
theorem lw_p36 : lw_okq (⟨"HourRingersModel", "bellOf", "(II)I"⟩, 36) := ⟨⟨by decide +kernel, by decide +kernel⟩, List.mem_of_getElem? (i := 734) (by decide +kernel), List.mem_of_getElem? (i := 904) (by decide +kernel), List.mem_of_getElem? (i := 905) (by decide +kernel)⟩
theorem lw_p37 : lw_okq (⟨"HourRingersModel", "isHour", "(I)Z"⟩, 36) := ⟨⟨by decide +kernel, by decide +kernel⟩, List.mem_of_getElem? (i := 734) (by decide +kernel), List.mem_of_getElem? (i := 912) (by decide +kernel), List.mem_of_getElem? (i := 913) (by decide +kernel)⟩
theorem lw_p38 : lw_okq (⟨"HourRingersModel", "inRota", "(I)I"⟩, 36) := ⟨⟨by decide +kernel, by decide +kernel⟩, List.mem_of_getElem? (i := 734) (by decide +kernel), List.mem_of_getElem? (i := 916) (by decide +kernel), List.mem_of_getElem? (i := 917) (by decide +kernel)⟩
theorem lw_p39 : lw_okq (⟨"HourRingersModel", "isWanted", "(II)Z"⟩, 36) := ⟨⟨by decide +kernel, by decide +kernel⟩, List.mem_of_getElem? (i := 734) (by decide +kernel), List.mem_of_getElem? (i := 924) (by decide +kernel), List.mem_of_getElem? (i := 925) (by decide +kernel)⟩
theorem lw_p40 : lw_okq (⟨"HourRingersModel", "isLawful", "(I)Z"⟩, 36) := ⟨⟨by decide +kernel, by decide +kernel⟩, List.mem_of_getElem? (i := 734) (by decide +kernel), List.mem_of_getElem? (i := 928) (by decide +kernel), List.mem_of_getElem? (i := 929) (by decide +kernel)⟩
theorem lw_p41 : lw_okq (⟨"HourRingersModel", "isBusy", "(II)Z"⟩, 36) := ⟨⟨by decide +kernel, by decide +kernel⟩, List.mem_of_getElem? (i := 734) (by decide +kernel), List.mem_of_getElem? (i := 932) (by decide +kernel), List.mem_of_getElem? (i := 933) (by decide +kernel)⟩
theorem lw_p42 : lw_okq (⟨"HourRingersModel", "allInRota", "()I"⟩, 36) := ⟨⟨by decide +kernel, by decide +kernel⟩, List.mem_of_getElem? (i := 734) (by decide +kernel), List.mem_of_getElem? (i := 936) (by decide +kernel), List.mem_of_getElem? (i := 937) (by decide +kernel)⟩
theorem lw_p43 : lw_okq (⟨"HourRingersModel", "change", "(II)V"⟩, 36) := ⟨⟨by decide +kernel, by decide +kernel⟩, List.mem_of_getElem? (i := 734) (by decide +kernel), List.mem_of_getElem? (i := 952) (by decide +kernel), List.mem_of_getElem? (i := 953) (by decide +kernel)⟩
theorem lw_p44 : lw_okq (⟨"HourRingersModel", "allWanted", "()I"⟩, 36) := ⟨⟨by decide +kernel, by decide +kernel⟩, List.mem_of_getElem? (i := 734) (by decide +kernel), List.mem_of_getElem? (i := 960) (by decide +kernel), List.mem_of_getElem? (i := 961) (by decide +kernel)⟩
theorem lw_p45 : lw_okq (⟨"HourRingersModel", "walkTo", "(I)I"⟩, 36) := ⟨⟨by decide +kernel, by decide +kernel⟩, List.mem_of_getElem? (i := 734) (by decide +kernel), List.mem_of_getElem? (i := 964) (by decide +kernel), List.mem_of_getElem? (i := 965) (by decide +kernel)⟩
theorem lw_p46 : lw_okq (⟨"HourRingersModel", "wayOf", "(II)I"⟩, 36) := ⟨⟨by decide +kernel, by decide +kernel⟩, List.mem_of_getElem? (i := 734) (by decide +kernel), List.mem_of_getElem? (i := 968) (by decide +kernel), List.mem_of_getElem? (i := 969) (by decide +kernel)⟩
theorem lw_p47 : lw_okq (⟨"HourRingersModel", "findCrews", "()V"⟩, 36) := ⟨⟨by decide +kernel, by decide +kernel⟩, List.mem_of_getElem? (i := 734) (by decide +kernel), List.mem_of_getElem? (i := 980) (by decide +kernel), List.mem_of_getElem? (i := 981) (by decide +kernel)⟩
def lw_privs_3 : List (MethodName × Nat) := [(⟨"HourRingersModel", "due", "(Z)I"⟩, 36), (⟨"HourRingersModel", "number", "(II)I"⟩, 36), (⟨"HourRingersModel", "isRinger", "(I)Z"⟩, 36), (⟨"HourRingersModel", "timesOf", "(I)I"⟩, 36), (⟨"HourRingersModel", "bellOf", "(II)I"⟩, 36), (⟨"HourRingersModel", "isHour", "(I)Z"⟩, 36), (⟨"HourRingersModel", "inRota", "(I)I"⟩, 36), (⟨"HourRingersModel", "isWanted", "(II)Z"⟩, 36), (⟨"HourRingersModel", "isLawful", "(I)Z"⟩, 36), (⟨"HourRingersModel", "isBusy", "(II)Z"⟩, 36), (⟨"HourRingersModel", "allInRota", "()I"⟩, 36), (⟨"HourRingersModel", "change", "(II)V"⟩, 36), (⟨"HourRingersModel", "allWanted", "()I"⟩, 36), (⟨"HourRingersModel", "walkTo", "(I)I"⟩, 36), (⟨"HourRingersModel", "wayOf", "(II)I"⟩, 36), (⟨"HourRingersModel", "findCrews", "()V"⟩, 36)]
theorem lw_r3 : ∀ q ∈ lw_privs_3, lw_okq q := List.forall_mem_cons.mpr ⟨lw_p32, List.forall_mem_cons.mpr ⟨lw_p33, List.forall_mem_cons.mpr ⟨lw_p34, List.forall_mem_cons.mpr ⟨lw_p35, List.forall_mem_cons.mpr ⟨lw_p36, List.forall_mem_cons.mpr ⟨lw_p37, List.forall_mem_cons.mpr ⟨lw_p38, List.forall_mem_cons.mpr ⟨lw_p39, List.forall_mem_cons.mpr ⟨lw_p40, List.forall_mem_cons.mpr ⟨lw_p41, List.forall_mem_cons.mpr ⟨lw_p42, List.forall_mem_cons.mpr ⟨lw_p43, List.forall_mem_cons.mpr ⟨lw_p44, List.forall_mem_cons.mpr ⟨lw_p45, List.forall_mem_cons.mpr ⟨lw_p46, List.forall_mem_cons.mpr ⟨lw_p47, fun _ h => absurd h List.not_mem_nil⟩⟩⟩⟩⟩⟩⟩⟩⟩⟩⟩⟩⟩⟩⟩⟩
theorem lw_p48 : lw_okq (⟨"HourRingersModel", "wayToRing", "(II)I"⟩, 36) := ⟨⟨by decide +kernel, by decide +kernel⟩, List.mem_of_getElem? (i := 734) (by decide +kernel), List.mem_of_getElem? (i := 987) (by decide +kernel), List.mem_of_getElem? (i := 988) (by decide +kernel)⟩
theorem lw_p49 : lw_okq (⟨"HourRingersModel", "findNight", "()V"⟩, 36) := ⟨⟨by decide +kernel, by decide +kernel⟩, List.mem_of_getElem? (i := 734) (by decide +kernel), List.mem_of_getElem? (i := 999) (by decide +kernel), List.mem_of_getElem? (i := 1000) (by decide +kernel)⟩
theorem lw_p50 : lw_okq (⟨"HourRingersModel", "mostBut", "(I)I"⟩, 36) := ⟨⟨by decide +kernel, by decide +kernel⟩, List.mem_of_getElem? (i := 734) (by decide +kernel), List.mem_of_getElem? (i := 1003) (by decide +kernel), List.mem_of_getElem? (i := 1004) (by decide +kernel)⟩
theorem lw_p51 : lw_okq (⟨"HourRingersModel", "goThrough", "(IZ)V"⟩, 36) := ⟨⟨by decide +kernel, by decide +kernel⟩, List.mem_of_getElem? (i := 734) (by decide +kernel), List.mem_of_getElem? (i := 1007) (by decide +kernel), List.mem_of_getElem? (i := 1008) (by decide +kernel)⟩
theorem lw_p52 : lw_okq (⟨"HourRingersModel", "wantedFrom", "(I)I"⟩, 36) := ⟨⟨by decide +kernel, by decide +kernel⟩, List.mem_of_getElem? (i := 734) (by decide +kernel), List.mem_of_getElem? (i := 1011) (by decide +kernel), List.mem_of_getElem? (i := 1012) (by decide +kernel)⟩
theorem lw_p53 : lw_okq (⟨"HourRingersModel", "mayFollow", "(III)Z"⟩, 36) := ⟨⟨by decide +kernel, by decide +kernel⟩, List.mem_of_getElem? (i := 734) (by decide +kernel), List.mem_of_getElem? (i := 1015) (by decide +kernel), List.mem_of_getElem? (i := 1016) (by decide +kernel)⟩
theorem lw_p54 : lw_okq (⟨"HourRingersModel", "follow", "(II)V"⟩, 36) := ⟨⟨by decide +kernel, by decide +kernel⟩, List.mem_of_getElem? (i := 734) (by decide +kernel), List.mem_of_getElem? (i := 1019) (by decide +kernel), List.mem_of_getElem? (i := 1020) (by decide +kernel)⟩
theorem lw_p55 : lw_okq (⟨"HourRingersModel", "weigh", "(Z)V"⟩, 36) := ⟨⟨by decide +kernel, by decide +kernel⟩, List.mem_of_getElem? (i := 734) (by decide +kernel), List.mem_of_getElem? (i := 1023) (by decide +kernel), List.mem_of_getElem? (i := 1024) (by decide +kernel)⟩
theorem lw_p56 : lw_okq (⟨"HourRingersModel", "isFirst", "([I)Z"⟩, 36) := ⟨⟨by decide +kernel, by decide +kernel⟩, List.mem_of_getElem? (i := 734) (by decide +kernel), List.mem_of_getElem? (i := 1027) (by decide +kernel), List.mem_of_getElem? (i := 1028) (by decide +kernel)⟩
theorem lw_p57 : lw_okq (⟨"HourRingersModel", "fits", "(I)Z"⟩, 36) := ⟨⟨by decide +kernel, by decide +kernel⟩, List.mem_of_getElem? (i := 734) (by decide +kernel), List.mem_of_getElem? (i := 1062) (by decide +kernel), List.mem_of_getElem? (i := 1063) (by decide +kernel)⟩
theorem lw_p58 : lw_okq (⟨"HourRingersModel", "copy", "(II)V"⟩, 36) := ⟨⟨by decide +kernel, by decide +kernel⟩, List.mem_of_getElem? (i := 734) (by decide +kernel), List.mem_of_getElem? (i := 1080) (by decide +kernel), List.mem_of_getElem? (i := 1081) (by decide +kernel)⟩
def lw_privs_4 : List (MethodName × Nat) := [(⟨"HourRingersModel", "wayToRing", "(II)I"⟩, 36), (⟨"HourRingersModel", "findNight", "()V"⟩, 36), (⟨"HourRingersModel", "mostBut", "(I)I"⟩, 36), (⟨"HourRingersModel", "goThrough", "(IZ)V"⟩, 36), (⟨"HourRingersModel", "wantedFrom", "(I)I"⟩, 36), (⟨"HourRingersModel", "mayFollow", "(III)Z"⟩, 36), (⟨"HourRingersModel", "follow", "(II)V"⟩, 36), (⟨"HourRingersModel", "weigh", "(Z)V"⟩, 36), (⟨"HourRingersModel", "isFirst", "([I)Z"⟩, 36), (⟨"HourRingersModel", "fits", "(I)Z"⟩, 36), (⟨"HourRingersModel", "copy", "(II)V"⟩, 36)]
theorem lw_r4 : ∀ q ∈ lw_privs_4, lw_okq q := List.forall_mem_cons.mpr ⟨lw_p48, List.forall_mem_cons.mpr ⟨lw_p49, List.forall_mem_cons.mpr ⟨lw_p50, List.forall_mem_cons.mpr ⟨lw_p51, List.forall_mem_cons.mpr ⟨lw_p52, List.forall_mem_cons.mpr ⟨lw_p53, List.forall_mem_cons.mpr ⟨lw_p54, List.forall_mem_cons.mpr ⟨lw_p55, List.forall_mem_cons.mpr ⟨lw_p56, List.forall_mem_cons.mpr ⟨lw_p57, List.forall_mem_cons.mpr ⟨lw_p58, fun _ h => absurd h List.not_mem_nil⟩⟩⟩⟩⟩⟩⟩⟩⟩⟩⟩
def lw_privs : List (MethodName × Nat) := lw_privs_1 ++ (lw_privs_2 ++ (lw_privs_3 ++ (lw_privs_4)))
def lw_tbl : List Cond := k2_sels lw_privs ++ tables_1
theorem lw_privs_ok : ∀ q ∈ lw_privs, lw_okq q := by
  show ∀ q ∈ lw_privs_1 ++ (lw_privs_2 ++ (lw_privs_3 ++ (lw_privs_4))), lw_okq q
  exact List.forall_mem_append.mpr ⟨lw_r1, List.forall_mem_append.mpr ⟨lw_r2, List.forall_mem_append.mpr ⟨lw_r3, lw_r4⟩⟩⟩
-- ===== end of PART A; then your names; then what follows =====
/-! ===== BEGIN words of one list among another's, by their places ===== -/
theorem goodIn_r {big : List Cond} (ws : List Cond) (ps : List Nat) (hp : ws = ps.filterMap (fun i => big[i]?)) (h : ws.all goodWord = true) : GoodIn big ws := by
  intro w hw
  have h1 := List.all_eq_true.mp h w hw
  rw [hp] at hw
  obtain ⟨i, -, hi⟩ := List.mem_filterMap.mp hw
  have hm : w ∈ big := by first | exact List.mem_of_getElem? hi | exact List.getElem?_mem hi
  exact ⟨hm, good_of_word h1⟩
theorem goodIn_app {big a b : List Cond} (ha : GoodIn big a) (hb : GoodIn big b) : GoodIn big (a ++ b) := fun w h => (List.mem_append.mp h).elim (ha w) (hb w)
theorem goodIn_ca {big a b : List Cond} {c : Cond} (ha : GoodIn big (c :: a)) (hb : GoodIn big b) : GoodIn big (c :: (a ++ b)) := fun w h => (List.mem_cons.mp h).elim (fun e => ha w (List.mem_cons.mpr (Or.inl e))) (fun h => (List.mem_append.mp h).elim (fun h => ha w (List.mem_cons.mpr (Or.inr h))) (hb w))
theorem goodIn_sub {big ws : List Cond} (hm : ∀ w ∈ ws, w ∈ big) (h : ws.all goodWord = true) : GoodIn big ws := fun w hw => ⟨hm w hw, good_of_word (List.all_eq_true.mp h w hw)⟩
/-! ===== END ===== -/

/-! ===== BEGIN printed: names, fields, word lists, decode rows ===== -/
def RX0 : String := "HourRingers$Crews"
def TX0 : u_T := fun k => match k with
  | _ => ("", "", "", false)
def tyX0 : Nat → FieldType := fun k => match k with
  | _ => .int
abbrev wsX00 : List Cond := u_ws RX0 TX0 0
theorem nmX0 : ∀ a, a < 0 → ∀ b, b < 0 → a ≠ b → (TX0 a).2.1 ≠ (TX0 b).2.1 := by decide +kernel
theorem tyX0_ok : ∀ k, k < 0 → parseFieldDescriptor (TX0 k).2.2.1 = some (tyX0 k) := by decide +kernel
abbrev cX0_most : ByteArray := prog_2_method_2_code
def yX0_most : MethodName := ⟨RX0, "most", "(LHourRingers$Parish;I)I"⟩
abbrev cX0_firstBar : ByteArray := prog_2_method_3_code
def yX0_firstBar : MethodName := ⟨RX0, "firstBar", "(LHourRingers$Parish;II)I"⟩
abbrev cX0_lostIn : ByteArray := prog_2_method_4_code
def yX0_lostIn : MethodName := ⟨RX0, "lostIn", "(LHourRingers$Parish;III)I"⟩
abbrev cX0_fullWeight : ByteArray := prog_2_method_5_code
def yX0_fullWeight : MethodName := ⟨RX0, "fullWeight", "(LHourRingers$Parish;I)I"⟩
def RX1 : String := "HourRingers$Nights"
def TX1 : u_T := fun k => match k with
  | 0 => ("HourRingers$Nights", "settled", "Z", false)
  | 1 => ("HourRingers$Nights", "ringers", "I", false)
  | 2 => ("HourRingers$Nights", "times", "I", false)
  | 3 => ("HourRingers$Nights", "rest", "I", false)
  | 4 => ("HourRingers$Nights", "cheapest", "J", false)
  | 5 => ("HourRingers$Nights", "fewest", "I", false)
  | 6 => ("HourRingers$Nights", "even", "I", false)
  | 7 => ("HourRingers$Nights", "missed", "I", false)
  | 8 => ("HourRingers$Nights", "sets", "[I", true)
  | 9 => ("HourRingers$Nights", "setsIn", "[I", true)
  | 10 => ("HourRingers$Nights", "price", "[J", true)
  | 11 => ("HourRingers$Nights", "leastWithin", "[J", true)
  | 12 => ("HourRingers$Nights", "among", "I", false)
  | 13 => ("HourRingers$Nights", "timesNow", "I", false)
  | 14 => ("HourRingers$Nights", "counted", "J", false)
  | 15 => ("HourRingers$Nights", "found", "J", false)
  | _ => ("HourRingers$Nights", "picked", "[I", true)
def tyX1 : Nat → FieldType := fun k => match k with
  | 0 => .boolean
  | 1 => .int
  | 2 => .int
  | 3 => .int
  | 4 => .long
  | 5 => .int
  | 6 => .int
  | 7 => .int
  | 8 => .array .int
  | 9 => .array .int
  | 10 => .array .long
  | 11 => .array .long
  | 12 => .int
  | 13 => .int
  | 14 => .long
  | 15 => .long
  | _ => .array .int
abbrev wsX10 : List Cond := u_ws RX1 TX1 17
theorem nmX1 : ∀ a, a < 17 → ∀ b, b < 17 → a ≠ b → (TX1 a).2.1 ≠ (TX1 b).2.1 := by decide +kernel
theorem tyX1_ok : ∀ k, k < 17 → parseFieldDescriptor (TX1 k).2.2.1 = some (tyX1 k) := by decide +kernel
abbrev cX1_init : ByteArray := prog_3_method_1_code
def yX1_init : MethodName := ⟨RX1, "<init>", "()V"⟩
abbrev cX1_forParish : ByteArray := prog_3_method_2_code
def yX1_forParish : MethodName := ⟨RX1, "forParish", "()V"⟩
abbrev cX1_forTower : ByteArray := prog_3_method_3_code
def yX1_forTower : MethodName := ⟨RX1, "forTower", "()V"⟩
abbrev cX1_settle : ByteArray := prog_3_method_4_code
def yX1_settle : MethodName := ⟨RX1, "settle", "(LHourRingers$Parish;I)V"⟩
abbrev cX1_everyone : ByteArray := prog_3_method_5_code
def yX1_everyone : MethodName := ⟨RX1, "everyone", "()I"⟩
abbrev cX1_fewestShort : ByteArray := prog_3_method_6_code
def yX1_fewestShort : MethodName := ⟨RX1, "fewestShort", "()I"⟩
abbrev cX1_leastWalk : ByteArray := prog_3_method_7_code
def yX1_leastWalk : MethodName := ⟨RX1, "leastWalk", "()I"⟩
abbrev cX1_firstBell : ByteArray := prog_3_method_8_code
def yX1_firstBell : MethodName := ⟨RX1, "firstBell", "(II)I"⟩
abbrev cX1_fewestRingers : ByteArray := prog_3_method_9_code
def yX1_fewestRingers : MethodName := ⟨RX1, "fewestRingers", "()I"⟩
abbrev cX1_areEnough : ByteArray := prog_3_method_10_code
def yX1_areEnough : MethodName := ⟨RX1, "areEnough", "(I)Z"⟩
abbrev cX1_mostEven : ByteArray := prog_3_method_11_code
def yX1_mostEven : MethodName := ⟨RX1, "mostEven", "()I"⟩
abbrev cX1_missedRingers : ByteArray := prog_3_method_12_code
def yX1_missedRingers : MethodName := ⟨RX1, "missedRingers", "()I"⟩
abbrev cX1_ringsInFirst : ByteArray := prog_3_method_13_code
def yX1_ringsInFirst : MethodName := ⟨RX1, "ringsInFirst", "(I)Z"⟩
abbrev cX1_isEnough : ByteArray := prog_3_method_14_code
def yX1_isEnough : MethodName := ⟨RX1, "isEnough", "(II)Z"⟩
abbrev cX1_shiftOf : ByteArray := prog_3_method_15_code
def yX1_shiftOf : MethodName := ⟨RX1, "shiftOf", "(II)I"⟩
abbrev cX1_priceHour : ByteArray := prog_3_method_16_code
def yX1_priceHour : MethodName := ⟨RX1, "priceHour", "(LHourRingers$Parish;II)V"⟩
abbrev cX1_addInOrder : ByteArray := prog_3_method_17_code
def yX1_addInOrder : MethodName := ⟨RX1, "addInOrder", "(II)V"⟩
abbrev cX1_walkOf : ByteArray := prog_3_method_18_code
def yX1_walkOf : MethodName := ⟨RX1, "walkOf", "(LHourRingers$Parish;II)I"⟩
abbrev cX1_seatsOf : ByteArray := prog_3_method_19_code
def yX1_seatsOf : MethodName := ⟨RX1, "seatsOf", "(LHourRingers$Parish;IIII)J"⟩
abbrev cX1_findLeast : ByteArray := prog_3_method_20_code
def yX1_findLeast : MethodName := ⟨RX1, "findLeast", "(I)V"⟩
abbrev cX1_search : ByteArray := prog_3_method_21_code
def yX1_search : MethodName := ⟨RX1, "search", "(JIIJ)J"⟩
abbrev cX1_seek : ByteArray := prog_3_method_22_code
def yX1_seek : MethodName := ⟨RX1, "seek", "(LHourRingers$Nights;IJ)V"⟩
abbrev cX1_leastAfter : ByteArray := prog_3_method_23_code
def yX1_leastAfter : MethodName := ⟨RX1, "leastAfter", "(I)J"⟩
abbrev cX1_openIn : ByteArray := prog_3_method_24_code
def yX1_openIn : MethodName := ⟨RX1, "openIn", "(II)I"⟩
def RX2 : String := "HourRingers$Parish"
def TX2 : u_T := fun k => match k with
  | 0 => ("HourRingers$Parish", "hours", "I", false)
  | 1 => ("HourRingers$Parish", "ringers", "I", false)
  | 2 => ("HourRingers$Parish", "tower", "I", false)
  | 3 => ("HourRingers$Parish", "times", "I", false)
  | 4 => ("HourRingers$Parish", "rest", "I", false)
  | 5 => ("HourRingers$Parish", "wants", "[I", true)
  | 6 => ("HourRingers$Parish", "homes", "[I", true)
  | 7 => ("HourRingers$Parish", "bells", "[I", true)
  | 8 => ("HourRingers$Parish", "busy", "[I", true)
  | _ => ("HourRingers$Parish", "ills", "[I", true)
def tyX2 : Nat → FieldType := fun k => match k with
  | 0 => .int
  | 1 => .int
  | 2 => .int
  | 3 => .int
  | 4 => .int
  | 5 => .array .int
  | 6 => .array .int
  | 7 => .array .int
  | 8 => .array .int
  | _ => .array .int
abbrev wsX20 : List Cond := u_ws RX2 TX2 10
theorem nmX2 : ∀ a, a < 10 → ∀ b, b < 10 → a ≠ b → (TX2 a).2.1 ≠ (TX2 b).2.1 := by decide +kernel
theorem tyX2_ok : ∀ k, k < 10 → parseFieldDescriptor (TX2 k).2.2.1 = some (tyX2 k) := by decide +kernel
abbrev cX2_init : ByteArray := prog_4_method_1_code
def yX2_init : MethodName := ⟨RX2, "<init>", "()V"⟩
abbrev cX2_empty : ByteArray := prog_4_method_2_code
def yX2_empty : MethodName := ⟨RX2, "empty", "()V"⟩
abbrev cX2_addHour : ByteArray := prog_4_method_3_code
def yX2_addHour : MethodName := ⟨RX2, "addHour", "(I)V"⟩
abbrev cX2_addRinger : ByteArray := prog_4_method_4_code
def yX2_addRinger : MethodName := ⟨RX2, "addRinger", "(IIII)V"⟩
abbrev cX2_hasHour : ByteArray := prog_4_method_5_code
def yX2_hasHour : MethodName := ⟨RX2, "hasHour", "(I)Z"⟩
abbrev cX2_hasRinger : ByteArray := prog_4_method_6_code
def yX2_hasRinger : MethodName := ⟨RX2, "hasRinger", "(I)Z"⟩
abbrev cX2_hasBell : ByteArray := prog_4_method_7_code
def yX2_hasBell : MethodName := ⟨RX2, "hasBell", "(II)Z"⟩
abbrev cX2_wantedInAll : ByteArray := prog_4_method_8_code
def yX2_wantedInAll : MethodName := ⟨RX2, "wantedInAll", "()I"⟩
abbrev cX2_bellsFor : ByteArray := prog_4_method_9_code
def yX2_bellsFor : MethodName := ⟨RX2, "bellsFor", "(II)I"⟩
abbrev cX2_canRing : ByteArray := prog_4_method_10_code
def yX2_canRing : MethodName := ⟨RX2, "canRing", "(III)Z"⟩
abbrev cX2_ableOf : ByteArray := prog_4_method_11_code
def yX2_ableOf : MethodName := ⟨RX2, "ableOf", "(III)I"⟩
abbrev cX2_busyHours : ByteArray := prog_4_method_12_code
def yX2_busyHours : MethodName := ⟨RX2, "busyHours", "(I)I"⟩
abbrev cX2_way : ByteArray := prog_4_method_13_code
def yX2_way : MethodName := ⟨RX2, "way", "(II)I"⟩
abbrev cX2_weightOf : ByteArray := prog_4_method_14_code
def yX2_weightOf : MethodName := ⟨RX2, "weightOf", "(I)I"⟩
abbrev cX2_weightInAll : ByteArray := prog_4_method_15_code
def yX2_weightInAll : MethodName := ⟨RX2, "weightInAll", "()I"⟩
def RX3 : String := "HourRingers$Rota"
def TX3 : u_T := fun k => match k with
  | 0 => ("HourRingers$Rota", "turns", "I", false)
  | 1 => ("HourRingers$Rota", "tower", "I", false)
  | 2 => ("HourRingers$Rota", "strokes", "[I", true)
  | _ => ("HourRingers$Rota", "bells", "[I", true)
def tyX3 : Nat → FieldType := fun k => match k with
  | 0 => .int
  | 1 => .int
  | 2 => .array .int
  | _ => .array .int
abbrev wsX30 : List Cond := u_ws RX3 TX3 4
theorem nmX3 : ∀ a, a < 4 → ∀ b, b < 4 → a ≠ b → (TX3 a).2.1 ≠ (TX3 b).2.1 := by decide +kernel
theorem tyX3_ok : ∀ k, k < 4 → parseFieldDescriptor (TX3 k).2.2.1 = some (tyX3 k) := by decide +kernel
abbrev cX3_init : ByteArray := prog_5_method_1_code
def yX3_init : MethodName := ⟨RX3, "<init>", "()V"⟩
abbrev cX3_empty : ByteArray := prog_5_method_2_code
def yX3_empty : MethodName := ⟨RX3, "empty", "(I)V"⟩
abbrev cX3_clean : ByteArray := prog_5_method_3_code
def yX3_clean : MethodName := ⟨RX3, "clean", "()V"⟩
abbrev cX3_copy : ByteArray := prog_5_method_4_code
def yX3_copy : MethodName := ⟨RX3, "copy", "(LHourRingers$Rota;)V"⟩
abbrev cX3_bellOf : ByteArray := prog_5_method_5_code
def yX3_bellOf : MethodName := ⟨RX3, "bellOf", "(II)I"⟩
abbrev cX3_isTurn : ByteArray := prog_5_method_6_code
def yX3_isTurn : MethodName := ⟨RX3, "isTurn", "(II)Z"⟩
abbrev cX3_hasTurn : ByteArray := prog_5_method_7_code
def yX3_hasTurn : MethodName := ⟨RX3, "hasTurn", "(II)Z"⟩
abbrev cX3_give : ByteArray := prog_5_method_8_code
def yX3_give : MethodName := ⟨RX3, "give", "(III)V"⟩
abbrev cX3_free : ByteArray := prog_5_method_9_code
def yX3_free : MethodName := ⟨RX3, "free", "(II)V"⟩
abbrev cX3_swap : ByteArray := prog_5_method_10_code
def yX3_swap : MethodName := ⟨RX3, "swap", "(II)V"⟩
abbrev cX3_ringerAt : ByteArray := prog_5_method_11_code
def yX3_ringerAt : MethodName := ⟨RX3, "ringerAt", "(II)I"⟩
abbrev cX3_timesOf : ByteArray := prog_5_method_12_code
def yX3_timesOf : MethodName := ⟨RX3, "timesOf", "(I)I"⟩
abbrev cX3_hasRoom : ByteArray := prog_5_method_13_code
def yX3_hasRoom : MethodName := ⟨RX3, "hasRoom", "(LHourRingers$Parish;III)Z"⟩
abbrev cX3_ringersIn : ByteArray := prog_5_method_14_code
def yX3_ringersIn : MethodName := ⟨RX3, "ringersIn", "(I)I"⟩
abbrev cX3_ringersAtAll : ByteArray := prog_5_method_15_code
def yX3_ringersAtAll : MethodName := ⟨RX3, "ringersAtAll", "()I"⟩
abbrev cX3_soundsWithout : ByteArray := prog_5_method_16_code
def yX3_soundsWithout : MethodName := ⟨RX3, "soundsWithout", "(I)Z"⟩
abbrev cX3_walk : ByteArray := prog_5_method_17_code
def yX3_walk : MethodName := ⟨RX3, "walk", "(LHourRingers$Parish;I)I"⟩
def RX4 : String := "HourRingers$Script"
def TX4 : u_T := fun k => match k with
  | 0 => ("HourRingers$Script", "length", "I", false)
  | 1 => ("HourRingers$Script", "text", "[B", true)
  | 2 => ("HourRingers$Script", "place", "I", false)
  | 3 => ("HourRingers$Script", "fault", "I", false)
  | 4 => ("HourRingers$Script", "numbers", "[I", true)
  | _ => ("HourRingers$Script", "toldOnce", "[Z", true)
def tyX4 : Nat → FieldType := fun k => match k with
  | 0 => .int
  | 1 => .array .byte
  | 2 => .int
  | 3 => .int
  | 4 => .array .int
  | _ => .array .boolean
abbrev wsX40 : List Cond := u_ws RX4 TX4 6
theorem nmX4 : ∀ a, a < 6 → ∀ b, b < 6 → a ≠ b → (TX4 a).2.1 ≠ (TX4 b).2.1 := by decide +kernel
theorem tyX4_ok : ∀ k, k < 6 → parseFieldDescriptor (TX4 k).2.2.1 = some (tyX4 k) := by decide +kernel
abbrev cX4_init : ByteArray := prog_6_method_1_code
def yX4_init : MethodName := ⟨RX4, "<init>", "()V"⟩
abbrev cX4_empty : ByteArray := prog_6_method_2_code
def yX4_empty : MethodName := ⟨RX4, "empty", "()V"⟩
abbrev cX4_add : ByteArray := prog_6_method_3_code
def yX4_add : MethodName := ⟨RX4, "add", "(B)V"⟩
abbrev cX4_read : ByteArray := prog_6_method_4_code
def yX4_read : MethodName := ⟨RX4, "read", "(LHourRingers$Parish;)I"⟩
abbrev cX4_readItem : ByteArray := prog_6_method_5_code
def yX4_readItem : MethodName := ⟨RX4, "readItem", "(LHourRingers$Parish;)V"⟩
abbrev cX4_kindOfWord : ByteArray := prog_6_method_6_code
def yX4_kindOfWord : MethodName := ⟨RX4, "kindOfWord", "()I"⟩
abbrev cX4_nameOf : ByteArray := prog_6_method_7_code
def yX4_nameOf : MethodName := ⟨RX4, "nameOf", "(I)Ljava/lang/String;"⟩
abbrev cX4_isWord : ByteArray := prog_6_method_8_code
def yX4_isWord : MethodName := ⟨RX4, "isWord", "(Ljava/lang/String;II)Z"⟩
abbrev cX4_mayStand : ByteArray := prog_6_method_9_code
def yX4_mayStand : MethodName := ⟨RX4, "mayStand", "(ILHourRingers$Parish;)Z"⟩
abbrev cX4_readNumbers : ByteArray := prog_6_method_10_code
def yX4_readNumbers : MethodName := ⟨RX4, "readNumbers", "(I)V"⟩
abbrev cX4_readNumber : ByteArray := prog_6_method_11_code
def yX4_readNumber : MethodName := ⟨RX4, "readNumber", "(III)V"⟩
abbrev cX4_readEnd : ByteArray := prog_6_method_12_code
def yX4_readEnd : MethodName := ⟨RX4, "readEnd", "()V"⟩
abbrev cX4_endsTooEarly : ByteArray := prog_6_method_13_code
def yX4_endsTooEarly : MethodName := ⟨RX4, "endsTooEarly", "()Z"⟩
abbrev cX4_skipBlanks : ByteArray := prog_6_method_14_code
def yX4_skipBlanks : MethodName := ⟨RX4, "skipBlanks", "()V"⟩
abbrev cX4_tell : ByteArray := prog_6_method_15_code
def yX4_tell : MethodName := ⟨RX4, "tell", "(ILHourRingers$Parish;)V"⟩
def RX5 : String := "HourRingers"
def TX5 : u_T := fun k => match k with
  | 0 => ("HourRingers", "script", "LHourRingers$Script;", true)
  | 1 => ("HourRingers", "told", "LHourRingers$Parish;", false)
  | 2 => ("HourRingers", "draft", "LHourRingers$Parish;", false)
  | 3 => ("HourRingers", "rota", "LHourRingers$Rota;", true)
  | 4 => ("HourRingers", "images", "[LHourRingers$Rota;", true)
  | 5 => ("HourRingers", "kept", "[Z", true)
  | 6 => ("HourRingers", "nights", "LHourRingers$Nights;", true)
  | _ => ("HourRingers", "traced", "J", false)
def tyX5 : Nat → FieldType := fun k => match k with
  | 0 => .object "HourRingers$Script"
  | 1 => .object "HourRingers$Parish"
  | 2 => .object "HourRingers$Parish"
  | 3 => .object "HourRingers$Rota"
  | 4 => .array (.object "HourRingers$Rota")
  | 5 => .array .boolean
  | 6 => .object "HourRingers$Nights"
  | _ => .long
abbrev wsX50 : List Cond := u_ws RX5 TX5 8
theorem nmX5 : ∀ a, a < 8 → ∀ b, b < 8 → a ≠ b → (TX5 a).2.1 ≠ (TX5 b).2.1 := by decide +kernel
theorem tyX5_ok : ∀ k, k < 8 → parseFieldDescriptor (TX5 k).2.2.1 = some (tyX5 k) := by decide +kernel
abbrev cX5_init : ByteArray := prog_1_method_1_code
def yX5_init : MethodName := ⟨RX5, "<init>", "()V"⟩
abbrev cX5_type : ByteArray := prog_1_method_2_code
def yX5_type : MethodName := ⟨RX5, "type", "(JI)I"⟩
abbrev cX5_clear : ByteArray := prog_1_method_3_code
def yX5_clear : MethodName := ⟨RX5, "clear", "()I"⟩
abbrev cX5_parish : ByteArray := prog_1_method_4_code
def yX5_parish : MethodName := ⟨RX5, "parish", "()I"⟩
abbrev cX5_ringer : ByteArray := prog_1_method_5_code
def yX5_ringer : MethodName := ⟨RX5, "ringer", "(II)I"⟩
abbrev cX5_hour : ByteArray := prog_1_method_6_code
def yX5_hour : MethodName := ⟨RX5, "hour", "(II)I"⟩
abbrev cX5_put : ByteArray := prog_1_method_7_code
def yX5_put : MethodName := ⟨RX5, "put", "(III)I"⟩
abbrev cX5_rings : ByteArray := prog_1_method_8_code
def yX5_rings : MethodName := ⟨RX5, "rings", "(II)I"⟩
abbrev cX5_take : ByteArray := prog_1_method_9_code
def yX5_take : MethodName := ⟨RX5, "take", "(II)I"⟩
abbrev cX5_exchange : ByteArray := prog_1_method_10_code
def yX5_exchange : MethodName := ⟨RX5, "exchange", "(II)I"⟩
abbrev cX5_canTakeOver : ByteArray := prog_1_method_11_code
def yX5_canTakeOver : MethodName := ⟨RX5, "canTakeOver", "(II)Z"⟩
abbrev cX5_now : ByteArray := prog_1_method_12_code
def yX5_now : MethodName := ⟨RX5, "now", "(I)I"⟩
abbrev cX5_moves : ByteArray := prog_1_method_13_code
def yX5_moves : MethodName := ⟨RX5, "moves", "(I)I"⟩
abbrev cX5_crew : ByteArray := prog_1_method_14_code
def yX5_crew : MethodName := ⟨RX5, "crew", "(I)I"⟩
abbrev cX5_bars : ByteArray := prog_1_method_15_code
def yX5_bars : MethodName := ⟨RX5, "bars", "(I)I"⟩
abbrev cX5_night : ByteArray := prog_1_method_16_code
def yX5_night : MethodName := ⟨RX5, "night", "(I)I"⟩
abbrev cX5_best : ByteArray := prog_1_method_17_code
def yX5_best : MethodName := ⟨RX5, "best", "(II)I"⟩
abbrev cX5_needed : ByteArray := prog_1_method_18_code
def yX5_needed : MethodName := ⟨RX5, "needed", "()I"⟩
abbrev cX5_odds : ByteArray := prog_1_method_19_code
def yX5_odds : MethodName := ⟨RX5, "odds", "(II)I"⟩
abbrev cX5_commonDivisor : ByteArray := prog_1_method_20_code
def yX5_commonDivisor : MethodName := ⟨RX5, "commonDivisor", "(II)I"⟩
abbrev cX5_stands : ByteArray := prog_1_method_21_code
def yX5_stands : MethodName := ⟨RX5, "stands", "(I)I"⟩
abbrev cX5_heard : ByteArray := prog_1_method_22_code
def yX5_heard : MethodName := ⟨RX5, "heard", "(II)I"⟩
abbrev cX5_forget : ByteArray := prog_1_method_23_code
def yX5_forget : MethodName := ⟨RX5, "forget", "()I"⟩
abbrev cX5_away : ByteArray := prog_1_method_24_code
def yX5_away : MethodName := ⟨RX5, "away", "(I)I"⟩
abbrev cX5_mark : ByteArray := prog_1_method_25_code
def yX5_mark : MethodName := ⟨RX5, "mark", "(II)I"⟩
abbrev cX5_markRinger : ByteArray := prog_1_method_26_code
def yX5_markRinger : MethodName := ⟨RX5, "markRinger", "(I)I"⟩
abbrev cX5_markSexton : ByteArray := prog_1_method_27_code
def yX5_markSexton : MethodName := ⟨RX5, "markSexton", "(I)I"⟩
abbrev cX5_markChild : ByteArray := prog_1_method_28_code
def yX5_markChild : MethodName := ⟨RX5, "markChild", "(I)I"⟩
abbrev cX5_markWarden : ByteArray := prog_1_method_29_code
def yX5_markWarden : MethodName := ⟨RX5, "markWarden", "(I)I"⟩
abbrev cX5_markNovice : ByteArray := prog_1_method_30_code
def yX5_markNovice : MethodName := ⟨RX5, "markNovice", "(I)I"⟩
abbrev cX5_markStranger : ByteArray := prog_1_method_31_code
def yX5_markStranger : MethodName := ⟨RX5, "markStranger", "(I)I"⟩
abbrev cX5_keep : ByteArray := prog_1_method_32_code
def yX5_keep : MethodName := ⟨RX5, "keep", "(I)I"⟩
abbrev cX5_back : ByteArray := prog_1_method_33_code
def yX5_back : MethodName := ⟨RX5, "back", "(I)I"⟩
abbrev cX5_count : ByteArray := prog_1_method_34_code
def yX5_count : MethodName := ⟨RX5, "count", "(I)I"⟩
abbrev cX5_trace : ByteArray := prog_1_method_35_code
def yX5_trace : MethodName := ⟨RX5, "trace", "()J"⟩
def RX6 : String := "HourRingersModel"
def TX6 : u_T := fun k => match k with
  | 0 => ("HourRingersModel", "trace", "J", false)
  | 1 => ("HourRingersModel", "text", "[B", true)
  | 2 => ("HourRingersModel", "typed", "I", false)
  | 3 => ("HourRingersModel", "hours", "[I", true)
  | 4 => ("HourRingersModel", "wants", "[I", true)
  | 5 => ("HourRingersModel", "ringers", "[I", true)
  | 6 => ("HourRingersModel", "home", "[I", true)
  | 7 => ("HourRingersModel", "bells", "[I", true)
  | 8 => ("HourRingersModel", "busy", "[I", true)
  | 9 => ("HourRingersModel", "ill", "[I", true)
  | 10 => ("HourRingersModel", "tower", "[I", true)
  | 11 => ("HourRingersModel", "times", "[I", true)
  | 12 => ("HourRingersModel", "rest", "[I", true)
  | 13 => ("HourRingersModel", "at", "I", false)
  | 14 => ("HourRingersModel", "start", "I", false)
  | 15 => ("HourRingersModel", "sort", "I", false)
  | 16 => ("HourRingersModel", "value", "I", false)
  | 17 => ("HourRingersModel", "fault", "I", false)
  | 18 => ("HourRingersModel", "told", "I", false)
  | 19 => ("HourRingersModel", "now", "[I", true)
  | 20 => ("HourRingersModel", "isKept", "[Z", true)
  | 21 => ("HourRingersModel", "crews", "[I", true)
  | 22 => ("HourRingersModel", "bellsOf", "[I", true)
  | 23 => ("HourRingersModel", "crewMany", "[I", true)
  | 24 => ("HourRingersModel", "pick", "[I", true)
  | 25 => ("HourRingersModel", "set", "[I", true)
  | 26 => ("HourRingersModel", "once", "[I", true)
  | 27 => ("HourRingersModel", "twice", "[I", true)
  | 28 => ("HourRingersModel", "thrice", "[I", true)
  | 29 => ("HourRingersModel", "rung", "[I", true)
  | 30 => ("HourRingersModel", "most", "I", false)
  | 31 => ("HourRingersModel", "walk", "I", false)
  | 32 => ("HourRingersModel", "few", "I", false)
  | 33 => ("HourRingersModel", "even", "I", false)
  | 34 => ("HourRingersModel", "bestRow", "[I", true)
  | _ => ("HourRingersModel", "row", "[I", true)
def tyX6 : Nat → FieldType := fun k => match k with
  | 0 => .long
  | 1 => .array .byte
  | 2 => .int
  | 3 => .array .int
  | 4 => .array .int
  | 5 => .array .int
  | 6 => .array .int
  | 7 => .array .int
  | 8 => .array .int
  | 9 => .array .int
  | 10 => .array .int
  | 11 => .array .int
  | 12 => .array .int
  | 13 => .int
  | 14 => .int
  | 15 => .int
  | 16 => .int
  | 17 => .int
  | 18 => .int
  | 19 => .array .int
  | 20 => .array .boolean
  | 21 => .array .int
  | 22 => .array .int
  | 23 => .array .int
  | 24 => .array .int
  | 25 => .array .int
  | 26 => .array .int
  | 27 => .array .int
  | 28 => .array .int
  | 29 => .array .int
  | 30 => .int
  | 31 => .int
  | 32 => .int
  | 33 => .int
  | 34 => .array .int
  | _ => .array .int
abbrev wsX60 : List Cond := u_ws RX6 TX6 36
theorem nmX6 : ∀ a, a < 36 → ∀ b, b < 36 → a ≠ b → (TX6 a).2.1 ≠ (TX6 b).2.1 := by decide +kernel
theorem tyX6_ok : ∀ k, k < 36 → parseFieldDescriptor (TX6 k).2.2.1 = some (tyX6 k) := by decide +kernel
abbrev cX6_init : ByteArray := prog_8_method_1_code
def yX6_init : MethodName := ⟨RX6, "<init>", "()V"⟩
abbrev cX6_in : ByteArray := prog_8_method_3_code
def yX6_in : MethodName := ⟨RX6, "in", "(III)Z"⟩
abbrev cX6_type : ByteArray := prog_8_method_4_code
def yX6_type : MethodName := ⟨RX6, "type", "(JI)I"⟩
abbrev cX6_clear : ByteArray := prog_8_method_5_code
def yX6_clear : MethodName := ⟨RX6, "clear", "()I"⟩
abbrev cX6_here : ByteArray := prog_8_method_6_code
def yX6_here : MethodName := ⟨RX6, "here", "()I"⟩
abbrev cX6_meaning : ByteArray := prog_8_method_7_code
def yX6_meaning : MethodName := ⟨RX6, "meaning", "(I)I"⟩
abbrev cX6_next : ByteArray := prog_8_method_8_code
def yX6_next : MethodName := ⟨RX6, "next", "()V"⟩
abbrev cX6_due : ByteArray := prog_8_method_9_code
def yX6_due : MethodName := ⟨RX6, "due", "(Z)I"⟩
abbrev cX6_number : ByteArray := prog_8_method_10_code
def yX6_number : MethodName := ⟨RX6, "number", "(II)I"⟩
abbrev cX6_readItem : ByteArray := prog_8_method_11_code
def yX6_readItem : MethodName := ⟨RX6, "readItem", "()V"⟩
abbrev cX6_parish : ByteArray := prog_8_method_12_code
def yX6_parish : MethodName := ⟨RX6, "parish", "()I"⟩
abbrev cX6_begin : ByteArray := prog_8_method_13_code
def yX6_begin : MethodName := ⟨RX6, "begin", "()V"⟩
abbrev cX6_isHour : ByteArray := prog_8_method_14_code
def yX6_isHour : MethodName := ⟨RX6, "isHour", "(I)Z"⟩
abbrev cX6_isRinger : ByteArray := prog_8_method_15_code
def yX6_isRinger : MethodName := ⟨RX6, "isRinger", "(I)Z"⟩
abbrev cX6_isWanted : ByteArray := prog_8_method_16_code
def yX6_isWanted : MethodName := ⟨RX6, "isWanted", "(II)Z"⟩
abbrev cX6_bellOf : ByteArray := prog_8_method_17_code
def yX6_bellOf : MethodName := ⟨RX6, "bellOf", "(II)I"⟩
abbrev cX6_timesOf : ByteArray := prog_8_method_18_code
def yX6_timesOf : MethodName := ⟨RX6, "timesOf", "(I)I"⟩
abbrev cX6_inRota : ByteArray := prog_8_method_19_code
def yX6_inRota : MethodName := ⟨RX6, "inRota", "(I)I"⟩
abbrev cX6_allInRota : ByteArray := prog_8_method_20_code
def yX6_allInRota : MethodName := ⟨RX6, "allInRota", "()I"⟩
abbrev cX6_wayOf : ByteArray := prog_8_method_21_code
def yX6_wayOf : MethodName := ⟨RX6, "wayOf", "(II)I"⟩
abbrev cX6_walkTo : ByteArray := prog_8_method_22_code
def yX6_walkTo : MethodName := ⟨RX6, "walkTo", "(I)I"⟩
abbrev cX6_ringer : ByteArray := prog_8_method_23_code
def yX6_ringer : MethodName := ⟨RX6, "ringer", "(II)I"⟩
abbrev cX6_hour : ByteArray := prog_8_method_24_code
def yX6_hour : MethodName := ⟨RX6, "hour", "(II)I"⟩
abbrev cX6_isBusy : ByteArray := prog_8_method_25_code
def yX6_isBusy : MethodName := ⟨RX6, "isBusy", "(II)Z"⟩
abbrev cX6_isLawful : ByteArray := prog_8_method_26_code
def yX6_isLawful : MethodName := ⟨RX6, "isLawful", "(I)Z"⟩
abbrev cX6_put : ByteArray := prog_8_method_27_code
def yX6_put : MethodName := ⟨RX6, "put", "(III)I"⟩
abbrev cX6_rings : ByteArray := prog_8_method_28_code
def yX6_rings : MethodName := ⟨RX6, "rings", "(II)I"⟩
abbrev cX6_take : ByteArray := prog_8_method_29_code
def yX6_take : MethodName := ⟨RX6, "take", "(II)I"⟩
abbrev cX6_change : ByteArray := prog_8_method_30_code
def yX6_change : MethodName := ⟨RX6, "change", "(II)V"⟩
abbrev cX6_exchange : ByteArray := prog_8_method_31_code
def yX6_exchange : MethodName := ⟨RX6, "exchange", "(II)I"⟩
abbrev cX6_allWanted : ByteArray := prog_8_method_32_code
def yX6_allWanted : MethodName := ⟨RX6, "allWanted", "()I"⟩
abbrev cX6_now : ByteArray := prog_8_method_33_code
def yX6_now : MethodName := ⟨RX6, "now", "(I)I"⟩
abbrev cX6_moves : ByteArray := prog_8_method_34_code
def yX6_moves : MethodName := ⟨RX6, "moves", "(I)I"⟩
abbrev cX6_bitsIn : ByteArray := prog_8_method_35_code
def yX6_bitsIn : MethodName := ⟨RX6, "bitsIn", "(I)I"⟩
abbrev cX6_wayToRing : ByteArray := prog_8_method_36_code
def yX6_wayToRing : MethodName := ⟨RX6, "wayToRing", "(II)I"⟩
abbrev cX6_findCrews : ByteArray := prog_8_method_37_code
def yX6_findCrews : MethodName := ⟨RX6, "findCrews", "()V"⟩
abbrev cX6_crew : ByteArray := prog_8_method_38_code
def yX6_crew : MethodName := ⟨RX6, "crew", "(I)I"⟩
abbrev cX6_bars : ByteArray := prog_8_method_39_code
def yX6_bars : MethodName := ⟨RX6, "bars", "(I)I"⟩
abbrev cX6_mayFollow : ByteArray := prog_8_method_40_code
def yX6_mayFollow : MethodName := ⟨RX6, "mayFollow", "(III)Z"⟩
abbrev cX6_follow : ByteArray := prog_8_method_41_code
def yX6_follow : MethodName := ⟨RX6, "follow", "(II)V"⟩
abbrev cX6_wantedFrom : ByteArray := prog_8_method_42_code
def yX6_wantedFrom : MethodName := ⟨RX6, "wantedFrom", "(I)I"⟩
abbrev cX6_isFirst : ByteArray := prog_8_method_43_code
def yX6_isFirst : MethodName := ⟨RX6, "isFirst", "([I)Z"⟩
abbrev cX6_weigh : ByteArray := prog_8_method_44_code
def yX6_weigh : MethodName := ⟨RX6, "weigh", "(Z)V"⟩
abbrev cX6_goThrough : ByteArray := prog_8_method_45_code
def yX6_goThrough : MethodName := ⟨RX6, "goThrough", "(IZ)V"⟩
abbrev cX6_mostBut : ByteArray := prog_8_method_46_code
def yX6_mostBut : MethodName := ⟨RX6, "mostBut", "(I)I"⟩
abbrev cX6_findNight : ByteArray := prog_8_method_47_code
def yX6_findNight : MethodName := ⟨RX6, "findNight", "()V"⟩
abbrev cX6_night : ByteArray := prog_8_method_48_code
def yX6_night : MethodName := ⟨RX6, "night", "(I)I"⟩
abbrev cX6_best : ByteArray := prog_8_method_49_code
def yX6_best : MethodName := ⟨RX6, "best", "(II)I"⟩
abbrev cX6_needed : ByteArray := prog_8_method_50_code
def yX6_needed : MethodName := ⟨RX6, "needed", "()I"⟩
abbrev cX6_common : ByteArray := prog_8_method_51_code
def yX6_common : MethodName := ⟨RX6, "common", "(II)I"⟩
abbrev cX6_odds : ByteArray := prog_8_method_52_code
def yX6_odds : MethodName := ⟨RX6, "odds", "(II)I"⟩
abbrev cX6_stands : ByteArray := prog_8_method_53_code
def yX6_stands : MethodName := ⟨RX6, "stands", "(I)I"⟩
abbrev cX6_heard : ByteArray := prog_8_method_54_code
def yX6_heard : MethodName := ⟨RX6, "heard", "(II)I"⟩
abbrev cX6_forget : ByteArray := prog_8_method_55_code
def yX6_forget : MethodName := ⟨RX6, "forget", "()I"⟩
abbrev cX6_fits : ByteArray := prog_8_method_56_code
def yX6_fits : MethodName := ⟨RX6, "fits", "(I)Z"⟩
abbrev cX6_away : ByteArray := prog_8_method_57_code
def yX6_away : MethodName := ⟨RX6, "away", "(I)I"⟩
abbrev cX6_mark : ByteArray := prog_8_method_58_code
def yX6_mark : MethodName := ⟨RX6, "mark", "(II)I"⟩
abbrev cX6_copy : ByteArray := prog_8_method_59_code
def yX6_copy : MethodName := ⟨RX6, "copy", "(II)V"⟩
abbrev cX6_keep : ByteArray := prog_8_method_60_code
def yX6_keep : MethodName := ⟨RX6, "keep", "(I)I"⟩
abbrev cX6_back : ByteArray := prog_8_method_61_code
def yX6_back : MethodName := ⟨RX6, "back", "(I)I"⟩
abbrev cX6_count : ByteArray := prog_8_method_62_code
def yX6_count : MethodName := ⟨RX6, "count", "(I)I"⟩
abbrev cX6_trace : ByteArray := prog_8_method_63_code
def yX6_trace : MethodName := ⟨RX6, "trace", "()J"⟩
def RJ6 : String := "java/lang/Integer"
def TJ6 : u_T := fun k => match k with
  | _ => ("", "", "", false)
def tyJ6 : Nat → FieldType := fun k => match k with
  | _ => .int
abbrev wsJ60 : List Cond := u_ws RJ6 TJ6 0
theorem nmJ6 : ∀ a, a < 0 → ∀ b, b < 0 → a ≠ b → (TJ6 a).2.1 ≠ (TJ6 b).2.1 := by decide +kernel
theorem tyJ6_ok : ∀ k, k < 0 → parseFieldDescriptor (TJ6 k).2.2.1 = some (tyJ6 k) := by decide +kernel
abbrev cJ6_bitCount_0f7a4 : ByteArray := prog_9_method_49_code
def yJ6_bitCount_0f7a4 : MethodName := ⟨RJ6, "bitCount", "(I)I"⟩
def RJ9 : String := "java/lang/Math"
def TJ9 : u_T := fun k => match k with
  | _ => ("", "", "", false)
def tyJ9 : Nat → FieldType := fun k => match k with
  | _ => .int
abbrev wsJ90 : List Cond := u_ws RJ9 TJ9 0
theorem nmJ9 : ∀ a, a < 0 → ∀ b, b < 0 → a ≠ b → (TJ9 a).2.1 ≠ (TJ9 b).2.1 := by decide +kernel
theorem tyJ9_ok : ∀ k, k < 0 → parseFieldDescriptor (TJ9 k).2.2.1 = some (tyJ9 k) := by decide +kernel
abbrev cJ9_abs_0f7a4 : ByteArray := prog_10_method_59_code
def yJ9_abs_0f7a4 : MethodName := ⟨RJ9, "abs", "(I)I"⟩
abbrev cJ9_max_7cf53 : ByteArray := prog_10_method_65_code
def yJ9_max_7cf53 : MethodName := ⟨RJ9, "max", "(II)I"⟩
abbrev cJ9_min_7cf53 : ByteArray := prog_10_method_69_code
def yJ9_min_7cf53 : MethodName := ⟨RJ9, "min", "(II)I"⟩
abbrev cJ9_min_f86c9 : ByteArray := prog_10_method_70_code
def yJ9_min_f86c9 : MethodName := ⟨RJ9, "min", "(JJ)J"⟩
def RJ0 : String := "java/lang/String"
def TJ0 : u_T := fun k => match k with
  | _ => ("", "", "", false)
def tyJ0 : Nat → FieldType := fun k => match k with
  | _ => .int
abbrev wsJ00 : List Cond := u_ws RJ0 TJ0 0
theorem nmJ0 : ∀ a, a < 0 → ∀ b, b < 0 → a ≠ b → (TJ0 a).2.1 ≠ (TJ0 b).2.1 := by decide +kernel
theorem tyJ0_ok : ∀ k, k < 0 → parseFieldDescriptor (TJ0 k).2.2.1 = some (tyJ0 k) := by decide +kernel
abbrev cJ0_length_8abf5 : ByteArray := prog_11_method_54_code
def yJ0_length_8abf5 : MethodName := ⟨RJ0, "length", "()I"⟩
abbrev cJ0_charAt_5068e : ByteArray := prog_11_method_56_code
def yJ0_charAt_5068e : MethodName := ⟨RJ0, "charAt", "(I)C"⟩
abbrev cJ0_coder_7d493 : ByteArray := prog_11_method_152_code
def yJ0_coder_7d493 : MethodName := ⟨RJ0, "coder", "()B"⟩
abbrev cJ0_isLatin1_aae02 : ByteArray := prog_11_method_154_code
def yJ0_isLatin1_aae02 : MethodName := ⟨RJ0, "isLatin1", "()Z"⟩
abbrev cJ0_checkIndex_df160 : ByteArray := prog_11_method_155_code
def yJ0_checkIndex_df160 : MethodName := ⟨RJ0, "checkIndex", "(II)V"⟩
def RJ1 : String := "java/lang/StringLatin1"
def TJ1 : u_T := fun k => match k with
  | _ => ("", "", "", false)
def tyJ1 : Nat → FieldType := fun k => match k with
  | _ => .int
abbrev wsJ10 : List Cond := u_ws RJ1 TJ1 0
theorem nmJ1 : ∀ a, a < 0 → ∀ b, b < 0 → a ≠ b → (TJ1 a).2.1 ≠ (TJ1 b).2.1 := by decide +kernel
theorem tyJ1_ok : ∀ k, k < 0 → parseFieldDescriptor (TJ1 k).2.2.1 = some (tyJ1 k) := by decide +kernel
abbrev cJ1_charAt_3b067 : ByteArray := prog_12_method_2_code
def yJ1_charAt_3b067 : MethodName := ⟨RJ1, "charAt", "([BI)C"⟩
def RJ2 : String := "java/lang/StringUTF16"
def TJ2 : u_T := fun k => match k with
  | _ => ("", "", "", false)
def tyJ2 : Nat → FieldType := fun k => match k with
  | _ => .int
abbrev wsJ20 : List Cond := u_ws RJ2 TJ2 0
theorem nmJ2 : ∀ a, a < 0 → ∀ b, b < 0 → a ≠ b → (TJ2 a).2.1 ≠ (TJ2 b).2.1 := by decide +kernel
theorem tyJ2_ok : ∀ k, k < 0 → parseFieldDescriptor (TJ2 k).2.2.1 = some (tyJ2 k) := by decide +kernel
abbrev cJ2_getChar_3b067 : ByteArray := prog_13_method_5_code
def yJ2_getChar_3b067 : MethodName := ⟨RJ2, "getChar", "([BI)C"⟩
abbrev cJ2_length_9d52b : ByteArray := prog_13_method_6_code
def yJ2_length_9d52b : MethodName := ⟨RJ2, "length", "([B)I"⟩
abbrev cJ2_charAt_3b067 : ByteArray := prog_13_method_83_code
def yJ2_charAt_3b067 : MethodName := ⟨RJ2, "charAt", "([BI)C"⟩
abbrev cJ2_checkIndex_2214a : ByteArray := prog_13_method_91_code
def yJ2_checkIndex_2214a : MethodName := ⟨RJ2, "checkIndex", "(I[B)V"⟩
def RJ10 : String := "java/lang/System"
def TJ10 : u_T := fun k => match k with
  | _ => ("", "", "", false)
def tyJ10 : Nat → FieldType := fun k => match k with
  | _ => .int
abbrev wsJ100 : List Cond := u_ws RJ10 TJ10 0
theorem nmJ10 : ∀ a, a < 0 → ∀ b, b < 0 → a ≠ b → (TJ10 a).2.1 ≠ (TJ10 b).2.1 := by decide +kernel
theorem tyJ10_ok : ∀ k, k < 0 → parseFieldDescriptor (TJ10 k).2.2.1 = some (tyJ10 k) := by decide +kernel
def RJ3 : String := "jdk/internal/util/Preconditions"
def TJ3 : u_T := fun k => match k with
  | _ => ("", "", "", false)
def tyJ3 : Nat → FieldType := fun k => match k with
  | _ => .int
abbrev wsJ30 : List Cond := u_ws RJ3 TJ3 0
theorem nmJ3 : ∀ a, a < 0 → ∀ b, b < 0 → a ≠ b → (TJ3 a).2.1 ≠ (TJ3 b).2.1 := by decide +kernel
theorem tyJ3_ok : ∀ k, k < 0 → parseFieldDescriptor (TJ3 k).2.2.1 = some (tyJ3 k) := by decide +kernel
abbrev cJ3_checkIndex_8e157 : ByteArray := prog_15_method_11_code
def yJ3_checkIndex_8e157 : MethodName := ⟨RJ3, "checkIndex", "(IILjava/util/function/BiFunction;)I"⟩
def RL : String := "HourRingersLaw"
abbrev vwCl : List vw_C := [(RX1, TX1, 17), (RX2, TX2, 10), (RX3, TX3, 4), (RX4, TX4, 6), (RX5, TX5, 8), (RX6, TX6, 36)]
end
section
/-! THE ENGINE: a small machine of its own over an abstract heap (cells by numbers 0, 1, ..), each of its steps a row of the kit. -/
abbrev zK : Type := va_G × (Nat → ClassId) × (Nat → Nat) × (Nat → Nat) × Nat × Nat × (Nat → Int32)
abbrev zM : Type := MethodName × ByteArray × Nat × Option FieldType
abbrev zH : Type := Nat → va_E
abbrev zQ : Type := Option Value → Nat → zH → Prop
def z_all : List Cond := lw_tbl.filter goodWord
theorem z_in {w : Cond} (h : w ∈ lw_tbl) (g : goodWord w = true) : w ∈ z_all := List.mem_filter.mpr ⟨h, g⟩
theorem z_good {w : Cond} (h : w ∈ z_all) : goodWord w = true := (List.mem_filter.mp h).2
def z_tys (K : zK) : List (ClassId × FieldType) := [(K.2.1 0, .int), (K.2.1 1, .byte), (K.2.1 2, .long), (K.2.1 3, .boolean), (K.2.1 4, .object RX3)]
def z_ad (K : zK) (ad : Nat → Nat) (a : Nat) : Nat := if a < 1000 then ad a else if a = 2000 then K.2.2.2.2.1 else K.2.2.1 (a - 1000)
def z_v (K : zK) (ad : Nat → Nat) : Value → Value
  | .ref a => .ref (z_ad K ad a)
  | v => v
def z_e (K : zK) (ad : Nat → Nat) : va_E → va_E
  | .inl (t, n, .inr (.inr (.inr (.inr f)))) => .inl (K.2.1 t, n, .inr (.inr (.inr (.inr (fun j => (f j).map (z_ad K ad))))))
  | .inl (t, x) => .inl (K.2.1 t, x)
  | .inr (c, fs) => .inr (c, fs.map (z_v K ad))
def z_w (K : zK) (ad : Nat → Nat) (n : Nat) (h : zH) : va_W := (List.range n).map (fun i => (z_ad K ad i, z_e K ad (h i)))
def z_up (h : zH) (k : Nat) (e : va_E) : zH := fun j => if j = k then e else h j
theorem z_up_self (h : zH) (k : Nat) (e : va_E) : z_up h k e k = e := if_pos rfl
theorem z_up_ne {h : zH} {k j : Nat} {e : va_E} (hj : j ≠ k) : z_up h k e j = h j := if_neg hj
theorem z_up_up (h : zH) (k : Nat) (a b : va_E) : z_up (z_up h k a) k b = z_up h k b := by
  funext j
  simp only [z_up]
  split <;> rfl
theorem z_up_id {h : zH} {k : Nat} {e : va_E} (he : h k = e) : z_up h k e = h := by
  funext j
  simp only [z_up]
  split
  · next q => rw [q, he]
  · rfl
theorem z_w_at {K : zK} {ad : Nat → Nat} {n k : Nat} {h : zH} (hk : k < n) : (z_w K ad n h)[k]? = some (z_ad K ad k, z_e K ad (h k)) := by
  simp [z_w, hk]
theorem z_w_inv {K : zK} {ad : Nat → Nat} {n k : Nat} {h : zH} {q : Nat × va_E} (hk : (z_w K ad n h)[k]? = some q) : k < n ∧ q = (z_ad K ad k, z_e K ad (h k)) := by
  have hl : k < n := by
    have := (List.getElem?_eq_some_iff.mp hk).1
    simpa [z_w] using this
  rw [z_w_at hl] at hk
  exact ⟨hl, (Option.some.inj hk).symm⟩
theorem z_w_set {K : zK} {ad : Nat → Nat} {n k : Nat} {h : zH} {e : va_E} : (z_w K ad n h).set k (z_ad K ad k, z_e K ad e) = z_w K ad n (z_up h k e) := by
  apply List.ext_getElem?
  intro j
  by_cases hj : j < n
  · rw [z_w_at hj]
    by_cases hk : j = k
    · subst hk
      rw [List.getElem?_set_self (by simpa [z_w] using hj), z_up_self]
    · rw [List.getElem?_set_ne (Ne.symm hk), z_w_at hj, z_up_ne hk]
  · have l1 : ((z_w K ad n h).set k (z_ad K ad k, z_e K ad e)).length ≤ j := by simp [z_w]; omega
    have l2 : (z_w K ad n (z_up h k e)).length ≤ j := by simp [z_w]; omega
    rw [List.getElem?_eq_none l1, List.getElem?_eq_none l2]
theorem z_v_cat (K : zK) (ad : Nat → Nat) (v : Value) : (z_v K ad v).category = v.category := by cases v <;> rfl
/-- String constants: which entry of the class file, the text, its bytes -/
def z_ix : List Nat := [72, 74, 76, 78, 80]
def z_tx : List String := ["hour", "ringer", "tower", "times", "rest"]
def z_len : List Nat := [4, 6, 5, 5, 4]
def z_byt : List (List Int32) := [[104, 111, 117, 114], [114, 105, 110, 103, 101, 114], [116, 111, 119, 101, 114], [116, 105, 109, 101, 115], [114, 101, 115, 116]]
/-- constructors of nest mates -/
def z_nest : List (String × Nat × MethodName) := [(RX5, 9, yX4_init), (RX5, 18, yX2_init), (RX5, 43, yX1_init)]
/-- what the machine's tables and the cells that nobody writes say: classes, Strings, statics, the script -/
def z_I (K : zK) (A : Nat → Prop) (U : State) (H : Heap) : Prop :=
  va_K K.1 vwCl (z_tys K) U ∧ vk_S 5 z_len z_byt K.2.2.1 K.2.2.2.1 A U H ∧ ((∀ i : Nat, i < 5 → vk_R RX4 (z_ix.getD i 0) (z_tx.getD i "") (K.2.2.1 i) U) ∧ (∀ q ∈ z_nest, va_Nw (.methodLinkNest q.1 q.2.1 q.2.2 RX5) U) ∧ va_AO RX3 U) ∧
  va_Z "java/lang/String" "COMPACT_STRINGS" "Z" (.int 1) A U H ∧ va_Zq "jdk/internal/util/Preconditions" "SIOOBE_FORMATTER" "Ljava/util/function/BiFunction;" A U H ∧
  va_X K.2.2.2.2.1 K.2.2.2.2.2.1 K.2.2.2.2.2.2 U H ∧ K.2.2.2.2.1 < H.size ∧ ¬ A K.2.2.2.2.1
theorem z_I.call {K : zK} {A B : Nat → Prop} {s U : State} {H : Heap} {locs : List Loc} (h : z_I K A s s.heap) (hS : va_S A s.heap H locs) (hB : ∀ q, B q → A q) (hW : s.WarmedH U.vm) : z_I K B U H := by
  obtain ⟨h1, h2, h3, h4, h5, h6, h7, h8⟩ := h
  have al : s.vm.Alike U.vm := hW.alike
  exact ⟨h1.moved al, ((h2.kept hS.2.1).narrow hB).moved al, ⟨fun i hi => (h3.1 i hi).warm hW, fun q hq => (h3.2.1 q hq).warmM hW, h3.2.2.moved al⟩, ((h4.kept hS.2.1).narrow hB).moved al, ((h5.kept hS.2.1).narrow hB).moved al, (h6.kept (hS.2.1 _ h7 h8)).moved al, Nat.lt_of_lt_of_le h7 hS.1, fun q => h8 (hB _ q)⟩
theorem z_I.calling {K : zK} {A : Nat → Prop} {U : State} {H : Heap} (a : Array Value) (g : JFrame) (mk : MethodId) (h : z_I K A U H) : z_I K A (U.calling g mk a) H := by
  obtain ⟨h1, h2, h3, h4, h5, h6, h7, h8⟩ := h
  have al : U.vm.Alike (U.calling g mk a).vm := Vm.Alike.refl U.vm
  exact ⟨h1.moved al, h2.moved al, ⟨fun i hi => (h3.1 i hi).same rfl, fun q hq => va_Nw.same rfl rfl (h3.2.1 q hq), h3.2.2.moved al⟩, h4.moved al, h5.moved al, h6.moved al, h7, h8⟩
def z_ws (M : zM) : List Cond := .code M.1 M.2.1 M.2.2.1 M.2.2.2 :: z_all
def z_rm (d mc ms : Nat) : Room := { frames := d, cells := mc, slots := ms, locals := 64 * d }
def z_Qc (K : zK) (Q : zQ) (ad : Nat → Nat) (n : Nat) (A : Nat → Prop) : Array Value → State → Outcome → State → Prop := fun _ st o t =>
  (∃ (v : Option Value) (n' : Nat) (h' : zH) (ad' : Nat → Nat), o = .returned (v.map (z_v K ad')) ∧ Q v n' h' ∧ n ≤ n' ∧ (∀ k, k < n → ad' k = ad k) ∧ (n' = n → ad' = ad) ∧ va_P K.1 vwCl (z_w K ad' n' h') t.heap ∧ va_D A (z_w K ad' n' h')) ∧ va_F A st t
def z_Pc (K : zK) (ad : Nat → Nat) (n : Nat) (h : zH) (sz : Nat) (av : List Value) : Array Value → State → Prop :=
  va_Pc (av.map (z_v K ad)) (fun U => U.heap.size = sz ∧ va_P K.1 vwCl (z_w K ad n h) U.heap ∧ z_I K (va_A (z_w K ad n h) sz) U U.heap ∧ va_D (fun _ => True) (z_w K ad n h))
/-- method M, called with av over the heap h of n cells, comes back with Q; d: how deep its calls go; mc, ms: what it may make -/
def zRuns (K : zK) (l : Launch) (d : Nat) (M : zM) (av : List Value) (n : Nat) (h : zH) (mc ms : Nat) (Q : zQ) : Prop :=
  ∀ (ad : Nat → Nat) (sz : Nat), Met l M.1 (z_ws M) (z_rm d mc ms) (z_Pc K ad n h sz av) (z_Qc K Q ad n (va_A (z_w K ad n h) sz)) mc ms (va_A (z_w K ad n h) sz)
def zC (K : zK) (d : Nat) (M : zM) (p : Program) (R : Room) (s : State) (m : MethodId) (args : Array Value) (meth : Method) (c : Code) (A : Nat → Prop) (MC MS : Nat) : Prop :=
  p.tables.exec = Jvm.exec ∧ c.code = M.2.1 ∧ meth.sig.returnType = M.2.2.2 ∧ c.maxLocals = M.2.2.1 ∧ s.vm.findClass M.1.cls = some m.cls ∧ meth.name = M.1.name ∧ (∀ w ∈ z_all, w.before args s = true) ∧ meth.locks = false ∧
  z_I K A s s.heap ∧ (∀ q, s.heap.size ≤ q → A q) ∧ d ≤ R.frames ∧ 64 * d ≤ R.locals ∧ MC ≤ R.cells ∧ MS ≤ R.slots
def zD (K : zK) (M : zM) (A : Nat → Prop) (s : State) (n0 : Nat) (ad0 ad : Nat → Nat) (n : Nat) (h : zH) (H : Heap) (locs : List Loc) (cells slots mc ms MC MS : Nat) (ls : List (Nat × Value)) (lsA : Array Slot) : Prop :=
  n0 ≤ n ∧ (∀ k, k < n0 → ad k = ad0 k) ∧ (n = n0 → ad = ad0) ∧ cells + mc ≤ MC ∧ slots + ms ≤ MS ∧ va_P K.1 vwCl (z_w K ad n h) H ∧ va_D A (z_w K ad n h) ∧ va_S A s.heap H locs ∧ lv_has lsA M.2.2.1 (ls.map (fun q => (q.1, z_v K ad q.2)))
/-- M, at pc with locals ls and stack st over the heap h, comes to its end with Q -/
def zGo (K : zK) (l : Launch) (d : Nat) (M : zM) (pc : Nat) (ls : List (Nat × Value)) (st : List Value) (n : Nat) (h : zH) (mc ms : Nat) (Q : zQ) : Prop :=
  ∀ (p : Program) (e : Env) (R : Room) (s : State) (m : MethodId) (args : Array Value) (below : List Frame) (meth : Method) (c : Code) (A : Nat → Prop) (n0 : Nat) (ad0 ad : Nat → Nat) (H : Heap) (locs : List Loc) (cells slots MC MS : Nat) (lsA : Array Slot),
    zC K d M p R s m args meth c A MC MS → zD K M A s n0 ad0 ad n h H locs cells slots mc ms MC MS ls lsA →
    W p l e R s m args below meth c H locs cells slots (MQ below (z_Qc K Q ad0 n0 A) args s MC MS A) (F0 m pc lsA (st.map (z_v K ad)))
def zget : List (Nat × Value) → Nat → Option Value
  | [], _ => none
  | (j, v) :: t, i => if j = i then some v else zget t i
theorem zget_mem {ls : List (Nat × Value)} {i : Nat} {v : Value} (h : zget ls i = some v) : (i, v) ∈ ls := by
  induction ls with
  | nil => cases h
  | cons q t ih =>
    obtain ⟨j, w⟩ := q
    simp only [zget] at h
    split at h
    · next e => cases h; rw [e]; exact List.mem_cons_self
    · exact List.mem_cons_of_mem _ (ih h)
def zins : List (Nat × Value) → Nat → Value → List (Nat × Value)
  | [], i, v => [(i, v)]
  | (j, w) :: t, i, v => if i < j then (i, v) :: (j, w) :: t else (j, w) :: zins t i v
theorem zins_mem {l : List (Nat × Value)} {i : Nat} {v : Value} {q : Nat × Value} (h : q ∈ zins l i v) : q ∈ (i, v) :: l := by
  induction l with
  | nil => exact h
  | cons x t ih =>
    obtain ⟨j, w⟩ := x
    simp only [zins] at h
    split at h
    · exact h
    · rcases List.mem_cons.mp h with h | h
      · exact List.mem_cons_of_mem _ (List.mem_cons.mpr (Or.inl h))
      · rcases List.mem_cons.mp (ih h) with h | h
        · exact List.mem_cons.mpr (Or.inl h)
        · exact List.mem_cons_of_mem _ (List.mem_cons_of_mem _ h)
def zset1 (ls : List (Nat × Value)) (i : Nat) (v : Value) : List (Nat × Value) := zins (ls.filter (fun q => !(q.1 == i) && !(q.1 + 1 == i && q.2.category == 2))) i v
def zset2 (ls : List (Nat × Value)) (i : Nat) (v : Value) : List (Nat × Value) := zins (ls.filter (fun q => !(q.1 == i) && (!(q.1 == i + 1) && !(q.1 + 1 == i && q.2.category == 2)))) i v
theorem z_zset1 {K : zK} {ad : Nat → Nat} {nL i : Nat} {v : Value} {ls : List (Nat × Value)} {lsA : Array Slot} (h : lv_has lsA nL ((i, z_v K ad v) :: (ls.map (fun q => (q.1, z_v K ad q.2))).filter (fun q => !(q.1 == i) && !(q.1 + 1 == i && q.2.category == 2)))) : lv_has lsA nL ((zset1 ls i v).map (fun q => (q.1, z_v K ad q.2))) := by
  refine ⟨h.1, h.2.1, fun q hq => h.2.2 q ?_⟩
  obtain ⟨x, hx, rfl⟩ := List.mem_map.mp hq
  rcases List.mem_cons.mp (zins_mem hx) with rfl | hx
  · exact List.mem_cons_self
  · obtain ⟨h1, h2⟩ := List.mem_filter.mp hx
    refine List.mem_cons_of_mem _ (List.mem_filter.mpr ⟨List.mem_map.mpr ⟨x, h1, rfl⟩, ?_⟩)
    simp only [z_v_cat]
    exact h2
theorem z_zset2 {K : zK} {ad : Nat → Nat} {nL i : Nat} {v : Value} {ls : List (Nat × Value)} {lsA : Array Slot} (h : lv_has lsA nL ((i, z_v K ad v) :: (ls.map (fun q => (q.1, z_v K ad q.2))).filter (fun q => !(q.1 == i) && (!(q.1 == i + 1) && !(q.1 + 1 == i && q.2.category == 2))))) : lv_has lsA nL ((zset2 ls i v).map (fun q => (q.1, z_v K ad q.2))) := by
  refine ⟨h.1, h.2.1, fun q hq => h.2.2 q ?_⟩
  obtain ⟨x, hx, rfl⟩ := List.mem_map.mp hq
  rcases List.mem_cons.mp (zins_mem hx) with rfl | hx
  · exact List.mem_cons_self
  · obtain ⟨h1, h2⟩ := List.mem_filter.mp hx
    refine List.mem_cons_of_mem _ (List.mem_filter.mpr ⟨List.mem_map.mpr ⟨x, h1, rfl⟩, ?_⟩)
    simp only [z_v_cat]
    exact h2
theorem z_lv {K : zK} {ad : Nat → Nat} {nL i : Nat} {v : Value} {ls : List (Nat × Value)} {lsA : Array Slot} (h : lv_has lsA nL (ls.map (fun q => (q.1, z_v K ad q.2)))) (hv : zget ls i = some v) : lsA[i]? = some (.val (z_v K ad v)) :=
  h.2.2 (i, z_v K ad v) (List.mem_map.mpr ⟨(i, v), zget_mem hv, rfl⟩)
theorem z_lvk {K : zK} {ad : Nat → Nat} {i : Nat} {v : Value} {ls : List (Nat × Value)} (hv : zget ls i = some v) : ∃ k : Nat, (ls.map (fun q => (q.1, z_v K ad q.2)))[k]? = some (i, z_v K ad v) :=
  List.getElem?_of_mem (List.mem_map.mpr ⟨(i, v), zget_mem hv, rfl⟩)

theorem zg_iconst {K : zK} {l : Launch} {d : Nat} {M : zM} {pc : Nat} {ls : List (Nat × Value)} {st : List Value} {n : Nat} {h : zH} {mc ms : Nat} {Q : zQ} {i : Int} (v : Int32) (hv : Int32.ofInt i = v) (hd : decode M.2.1 pc = .ok (.iconst i, 1)) (k : zGo K l d M (pc + 1) ls (.int v :: st) n h mc ms Q) : zGo K l d M pc ls (st) n h mc ms Q := by
  intro p e R s m args below meth c A n0 ad0 ad H locs cells slots MC MS lsA C D
  exact lv_iconst C.1 C.2.1 hd hv (k p e R s m args below meth c A n0 ad0 ad H locs cells slots MC MS lsA C D)
theorem zg_bipush {K : zK} {l : Launch} {d : Nat} {M : zM} {pc : Nat} {ls : List (Nat × Value)} {st : List Value} {n : Nat} {h : zH} {mc ms : Nat} {Q : zQ} {i : Int} (v : Int32) (hv : (Int8.ofInt i).toInt32 = v) (hd : decode M.2.1 pc = .ok (.bipush i, 2)) (k : zGo K l d M (pc + 2) ls (.int v :: st) n h mc ms Q) : zGo K l d M pc ls (st) n h mc ms Q := by
  intro p e R s m args below meth c A n0 ad0 ad H locs cells slots MC MS lsA C D
  exact lv_bipush C.1 C.2.1 hd hv (k p e R s m args below meth c A n0 ad0 ad H locs cells slots MC MS lsA C D)
theorem zg_sipush {K : zK} {l : Launch} {d : Nat} {M : zM} {pc : Nat} {ls : List (Nat × Value)} {st : List Value} {n : Nat} {h : zH} {mc ms : Nat} {Q : zQ} {i : Int} (v : Int32) (hv : (Int16.ofInt i).toInt32 = v) (hd : decode M.2.1 pc = .ok (.sipush i, 3)) (k : zGo K l d M (pc + 3) ls (.int v :: st) n h mc ms Q) : zGo K l d M pc ls (st) n h mc ms Q := by
  intro p e R s m args below meth c A n0 ad0 ad H locs cells slots MC MS lsA C D
  exact lv_sipush C.1 C.2.1 hd hv (k p e R s m args below meth c A n0 ad0 ad H locs cells slots MC MS lsA C D)
theorem zg_lconst {K : zK} {l : Launch} {d : Nat} {M : zM} {pc : Nat} {ls : List (Nat × Value)} {st : List Value} {n : Nat} {h : zH} {mc ms : Nat} {Q : zQ} {i : Fin 2} (v : Int64) (hv : Int64.ofNat (i : Nat) = v) (hd : decode M.2.1 pc = .ok (.lconst i, 1)) (k : zGo K l d M (pc + 1) ls (.long v :: st) n h mc ms Q) : zGo K l d M pc ls (st) n h mc ms Q := by
  intro p e R s m args below meth c A n0 ad0 ad H locs cells slots MC MS lsA C D
  exact lv_lconst C.1 C.2.1 hd hv (k p e R s m args below meth c A n0 ad0 ad H locs cells slots MC MS lsA C D)
theorem zg_iload_n {K : zK} {l : Launch} {d : Nat} {M : zM} {pc : Nat} {ls : List (Nat × Value)} {st : List Value} {n : Nat} {h : zH} {mc ms : Nat} {Q : zQ} {i : Fin 4} {x : Int32} (hv : zget ls (i : Nat) = some (.int x)) (hd : decode M.2.1 pc = .ok (.iload_n i, 1)) (k : zGo K l d M (pc + 1) ls (.int x :: st) n h mc ms Q) : zGo K l d M pc ls (st) n h mc ms Q := by
  intro p e R s m args below meth c A n0 ad0 ad H locs cells slots MC MS lsA C D
  exact lv_iload_n C.1 C.2.1 hd rfl (z_lv D.2.2.2.2.2.2.2.2 hv) (k p e R s m args below meth c A n0 ad0 ad H locs cells slots MC MS lsA C D)
theorem zg_iload {K : zK} {l : Launch} {d : Nat} {M : zM} {pc : Nat} {ls : List (Nat × Value)} {st : List Value} {n : Nat} {h : zH} {mc ms : Nat} {Q : zQ} {i : Nat} {x : Int32} (hv : zget ls i = some (.int x)) (hd : decode M.2.1 pc = .ok (.iload i, 2)) (k : zGo K l d M (pc + 2) ls (.int x :: st) n h mc ms Q) : zGo K l d M pc ls (st) n h mc ms Q := by
  intro p e R s m args below meth c A n0 ad0 ad H locs cells slots MC MS lsA C D
  exact lv_iload C.1 C.2.1 hd (z_lv D.2.2.2.2.2.2.2.2 hv) (k p e R s m args below meth c A n0 ad0 ad H locs cells slots MC MS lsA C D)
theorem zg_lload_n {K : zK} {l : Launch} {d : Nat} {M : zM} {pc : Nat} {ls : List (Nat × Value)} {st : List Value} {n : Nat} {h : zH} {mc ms : Nat} {Q : zQ} {i : Fin 4} {x : Int64} (hv : zget ls (i : Nat) = some (.long x)) (hd : decode M.2.1 pc = .ok (.lload_n i, 1)) (k : zGo K l d M (pc + 1) ls (.long x :: st) n h mc ms Q) : zGo K l d M pc ls (st) n h mc ms Q := by
  intro p e R s m args below meth c A n0 ad0 ad H locs cells slots MC MS lsA C D
  exact lv_lload_n C.1 C.2.1 hd rfl (z_lv D.2.2.2.2.2.2.2.2 hv) (k p e R s m args below meth c A n0 ad0 ad H locs cells slots MC MS lsA C D)
theorem zg_lload {K : zK} {l : Launch} {d : Nat} {M : zM} {pc : Nat} {ls : List (Nat × Value)} {st : List Value} {n : Nat} {h : zH} {mc ms : Nat} {Q : zQ} {i : Nat} {x : Int64} (hv : zget ls i = some (.long x)) (hd : decode M.2.1 pc = .ok (.lload i, 2)) (k : zGo K l d M (pc + 2) ls (.long x :: st) n h mc ms Q) : zGo K l d M pc ls (st) n h mc ms Q := by
  intro p e R s m args below meth c A n0 ad0 ad H locs cells slots MC MS lsA C D
  exact lv_lload C.1 C.2.1 hd (z_lv D.2.2.2.2.2.2.2.2 hv) (k p e R s m args below meth c A n0 ad0 ad H locs cells slots MC MS lsA C D)
theorem zg_aload_n {K : zK} {l : Launch} {d : Nat} {M : zM} {pc : Nat} {ls : List (Nat × Value)} {st : List Value} {n : Nat} {h : zH} {mc ms : Nat} {Q : zQ} {i : Fin 4} {x : Nat} (hv : zget ls (i : Nat) = some (.ref x)) (hd : decode M.2.1 pc = .ok (.aload_n i, 1)) (k : zGo K l d M (pc + 1) ls (.ref x :: st) n h mc ms Q) : zGo K l d M pc ls (st) n h mc ms Q := by
  intro p e R s m args below meth c A n0 ad0 ad H locs cells slots MC MS lsA C D
  exact lv_aload_n C.1 C.2.1 hd rfl (z_lv D.2.2.2.2.2.2.2.2 hv) (k p e R s m args below meth c A n0 ad0 ad H locs cells slots MC MS lsA C D)
theorem zg_aload {K : zK} {l : Launch} {d : Nat} {M : zM} {pc : Nat} {ls : List (Nat × Value)} {st : List Value} {n : Nat} {h : zH} {mc ms : Nat} {Q : zQ} {i : Nat} {x : Nat} (hv : zget ls i = some (.ref x)) (hd : decode M.2.1 pc = .ok (.aload i, 2)) (k : zGo K l d M (pc + 2) ls (.ref x :: st) n h mc ms Q) : zGo K l d M pc ls (st) n h mc ms Q := by
  intro p e R s m args below meth c A n0 ad0 ad H locs cells slots MC MS lsA C D
  exact lv_aload C.1 C.2.1 hd (z_lv D.2.2.2.2.2.2.2.2 hv) (k p e R s m args below meth c A n0 ad0 ad H locs cells slots MC MS lsA C D)
theorem zg_iadd {K : zK} {l : Launch} {d : Nat} {M : zM} {pc : Nat} {ls : List (Nat × Value)} {st : List Value} {n : Nat} {h : zH} {mc ms : Nat} {Q : zQ} {x y : Int32}  (hd : decode M.2.1 pc = .ok (.iadd, 1)) (k : zGo K l d M (pc + 1) ls (.int (x + y) :: st) n h mc ms Q) : zGo K l d M pc ls (.int y :: .int x :: st) n h mc ms Q := by
  intro p e R s m args below meth c A n0 ad0 ad H locs cells slots MC MS lsA C D
  exact lv_iadd C.1 C.2.1 hd (k p e R s m args below meth c A n0 ad0 ad H locs cells slots MC MS lsA C D)
theorem zg_isub {K : zK} {l : Launch} {d : Nat} {M : zM} {pc : Nat} {ls : List (Nat × Value)} {st : List Value} {n : Nat} {h : zH} {mc ms : Nat} {Q : zQ} {x y : Int32}  (hd : decode M.2.1 pc = .ok (.isub, 1)) (k : zGo K l d M (pc + 1) ls (.int (x - y) :: st) n h mc ms Q) : zGo K l d M pc ls (.int y :: .int x :: st) n h mc ms Q := by
  intro p e R s m args below meth c A n0 ad0 ad H locs cells slots MC MS lsA C D
  exact lv_isub C.1 C.2.1 hd (k p e R s m args below meth c A n0 ad0 ad H locs cells slots MC MS lsA C D)
theorem zg_imul {K : zK} {l : Launch} {d : Nat} {M : zM} {pc : Nat} {ls : List (Nat × Value)} {st : List Value} {n : Nat} {h : zH} {mc ms : Nat} {Q : zQ} {x y : Int32}  (hd : decode M.2.1 pc = .ok (.imul, 1)) (k : zGo K l d M (pc + 1) ls (.int (x * y) :: st) n h mc ms Q) : zGo K l d M pc ls (.int y :: .int x :: st) n h mc ms Q := by
  intro p e R s m args below meth c A n0 ad0 ad H locs cells slots MC MS lsA C D
  exact lv_imul C.1 C.2.1 hd (k p e R s m args below meth c A n0 ad0 ad H locs cells slots MC MS lsA C D)
theorem zg_iand {K : zK} {l : Launch} {d : Nat} {M : zM} {pc : Nat} {ls : List (Nat × Value)} {st : List Value} {n : Nat} {h : zH} {mc ms : Nat} {Q : zQ} {x y : Int32}  (hd : decode M.2.1 pc = .ok (.iand, 1)) (k : zGo K l d M (pc + 1) ls (.int (x &&& y) :: st) n h mc ms Q) : zGo K l d M pc ls (.int y :: .int x :: st) n h mc ms Q := by
  intro p e R s m args below meth c A n0 ad0 ad H locs cells slots MC MS lsA C D
  exact lv_iand C.1 C.2.1 hd (k p e R s m args below meth c A n0 ad0 ad H locs cells slots MC MS lsA C D)
theorem zg_ior {K : zK} {l : Launch} {d : Nat} {M : zM} {pc : Nat} {ls : List (Nat × Value)} {st : List Value} {n : Nat} {h : zH} {mc ms : Nat} {Q : zQ} {x y : Int32}  (hd : decode M.2.1 pc = .ok (.ior, 1)) (k : zGo K l d M (pc + 1) ls (.int (x ||| y) :: st) n h mc ms Q) : zGo K l d M pc ls (.int y :: .int x :: st) n h mc ms Q := by
  intro p e R s m args below meth c A n0 ad0 ad H locs cells slots MC MS lsA C D
  exact lv_ior C.1 C.2.1 hd (k p e R s m args below meth c A n0 ad0 ad H locs cells slots MC MS lsA C D)
theorem zg_ixor {K : zK} {l : Launch} {d : Nat} {M : zM} {pc : Nat} {ls : List (Nat × Value)} {st : List Value} {n : Nat} {h : zH} {mc ms : Nat} {Q : zQ} {x y : Int32}  (hd : decode M.2.1 pc = .ok (.ixor, 1)) (k : zGo K l d M (pc + 1) ls (.int (x ^^^ y) :: st) n h mc ms Q) : zGo K l d M pc ls (.int y :: .int x :: st) n h mc ms Q := by
  intro p e R s m args below meth c A n0 ad0 ad H locs cells slots MC MS lsA C D
  exact lv_ixor C.1 C.2.1 hd (k p e R s m args below meth c A n0 ad0 ad H locs cells slots MC MS lsA C D)
theorem zg_ishl {K : zK} {l : Launch} {d : Nat} {M : zM} {pc : Nat} {ls : List (Nat × Value)} {st : List Value} {n : Nat} {h : zH} {mc ms : Nat} {Q : zQ} {x y : Int32}  (hd : decode M.2.1 pc = .ok (.ishl, 1)) (k : zGo K l d M (pc + 1) ls (.int (x <<< (y &&& 31)) :: st) n h mc ms Q) : zGo K l d M pc ls (.int y :: .int x :: st) n h mc ms Q := by
  intro p e R s m args below meth c A n0 ad0 ad H locs cells slots MC MS lsA C D
  exact lv_ishl C.1 C.2.1 hd (k p e R s m args below meth c A n0 ad0 ad H locs cells slots MC MS lsA C D)
theorem zg_ishr {K : zK} {l : Launch} {d : Nat} {M : zM} {pc : Nat} {ls : List (Nat × Value)} {st : List Value} {n : Nat} {h : zH} {mc ms : Nat} {Q : zQ} {x y : Int32}  (hd : decode M.2.1 pc = .ok (.ishr, 1)) (k : zGo K l d M (pc + 1) ls (.int (x >>> (y &&& 31)) :: st) n h mc ms Q) : zGo K l d M pc ls (.int y :: .int x :: st) n h mc ms Q := by
  intro p e R s m args below meth c A n0 ad0 ad H locs cells slots MC MS lsA C D
  exact lv_ishr C.1 C.2.1 hd (k p e R s m args below meth c A n0 ad0 ad H locs cells slots MC MS lsA C D)
theorem zg_iushr {K : zK} {l : Launch} {d : Nat} {M : zM} {pc : Nat} {ls : List (Nat × Value)} {st : List Value} {n : Nat} {h : zH} {mc ms : Nat} {Q : zQ} {x y : Int32}  (hd : decode M.2.1 pc = .ok (.iushr, 1)) (k : zGo K l d M (pc + 1) ls (.int (x.toUInt32 >>> (y.toUInt32 &&& Int32.toUInt32 31)).toInt32 :: st) n h mc ms Q) : zGo K l d M pc ls (.int y :: .int x :: st) n h mc ms Q := by
  intro p e R s m args below meth c A n0 ad0 ad H locs cells slots MC MS lsA C D
  exact lv_iushr C.1 C.2.1 hd rfl (k p e R s m args below meth c A n0 ad0 ad H locs cells slots MC MS lsA C D)
theorem zg_idiv {K : zK} {l : Launch} {d : Nat} {M : zM} {pc : Nat} {ls : List (Nat × Value)} {st : List Value} {n : Nat} {h : zH} {mc ms : Nat} {Q : zQ} {x y : Int32} (hne : ¬ y = 0) (hd : decode M.2.1 pc = .ok (.idiv, 1)) (k : zGo K l d M (pc + 1) ls (.int (x / y) :: st) n h mc ms Q) : zGo K l d M pc ls (.int y :: .int x :: st) n h mc ms Q := by
  intro p e R s m args below meth c A n0 ad0 ad H locs cells slots MC MS lsA C D
  exact lv_idiv C.1 C.2.1 hd hne (k p e R s m args below meth c A n0 ad0 ad H locs cells slots MC MS lsA C D)
theorem zg_irem {K : zK} {l : Launch} {d : Nat} {M : zM} {pc : Nat} {ls : List (Nat × Value)} {st : List Value} {n : Nat} {h : zH} {mc ms : Nat} {Q : zQ} {x y : Int32} (hne : ¬ y = 0) (hd : decode M.2.1 pc = .ok (.irem, 1)) (k : zGo K l d M (pc + 1) ls (.int (x - x / y * y) :: st) n h mc ms Q) : zGo K l d M pc ls (.int y :: .int x :: st) n h mc ms Q := by
  intro p e R s m args below meth c A n0 ad0 ad H locs cells slots MC MS lsA C D
  exact lv_irem C.1 C.2.1 hd hne (k p e R s m args below meth c A n0 ad0 ad H locs cells slots MC MS lsA C D)
theorem zg_ineg {K : zK} {l : Launch} {d : Nat} {M : zM} {pc : Nat} {ls : List (Nat × Value)} {st : List Value} {n : Nat} {h : zH} {mc ms : Nat} {Q : zQ} {x : Int32}  (hd : decode M.2.1 pc = .ok (.ineg, 1)) (k : zGo K l d M (pc + 1) ls (.int (-x) :: st) n h mc ms Q) : zGo K l d M pc ls (.int x :: st) n h mc ms Q := by
  intro p e R s m args below meth c A n0 ad0 ad H locs cells slots MC MS lsA C D
  exact lv_ineg C.1 C.2.1 hd (k p e R s m args below meth c A n0 ad0 ad H locs cells slots MC MS lsA C D)
theorem zg_ladd {K : zK} {l : Launch} {d : Nat} {M : zM} {pc : Nat} {ls : List (Nat × Value)} {st : List Value} {n : Nat} {h : zH} {mc ms : Nat} {Q : zQ} {x y : Int64}  (hd : decode M.2.1 pc = .ok (.ladd, 1)) (k : zGo K l d M (pc + 1) ls (.long (x + y) :: st) n h mc ms Q) : zGo K l d M pc ls (.long y :: .long x :: st) n h mc ms Q := by
  intro p e R s m args below meth c A n0 ad0 ad H locs cells slots MC MS lsA C D
  exact lv_ladd C.1 C.2.1 hd (k p e R s m args below meth c A n0 ad0 ad H locs cells slots MC MS lsA C D)
theorem zg_lsub {K : zK} {l : Launch} {d : Nat} {M : zM} {pc : Nat} {ls : List (Nat × Value)} {st : List Value} {n : Nat} {h : zH} {mc ms : Nat} {Q : zQ} {x y : Int64}  (hd : decode M.2.1 pc = .ok (.lsub, 1)) (k : zGo K l d M (pc + 1) ls (.long (x - y) :: st) n h mc ms Q) : zGo K l d M pc ls (.long y :: .long x :: st) n h mc ms Q := by
  intro p e R s m args below meth c A n0 ad0 ad H locs cells slots MC MS lsA C D
  exact lv_lsub C.1 C.2.1 hd (k p e R s m args below meth c A n0 ad0 ad H locs cells slots MC MS lsA C D)
theorem zg_land {K : zK} {l : Launch} {d : Nat} {M : zM} {pc : Nat} {ls : List (Nat × Value)} {st : List Value} {n : Nat} {h : zH} {mc ms : Nat} {Q : zQ} {x y : Int64}  (hd : decode M.2.1 pc = .ok (.land, 1)) (k : zGo K l d M (pc + 1) ls (.long (x &&& y) :: st) n h mc ms Q) : zGo K l d M pc ls (.long y :: .long x :: st) n h mc ms Q := by
  intro p e R s m args below meth c A n0 ad0 ad H locs cells slots MC MS lsA C D
  exact lv_land C.1 C.2.1 hd (k p e R s m args below meth c A n0 ad0 ad H locs cells slots MC MS lsA C D)
theorem zg_lor {K : zK} {l : Launch} {d : Nat} {M : zM} {pc : Nat} {ls : List (Nat × Value)} {st : List Value} {n : Nat} {h : zH} {mc ms : Nat} {Q : zQ} {x y : Int64}  (hd : decode M.2.1 pc = .ok (.lor, 1)) (k : zGo K l d M (pc + 1) ls (.long (x ||| y) :: st) n h mc ms Q) : zGo K l d M pc ls (.long y :: .long x :: st) n h mc ms Q := by
  intro p e R s m args below meth c A n0 ad0 ad H locs cells slots MC MS lsA C D
  exact lv_lor C.1 C.2.1 hd (k p e R s m args below meth c A n0 ad0 ad H locs cells slots MC MS lsA C D)
theorem zg_lshl {K : zK} {l : Launch} {d : Nat} {M : zM} {pc : Nat} {ls : List (Nat × Value)} {st : List Value} {n : Nat} {h : zH} {mc ms : Nat} {Q : zQ} {x : Int64} {y : Int32}  (hd : decode M.2.1 pc = .ok (.lshl, 1)) (k : zGo K l d M (pc + 1) ls (.long (x <<< (y.toInt64 &&& 63)) :: st) n h mc ms Q) : zGo K l d M pc ls (.int y :: .long x :: st) n h mc ms Q := by
  intro p e R s m args below meth c A n0 ad0 ad H locs cells slots MC MS lsA C D
  exact lv_lshl C.1 C.2.1 hd rfl (k p e R s m args below meth c A n0 ad0 ad H locs cells slots MC MS lsA C D)
theorem zg_lshr {K : zK} {l : Launch} {d : Nat} {M : zM} {pc : Nat} {ls : List (Nat × Value)} {st : List Value} {n : Nat} {h : zH} {mc ms : Nat} {Q : zQ} {x : Int64} {y : Int32}  (hd : decode M.2.1 pc = .ok (.lshr, 1)) (k : zGo K l d M (pc + 1) ls (.long (x >>> (y.toInt64 &&& 63)) :: st) n h mc ms Q) : zGo K l d M pc ls (.int y :: .long x :: st) n h mc ms Q := by
  intro p e R s m args below meth c A n0 ad0 ad H locs cells slots MC MS lsA C D
  exact lv_lshr C.1 C.2.1 hd rfl (k p e R s m args below meth c A n0 ad0 ad H locs cells slots MC MS lsA C D)
theorem zg_lushr {K : zK} {l : Launch} {d : Nat} {M : zM} {pc : Nat} {ls : List (Nat × Value)} {st : List Value} {n : Nat} {h : zH} {mc ms : Nat} {Q : zQ} {x : Int64} {y : Int32}  (hd : decode M.2.1 pc = .ok (.lushr, 1)) (k : zGo K l d M (pc + 1) ls (.long (x.toUInt64 >>> (y.toInt64.toUInt64 &&& Int64.toUInt64 63)).toInt64 :: st) n h mc ms Q) : zGo K l d M pc ls (.int y :: .long x :: st) n h mc ms Q := by
  intro p e R s m args below meth c A n0 ad0 ad H locs cells slots MC MS lsA C D
  exact lv_lushr C.1 C.2.1 hd rfl (k p e R s m args below meth c A n0 ad0 ad H locs cells slots MC MS lsA C D)
theorem zg_lcmp {K : zK} {l : Launch} {d : Nat} {M : zM} {pc : Nat} {ls : List (Nat × Value)} {st : List Value} {n : Nat} {h : zH} {mc ms : Nat} {Q : zQ} {x y : Int64}  (hd : decode M.2.1 pc = .ok (.lcmp, 1)) (k : zGo K l d M (pc + 1) ls (.int (lg_cmp x y) :: st) n h mc ms Q) : zGo K l d M pc ls (.long y :: .long x :: st) n h mc ms Q := by
  intro p e R s m args below meth c A n0 ad0 ad H locs cells slots MC MS lsA C D
  exact W.lcmp C.1 C.2.1 hd (k p e R s m args below meth c A n0 ad0 ad H locs cells slots MC MS lsA C D)
theorem zg_i2l {K : zK} {l : Launch} {d : Nat} {M : zM} {pc : Nat} {ls : List (Nat × Value)} {st : List Value} {n : Nat} {h : zH} {mc ms : Nat} {Q : zQ} {x : Int32}  (hd : decode M.2.1 pc = .ok (.i2l, 1)) (k : zGo K l d M (pc + 1) ls (.long x.toInt64 :: st) n h mc ms Q) : zGo K l d M pc ls (.int x :: st) n h mc ms Q := by
  intro p e R s m args below meth c A n0 ad0 ad H locs cells slots MC MS lsA C D
  exact lv_i2l C.1 C.2.1 hd rfl (k p e R s m args below meth c A n0 ad0 ad H locs cells slots MC MS lsA C D)
theorem zg_l2i {K : zK} {l : Launch} {d : Nat} {M : zM} {pc : Nat} {ls : List (Nat × Value)} {st : List Value} {n : Nat} {h : zH} {mc ms : Nat} {Q : zQ} {x : Int64}  (hd : decode M.2.1 pc = .ok (.l2i, 1)) (k : zGo K l d M (pc + 1) ls (.int x.toInt32 :: st) n h mc ms Q) : zGo K l d M pc ls (.long x :: st) n h mc ms Q := by
  intro p e R s m args below meth c A n0 ad0 ad H locs cells slots MC MS lsA C D
  exact lv_l2i C.1 C.2.1 hd rfl (k p e R s m args below meth c A n0 ad0 ad H locs cells slots MC MS lsA C D)
theorem zg_i2b {K : zK} {l : Launch} {d : Nat} {M : zM} {pc : Nat} {ls : List (Nat × Value)} {st : List Value} {n : Nat} {h : zH} {mc ms : Nat} {Q : zQ} {x : Int32}  (hd : decode M.2.1 pc = .ok (.i2b, 1)) (k : zGo K l d M (pc + 1) ls (.int x.toInt8.toInt32 :: st) n h mc ms Q) : zGo K l d M pc ls (.int x :: st) n h mc ms Q := by
  intro p e R s m args below meth c A n0 ad0 ad H locs cells slots MC MS lsA C D
  exact lv_i2b C.1 C.2.1 hd rfl (k p e R s m args below meth c A n0 ad0 ad H locs cells slots MC MS lsA C D)
theorem zg_pop {K : zK} {l : Launch} {d : Nat} {M : zM} {pc : Nat} {ls : List (Nat × Value)} {st : List Value} {n : Nat} {h : zH} {mc ms : Nat} {Q : zQ} {x : Value} (hx : x.category = 1) (hd : decode M.2.1 pc = .ok (.pop, 1)) (k : zGo K l d M (pc + 1) ls (st) n h mc ms Q) : zGo K l d M pc ls (x :: st) n h mc ms Q := by
  intro p e R s m args below meth c A n0 ad0 ad H locs cells slots MC MS lsA C D
  exact lv_pop C.1 C.2.1 hd (by rw [z_v_cat]; exact hx) (k p e R s m args below meth c A n0 ad0 ad H locs cells slots MC MS lsA C D)
theorem zg_dup {K : zK} {l : Launch} {d : Nat} {M : zM} {pc : Nat} {ls : List (Nat × Value)} {st : List Value} {n : Nat} {h : zH} {mc ms : Nat} {Q : zQ} {x : Value} (hx : x.category = 1) (hd : decode M.2.1 pc = .ok (.dup, 1)) (k : zGo K l d M (pc + 1) ls (x :: x :: st) n h mc ms Q) : zGo K l d M pc ls (x :: st) n h mc ms Q := by
  intro p e R s m args below meth c A n0 ad0 ad H locs cells slots MC MS lsA C D
  exact lv_dup C.1 C.2.1 hd (by rw [z_v_cat]; exact hx) (k p e R s m args below meth c A n0 ad0 ad H locs cells slots MC MS lsA C D)
theorem zg_dup2 {K : zK} {l : Launch} {d : Nat} {M : zM} {pc : Nat} {ls : List (Nat × Value)} {st : List Value} {n : Nat} {h : zH} {mc ms : Nat} {Q : zQ} {x y : Value} (hx : x.category = 1) (hy : y.category = 1) (hd : decode M.2.1 pc = .ok (.dup2, 1)) (k : zGo K l d M (pc + 1) ls (x :: y :: x :: y :: st) n h mc ms Q) : zGo K l d M pc ls (x :: y :: st) n h mc ms Q := by
  intro p e R s m args below meth c A n0 ad0 ad H locs cells slots MC MS lsA C D
  exact lv_dup2_11 C.1 C.2.1 hd (by rw [z_v_cat]; exact hx) (by rw [z_v_cat]; exact hy) (k p e R s m args below meth c A n0 ad0 ad H locs cells slots MC MS lsA C D)
theorem zg_istore_n {K : zK} {l : Launch} {d : Nat} {M : zM} {pc : Nat} {ls : List (Nat × Value)} {st : List Value} {n : Nat} {h : zH} {mc ms : Nat} {Q : zQ} {i : Fin 4} {x : Int32} (hi : (i : Nat) < M.2.2.1) (hd : decode M.2.1 pc = .ok (.istore_n i, 1)) (k : zGo K l d M (pc + 1) (zset1 ls (i : Nat) (.int x)) st n h mc ms Q) : zGo K l d M pc ls (.int x :: st) n h mc ms Q := by
  intro p e R s m args below meth c A n0 ad0 ad H locs cells slots MC MS lsA C D
  obtain ⟨D1, D2, D3, D4, D5, D6, D7, D8, D9⟩ := D
  exact lv_istore_n C.1 C.2.1 hd rfl D9 hi rfl (fun ls1 hl1 => k p e R s m args below meth c A n0 ad0 ad H locs cells slots MC MS ls1 C ⟨D1, D2, D3, D4, D5, D6, D7, D8, z_zset1 hl1⟩)
theorem zg_istore {K : zK} {l : Launch} {d : Nat} {M : zM} {pc : Nat} {ls : List (Nat × Value)} {st : List Value} {n : Nat} {h : zH} {mc ms : Nat} {Q : zQ} {i : Nat} {x : Int32} (hi : i < M.2.2.1) (hd : decode M.2.1 pc = .ok (.istore i, 2)) (k : zGo K l d M (pc + 2) (zset1 ls i (.int x)) st n h mc ms Q) : zGo K l d M pc ls (.int x :: st) n h mc ms Q := by
  intro p e R s m args below meth c A n0 ad0 ad H locs cells slots MC MS lsA C D
  obtain ⟨D1, D2, D3, D4, D5, D6, D7, D8, D9⟩ := D
  exact lv_istore C.1 C.2.1 hd D9 hi rfl (fun ls1 hl1 => k p e R s m args below meth c A n0 ad0 ad H locs cells slots MC MS ls1 C ⟨D1, D2, D3, D4, D5, D6, D7, D8, z_zset1 hl1⟩)
theorem zg_astore_n {K : zK} {l : Launch} {d : Nat} {M : zM} {pc : Nat} {ls : List (Nat × Value)} {st : List Value} {n : Nat} {h : zH} {mc ms : Nat} {Q : zQ} {i : Fin 4} {x : Nat} (hi : (i : Nat) < M.2.2.1) (hd : decode M.2.1 pc = .ok (.astore_n i, 1)) (k : zGo K l d M (pc + 1) (zset1 ls (i : Nat) (.ref x)) st n h mc ms Q) : zGo K l d M pc ls (.ref x :: st) n h mc ms Q := by
  intro p e R s m args below meth c A n0 ad0 ad H locs cells slots MC MS lsA C D
  obtain ⟨D1, D2, D3, D4, D5, D6, D7, D8, D9⟩ := D
  exact lv_astore_n C.1 C.2.1 hd rfl D9 hi rfl (fun ls1 hl1 => k p e R s m args below meth c A n0 ad0 ad H locs cells slots MC MS ls1 C ⟨D1, D2, D3, D4, D5, D6, D7, D8, z_zset1 hl1⟩)
theorem zg_astore {K : zK} {l : Launch} {d : Nat} {M : zM} {pc : Nat} {ls : List (Nat × Value)} {st : List Value} {n : Nat} {h : zH} {mc ms : Nat} {Q : zQ} {i : Nat} {x : Nat} (hi : i < M.2.2.1) (hd : decode M.2.1 pc = .ok (.astore i, 2)) (k : zGo K l d M (pc + 2) (zset1 ls i (.ref x)) st n h mc ms Q) : zGo K l d M pc ls (.ref x :: st) n h mc ms Q := by
  intro p e R s m args below meth c A n0 ad0 ad H locs cells slots MC MS lsA C D
  obtain ⟨D1, D2, D3, D4, D5, D6, D7, D8, D9⟩ := D
  exact lv_astore C.1 C.2.1 hd D9 hi rfl (fun ls1 hl1 => k p e R s m args below meth c A n0 ad0 ad H locs cells slots MC MS ls1 C ⟨D1, D2, D3, D4, D5, D6, D7, D8, z_zset1 hl1⟩)
theorem zg_lstore_n {K : zK} {l : Launch} {d : Nat} {M : zM} {pc : Nat} {ls : List (Nat × Value)} {st : List Value} {n : Nat} {h : zH} {mc ms : Nat} {Q : zQ} {i : Fin 4} {x : Int64} (hi : (i : Nat) + 1 < M.2.2.1) (hd : decode M.2.1 pc = .ok (.lstore_n i, 1)) (k : zGo K l d M (pc + 1) (zset2 ls (i : Nat) (.long x)) st n h mc ms Q) : zGo K l d M pc ls (.long x :: st) n h mc ms Q := by
  intro p e R s m args below meth c A n0 ad0 ad H locs cells slots MC MS lsA C D
  obtain ⟨D1, D2, D3, D4, D5, D6, D7, D8, D9⟩ := D
  exact lv_lstore_n C.1 C.2.1 hd rfl D9 hi rfl (fun ls1 hl1 => k p e R s m args below meth c A n0 ad0 ad H locs cells slots MC MS ls1 C ⟨D1, D2, D3, D4, D5, D6, D7, D8, z_zset2 hl1⟩)
theorem zg_lstore {K : zK} {l : Launch} {d : Nat} {M : zM} {pc : Nat} {ls : List (Nat × Value)} {st : List Value} {n : Nat} {h : zH} {mc ms : Nat} {Q : zQ} {i : Nat} {x : Int64} (hi : i + 1 < M.2.2.1) (hd : decode M.2.1 pc = .ok (.lstore i, 2)) (k : zGo K l d M (pc + 2) (zset2 ls i (.long x)) st n h mc ms Q) : zGo K l d M pc ls (.long x :: st) n h mc ms Q := by
  intro p e R s m args below meth c A n0 ad0 ad H locs cells slots MC MS lsA C D
  obtain ⟨D1, D2, D3, D4, D5, D6, D7, D8, D9⟩ := D
  exact lv_lstore C.1 C.2.1 hd D9 hi rfl (fun ls1 hl1 => k p e R s m args below meth c A n0 ad0 ad H locs cells slots MC MS ls1 C ⟨D1, D2, D3, D4, D5, D6, D7, D8, z_zset2 hl1⟩)
theorem zg_iinc {K : zK} {l : Launch} {d : Nat} {M : zM} {pc : Nat} {ls : List (Nat × Value)} {st : List Value} {n : Nat} {h : zH} {mc ms : Nat} {Q : zQ} {i : Nat} {j : Int} {x : Int32} (v : Int32) (hj : Int32.ofInt j = v) (hv : zget ls i = some (.int x)) (hi : i < M.2.2.1) (hd : decode M.2.1 pc = .ok (.iinc i j, 3)) (k : zGo K l d M (pc + 3) (zset1 ls i (.int (x + v))) st n h mc ms Q) : zGo K l d M pc ls st n h mc ms Q := by
  intro p e R s m args below meth c A n0 ad0 ad H locs cells slots MC MS lsA C D
  obtain ⟨D1, D2, D3, D4, D5, D6, D7, D8, D9⟩ := D
  obtain ⟨kk, hk⟩ := z_lvk (K := K) (ad := ad) hv
  exact lv_iinc C.1 C.2.1 hd D9 hk (by rw [hj]) hi rfl (fun ls1 hl1 => k p e R s m args below meth c A n0 ad0 ad H locs cells slots MC MS ls1 C ⟨D1, D2, D3, D4, D5, D6, D7, D8, z_zset1 hl1⟩)
theorem zg_icmp_eq {K : zK} {l : Launch} {d : Nat} {M : zM} {pc : Nat} {ls : List (Nat × Value)} {st : List Value} {n : Nat} {h : zH} {mc ms : Nat} {Q : zQ} {x y : Int32} {off : Int} {tgt : Nat} (ht : (pc : Int) + off = (tgt : Int)) (hd : decode M.2.1 pc = .ok (.if_icmp .eq off, 3)) (kt : x = y → zGo K l d M tgt ls st n h mc ms Q) (kf : ¬ x = y → zGo K l d M (pc + 3) ls st n h mc ms Q) : zGo K l d M pc ls (.int y :: .int x :: st) n h mc ms Q := by
  intro p e R s m args below meth c A n0 ad0 ad H locs cells slots MC MS lsA C D
  exact lv_icmp_eq C.1 C.2.1 hd ht (fun q => kt q p e R s m args below meth c A n0 ad0 ad H locs cells slots MC MS lsA C D) (fun q => kf q p e R s m args below meth c A n0 ad0 ad H locs cells slots MC MS lsA C D)
theorem zg_if_eq {K : zK} {l : Launch} {d : Nat} {M : zM} {pc : Nat} {ls : List (Nat × Value)} {st : List Value} {n : Nat} {h : zH} {mc ms : Nat} {Q : zQ} {x : Int32} {off : Int} {tgt : Nat} (ht : (pc : Int) + off = (tgt : Int)) (hd : decode M.2.1 pc = .ok (.ifCond .eq off, 3)) (kt : x = 0 → zGo K l d M tgt ls st n h mc ms Q) (kf : ¬ x = 0 → zGo K l d M (pc + 3) ls st n h mc ms Q) : zGo K l d M pc ls (.int x :: st) n h mc ms Q := by
  intro p e R s m args below meth c A n0 ad0 ad H locs cells slots MC MS lsA C D
  exact lv_if_eq C.1 C.2.1 hd ht (fun q => kt q p e R s m args below meth c A n0 ad0 ad H locs cells slots MC MS lsA C D) (fun q => kf q p e R s m args below meth c A n0 ad0 ad H locs cells slots MC MS lsA C D)
theorem zg_icmp_ne {K : zK} {l : Launch} {d : Nat} {M : zM} {pc : Nat} {ls : List (Nat × Value)} {st : List Value} {n : Nat} {h : zH} {mc ms : Nat} {Q : zQ} {x y : Int32} {off : Int} {tgt : Nat} (ht : (pc : Int) + off = (tgt : Int)) (hd : decode M.2.1 pc = .ok (.if_icmp .ne off, 3)) (kt : ¬ x = y → zGo K l d M tgt ls st n h mc ms Q) (kf : x = y → zGo K l d M (pc + 3) ls st n h mc ms Q) : zGo K l d M pc ls (.int y :: .int x :: st) n h mc ms Q := by
  intro p e R s m args below meth c A n0 ad0 ad H locs cells slots MC MS lsA C D
  exact lv_icmp_ne C.1 C.2.1 hd ht (fun q => kt q p e R s m args below meth c A n0 ad0 ad H locs cells slots MC MS lsA C D) (fun q => kf q p e R s m args below meth c A n0 ad0 ad H locs cells slots MC MS lsA C D)
theorem zg_if_ne {K : zK} {l : Launch} {d : Nat} {M : zM} {pc : Nat} {ls : List (Nat × Value)} {st : List Value} {n : Nat} {h : zH} {mc ms : Nat} {Q : zQ} {x : Int32} {off : Int} {tgt : Nat} (ht : (pc : Int) + off = (tgt : Int)) (hd : decode M.2.1 pc = .ok (.ifCond .ne off, 3)) (kt : ¬ x = 0 → zGo K l d M tgt ls st n h mc ms Q) (kf : x = 0 → zGo K l d M (pc + 3) ls st n h mc ms Q) : zGo K l d M pc ls (.int x :: st) n h mc ms Q := by
  intro p e R s m args below meth c A n0 ad0 ad H locs cells slots MC MS lsA C D
  exact lv_if_ne C.1 C.2.1 hd ht (fun q => kt q p e R s m args below meth c A n0 ad0 ad H locs cells slots MC MS lsA C D) (fun q => kf q p e R s m args below meth c A n0 ad0 ad H locs cells slots MC MS lsA C D)
theorem zg_icmp_lt {K : zK} {l : Launch} {d : Nat} {M : zM} {pc : Nat} {ls : List (Nat × Value)} {st : List Value} {n : Nat} {h : zH} {mc ms : Nat} {Q : zQ} {x y : Int32} {off : Int} {tgt : Nat} (ht : (pc : Int) + off = (tgt : Int)) (hd : decode M.2.1 pc = .ok (.if_icmp .lt off, 3)) (kt : x < y → zGo K l d M tgt ls st n h mc ms Q) (kf : ¬ x < y → zGo K l d M (pc + 3) ls st n h mc ms Q) : zGo K l d M pc ls (.int y :: .int x :: st) n h mc ms Q := by
  intro p e R s m args below meth c A n0 ad0 ad H locs cells slots MC MS lsA C D
  exact lv_icmp_lt C.1 C.2.1 hd ht (fun q => kt q p e R s m args below meth c A n0 ad0 ad H locs cells slots MC MS lsA C D) (fun q => kf q p e R s m args below meth c A n0 ad0 ad H locs cells slots MC MS lsA C D)
theorem zg_if_lt {K : zK} {l : Launch} {d : Nat} {M : zM} {pc : Nat} {ls : List (Nat × Value)} {st : List Value} {n : Nat} {h : zH} {mc ms : Nat} {Q : zQ} {x : Int32} {off : Int} {tgt : Nat} (ht : (pc : Int) + off = (tgt : Int)) (hd : decode M.2.1 pc = .ok (.ifCond .lt off, 3)) (kt : x < 0 → zGo K l d M tgt ls st n h mc ms Q) (kf : ¬ x < 0 → zGo K l d M (pc + 3) ls st n h mc ms Q) : zGo K l d M pc ls (.int x :: st) n h mc ms Q := by
  intro p e R s m args below meth c A n0 ad0 ad H locs cells slots MC MS lsA C D
  exact lv_if_lt C.1 C.2.1 hd ht (fun q => kt q p e R s m args below meth c A n0 ad0 ad H locs cells slots MC MS lsA C D) (fun q => kf q p e R s m args below meth c A n0 ad0 ad H locs cells slots MC MS lsA C D)
theorem zg_icmp_ge {K : zK} {l : Launch} {d : Nat} {M : zM} {pc : Nat} {ls : List (Nat × Value)} {st : List Value} {n : Nat} {h : zH} {mc ms : Nat} {Q : zQ} {x y : Int32} {off : Int} {tgt : Nat} (ht : (pc : Int) + off = (tgt : Int)) (hd : decode M.2.1 pc = .ok (.if_icmp .ge off, 3)) (kt : y ≤ x → zGo K l d M tgt ls st n h mc ms Q) (kf : ¬ y ≤ x → zGo K l d M (pc + 3) ls st n h mc ms Q) : zGo K l d M pc ls (.int y :: .int x :: st) n h mc ms Q := by
  intro p e R s m args below meth c A n0 ad0 ad H locs cells slots MC MS lsA C D
  exact lv_icmp_ge C.1 C.2.1 hd ht (fun q => kt q p e R s m args below meth c A n0 ad0 ad H locs cells slots MC MS lsA C D) (fun q => kf q p e R s m args below meth c A n0 ad0 ad H locs cells slots MC MS lsA C D)
theorem zg_if_ge {K : zK} {l : Launch} {d : Nat} {M : zM} {pc : Nat} {ls : List (Nat × Value)} {st : List Value} {n : Nat} {h : zH} {mc ms : Nat} {Q : zQ} {x : Int32} {off : Int} {tgt : Nat} (ht : (pc : Int) + off = (tgt : Int)) (hd : decode M.2.1 pc = .ok (.ifCond .ge off, 3)) (kt : 0 ≤ x → zGo K l d M tgt ls st n h mc ms Q) (kf : ¬ 0 ≤ x → zGo K l d M (pc + 3) ls st n h mc ms Q) : zGo K l d M pc ls (.int x :: st) n h mc ms Q := by
  intro p e R s m args below meth c A n0 ad0 ad H locs cells slots MC MS lsA C D
  exact lv_if_ge C.1 C.2.1 hd ht (fun q => kt q p e R s m args below meth c A n0 ad0 ad H locs cells slots MC MS lsA C D) (fun q => kf q p e R s m args below meth c A n0 ad0 ad H locs cells slots MC MS lsA C D)
theorem zg_icmp_gt {K : zK} {l : Launch} {d : Nat} {M : zM} {pc : Nat} {ls : List (Nat × Value)} {st : List Value} {n : Nat} {h : zH} {mc ms : Nat} {Q : zQ} {x y : Int32} {off : Int} {tgt : Nat} (ht : (pc : Int) + off = (tgt : Int)) (hd : decode M.2.1 pc = .ok (.if_icmp .gt off, 3)) (kt : y < x → zGo K l d M tgt ls st n h mc ms Q) (kf : ¬ y < x → zGo K l d M (pc + 3) ls st n h mc ms Q) : zGo K l d M pc ls (.int y :: .int x :: st) n h mc ms Q := by
  intro p e R s m args below meth c A n0 ad0 ad H locs cells slots MC MS lsA C D
  exact lv_icmp_gt C.1 C.2.1 hd ht (fun q => kt q p e R s m args below meth c A n0 ad0 ad H locs cells slots MC MS lsA C D) (fun q => kf q p e R s m args below meth c A n0 ad0 ad H locs cells slots MC MS lsA C D)
theorem zg_if_gt {K : zK} {l : Launch} {d : Nat} {M : zM} {pc : Nat} {ls : List (Nat × Value)} {st : List Value} {n : Nat} {h : zH} {mc ms : Nat} {Q : zQ} {x : Int32} {off : Int} {tgt : Nat} (ht : (pc : Int) + off = (tgt : Int)) (hd : decode M.2.1 pc = .ok (.ifCond .gt off, 3)) (kt : 0 < x → zGo K l d M tgt ls st n h mc ms Q) (kf : ¬ 0 < x → zGo K l d M (pc + 3) ls st n h mc ms Q) : zGo K l d M pc ls (.int x :: st) n h mc ms Q := by
  intro p e R s m args below meth c A n0 ad0 ad H locs cells slots MC MS lsA C D
  exact lv_if_gt C.1 C.2.1 hd ht (fun q => kt q p e R s m args below meth c A n0 ad0 ad H locs cells slots MC MS lsA C D) (fun q => kf q p e R s m args below meth c A n0 ad0 ad H locs cells slots MC MS lsA C D)
theorem zg_icmp_le {K : zK} {l : Launch} {d : Nat} {M : zM} {pc : Nat} {ls : List (Nat × Value)} {st : List Value} {n : Nat} {h : zH} {mc ms : Nat} {Q : zQ} {x y : Int32} {off : Int} {tgt : Nat} (ht : (pc : Int) + off = (tgt : Int)) (hd : decode M.2.1 pc = .ok (.if_icmp .le off, 3)) (kt : x ≤ y → zGo K l d M tgt ls st n h mc ms Q) (kf : ¬ x ≤ y → zGo K l d M (pc + 3) ls st n h mc ms Q) : zGo K l d M pc ls (.int y :: .int x :: st) n h mc ms Q := by
  intro p e R s m args below meth c A n0 ad0 ad H locs cells slots MC MS lsA C D
  exact lv_icmp_le C.1 C.2.1 hd ht (fun q => kt q p e R s m args below meth c A n0 ad0 ad H locs cells slots MC MS lsA C D) (fun q => kf q p e R s m args below meth c A n0 ad0 ad H locs cells slots MC MS lsA C D)
theorem zg_if_le {K : zK} {l : Launch} {d : Nat} {M : zM} {pc : Nat} {ls : List (Nat × Value)} {st : List Value} {n : Nat} {h : zH} {mc ms : Nat} {Q : zQ} {x : Int32} {off : Int} {tgt : Nat} (ht : (pc : Int) + off = (tgt : Int)) (hd : decode M.2.1 pc = .ok (.ifCond .le off, 3)) (kt : x ≤ 0 → zGo K l d M tgt ls st n h mc ms Q) (kf : ¬ x ≤ 0 → zGo K l d M (pc + 3) ls st n h mc ms Q) : zGo K l d M pc ls (.int x :: st) n h mc ms Q := by
  intro p e R s m args below meth c A n0 ad0 ad H locs cells slots MC MS lsA C D
  exact lv_if_le C.1 C.2.1 hd ht (fun q => kt q p e R s m args below meth c A n0 ad0 ad H locs cells slots MC MS lsA C D) (fun q => kf q p e R s m args below meth c A n0 ad0 ad H locs cells slots MC MS lsA C D)
theorem zg_goto {K : zK} {l : Launch} {d : Nat} {M : zM} {pc : Nat} {ls : List (Nat × Value)} {st : List Value} {n : Nat} {h : zH} {mc ms : Nat} {Q : zQ} {off : Int} {tgt : Nat} (ht : (pc : Int) + off = (tgt : Int)) (k : zGo K l d M tgt ls st n h mc ms Q) (hd : decode M.2.1 pc = .ok (.goto off, 3)) : zGo K l d M pc ls st n h mc ms Q := by
  intro p e R s m args below meth c A n0 ad0 ad H locs cells slots MC MS lsA C D
  exact lv_goto C.1 C.2.1 hd ht (k p e R s m args below meth c A n0 ad0 ad H locs cells slots MC MS lsA C D)
theorem zg_sub {K : zK} {l : Launch} {d : Nat} {M : zM} {pc : Nat} {ls : List (Nat × Value)} {st : List Value} {n : Nat} {h : zH} {mc ms : Nat} {Q : zQ} (ls' : List (Nat × Value)) (hs : ∀ q ∈ ls', q ∈ ls) (k : zGo K l d M pc ls' st n h mc ms Q) : zGo K l d M pc ls st n h mc ms Q := by
  intro p e R s m args below meth c A n0 ad0 ad H locs cells slots MC MS lsA C D
  obtain ⟨D1, D2, D3, D4, D5, D6, D7, D8, D9⟩ := D
  refine k p e R s m args below meth c A n0 ad0 ad H locs cells slots MC MS lsA C ⟨D1, D2, D3, D4, D5, D6, D7, D8, D9.1, D9.2.1, fun q hq => D9.2.2 q ?_⟩
  obtain ⟨x, hx, rfl⟩ := List.mem_map.mp hq
  exact List.mem_map.mpr ⟨x, hs x hx, rfl⟩
theorem zg_mono {K : zK} {l : Launch} {d : Nat} {M : zM} {pc : Nat} {ls : List (Nat × Value)} {st : List Value} {n : Nat} {h : zH} {mc ms : Nat} {Q Q' : zQ} (hQ : ∀ v n' h', Q v n' h' → Q' v n' h') (k : zGo K l d M pc ls st n h mc ms Q) : zGo K l d M pc ls st n h mc ms Q' := by
  intro p e R s m args below meth c A n0 ad0 ad H locs cells slots MC MS lsA C D T hT X
  obtain ⟨t, a, o, b1, b2, ⟨⟨v, n', h', ad', q1, q2, q3⟩, b3⟩, b4⟩ := k p e R s m args below meth c A n0 ad0 ad H locs cells slots MC MS lsA C D T hT X
  exact ⟨t, a, o, b1, b2, ⟨⟨v, n', h', ad', q1, hQ _ _ _ q2, q3⟩, b3⟩, b4⟩
/-- ends -/
theorem z_end {K : zK} {Q : zQ} {A : Nat → Prop} {s t : State} {n0 n : Nat} {ad0 ad : Nat → Nat} {h : zH} {H : Heap} {locs : List Loc} {args : Array Value} {v : Option Value} (hQ : Q v n h) (D1 : n0 ≤ n) (D2 : ∀ k, k < n0 → ad k = ad0 k) (D3 : n = n0 → ad = ad0) (D6 : va_P K.1 vwCl (z_w K ad n h) H) (D7 : va_D A (z_w K ad n h)) (D8 : va_S A s.heap H locs) (ht : t.heap = H) : z_Qc K Q ad0 n0 A args s (.returned (v.map (z_v K ad))) t :=
  ⟨⟨v, n, h, ad, rfl, hQ, D1, D2, D3, by rw [ht]; exact D6, D7⟩, D8.F ht⟩
theorem zg_ireturn {K : zK} {l : Launch} {d : Nat} {M : zM} {pc : Nat} {ls : List (Nat × Value)} {n : Nat} {h : zH} {mc ms : Nat} {Q : zQ} {x : Int32} {ty : FieldType} (hr : M.2.2.2 = some ty) (hn : narrow ty (.int x) = .int x) (hQ : Q (some (.int x)) n h) (hd : decode M.2.1 pc = .ok (.ireturn, 1)) : zGo K l d M pc ls [.int x] n h mc ms Q := by
  intro p e R s m args below meth c A n0 ad0 ad H locs cells slots MC MS lsA C D
  obtain ⟨C1, C2, C3, C4, C5, C6, C7, C8, C9, C10, C11, C12, C13, C14⟩ := C
  obtain ⟨D1, D2, D3, D4, D5, D6, D7, D8, D9⟩ := D
  refine W.widen (k := MC) (n := MS) (by omega) (by omega) ?_
  exact W.zret (v := x) C1 C2 (C3.trans hr) hn (fun t ht _ => z_end hQ D1 D2 D3 D6 D7 D8 ht) D8.2.2 hd C8
theorem zg_lreturn {K : zK} {l : Launch} {d : Nat} {M : zM} {pc : Nat} {ls : List (Nat × Value)} {n : Nat} {h : zH} {mc ms : Nat} {Q : zQ} {x : Int64} (hr : M.2.2.2 = some .long) (hQ : Q (some (.long x)) n h) (hd : decode M.2.1 pc = .ok (.lreturn, 1)) : zGo K l d M pc ls [.long x] n h mc ms Q := by
  intro p e R s m args below meth c A n0 ad0 ad H locs cells slots MC MS lsA C D
  obtain ⟨C1, C2, C3, C4, C5, C6, C7, C8, C9, C10, C11, C12, C13, C14⟩ := C
  obtain ⟨D1, D2, D3, D4, D5, D6, D7, D8, D9⟩ := D
  refine W.widen (k := MC) (n := MS) (by omega) (by omega) ?_
  exact W.lret (v := x) C1 C2 (C3.trans hr) (fun t ht _ => z_end hQ D1 D2 D3 D6 D7 D8 ht) D8.2.2 hd C8
theorem zg_areturn {K : zK} {l : Launch} {d : Nat} {M : zM} {pc : Nat} {ls : List (Nat × Value)} {n : Nat} {h : zH} {mc ms : Nat} {Q : zQ} {x : Nat} {ty : FieldType} (hr : M.2.2.2 = some ty) (hrt : (∃ n, ty = .object n) ∨ ∃ t, ty = .array t) (hQ : Q (some (.ref x)) n h) (hd : decode M.2.1 pc = .ok (.areturn, 1)) : zGo K l d M pc ls [.ref x] n h mc ms Q := by
  intro p e R s m args below meth c A n0 ad0 ad H locs cells slots MC MS lsA C D
  obtain ⟨C1, C2, C3, C4, C5, C6, C7, C8, C9, C10, C11, C12, C13, C14⟩ := C
  obtain ⟨D1, D2, D3, D4, D5, D6, D7, D8, D9⟩ := D
  refine W.widen (k := MC) (n := MS) (by omega) (by omega) ?_
  exact W.aret (v := .ref (z_ad K ad x)) C1 C2 (C3.trans hr) hrt (Or.inr ⟨_, rfl⟩) (fun t ht _ => z_end (v := some (.ref x)) hQ D1 D2 D3 D6 D7 D8 ht) D8.2.2 hd C8
theorem zg_return {K : zK} {l : Launch} {d : Nat} {M : zM} {pc : Nat} {ls : List (Nat × Value)} {n : Nat} {h : zH} {mc ms : Nat} {Q : zQ} (hr : M.2.2.2 = none) (hQ : Q none n h) (hd : decode M.2.1 pc = .ok (.return_, 1)) : zGo K l d M pc ls [] n h mc ms Q := by
  intro p e R s m args below meth c A n0 ad0 ad H locs cells slots MC MS lsA C D
  obtain ⟨C1, C2, C3, C4, C5, C6, C7, C8, C9, C10, C11, C12, C13, C14⟩ := C
  obtain ⟨D1, D2, D3, D4, D5, D6, D7, D8, D9⟩ := D
  refine W.widen (k := MC) (n := MS) (by omega) (by omega) ?_
  exact W.vret C1 C2 (C3.trans hr) (fun t ht _ => z_end (v := none) hQ D1 D2 D3 D6 D7 D8 ht) D8.2.2 hd C8
/-- fields: the class's name, the entry of its file, which class of vwCl, which field -/
def zFl (own : String) (idx ci k : Nat) : Prop := ∃ (q : vw_C), vwCl[ci]? = some q ∧ k < q.2.2 ∧ Cond.fieldLink own idx (q.2.1 k).1 (q.2.1 k).2.1 (q.2.1 k).2.2.1 ∈ z_all
/-- the classes: their words, their types -/
def zCls (C : String) (T : u_T) (N : Nat) (ty : Nat → FieldType) : Prop := (∀ w ∈ u_ws C T N, w ∈ z_all) ∧ (∀ k, k < N → parseFieldDescriptor (T k).2.2.1 = some (ty k)) ∧ ∀ a, a < N → ∀ b, b < N → a ≠ b → (T a).2.1 ≠ (T b).2.1
def z_ty : Nat → Nat → FieldType
  | 0 => tyX1
  | 1 => tyX2
  | 2 => tyX3
  | 3 => tyX4
  | 4 => tyX5
  | _ => tyX6

theorem z_u1 : ∀ w ∈ u_ws RX1 TX1 17, w ∈ z_all := by
  have h1 : u_ws RX1 TX1 17 = [224, 226, 228, 230, 232, 234, 236, 238, 240, 242, 244, 246, 248, 250, 252, 254, 256].filterMap (fun i => lw_tbl[i]?) := by decide +kernel
  have h2 : (u_ws RX1 TX1 17).all goodWord = true := by decide +kernel
  intro w hw
  refine z_in ?_ (List.all_eq_true.mp h2 w hw)
  rw [h1] at hw
  obtain ⟨i, -, hi⟩ := List.mem_filterMap.mp hw
  exact List.mem_of_getElem? hi
theorem z_u2 : ∀ w ∈ u_ws RX2 TX2 10, w ∈ z_all := by
  have h1 : u_ws RX2 TX2 10 = [151, 153, 155, 157, 159, 161, 163, 165, 167, 169].filterMap (fun i => lw_tbl[i]?) := by decide +kernel
  have h2 : (u_ws RX2 TX2 10).all goodWord = true := by decide +kernel
  intro w hw
  refine z_in ?_ (List.all_eq_true.mp h2 w hw)
  rw [h1] at hw
  obtain ⟨i, -, hi⟩ := List.mem_filterMap.mp hw
  exact List.mem_of_getElem? hi
theorem z_u3 : ∀ w ∈ u_ws RX3 TX3 4, w ∈ z_all := by
  have h1 : u_ws RX3 TX3 4 = [189, 191, 193, 195].filterMap (fun i => lw_tbl[i]?) := by decide +kernel
  have h2 : (u_ws RX3 TX3 4).all goodWord = true := by decide +kernel
  intro w hw
  refine z_in ?_ (List.all_eq_true.mp h2 w hw)
  rw [h1] at hw
  obtain ⟨i, -, hi⟩ := List.mem_filterMap.mp hw
  exact List.mem_of_getElem? hi
theorem z_u4 : ∀ w ∈ u_ws RX4 TX4 6, w ∈ z_all := by
  have h1 : u_ws RX4 TX4 6 = [95, 97, 99, 101, 103, 105].filterMap (fun i => lw_tbl[i]?) := by decide +kernel
  have h2 : (u_ws RX4 TX4 6).all goodWord = true := by decide +kernel
  intro w hw
  refine z_in ?_ (List.all_eq_true.mp h2 w hw)
  rw [h1] at hw
  obtain ⟨i, -, hi⟩ := List.mem_filterMap.mp hw
  exact List.mem_of_getElem? hi
theorem z_u5 : ∀ w ∈ u_ws RX5 TX5 8, w ∈ z_all := by
  have h1 : u_ws RX5 TX5 8 = [268, 270, 272, 274, 276, 278, 280, 282].filterMap (fun i => lw_tbl[i]?) := by decide +kernel
  have h2 : (u_ws RX5 TX5 8).all goodWord = true := by decide +kernel
  intro w hw
  refine z_in ?_ (List.all_eq_true.mp h2 w hw)
  rw [h1] at hw
  obtain ⟨i, -, hi⟩ := List.mem_filterMap.mp hw
  exact List.mem_of_getElem? hi
theorem z_u6 : ∀ w ∈ u_ws RX6 TX6 36, w ∈ z_all := by
  have h1 : u_ws RX6 TX6 36 = [838, 840, 842, 844, 846, 848, 850, 852, 854, 856, 858, 860, 862, 864, 866, 868, 870, 872, 874, 876, 878, 880, 882, 884, 886, 888, 890, 892, 894, 896, 898, 900, 902, 904, 906, 908].filterMap (fun i => lw_tbl[i]?) := by decide +kernel
  have h2 : (u_ws RX6 TX6 36).all goodWord = true := by decide +kernel
  intro w hw
  refine z_in ?_ (List.all_eq_true.mp h2 w hw)
  rw [h1] at hw
  obtain ⟨i, -, hi⟩ := List.mem_filterMap.mp hw
  exact List.mem_of_getElem? hi

theorem z_cls {ci : Nat} {q : vw_C} (h : vwCl[ci]? = some q) : zCls q.1 q.2.1 q.2.2 (z_ty ci) := by
  match ci, h with
  | 0, h => cases h; exact ⟨z_u1, tyX1_ok, nmX1⟩
  | 1, h => cases h; exact ⟨z_u2, tyX2_ok, nmX2⟩
  | 2, h => cases h; exact ⟨z_u3, tyX3_ok, nmX3⟩
  | 3, h => cases h; exact ⟨z_u4, tyX4_ok, nmX4⟩
  | 4, h => cases h; exact ⟨z_u5, tyX5_ok, nmX5⟩
  | 5, h => cases h; exact ⟨z_u6, tyX6_ok, nmX6⟩
  | k + 6, h => simp [vwCl] at h
theorem z_e_obj {K : zK} {ad : Nat → Nat} {c : Nat} {fs : List Value} : z_e K ad (.inr (c, fs)) = .inr (c, fs.map (z_v K ad)) := rfl
theorem z_e_int {K : zK} {ad : Nat → Nat} {t m : Nat} {f : Nat → Int32} : z_e K ad (.inl (t, m, .inl f)) = .inl (K.2.1 t, m, .inl f) := rfl
theorem z_e_long {K : zK} {ad : Nat → Nat} {t m : Nat} {f : Nat → Int64} : z_e K ad (.inl (t, m, .inr (.inl f))) = .inl (K.2.1 t, m, .inr (.inl f)) := rfl
theorem z_e_ref {K : zK} {ad : Nat → Nat} {t m : Nat} {f : Nat → Option Nat} : z_e K ad (.inl (t, m, .inr (.inr (.inr (.inr f))))) = .inl (K.2.1 t, m, .inr (.inr (.inr (.inr (fun j => (f j).map (z_ad K ad)))))) := rfl
theorem z_at {K : zK} {ad : Nat → Nat} {n a : Nat} {h : zH} {e : va_E} (ha : a < n) (hc : h a = e) : (z_w K ad n h)[a]? = some (z_ad K ad a, z_e K ad e) := by
  rw [z_w_at ha, hc]
theorem zg_getfield {K : zK} {l : Launch} {d : Nat} {M : zM} {pc : Nat} {ls : List (Nat × Value)} {st : List Value} {n : Nat} {h : zH} {mc ms : Nat} {Q : zQ} {idx ci k a : Nat} {fs : List Value} {v : Value} (hf : zFl M.1.cls idx ci k) (ha : a < n) (hc : h a = .inr (ci, fs)) (hv : fs[k]? = some v) (hd : decode M.2.1 pc = .ok (.getfield idx, 3)) (kk : zGo K l d M (pc + 3) ls (v :: st) n h mc ms Q) : zGo K l d M pc ls (.ref a :: st) n h mc ms Q := by
  intro p e R s m args below meth c A n0 ad0 ad H locs cells slots MC MS lsA C D
  obtain ⟨q, hq, hk, hw⟩ := hf
  obtain ⟨c1, c2, c3⟩ := z_cls hq
  have C' := C
  have D' := D
  obtain ⟨C1, C2, C3, C4, C5, C6, C7, C8, C9, C10, C11, C12, C13, C14⟩ := C'
  obtain ⟨D1, D2, D3, D4, D5, D6, D7, D8, D9⟩ := D'
  exact va_get (C := q.1) (T := q.2.1) (N := q.2.2) C1 C2 C7 c1 C5 C9.1 D6 a (z_at ha hc) hq k hk (C7 _ hw) (fun _ h9 => h9) (v := z_v K ad v) (by rw [List.getElem?_map, hv]; rfl) hd (kk p e R s m args below meth c A n0 ad0 ad H locs cells slots MC MS lsA C D)
theorem z_narrow_ref (ty : FieldType) (a b : Nat) (h : narrow ty (.ref a) = .ref a) : narrow ty (.ref b) = .ref b := by
  cases ty <;> first | rfl | simp_all [narrow]
theorem z_narrow {K : zK} {ad : Nat → Nat} {ty : FieldType} {v : Value} (h : narrow ty v = v) : narrow ty (z_v K ad v) = z_v K ad v := by
  cases v <;> first | exact h | exact z_narrow_ref _ _ _ h
theorem z_fits {K : zK} {ad : Nat → Nat} {ty : FieldType} {v : Value} (h : fits ty v = true) : fits ty (z_v K ad v) = true := by
  cases v <;> first | exact h | (cases ty <;> first | exact h | rfl | simp_all [fits])
theorem z_set_map {K : zK} {ad : Nat → Nat} {fs : List Value} {k : Nat} {v : Value} : (fs.map (z_v K ad)).set k (z_v K ad v) = (fs.set k v).map (z_v K ad) := by
  rw [List.map_set]
theorem zg_putfield {K : zK} {l : Launch} {d : Nat} {M : zM} {pc : Nat} {ls : List (Nat × Value)} {st : List Value} {n : Nat} {h : zH} {mc ms : Nat} {Q : zQ} {idx ci k a : Nat} {fs : List Value} {v : Value} (hf : zFl M.1.cls idx ci k) (ha : a < n) (hc : h a = .inr (ci, fs)) (hl : k < fs.length) (hn : narrow (z_ty ci k) v = v) (hfit : fits (z_ty ci k) v = true) (hfin : ((vwCl[ci]?).map (fun q => (q.2.1 k).2.2.2)) = some false ∨ (M.1.name = "<init>" ∧ (vwCl[ci]?).map (fun q => (q.2.1 k).1) = some M.1.cls)) (hd : decode M.2.1 pc = .ok (.putfield idx, 3)) (kk : zGo K l d M (pc + 3) ls st n (z_up h a (.inr (ci, fs.set k v))) mc ms Q) : zGo K l d M pc ls (v :: .ref a :: st) n h mc ms Q := by
  intro p e R s m args below meth c A n0 ad0 ad H locs cells slots MC MS lsA C D
  obtain ⟨q, hq, hk, hw⟩ := hf
  obtain ⟨c1, c2, c3⟩ := z_cls hq
  have C' := C
  obtain ⟨C1, C2, C3, C4, C5, C6, C7, C8, C9, C10, C11, C12, C13, C14⟩ := C'
  obtain ⟨D1, D2, D3, D4, D5, D6, D7, D8, D9⟩ := D
  have kk2 : ∀ (H1 : Heap) (locs1 : List Loc), va_P K.1 vwCl ((z_w K ad n h).set a (z_ad K ad a, .inr (ci, (fs.map (z_v K ad)).set k (z_v K ad v)))) H1 → va_D A ((z_w K ad n h).set a (z_ad K ad a, .inr (ci, (fs.map (z_v K ad)).set k (z_v K ad v)))) → va_S A s.heap H1 locs1 → W p l e R s m args below meth c H1 locs1 cells slots (MQ below (z_Qc K Q ad0 n0 A) args s MC MS A) (F0 m (pc + 3) lsA (st.map (z_v K ad))) := by
    intro H1 locs1 g1 g2 g3
    have e1 : ((z_w K ad n h).set a (z_ad K ad a, .inr (ci, (fs.map (z_v K ad)).set k (z_v K ad v)))) = z_w K ad n (z_up h a (.inr (ci, fs.set k v))) := by
      rw [z_set_map, ← z_e_obj, z_w_set]
    rw [e1] at g1 g2
    exact kk p e R s m args below meth c A n0 ad0 ad H1 locs1 cells slots MC MS lsA C ⟨D1, D2, D3, D4, D5, g1, g2, g3, D9⟩
  have hfit' : fits (z_ty ci k) (z_v K ad v) = true := z_fits hfit
  have hn' : narrow (z_ty ci k) (z_v K ad v) = z_v K ad v := z_narrow hn
  rcases hff : (q.2.1 k).2.2.2 with _ | _
  · exact va_put (C := q.1) (T := q.2.1) (N := q.2.2) C1 C2 C7 c1 (z_ty ci) c2 c3 C5 C9.1 D6 D7 D8 a (z_at ha hc) hq k hk (C7 _ hw) (fun _ h9 => h9) hff (c2 k hk) hn' hfit' (by simpa using hl) hd kk2
  · rcases hfin with hfin | ⟨i1, i2⟩
    · rw [hq] at hfin
      simp [hff] at hfin
    · rw [hq] at i2
      exact va_putF (C := q.1) (T := q.2.1) (N := q.2.2) C1 C2 C7 c1 (z_ty ci) c2 c3 C5 C9.1 D6 D7 D8 a (z_at ha hc) hq k hk (C7 _ hw) (fun _ h9 => h9) hff (C6.trans i1) (by simpa using i2) (c2 k hk) hn' hfit' (by simpa using hl) hd kk2

/-- arrays: kinds by their places in z_tys -/
theorem zg_iaload {K : zK} {l : Launch} {d : Nat} {M : zM} {pc : Nat} {ls : List (Nat × Value)} {st : List Value} {n : Nat} {h : zH} {mc ms : Nat} {Q : zQ} {a N : Nat} {f : Nat → Int32} {i : Int32} (ha : a < n) (hc : h a = .inl (0, N, .inl f)) (hi : vp_in i N) (hd : decode M.2.1 pc = .ok (.iaload, 1)) (kk : zGo K l d M (pc + 1) ls (.int (f i.toNatClampNeg) :: st) n h mc ms Q) : zGo K l d M pc ls (.int i :: .ref a :: st) n h mc ms Q := by
  intro p e R s m args below meth c A n0 ad0 ad H locs cells slots MC MS lsA C D
  exact va_iald C.1 C.2.1 C.2.2.2.2.2.2.2.2.1.1 D.2.2.2.2.2.1 a 0 (z_at ha hc) rfl hi hd (kk p e R s m args below meth c A n0 ad0 ad H locs cells slots MC MS lsA C D)
theorem zg_baload {K : zK} {l : Launch} {d : Nat} {M : zM} {pc : Nat} {ls : List (Nat × Value)} {st : List Value} {n : Nat} {h : zH} {mc ms : Nat} {Q : zQ} {a N : Nat} {f : Nat → Int32} {i : Int32} (ha : a < n) (hc : h a = .inl (1, N, .inl f)) (hi : vp_in i N) (hd : decode M.2.1 pc = .ok (.baload, 1)) (kk : zGo K l d M (pc + 1) ls (.int (f i.toNatClampNeg) :: st) n h mc ms Q) : zGo K l d M pc ls (.int i :: .ref a :: st) n h mc ms Q := by
  intro p e R s m args below meth c A n0 ad0 ad H locs cells slots MC MS lsA C D
  exact va_bald C.1 C.2.1 C.2.2.2.2.2.2.2.2.1.1 D.2.2.2.2.2.1 a 1 (z_at ha hc) rfl hi hd (kk p e R s m args below meth c A n0 ad0 ad H locs cells slots MC MS lsA C D)
theorem zg_zaload {K : zK} {l : Launch} {d : Nat} {M : zM} {pc : Nat} {ls : List (Nat × Value)} {st : List Value} {n : Nat} {h : zH} {mc ms : Nat} {Q : zQ} {a N : Nat} {f : Nat → Int32} {i : Int32} (ha : a < n) (hc : h a = .inl (3, N, .inl f)) (hi : vp_in i N) (hd : decode M.2.1 pc = .ok (.baload, 1)) (kk : zGo K l d M (pc + 1) ls (.int (f i.toNatClampNeg) :: st) n h mc ms Q) : zGo K l d M pc ls (.int i :: .ref a :: st) n h mc ms Q := by
  intro p e R s m args below meth c A n0 ad0 ad H locs cells slots MC MS lsA C D
  exact va_zald C.1 C.2.1 C.2.2.2.2.2.2.2.2.1.1 D.2.2.2.2.2.1 a 3 (z_at ha hc) rfl hi hd (kk p e R s m args below meth c A n0 ad0 ad H locs cells slots MC MS lsA C D)
theorem zg_laload {K : zK} {l : Launch} {d : Nat} {M : zM} {pc : Nat} {ls : List (Nat × Value)} {st : List Value} {n : Nat} {h : zH} {mc ms : Nat} {Q : zQ} {a N : Nat} {f : Nat → Int64} {i : Int32} (ha : a < n) (hc : h a = .inl (2, N, .inr (.inl f))) (hi : vp_in i N) (hd : decode M.2.1 pc = .ok (.laload, 1)) (kk : zGo K l d M (pc + 1) ls (.long (f i.toNatClampNeg) :: st) n h mc ms Q) : zGo K l d M pc ls (.int i :: .ref a :: st) n h mc ms Q := by
  intro p e R s m args below meth c A n0 ad0 ad H locs cells slots MC MS lsA C D
  exact va_lald C.1 C.2.1 C.2.2.2.2.2.2.2.2.1.1 D.2.2.2.2.2.1 a 2 (z_at ha hc) rfl hi hd (kk p e R s m args below meth c A n0 ad0 ad H locs cells slots MC MS lsA C D)
theorem zg_aaload {K : zK} {l : Launch} {d : Nat} {M : zM} {pc : Nat} {ls : List (Nat × Value)} {st : List Value} {n : Nat} {h : zH} {mc ms : Nat} {Q : zQ} {a N x : Nat} {f : Nat → Option Nat} {i : Int32} (ha : a < n) (hc : h a = .inl (4, N, .inr (.inr (.inr (.inr f))))) (hi : vp_in i N) (hx : f i.toNatClampNeg = some x) (hd : decode M.2.1 pc = .ok (.aaload, 1)) (kk : zGo K l d M (pc + 1) ls (.ref x :: st) n h mc ms Q) : zGo K l d M pc ls (.int i :: .ref a :: st) n h mc ms Q := by
  intro p e R s m args below meth c A n0 ad0 ad H locs cells slots MC MS lsA C D
  have k2 := kk p e R s m args below meth c A n0 ad0 ad H locs cells slots MC MS lsA C D
  refine va_aldq C.1 C.2.1 C.2.2.2.2.2.2.2.2.1.1 D.2.2.2.2.2.1 a 4 (z_at ha hc) rfl hi hd ?_
  show W p l e R s m args below meth c H locs cells slots _ (F0 m (pc + 1) lsA (va_rf ((f i.toNatClampNeg).map (z_ad K ad)) :: st.map (z_v K ad)))
  rw [hx]
  exact k2
theorem zg_arraylength {K : zK} {l : Launch} {d : Nat} {M : zM} {pc : Nat} {ls : List (Nat × Value)} {st : List Value} {n : Nat} {h : zH} {mc ms : Nat} {Q : zQ} {a N t : Nat} {x : (Nat → Int32) ⊕ (Nat → Int64) ⊕ (Nat → UInt32) ⊕ (Nat → UInt64) ⊕ (Nat → Option Nat)} (ha : a < n) (hc : h a = .inl (t, N, x)) (ht : t < 5) (hd : decode M.2.1 pc = .ok (.arraylength, 1)) (kk : zGo K l d M (pc + 1) ls (.int (Int32.ofNat N) :: st) n h mc ms Q) : zGo K l d M pc ls (.ref a :: st) n h mc ms Q := by
  intro p e R s m args below meth c A n0 ad0 ad H locs cells slots MC MS lsA C D
  have hk := kk p e R s m args below meth c A n0 ad0 ad H locs cells slots MC MS lsA C D
  obtain ⟨x', hx'⟩ : ∃ x' : vp_A, z_e K ad (.inl (t, N, x)) = .inl (K.2.1 t, x') ∧ x'.1 = N := by
    rcases x with f | f | f | f | f <;> exact ⟨(N, _), rfl, rfl⟩
  have h1 := z_at (K := K) (ad := ad) ha hc
  rw [hx'.1] at h1
  have hty : ∃ ty, (z_tys K)[t]? = some (K.2.1 t, ty) := by
    match t, ht with
    | 0, _ => exact ⟨_, rfl⟩
    | 1, _ => exact ⟨_, rfl⟩
    | 2, _ => exact ⟨_, rfl⟩
    | 3, _ => exact ⟨_, rfl⟩
    | 4, _ => exact ⟨_, rfl⟩
  obtain ⟨ty, hty⟩ := hty
  exact va_alen C.1 C.2.1 C.2.2.2.2.2.2.2.2.1.1 D.2.2.2.2.2.1 a t h1 hty (v := Int32.ofNat N) (by rw [hx'.2]) hd hk
theorem z_back {K : zK} {ad : Nat → Nat} {n a : Nat} {h : zH} {e : va_E} {e' : va_E} {P : va_W → Prop} (he : z_e K ad e = e') (hP : P ((z_w K ad n h).set a (z_ad K ad a, e'))) : P (z_w K ad n (z_up h a e)) := by
  rw [← z_w_set, he]; exact hP
theorem zg_iastore {K : zK} {l : Launch} {d : Nat} {M : zM} {pc : Nat} {ls : List (Nat × Value)} {st : List Value} {n : Nat} {h : zH} {mc ms : Nat} {Q : zQ} {a N : Nat} {f : Nat → Int32} {i x : Int32} (ha : a < n) (hc : h a = .inl (0, N, .inl f)) (hi : vp_in i N) (hd : decode M.2.1 pc = .ok (.iastore, 1)) (kk : zGo K l d M (pc + 1) ls st n (z_up h a (.inl (0, N, .inl (upd f i.toNatClampNeg x)))) mc ms Q) : zGo K l d M pc ls (.int x :: .int i :: .ref a :: st) n h mc ms Q := by
  intro p e R s m args below meth c A n0 ad0 ad H locs cells slots MC MS lsA C D
  have C' := C
  obtain ⟨C1, C2, C3, C4, C5, C6, C7, C8, C9, C10, C11, C12, C13, C14⟩ := C'
  obtain ⟨D1, D2, D3, D4, D5, D6, D7, D8, D9⟩ := D
  exact va_iast C1 C2 C9.1 D6 D7 D8 a 0 (z_at ha hc) rfl hi hd (fun H1 locs1 g1 g2 g3 => kk p e R s m args below meth c A n0 ad0 ad H1 locs1 cells slots MC MS lsA C ⟨D1, D2, D3, D4, D5, z_back (P := fun w => va_P K.1 vwCl w H1) rfl g1, z_back (P := fun w => va_D A w) rfl g2, g3, D9⟩)
theorem zg_bastore {K : zK} {l : Launch} {d : Nat} {M : zM} {pc : Nat} {ls : List (Nat × Value)} {st : List Value} {n : Nat} {h : zH} {mc ms : Nat} {Q : zQ} {a N : Nat} {f : Nat → Int32} {i x : Int32} (ha : a < n) (hc : h a = .inl (1, N, .inl f)) (hi : vp_in i N) (hd : decode M.2.1 pc = .ok (.bastore, 1)) (kk : zGo K l d M (pc + 1) ls st n (z_up h a (.inl (1, N, .inl (upd f i.toNatClampNeg (vp_nar .byte x))))) mc ms Q) : zGo K l d M pc ls (.int x :: .int i :: .ref a :: st) n h mc ms Q := by
  intro p e R s m args below meth c A n0 ad0 ad H locs cells slots MC MS lsA C D
  have C' := C
  obtain ⟨C1, C2, C3, C4, C5, C6, C7, C8, C9, C10, C11, C12, C13, C14⟩ := C'
  obtain ⟨D1, D2, D3, D4, D5, D6, D7, D8, D9⟩ := D
  exact va_bast C1 C2 C9.1 D6 D7 D8 a 1 (z_at ha hc) rfl hi hd (fun H1 locs1 g1 g2 g3 => kk p e R s m args below meth c A n0 ad0 ad H1 locs1 cells slots MC MS lsA C ⟨D1, D2, D3, D4, D5, z_back (P := fun w => va_P K.1 vwCl w H1) rfl g1, z_back (P := fun w => va_D A w) rfl g2, g3, D9⟩)
theorem zg_zastore {K : zK} {l : Launch} {d : Nat} {M : zM} {pc : Nat} {ls : List (Nat × Value)} {st : List Value} {n : Nat} {h : zH} {mc ms : Nat} {Q : zQ} {a N : Nat} {f : Nat → Int32} {i x : Int32} (ha : a < n) (hc : h a = .inl (3, N, .inl f)) (hi : vp_in i N) (hd : decode M.2.1 pc = .ok (.bastore, 1)) (kk : zGo K l d M (pc + 1) ls st n (z_up h a (.inl (3, N, .inl (upd f i.toNatClampNeg (vp_nar .boolean x))))) mc ms Q) : zGo K l d M pc ls (.int x :: .int i :: .ref a :: st) n h mc ms Q := by
  intro p e R s m args below meth c A n0 ad0 ad H locs cells slots MC MS lsA C D
  have C' := C
  obtain ⟨C1, C2, C3, C4, C5, C6, C7, C8, C9, C10, C11, C12, C13, C14⟩ := C'
  obtain ⟨D1, D2, D3, D4, D5, D6, D7, D8, D9⟩ := D
  exact va_zast C1 C2 C9.1 D6 D7 D8 a 3 (z_at ha hc) rfl hi hd (fun H1 locs1 g1 g2 g3 => kk p e R s m args below meth c A n0 ad0 ad H1 locs1 cells slots MC MS lsA C ⟨D1, D2, D3, D4, D5, z_back (P := fun w => va_P K.1 vwCl w H1) rfl g1, z_back (P := fun w => va_D A w) rfl g2, g3, D9⟩)
theorem zg_lastore {K : zK} {l : Launch} {d : Nat} {M : zM} {pc : Nat} {ls : List (Nat × Value)} {st : List Value} {n : Nat} {h : zH} {mc ms : Nat} {Q : zQ} {a N : Nat} {f : Nat → Int64} {i : Int32} {x : Int64} (ha : a < n) (hc : h a = .inl (2, N, .inr (.inl f))) (hi : vp_in i N) (hd : decode M.2.1 pc = .ok (.lastore, 1)) (kk : zGo K l d M (pc + 1) ls st n (z_up h a (.inl (2, N, .inr (.inl (vp_updL f i.toNatClampNeg x))))) mc ms Q) : zGo K l d M pc ls (.long x :: .int i :: .ref a :: st) n h mc ms Q := by
  intro p e R s m args below meth c A n0 ad0 ad H locs cells slots MC MS lsA C D
  have C' := C
  obtain ⟨C1, C2, C3, C4, C5, C6, C7, C8, C9, C10, C11, C12, C13, C14⟩ := C'
  obtain ⟨D1, D2, D3, D4, D5, D6, D7, D8, D9⟩ := D
  exact va_last C1 C2 C9.1 D6 D7 D8 a 2 (z_at ha hc) rfl hi hd (fun H1 locs1 g1 g2 g3 => kk p e R s m args below meth c A n0 ad0 ad H1 locs1 cells slots MC MS lsA C ⟨D1, D2, D3, D4, D5, z_back (P := fun w => va_P K.1 vwCl w H1) rfl g1, z_back (P := fun w => va_D A w) rfl g2, g3, D9⟩)
/-- the script -/
theorem zg_sload {K : zK} {l : Launch} {d : Nat} {M : zM} {pc : Nat} {ls : List (Nat × Value)} {st : List Value} {n : Nat} {h : zH} {mc ms : Nat} {Q : zQ} {i : Int32} (hi : vp_in i K.2.2.2.2.2.1) (hd : decode M.2.1 pc = .ok (.iaload, 1)) (kk : zGo K l d M (pc + 1) ls (.int (K.2.2.2.2.2.2 i.toNatClampNeg) :: st) n h mc ms Q) : zGo K l d M pc ls (.int i :: .ref 2000 :: st) n h mc ms Q := by
  intro p e R s m args below meth c A n0 ad0 ad H locs cells slots MC MS lsA C D
  obtain ⟨h1, h2, h3, h4, h5, h6, h7, h8⟩ := C.2.2.2.2.2.2.2.2.1
  exact va_sld C.1 C.2.1 h6 h7 h8 D.2.2.2.2.2.2.2.1 hi hd (kk p e R s m args below meth c A n0 ad0 ad H locs cells slots MC MS lsA C D)
theorem zg_slen {K : zK} {l : Launch} {d : Nat} {M : zM} {pc : Nat} {ls : List (Nat × Value)} {st : List Value} {n : Nat} {h : zH} {mc ms : Nat} {Q : zQ} (hd : decode M.2.1 pc = .ok (.arraylength, 1)) (kk : zGo K l d M (pc + 1) ls (.int (nI K.2.2.2.2.2.1) :: st) n h mc ms Q) : zGo K l d M pc ls (.ref 2000 :: st) n h mc ms Q := by
  intro p e R s m args below meth c A n0 ad0 ad H locs cells slots MC MS lsA C D
  obtain ⟨h1, h2, h3, h4, h5, h6, h7, h8⟩ := C.2.2.2.2.2.2.2.2.1
  exact va_slen C.1 C.2.1 h6 h7 h8 D.2.2.2.2.2.2.2.1 hd (kk p e R s m args below meth c A n0 ad0 ad H locs cells slots MC MS lsA C D)
/-- constants of the class file, switches -/
theorem zg_ldc {K : zK} {l : Launch} {d : Nat} {M : zM} {pc : Nat} {ls : List (Nat × Value)} {st : List Value} {n : Nat} {h : zH} {mc ms : Nat} {Q : zQ} {idx : Nat} {v : Int32} (hw : Cond.constant M.1.cls idx v ∈ z_all) (hd : decode M.2.1 pc = .ok (.ldc idx, 2)) (kk : zGo K l d M (pc + 2) ls (.int v :: st) n h mc ms Q) : zGo K l d M pc ls st n h mc ms Q := by
  intro p e R s m args below meth c A n0 ad0 ad H locs cells slots MC MS lsA C D
  exact lv_ldc C.1 C.2.1 C.2.2.2.2.1 (C.2.2.2.2.2.2.1 _ hw) hd (kk p e R s m args below meth c A n0 ad0 ad H locs cells slots MC MS lsA C D)
theorem zg_ldc_w {K : zK} {l : Launch} {d : Nat} {M : zM} {pc : Nat} {ls : List (Nat × Value)} {st : List Value} {n : Nat} {h : zH} {mc ms : Nat} {Q : zQ} {idx : Nat} {v : Int32} (hw : Cond.constant M.1.cls idx v ∈ z_all) (hd : decode M.2.1 pc = .ok (.ldc_w idx, 3)) (kk : zGo K l d M (pc + 3) ls (.int v :: st) n h mc ms Q) : zGo K l d M pc ls st n h mc ms Q := by
  intro p e R s m args below meth c A n0 ad0 ad H locs cells slots MC MS lsA C D
  exact lv_ldcw C.1 C.2.1 C.2.2.2.2.1 (C.2.2.2.2.2.2.1 _ hw) hd (kk p e R s m args below meth c A n0 ad0 ad H locs cells slots MC MS lsA C D)
theorem zg_ldc2_w {K : zK} {l : Launch} {d : Nat} {M : zM} {pc : Nat} {ls : List (Nat × Value)} {st : List Value} {n : Nat} {h : zH} {mc ms : Nat} {Q : zQ} {idx : Nat} {v : Int64} (hw : Cond.constantLong M.1.cls idx v ∈ z_all) (hd : decode M.2.1 pc = .ok (.ldc2_w idx, 3)) (kk : zGo K l d M (pc + 3) ls (.long v :: st) n h mc ms Q) : zGo K l d M pc ls st n h mc ms Q := by
  intro p e R s m args below meth c A n0 ad0 ad H locs cells slots MC MS lsA C D
  exact lv_ldc2 C.1 C.2.1 C.2.2.2.2.1 (C.2.2.2.2.2.2.1 _ hw) hd (kk p e R s m args below meth c A n0 ad0 ad H locs cells slots MC MS lsA C D)
theorem zg_ldcS {K : zK} {l : Launch} {d : Nat} {M : zM} {pc : Nat} {ls : List (Nat × Value)} {st : List Value} {n : Nat} {h : zH} {mc ms : Nat} {Q : zQ} {idx : Nat} (i : Nat) (hi : i < 5) (hM : M.1.cls = RX4) (hix : z_ix.getD i 0 = idx) (hd : decode M.2.1 pc = .ok (.ldc idx, 2)) (kk : zGo K l d M (pc + 2) ls (.ref (1000 + i) :: st) n h mc ms Q) : zGo K l d M pc ls st n h mc ms Q := by
  intro p e R s m args below meth c A n0 ad0 ad H locs cells slots MC MS lsA C D
  obtain ⟨h1, h2, h3, h4⟩ := C.2.2.2.2.2.2.2.2.1
  have k2 := kk p e R s m args below meth c A n0 ad0 ad H locs cells slots MC MS lsA C D
  have e1 : (.ref (1000 + i) :: st).map (z_v K ad) = .ref (K.2.2.1 i) :: st.map (z_v K ad) := by
    have q1 : ¬ 1000 + i < 1000 := by omega
    have q2 : ¬ 1000 + i = 2000 := by omega
    have q3 : 1000 + i - 1000 = i := by omega
    simp only [List.map_cons, z_v, z_ad, if_neg q1, if_neg q2, q3]
  rw [e1] at k2
  have h9 := h3.1 i hi
  rw [hix] at h9
  exact va_ldcS C.1 C.2.1 (hM ▸ C.2.2.2.2.1) h9 hd k2
theorem zg_tableIn {K : zK} {l : Launch} {d : Nat} {M : zM} {pc : Nat} {ls : List (Nat × Value)} {st : List Value} {n : Nat} {h : zH} {mc ms : Nat} {Q : zQ} {dflt lo hi : Int} {offs : Array Int} {len : Nat} {x : Int32} (off : Int) (tgt : Nat) (h1 : ¬ x.toInt < lo) (h2 : ¬ hi < x.toInt) (ho : offs[(x.toInt - lo).toNat]? = some off) (ht : (pc : Int) + off = (tgt : Int)) (kk : zGo K l d M tgt ls st n h mc ms Q) (hd : decode M.2.1 pc = .ok (.tableswitch dflt lo hi offs, len)) : zGo K l d M pc ls (.int x :: st) n h mc ms Q := by
  intro p e R s m args below meth c A n0 ad0 ad H locs cells slots MC MS lsA C D
  exact lv_tableIn C.1 C.2.1 hd h1 h2 ho ht (kk p e R s m args below meth c A n0 ad0 ad H locs cells slots MC MS lsA C D)
theorem zg_tableOut {K : zK} {l : Launch} {d : Nat} {M : zM} {pc : Nat} {ls : List (Nat × Value)} {st : List Value} {n : Nat} {h : zH} {mc ms : Nat} {Q : zQ} {dflt lo hi : Int} {offs : Array Int} {len : Nat} {x : Int32} (tgt : Nat) (h1 : x.toInt < lo ∨ hi < x.toInt) (ht : (pc : Int) + dflt = (tgt : Int)) (kk : zGo K l d M tgt ls st n h mc ms Q) (hd : decode M.2.1 pc = .ok (.tableswitch dflt lo hi offs, len)) : zGo K l d M pc ls (.int x :: st) n h mc ms Q := by
  intro p e R s m args below meth c A n0 ad0 ad H locs cells slots MC MS lsA C D
  exact lv_tableOut C.1 C.2.1 hd h1 ht (kk p e R s m args below meth c A n0 ad0 ad H locs cells slots MC MS lsA C D)
theorem zg_lookup {K : zK} {l : Launch} {d : Nat} {M : zM} {pc : Nat} {ls : List (Nat × Value)} {st : List Value} {n : Nat} {h : zH} {mc ms : Nat} {Q : zQ} {dflt : Int} {ps : Array (Int × Int)} {len : Nat} {x : Int32} (off : Int) (tgt : Nat) (hp : (ps.toList.zip (ps.toList.drop 1)).all (fun (a, next) => a.1 < next.1) = true) (ho : Op.lookupswitch.offset ps.toList dflt x.toInt = off) (ht : (pc : Int) + off = (tgt : Int)) (kk : zGo K l d M tgt ls st n h mc ms Q) (hd : decode M.2.1 pc = .ok (.lookupswitch dflt ps, len)) : zGo K l d M pc ls (.int x :: st) n h mc ms Q := by
  intro p e R s m args below meth c A n0 ad0 ad H locs cells slots MC MS lsA C D
  exact lv_lookup C.1 C.2.1 hd hp ho ht (kk p e R s m args below meth c A n0 ad0 ad H locs cells slots MC MS lsA C D)

/-- a method's entry -/
theorem z_sl_len (K : zK) (ad : Nat → Nat) (av : List Value) : (lg_sl (av.map (z_v K ad))).length = (lg_sl av).length := by
  induction av with
  | nil => rfl
  | cons v t ih =>
    simp only [lg_sl, List.map_cons, List.flatMap_cons, List.length_append, z_v_cat] at ih ⊢
    rw [ih]
    congr 1
    split <;> rfl
theorem z_args_map (K : zK) (ad : Nat → Nat) (av : List Value) : ∀ i : Nat, lv_args i (av.map (z_v K ad)) = (lv_args i av).map (fun q => (q.1, z_v K ad q.2)) := by
  induction av with
  | nil => intro i; rfl
  | cons v t ih =>
    intro i
    simp only [lv_args, List.map_cons, z_v_cat, ih]
theorem zRuns.of {K : zK} {l : Launch} {d : Nat} {M : zM} {av : List Value} {n : Nat} {h : zH} {mc ms : Nat} {Q : zQ} (hy : plainName M.1.cls = true) (hlen : (lg_sl av).length ≤ M.2.2.1) (k : zGo K l d M 0 (lv_args 0 av) [] n h mc ms Q) : zRuns K l d M av n h mc ms Q := by
  intro ad sz
  refine Met.ofW (cc := M.2.1) (maxL := M.2.2.1) (ret := M.2.2.2) hy rfl ?_
  intro p e s m args below meth c s₁ B hml hv
  obtain ⟨rfl, hsz, hP, hI, hD0⟩ := hv
  have hts := atoms_spec (ws := z_ws M) B.pre
  have hown : s.vm.findClass M.1.cls = some m.cls := findClass_of_methodNamed B.named
  have hin : meth.name = M.1.name := (name_of_methodNamed B.named B.method).1
  subst hsz
  rw [lg_entry_eq]
  have hl := lv_entry (av.map (z_v K ad)) (n := M.2.2.1) (by rw [z_sl_len]; exact hlen)
  rw [z_args_map] at hl
  exact k p e _ s m _ below meth c (va_A (z_w K ad n h) s.heap.size) n ad ad s.heap [] 0 0 mc ms _ ⟨B.exec, B.bytes, B.returns, hml, hown, hin, fun w hw => hts w (List.mem_cons_of_mem _ hw), B.notSynchronized, hI, fun q hq => Or.inr hq, Nat.le_refl _, Nat.le_refl _, Nat.le_refl _, Nat.le_refl _⟩ ⟨Nat.le_refl _, fun _ _ => rfl, fun _ => rfl, by omega, by omega, hP, hD0.self, va_S.rf, hl⟩
theorem zRuns.mono {K : zK} {l : Launch} {d : Nat} {M : zM} {av : List Value} {n : Nat} {h : zH} {mc ms : Nat} {Q Q' : zQ} (hQ : ∀ v n' h', Q v n' h' → Q' v n' h') (k : zRuns K l d M av n h mc ms Q) : zRuns K l d M av n h mc ms Q' := by
  intro ad sz p e h1 h2 h3 s m args below h4 h5 h6 h7
  obtain ⟨t, o, a1, a2, a3, ⟨⟨v, n', h', ad', q1, q2, q3⟩, b3⟩, b4⟩ := k ad sz p e h1 h2 h3 s m args below h4 h5 h6 h7
  exact ⟨t, o, a1, a2, a3, ⟨⟨v, n', h', ad', q1, hQ _ _ _ q2, q3⟩, b3⟩, b4⟩
/-- calls -/
def zLt (n : Nat) : Value → Prop
  | .ref a => a < n ∨ 1000 ≤ a
  | _ => True
theorem z_v_same {K : zK} {ad ad' : Nat → Nat} {n : Nat} {v : Value} (hv : zLt n v) (h : ∀ k, k < n → ad' k = ad k) : z_v K ad' v = z_v K ad v := by
  cases v with
  | ref a =>
    rcases hv with q | q
    · simp only [z_v, z_ad, h a q]
    · have q : 1000 ≤ a := q
      have q' : ¬ a < 1000 := Nat.not_lt.mpr q
      simp only [z_v, z_ad, if_neg q']
  | _ => rfl
theorem z_lst_same {K : zK} {ad ad' : Nat → Nat} {n : Nat} {L : List Value} (hv : ∀ v ∈ L, zLt n v) (h : ∀ k, k < n → ad' k = ad k) : L.map (z_v K ad') = L.map (z_v K ad) :=
  List.map_congr_left (fun v hm => z_v_same (hv v hm) h)
theorem z_loc_same {K : zK} {ad ad' : Nat → Nat} {n : Nat} {L : List (Nat × Value)} (hv : ∀ q ∈ L, zLt n q.2) (h : ∀ k, k < n → ad' k = ad k) : L.map (fun q => (q.1, z_v K ad' q.2)) = L.map (fun q => (q.1, z_v K ad q.2)) :=
  List.map_congr_left (fun q hm => by rw [z_v_same (hv q hm) h])
def zWf (n : Nat) (ls : List (Nat × Value)) (st : List Value) : Prop := (∀ q ∈ ls, zLt n q.2) ∧ ∀ v ∈ st, zLt n v
/-- what a call does to the walk -/
theorem z_called {K : zK} {l : Launch} {d : Nat} {M : zM} {pc : Nat} {ls : List (Nat × Value)} {rest : List Value} {n : Nat} {h : zH} {mc ms mc' ms' : Nat} {Q Q' : zQ} {p : Program} {e : Env} {R : Room} {s : State} {m : MethodId} {args a : Array Value} {below : List Frame} {meth : Method} {c : Code} {A : Nat → Prop} {n0 : Nat} {ad0 ad : Nat → Nat} {H : Heap} {locs : List Loc} {cells slots MC MS : Nat} {lsA : Array Slot} {st0 : List Value}
    (C : zC K d M p R s m args meth c A MC MS) (D : zD K M A s n0 ad0 ad n h H locs cells slots mc ms MC MS ls lsA) (hb1 : mc' ≤ mc) (hb2 : ms' ≤ ms)
    (hr : va_Run p l e R s m args below meth c H locs cells slots mc' ms' (F0 m pc lsA st0) (rest.map (z_v K ad)) (z_Qc K Q' ad n (va_A (z_w K ad n h) H.size) a) (va_A (z_w K ad n h) H.size))
    (k : ∀ v n' h', Q' v n' h' → (n' = n ∨ zWf n ls rest) ∧ zGo K l d M (pc + 3) ls (v.toList ++ rest) n' h' (mc - mc') (ms - ms') Q) : W p l e R s m args below meth c H locs cells slots (MQ below (z_Qc K Q ad0 n0 A) args s MC MS A) (F0 m pc lsA st0) := by
  have C' := C
  obtain ⟨C1, C2, C3, C4, C5, C6, C7, C8, C9, C10, C11, C12, C13, C14⟩ := C'
  obtain ⟨D1, D2, D3, D4, D5, D6, D7, D8, D9⟩ := D
  have hsub : ∀ q, va_A (z_w K ad n h) H.size q → A q := by
    rintro q (⟨k, e, hk⟩ | hq)
    · exact D7.2 k (q, e) hk
    · exact C10 q (Nat.le_trans D8.1 hq)
  intro T hT X
  obtain ⟨v0, st₀, t, T', L, h0, X', hL, e1, e2, ⟨⟨v, n', h', ad', hv, hq, g1, g2, g3, g4, g5⟩, hz, hk⟩, st⟩ := hr T hT X
  obtain rfl : v0 = v.map (z_v K ad') := by cases hv; rfl
  obtain ⟨hw, kk⟩ := k v n' h' hq
  rw [h0] at hz hk
  have hS : va_S A s.heap T'.heap (locs ++ L) := ⟨Nat.le_trans D8.1 (by rw [e1]; exact hz), fun q h1 h2 => by rw [e1, hk q (Nat.lt_of_lt_of_le h1 D8.1) (fun z => h2 (hsub q z))]; exact D8.2.1 q h1 h2, fun q hq => by
      rcases List.mem_append.mp hq with h | h
      · exact D8.2.2 q h
      · exact hsub _ (hL q h)⟩
  have eL : ls.map (fun q => (q.1, z_v K ad' q.2)) = ls.map (fun q => (q.1, z_v K ad q.2)) := by
    rcases hw with hw | hw
    · rw [g3 hw]
    · exact z_loc_same hw.1 g2
  have eR : rest.map (z_v K ad') = rest.map (z_v K ad) := by
    rcases hw with hw | hw
    · rw [g3 hw]
    · exact z_lst_same hw.2 g2
  have eS : (v.toList ++ rest).map (z_v K ad') = (v.map (z_v K ad')).toList ++ rest.map (z_v K ad) := by
    rw [List.map_append, eR]
    cases v <;> rfl
  have k2 := kk p e R s m args below meth c A n0 ad0 ad' T'.heap (locs ++ L) (cells + mc') (slots + ms') MC MS lsA C ⟨Nat.le_trans D1 g1, fun j hj => (g2 j (Nat.lt_of_lt_of_le hj D1)).trans (D2 j hj), fun q => by
      have q1 : n' = n := by omega
      have q2 : n = n0 := by omega
      rw [g3 q1]; exact D3 q2, by omega, by omega, by rw [e1]; exact g4, g5.weaken (fun _ q _ z => hsub q.1 z), hS, by rw [eL]; exact D9⟩
  rw [eS] at k2
  obtain ⟨t2, a1, b1⟩ := k2 T' rfl X'
  exact ⟨t2, st t2 a1, b1⟩
theorem z_blind {K : zK} {ad : Nat → Nat} {n : Nat} {h : zH} {sz : Nat} {av : List Value} : FrameBlind (z_Pc K ad n h sz av) := by
  intro a U g mk q
  obtain ⟨q0, q1, q2, q3, q4⟩ := q
  exact ⟨q0, q1, q2, q3.calling a g mk, q4⟩
theorem z_goodIn (M : zM) (hc : Cond.code M.1 M.2.1 M.2.2.1 M.2.2.2 ∈ z_all) : GoodIn z_all (z_ws M) := by
  intro w hw
  have h1 : w ∈ z_all := by
    rcases List.mem_cons.mp hw with rfl | h
    · exact hc
    · exact h
  exact ⟨h1, good_of_word (z_good h1)⟩
/-- a call's words: 0 virtual, 1 static, 2 a constructor -/
def zMl (kind : Nat) (own : String) (idx : Nat) (M : zM) (na : Nat) : Prop :=
  Cond.code M.1 M.2.1 M.2.2.1 M.2.2.2 ∈ z_all ∧ Cond.initialized M.1.cls ∈ z_all ∧ (M.1.cls ≠ "java/lang/invoke/MethodHandle" ∧ M.1.cls ≠ "java/lang/invoke/VarHandle") ∧ (parseMethodDescriptor M.1.desc).map (fun d => d.parameters.length) = some na ∧ M.2.2.1 ≤ 40 ∧
  match kind with
  | 0 => Cond.methodLink own idx M.1 ∈ z_all ∧ Cond.instanceMethod M.1 ∈ z_all ∧ Cond.selects M.1.cls M.1 M.1 ∈ z_all
  | 1 => Cond.methodLink own idx M.1 ∈ z_all ∧ Cond.static M.1 ∈ z_all
  | _ => (Cond.methodLink own idx M.1 ∈ z_all ∨ (own, idx, M.1) ∈ z_nest) ∧ Cond.instanceMethod M.1 ∈ z_all ∧ M.1.name = "<init>" ∧ M.2.2.2 = none
theorem z_callB {K : zK} {d d' : Nat} {M M' : zM} {idx na mc' ms' : Nat} {p : Program} {R : Room} {s : State} {m : MethodId} {args : Array Value} {meth : Method} {c : Code} {A : Nat → Prop} {MC MS : Nat} {kind : Nat} (C : zC K d M p R s m args meth c A MC MS) (hm : zMl kind M.1.cls idx M' na) (hl : Cond.methodLink M.1.cls idx M'.1 ∈ z_all) (hd' : d' + 1 ≤ d) :
    CallB R s args M.1.cls idx M'.1 M'.2.1 M'.2.2.1 M'.2.2.2 (z_ws M') (z_rm d' mc' ms') mc' ms' na := by
  obtain ⟨C1, C2, C3, C4, C5, C6, C7, C8, C9, C10, C11, C12, C13, C14⟩ := C
  obtain ⟨m1, m2, m3, m4, m5, -⟩ := hm
  exact callB_of na C7 (z_goodIn M' m1) rfl rfl rfl (C7 _ m2) (C7 _ hl) ⟨m3.1, m3.2, m4⟩ ⟨by show d' + 1 ≤ R.frames; omega, by show 8 + (M'.2.2.1 + 11) + 64 * d' ≤ R.locals; omega⟩
theorem z_pre {K : zK} {M : zM} {d : Nat} {ls : List (Nat × Value)} {n : Nat} {h : zH} {mc ms : Nat} {p : Program} {R : Room} {s : State} {m : MethodId} {args : Array Value} {meth : Method} {c : Code} {A : Nat → Prop} {n0 : Nat} {ad0 ad : Nat → Nat} {H : Heap} {locs : List Loc} {cells slots MC MS : Nat} {lsA : Array Slot} {av : List Value} (C : zC K d M p R s m args meth c A MC MS) (D : zD K M A s n0 ad0 ad n h H locs cells slots mc ms MC MS ls lsA) : ∀ U : State, U.heap = H → s.WarmedH U.vm → z_Pc K ad n h H.size av (av.map (z_v K ad)).toArray U := by
  obtain ⟨C1, C2, C3, C4, C5, C6, C7, C8, C9, C10, C11, C12, C13, C14⟩ := C
  obtain ⟨D1, D2, D3, D4, D5, D6, D7, D8, D9⟩ := D
  intro U hU hW
  have hsub : ∀ q, va_A (z_w K ad n h) H.size q → A q := by
    rintro q (⟨k, e, hk⟩ | hq)
    · exact D7.2 k (q, e) hk
    · exact C10 q (Nat.le_trans D8.1 hq)
  exact ⟨rfl, by rw [hU], by rw [hU]; exact D6, by rw [hU]; exact C9.call D8 hsub hW, D7.weaken (fun _ _ _ _ => trivial)⟩
theorem zg_callv {K : zK} {l : Launch} {d : Nat} {M : zM} {pc : Nat} {ls : List (Nat × Value)} {st : List Value} {n : Nat} {h : zH} {mc ms : Nat} {Q : zQ} {d' idx na mc' ms' b ci : Nat} {M' : zM} {av rest fs : List Value} {Q' : zQ} (hr : zRuns K l d' M' (.ref b :: av) n h mc' ms' Q') (hm : zMl 0 M.1.cls idx M' na) (hb : b < n) (hc : h b = .inr (ci, fs)) (hcl : (vwCl[ci]?).map (fun q => q.1) = some M'.1.cls) (hst : st = av.reverse ++ .ref b :: rest) (hna : av.length = na) (hd' : d' + 1 ≤ d) (hrest : (rest.map fun v => v.category).sum ≤ 8) (hb1 : mc' ≤ mc) (hb2 : ms' ≤ ms) (hd : decode M.2.1 pc = .ok (.invokevirtual idx, 3))
    (k : ∀ v n' h', Q' v n' h' → (n' = n ∨ zWf n ls rest) ∧ zGo K l d M (pc + 3) ls (v.toList ++ rest) n' h' (mc - mc') (ms - ms') Q) : zGo K l d M pc ls st n h mc ms Q := by
  intro p e R s m args below meth c A n0 ad0 ad H locs cells slots MC MS lsA C D
  subst hst
  have C' := C
  have D' := D
  obtain ⟨C1, C2, C3, C4, C5, C6, C7, C8, C9, C10, C11, C12, C13, C14⟩ := C'
  obtain ⟨D1, D2, D3, D4, D5, D6, D7, D8, D9⟩ := D'
  have m6 : Cond.methodLink M.1.cls idx M'.1 ∈ z_all ∧ Cond.instanceMethod M'.1 ∈ z_all ∧ Cond.selects M'.1.cls M'.1 M'.1 ∈ z_all := hm.2.2.2.2.2
  obtain ⟨q, hq, hq2⟩ : ∃ q, vwCl[ci]? = some q ∧ q.1 = M'.1.cls := by
    cases hv : vwCl[ci]? with
    | none => rw [hv] at hcl; simp at hcl
    | some q => rw [hv] at hcl; exact ⟨q, rfl, by simpa using hcl⟩
  obtain ⟨cell, hcell, hobj, hfc⟩ := va_recv C9.1 D6 hq (z_at (K := K) (ad := ad) hb hc)
  rw [hq2] at hfc
  have hp : PreV s H M'.1.cls (z_ad K ad b) (z_Pc K ad n h H.size (.ref b :: av)) (av.map (z_v K ad)) := ⟨z_blind, ⟨cell, hcell, hobj, hfc⟩, z_pre (av := .ref b :: av) C D⟩
  have hrun := va_runV (g := F0 m pc lsA ((av.reverse ++ .ref b :: rest).map (z_v K ad))) (rest := rest.map (z_v K ad)) (cells := cells) (slots := slots) (locs := locs) (below := below) (e := e) (meth := meth) ⟨C1, C2, C4, C5, C7⟩ (hr ad H.size) ⟨z_callB (mc' := mc') (ms' := ms') C hm m6.1 hd', C7 _ m6.2.1, C7 _ m6.2.2⟩ hp rfl (by rw [List.length_map]; exact hna) D9.1 (by simp [z_v]) (by
    have e1 : ((rest.map (z_v K ad)).map fun v => v.category) = rest.map fun v => v.category := by
      rw [List.map_map]; exact List.map_congr_left (fun v _ => z_v_cat K ad v)
    show 2 * 0 + _ ≤ 8
    rw [e1]; omega) hd ⟨by omega, by omega⟩
  exact z_called C D hb1 hb2 hrun k
theorem zg_calls {K : zK} {l : Launch} {d : Nat} {M : zM} {pc : Nat} {ls : List (Nat × Value)} {st : List Value} {n : Nat} {h : zH} {mc ms : Nat} {Q : zQ} {d' idx na mc' ms' : Nat} {M' : zM} {av rest : List Value} {Q' : zQ} (hr : zRuns K l d' M' av n h mc' ms' Q') (hm : zMl 1 M.1.cls idx M' na) (hst : st = av.reverse ++ rest) (hna : av.length = na) (hd' : d' + 1 ≤ d) (hrest : (rest.map fun v => v.category).sum ≤ 8) (hb1 : mc' ≤ mc) (hb2 : ms' ≤ ms) (hd : decode M.2.1 pc = .ok (.invokestatic idx, 3))
    (k : ∀ v n' h', Q' v n' h' → (n' = n ∨ zWf n ls rest) ∧ zGo K l d M (pc + 3) ls (v.toList ++ rest) n' h' (mc - mc') (ms - ms') Q) : zGo K l d M pc ls st n h mc ms Q := by
  intro p e R s m args below meth c A n0 ad0 ad H locs cells slots MC MS lsA C D
  subst hst
  have C' := C
  have D' := D
  obtain ⟨C1, C2, C3, C4, C5, C6, C7, C8, C9, C10, C11, C12, C13, C14⟩ := C'
  obtain ⟨D1, D2, D3, D4, D5, D6, D7, D8, D9⟩ := D'
  have m6 : Cond.methodLink M.1.cls idx M'.1 ∈ z_all ∧ Cond.static M'.1 ∈ z_all := hm.2.2.2.2.2
  have hrun := va_runS (g := F0 m pc lsA ((av.reverse ++ rest).map (z_v K ad))) (rest := rest.map (z_v K ad)) (cells := cells) (slots := slots) (locs := locs) (below := below) (e := e) (meth := meth) ⟨C1, C2, C4, C5, C7⟩ (hr ad H.size) ⟨z_callB (mc' := mc') (ms' := ms') C hm m6.1 hd', C7 _ m6.2⟩ (H := H) (As := av.map (z_v K ad)) ⟨z_blind, z_pre C D⟩ rfl (by rw [List.length_map]; exact hna) D9.1 (by simp) (by
    have e1 : ((rest.map (z_v K ad)).map fun v => v.category) = rest.map fun v => v.category := by
      rw [List.map_map]; exact List.map_congr_left (fun v _ => z_v_cat K ad v)
    show 2 * 0 + _ ≤ 8
    rw [e1]; omega) hd ⟨by omega, by omega⟩
  exact z_called C D hb1 hb2 hrun k

/-- blocks: instructions by their places -/
def zhd : List (Nat × Instr) → Nat → Nat
  | [], fin => fin
  | (p, _) :: _, _ => p
def zOk (cc : ByteArray) : List (Nat × Instr) → Nat → Bool
  | [], _ => true
  | (p, i) :: t, fin => decide (decode cc p = .ok (i, zhd t fin - p)) && zOk cc t fin
def zGb (K : zK) (l : Launch) (d : Nat) (M : zM) (bs : List (Nat × Instr)) (fin : Nat) (ls : List (Nat × Value)) (st : List Value) (n : Nat) (h : zH) (mc ms : Nat) (Q : zQ) : Prop := zOk M.2.1 bs fin = true → zGo K l d M (zhd bs fin) ls st n h mc ms Q
theorem zb_in {K : zK} {l : Launch} {d : Nat} {M : zM} {bs : List (Nat × Instr)} {fin : Nat} {ls : List (Nat × Value)} {st : List Value} {n : Nat} {h : zH} {mc ms : Nat} {Q : zQ} (ok : zOk M.2.1 bs fin = true) (k : zGb K l d M bs fin ls st n h mc ms Q) : zGo K l d M (zhd bs fin) ls st n h mc ms Q := k ok
theorem zb_out {K : zK} {l : Launch} {d : Nat} {M : zM} {fin : Nat} {ls : List (Nat × Value)} {st : List Value} {n : Nat} {h : zH} {mc ms : Nat} {Q : zQ} (k : zGo K l d M fin ls st n h mc ms Q) : zGb K l d M [] fin ls st n h mc ms Q := fun _ => k
theorem zb_ok {cc : ByteArray} {p : Nat} {i : Instr} {bs : List (Nat × Instr)} {fin len : Nat} (ok : zOk cc ((p, i) :: bs) fin = true) (hlen : zhd bs fin = p + len) : decode cc p = .ok (i, len) ∧ zOk cc bs fin = true := by
  simp only [zOk, Bool.and_eq_true, decide_eq_true_eq] at ok
  have e : zhd bs fin - p = len := by omega
  rw [e] at ok
  exact ok
theorem zb_go {K : zK} {l : Launch} {d : Nat} {M : zM} {p : Nat} {i : Instr} {bs : List (Nat × Instr)} {fin len : Nat} {ls ls' : List (Nat × Value)} {st st' : List Value} {n n' : Nat} {h h' : zH} {mc ms mc' ms' : Nat} {Q : zQ} (g : decode M.2.1 p = .ok (i, len) → zGo K l d M (p + len) ls' st' n' h' mc' ms' Q → zGo K l d M p ls st n h mc ms Q) (hlen : zhd bs fin = p + len) (k : zGb K l d M bs fin ls' st' n' h' mc' ms' Q) : zGb K l d M ((p, i) :: bs) fin ls st n h mc ms Q := by
  intro ok
  obtain ⟨o1, o2⟩ := zb_ok ok hlen
  have k2 := k o2
  rw [hlen] at k2
  exact g o1 k2
theorem zb_br {K : zK} {l : Launch} {d : Nat} {M : zM} {p : Nat} {i : Instr} {bs : List (Nat × Instr)} {fin len tgt : Nat} {ls : List (Nat × Value)} {st st' : List Value} {n : Nat} {h : zH} {mc ms : Nat} {Q : zQ} {P N : Prop} (g : decode M.2.1 p = .ok (i, len) → (P → zGo K l d M tgt ls st' n h mc ms Q) → (N → zGo K l d M (p + len) ls st' n h mc ms Q) → zGo K l d M p ls st n h mc ms Q) (hlen : zhd bs fin = p + len) (kt : P → zGo K l d M tgt ls st' n h mc ms Q) (kf : N → zGb K l d M bs fin ls st' n h mc ms Q) : zGb K l d M ((p, i) :: bs) fin ls st n h mc ms Q := by
  intro ok
  obtain ⟨o1, o2⟩ := zb_ok ok hlen
  exact g o1 kt (fun q => hlen ▸ kf q o2)
theorem zb_end {K : zK} {l : Launch} {d : Nat} {M : zM} {p : Nat} {i : Instr} {bs : List (Nat × Instr)} {fin len : Nat} {ls : List (Nat × Value)} {st : List Value} {n : Nat} {h : zH} {mc ms : Nat} {Q : zQ} (g : decode M.2.1 p = .ok (i, len) → zGo K l d M p ls st n h mc ms Q) (hlen : zhd bs fin = p + len) : zGb K l d M ((p, i) :: bs) fin ls st n h mc ms Q := by
  intro ok
  obtain ⟨o1, o2⟩ := zb_ok ok hlen
  exact g o1
/-- what a method answers and leaves: no new cell -/
def zRet (K : zK) (l : Launch) (d : Nat) (M : zM) (av : List Value) (n : Nat) (h : zH) (v : Option Value) (h' : zH) : Prop := zRuns K l d M av n h 0 0 (fun v1 n1 h1 => v1 = v ∧ n1 = n ∧ h1 = h')
def zRex (K : zK) (l : Launch) (d : Nat) (M : zM) (av : List Value) (n : Nat) (h : zH) (P : Option Value → zH → Prop) : Prop := zRuns K l d M av n h 0 0 (fun v1 n1 h1 => n1 = n ∧ P v1 h1)
theorem zb_callv {K : zK} {l : Launch} {d : Nat} {M : zM} {p idx fin : Nat} {bs : List (Nat × Instr)} {ls : List (Nat × Value)} {st : List Value} {n : Nat} {h h' : zH} {Q : zQ} {d' na b ci : Nat} {M' : zM} {av rest fs : List Value} {v : Option Value} (hr : zRet K l d' M' (.ref b :: av) n h v h') (hm : zMl 0 M.1.cls idx M' na) (hc : h b = .inr (ci, fs)) (hcl : (vwCl[ci]?).map (fun q => q.1) = some M'.1.cls) (hst : st = av.reverse ++ .ref b :: rest) (hb : b < n) (hd' : d' + 1 ≤ d) (hna : av.length = na) (hrest : (rest.map fun v => v.category).sum ≤ 8) (hlen : zhd bs fin = p + 3) (k : zGb K l d M bs fin ls (v.toList ++ rest) n h' 0 0 Q) : zGb K l d M ((p, .invokevirtual idx) :: bs) fin ls st n h 0 0 Q := by
  intro ok
  obtain ⟨o1, o2⟩ := zb_ok ok hlen
  have k2 := k o2
  rw [hlen] at k2
  refine zg_callv hr hm hb hc hcl hst hna hd' hrest (Nat.le_refl _) (Nat.le_refl _) o1 (fun v1 n1 h1 q => ?_)
  obtain ⟨rfl, rfl, rfl⟩ := q
  exact ⟨Or.inl rfl, k2⟩
theorem zb_calls {K : zK} {l : Launch} {d : Nat} {M : zM} {p idx fin : Nat} {bs : List (Nat × Instr)} {ls : List (Nat × Value)} {st : List Value} {n : Nat} {h h' : zH} {Q : zQ} {d' na : Nat} {M' : zM} {av rest : List Value} {v : Option Value} (hr : zRet K l d' M' av n h v h') (hm : zMl 1 M.1.cls idx M' na) (hst : st = av.reverse ++ rest) (hd' : d' + 1 ≤ d) (hna : av.length = na) (hrest : (rest.map fun v => v.category).sum ≤ 8) (hlen : zhd bs fin = p + 3) (k : zGb K l d M bs fin ls (v.toList ++ rest) n h' 0 0 Q) : zGb K l d M ((p, .invokestatic idx) :: bs) fin ls st n h 0 0 Q := by
  intro ok
  obtain ⟨o1, o2⟩ := zb_ok ok hlen
  have k2 := k o2
  rw [hlen] at k2
  refine zg_calls hr hm hst hna hd' hrest (Nat.le_refl _) (Nat.le_refl _) o1 (fun v1 n1 h1 q => ?_)
  obtain ⟨rfl, rfl, rfl⟩ := q
  exact ⟨Or.inl rfl, k2⟩
theorem zb_callvx {K : zK} {l : Launch} {d : Nat} {M : zM} {p idx fin : Nat} {bs : List (Nat × Instr)} {ls : List (Nat × Value)} {st : List Value} {n : Nat} {h : zH} {Q : zQ} {d' na b ci : Nat} {M' : zM} {av rest fs : List Value} {P : Option Value → zH → Prop} (hr : zRex K l d' M' (.ref b :: av) n h P) (hm : zMl 0 M.1.cls idx M' na) (hc : h b = .inr (ci, fs)) (hcl : (vwCl[ci]?).map (fun q => q.1) = some M'.1.cls) (hst : st = av.reverse ++ .ref b :: rest) (hb : b < n) (hd' : d' + 1 ≤ d) (hna : av.length = na) (hrest : (rest.map fun v => v.category).sum ≤ 8) (hlen : zhd bs fin = p + 3) (k : ∀ v h', P v h' → zGb K l d M bs fin ls (v.toList ++ rest) n h' 0 0 Q) : zGb K l d M ((p, .invokevirtual idx) :: bs) fin ls st n h 0 0 Q := by
  intro ok
  obtain ⟨o1, o2⟩ := zb_ok ok hlen
  refine zg_callv hr hm hb hc hcl hst hna hd' hrest (Nat.le_refl _) (Nat.le_refl _) o1 (fun v1 n1 h1 q => ?_)
  obtain ⟨rfl, q⟩ := q
  have k2 := k v1 h1 q o2
  rw [hlen] at k2
  exact ⟨Or.inl rfl, k2⟩
theorem zb_callsx {K : zK} {l : Launch} {d : Nat} {M : zM} {p idx fin : Nat} {bs : List (Nat × Instr)} {ls : List (Nat × Value)} {st : List Value} {n : Nat} {h : zH} {Q : zQ} {d' na : Nat} {M' : zM} {av rest : List Value} {P : Option Value → zH → Prop} (hr : zRex K l d' M' av n h P) (hm : zMl 1 M.1.cls idx M' na) (hst : st = av.reverse ++ rest) (hd' : d' + 1 ≤ d) (hna : av.length = na) (hrest : (rest.map fun v => v.category).sum ≤ 8) (hlen : zhd bs fin = p + 3) (k : ∀ v h', P v h' → zGb K l d M bs fin ls (v.toList ++ rest) n h' 0 0 Q) : zGb K l d M ((p, .invokestatic idx) :: bs) fin ls st n h 0 0 Q := by
  intro ok
  obtain ⟨o1, o2⟩ := zb_ok ok hlen
  refine zg_calls hr hm hst hna hd' hrest (Nat.le_refl _) (Nat.le_refl _) o1 (fun v1 n1 h1 q => ?_)
  obtain ⟨rfl, q⟩ := q
  have k2 := k v1 h1 q o2
  rw [hlen] at k2
  exact ⟨Or.inl rfl, k2⟩
theorem zRet.rex {K : zK} {l : Launch} {d : Nat} {M : zM} {av : List Value} {n : Nat} {h : zH} {v : Option Value} {h' : zH} {P : Option Value → zH → Prop} (hr : zRet K l d M av n h v h') (hP : P v h') : zRex K l d M av n h P := zRuns.mono (fun v1 n1 h1 q => by obtain ⟨rfl, rfl, rfl⟩ := q; exact ⟨rfl, hP⟩) hr
/-- an index, as a number -/
def zIx (i : Int32) (N k : Nat) : Prop := vp_in i N ∧ i.toNatClampNeg = k
theorem zIx.nI {N k : Nat} (hk : k < N) (hN : N < 2 ^ 31) : zIx (nI k) N k := ⟨vp_in_nI hk hN, nI_clamp (by omega)⟩
theorem zi_iaload {K : zK} {l : Launch} {d : Nat} {M : zM} {pc : Nat} {ls : List (Nat × Value)} {st : List Value} {n : Nat} {h : zH} {mc ms : Nat} {Q : zQ} {a N k : Nat} {f : Nat → Int32} {i : Int32} (ha : a < n) (hc : h a = .inl (0, N, .inl f)) (hi : zIx i N k) (hd : decode M.2.1 pc = .ok (.iaload, 1)) (kk : zGo K l d M (pc + 1) ls (.int (f k) :: st) n h mc ms Q) : zGo K l d M pc ls (.int i :: .ref a :: st) n h mc ms Q := zg_iaload ha hc hi.1 hd (by rw [hi.2]; exact kk)
theorem zi_baload {K : zK} {l : Launch} {d : Nat} {M : zM} {pc : Nat} {ls : List (Nat × Value)} {st : List Value} {n : Nat} {h : zH} {mc ms : Nat} {Q : zQ} {a N k : Nat} {f : Nat → Int32} {i : Int32} (ha : a < n) (hc : h a = .inl (1, N, .inl f)) (hi : zIx i N k) (hd : decode M.2.1 pc = .ok (.baload, 1)) (kk : zGo K l d M (pc + 1) ls (.int (f k) :: st) n h mc ms Q) : zGo K l d M pc ls (.int i :: .ref a :: st) n h mc ms Q := zg_baload ha hc hi.1 hd (by rw [hi.2]; exact kk)
theorem zi_zaload {K : zK} {l : Launch} {d : Nat} {M : zM} {pc : Nat} {ls : List (Nat × Value)} {st : List Value} {n : Nat} {h : zH} {mc ms : Nat} {Q : zQ} {a N k : Nat} {f : Nat → Int32} {i : Int32} (ha : a < n) (hc : h a = .inl (3, N, .inl f)) (hi : zIx i N k) (hd : decode M.2.1 pc = .ok (.baload, 1)) (kk : zGo K l d M (pc + 1) ls (.int (f k) :: st) n h mc ms Q) : zGo K l d M pc ls (.int i :: .ref a :: st) n h mc ms Q := zg_zaload ha hc hi.1 hd (by rw [hi.2]; exact kk)
theorem zi_laload {K : zK} {l : Launch} {d : Nat} {M : zM} {pc : Nat} {ls : List (Nat × Value)} {st : List Value} {n : Nat} {h : zH} {mc ms : Nat} {Q : zQ} {a N k : Nat} {f : Nat → Int64} {i : Int32} (ha : a < n) (hc : h a = .inl (2, N, .inr (.inl f))) (hi : zIx i N k) (hd : decode M.2.1 pc = .ok (.laload, 1)) (kk : zGo K l d M (pc + 1) ls (.long (f k) :: st) n h mc ms Q) : zGo K l d M pc ls (.int i :: .ref a :: st) n h mc ms Q := zg_laload ha hc hi.1 hd (by rw [hi.2]; exact kk)
theorem zi_aaload {K : zK} {l : Launch} {d : Nat} {M : zM} {pc : Nat} {ls : List (Nat × Value)} {st : List Value} {n : Nat} {h : zH} {mc ms : Nat} {Q : zQ} {a N k x : Nat} {f : Nat → Option Nat} {i : Int32} (ha : a < n) (hc : h a = .inl (4, N, .inr (.inr (.inr (.inr f))))) (hi : zIx i N k) (hx : f k = some x) (hd : decode M.2.1 pc = .ok (.aaload, 1)) (kk : zGo K l d M (pc + 1) ls (.ref x :: st) n h mc ms Q) : zGo K l d M pc ls (.int i :: .ref a :: st) n h mc ms Q := zg_aaload ha hc hi.1 (by rw [hi.2]; exact hx) hd kk
theorem zi_iastore {K : zK} {l : Launch} {d : Nat} {M : zM} {pc : Nat} {ls : List (Nat × Value)} {st : List Value} {n : Nat} {h : zH} {mc ms : Nat} {Q : zQ} {a N k : Nat} {f : Nat → Int32} {i x : Int32} (ha : a < n) (hc : h a = .inl (0, N, .inl f)) (hi : zIx i N k) (hd : decode M.2.1 pc = .ok (.iastore, 1)) (kk : zGo K l d M (pc + 1) ls st n (z_up h a (.inl (0, N, .inl (upd f k x)))) mc ms Q) : zGo K l d M pc ls (.int x :: .int i :: .ref a :: st) n h mc ms Q := zg_iastore ha hc hi.1 hd (by rw [hi.2]; exact kk)
theorem zi_bastore {K : zK} {l : Launch} {d : Nat} {M : zM} {pc : Nat} {ls : List (Nat × Value)} {st : List Value} {n : Nat} {h : zH} {mc ms : Nat} {Q : zQ} {a N k : Nat} {f : Nat → Int32} {i x : Int32} (ha : a < n) (hc : h a = .inl (1, N, .inl f)) (hi : zIx i N k) (hd : decode M.2.1 pc = .ok (.bastore, 1)) (kk : zGo K l d M (pc + 1) ls st n (z_up h a (.inl (1, N, .inl (upd f k x.toInt8.toInt32)))) mc ms Q) : zGo K l d M pc ls (.int x :: .int i :: .ref a :: st) n h mc ms Q := zg_bastore ha hc hi.1 hd (by rw [hi.2, vp_nar_byte]; exact kk)
theorem zi_zastore {K : zK} {l : Launch} {d : Nat} {M : zM} {pc : Nat} {ls : List (Nat × Value)} {st : List Value} {n : Nat} {h : zH} {mc ms : Nat} {Q : zQ} {a N k : Nat} {f : Nat → Int32} {i x y : Int32} (ha : a < n) (hc : h a = .inl (3, N, .inl f)) (hi : zIx i N k) (hy : vp_nar .boolean x = y) (hd : decode M.2.1 pc = .ok (.bastore, 1)) (kk : zGo K l d M (pc + 1) ls st n (z_up h a (.inl (3, N, .inl (upd f k y)))) mc ms Q) : zGo K l d M pc ls (.int x :: .int i :: .ref a :: st) n h mc ms Q := zg_zastore ha hc hi.1 hd (by rw [hi.2, hy]; exact kk)
theorem zi_lastore {K : zK} {l : Launch} {d : Nat} {M : zM} {pc : Nat} {ls : List (Nat × Value)} {st : List Value} {n : Nat} {h : zH} {mc ms : Nat} {Q : zQ} {a N k : Nat} {f : Nat → Int64} {i : Int32} {x : Int64} (ha : a < n) (hc : h a = .inl (2, N, .inr (.inl f))) (hi : zIx i N k) (hd : decode M.2.1 pc = .ok (.lastore, 1)) (kk : zGo K l d M (pc + 1) ls st n (z_up h a (.inl (2, N, .inr (.inl (vp_updL f k x))))) mc ms Q) : zGo K l d M pc ls (.long x :: .int i :: .ref a :: st) n h mc ms Q := zg_lastore ha hc hi.1 hd (by rw [hi.2]; exact kk)
theorem zi_sload {K : zK} {l : Launch} {d : Nat} {M : zM} {pc : Nat} {ls : List (Nat × Value)} {st : List Value} {n : Nat} {h : zH} {mc ms : Nat} {Q : zQ} {i : Int32} {k : Nat} (hi : zIx i K.2.2.2.2.2.1 k) (hd : decode M.2.1 pc = .ok (.iaload, 1)) (kk : zGo K l d M (pc + 1) ls (.int (K.2.2.2.2.2.2 k) :: st) n h mc ms Q) : zGo K l d M pc ls (.int i :: .ref 2000 :: st) n h mc ms Q := zg_sload hi.1 hd (by rw [hi.2]; exact kk)
end
section
/-! THE TABLE: methods, links, blocks (by program) -/
theorem zMl_v {own : String} {idx na : Nat} {M : zM} (h1 : Cond.code M.1 M.2.1 M.2.2.1 M.2.2.2 ∈ z_all) (h2 : Cond.initialized M.1.cls ∈ z_all) (h3 : M.1.cls ≠ "java/lang/invoke/MethodHandle" ∧ M.1.cls ≠ "java/lang/invoke/VarHandle") (h4 : (parseMethodDescriptor M.1.desc).map (fun d => d.parameters.length) = some na) (h5 : M.2.2.1 ≤ 40) (a : Cond.methodLink own idx M.1 ∈ z_all) (b : Cond.instanceMethod M.1 ∈ z_all) (c : Cond.selects M.1.cls M.1 M.1 ∈ z_all) : zMl 0 own idx M na := ⟨h1, h2, h3, h4, h5, a, b, c⟩
theorem zMl_s {own : String} {idx na : Nat} {M : zM} (h1 : Cond.code M.1 M.2.1 M.2.2.1 M.2.2.2 ∈ z_all) (h2 : Cond.initialized M.1.cls ∈ z_all) (h3 : M.1.cls ≠ "java/lang/invoke/MethodHandle" ∧ M.1.cls ≠ "java/lang/invoke/VarHandle") (h4 : (parseMethodDescriptor M.1.desc).map (fun d => d.parameters.length) = some na) (h5 : M.2.2.1 ≤ 40) (a : Cond.methodLink own idx M.1 ∈ z_all) (b : Cond.static M.1 ∈ z_all) : zMl 1 own idx M na := ⟨h1, h2, h3, h4, h5, a, b⟩
theorem zMl_i {own : String} {idx na : Nat} {M : zM} (h1 : Cond.code M.1 M.2.1 M.2.2.1 M.2.2.2 ∈ z_all) (h2 : Cond.initialized M.1.cls ∈ z_all) (h3 : M.1.cls ≠ "java/lang/invoke/MethodHandle" ∧ M.1.cls ≠ "java/lang/invoke/VarHandle") (h4 : (parseMethodDescriptor M.1.desc).map (fun d => d.parameters.length) = some na) (h5 : M.2.2.1 ≤ 40) (a : Cond.methodLink own idx M.1 ∈ z_all ∨ (own, idx, M.1) ∈ z_nest) (b : Cond.instanceMethod M.1 ∈ z_all) (c : M.1.name = "<init>") (e : M.2.2.2 = none) : zMl 2 own idx M na := ⟨h1, h2, h3, h4, h5, a, b, c, e⟩
def mX0_most : zM := (yX0_most, cX0_most, 4, (some .int))
def mX0_firstBar : zM := (yX0_firstBar, cX0_firstBar, 4, (some .int))
def mX0_lostIn : zM := (yX0_lostIn, cX0_lostIn, 4, (some .int))
def mX0_fullWeight : zM := (yX0_fullWeight, cX0_fullWeight, 5, (some .int))
def mX1_init : zM := (yX1_init, cX1_init, 1, none)
def mX1_forParish : zM := (yX1_forParish, cX1_forParish, 1, none)
def mX1_forTower : zM := (yX1_forTower, cX1_forTower, 1, none)
def mX1_settle : zM := (yX1_settle, cX1_settle, 4, none)
def mX1_everyone : zM := (yX1_everyone, cX1_everyone, 1, (some .int))
def mX1_fewestShort : zM := (yX1_fewestShort, cX1_fewestShort, 1, (some .int))
def mX1_leastWalk : zM := (yX1_leastWalk, cX1_leastWalk, 1, (some .int))
def mX1_firstBell : zM := (yX1_firstBell, cX1_firstBell, 4, (some .int))
def mX1_fewestRingers : zM := (yX1_fewestRingers, cX1_fewestRingers, 1, (some .int))
def mX1_areEnough : zM := (yX1_areEnough, cX1_areEnough, 3, (some .boolean))
def mX1_mostEven : zM := (yX1_mostEven, cX1_mostEven, 2, (some .int))
def mX1_missedRingers : zM := (yX1_missedRingers, cX1_missedRingers, 2, (some .int))
def mX1_ringsInFirst : zM := (yX1_ringsInFirst, cX1_ringsInFirst, 3, (some .boolean))
def mX1_isEnough : zM := (yX1_isEnough, cX1_isEnough, 5, (some .boolean))
def mX1_shiftOf : zM := (yX1_shiftOf, cX1_shiftOf, 2, (some .int))
def mX1_priceHour : zM := (yX1_priceHour, cX1_priceHour, 11, none)
def mX1_addInOrder : zM := (yX1_addInOrder, cX1_addInOrder, 5, none)
def mX1_walkOf : zM := (yX1_walkOf, cX1_walkOf, 5, (some .int))
def mX1_seatsOf : zM := (yX1_seatsOf, cX1_seatsOf, 9, (some .long))
def mX1_findLeast : zM := (yX1_findLeast, cX1_findLeast, 7, none)
def mX1_search : zM := (yX1_search, cX1_search, 7, (some .long))
def mX1_seek : zM := (yX1_seek, cX1_seek, 14, none)
def mX1_leastAfter : zM := (yX1_leastAfter, cX1_leastAfter, 5, (some .long))
def mX1_openIn : zM := (yX1_openIn, cX1_openIn, 9, (some .int))
def mX2_init : zM := (yX2_init, cX2_init, 1, none)
def mX2_empty : zM := (yX2_empty, cX2_empty, 1, none)
def mX2_addHour : zM := (yX2_addHour, cX2_addHour, 2, none)
def mX2_addRinger : zM := (yX2_addRinger, cX2_addRinger, 5, none)
def mX2_hasHour : zM := (yX2_hasHour, cX2_hasHour, 2, (some .boolean))
def mX2_hasRinger : zM := (yX2_hasRinger, cX2_hasRinger, 2, (some .boolean))
def mX2_hasBell : zM := (yX2_hasBell, cX2_hasBell, 3, (some .boolean))
def mX2_wantedInAll : zM := (yX2_wantedInAll, cX2_wantedInAll, 3, (some .int))
def mX2_bellsFor : zM := (yX2_bellsFor, cX2_bellsFor, 3, (some .int))
def mX2_canRing : zM := (yX2_canRing, cX2_canRing, 4, (some .boolean))
def mX2_ableOf : zM := (yX2_ableOf, cX2_ableOf, 6, (some .int))
def mX2_busyHours : zM := (yX2_busyHours, cX2_busyHours, 2, (some .int))
def mX2_way : zM := (yX2_way, cX2_way, 3, (some .int))
def mX2_weightOf : zM := (yX2_weightOf, cX2_weightOf, 4, (some .int))
def mX2_weightInAll : zM := (yX2_weightInAll, cX2_weightInAll, 3, (some .int))
def mX3_init : zM := (yX3_init, cX3_init, 1, none)
def mX3_empty : zM := (yX3_empty, cX3_empty, 2, none)
def mX3_clean : zM := (yX3_clean, cX3_clean, 2, none)
def mX3_copy : zM := (yX3_copy, cX3_copy, 2, none)
def mX3_bellOf : zM := (yX3_bellOf, cX3_bellOf, 3, (some .int))
def mX3_isTurn : zM := (yX3_isTurn, cX3_isTurn, 2, (some .boolean))
def mX3_hasTurn : zM := (yX3_hasTurn, cX3_hasTurn, 3, (some .boolean))
def mX3_give : zM := (yX3_give, cX3_give, 4, none)
def mX3_free : zM := (yX3_free, cX3_free, 3, none)
def mX3_swap : zM := (yX3_swap, cX3_swap, 5, none)
def mX3_ringerAt : zM := (yX3_ringerAt, cX3_ringerAt, 4, (some .int))
def mX3_timesOf : zM := (yX3_timesOf, cX3_timesOf, 4, (some .int))
def mX3_hasRoom : zM := (yX3_hasRoom, cX3_hasRoom, 6, (some .boolean))
def mX3_ringersIn : zM := (yX3_ringersIn, cX3_ringersIn, 4, (some .int))
def mX3_ringersAtAll : zM := (yX3_ringersAtAll, cX3_ringersAtAll, 3, (some .int))
def mX3_soundsWithout : zM := (yX3_soundsWithout, cX3_soundsWithout, 3, (some .boolean))
def mX3_walk : zM := (yX3_walk, cX3_walk, 5, (some .int))
def mX4_init : zM := (yX4_init, cX4_init, 1, none)
def mX4_empty : zM := (yX4_empty, cX4_empty, 1, none)
def mX4_add : zM := (yX4_add, cX4_add, 2, none)
def mX4_read : zM := (yX4_read, cX4_read, 4, (some .int))
def mX4_readItem : zM := (yX4_readItem, cX4_readItem, 4, none)
def mX4_kindOfWord : zM := (yX4_kindOfWord, cX4_kindOfWord, 3, (some .int))
def mX4_nameOf : zM := (yX4_nameOf, cX4_nameOf, 1, (some (.object "java/lang/String")))
def mX4_isWord : zM := (yX4_isWord, cX4_isWord, 5, (some .boolean))
def mX4_mayStand : zM := (yX4_mayStand, cX4_mayStand, 3, (some .boolean))
def mX4_readNumbers : zM := (yX4_readNumbers, cX4_readNumbers, 2, none)
def mX4_readNumber : zM := (yX4_readNumber, cX4_readNumber, 7, none)
def mX4_readEnd : zM := (yX4_readEnd, cX4_readEnd, 1, none)
def mX4_endsTooEarly : zM := (yX4_endsTooEarly, cX4_endsTooEarly, 1, (some .boolean))
def mX4_skipBlanks : zM := (yX4_skipBlanks, cX4_skipBlanks, 1, none)
def mX4_tell : zM := (yX4_tell, cX4_tell, 3, none)
def mX5_init : zM := (yX5_init, cX5_init, 2, none)
def mX5_type : zM := (yX5_type, cX5_type, 5, (some .int))
def mX5_clear : zM := (yX5_clear, cX5_clear, 2, (some .int))
def mX5_parish : zM := (yX5_parish, cX5_parish, 4, (some .int))
def mX5_ringer : zM := (yX5_ringer, cX5_ringer, 3, (some .int))
def mX5_hour : zM := (yX5_hour, cX5_hour, 3, (some .int))
def mX5_put : zM := (yX5_put, cX5_put, 4, (some .int))
def mX5_rings : zM := (yX5_rings, cX5_rings, 3, (some .int))
def mX5_take : zM := (yX5_take, cX5_take, 4, (some .int))
def mX5_exchange : zM := (yX5_exchange, cX5_exchange, 3, (some .int))
def mX5_canTakeOver : zM := (yX5_canTakeOver, cX5_canTakeOver, 5, (some .boolean))
def mX5_now : zM := (yX5_now, cX5_now, 2, (some .int))
def mX5_moves : zM := (yX5_moves, cX5_moves, 3, (some .int))
def mX5_crew : zM := (yX5_crew, cX5_crew, 2, (some .int))
def mX5_bars : zM := (yX5_bars, cX5_bars, 2, (some .int))
def mX5_night : zM := (yX5_night, cX5_night, 2, (some .int))
def mX5_best : zM := (yX5_best, cX5_best, 3, (some .int))
def mX5_needed : zM := (yX5_needed, cX5_needed, 1, (some .int))
def mX5_odds : zM := (yX5_odds, cX5_odds, 6, (some .int))
def mX5_commonDivisor : zM := (yX5_commonDivisor, cX5_commonDivisor, 6, (some .int))
def mX5_stands : zM := (yX5_stands, cX5_stands, 6, (some .int))
def mX5_heard : zM := (yX5_heard, cX5_heard, 4, (some .int))
def mX5_forget : zM := (yX5_forget, cX5_forget, 3, (some .int))
def mX5_away : zM := (yX5_away, cX5_away, 7, (some .int))
def mX5_mark : zM := (yX5_mark, cX5_mark, 3, (some .int))
def mX5_markRinger : zM := (yX5_markRinger, cX5_markRinger, 2, (some .int))
def mX5_markSexton : zM := (yX5_markSexton, cX5_markSexton, 2, (some .int))
def mX5_markChild : zM := (yX5_markChild, cX5_markChild, 2, (some .int))
def mX5_markWarden : zM := (yX5_markWarden, cX5_markWarden, 2, (some .int))
def mX5_markNovice : zM := (yX5_markNovice, cX5_markNovice, 2, (some .int))
def mX5_markStranger : zM := (yX5_markStranger, cX5_markStranger, 2, (some .int))
def mX5_keep : zM := (yX5_keep, cX5_keep, 2, (some .int))
def mX5_back : zM := (yX5_back, cX5_back, 2, (some .int))
def mX5_count : zM := (yX5_count, cX5_count, 2, (some .int))
def mX5_trace : zM := (yX5_trace, cX5_trace, 1, (some .long))
def mX6_init : zM := (yX6_init, cX6_init, 1, none)
def mX6_in : zM := (yX6_in, cX6_in, 3, (some .boolean))
def mX6_type : zM := (yX6_type, cX6_type, 5, (some .int))
def mX6_clear : zM := (yX6_clear, cX6_clear, 2, (some .int))
def mX6_here : zM := (yX6_here, cX6_here, 1, (some .int))
def mX6_meaning : zM := (yX6_meaning, cX6_meaning, 1, (some .int))
def mX6_next : zM := (yX6_next, cX6_next, 3, none)
def mX6_due : zM := (yX6_due, cX6_due, 3, (some .int))
def mX6_number : zM := (yX6_number, cX6_number, 3, (some .int))
def mX6_readItem : zM := (yX6_readItem, cX6_readItem, 3, none)
def mX6_parish : zM := (yX6_parish, cX6_parish, 3, (some .int))
def mX6_begin : zM := (yX6_begin, cX6_begin, 2, none)
def mX6_isHour : zM := (yX6_isHour, cX6_isHour, 2, (some .boolean))
def mX6_isRinger : zM := (yX6_isRinger, cX6_isRinger, 2, (some .boolean))
def mX6_isWanted : zM := (yX6_isWanted, cX6_isWanted, 3, (some .boolean))
def mX6_bellOf : zM := (yX6_bellOf, cX6_bellOf, 5, (some .int))
def mX6_timesOf : zM := (yX6_timesOf, cX6_timesOf, 4, (some .int))
def mX6_inRota : zM := (yX6_inRota, cX6_inRota, 4, (some .int))
def mX6_allInRota : zM := (yX6_allInRota, cX6_allInRota, 1, (some .int))
def mX6_wayOf : zM := (yX6_wayOf, cX6_wayOf, 3, (some .int))
def mX6_walkTo : zM := (yX6_walkTo, cX6_walkTo, 4, (some .int))
def mX6_ringer : zM := (yX6_ringer, cX6_ringer, 3, (some .int))
def mX6_hour : zM := (yX6_hour, cX6_hour, 3, (some .int))
def mX6_isBusy : zM := (yX6_isBusy, cX6_isBusy, 3, (some .boolean))
def mX6_isLawful : zM := (yX6_isLawful, cX6_isLawful, 8, (some .boolean))
def mX6_put : zM := (yX6_put, cX6_put, 4, (some .int))
def mX6_rings : zM := (yX6_rings, cX6_rings, 3, (some .int))
def mX6_take : zM := (yX6_take, cX6_take, 4, (some .int))
def mX6_change : zM := (yX6_change, cX6_change, 4, none)
def mX6_exchange : zM := (yX6_exchange, cX6_exchange, 3, (some .int))
def mX6_allWanted : zM := (yX6_allWanted, cX6_allWanted, 3, (some .int))
def mX6_now : zM := (yX6_now, cX6_now, 2, (some .int))
def mX6_moves : zM := (yX6_moves, cX6_moves, 3, (some .int))
def mX6_bitsIn : zM := (yX6_bitsIn, cX6_bitsIn, 3, (some .int))
def mX6_wayToRing : zM := (yX6_wayToRing, cX6_wayToRing, 12, (some .int))
def mX6_findCrews : zM := (yX6_findCrews, cX6_findCrews, 5, none)
def mX6_crew : zM := (yX6_crew, cX6_crew, 2, (some .int))
def mX6_bars : zM := (yX6_bars, cX6_bars, 5, (some .int))
def mX6_mayFollow : zM := (yX6_mayFollow, cX6_mayFollow, 6, (some .boolean))
def mX6_follow : zM := (yX6_follow, cX6_follow, 3, none)
def mX6_wantedFrom : zM := (yX6_wantedFrom, cX6_wantedFrom, 4, (some .int))
def mX6_isFirst : zM := (yX6_isFirst, cX6_isFirst, 6, (some .boolean))
def mX6_weigh : zM := (yX6_weigh, cX6_weigh, 6, none)
def mX6_goThrough : zM := (yX6_goThrough, cX6_goThrough, 6, none)
def mX6_mostBut : zM := (yX6_mostBut, cX6_mostBut, 2, (some .int))
def mX6_findNight : zM := (yX6_findNight, cX6_findNight, 1, none)
def mX6_night : zM := (yX6_night, cX6_night, 2, (some .int))
def mX6_best : zM := (yX6_best, cX6_best, 4, (some .int))
def mX6_needed : zM := (yX6_needed, cX6_needed, 4, (some .int))
def mX6_common : zM := (yX6_common, cX6_common, 5, (some .int))
def mX6_odds : zM := (yX6_odds, cX6_odds, 10, (some .int))
def mX6_stands : zM := (yX6_stands, cX6_stands, 4, (some .int))
def mX6_heard : zM := (yX6_heard, cX6_heard, 4, (some .int))
def mX6_forget : zM := (yX6_forget, cX6_forget, 3, (some .int))
def mX6_fits : zM := (yX6_fits, cX6_fits, 7, (some .boolean))
def mX6_away : zM := (yX6_away, cX6_away, 7, (some .int))
def mX6_mark : zM := (yX6_mark, cX6_mark, 5, (some .int))
def mX6_copy : zM := (yX6_copy, cX6_copy, 4, none)
def mX6_keep : zM := (yX6_keep, cX6_keep, 2, (some .int))
def mX6_back : zM := (yX6_back, cX6_back, 2, (some .int))
def mX6_count : zM := (yX6_count, cX6_count, 2, (some .int))
def mX6_trace : zM := (yX6_trace, cX6_trace, 1, (some .long))
def mJ6_bitCount_0f7a4 : zM := (yJ6_bitCount_0f7a4, cJ6_bitCount_0f7a4, 1, (some .int))
def mJ9_abs_0f7a4 : zM := (yJ9_abs_0f7a4, cJ9_abs_0f7a4, 1, (some .int))
def mJ9_max_7cf53 : zM := (yJ9_max_7cf53, cJ9_max_7cf53, 2, (some .int))
def mJ9_min_7cf53 : zM := (yJ9_min_7cf53, cJ9_min_7cf53, 2, (some .int))
def mJ9_min_f86c9 : zM := (yJ9_min_f86c9, cJ9_min_f86c9, 4, (some .long))
def mJ0_length_8abf5 : zM := (yJ0_length_8abf5, cJ0_length_8abf5, 1, (some .int))
def mJ0_charAt_5068e : zM := (yJ0_charAt_5068e, cJ0_charAt_5068e, 2, (some .char))
def mJ0_coder_7d493 : zM := (yJ0_coder_7d493, cJ0_coder_7d493, 1, (some .byte))
def mJ0_isLatin1_aae02 : zM := (yJ0_isLatin1_aae02, cJ0_isLatin1_aae02, 1, (some .boolean))
def mJ0_checkIndex_df160 : zM := (yJ0_checkIndex_df160, cJ0_checkIndex_df160, 2, none)
def mJ1_charAt_3b067 : zM := (yJ1_charAt_3b067, cJ1_charAt_3b067, 2, (some .char))
def mJ2_getChar_3b067 : zM := (yJ2_getChar_3b067, cJ2_getChar_3b067, 2, (some .char))
def mJ2_length_9d52b : zM := (yJ2_length_9d52b, cJ2_length_9d52b, 1, (some .int))
def mJ2_charAt_3b067 : zM := (yJ2_charAt_3b067, cJ2_charAt_3b067, 2, (some .char))
def mJ2_checkIndex_2214a : zM := (yJ2_checkIndex_2214a, cJ2_checkIndex_2214a, 2, none)
def mJ3_checkIndex_8e157 : zM := (yJ3_checkIndex_8e157, cJ3_checkIndex_8e157, 3, (some .int))
def mL_law : zM := (x, code, 4, ret)
theorem fX0_9 : zFl RX0 9 1 5 := ⟨(RX2, TX2, 10), rfl, by decide, z_in (List.mem_of_getElem? (i := 140) (by decide +kernel)) (by decide +kernel)⟩
theorem wc_X0_lostIn : Cond.code mX0_lostIn.1 mX0_lostIn.2.1 mX0_lostIn.2.2.1 mX0_lostIn.2.2.2 ∈ z_all := z_in (List.mem_of_getElem? (i := 564) (by decide +kernel)) (by decide +kernel)
theorem wi_X0 : Cond.initialized RX0 ∈ z_all := z_in (List.mem_of_getElem? (i := 72) (by decide +kernel)) (by decide +kernel)
theorem wlX0_15 : Cond.methodLink RX0 15 yX0_lostIn ∈ z_all := z_in (List.mem_of_getElem? (i := 562) (by decide +kernel)) (by decide +kernel)
theorem wt_X0_lostIn : Cond.static yX0_lostIn ∈ z_all := z_in (List.mem_of_getElem? (i := 563) (by decide +kernel)) (by decide +kernel)
theorem lX0_15 : zMl 1 RX0 15 mX0_lostIn 4 := zMl_s wc_X0_lostIn wi_X0 ⟨by decide, by decide⟩ (by decide +kernel) (by decide) wlX0_15 wt_X0_lostIn
theorem wc_J9_max_7cf53 : Cond.code mJ9_max_7cf53.1 mJ9_max_7cf53.2.1 mJ9_max_7cf53.2.2.1 mJ9_max_7cf53.2.2.2 ∈ z_all := z_in (List.mem_of_getElem? (i := 572) (by decide +kernel)) (by decide +kernel)
theorem wi_J9 : Cond.initialized RJ9 ∈ z_all := z_in (List.mem_of_getElem? (i := 70) (by decide +kernel)) (by decide +kernel)
theorem wlX0_21 : Cond.methodLink RX0 21 yJ9_max_7cf53 ∈ z_all := z_in (List.mem_of_getElem? (i := 570) (by decide +kernel)) (by decide +kernel)
theorem wt_J9_max_7cf53 : Cond.static yJ9_max_7cf53 ∈ z_all := z_in (List.mem_of_getElem? (i := 571) (by decide +kernel)) (by decide +kernel)
theorem lX0_21 : zMl 1 RX0 21 mJ9_max_7cf53 2 := zMl_s wc_J9_max_7cf53 wi_J9 ⟨by decide, by decide⟩ (by decide +kernel) (by decide) wlX0_21 wt_J9_max_7cf53
theorem wc_J6_bitCount_0f7a4 : Cond.code mJ6_bitCount_0f7a4.1 mJ6_bitCount_0f7a4.2.1 mJ6_bitCount_0f7a4.2.2.1 mJ6_bitCount_0f7a4.2.2.2 ∈ z_all := z_in (List.mem_of_getElem? (i := 465) (by decide +kernel)) (by decide +kernel)
theorem wi_J6 : Cond.initialized RJ6 ∈ z_all := z_in (List.mem_of_getElem? (i := 71) (by decide +kernel)) (by decide +kernel)
theorem wlX0_27 : Cond.methodLink RX0 27 yJ6_bitCount_0f7a4 ∈ z_all := z_in (List.mem_of_getElem? (i := 565) (by decide +kernel)) (by decide +kernel)
theorem wt_J6_bitCount_0f7a4 : Cond.static yJ6_bitCount_0f7a4 ∈ z_all := z_in (List.mem_of_getElem? (i := 464) (by decide +kernel)) (by decide +kernel)
theorem lX0_27 : zMl 1 RX0 27 mJ6_bitCount_0f7a4 1 := zMl_s wc_J6_bitCount_0f7a4 wi_J6 ⟨by decide, by decide⟩ (by decide +kernel) (by decide) wlX0_27 wt_J6_bitCount_0f7a4
theorem wc_X2_ableOf : Cond.code mX2_ableOf.1 mX2_ableOf.2.1 mX2_ableOf.2.2.1 mX2_ableOf.2.2.2 ∈ z_all := z_in (List.mem_of_getElem? (i := 569) (by decide +kernel)) (by decide +kernel)
theorem wi_X2 : Cond.initialized RX2 ∈ z_all := z_in (List.mem_of_getElem? (i := 62) (by decide +kernel)) (by decide +kernel)
theorem wlX0_33 : Cond.methodLink RX0 33 yX2_ableOf ∈ z_all := z_in (List.mem_of_getElem? (i := 566) (by decide +kernel)) (by decide +kernel)
theorem wm_X2_ableOf : Cond.instanceMethod yX2_ableOf ∈ z_all := z_in (List.mem_of_getElem? (i := 567) (by decide +kernel)) (by decide +kernel)
theorem ws_X2_ableOf : Cond.selects RX2 yX2_ableOf yX2_ableOf ∈ z_all := z_in (List.mem_of_getElem? (i := 568) (by decide +kernel)) (by decide +kernel)
theorem lX0_33 : zMl 0 RX0 33 mX2_ableOf 3 := zMl_v wc_X2_ableOf wi_X2 ⟨by decide, by decide⟩ (by decide +kernel) (by decide) wlX0_33 wm_X2_ableOf ws_X2_ableOf
theorem fX0_37 : zFl RX0 37 1 1 := ⟨(RX2, TX2, 10), rfl, by decide, z_in (List.mem_of_getElem? (i := 122) (by decide +kernel)) (by decide +kernel)⟩
theorem wc_X2_weightOf : Cond.code mX2_weightOf.1 mX2_weightOf.2.1 mX2_weightOf.2.2.1 mX2_weightOf.2.2.2 ∈ z_all := z_in (List.mem_of_getElem? (i := 694) (by decide +kernel)) (by decide +kernel)
theorem wlX0_41 : Cond.methodLink RX0 41 yX2_weightOf ∈ z_all := z_in (List.mem_of_getElem? (i := 691) (by decide +kernel)) (by decide +kernel)
theorem wm_X2_weightOf : Cond.instanceMethod yX2_weightOf ∈ z_all := z_in (List.mem_of_getElem? (i := 692) (by decide +kernel)) (by decide +kernel)
theorem ws_X2_weightOf : Cond.selects RX2 yX2_weightOf yX2_weightOf ∈ z_all := z_in (List.mem_of_getElem? (i := 693) (by decide +kernel)) (by decide +kernel)
theorem lX0_41 : zMl 0 RX0 41 mX2_weightOf 1 := zMl_v wc_X2_weightOf wi_X2 ⟨by decide, by decide⟩ (by decide +kernel) (by decide) wlX0_41 wm_X2_weightOf ws_X2_weightOf
theorem wc_X0_firstBar : Cond.code mX0_firstBar.1 mX0_firstBar.2.1 mX0_firstBar.2.2.1 mX0_firstBar.2.2.2 ∈ z_all := z_in (List.mem_of_getElem? (i := 579) (by decide +kernel)) (by decide +kernel)
theorem wlX0_44 : Cond.methodLink RX0 44 yX0_firstBar ∈ z_all := z_in (List.mem_of_getElem? (i := 695) (by decide +kernel)) (by decide +kernel)
theorem wt_X0_firstBar : Cond.static yX0_firstBar ∈ z_all := z_in (List.mem_of_getElem? (i := 578) (by decide +kernel)) (by decide +kernel)
theorem lX0_44 : zMl 1 RX0 44 mX0_firstBar 3 := zMl_s wc_X0_firstBar wi_X0 ⟨by decide, by decide⟩ (by decide +kernel) (by decide) wlX0_44 wt_X0_firstBar
theorem fX1_11 : zFl RX1 11 0 0 := ⟨(RX1, TX1, 17), rfl, by decide, z_in (List.mem_of_getElem? (i := 207) (by decide +kernel)) (by decide +kernel)⟩
theorem fX1_15 : zFl RX1 15 0 1 := ⟨(RX1, TX1, 17), rfl, by decide, z_in (List.mem_of_getElem? (i := 208) (by decide +kernel)) (by decide +kernel)⟩
theorem fX1_19 : zFl RX1 19 0 2 := ⟨(RX1, TX1, 17), rfl, by decide, z_in (List.mem_of_getElem? (i := 209) (by decide +kernel)) (by decide +kernel)⟩
theorem fX1_22 : zFl RX1 22 0 3 := ⟨(RX1, TX1, 17), rfl, by decide, z_in (List.mem_of_getElem? (i := 210) (by decide +kernel)) (by decide +kernel)⟩
theorem fX1_25 : zFl RX1 25 0 4 := ⟨(RX1, TX1, 17), rfl, by decide, z_in (List.mem_of_getElem? (i := 211) (by decide +kernel)) (by decide +kernel)⟩
theorem fX1_29 : zFl RX1 29 0 5 := ⟨(RX1, TX1, 17), rfl, by decide, z_in (List.mem_of_getElem? (i := 212) (by decide +kernel)) (by decide +kernel)⟩
theorem fX1_32 : zFl RX1 32 0 6 := ⟨(RX1, TX1, 17), rfl, by decide, z_in (List.mem_of_getElem? (i := 213) (by decide +kernel)) (by decide +kernel)⟩
theorem fX1_35 : zFl RX1 35 0 7 := ⟨(RX1, TX1, 17), rfl, by decide, z_in (List.mem_of_getElem? (i := 214) (by decide +kernel)) (by decide +kernel)⟩
theorem fX1_38 : zFl RX1 38 0 8 := ⟨(RX1, TX1, 17), rfl, by decide, z_in (List.mem_of_getElem? (i := 215) (by decide +kernel)) (by decide +kernel)⟩
theorem fX1_42 : zFl RX1 42 0 9 := ⟨(RX1, TX1, 17), rfl, by decide, z_in (List.mem_of_getElem? (i := 216) (by decide +kernel)) (by decide +kernel)⟩
theorem fX1_45 : zFl RX1 45 0 10 := ⟨(RX1, TX1, 17), rfl, by decide, z_in (List.mem_of_getElem? (i := 217) (by decide +kernel)) (by decide +kernel)⟩
theorem fX1_49 : zFl RX1 49 0 11 := ⟨(RX1, TX1, 17), rfl, by decide, z_in (List.mem_of_getElem? (i := 218) (by decide +kernel)) (by decide +kernel)⟩
theorem fX1_52 : zFl RX1 52 0 12 := ⟨(RX1, TX1, 17), rfl, by decide, z_in (List.mem_of_getElem? (i := 219) (by decide +kernel)) (by decide +kernel)⟩
theorem fX1_55 : zFl RX1 55 0 13 := ⟨(RX1, TX1, 17), rfl, by decide, z_in (List.mem_of_getElem? (i := 220) (by decide +kernel)) (by decide +kernel)⟩
theorem cX1_58 : Cond.constantLong RX1 58 (-1) ∈ z_all := z_in (List.mem_of_getElem? (i := 205) (by decide +kernel)) (by decide +kernel)
theorem fX1_60 : zFl RX1 60 0 14 := ⟨(RX1, TX1, 17), rfl, by decide, z_in (List.mem_of_getElem? (i := 221) (by decide +kernel)) (by decide +kernel)⟩
theorem cX1_63 : Cond.constantLong RX1 63 (9223372036854775807) ∈ z_all := z_in (List.mem_of_getElem? (i := 206) (by decide +kernel)) (by decide +kernel)
theorem fX1_65 : zFl RX1 65 0 15 := ⟨(RX1, TX1, 17), rfl, by decide, z_in (List.mem_of_getElem? (i := 222) (by decide +kernel)) (by decide +kernel)⟩
theorem fX1_68 : zFl RX1 68 0 16 := ⟨(RX1, TX1, 17), rfl, by decide, z_in (List.mem_of_getElem? (i := 223) (by decide +kernel)) (by decide +kernel)⟩
theorem fX1_71 : zFl RX1 71 1 1 := ⟨(RX2, TX2, 10), rfl, by decide, z_in (List.mem_of_getElem? (i := 121) (by decide +kernel)) (by decide +kernel)⟩
theorem fX1_74 : zFl RX1 74 1 3 := ⟨(RX2, TX2, 10), rfl, by decide, z_in (List.mem_of_getElem? (i := 130) (by decide +kernel)) (by decide +kernel)⟩
theorem fX1_75 : zFl RX1 75 1 4 := ⟨(RX2, TX2, 10), rfl, by decide, z_in (List.mem_of_getElem? (i := 135) (by decide +kernel)) (by decide +kernel)⟩
theorem wc_X1_priceHour : Cond.code mX1_priceHour.1 mX1_priceHour.2.1 mX1_priceHour.2.2.1 mX1_priceHour.2.2.2 ∈ z_all := z_in (List.mem_of_getElem? (i := 591) (by decide +kernel)) (by decide +kernel)
theorem wi_X1 : Cond.initialized RX1 ∈ z_all := z_in (List.mem_of_getElem? (i := 64) (by decide +kernel)) (by decide +kernel)
theorem wlX1_76 : Cond.methodLink RX1 76 yX1_priceHour ∈ z_all := z_in (List.mem_of_getElem? (i := 588) (by decide +kernel)) (by decide +kernel)
theorem wm_X1_priceHour : Cond.instanceMethod yX1_priceHour ∈ z_all := z_in (List.mem_of_getElem? (i := 590) (by decide +kernel)) (by decide +kernel)
theorem ws_X1_priceHour : Cond.selects RX1 yX1_priceHour yX1_priceHour ∈ z_all := z_in (List.mem_of_getElem? (i := 12) (by decide +kernel)) (by decide +kernel)
theorem lX1_76 : zMl 0 RX1 76 mX1_priceHour 3 := zMl_v wc_X1_priceHour wi_X1 ⟨by decide, by decide⟩ (by decide +kernel) (by decide) wlX1_76 wm_X1_priceHour ws_X1_priceHour
theorem wc_X1_findLeast : Cond.code mX1_findLeast.1 mX1_findLeast.2.1 mX1_findLeast.2.2.1 mX1_findLeast.2.2.2 ∈ z_all := z_in (List.mem_of_getElem? (i := 613) (by decide +kernel)) (by decide +kernel)
theorem wlX1_80 : Cond.methodLink RX1 80 yX1_findLeast ∈ z_all := z_in (List.mem_of_getElem? (i := 610) (by decide +kernel)) (by decide +kernel)
theorem wm_X1_findLeast : Cond.instanceMethod yX1_findLeast ∈ z_all := z_in (List.mem_of_getElem? (i := 612) (by decide +kernel)) (by decide +kernel)
theorem ws_X1_findLeast : Cond.selects RX1 yX1_findLeast yX1_findLeast ∈ z_all := z_in (List.mem_of_getElem? (i := 14) (by decide +kernel)) (by decide +kernel)
theorem lX1_80 : zMl 0 RX1 80 mX1_findLeast 1 := zMl_v wc_X1_findLeast wi_X1 ⟨by decide, by decide⟩ (by decide +kernel) (by decide) wlX1_80 wm_X1_findLeast ws_X1_findLeast
theorem wc_X1_everyone : Cond.code mX1_everyone.1 mX1_everyone.2.1 mX1_everyone.2.2.1 mX1_everyone.2.2.2 ∈ z_all := z_in (List.mem_of_getElem? (i := 620) (by decide +kernel)) (by decide +kernel)
theorem wlX1_84 : Cond.methodLink RX1 84 yX1_everyone ∈ z_all := z_in (List.mem_of_getElem? (i := 617) (by decide +kernel)) (by decide +kernel)
theorem wm_X1_everyone : Cond.instanceMethod yX1_everyone ∈ z_all := z_in (List.mem_of_getElem? (i := 619) (by decide +kernel)) (by decide +kernel)
theorem ws_X1_everyone : Cond.selects RX1 yX1_everyone yX1_everyone ∈ z_all := z_in (List.mem_of_getElem? (i := 15) (by decide +kernel)) (by decide +kernel)
theorem lX1_84 : zMl 0 RX1 84 mX1_everyone 0 := zMl_v wc_X1_everyone wi_X1 ⟨by decide, by decide⟩ (by decide +kernel) (by decide) wlX1_84 wm_X1_everyone ws_X1_everyone
theorem wc_X1_search : Cond.code mX1_search.1 mX1_search.2.1 mX1_search.2.2.1 mX1_search.2.2.2 ∈ z_all := z_in (List.mem_of_getElem? (i := 624) (by decide +kernel)) (by decide +kernel)
theorem wlX1_88 : Cond.methodLink RX1 88 yX1_search ∈ z_all := z_in (List.mem_of_getElem? (i := 621) (by decide +kernel)) (by decide +kernel)
theorem wm_X1_search : Cond.instanceMethod yX1_search ∈ z_all := z_in (List.mem_of_getElem? (i := 623) (by decide +kernel)) (by decide +kernel)
theorem ws_X1_search : Cond.selects RX1 yX1_search yX1_search ∈ z_all := z_in (List.mem_of_getElem? (i := 16) (by decide +kernel)) (by decide +kernel)
theorem lX1_88 : zMl 0 RX1 88 mX1_search 4 := zMl_v wc_X1_search wi_X1 ⟨by decide, by decide⟩ (by decide +kernel) (by decide) wlX1_88 wm_X1_search ws_X1_search
theorem cX1_92 : Cond.constantLong RX1 92 (2047) ∈ z_all := z_in (List.mem_of_getElem? (i := 644) (by decide +kernel)) (by decide +kernel)
theorem wc_X1_shiftOf : Cond.code mX1_shiftOf.1 mX1_shiftOf.2.1 mX1_shiftOf.2.2.1 mX1_shiftOf.2.2.2 ∈ z_all := z_in (List.mem_of_getElem? (i := 601) (by decide +kernel)) (by decide +kernel)
theorem wlX1_94 : Cond.methodLink RX1 94 yX1_shiftOf ∈ z_all := z_in (List.mem_of_getElem? (i := 599) (by decide +kernel)) (by decide +kernel)
theorem wt_X1_shiftOf : Cond.static yX1_shiftOf ∈ z_all := z_in (List.mem_of_getElem? (i := 600) (by decide +kernel)) (by decide +kernel)
theorem lX1_94 : zMl 1 RX1 94 mX1_shiftOf 2 := zMl_s wc_X1_shiftOf wi_X1 ⟨by decide, by decide⟩ (by decide +kernel) (by decide) wlX1_94 wt_X1_shiftOf
theorem cX1_98 : Cond.constantLong RX1 98 (3) ∈ z_all := z_in (List.mem_of_getElem? (i := 670) (by decide +kernel)) (by decide +kernel)
theorem wc_X1_areEnough : Cond.code mX1_areEnough.1 mX1_areEnough.2.1 mX1_areEnough.2.2.1 mX1_areEnough.2.2.2 ∈ z_all := z_in (List.mem_of_getElem? (i := 652) (by decide +kernel)) (by decide +kernel)
theorem wlX1_100 : Cond.methodLink RX1 100 yX1_areEnough ∈ z_all := z_in (List.mem_of_getElem? (i := 649) (by decide +kernel)) (by decide +kernel)
theorem wm_X1_areEnough : Cond.instanceMethod yX1_areEnough ∈ z_all := z_in (List.mem_of_getElem? (i := 651) (by decide +kernel)) (by decide +kernel)
theorem ws_X1_areEnough : Cond.selects RX1 yX1_areEnough yX1_areEnough ∈ z_all := z_in (List.mem_of_getElem? (i := 19) (by decide +kernel)) (by decide +kernel)
theorem lX1_100 : zMl 0 RX1 100 mX1_areEnough 1 := zMl_v wc_X1_areEnough wi_X1 ⟨by decide, by decide⟩ (by decide +kernel) (by decide) wlX1_100 wm_X1_areEnough ws_X1_areEnough
theorem wlX1_104 : Cond.methodLink RX1 104 yJ6_bitCount_0f7a4 ∈ z_all := z_in (List.mem_of_getElem? (i := 593) (by decide +kernel)) (by decide +kernel)
theorem lX1_104 : zMl 1 RX1 104 mJ6_bitCount_0f7a4 1 := zMl_s wc_J6_bitCount_0f7a4 wi_J6 ⟨by decide, by decide⟩ (by decide +kernel) (by decide) wlX1_104 wt_J6_bitCount_0f7a4
theorem wc_X1_isEnough : Cond.code mX1_isEnough.1 mX1_isEnough.2.1 mX1_isEnough.2.2.1 mX1_isEnough.2.2.2 ∈ z_all := z_in (List.mem_of_getElem? (i := 656) (by decide +kernel)) (by decide +kernel)
theorem wlX1_110 : Cond.methodLink RX1 110 yX1_isEnough ∈ z_all := z_in (List.mem_of_getElem? (i := 653) (by decide +kernel)) (by decide +kernel)
theorem wm_X1_isEnough : Cond.instanceMethod yX1_isEnough ∈ z_all := z_in (List.mem_of_getElem? (i := 655) (by decide +kernel)) (by decide +kernel)
theorem ws_X1_isEnough : Cond.selects RX1 yX1_isEnough yX1_isEnough ∈ z_all := z_in (List.mem_of_getElem? (i := 20) (by decide +kernel)) (by decide +kernel)
theorem lX1_110 : zMl 0 RX1 110 mX1_isEnough 2 := zMl_v wc_X1_isEnough wi_X1 ⟨by decide, by decide⟩ (by decide +kernel) (by decide) wlX1_110 wm_X1_isEnough ws_X1_isEnough
theorem wc_X1_ringsInFirst : Cond.code mX1_ringsInFirst.1 mX1_ringsInFirst.2.1 mX1_ringsInFirst.2.2.1 mX1_ringsInFirst.2.2.2 ∈ z_all := z_in (List.mem_of_getElem? (i := 682) (by decide +kernel)) (by decide +kernel)
theorem wlX1_114 : Cond.methodLink RX1 114 yX1_ringsInFirst ∈ z_all := z_in (List.mem_of_getElem? (i := 679) (by decide +kernel)) (by decide +kernel)
theorem wm_X1_ringsInFirst : Cond.instanceMethod yX1_ringsInFirst ∈ z_all := z_in (List.mem_of_getElem? (i := 681) (by decide +kernel)) (by decide +kernel)
theorem ws_X1_ringsInFirst : Cond.selects RX1 yX1_ringsInFirst yX1_ringsInFirst ∈ z_all := z_in (List.mem_of_getElem? (i := 21) (by decide +kernel)) (by decide +kernel)
theorem lX1_114 : zMl 0 RX1 114 mX1_ringsInFirst 1 := zMl_v wc_X1_ringsInFirst wi_X1 ⟨by decide, by decide⟩ (by decide +kernel) (by decide) wlX1_114 wm_X1_ringsInFirst ws_X1_ringsInFirst
theorem wc_X1_firstBell : Cond.code mX1_firstBell.1 mX1_firstBell.2.1 mX1_firstBell.2.2.1 mX1_firstBell.2.2.2 ∈ z_all := z_in (List.mem_of_getElem? (i := 669) (by decide +kernel)) (by decide +kernel)
theorem wlX1_117 : Cond.methodLink RX1 117 yX1_firstBell ∈ z_all := z_in (List.mem_of_getElem? (i := 683) (by decide +kernel)) (by decide +kernel)
theorem wm_X1_firstBell : Cond.instanceMethod yX1_firstBell ∈ z_all := z_in (List.mem_of_getElem? (i := 667) (by decide +kernel)) (by decide +kernel)
theorem ws_X1_firstBell : Cond.selects RX1 yX1_firstBell yX1_firstBell ∈ z_all := z_in (List.mem_of_getElem? (i := 668) (by decide +kernel)) (by decide +kernel)
theorem lX1_117 : zMl 0 RX1 117 mX1_firstBell 2 := zMl_v wc_X1_firstBell wi_X1 ⟨by decide, by decide⟩ (by decide +kernel) (by decide) wlX1_117 wm_X1_firstBell ws_X1_firstBell
theorem cX1_120 : Cond.constantLong RX1 120 (8646911284551352320) ∈ z_all := z_in (List.mem_of_getElem? (i := 657) (by decide +kernel)) (by decide +kernel)
theorem wc_X2_hasHour : Cond.code mX2_hasHour.1 mX2_hasHour.2.1 mX2_hasHour.2.2.1 mX2_hasHour.2.2.2 ∈ z_all := z_in (List.mem_of_getElem? (i := 458) (by decide +kernel)) (by decide +kernel)
theorem wlX1_122 : Cond.methodLink RX1 122 yX2_hasHour ∈ z_all := z_in (List.mem_of_getElem? (i := 592) (by decide +kernel)) (by decide +kernel)
theorem wm_X2_hasHour : Cond.instanceMethod yX2_hasHour ∈ z_all := z_in (List.mem_of_getElem? (i := 456) (by decide +kernel)) (by decide +kernel)
theorem ws_X2_hasHour : Cond.selects RX2 yX2_hasHour yX2_hasHour ∈ z_all := z_in (List.mem_of_getElem? (i := 457) (by decide +kernel)) (by decide +kernel)
theorem lX1_122 : zMl 0 RX1 122 mX2_hasHour 1 := zMl_v wc_X2_hasHour wi_X2 ⟨by decide, by decide⟩ (by decide +kernel) (by decide) wlX1_122 wm_X2_hasHour ws_X2_hasHour
theorem fX1_125 : zFl RX1 125 1 5 := ⟨(RX2, TX2, 10), rfl, by decide, z_in (List.mem_of_getElem? (i := 142) (by decide +kernel)) (by decide +kernel)⟩
theorem cX1_128 : Cond.constantLong RX1 128 (-9) ∈ z_all := z_in (List.mem_of_getElem? (i := 594) (by decide +kernel)) (by decide +kernel)
theorem wc_X1_seatsOf : Cond.code mX1_seatsOf.1 mX1_seatsOf.2.1 mX1_seatsOf.2.2.1 mX1_seatsOf.2.2.2 ∈ z_all := z_in (List.mem_of_getElem? (i := 597) (by decide +kernel)) (by decide +kernel)
theorem wlX1_130 : Cond.methodLink RX1 130 yX1_seatsOf ∈ z_all := z_in (List.mem_of_getElem? (i := 595) (by decide +kernel)) (by decide +kernel)
theorem wt_X1_seatsOf : Cond.static yX1_seatsOf ∈ z_all := z_in (List.mem_of_getElem? (i := 596) (by decide +kernel)) (by decide +kernel)
theorem lX1_130 : zMl 1 RX1 130 mX1_seatsOf 5 := zMl_s wc_X1_seatsOf wi_X1 ⟨by decide, by decide⟩ (by decide +kernel) (by decide) wlX1_130 wt_X1_seatsOf
theorem wc_X1_walkOf : Cond.code mX1_walkOf.1 mX1_walkOf.2.1 mX1_walkOf.2.2.1 mX1_walkOf.2.2.2 ∈ z_all := z_in (List.mem_of_getElem? (i := 604) (by decide +kernel)) (by decide +kernel)
theorem wlX1_134 : Cond.methodLink RX1 134 yX1_walkOf ∈ z_all := z_in (List.mem_of_getElem? (i := 602) (by decide +kernel)) (by decide +kernel)
theorem wt_X1_walkOf : Cond.static yX1_walkOf ∈ z_all := z_in (List.mem_of_getElem? (i := 603) (by decide +kernel)) (by decide +kernel)
theorem lX1_134 : zMl 1 RX1 134 mX1_walkOf 3 := zMl_s wc_X1_walkOf wi_X1 ⟨by decide, by decide⟩ (by decide +kernel) (by decide) wlX1_134 wt_X1_walkOf
theorem wc_X1_addInOrder : Cond.code mX1_addInOrder.1 mX1_addInOrder.2.1 mX1_addInOrder.2.2.1 mX1_addInOrder.2.2.2 ∈ z_all := z_in (List.mem_of_getElem? (i := 609) (by decide +kernel)) (by decide +kernel)
theorem wlX1_138 : Cond.methodLink RX1 138 yX1_addInOrder ∈ z_all := z_in (List.mem_of_getElem? (i := 606) (by decide +kernel)) (by decide +kernel)
theorem wm_X1_addInOrder : Cond.instanceMethod yX1_addInOrder ∈ z_all := z_in (List.mem_of_getElem? (i := 608) (by decide +kernel)) (by decide +kernel)
theorem ws_X1_addInOrder : Cond.selects RX1 yX1_addInOrder yX1_addInOrder ∈ z_all := z_in (List.mem_of_getElem? (i := 13) (by decide +kernel)) (by decide +kernel)
theorem lX1_138 : zMl 0 RX1 138 mX1_addInOrder 2 := zMl_v wc_X1_addInOrder wi_X1 ⟨by decide, by decide⟩ (by decide +kernel) (by decide) wlX1_138 wm_X1_addInOrder ws_X1_addInOrder
theorem wc_X2_way : Cond.code mX2_way.1 mX2_way.2.1 mX2_way.2.2.1 mX2_way.2.2.2 ∈ z_all := z_in (List.mem_of_getElem? (i := 545) (by decide +kernel)) (by decide +kernel)
theorem wlX1_142 : Cond.methodLink RX1 142 yX2_way ∈ z_all := z_in (List.mem_of_getElem? (i := 605) (by decide +kernel)) (by decide +kernel)
theorem wm_X2_way : Cond.instanceMethod yX2_way ∈ z_all := z_in (List.mem_of_getElem? (i := 543) (by decide +kernel)) (by decide +kernel)
theorem ws_X2_way : Cond.selects RX2 yX2_way yX2_way ∈ z_all := z_in (List.mem_of_getElem? (i := 544) (by decide +kernel)) (by decide +kernel)
theorem lX1_142 : zMl 0 RX1 142 mX2_way 2 := zMl_v wc_X2_way wi_X2 ⟨by decide, by decide⟩ (by decide +kernel) (by decide) wlX1_142 wm_X2_way ws_X2_way
theorem wc_X2_bellsFor : Cond.code mX2_bellsFor.1 mX2_bellsFor.2.1 mX2_bellsFor.2.2.1 mX2_bellsFor.2.2.2 ∈ z_all := z_in (List.mem_of_getElem? (i := 486) (by decide +kernel)) (by decide +kernel)
theorem wlX1_145 : Cond.methodLink RX1 145 yX2_bellsFor ∈ z_all := z_in (List.mem_of_getElem? (i := 598) (by decide +kernel)) (by decide +kernel)
theorem wm_X2_bellsFor : Cond.instanceMethod yX2_bellsFor ∈ z_all := z_in (List.mem_of_getElem? (i := 484) (by decide +kernel)) (by decide +kernel)
theorem ws_X2_bellsFor : Cond.selects RX2 yX2_bellsFor yX2_bellsFor ∈ z_all := z_in (List.mem_of_getElem? (i := 485) (by decide +kernel)) (by decide +kernel)
theorem lX1_145 : zMl 0 RX1 145 mX2_bellsFor 2 := zMl_v wc_X2_bellsFor wi_X2 ⟨by decide, by decide⟩ (by decide +kernel) (by decide) wlX1_145 wm_X2_bellsFor ws_X2_bellsFor
theorem wc_J9_min_f86c9 : Cond.code mJ9_min_f86c9.1 mJ9_min_f86c9.2.1 mJ9_min_f86c9.2.2.1 mJ9_min_f86c9.2.2.2 ∈ z_all := z_in (List.mem_of_getElem? (i := 616) (by decide +kernel)) (by decide +kernel)
theorem wlX1_148 : Cond.methodLink RX1 148 yJ9_min_f86c9 ∈ z_all := z_in (List.mem_of_getElem? (i := 614) (by decide +kernel)) (by decide +kernel)
theorem wt_J9_min_f86c9 : Cond.static yJ9_min_f86c9 ∈ z_all := z_in (List.mem_of_getElem? (i := 615) (by decide +kernel)) (by decide +kernel)
theorem lX1_148 : zMl 1 RX1 148 mJ9_min_f86c9 2 := zMl_s wc_J9_min_f86c9 wi_J9 ⟨by decide, by decide⟩ (by decide +kernel) (by decide) wlX1_148 wt_J9_min_f86c9
theorem wc_X1_seek : Cond.code mX1_seek.1 mX1_seek.2.1 mX1_seek.2.2.1 mX1_seek.2.2.2 ∈ z_all := z_in (List.mem_of_getElem? (i := 627) (by decide +kernel)) (by decide +kernel)
theorem wlX1_154 : Cond.methodLink RX1 154 yX1_seek ∈ z_all := z_in (List.mem_of_getElem? (i := 625) (by decide +kernel)) (by decide +kernel)
theorem wt_X1_seek : Cond.static yX1_seek ∈ z_all := z_in (List.mem_of_getElem? (i := 626) (by decide +kernel)) (by decide +kernel)
theorem lX1_154 : zMl 1 RX1 154 mX1_seek 3 := zMl_s wc_X1_seek wi_X1 ⟨by decide, by decide⟩ (by decide +kernel) (by decide) wlX1_154 wt_X1_seek
theorem wc_X1_leastAfter : Cond.code mX1_leastAfter.1 mX1_leastAfter.2.1 mX1_leastAfter.2.2.1 mX1_leastAfter.2.2.2 ∈ z_all := z_in (List.mem_of_getElem? (i := 631) (by decide +kernel)) (by decide +kernel)
theorem wlX1_158 : Cond.methodLink RX1 158 yX1_leastAfter ∈ z_all := z_in (List.mem_of_getElem? (i := 628) (by decide +kernel)) (by decide +kernel)
theorem wm_X1_leastAfter : Cond.instanceMethod yX1_leastAfter ∈ z_all := z_in (List.mem_of_getElem? (i := 630) (by decide +kernel)) (by decide +kernel)
theorem ws_X1_leastAfter : Cond.selects RX1 yX1_leastAfter yX1_leastAfter ∈ z_all := z_in (List.mem_of_getElem? (i := 17) (by decide +kernel)) (by decide +kernel)
theorem lX1_158 : zMl 0 RX1 158 mX1_leastAfter 1 := zMl_v wc_X1_leastAfter wi_X1 ⟨by decide, by decide⟩ (by decide +kernel) (by decide) wlX1_158 wm_X1_leastAfter ws_X1_leastAfter
theorem wc_X1_openIn : Cond.code mX1_openIn.1 mX1_openIn.2.1 mX1_openIn.2.2.1 mX1_openIn.2.2.2 ∈ z_all := z_in (List.mem_of_getElem? (i := 635) (by decide +kernel)) (by decide +kernel)
theorem wlX1_162 : Cond.methodLink RX1 162 yX1_openIn ∈ z_all := z_in (List.mem_of_getElem? (i := 632) (by decide +kernel)) (by decide +kernel)
theorem wm_X1_openIn : Cond.instanceMethod yX1_openIn ∈ z_all := z_in (List.mem_of_getElem? (i := 634) (by decide +kernel)) (by decide +kernel)
theorem ws_X1_openIn : Cond.selects RX1 yX1_openIn yX1_openIn ∈ z_all := z_in (List.mem_of_getElem? (i := 18) (by decide +kernel)) (by decide +kernel)
theorem lX1_162 : zMl 0 RX1 162 mX1_openIn 2 := zMl_v wc_X1_openIn wi_X1 ⟨by decide, by decide⟩ (by decide +kernel) (by decide) wlX1_162 wm_X1_openIn ws_X1_openIn
theorem fX2_9 : zFl RX2 9 1 0 := ⟨(RX2, TX2, 10), rfl, by decide, z_in (List.mem_of_getElem? (i := 117) (by decide +kernel)) (by decide +kernel)⟩
theorem fX2_15 : zFl RX2 15 1 1 := ⟨(RX2, TX2, 10), rfl, by decide, z_in (List.mem_of_getElem? (i := 120) (by decide +kernel)) (by decide +kernel)⟩
theorem fX2_18 : zFl RX2 18 1 2 := ⟨(RX2, TX2, 10), rfl, by decide, z_in (List.mem_of_getElem? (i := 126) (by decide +kernel)) (by decide +kernel)⟩
theorem fX2_21 : zFl RX2 21 1 3 := ⟨(RX2, TX2, 10), rfl, by decide, z_in (List.mem_of_getElem? (i := 129) (by decide +kernel)) (by decide +kernel)⟩
theorem fX2_24 : zFl RX2 24 1 4 := ⟨(RX2, TX2, 10), rfl, by decide, z_in (List.mem_of_getElem? (i := 134) (by decide +kernel)) (by decide +kernel)⟩
theorem fX2_27 : zFl RX2 27 1 5 := ⟨(RX2, TX2, 10), rfl, by decide, z_in (List.mem_of_getElem? (i := 139) (by decide +kernel)) (by decide +kernel)⟩
theorem fX2_31 : zFl RX2 31 1 6 := ⟨(RX2, TX2, 10), rfl, by decide, z_in (List.mem_of_getElem? (i := 143) (by decide +kernel)) (by decide +kernel)⟩
theorem fX2_34 : zFl RX2 34 1 7 := ⟨(RX2, TX2, 10), rfl, by decide, z_in (List.mem_of_getElem? (i := 145) (by decide +kernel)) (by decide +kernel)⟩
theorem fX2_37 : zFl RX2 37 1 8 := ⟨(RX2, TX2, 10), rfl, by decide, z_in (List.mem_of_getElem? (i := 147) (by decide +kernel)) (by decide +kernel)⟩
theorem fX2_40 : zFl RX2 40 1 9 := ⟨(RX2, TX2, 10), rfl, by decide, z_in (List.mem_of_getElem? (i := 149) (by decide +kernel)) (by decide +kernel)⟩
theorem wlX2_43 : Cond.methodLink RX2 43 yX2_hasHour ∈ z_all := z_in (List.mem_of_getElem? (i := 477) (by decide +kernel)) (by decide +kernel)
theorem lX2_43 : zMl 0 RX2 43 mX2_hasHour 1 := zMl_v wc_X2_hasHour wi_X2 ⟨by decide, by decide⟩ (by decide +kernel) (by decide) wlX2_43 wm_X2_hasHour ws_X2_hasHour
theorem wc_X2_hasRinger : Cond.code mX2_hasRinger.1 mX2_hasRinger.2.1 mX2_hasRinger.2.2.1 mX2_hasRinger.2.2.2 ∈ z_all := z_in (List.mem_of_getElem? (i := 435) (by decide +kernel)) (by decide +kernel)
theorem wlX2_47 : Cond.methodLink RX2 47 yX2_hasRinger ∈ z_all := z_in (List.mem_of_getElem? (i := 487) (by decide +kernel)) (by decide +kernel)
theorem wm_X2_hasRinger : Cond.instanceMethod yX2_hasRinger ∈ z_all := z_in (List.mem_of_getElem? (i := 433) (by decide +kernel)) (by decide +kernel)
theorem ws_X2_hasRinger : Cond.selects RX2 yX2_hasRinger yX2_hasRinger ∈ z_all := z_in (List.mem_of_getElem? (i := 434) (by decide +kernel)) (by decide +kernel)
theorem lX2_47 : zMl 0 RX2 47 mX2_hasRinger 1 := zMl_v wc_X2_hasRinger wi_X2 ⟨by decide, by decide⟩ (by decide +kernel) (by decide) wlX2_47 wm_X2_hasRinger ws_X2_hasRinger
theorem wc_X2_hasBell : Cond.code mX2_hasBell.1 mX2_hasBell.2.1 mX2_hasBell.2.2.1 mX2_hasBell.2.2.2 ∈ z_all := z_in (List.mem_of_getElem? (i := 476) (by decide +kernel)) (by decide +kernel)
theorem wlX2_50 : Cond.methodLink RX2 50 yX2_hasBell ∈ z_all := z_in (List.mem_of_getElem? (i := 482) (by decide +kernel)) (by decide +kernel)
theorem wm_X2_hasBell : Cond.instanceMethod yX2_hasBell ∈ z_all := z_in (List.mem_of_getElem? (i := 474) (by decide +kernel)) (by decide +kernel)
theorem ws_X2_hasBell : Cond.selects RX2 yX2_hasBell yX2_hasBell ∈ z_all := z_in (List.mem_of_getElem? (i := 475) (by decide +kernel)) (by decide +kernel)
theorem lX2_50 : zMl 0 RX2 50 mX2_hasBell 2 := zMl_v wc_X2_hasBell wi_X2 ⟨by decide, by decide⟩ (by decide +kernel) (by decide) wlX2_50 wm_X2_hasBell ws_X2_hasBell
theorem wlX2_54 : Cond.methodLink RX2 54 yX2_bellsFor ∈ z_all := z_in (List.mem_of_getElem? (i := 483) (by decide +kernel)) (by decide +kernel)
theorem lX2_54 : zMl 0 RX2 54 mX2_bellsFor 2 := zMl_v wc_X2_bellsFor wi_X2 ⟨by decide, by decide⟩ (by decide +kernel) (by decide) wlX2_54 wm_X2_bellsFor ws_X2_bellsFor
theorem wlX2_58 : Cond.methodLink RX2 58 yJ6_bitCount_0f7a4 ∈ z_all := z_in (List.mem_of_getElem? (i := 752) (by decide +kernel)) (by decide +kernel)
theorem lX2_58 : zMl 1 RX2 58 mJ6_bitCount_0f7a4 1 := zMl_s wc_J6_bitCount_0f7a4 wi_J6 ⟨by decide, by decide⟩ (by decide +kernel) (by decide) wlX2_58 wt_J6_bitCount_0f7a4
theorem wc_J9_abs_0f7a4 : Cond.code mJ9_abs_0f7a4.1 mJ9_abs_0f7a4.2.1 mJ9_abs_0f7a4.2.2.1 mJ9_abs_0f7a4.2.2.2 ∈ z_all := z_in (List.mem_of_getElem? (i := 499) (by decide +kernel)) (by decide +kernel)
theorem wlX2_64 : Cond.methodLink RX2 64 yJ9_abs_0f7a4 ∈ z_all := z_in (List.mem_of_getElem? (i := 546) (by decide +kernel)) (by decide +kernel)
theorem wt_J9_abs_0f7a4 : Cond.static yJ9_abs_0f7a4 ∈ z_all := z_in (List.mem_of_getElem? (i := 498) (by decide +kernel)) (by decide +kernel)
theorem lX2_64 : zMl 1 RX2 64 mJ9_abs_0f7a4 1 := zMl_s wc_J9_abs_0f7a4 wi_J9 ⟨by decide, by decide⟩ (by decide +kernel) (by decide) wlX2_64 wt_J9_abs_0f7a4
theorem fX3_9 : zFl RX3 9 2 0 := ⟨(RX3, TX3, 4), rfl, by decide, z_in (List.mem_of_getElem? (i := 182) (by decide +kernel)) (by decide +kernel)⟩
theorem fX3_15 : zFl RX3 15 2 1 := ⟨(RX3, TX3, 4), rfl, by decide, z_in (List.mem_of_getElem? (i := 184) (by decide +kernel)) (by decide +kernel)⟩
theorem fX3_18 : zFl RX3 18 2 2 := ⟨(RX3, TX3, 4), rfl, by decide, z_in (List.mem_of_getElem? (i := 186) (by decide +kernel)) (by decide +kernel)⟩
theorem fX3_22 : zFl RX3 22 2 3 := ⟨(RX3, TX3, 4), rfl, by decide, z_in (List.mem_of_getElem? (i := 188) (by decide +kernel)) (by decide +kernel)⟩
theorem wc_X3_clean : Cond.code mX3_clean.1 mX3_clean.2.1 mX3_clean.2.2.1 mX3_clean.2.2.2 ∈ z_all := z_in (List.mem_of_getElem? (i := 181) (by decide +kernel)) (by decide +kernel)
theorem wi_X3 : Cond.initialized RX3 ∈ z_all := z_in (List.mem_of_getElem? (i := 63) (by decide +kernel)) (by decide +kernel)
theorem wlX3_25 : Cond.methodLink RX3 25 yX3_clean ∈ z_all := z_in (List.mem_of_getElem? (i := 178) (by decide +kernel)) (by decide +kernel)
theorem wm_X3_clean : Cond.instanceMethod yX3_clean ∈ z_all := z_in (List.mem_of_getElem? (i := 180) (by decide +kernel)) (by decide +kernel)
theorem ws_X3_clean : Cond.selects RX3 yX3_clean yX3_clean ∈ z_all := z_in (List.mem_of_getElem? (i := 0) (by decide +kernel)) (by decide +kernel)
theorem lX3_25 : zMl 0 RX3 25 mX3_clean 0 := zMl_v wc_X3_clean wi_X3 ⟨by decide, by decide⟩ (by decide +kernel) (by decide) wlX3_25 wm_X3_clean ws_X3_clean
theorem wc_X3_isTurn : Cond.code mX3_isTurn.1 mX3_isTurn.2.1 mX3_isTurn.2.2.1 mX3_isTurn.2.2.2 ∈ z_all := z_in (List.mem_of_getElem? (i := 450) (by decide +kernel)) (by decide +kernel)
theorem wlX3_34 : Cond.methodLink RX3 34 yX3_isTurn ∈ z_all := z_in (List.mem_of_getElem? (i := 448) (by decide +kernel)) (by decide +kernel)
theorem wt_X3_isTurn : Cond.static yX3_isTurn ∈ z_all := z_in (List.mem_of_getElem? (i := 449) (by decide +kernel)) (by decide +kernel)
theorem lX3_34 : zMl 1 RX3 34 mX3_isTurn 2 := zMl_s wc_X3_isTurn wi_X3 ⟨by decide, by decide⟩ (by decide +kernel) (by decide) wlX3_34 wt_X3_isTurn
theorem wc_X3_bellOf : Cond.code mX3_bellOf.1 mX3_bellOf.2.1 mX3_bellOf.2.2.1 mX3_bellOf.2.2.2 ∈ z_all := z_in (List.mem_of_getElem? (i := 447) (by decide +kernel)) (by decide +kernel)
theorem wlX3_38 : Cond.methodLink RX3 38 yX3_bellOf ∈ z_all := z_in (List.mem_of_getElem? (i := 444) (by decide +kernel)) (by decide +kernel)
theorem wm_X3_bellOf : Cond.instanceMethod yX3_bellOf ∈ z_all := z_in (List.mem_of_getElem? (i := 445) (by decide +kernel)) (by decide +kernel)
theorem ws_X3_bellOf : Cond.selects RX3 yX3_bellOf yX3_bellOf ∈ z_all := z_in (List.mem_of_getElem? (i := 446) (by decide +kernel)) (by decide +kernel)
theorem lX3_38 : zMl 0 RX3 38 mX3_bellOf 2 := zMl_v wc_X3_bellOf wi_X3 ⟨by decide, by decide⟩ (by decide +kernel) (by decide) wlX3_38 wm_X3_bellOf ws_X3_bellOf
theorem wc_X3_hasTurn : Cond.code mX3_hasTurn.1 mX3_hasTurn.2.1 mX3_hasTurn.2.2.1 mX3_hasTurn.2.2.2 ∈ z_all := z_in (List.mem_of_getElem? (i := 443) (by decide +kernel)) (by decide +kernel)
theorem wlX3_42 : Cond.methodLink RX3 42 yX3_hasTurn ∈ z_all := z_in (List.mem_of_getElem? (i := 440) (by decide +kernel)) (by decide +kernel)
theorem wm_X3_hasTurn : Cond.instanceMethod yX3_hasTurn ∈ z_all := z_in (List.mem_of_getElem? (i := 441) (by decide +kernel)) (by decide +kernel)
theorem ws_X3_hasTurn : Cond.selects RX3 yX3_hasTurn yX3_hasTurn ∈ z_all := z_in (List.mem_of_getElem? (i := 442) (by decide +kernel)) (by decide +kernel)
theorem lX3_42 : zMl 0 RX3 42 mX3_hasTurn 2 := zMl_v wc_X3_hasTurn wi_X3 ⟨by decide, by decide⟩ (by decide +kernel) (by decide) wlX3_42 wm_X3_hasTurn ws_X3_hasTurn
theorem wc_X3_ringerAt : Cond.code mX3_ringerAt.1 mX3_ringerAt.2.1 mX3_ringerAt.2.2.1 mX3_ringerAt.2.2.2 ∈ z_all := z_in (List.mem_of_getElem? (i := 495) (by decide +kernel)) (by decide +kernel)
theorem wlX3_45 : Cond.methodLink RX3 45 yX3_ringerAt ∈ z_all := z_in (List.mem_of_getElem? (i := 492) (by decide +kernel)) (by decide +kernel)
theorem wm_X3_ringerAt : Cond.instanceMethod yX3_ringerAt ∈ z_all := z_in (List.mem_of_getElem? (i := 493) (by decide +kernel)) (by decide +kernel)
theorem ws_X3_ringerAt : Cond.selects RX3 yX3_ringerAt yX3_ringerAt ∈ z_all := z_in (List.mem_of_getElem? (i := 494) (by decide +kernel)) (by decide +kernel)
theorem lX3_45 : zMl 0 RX3 45 mX3_ringerAt 2 := zMl_v wc_X3_ringerAt wi_X3 ⟨by decide, by decide⟩ (by decide +kernel) (by decide) wlX3_45 wm_X3_ringerAt ws_X3_ringerAt
theorem wc_X3_timesOf : Cond.code mX3_timesOf.1 mX3_timesOf.2.1 mX3_timesOf.2.2.1 mX3_timesOf.2.2.2 ∈ z_all := z_in (List.mem_of_getElem? (i := 439) (by decide +kernel)) (by decide +kernel)
theorem wlX3_48 : Cond.methodLink RX3 48 yX3_timesOf ∈ z_all := z_in (List.mem_of_getElem? (i := 496) (by decide +kernel)) (by decide +kernel)
theorem wm_X3_timesOf : Cond.instanceMethod yX3_timesOf ∈ z_all := z_in (List.mem_of_getElem? (i := 437) (by decide +kernel)) (by decide +kernel)
theorem ws_X3_timesOf : Cond.selects RX3 yX3_timesOf yX3_timesOf ∈ z_all := z_in (List.mem_of_getElem? (i := 438) (by decide +kernel)) (by decide +kernel)
theorem lX3_48 : zMl 0 RX3 48 mX3_timesOf 1 := zMl_v wc_X3_timesOf wi_X3 ⟨by decide, by decide⟩ (by decide +kernel) (by decide) wlX3_48 wm_X3_timesOf ws_X3_timesOf
theorem fX3_52 : zFl RX3 52 1 3 := ⟨(RX2, TX2, 10), rfl, by decide, z_in (List.mem_of_getElem? (i := 131) (by decide +kernel)) (by decide +kernel)⟩
theorem wlX3_57 : Cond.methodLink RX3 57 yJ9_abs_0f7a4 ∈ z_all := z_in (List.mem_of_getElem? (i := 497) (by decide +kernel)) (by decide +kernel)
theorem lX3_57 : zMl 1 RX3 57 mJ9_abs_0f7a4 1 := zMl_s wc_J9_abs_0f7a4 wi_J9 ⟨by decide, by decide⟩ (by decide +kernel) (by decide) wlX3_57 wt_J9_abs_0f7a4
theorem fX3_62 : zFl RX3 62 1 4 := ⟨(RX2, TX2, 10), rfl, by decide, z_in (List.mem_of_getElem? (i := 136) (by decide +kernel)) (by decide +kernel)⟩
theorem wc_X3_ringersIn : Cond.code mX3_ringersIn.1 mX3_ringersIn.2.1 mX3_ringersIn.2.2.1 mX3_ringersIn.2.2.2 ∈ z_all := z_in (List.mem_of_getElem? (i := 462) (by decide +kernel)) (by decide +kernel)
theorem wlX3_65 : Cond.methodLink RX3 65 yX3_ringersIn ∈ z_all := z_in (List.mem_of_getElem? (i := 723) (by decide +kernel)) (by decide +kernel)
theorem wm_X3_ringersIn : Cond.instanceMethod yX3_ringersIn ∈ z_all := z_in (List.mem_of_getElem? (i := 460) (by decide +kernel)) (by decide +kernel)
theorem ws_X3_ringersIn : Cond.selects RX3 yX3_ringersIn yX3_ringersIn ∈ z_all := z_in (List.mem_of_getElem? (i := 461) (by decide +kernel)) (by decide +kernel)
theorem lX3_65 : zMl 0 RX3 65 mX3_ringersIn 1 := zMl_v wc_X3_ringersIn wi_X3 ⟨by decide, by decide⟩ (by decide +kernel) (by decide) wlX3_65 wm_X3_ringersIn ws_X3_ringersIn
theorem wlX3_68 : Cond.methodLink RX3 68 yJ6_bitCount_0f7a4 ∈ z_all := z_in (List.mem_of_getElem? (i := 728) (by decide +kernel)) (by decide +kernel)
theorem lX3_68 : zMl 1 RX3 68 mJ6_bitCount_0f7a4 1 := zMl_s wc_J6_bitCount_0f7a4 wi_J6 ⟨by decide, by decide⟩ (by decide +kernel) (by decide) wlX3_68 wt_J6_bitCount_0f7a4
theorem fX3_73 : zFl RX3 73 1 1 := ⟨(RX2, TX2, 10), rfl, by decide, z_in (List.mem_of_getElem? (i := 124) (by decide +kernel)) (by decide +kernel)⟩
theorem wlX3_76 : Cond.methodLink RX3 76 yX2_way ∈ z_all := z_in (List.mem_of_getElem? (i := 542) (by decide +kernel)) (by decide +kernel)
theorem lX3_76 : zMl 0 RX3 76 mX2_way 2 := zMl_v wc_X2_way wi_X2 ⟨by decide, by decide⟩ (by decide +kernel) (by decide) wlX3_76 wm_X2_way ws_X2_way
theorem fX4_11 : zFl RX4 11 3 0 := ⟨(RX4, TX4, 6), rfl, by decide, z_in (List.mem_of_getElem? (i := 88) (by decide +kernel)) (by decide +kernel)⟩
theorem fX4_15 : zFl RX4 15 3 1 := ⟨(RX4, TX4, 6), rfl, by decide, z_in (List.mem_of_getElem? (i := 90) (by decide +kernel)) (by decide +kernel)⟩
theorem fX4_19 : zFl RX4 19 3 2 := ⟨(RX4, TX4, 6), rfl, by decide, z_in (List.mem_of_getElem? (i := 91) (by decide +kernel)) (by decide +kernel)⟩
theorem fX4_22 : zFl RX4 22 3 3 := ⟨(RX4, TX4, 6), rfl, by decide, z_in (List.mem_of_getElem? (i := 92) (by decide +kernel)) (by decide +kernel)⟩
theorem fX4_25 : zFl RX4 25 3 4 := ⟨(RX4, TX4, 6), rfl, by decide, z_in (List.mem_of_getElem? (i := 93) (by decide +kernel)) (by decide +kernel)⟩
theorem fX4_29 : zFl RX4 29 3 5 := ⟨(RX4, TX4, 6), rfl, by decide, z_in (List.mem_of_getElem? (i := 94) (by decide +kernel)) (by decide +kernel)⟩
theorem wc_X2_empty : Cond.code mX2_empty.1 mX2_empty.2.1 mX2_empty.2.2.1 mX2_empty.2.2.2 ∈ z_all := z_in (List.mem_of_getElem? (i := 312) (by decide +kernel)) (by decide +kernel)
theorem wlX4_33 : Cond.methodLink RX4 33 yX2_empty ∈ z_all := z_in (List.mem_of_getElem? (i := 309) (by decide +kernel)) (by decide +kernel)
theorem wm_X2_empty : Cond.instanceMethod yX2_empty ∈ z_all := z_in (List.mem_of_getElem? (i := 310) (by decide +kernel)) (by decide +kernel)
theorem ws_X2_empty : Cond.selects RX2 yX2_empty yX2_empty ∈ z_all := z_in (List.mem_of_getElem? (i := 311) (by decide +kernel)) (by decide +kernel)
theorem lX4_33 : zMl 0 RX4 33 mX2_empty 0 := zMl_v wc_X2_empty wi_X2 ⟨by decide, by decide⟩ (by decide +kernel) (by decide) wlX4_33 wm_X2_empty ws_X2_empty
theorem wc_X4_skipBlanks : Cond.code mX4_skipBlanks.1 mX4_skipBlanks.2.1 mX4_skipBlanks.2.2.1 mX4_skipBlanks.2.2.2 ∈ z_all := z_in (List.mem_of_getElem? (i := 316) (by decide +kernel)) (by decide +kernel)
theorem wi_X4 : Cond.initialized RX4 ∈ z_all := z_in (List.mem_of_getElem? (i := 61) (by decide +kernel)) (by decide +kernel)
theorem wlX4_38 : Cond.methodLink RX4 38 yX4_skipBlanks ∈ z_all := z_in (List.mem_of_getElem? (i := 313) (by decide +kernel)) (by decide +kernel)
theorem wm_X4_skipBlanks : Cond.instanceMethod yX4_skipBlanks ∈ z_all := z_in (List.mem_of_getElem? (i := 315) (by decide +kernel)) (by decide +kernel)
theorem ws_X4_skipBlanks : Cond.selects RX4 yX4_skipBlanks yX4_skipBlanks ∈ z_all := z_in (List.mem_of_getElem? (i := 1) (by decide +kernel)) (by decide +kernel)
theorem lX4_38 : zMl 0 RX4 38 mX4_skipBlanks 0 := zMl_v wc_X4_skipBlanks wi_X4 ⟨by decide, by decide⟩ (by decide +kernel) (by decide) wlX4_38 wm_X4_skipBlanks ws_X4_skipBlanks
theorem wc_X4_readItem : Cond.code mX4_readItem.1 mX4_readItem.2.1 mX4_readItem.2.2.1 mX4_readItem.2.2.2 ∈ z_all := z_in (List.mem_of_getElem? (i := 320) (by decide +kernel)) (by decide +kernel)
theorem wlX4_41 : Cond.methodLink RX4 41 yX4_readItem ∈ z_all := z_in (List.mem_of_getElem? (i := 317) (by decide +kernel)) (by decide +kernel)
theorem wm_X4_readItem : Cond.instanceMethod yX4_readItem ∈ z_all := z_in (List.mem_of_getElem? (i := 319) (by decide +kernel)) (by decide +kernel)
theorem ws_X4_readItem : Cond.selects RX4 yX4_readItem yX4_readItem ∈ z_all := z_in (List.mem_of_getElem? (i := 2) (by decide +kernel)) (by decide +kernel)
theorem lX4_41 : zMl 0 RX4 41 mX4_readItem 1 := zMl_v wc_X4_readItem wi_X4 ⟨by decide, by decide⟩ (by decide +kernel) (by decide) wlX4_41 wm_X4_readItem ws_X4_readItem
theorem wc_X4_kindOfWord : Cond.code mX4_kindOfWord.1 mX4_kindOfWord.2.1 mX4_kindOfWord.2.2.1 mX4_kindOfWord.2.2.2 ∈ z_all := z_in (List.mem_of_getElem? (i := 324) (by decide +kernel)) (by decide +kernel)
theorem wlX4_45 : Cond.methodLink RX4 45 yX4_kindOfWord ∈ z_all := z_in (List.mem_of_getElem? (i := 321) (by decide +kernel)) (by decide +kernel)
theorem wm_X4_kindOfWord : Cond.instanceMethod yX4_kindOfWord ∈ z_all := z_in (List.mem_of_getElem? (i := 323) (by decide +kernel)) (by decide +kernel)
theorem ws_X4_kindOfWord : Cond.selects RX4 yX4_kindOfWord yX4_kindOfWord ∈ z_all := z_in (List.mem_of_getElem? (i := 3) (by decide +kernel)) (by decide +kernel)
theorem lX4_45 : zMl 0 RX4 45 mX4_kindOfWord 0 := zMl_v wc_X4_kindOfWord wi_X4 ⟨by decide, by decide⟩ (by decide +kernel) (by decide) wlX4_45 wm_X4_kindOfWord ws_X4_kindOfWord
theorem wc_X4_mayStand : Cond.code mX4_mayStand.1 mX4_mayStand.2.1 mX4_mayStand.2.2.1 mX4_mayStand.2.2.2 ∈ z_all := z_in (List.mem_of_getElem? (i := 388) (by decide +kernel)) (by decide +kernel)
theorem wlX4_49 : Cond.methodLink RX4 49 yX4_mayStand ∈ z_all := z_in (List.mem_of_getElem? (i := 385) (by decide +kernel)) (by decide +kernel)
theorem wm_X4_mayStand : Cond.instanceMethod yX4_mayStand ∈ z_all := z_in (List.mem_of_getElem? (i := 387) (by decide +kernel)) (by decide +kernel)
theorem ws_X4_mayStand : Cond.selects RX4 yX4_mayStand yX4_mayStand ∈ z_all := z_in (List.mem_of_getElem? (i := 5) (by decide +kernel)) (by decide +kernel)
theorem lX4_49 : zMl 0 RX4 49 mX4_mayStand 2 := zMl_v wc_X4_mayStand wi_X4 ⟨by decide, by decide⟩ (by decide +kernel) (by decide) wlX4_49 wm_X4_mayStand ws_X4_mayStand
theorem wc_X4_readNumbers : Cond.code mX4_readNumbers.1 mX4_readNumbers.2.1 mX4_readNumbers.2.2.1 mX4_readNumbers.2.2.2 ∈ z_all := z_in (List.mem_of_getElem? (i := 392) (by decide +kernel)) (by decide +kernel)
theorem wlX4_53 : Cond.methodLink RX4 53 yX4_readNumbers ∈ z_all := z_in (List.mem_of_getElem? (i := 389) (by decide +kernel)) (by decide +kernel)
theorem wm_X4_readNumbers : Cond.instanceMethod yX4_readNumbers ∈ z_all := z_in (List.mem_of_getElem? (i := 391) (by decide +kernel)) (by decide +kernel)
theorem ws_X4_readNumbers : Cond.selects RX4 yX4_readNumbers yX4_readNumbers ∈ z_all := z_in (List.mem_of_getElem? (i := 6) (by decide +kernel)) (by decide +kernel)
theorem lX4_53 : zMl 0 RX4 53 mX4_readNumbers 1 := zMl_v wc_X4_readNumbers wi_X4 ⟨by decide, by decide⟩ (by decide +kernel) (by decide) wlX4_53 wm_X4_readNumbers ws_X4_readNumbers
theorem wc_X4_readEnd : Cond.code mX4_readEnd.1 mX4_readEnd.2.1 mX4_readEnd.2.2.1 mX4_readEnd.2.2.2 ∈ z_all := z_in (List.mem_of_getElem? (i := 407) (by decide +kernel)) (by decide +kernel)
theorem wlX4_57 : Cond.methodLink RX4 57 yX4_readEnd ∈ z_all := z_in (List.mem_of_getElem? (i := 404) (by decide +kernel)) (by decide +kernel)
theorem wm_X4_readEnd : Cond.instanceMethod yX4_readEnd ∈ z_all := z_in (List.mem_of_getElem? (i := 406) (by decide +kernel)) (by decide +kernel)
theorem ws_X4_readEnd : Cond.selects RX4 yX4_readEnd yX4_readEnd ∈ z_all := z_in (List.mem_of_getElem? (i := 9) (by decide +kernel)) (by decide +kernel)
theorem lX4_57 : zMl 0 RX4 57 mX4_readEnd 0 := zMl_v wc_X4_readEnd wi_X4 ⟨by decide, by decide⟩ (by decide +kernel) (by decide) wlX4_57 wm_X4_readEnd ws_X4_readEnd
theorem wc_X4_tell : Cond.code mX4_tell.1 mX4_tell.2.1 mX4_tell.2.2.1 mX4_tell.2.2.2 ∈ z_all := z_in (List.mem_of_getElem? (i := 411) (by decide +kernel)) (by decide +kernel)
theorem wlX4_60 : Cond.methodLink RX4 60 yX4_tell ∈ z_all := z_in (List.mem_of_getElem? (i := 408) (by decide +kernel)) (by decide +kernel)
theorem wm_X4_tell : Cond.instanceMethod yX4_tell ∈ z_all := z_in (List.mem_of_getElem? (i := 410) (by decide +kernel)) (by decide +kernel)
theorem ws_X4_tell : Cond.selects RX4 yX4_tell yX4_tell ∈ z_all := z_in (List.mem_of_getElem? (i := 10) (by decide +kernel)) (by decide +kernel)
theorem lX4_60 : zMl 0 RX4 60 mX4_tell 2 := zMl_v wc_X4_tell wi_X4 ⟨by decide, by decide⟩ (by decide +kernel) (by decide) wlX4_60 wm_X4_tell ws_X4_tell
theorem wc_X4_nameOf : Cond.code mX4_nameOf.1 mX4_nameOf.2.1 mX4_nameOf.2.2.1 mX4_nameOf.2.2.2 ∈ z_all := z_in (List.mem_of_getElem? (i := 327) (by decide +kernel)) (by decide +kernel)
theorem wlX4_64 : Cond.methodLink RX4 64 yX4_nameOf ∈ z_all := z_in (List.mem_of_getElem? (i := 325) (by decide +kernel)) (by decide +kernel)
theorem wt_X4_nameOf : Cond.static yX4_nameOf ∈ z_all := z_in (List.mem_of_getElem? (i := 326) (by decide +kernel)) (by decide +kernel)
theorem lX4_64 : zMl 1 RX4 64 mX4_nameOf 1 := zMl_s wc_X4_nameOf wi_X4 ⟨by decide, by decide⟩ (by decide +kernel) (by decide) wlX4_64 wt_X4_nameOf
theorem wc_X4_isWord : Cond.code mX4_isWord.1 mX4_isWord.2.1 mX4_isWord.2.2.1 mX4_isWord.2.2.2 ∈ z_all := z_in (List.mem_of_getElem? (i := 336) (by decide +kernel)) (by decide +kernel)
theorem wlX4_68 : Cond.methodLink RX4 68 yX4_isWord ∈ z_all := z_in (List.mem_of_getElem? (i := 333) (by decide +kernel)) (by decide +kernel)
theorem wm_X4_isWord : Cond.instanceMethod yX4_isWord ∈ z_all := z_in (List.mem_of_getElem? (i := 335) (by decide +kernel)) (by decide +kernel)
theorem ws_X4_isWord : Cond.selects RX4 yX4_isWord yX4_isWord ∈ z_all := z_in (List.mem_of_getElem? (i := 4) (by decide +kernel)) (by decide +kernel)
theorem lX4_68 : zMl 0 RX4 68 mX4_isWord 3 := zMl_v wc_X4_isWord wi_X4 ⟨by decide, by decide⟩ (by decide +kernel) (by decide) wlX4_68 wm_X4_isWord ws_X4_isWord
theorem wc_J0_length_8abf5 : Cond.code mJ0_length_8abf5.1 mJ0_length_8abf5.2.1 mJ0_length_8abf5.2.2.1 mJ0_length_8abf5.2.2.2 ∈ z_all := z_in (List.mem_of_getElem? (i := 340) (by decide +kernel)) (by decide +kernel)
theorem wi_J0 : Cond.initialized RJ0 ∈ z_all := z_in (List.mem_of_getElem? (i := 66) (by decide +kernel)) (by decide +kernel)
theorem wlX4_82 : Cond.methodLink RX4 82 yJ0_length_8abf5 ∈ z_all := z_in (List.mem_of_getElem? (i := 337) (by decide +kernel)) (by decide +kernel)
theorem wm_J0_length_8abf5 : Cond.instanceMethod yJ0_length_8abf5 ∈ z_all := z_in (List.mem_of_getElem? (i := 338) (by decide +kernel)) (by decide +kernel)
theorem ws_J0_length_8abf5 : Cond.selects RJ0 yJ0_length_8abf5 yJ0_length_8abf5 ∈ z_all := z_in (List.mem_of_getElem? (i := 339) (by decide +kernel)) (by decide +kernel)
theorem lX4_82 : zMl 0 RX4 82 mJ0_length_8abf5 0 := zMl_v wc_J0_length_8abf5 wi_J0 ⟨by decide, by decide⟩ (by decide +kernel) (by decide) wlX4_82 wm_J0_length_8abf5 ws_J0_length_8abf5
theorem wc_J0_charAt_5068e : Cond.code mJ0_charAt_5068e.1 mJ0_charAt_5068e.2.1 mJ0_charAt_5068e.2.2.1 mJ0_charAt_5068e.2.2.2 ∈ z_all := z_in (List.mem_of_getElem? (i := 350) (by decide +kernel)) (by decide +kernel)
theorem wlX4_86 : Cond.methodLink RX4 86 yJ0_charAt_5068e ∈ z_all := z_in (List.mem_of_getElem? (i := 347) (by decide +kernel)) (by decide +kernel)
theorem wm_J0_charAt_5068e : Cond.instanceMethod yJ0_charAt_5068e ∈ z_all := z_in (List.mem_of_getElem? (i := 348) (by decide +kernel)) (by decide +kernel)
theorem ws_J0_charAt_5068e : Cond.selects RJ0 yJ0_charAt_5068e yJ0_charAt_5068e ∈ z_all := z_in (List.mem_of_getElem? (i := 349) (by decide +kernel)) (by decide +kernel)
theorem lX4_86 : zMl 0 RX4 86 mJ0_charAt_5068e 1 := zMl_v wc_J0_charAt_5068e wi_J0 ⟨by decide, by decide⟩ (by decide +kernel) (by decide) wlX4_86 wm_J0_charAt_5068e ws_J0_charAt_5068e
theorem fX4_90 : zFl RX4 90 1 0 := ⟨(RX2, TX2, 10), rfl, by decide, z_in (List.mem_of_getElem? (i := 118) (by decide +kernel)) (by decide +kernel)⟩
theorem fX4_93 : zFl RX4 93 1 1 := ⟨(RX2, TX2, 10), rfl, by decide, z_in (List.mem_of_getElem? (i := 123) (by decide +kernel)) (by decide +kernel)⟩
theorem wc_X4_readNumber : Cond.code mX4_readNumber.1 mX4_readNumber.2.1 mX4_readNumber.2.2.1 mX4_readNumber.2.2.2 ∈ z_all := z_in (List.mem_of_getElem? (i := 396) (by decide +kernel)) (by decide +kernel)
theorem wlX4_96 : Cond.methodLink RX4 96 yX4_readNumber ∈ z_all := z_in (List.mem_of_getElem? (i := 393) (by decide +kernel)) (by decide +kernel)
theorem wm_X4_readNumber : Cond.instanceMethod yX4_readNumber ∈ z_all := z_in (List.mem_of_getElem? (i := 395) (by decide +kernel)) (by decide +kernel)
theorem ws_X4_readNumber : Cond.selects RX4 yX4_readNumber yX4_readNumber ∈ z_all := z_in (List.mem_of_getElem? (i := 7) (by decide +kernel)) (by decide +kernel)
theorem lX4_96 : zMl 0 RX4 96 mX4_readNumber 3 := zMl_v wc_X4_readNumber wi_X4 ⟨by decide, by decide⟩ (by decide +kernel) (by decide) wlX4_96 wm_X4_readNumber ws_X4_readNumber
theorem wc_X4_endsTooEarly : Cond.code mX4_endsTooEarly.1 mX4_endsTooEarly.2.1 mX4_endsTooEarly.2.2.1 mX4_endsTooEarly.2.2.2 ∈ z_all := z_in (List.mem_of_getElem? (i := 400) (by decide +kernel)) (by decide +kernel)
theorem wlX4_100 : Cond.methodLink RX4 100 yX4_endsTooEarly ∈ z_all := z_in (List.mem_of_getElem? (i := 397) (by decide +kernel)) (by decide +kernel)
theorem wm_X4_endsTooEarly : Cond.instanceMethod yX4_endsTooEarly ∈ z_all := z_in (List.mem_of_getElem? (i := 399) (by decide +kernel)) (by decide +kernel)
theorem ws_X4_endsTooEarly : Cond.selects RX4 yX4_endsTooEarly yX4_endsTooEarly ∈ z_all := z_in (List.mem_of_getElem? (i := 8) (by decide +kernel)) (by decide +kernel)
theorem lX4_100 : zMl 0 RX4 100 mX4_endsTooEarly 0 := zMl_v wc_X4_endsTooEarly wi_X4 ⟨by decide, by decide⟩ (by decide +kernel) (by decide) wlX4_100 wm_X4_endsTooEarly ws_X4_endsTooEarly
theorem wc_J9_min_7cf53 : Cond.code mJ9_min_7cf53.1 mJ9_min_7cf53.2.1 mJ9_min_7cf53.2.2.1 mJ9_min_7cf53.2.2.2 ∈ z_all := z_in (List.mem_of_getElem? (i := 403) (by decide +kernel)) (by decide +kernel)
theorem wlX4_104 : Cond.methodLink RX4 104 yJ9_min_7cf53 ∈ z_all := z_in (List.mem_of_getElem? (i := 401) (by decide +kernel)) (by decide +kernel)
theorem wt_J9_min_7cf53 : Cond.static yJ9_min_7cf53 ∈ z_all := z_in (List.mem_of_getElem? (i := 402) (by decide +kernel)) (by decide +kernel)
theorem lX4_104 : zMl 1 RX4 104 mJ9_min_7cf53 2 := zMl_s wc_J9_min_7cf53 wi_J9 ⟨by decide, by decide⟩ (by decide +kernel) (by decide) wlX4_104 wt_J9_min_7cf53
theorem wc_X2_addHour : Cond.code mX2_addHour.1 mX2_addHour.2.1 mX2_addHour.2.2.1 mX2_addHour.2.2.2 ∈ z_all := z_in (List.mem_of_getElem? (i := 415) (by decide +kernel)) (by decide +kernel)
theorem wlX4_110 : Cond.methodLink RX4 110 yX2_addHour ∈ z_all := z_in (List.mem_of_getElem? (i := 412) (by decide +kernel)) (by decide +kernel)
theorem wm_X2_addHour : Cond.instanceMethod yX2_addHour ∈ z_all := z_in (List.mem_of_getElem? (i := 413) (by decide +kernel)) (by decide +kernel)
theorem ws_X2_addHour : Cond.selects RX2 yX2_addHour yX2_addHour ∈ z_all := z_in (List.mem_of_getElem? (i := 414) (by decide +kernel)) (by decide +kernel)
theorem lX4_110 : zMl 0 RX4 110 mX2_addHour 1 := zMl_v wc_X2_addHour wi_X2 ⟨by decide, by decide⟩ (by decide +kernel) (by decide) wlX4_110 wm_X2_addHour ws_X2_addHour
theorem wc_X2_addRinger : Cond.code mX2_addRinger.1 mX2_addRinger.2.1 mX2_addRinger.2.2.1 mX2_addRinger.2.2.2 ∈ z_all := z_in (List.mem_of_getElem? (i := 419) (by decide +kernel)) (by decide +kernel)
theorem wlX4_113 : Cond.methodLink RX4 113 yX2_addRinger ∈ z_all := z_in (List.mem_of_getElem? (i := 416) (by decide +kernel)) (by decide +kernel)
theorem wm_X2_addRinger : Cond.instanceMethod yX2_addRinger ∈ z_all := z_in (List.mem_of_getElem? (i := 417) (by decide +kernel)) (by decide +kernel)
theorem ws_X2_addRinger : Cond.selects RX2 yX2_addRinger yX2_addRinger ∈ z_all := z_in (List.mem_of_getElem? (i := 418) (by decide +kernel)) (by decide +kernel)
theorem lX4_113 : zMl 0 RX4 113 mX2_addRinger 4 := zMl_v wc_X2_addRinger wi_X2 ⟨by decide, by decide⟩ (by decide +kernel) (by decide) wlX4_113 wm_X2_addRinger ws_X2_addRinger
theorem fX4_117 : zFl RX4 117 1 2 := ⟨(RX2, TX2, 10), rfl, by decide, z_in (List.mem_of_getElem? (i := 128) (by decide +kernel)) (by decide +kernel)⟩
theorem fX4_119 : zFl RX4 119 1 3 := ⟨(RX2, TX2, 10), rfl, by decide, z_in (List.mem_of_getElem? (i := 132) (by decide +kernel)) (by decide +kernel)⟩
theorem fX4_121 : zFl RX4 121 1 4 := ⟨(RX2, TX2, 10), rfl, by decide, z_in (List.mem_of_getElem? (i := 137) (by decide +kernel)) (by decide +kernel)⟩
theorem wc_X4_init : Cond.code mX4_init.1 mX4_init.2.1 mX4_init.2.2.1 mX4_init.2.2.2 ∈ z_all := z_in (List.mem_of_getElem? (i := 86) (by decide +kernel)) (by decide +kernel)
theorem wlX5_9 : (RX5, 9, yX4_init) ∈ z_nest := by simp [z_nest]
theorem wm_X4_init : Cond.instanceMethod yX4_init ∈ z_all := z_in (List.mem_of_getElem? (i := 85) (by decide +kernel)) (by decide +kernel)
theorem lX5_9 : zMl 2 RX5 9 mX4_init 0 := zMl_i wc_X4_init wi_X4 ⟨by decide, by decide⟩ (by decide +kernel) (by decide) (Or.inr wlX5_9) wm_X4_init rfl rfl
theorem fX5_10 : zFl RX5 10 4 0 := ⟨(RX5, TX5, 8), rfl, by decide, z_in (List.mem_of_getElem? (i := 260) (by decide +kernel)) (by decide +kernel)⟩
theorem wc_X2_init : Cond.code mX2_init.1 mX2_init.2.1 mX2_init.2.2.1 mX2_init.2.2.2 ∈ z_all := z_in (List.mem_of_getElem? (i := 115) (by decide +kernel)) (by decide +kernel)
theorem wlX5_18 : (RX5, 18, yX2_init) ∈ z_nest := by simp [z_nest]
theorem wm_X2_init : Cond.instanceMethod yX2_init ∈ z_all := z_in (List.mem_of_getElem? (i := 114) (by decide +kernel)) (by decide +kernel)
theorem lX5_18 : zMl 2 RX5 18 mX2_init 0 := zMl_i wc_X2_init wi_X2 ⟨by decide, by decide⟩ (by decide +kernel) (by decide) (Or.inr wlX5_18) wm_X2_init rfl rfl
theorem fX5_19 : zFl RX5 19 4 1 := ⟨(RX5, TX5, 8), rfl, by decide, z_in (List.mem_of_getElem? (i := 261) (by decide +kernel)) (by decide +kernel)⟩
theorem fX5_23 : zFl RX5 23 4 2 := ⟨(RX5, TX5, 8), rfl, by decide, z_in (List.mem_of_getElem? (i := 262) (by decide +kernel)) (by decide +kernel)⟩
theorem wc_X3_init : Cond.code mX3_init.1 mX3_init.2.1 mX3_init.2.2.1 mX3_init.2.2.2 ∈ z_all := z_in (List.mem_of_getElem? (i := 176) (by decide +kernel)) (by decide +kernel)
theorem wlX5_28 : Cond.methodLink RX5 28 yX3_init ∈ z_all := z_in (List.mem_of_getElem? (i := 174) (by decide +kernel)) (by decide +kernel)
theorem wm_X3_init : Cond.instanceMethod yX3_init ∈ z_all := z_in (List.mem_of_getElem? (i := 175) (by decide +kernel)) (by decide +kernel)
theorem lX5_28 : zMl 2 RX5 28 mX3_init 0 := zMl_i wc_X3_init wi_X3 ⟨by decide, by decide⟩ (by decide +kernel) (by decide) (Or.inl wlX5_28) wm_X3_init rfl rfl
theorem fX5_29 : zFl RX5 29 4 3 := ⟨(RX5, TX5, 8), rfl, by decide, z_in (List.mem_of_getElem? (i := 263) (by decide +kernel)) (by decide +kernel)⟩
theorem fX5_33 : zFl RX5 33 4 4 := ⟨(RX5, TX5, 8), rfl, by decide, z_in (List.mem_of_getElem? (i := 264) (by decide +kernel)) (by decide +kernel)⟩
theorem fX5_37 : zFl RX5 37 4 5 := ⟨(RX5, TX5, 8), rfl, by decide, z_in (List.mem_of_getElem? (i := 265) (by decide +kernel)) (by decide +kernel)⟩
theorem wc_X1_init : Cond.code mX1_init.1 mX1_init.2.1 mX1_init.2.2.1 mX1_init.2.2.2 ∈ z_all := z_in (List.mem_of_getElem? (i := 203) (by decide +kernel)) (by decide +kernel)
theorem wlX5_43 : (RX5, 43, yX1_init) ∈ z_nest := by simp [z_nest]
theorem wm_X1_init : Cond.instanceMethod yX1_init ∈ z_all := z_in (List.mem_of_getElem? (i := 202) (by decide +kernel)) (by decide +kernel)
theorem lX5_43 : zMl 2 RX5 43 mX1_init 0 := zMl_i wc_X1_init wi_X1 ⟨by decide, by decide⟩ (by decide +kernel) (by decide) (Or.inr wlX5_43) wm_X1_init rfl rfl
theorem fX5_44 : zFl RX5 44 4 6 := ⟨(RX5, TX5, 8), rfl, by decide, z_in (List.mem_of_getElem? (i := 266) (by decide +kernel)) (by decide +kernel)⟩
theorem fX5_48 : zFl RX5 48 4 7 := ⟨(RX5, TX5, 8), rfl, by decide, z_in (List.mem_of_getElem? (i := 267) (by decide +kernel)) (by decide +kernel)⟩
theorem fX5_52 : zFl RX5 52 3 0 := ⟨(RX4, TX4, 6), rfl, by decide, z_in (List.mem_of_getElem? (i := 89) (by decide +kernel)) (by decide +kernel)⟩
theorem wc_X4_add : Cond.code mX4_add.1 mX4_add.2.1 mX4_add.2.2.1 mX4_add.2.2.2 ∈ z_all := z_in (List.mem_of_getElem? (i := 292) (by decide +kernel)) (by decide +kernel)
theorem wlX5_56 : Cond.methodLink RX5 56 yX4_add ∈ z_all := z_in (List.mem_of_getElem? (i := 289) (by decide +kernel)) (by decide +kernel)
theorem wm_X4_add : Cond.instanceMethod yX4_add ∈ z_all := z_in (List.mem_of_getElem? (i := 290) (by decide +kernel)) (by decide +kernel)
theorem ws_X4_add : Cond.selects RX4 yX4_add yX4_add ∈ z_all := z_in (List.mem_of_getElem? (i := 291) (by decide +kernel)) (by decide +kernel)
theorem lX5_56 : zMl 0 RX5 56 mX4_add 1 := zMl_v wc_X4_add wi_X4 ⟨by decide, by decide⟩ (by decide +kernel) (by decide) wlX5_56 wm_X4_add ws_X4_add
theorem wc_X4_empty : Cond.code mX4_empty.1 mX4_empty.2.1 mX4_empty.2.2.1 mX4_empty.2.2.2 ∈ z_all := z_in (List.mem_of_getElem? (i := 300) (by decide +kernel)) (by decide +kernel)
theorem wlX5_60 : Cond.methodLink RX5 60 yX4_empty ∈ z_all := z_in (List.mem_of_getElem? (i := 297) (by decide +kernel)) (by decide +kernel)
theorem wm_X4_empty : Cond.instanceMethod yX4_empty ∈ z_all := z_in (List.mem_of_getElem? (i := 298) (by decide +kernel)) (by decide +kernel)
theorem ws_X4_empty : Cond.selects RX4 yX4_empty yX4_empty ∈ z_all := z_in (List.mem_of_getElem? (i := 299) (by decide +kernel)) (by decide +kernel)
theorem lX5_60 : zMl 0 RX5 60 mX4_empty 0 := zMl_v wc_X4_empty wi_X4 ⟨by decide, by decide⟩ (by decide +kernel) (by decide) wlX5_60 wm_X4_empty ws_X4_empty
theorem wc_X4_read : Cond.code mX4_read.1 mX4_read.2.1 mX4_read.2.2.1 mX4_read.2.2.2 ∈ z_all := z_in (List.mem_of_getElem? (i := 308) (by decide +kernel)) (by decide +kernel)
theorem wlX5_63 : Cond.methodLink RX5 63 yX4_read ∈ z_all := z_in (List.mem_of_getElem? (i := 305) (by decide +kernel)) (by decide +kernel)
theorem wm_X4_read : Cond.instanceMethod yX4_read ∈ z_all := z_in (List.mem_of_getElem? (i := 306) (by decide +kernel)) (by decide +kernel)
theorem ws_X4_read : Cond.selects RX4 yX4_read yX4_read ∈ z_all := z_in (List.mem_of_getElem? (i := 307) (by decide +kernel)) (by decide +kernel)
theorem lX5_63 : zMl 0 RX5 63 mX4_read 1 := zMl_v wc_X4_read wi_X4 ⟨by decide, by decide⟩ (by decide +kernel) (by decide) wlX5_63 wm_X4_read ws_X4_read
theorem fX5_67 : zFl RX5 67 1 2 := ⟨(RX2, TX2, 10), rfl, by decide, z_in (List.mem_of_getElem? (i := 127) (by decide +kernel)) (by decide +kernel)⟩
theorem wc_X3_empty : Cond.code mX3_empty.1 mX3_empty.2.1 mX3_empty.2.2.1 mX3_empty.2.2.2 ∈ z_all := z_in (List.mem_of_getElem? (i := 423) (by decide +kernel)) (by decide +kernel)
theorem wlX5_70 : Cond.methodLink RX5 70 yX3_empty ∈ z_all := z_in (List.mem_of_getElem? (i := 420) (by decide +kernel)) (by decide +kernel)
theorem wm_X3_empty : Cond.instanceMethod yX3_empty ∈ z_all := z_in (List.mem_of_getElem? (i := 421) (by decide +kernel)) (by decide +kernel)
theorem ws_X3_empty : Cond.selects RX3 yX3_empty yX3_empty ∈ z_all := z_in (List.mem_of_getElem? (i := 422) (by decide +kernel)) (by decide +kernel)
theorem lX5_70 : zMl 0 RX5 70 mX3_empty 1 := zMl_v wc_X3_empty wi_X3 ⟨by decide, by decide⟩ (by decide +kernel) (by decide) wlX5_70 wm_X3_empty ws_X3_empty
theorem wc_X1_forParish : Cond.code mX1_forParish.1 mX1_forParish.2.1 mX1_forParish.2.2.1 mX1_forParish.2.2.2 ∈ z_all := z_in (List.mem_of_getElem? (i := 427) (by decide +kernel)) (by decide +kernel)
theorem wlX5_73 : Cond.methodLink RX5 73 yX1_forParish ∈ z_all := z_in (List.mem_of_getElem? (i := 424) (by decide +kernel)) (by decide +kernel)
theorem wm_X1_forParish : Cond.instanceMethod yX1_forParish ∈ z_all := z_in (List.mem_of_getElem? (i := 425) (by decide +kernel)) (by decide +kernel)
theorem ws_X1_forParish : Cond.selects RX1 yX1_forParish yX1_forParish ∈ z_all := z_in (List.mem_of_getElem? (i := 426) (by decide +kernel)) (by decide +kernel)
theorem lX5_73 : zMl 0 RX5 73 mX1_forParish 0 := zMl_v wc_X1_forParish wi_X1 ⟨by decide, by decide⟩ (by decide +kernel) (by decide) wlX5_73 wm_X1_forParish ws_X1_forParish
theorem wlX5_76 : Cond.methodLink RX5 76 yX2_hasRinger ∈ z_all := z_in (List.mem_of_getElem? (i := 432) (by decide +kernel)) (by decide +kernel)
theorem lX5_76 : zMl 0 RX5 76 mX2_hasRinger 1 := zMl_v wc_X2_hasRinger wi_X2 ⟨by decide, by decide⟩ (by decide +kernel) (by decide) wlX5_76 wm_X2_hasRinger ws_X2_hasRinger
theorem fX5_80 : zFl RX5 80 1 6 := ⟨(RX2, TX2, 10), rfl, by decide, z_in (List.mem_of_getElem? (i := 144) (by decide +kernel)) (by decide +kernel)⟩
theorem fX5_84 : zFl RX5 84 1 7 := ⟨(RX2, TX2, 10), rfl, by decide, z_in (List.mem_of_getElem? (i := 146) (by decide +kernel)) (by decide +kernel)⟩
theorem fX5_87 : zFl RX5 87 1 8 := ⟨(RX2, TX2, 10), rfl, by decide, z_in (List.mem_of_getElem? (i := 148) (by decide +kernel)) (by decide +kernel)⟩
theorem fX5_90 : zFl RX5 90 1 9 := ⟨(RX2, TX2, 10), rfl, by decide, z_in (List.mem_of_getElem? (i := 150) (by decide +kernel)) (by decide +kernel)⟩
theorem wlX5_93 : Cond.methodLink RX5 93 yX3_timesOf ∈ z_all := z_in (List.mem_of_getElem? (i := 436) (by decide +kernel)) (by decide +kernel)
theorem lX5_93 : zMl 0 RX5 93 mX3_timesOf 1 := zMl_v wc_X3_timesOf wi_X3 ⟨by decide, by decide⟩ (by decide +kernel) (by decide) wlX5_93 wm_X3_timesOf ws_X3_timesOf
theorem wlX5_97 : Cond.methodLink RX5 97 yX2_hasHour ∈ z_all := z_in (List.mem_of_getElem? (i := 455) (by decide +kernel)) (by decide +kernel)
theorem lX5_97 : zMl 0 RX5 97 mX2_hasHour 1 := zMl_v wc_X2_hasHour wi_X2 ⟨by decide, by decide⟩ (by decide +kernel) (by decide) wlX5_97 wm_X2_hasHour ws_X2_hasHour
theorem fX5_100 : zFl RX5 100 1 5 := ⟨(RX2, TX2, 10), rfl, by decide, z_in (List.mem_of_getElem? (i := 141) (by decide +kernel)) (by decide +kernel)⟩
theorem wlX5_103 : Cond.methodLink RX5 103 yX3_ringersIn ∈ z_all := z_in (List.mem_of_getElem? (i := 459) (by decide +kernel)) (by decide +kernel)
theorem lX5_103 : zMl 0 RX5 103 mX3_ringersIn 1 := zMl_v wc_X3_ringersIn wi_X3 ⟨by decide, by decide⟩ (by decide +kernel) (by decide) wlX5_103 wm_X3_ringersIn ws_X3_ringersIn
theorem wlX5_106 : Cond.methodLink RX5 106 yJ6_bitCount_0f7a4 ∈ z_all := z_in (List.mem_of_getElem? (i := 463) (by decide +kernel)) (by decide +kernel)
theorem lX5_106 : zMl 1 RX5 106 mJ6_bitCount_0f7a4 1 := zMl_s wc_J6_bitCount_0f7a4 wi_J6 ⟨by decide, by decide⟩ (by decide +kernel) (by decide) wlX5_106 wt_J6_bitCount_0f7a4
theorem fX5_111 : zFl RX5 111 2 2 := ⟨(RX3, TX3, 4), rfl, by decide, z_in (List.mem_of_getElem? (i := 187) (by decide +kernel)) (by decide +kernel)⟩
theorem wlX5_114 : Cond.methodLink RX5 114 yX2_hasBell ∈ z_all := z_in (List.mem_of_getElem? (i := 473) (by decide +kernel)) (by decide +kernel)
theorem lX5_114 : zMl 0 RX5 114 mX2_hasBell 2 := zMl_v wc_X2_hasBell wi_X2 ⟨by decide, by decide⟩ (by decide +kernel) (by decide) wlX5_114 wm_X2_hasBell ws_X2_hasBell
theorem wc_X2_canRing : Cond.code mX2_canRing.1 mX2_canRing.2.1 mX2_canRing.2.2.1 mX2_canRing.2.2.2 ∈ z_all := z_in (List.mem_of_getElem? (i := 481) (by decide +kernel)) (by decide +kernel)
theorem wlX5_118 : Cond.methodLink RX5 118 yX2_canRing ∈ z_all := z_in (List.mem_of_getElem? (i := 478) (by decide +kernel)) (by decide +kernel)
theorem wm_X2_canRing : Cond.instanceMethod yX2_canRing ∈ z_all := z_in (List.mem_of_getElem? (i := 479) (by decide +kernel)) (by decide +kernel)
theorem ws_X2_canRing : Cond.selects RX2 yX2_canRing yX2_canRing ∈ z_all := z_in (List.mem_of_getElem? (i := 480) (by decide +kernel)) (by decide +kernel)
theorem lX5_118 : zMl 0 RX5 118 mX2_canRing 3 := zMl_v wc_X2_canRing wi_X2 ⟨by decide, by decide⟩ (by decide +kernel) (by decide) wlX5_118 wm_X2_canRing ws_X2_canRing
theorem wc_X3_hasRoom : Cond.code mX3_hasRoom.1 mX3_hasRoom.2.1 mX3_hasRoom.2.2.1 mX3_hasRoom.2.2.2 ∈ z_all := z_in (List.mem_of_getElem? (i := 491) (by decide +kernel)) (by decide +kernel)
theorem wlX5_122 : Cond.methodLink RX5 122 yX3_hasRoom ∈ z_all := z_in (List.mem_of_getElem? (i := 488) (by decide +kernel)) (by decide +kernel)
theorem wm_X3_hasRoom : Cond.instanceMethod yX3_hasRoom ∈ z_all := z_in (List.mem_of_getElem? (i := 489) (by decide +kernel)) (by decide +kernel)
theorem ws_X3_hasRoom : Cond.selects RX3 yX3_hasRoom yX3_hasRoom ∈ z_all := z_in (List.mem_of_getElem? (i := 490) (by decide +kernel)) (by decide +kernel)
theorem lX5_122 : zMl 0 RX5 122 mX3_hasRoom 4 := zMl_v wc_X3_hasRoom wi_X3 ⟨by decide, by decide⟩ (by decide +kernel) (by decide) wlX5_122 wm_X3_hasRoom ws_X3_hasRoom
theorem wc_X3_give : Cond.code mX3_give.1 mX3_give.2.1 mX3_give.2.2.1 mX3_give.2.2.2 ∈ z_all := z_in (List.mem_of_getElem? (i := 503) (by decide +kernel)) (by decide +kernel)
theorem wlX5_126 : Cond.methodLink RX5 126 yX3_give ∈ z_all := z_in (List.mem_of_getElem? (i := 500) (by decide +kernel)) (by decide +kernel)
theorem wm_X3_give : Cond.instanceMethod yX3_give ∈ z_all := z_in (List.mem_of_getElem? (i := 501) (by decide +kernel)) (by decide +kernel)
theorem ws_X3_give : Cond.selects RX3 yX3_give yX3_give ∈ z_all := z_in (List.mem_of_getElem? (i := 502) (by decide +kernel)) (by decide +kernel)
theorem lX5_126 : zMl 0 RX5 126 mX3_give 3 := zMl_v wc_X3_give wi_X3 ⟨by decide, by decide⟩ (by decide +kernel) (by decide) wlX5_126 wm_X3_give ws_X3_give
theorem fX5_130 : zFl RX5 130 2 0 := ⟨(RX3, TX3, 4), rfl, by decide, z_in (List.mem_of_getElem? (i := 183) (by decide +kernel)) (by decide +kernel)⟩
theorem wlX5_133 : Cond.methodLink RX5 133 yX3_ringerAt ∈ z_all := z_in (List.mem_of_getElem? (i := 508) (by decide +kernel)) (by decide +kernel)
theorem lX5_133 : zMl 0 RX5 133 mX3_ringerAt 2 := zMl_v wc_X3_ringerAt wi_X3 ⟨by decide, by decide⟩ (by decide +kernel) (by decide) wlX5_133 wm_X3_ringerAt ws_X3_ringerAt
theorem wlX5_137 : Cond.methodLink RX5 137 yX3_bellOf ∈ z_all := z_in (List.mem_of_getElem? (i := 513) (by decide +kernel)) (by decide +kernel)
theorem lX5_137 : zMl 0 RX5 137 mX3_bellOf 2 := zMl_v wc_X3_bellOf wi_X3 ⟨by decide, by decide⟩ (by decide +kernel) (by decide) wlX5_137 wm_X3_bellOf ws_X3_bellOf
theorem wc_X3_free : Cond.code mX3_free.1 mX3_free.2.1 mX3_free.2.2.1 mX3_free.2.2.2 ∈ z_all := z_in (List.mem_of_getElem? (i := 517) (by decide +kernel)) (by decide +kernel)
theorem wlX5_140 : Cond.methodLink RX5 140 yX3_free ∈ z_all := z_in (List.mem_of_getElem? (i := 514) (by decide +kernel)) (by decide +kernel)
theorem wm_X3_free : Cond.instanceMethod yX3_free ∈ z_all := z_in (List.mem_of_getElem? (i := 515) (by decide +kernel)) (by decide +kernel)
theorem ws_X3_free : Cond.selects RX3 yX3_free yX3_free ∈ z_all := z_in (List.mem_of_getElem? (i := 516) (by decide +kernel)) (by decide +kernel)
theorem lX5_140 : zMl 0 RX5 140 mX3_free 2 := zMl_v wc_X3_free wi_X3 ⟨by decide, by decide⟩ (by decide +kernel) (by decide) wlX5_140 wm_X3_free ws_X3_free
theorem wc_X5_canTakeOver : Cond.code mX5_canTakeOver.1 mX5_canTakeOver.2.1 mX5_canTakeOver.2.2.1 mX5_canTakeOver.2.2.2 ∈ z_all := z_in (List.mem_of_getElem? (i := 525) (by decide +kernel)) (by decide +kernel)
theorem wi_X5 : Cond.initialized RX5 ∈ z_all := z_in (List.mem_of_getElem? (i := 60) (by decide +kernel)) (by decide +kernel)
theorem wlX5_144 : Cond.methodLink RX5 144 yX5_canTakeOver ∈ z_all := z_in (List.mem_of_getElem? (i := 522) (by decide +kernel)) (by decide +kernel)
theorem wm_X5_canTakeOver : Cond.instanceMethod yX5_canTakeOver ∈ z_all := z_in (List.mem_of_getElem? (i := 524) (by decide +kernel)) (by decide +kernel)
theorem ws_X5_canTakeOver : Cond.selects RX5 yX5_canTakeOver yX5_canTakeOver ∈ z_all := z_in (List.mem_of_getElem? (i := 11) (by decide +kernel)) (by decide +kernel)
theorem lX5_144 : zMl 0 RX5 144 mX5_canTakeOver 2 := zMl_v wc_X5_canTakeOver wi_X5 ⟨by decide, by decide⟩ (by decide +kernel) (by decide) wlX5_144 wm_X5_canTakeOver ws_X5_canTakeOver
theorem wc_X3_swap : Cond.code mX3_swap.1 mX3_swap.2.1 mX3_swap.2.2.1 mX3_swap.2.2.2 ∈ z_all := z_in (List.mem_of_getElem? (i := 529) (by decide +kernel)) (by decide +kernel)
theorem wlX5_147 : Cond.methodLink RX5 147 yX3_swap ∈ z_all := z_in (List.mem_of_getElem? (i := 526) (by decide +kernel)) (by decide +kernel)
theorem wm_X3_swap : Cond.instanceMethod yX3_swap ∈ z_all := z_in (List.mem_of_getElem? (i := 527) (by decide +kernel)) (by decide +kernel)
theorem ws_X3_swap : Cond.selects RX3 yX3_swap yX3_swap ∈ z_all := z_in (List.mem_of_getElem? (i := 528) (by decide +kernel)) (by decide +kernel)
theorem lX5_147 : zMl 0 RX5 147 mX3_swap 2 := zMl_v wc_X3_swap wi_X3 ⟨by decide, by decide⟩ (by decide +kernel) (by decide) wlX5_147 wm_X3_swap ws_X3_swap
theorem fX5_150 : zFl RX5 150 1 0 := ⟨(RX2, TX2, 10), rfl, by decide, z_in (List.mem_of_getElem? (i := 119) (by decide +kernel)) (by decide +kernel)⟩
theorem wc_X2_wantedInAll : Cond.code mX2_wantedInAll.1 mX2_wantedInAll.2.1 mX2_wantedInAll.2.2.1 mX2_wantedInAll.2.2.2 ∈ z_all := z_in (List.mem_of_getElem? (i := 537) (by decide +kernel)) (by decide +kernel)
theorem wlX5_153 : Cond.methodLink RX5 153 yX2_wantedInAll ∈ z_all := z_in (List.mem_of_getElem? (i := 534) (by decide +kernel)) (by decide +kernel)
theorem wm_X2_wantedInAll : Cond.instanceMethod yX2_wantedInAll ∈ z_all := z_in (List.mem_of_getElem? (i := 535) (by decide +kernel)) (by decide +kernel)
theorem ws_X2_wantedInAll : Cond.selects RX2 yX2_wantedInAll yX2_wantedInAll ∈ z_all := z_in (List.mem_of_getElem? (i := 536) (by decide +kernel)) (by decide +kernel)
theorem lX5_153 : zMl 0 RX5 153 mX2_wantedInAll 0 := zMl_v wc_X2_wantedInAll wi_X2 ⟨by decide, by decide⟩ (by decide +kernel) (by decide) wlX5_153 wm_X2_wantedInAll ws_X2_wantedInAll
theorem fX5_157 : zFl RX5 157 2 1 := ⟨(RX3, TX3, 4), rfl, by decide, z_in (List.mem_of_getElem? (i := 185) (by decide +kernel)) (by decide +kernel)⟩
theorem wc_X3_walk : Cond.code mX3_walk.1 mX3_walk.2.1 mX3_walk.2.2.1 mX3_walk.2.2.2 ∈ z_all := z_in (List.mem_of_getElem? (i := 541) (by decide +kernel)) (by decide +kernel)
theorem wlX5_158 : Cond.methodLink RX5 158 yX3_walk ∈ z_all := z_in (List.mem_of_getElem? (i := 538) (by decide +kernel)) (by decide +kernel)
theorem wm_X3_walk : Cond.instanceMethod yX3_walk ∈ z_all := z_in (List.mem_of_getElem? (i := 539) (by decide +kernel)) (by decide +kernel)
theorem ws_X3_walk : Cond.selects RX3 yX3_walk yX3_walk ∈ z_all := z_in (List.mem_of_getElem? (i := 540) (by decide +kernel)) (by decide +kernel)
theorem lX5_158 : zMl 0 RX5 158 mX3_walk 2 := zMl_v wc_X3_walk wi_X3 ⟨by decide, by decide⟩ (by decide +kernel) (by decide) wlX5_158 wm_X3_walk ws_X3_walk
theorem wc_X1_forTower : Cond.code mX1_forTower.1 mX1_forTower.2.1 mX1_forTower.2.2.1 mX1_forTower.2.2.2 ∈ z_all := z_in (List.mem_of_getElem? (i := 554) (by decide +kernel)) (by decide +kernel)
theorem wlX5_162 : Cond.methodLink RX5 162 yX1_forTower ∈ z_all := z_in (List.mem_of_getElem? (i := 551) (by decide +kernel)) (by decide +kernel)
theorem wm_X1_forTower : Cond.instanceMethod yX1_forTower ∈ z_all := z_in (List.mem_of_getElem? (i := 552) (by decide +kernel)) (by decide +kernel)
theorem ws_X1_forTower : Cond.selects RX1 yX1_forTower yX1_forTower ∈ z_all := z_in (List.mem_of_getElem? (i := 553) (by decide +kernel)) (by decide +kernel)
theorem lX5_162 : zMl 0 RX5 162 mX1_forTower 0 := zMl_v wc_X1_forTower wi_X1 ⟨by decide, by decide⟩ (by decide +kernel) (by decide) wlX5_162 wm_X1_forTower ws_X1_forTower
theorem wc_X0_most : Cond.code mX0_most.1 mX0_most.2.1 mX0_most.2.2.1 mX0_most.2.2.2 ∈ z_all := z_in (List.mem_of_getElem? (i := 561) (by decide +kernel)) (by decide +kernel)
theorem wlX5_165 : Cond.methodLink RX5 165 yX0_most ∈ z_all := z_in (List.mem_of_getElem? (i := 559) (by decide +kernel)) (by decide +kernel)
theorem wt_X0_most : Cond.static yX0_most ∈ z_all := z_in (List.mem_of_getElem? (i := 560) (by decide +kernel)) (by decide +kernel)
theorem lX5_165 : zMl 1 RX5 165 mX0_most 2 := zMl_s wc_X0_most wi_X0 ⟨by decide, by decide⟩ (by decide +kernel) (by decide) wlX5_165 wt_X0_most
theorem wlX5_170 : Cond.methodLink RX5 170 yX0_firstBar ∈ z_all := z_in (List.mem_of_getElem? (i := 577) (by decide +kernel)) (by decide +kernel)
theorem lX5_170 : zMl 1 RX5 170 mX0_firstBar 3 := zMl_s wc_X0_firstBar wi_X0 ⟨by decide, by decide⟩ (by decide +kernel) (by decide) wlX5_170 wt_X0_firstBar
theorem wc_X1_settle : Cond.code mX1_settle.1 mX1_settle.2.1 mX1_settle.2.2.1 mX1_settle.2.2.2 ∈ z_all := z_in (List.mem_of_getElem? (i := 587) (by decide +kernel)) (by decide +kernel)
theorem wlX5_174 : Cond.methodLink RX5 174 yX1_settle ∈ z_all := z_in (List.mem_of_getElem? (i := 584) (by decide +kernel)) (by decide +kernel)
theorem wm_X1_settle : Cond.instanceMethod yX1_settle ∈ z_all := z_in (List.mem_of_getElem? (i := 585) (by decide +kernel)) (by decide +kernel)
theorem ws_X1_settle : Cond.selects RX1 yX1_settle yX1_settle ∈ z_all := z_in (List.mem_of_getElem? (i := 586) (by decide +kernel)) (by decide +kernel)
theorem lX5_174 : zMl 0 RX5 174 mX1_settle 2 := zMl_v wc_X1_settle wi_X1 ⟨by decide, by decide⟩ (by decide +kernel) (by decide) wlX5_174 wm_X1_settle ws_X1_settle
theorem wc_X1_fewestShort : Cond.code mX1_fewestShort.1 mX1_fewestShort.2.1 mX1_fewestShort.2.2.1 mX1_fewestShort.2.2.2 ∈ z_all := z_in (List.mem_of_getElem? (i := 639) (by decide +kernel)) (by decide +kernel)
theorem wlX5_178 : Cond.methodLink RX5 178 yX1_fewestShort ∈ z_all := z_in (List.mem_of_getElem? (i := 636) (by decide +kernel)) (by decide +kernel)
theorem wm_X1_fewestShort : Cond.instanceMethod yX1_fewestShort ∈ z_all := z_in (List.mem_of_getElem? (i := 637) (by decide +kernel)) (by decide +kernel)
theorem ws_X1_fewestShort : Cond.selects RX1 yX1_fewestShort yX1_fewestShort ∈ z_all := z_in (List.mem_of_getElem? (i := 638) (by decide +kernel)) (by decide +kernel)
theorem lX5_178 : zMl 0 RX5 178 mX1_fewestShort 0 := zMl_v wc_X1_fewestShort wi_X1 ⟨by decide, by decide⟩ (by decide +kernel) (by decide) wlX5_178 wm_X1_fewestShort ws_X1_fewestShort
theorem wc_X1_leastWalk : Cond.code mX1_leastWalk.1 mX1_leastWalk.2.1 mX1_leastWalk.2.2.1 mX1_leastWalk.2.2.2 ∈ z_all := z_in (List.mem_of_getElem? (i := 643) (by decide +kernel)) (by decide +kernel)
theorem wlX5_181 : Cond.methodLink RX5 181 yX1_leastWalk ∈ z_all := z_in (List.mem_of_getElem? (i := 640) (by decide +kernel)) (by decide +kernel)
theorem wm_X1_leastWalk : Cond.instanceMethod yX1_leastWalk ∈ z_all := z_in (List.mem_of_getElem? (i := 641) (by decide +kernel)) (by decide +kernel)
theorem ws_X1_leastWalk : Cond.selects RX1 yX1_leastWalk yX1_leastWalk ∈ z_all := z_in (List.mem_of_getElem? (i := 642) (by decide +kernel)) (by decide +kernel)
theorem lX5_181 : zMl 0 RX5 181 mX1_leastWalk 0 := zMl_v wc_X1_leastWalk wi_X1 ⟨by decide, by decide⟩ (by decide +kernel) (by decide) wlX5_181 wm_X1_leastWalk ws_X1_leastWalk
theorem wc_X1_fewestRingers : Cond.code mX1_fewestRingers.1 mX1_fewestRingers.2.1 mX1_fewestRingers.2.2.1 mX1_fewestRingers.2.2.2 ∈ z_all := z_in (List.mem_of_getElem? (i := 648) (by decide +kernel)) (by decide +kernel)
theorem wlX5_184 : Cond.methodLink RX5 184 yX1_fewestRingers ∈ z_all := z_in (List.mem_of_getElem? (i := 645) (by decide +kernel)) (by decide +kernel)
theorem wm_X1_fewestRingers : Cond.instanceMethod yX1_fewestRingers ∈ z_all := z_in (List.mem_of_getElem? (i := 646) (by decide +kernel)) (by decide +kernel)
theorem ws_X1_fewestRingers : Cond.selects RX1 yX1_fewestRingers yX1_fewestRingers ∈ z_all := z_in (List.mem_of_getElem? (i := 647) (by decide +kernel)) (by decide +kernel)
theorem lX5_184 : zMl 0 RX5 184 mX1_fewestRingers 0 := zMl_v wc_X1_fewestRingers wi_X1 ⟨by decide, by decide⟩ (by decide +kernel) (by decide) wlX5_184 wm_X1_fewestRingers ws_X1_fewestRingers
theorem wc_X1_mostEven : Cond.code mX1_mostEven.1 mX1_mostEven.2.1 mX1_mostEven.2.2.1 mX1_mostEven.2.2.2 ∈ z_all := z_in (List.mem_of_getElem? (i := 661) (by decide +kernel)) (by decide +kernel)
theorem wlX5_187 : Cond.methodLink RX5 187 yX1_mostEven ∈ z_all := z_in (List.mem_of_getElem? (i := 658) (by decide +kernel)) (by decide +kernel)
theorem wm_X1_mostEven : Cond.instanceMethod yX1_mostEven ∈ z_all := z_in (List.mem_of_getElem? (i := 659) (by decide +kernel)) (by decide +kernel)
theorem ws_X1_mostEven : Cond.selects RX1 yX1_mostEven yX1_mostEven ∈ z_all := z_in (List.mem_of_getElem? (i := 660) (by decide +kernel)) (by decide +kernel)
theorem lX5_187 : zMl 0 RX5 187 mX1_mostEven 0 := zMl_v wc_X1_mostEven wi_X1 ⟨by decide, by decide⟩ (by decide +kernel) (by decide) wlX5_187 wm_X1_mostEven ws_X1_mostEven
theorem wlX5_190 : Cond.methodLink RX5 190 yX1_firstBell ∈ z_all := z_in (List.mem_of_getElem? (i := 666) (by decide +kernel)) (by decide +kernel)
theorem lX5_190 : zMl 0 RX5 190 mX1_firstBell 2 := zMl_v wc_X1_firstBell wi_X1 ⟨by decide, by decide⟩ (by decide +kernel) (by decide) wlX5_190 wm_X1_firstBell ws_X1_firstBell
theorem wc_X1_missedRingers : Cond.code mX1_missedRingers.1 mX1_missedRingers.2.1 mX1_missedRingers.2.2.1 mX1_missedRingers.2.2.2 ∈ z_all := z_in (List.mem_of_getElem? (i := 678) (by decide +kernel)) (by decide +kernel)
theorem wlX5_193 : Cond.methodLink RX5 193 yX1_missedRingers ∈ z_all := z_in (List.mem_of_getElem? (i := 675) (by decide +kernel)) (by decide +kernel)
theorem wm_X1_missedRingers : Cond.instanceMethod yX1_missedRingers ∈ z_all := z_in (List.mem_of_getElem? (i := 676) (by decide +kernel)) (by decide +kernel)
theorem ws_X1_missedRingers : Cond.selects RX1 yX1_missedRingers yX1_missedRingers ∈ z_all := z_in (List.mem_of_getElem? (i := 677) (by decide +kernel)) (by decide +kernel)
theorem lX5_193 : zMl 0 RX5 193 mX1_missedRingers 0 := zMl_v wc_X1_missedRingers wi_X1 ⟨by decide, by decide⟩ (by decide +kernel) (by decide) wlX5_193 wm_X1_missedRingers ws_X1_missedRingers
theorem wc_X0_fullWeight : Cond.code mX0_fullWeight.1 mX0_fullWeight.2.1 mX0_fullWeight.2.2.1 mX0_fullWeight.2.2.2 ∈ z_all := z_in (List.mem_of_getElem? (i := 690) (by decide +kernel)) (by decide +kernel)
theorem wlX5_196 : Cond.methodLink RX5 196 yX0_fullWeight ∈ z_all := z_in (List.mem_of_getElem? (i := 688) (by decide +kernel)) (by decide +kernel)
theorem wt_X0_fullWeight : Cond.static yX0_fullWeight ∈ z_all := z_in (List.mem_of_getElem? (i := 689) (by decide +kernel)) (by decide +kernel)
theorem lX5_196 : zMl 1 RX5 196 mX0_fullWeight 2 := zMl_s wc_X0_fullWeight wi_X0 ⟨by decide, by decide⟩ (by decide +kernel) (by decide) wlX5_196 wt_X0_fullWeight
theorem wc_X2_weightInAll : Cond.code mX2_weightInAll.1 mX2_weightInAll.2.1 mX2_weightInAll.2.2.1 mX2_weightInAll.2.2.2 ∈ z_all := z_in (List.mem_of_getElem? (i := 699) (by decide +kernel)) (by decide +kernel)
theorem wlX5_199 : Cond.methodLink RX5 199 yX2_weightInAll ∈ z_all := z_in (List.mem_of_getElem? (i := 696) (by decide +kernel)) (by decide +kernel)
theorem wm_X2_weightInAll : Cond.instanceMethod yX2_weightInAll ∈ z_all := z_in (List.mem_of_getElem? (i := 697) (by decide +kernel)) (by decide +kernel)
theorem ws_X2_weightInAll : Cond.selects RX2 yX2_weightInAll yX2_weightInAll ∈ z_all := z_in (List.mem_of_getElem? (i := 698) (by decide +kernel)) (by decide +kernel)
theorem lX5_199 : zMl 0 RX5 199 mX2_weightInAll 0 := zMl_v wc_X2_weightInAll wi_X2 ⟨by decide, by decide⟩ (by decide +kernel) (by decide) wlX5_199 wm_X2_weightInAll ws_X2_weightInAll
theorem wc_X5_commonDivisor : Cond.code mX5_commonDivisor.1 mX5_commonDivisor.2.1 mX5_commonDivisor.2.2.1 mX5_commonDivisor.2.2.2 ∈ z_all := z_in (List.mem_of_getElem? (i := 702) (by decide +kernel)) (by decide +kernel)
theorem wlX5_202 : Cond.methodLink RX5 202 yX5_commonDivisor ∈ z_all := z_in (List.mem_of_getElem? (i := 700) (by decide +kernel)) (by decide +kernel)
theorem wt_X5_commonDivisor : Cond.static yX5_commonDivisor ∈ z_all := z_in (List.mem_of_getElem? (i := 701) (by decide +kernel)) (by decide +kernel)
theorem lX5_202 : zMl 1 RX5 202 mX5_commonDivisor 2 := zMl_s wc_X5_commonDivisor wi_X5 ⟨by decide, by decide⟩ (by decide +kernel) (by decide) wlX5_202 wt_X5_commonDivisor
theorem wc_X3_ringersAtAll : Cond.code mX3_ringersAtAll.1 mX3_ringersAtAll.2.1 mX3_ringersAtAll.2.2.1 mX3_ringersAtAll.2.2.2 ∈ z_all := z_in (List.mem_of_getElem? (i := 722) (by decide +kernel)) (by decide +kernel)
theorem wlX5_205 : Cond.methodLink RX5 205 yX3_ringersAtAll ∈ z_all := z_in (List.mem_of_getElem? (i := 719) (by decide +kernel)) (by decide +kernel)
theorem wm_X3_ringersAtAll : Cond.instanceMethod yX3_ringersAtAll ∈ z_all := z_in (List.mem_of_getElem? (i := 720) (by decide +kernel)) (by decide +kernel)
theorem ws_X3_ringersAtAll : Cond.selects RX3 yX3_ringersAtAll yX3_ringersAtAll ∈ z_all := z_in (List.mem_of_getElem? (i := 721) (by decide +kernel)) (by decide +kernel)
theorem lX5_205 : zMl 0 RX5 205 mX3_ringersAtAll 0 := zMl_v wc_X3_ringersAtAll wi_X3 ⟨by decide, by decide⟩ (by decide +kernel) (by decide) wlX5_205 wm_X3_ringersAtAll ws_X3_ringersAtAll
theorem wc_X3_soundsWithout : Cond.code mX3_soundsWithout.1 mX3_soundsWithout.2.1 mX3_soundsWithout.2.2.1 mX3_soundsWithout.2.2.2 ∈ z_all := z_in (List.mem_of_getElem? (i := 727) (by decide +kernel)) (by decide +kernel)
theorem wlX5_208 : Cond.methodLink RX5 208 yX3_soundsWithout ∈ z_all := z_in (List.mem_of_getElem? (i := 724) (by decide +kernel)) (by decide +kernel)
theorem wm_X3_soundsWithout : Cond.instanceMethod yX3_soundsWithout ∈ z_all := z_in (List.mem_of_getElem? (i := 725) (by decide +kernel)) (by decide +kernel)
theorem ws_X3_soundsWithout : Cond.selects RX3 yX3_soundsWithout yX3_soundsWithout ∈ z_all := z_in (List.mem_of_getElem? (i := 726) (by decide +kernel)) (by decide +kernel)
theorem lX5_208 : zMl 0 RX5 208 mX3_soundsWithout 1 := zMl_v wc_X3_soundsWithout wi_X3 ⟨by decide, by decide⟩ (by decide +kernel) (by decide) wlX5_208 wm_X3_soundsWithout ws_X3_soundsWithout
theorem cX5_211 : Cond.constant RX5 211 (-1000000) ∈ z_all := z_in (List.mem_of_getElem? (i := 733) (by decide +kernel)) (by decide +kernel)
theorem wc_X5_markRinger : Cond.code mX5_markRinger.1 mX5_markRinger.2.1 mX5_markRinger.2.2.1 mX5_markRinger.2.2.2 ∈ z_all := z_in (List.mem_of_getElem? (i := 737) (by decide +kernel)) (by decide +kernel)
theorem wlX5_212 : Cond.methodLink RX5 212 yX5_markRinger ∈ z_all := z_in (List.mem_of_getElem? (i := 734) (by decide +kernel)) (by decide +kernel)
theorem wm_X5_markRinger : Cond.instanceMethod yX5_markRinger ∈ z_all := z_in (List.mem_of_getElem? (i := 736) (by decide +kernel)) (by decide +kernel)
theorem ws_X5_markRinger : Cond.selects RX5 yX5_markRinger yX5_markRinger ∈ z_all := z_in (List.mem_of_getElem? (i := 22) (by decide +kernel)) (by decide +kernel)
theorem lX5_212 : zMl 0 RX5 212 mX5_markRinger 1 := zMl_v wc_X5_markRinger wi_X5 ⟨by decide, by decide⟩ (by decide +kernel) (by decide) wlX5_212 wm_X5_markRinger ws_X5_markRinger
theorem wc_X5_markSexton : Cond.code mX5_markSexton.1 mX5_markSexton.2.1 mX5_markSexton.2.2.1 mX5_markSexton.2.2.2 ∈ z_all := z_in (List.mem_of_getElem? (i := 741) (by decide +kernel)) (by decide +kernel)
theorem wlX5_215 : Cond.methodLink RX5 215 yX5_markSexton ∈ z_all := z_in (List.mem_of_getElem? (i := 738) (by decide +kernel)) (by decide +kernel)
theorem wm_X5_markSexton : Cond.instanceMethod yX5_markSexton ∈ z_all := z_in (List.mem_of_getElem? (i := 740) (by decide +kernel)) (by decide +kernel)
theorem ws_X5_markSexton : Cond.selects RX5 yX5_markSexton yX5_markSexton ∈ z_all := z_in (List.mem_of_getElem? (i := 23) (by decide +kernel)) (by decide +kernel)
theorem lX5_215 : zMl 0 RX5 215 mX5_markSexton 1 := zMl_v wc_X5_markSexton wi_X5 ⟨by decide, by decide⟩ (by decide +kernel) (by decide) wlX5_215 wm_X5_markSexton ws_X5_markSexton
theorem wc_X5_markChild : Cond.code mX5_markChild.1 mX5_markChild.2.1 mX5_markChild.2.2.1 mX5_markChild.2.2.2 ∈ z_all := z_in (List.mem_of_getElem? (i := 746) (by decide +kernel)) (by decide +kernel)
theorem wlX5_218 : Cond.methodLink RX5 218 yX5_markChild ∈ z_all := z_in (List.mem_of_getElem? (i := 743) (by decide +kernel)) (by decide +kernel)
theorem wm_X5_markChild : Cond.instanceMethod yX5_markChild ∈ z_all := z_in (List.mem_of_getElem? (i := 745) (by decide +kernel)) (by decide +kernel)
theorem ws_X5_markChild : Cond.selects RX5 yX5_markChild yX5_markChild ∈ z_all := z_in (List.mem_of_getElem? (i := 24) (by decide +kernel)) (by decide +kernel)
theorem lX5_218 : zMl 0 RX5 218 mX5_markChild 1 := zMl_v wc_X5_markChild wi_X5 ⟨by decide, by decide⟩ (by decide +kernel) (by decide) wlX5_218 wm_X5_markChild ws_X5_markChild
theorem wc_X5_markWarden : Cond.code mX5_markWarden.1 mX5_markWarden.2.1 mX5_markWarden.2.2.1 mX5_markWarden.2.2.2 ∈ z_all := z_in (List.mem_of_getElem? (i := 756) (by decide +kernel)) (by decide +kernel)
theorem wlX5_221 : Cond.methodLink RX5 221 yX5_markWarden ∈ z_all := z_in (List.mem_of_getElem? (i := 753) (by decide +kernel)) (by decide +kernel)
theorem wm_X5_markWarden : Cond.instanceMethod yX5_markWarden ∈ z_all := z_in (List.mem_of_getElem? (i := 755) (by decide +kernel)) (by decide +kernel)
theorem ws_X5_markWarden : Cond.selects RX5 yX5_markWarden yX5_markWarden ∈ z_all := z_in (List.mem_of_getElem? (i := 25) (by decide +kernel)) (by decide +kernel)
theorem lX5_221 : zMl 0 RX5 221 mX5_markWarden 1 := zMl_v wc_X5_markWarden wi_X5 ⟨by decide, by decide⟩ (by decide +kernel) (by decide) wlX5_221 wm_X5_markWarden ws_X5_markWarden
theorem wc_X5_markNovice : Cond.code mX5_markNovice.1 mX5_markNovice.2.1 mX5_markNovice.2.2.1 mX5_markNovice.2.2.2 ∈ z_all := z_in (List.mem_of_getElem? (i := 761) (by decide +kernel)) (by decide +kernel)
theorem wlX5_224 : Cond.methodLink RX5 224 yX5_markNovice ∈ z_all := z_in (List.mem_of_getElem? (i := 758) (by decide +kernel)) (by decide +kernel)
theorem wm_X5_markNovice : Cond.instanceMethod yX5_markNovice ∈ z_all := z_in (List.mem_of_getElem? (i := 760) (by decide +kernel)) (by decide +kernel)
theorem ws_X5_markNovice : Cond.selects RX5 yX5_markNovice yX5_markNovice ∈ z_all := z_in (List.mem_of_getElem? (i := 26) (by decide +kernel)) (by decide +kernel)
theorem lX5_224 : zMl 0 RX5 224 mX5_markNovice 1 := zMl_v wc_X5_markNovice wi_X5 ⟨by decide, by decide⟩ (by decide +kernel) (by decide) wlX5_224 wm_X5_markNovice ws_X5_markNovice
theorem wc_X5_markStranger : Cond.code mX5_markStranger.1 mX5_markStranger.2.1 mX5_markStranger.2.2.1 mX5_markStranger.2.2.2 ∈ z_all := z_in (List.mem_of_getElem? (i := 766) (by decide +kernel)) (by decide +kernel)
theorem wlX5_227 : Cond.methodLink RX5 227 yX5_markStranger ∈ z_all := z_in (List.mem_of_getElem? (i := 763) (by decide +kernel)) (by decide +kernel)
theorem wm_X5_markStranger : Cond.instanceMethod yX5_markStranger ∈ z_all := z_in (List.mem_of_getElem? (i := 765) (by decide +kernel)) (by decide +kernel)
theorem ws_X5_markStranger : Cond.selects RX5 yX5_markStranger yX5_markStranger ∈ z_all := z_in (List.mem_of_getElem? (i := 27) (by decide +kernel)) (by decide +kernel)
theorem lX5_227 : zMl 0 RX5 227 mX5_markStranger 1 := zMl_v wc_X5_markStranger wi_X5 ⟨by decide, by decide⟩ (by decide +kernel) (by decide) wlX5_227 wm_X5_markStranger ws_X5_markStranger
theorem cX5_230 : Cond.constantLong RX5 230 (10) ∈ z_all := z_in (List.mem_of_getElem? (i := 742) (by decide +kernel)) (by decide +kernel)
theorem cX5_232 : Cond.constantLong RX5 232 (100) ∈ z_all := z_in (List.mem_of_getElem? (i := 747) (by decide +kernel)) (by decide +kernel)
theorem wc_X2_busyHours : Cond.code mX2_busyHours.1 mX2_busyHours.2.1 mX2_busyHours.2.2.1 mX2_busyHours.2.2.2 ∈ z_all := z_in (List.mem_of_getElem? (i := 751) (by decide +kernel)) (by decide +kernel)
theorem wlX5_234 : Cond.methodLink RX5 234 yX2_busyHours ∈ z_all := z_in (List.mem_of_getElem? (i := 748) (by decide +kernel)) (by decide +kernel)
theorem wm_X2_busyHours : Cond.instanceMethod yX2_busyHours ∈ z_all := z_in (List.mem_of_getElem? (i := 749) (by decide +kernel)) (by decide +kernel)
theorem ws_X2_busyHours : Cond.selects RX2 yX2_busyHours yX2_busyHours ∈ z_all := z_in (List.mem_of_getElem? (i := 750) (by decide +kernel)) (by decide +kernel)
theorem lX5_234 : zMl 0 RX5 234 mX2_busyHours 1 := zMl_v wc_X2_busyHours wi_X2 ⟨by decide, by decide⟩ (by decide +kernel) (by decide) wlX5_234 wm_X2_busyHours ws_X2_busyHours
theorem cX5_237 : Cond.constantLong RX5 237 (1000) ∈ z_all := z_in (List.mem_of_getElem? (i := 757) (by decide +kernel)) (by decide +kernel)
theorem cX5_239 : Cond.constantLong RX5 239 (10000) ∈ z_all := z_in (List.mem_of_getElem? (i := 762) (by decide +kernel)) (by decide +kernel)
theorem cX5_241 : Cond.constantLong RX5 241 (100000) ∈ z_all := z_in (List.mem_of_getElem? (i := 767) (by decide +kernel)) (by decide +kernel)
theorem wlX5_243 : Cond.methodLink RX5 243 yX2_way ∈ z_all := z_in (List.mem_of_getElem? (i := 768) (by decide +kernel)) (by decide +kernel)
theorem lX5_243 : zMl 0 RX5 243 mX2_way 2 := zMl_v wc_X2_way wi_X2 ⟨by decide, by decide⟩ (by decide +kernel) (by decide) wlX5_243 wm_X2_way ws_X2_way
theorem wc_X3_copy : Cond.code mX3_copy.1 mX3_copy.2.1 mX3_copy.2.2.1 mX3_copy.2.2.2 ∈ z_all := z_in (List.mem_of_getElem? (i := 776) (by decide +kernel)) (by decide +kernel)
theorem wlX5_246 : Cond.methodLink RX5 246 yX3_copy ∈ z_all := z_in (List.mem_of_getElem? (i := 773) (by decide +kernel)) (by decide +kernel)
theorem wm_X3_copy : Cond.instanceMethod yX3_copy ∈ z_all := z_in (List.mem_of_getElem? (i := 774) (by decide +kernel)) (by decide +kernel)
theorem ws_X3_copy : Cond.selects RX3 yX3_copy yX3_copy ∈ z_all := z_in (List.mem_of_getElem? (i := 775) (by decide +kernel)) (by decide +kernel)
theorem lX5_246 : zMl 0 RX5 246 mX3_copy 1 := zMl_v wc_X3_copy wi_X3 ⟨by decide, by decide⟩ (by decide +kernel) (by decide) wlX5_246 wm_X3_copy ws_X3_copy
theorem fX5_250 : zFl RX5 250 1 1 := ⟨(RX2, TX2, 10), rfl, by decide, z_in (List.mem_of_getElem? (i := 125) (by decide +kernel)) (by decide +kernel)⟩
theorem fX5_253 : zFl RX5 253 1 3 := ⟨(RX2, TX2, 10), rfl, by decide, z_in (List.mem_of_getElem? (i := 133) (by decide +kernel)) (by decide +kernel)⟩
theorem fX5_256 : zFl RX5 256 1 4 := ⟨(RX2, TX2, 10), rfl, by decide, z_in (List.mem_of_getElem? (i := 138) (by decide +kernel)) (by decide +kernel)⟩
theorem fX6_7 : zFl RX6 7 5 1 := ⟨(RX6, TX6, 36), rfl, by decide, z_in (List.mem_of_getElem? (i := 803) (by decide +kernel)) (by decide +kernel)⟩
theorem fX6_13 : zFl RX6 13 5 3 := ⟨(RX6, TX6, 36), rfl, by decide, z_in (List.mem_of_getElem? (i := 805) (by decide +kernel)) (by decide +kernel)⟩
theorem fX6_17 : zFl RX6 17 5 4 := ⟨(RX6, TX6, 36), rfl, by decide, z_in (List.mem_of_getElem? (i := 806) (by decide +kernel)) (by decide +kernel)⟩
theorem fX6_20 : zFl RX6 20 5 5 := ⟨(RX6, TX6, 36), rfl, by decide, z_in (List.mem_of_getElem? (i := 807) (by decide +kernel)) (by decide +kernel)⟩
theorem fX6_23 : zFl RX6 23 5 6 := ⟨(RX6, TX6, 36), rfl, by decide, z_in (List.mem_of_getElem? (i := 808) (by decide +kernel)) (by decide +kernel)⟩
theorem fX6_26 : zFl RX6 26 5 7 := ⟨(RX6, TX6, 36), rfl, by decide, z_in (List.mem_of_getElem? (i := 809) (by decide +kernel)) (by decide +kernel)⟩
theorem fX6_29 : zFl RX6 29 5 8 := ⟨(RX6, TX6, 36), rfl, by decide, z_in (List.mem_of_getElem? (i := 810) (by decide +kernel)) (by decide +kernel)⟩
theorem fX6_32 : zFl RX6 32 5 9 := ⟨(RX6, TX6, 36), rfl, by decide, z_in (List.mem_of_getElem? (i := 811) (by decide +kernel)) (by decide +kernel)⟩
theorem fX6_35 : zFl RX6 35 5 10 := ⟨(RX6, TX6, 36), rfl, by decide, z_in (List.mem_of_getElem? (i := 812) (by decide +kernel)) (by decide +kernel)⟩
theorem fX6_38 : zFl RX6 38 5 11 := ⟨(RX6, TX6, 36), rfl, by decide, z_in (List.mem_of_getElem? (i := 813) (by decide +kernel)) (by decide +kernel)⟩
theorem fX6_41 : zFl RX6 41 5 12 := ⟨(RX6, TX6, 36), rfl, by decide, z_in (List.mem_of_getElem? (i := 814) (by decide +kernel)) (by decide +kernel)⟩
theorem fX6_44 : zFl RX6 44 5 19 := ⟨(RX6, TX6, 36), rfl, by decide, z_in (List.mem_of_getElem? (i := 821) (by decide +kernel)) (by decide +kernel)⟩
theorem fX6_47 : zFl RX6 47 5 20 := ⟨(RX6, TX6, 36), rfl, by decide, z_in (List.mem_of_getElem? (i := 822) (by decide +kernel)) (by decide +kernel)⟩
theorem fX6_51 : zFl RX6 51 5 21 := ⟨(RX6, TX6, 36), rfl, by decide, z_in (List.mem_of_getElem? (i := 823) (by decide +kernel)) (by decide +kernel)⟩
theorem fX6_54 : zFl RX6 54 5 22 := ⟨(RX6, TX6, 36), rfl, by decide, z_in (List.mem_of_getElem? (i := 824) (by decide +kernel)) (by decide +kernel)⟩
theorem fX6_57 : zFl RX6 57 5 23 := ⟨(RX6, TX6, 36), rfl, by decide, z_in (List.mem_of_getElem? (i := 825) (by decide +kernel)) (by decide +kernel)⟩
theorem fX6_60 : zFl RX6 60 5 24 := ⟨(RX6, TX6, 36), rfl, by decide, z_in (List.mem_of_getElem? (i := 826) (by decide +kernel)) (by decide +kernel)⟩
theorem fX6_63 : zFl RX6 63 5 25 := ⟨(RX6, TX6, 36), rfl, by decide, z_in (List.mem_of_getElem? (i := 827) (by decide +kernel)) (by decide +kernel)⟩
theorem fX6_66 : zFl RX6 66 5 26 := ⟨(RX6, TX6, 36), rfl, by decide, z_in (List.mem_of_getElem? (i := 828) (by decide +kernel)) (by decide +kernel)⟩
theorem fX6_69 : zFl RX6 69 5 27 := ⟨(RX6, TX6, 36), rfl, by decide, z_in (List.mem_of_getElem? (i := 829) (by decide +kernel)) (by decide +kernel)⟩
theorem fX6_72 : zFl RX6 72 5 28 := ⟨(RX6, TX6, 36), rfl, by decide, z_in (List.mem_of_getElem? (i := 830) (by decide +kernel)) (by decide +kernel)⟩
theorem fX6_75 : zFl RX6 75 5 29 := ⟨(RX6, TX6, 36), rfl, by decide, z_in (List.mem_of_getElem? (i := 831) (by decide +kernel)) (by decide +kernel)⟩
theorem fX6_78 : zFl RX6 78 5 34 := ⟨(RX6, TX6, 36), rfl, by decide, z_in (List.mem_of_getElem? (i := 836) (by decide +kernel)) (by decide +kernel)⟩
theorem fX6_81 : zFl RX6 81 5 35 := ⟨(RX6, TX6, 36), rfl, by decide, z_in (List.mem_of_getElem? (i := 837) (by decide +kernel)) (by decide +kernel)⟩
theorem wc_X6_begin : Cond.code mX6_begin.1 mX6_begin.2.1 mX6_begin.2.2.1 mX6_begin.2.2.2 ∈ z_all := z_in (List.mem_of_getElem? (i := 801) (by decide +kernel)) (by decide +kernel)
theorem wi_X6 : Cond.initialized RX6 ∈ z_all := z_in (List.mem_of_getElem? (i := 65) (by decide +kernel)) (by decide +kernel)
theorem wlX6_84 : Cond.methodLink RX6 84 yX6_begin ∈ z_all := z_in (List.mem_of_getElem? (i := 798) (by decide +kernel)) (by decide +kernel)
theorem wm_X6_begin : Cond.instanceMethod yX6_begin ∈ z_all := z_in (List.mem_of_getElem? (i := 800) (by decide +kernel)) (by decide +kernel)
theorem ws_X6_begin : Cond.selects RX6 yX6_begin yX6_begin ∈ z_all := z_in (List.mem_of_getElem? (i := 28) (by decide +kernel)) (by decide +kernel)
theorem lX6_84 : zMl 0 RX6 84 mX6_begin 0 := zMl_v wc_X6_begin wi_X6 ⟨by decide, by decide⟩ (by decide +kernel) (by decide) wlX6_84 wm_X6_begin ws_X6_begin
theorem wc_X6_in : Cond.code mX6_in.1 mX6_in.2.1 mX6_in.2.2.1 mX6_in.2.2.2 ∈ z_all := z_in (List.mem_of_getElem? (i := 917) (by decide +kernel)) (by decide +kernel)
theorem wlX6_87 : Cond.methodLink RX6 87 yX6_in ∈ z_all := z_in (List.mem_of_getElem? (i := 915) (by decide +kernel)) (by decide +kernel)
theorem wt_X6_in : Cond.static yX6_in ∈ z_all := z_in (List.mem_of_getElem? (i := 916) (by decide +kernel)) (by decide +kernel)
theorem lX6_87 : zMl 1 RX6 87 mX6_in 3 := zMl_s wc_X6_in wi_X6 ⟨by decide, by decide⟩ (by decide +kernel) (by decide) wlX6_87 wt_X6_in
theorem fX6_91 : zFl RX6 91 5 2 := ⟨(RX6, TX6, 36), rfl, by decide, z_in (List.mem_of_getElem? (i := 804) (by decide +kernel)) (by decide +kernel)⟩
theorem cX6_95 : Cond.constantLong RX6 95 (255) ∈ z_all := z_in (List.mem_of_getElem? (i := 918) (by decide +kernel)) (by decide +kernel)
theorem fX6_97 : zFl RX6 97 5 13 := ⟨(RX6, TX6, 36), rfl, by decide, z_in (List.mem_of_getElem? (i := 815) (by decide +kernel)) (by decide +kernel)⟩
theorem wc_X6_here : Cond.code mX6_here.1 mX6_here.2.1 mX6_here.2.2.1 mX6_here.2.2.2 ∈ z_all := z_in (List.mem_of_getElem? (i := 934) (by decide +kernel)) (by decide +kernel)
theorem wlX6_100 : Cond.methodLink RX6 100 yX6_here ∈ z_all := z_in (List.mem_of_getElem? (i := 931) (by decide +kernel)) (by decide +kernel)
theorem wm_X6_here : Cond.instanceMethod yX6_here ∈ z_all := z_in (List.mem_of_getElem? (i := 933) (by decide +kernel)) (by decide +kernel)
theorem ws_X6_here : Cond.selects RX6 yX6_here yX6_here ∈ z_all := z_in (List.mem_of_getElem? (i := 30) (by decide +kernel)) (by decide +kernel)
theorem lX6_100 : zMl 0 RX6 100 mX6_here 0 := zMl_v wc_X6_here wi_X6 ⟨by decide, by decide⟩ (by decide +kernel) (by decide) wlX6_100 wm_X6_here ws_X6_here
theorem fX6_104 : zFl RX6 104 5 14 := ⟨(RX6, TX6, 36), rfl, by decide, z_in (List.mem_of_getElem? (i := 816) (by decide +kernel)) (by decide +kernel)⟩
theorem fX6_107 : zFl RX6 107 5 16 := ⟨(RX6, TX6, 36), rfl, by decide, z_in (List.mem_of_getElem? (i := 818) (by decide +kernel)) (by decide +kernel)⟩
theorem fX6_110 : zFl RX6 110 5 15 := ⟨(RX6, TX6, 36), rfl, by decide, z_in (List.mem_of_getElem? (i := 817) (by decide +kernel)) (by decide +kernel)⟩
theorem wc_X6_meaning : Cond.code mX6_meaning.1 mX6_meaning.2.1 mX6_meaning.2.2.1 mX6_meaning.2.2.2 ∈ z_all := z_in (List.mem_of_getElem? (i := 937) (by decide +kernel)) (by decide +kernel)
theorem wlX6_113 : Cond.methodLink RX6 113 yX6_meaning ∈ z_all := z_in (List.mem_of_getElem? (i := 935) (by decide +kernel)) (by decide +kernel)
theorem wt_X6_meaning : Cond.static yX6_meaning ∈ z_all := z_in (List.mem_of_getElem? (i := 936) (by decide +kernel)) (by decide +kernel)
theorem lX6_113 : zMl 1 RX6 113 mX6_meaning 1 := zMl_s wc_X6_meaning wi_X6 ⟨by decide, by decide⟩ (by decide +kernel) (by decide) wlX6_113 wt_X6_meaning
theorem fX6_117 : zFl RX6 117 5 17 := ⟨(RX6, TX6, 36), rfl, by decide, z_in (List.mem_of_getElem? (i := 819) (by decide +kernel)) (by decide +kernel)⟩
theorem wc_X6_next : Cond.code mX6_next.1 mX6_next.2.1 mX6_next.2.2.1 mX6_next.2.2.2 ∈ z_all := z_in (List.mem_of_getElem? (i := 930) (by decide +kernel)) (by decide +kernel)
theorem wlX6_120 : Cond.methodLink RX6 120 yX6_next ∈ z_all := z_in (List.mem_of_getElem? (i := 927) (by decide +kernel)) (by decide +kernel)
theorem wm_X6_next : Cond.instanceMethod yX6_next ∈ z_all := z_in (List.mem_of_getElem? (i := 929) (by decide +kernel)) (by decide +kernel)
theorem ws_X6_next : Cond.selects RX6 yX6_next yX6_next ∈ z_all := z_in (List.mem_of_getElem? (i := 29) (by decide +kernel)) (by decide +kernel)
theorem lX6_120 : zMl 0 RX6 120 mX6_next 0 := zMl_v wc_X6_next wi_X6 ⟨by decide, by decide⟩ (by decide +kernel) (by decide) wlX6_120 wm_X6_next ws_X6_next
theorem wc_X6_due : Cond.code mX6_due.1 mX6_due.2.1 mX6_due.2.2.1 mX6_due.2.2.2 ∈ z_all := z_in (List.mem_of_getElem? (i := 945) (by decide +kernel)) (by decide +kernel)
theorem wlX6_123 : Cond.methodLink RX6 123 yX6_due ∈ z_all := z_in (List.mem_of_getElem? (i := 942) (by decide +kernel)) (by decide +kernel)
theorem wm_X6_due : Cond.instanceMethod yX6_due ∈ z_all := z_in (List.mem_of_getElem? (i := 944) (by decide +kernel)) (by decide +kernel)
theorem ws_X6_due : Cond.selects RX6 yX6_due yX6_due ∈ z_all := z_in (List.mem_of_getElem? (i := 32) (by decide +kernel)) (by decide +kernel)
theorem lX6_123 : zMl 0 RX6 123 mX6_due 1 := zMl_v wc_X6_due wi_X6 ⟨by decide, by decide⟩ (by decide +kernel) (by decide) wlX6_123 wm_X6_due ws_X6_due
theorem fX6_127 : zFl RX6 127 5 18 := ⟨(RX6, TX6, 36), rfl, by decide, z_in (List.mem_of_getElem? (i := 820) (by decide +kernel)) (by decide +kernel)⟩
theorem wc_X6_number : Cond.code mX6_number.1 mX6_number.2.1 mX6_number.2.2.1 mX6_number.2.2.2 ∈ z_all := z_in (List.mem_of_getElem? (i := 949) (by decide +kernel)) (by decide +kernel)
theorem wlX6_130 : Cond.methodLink RX6 130 yX6_number ∈ z_all := z_in (List.mem_of_getElem? (i := 946) (by decide +kernel)) (by decide +kernel)
theorem wm_X6_number : Cond.instanceMethod yX6_number ∈ z_all := z_in (List.mem_of_getElem? (i := 948) (by decide +kernel)) (by decide +kernel)
theorem ws_X6_number : Cond.selects RX6 yX6_number yX6_number ∈ z_all := z_in (List.mem_of_getElem? (i := 33) (by decide +kernel)) (by decide +kernel)
theorem lX6_130 : zMl 0 RX6 130 mX6_number 2 := zMl_v wc_X6_number wi_X6 ⟨by decide, by decide⟩ (by decide +kernel) (by decide) wlX6_130 wm_X6_number ws_X6_number
theorem wc_X6_readItem : Cond.code mX6_readItem.1 mX6_readItem.2.1 mX6_readItem.2.2.1 mX6_readItem.2.2.2 ∈ z_all := z_in (List.mem_of_getElem? (i := 941) (by decide +kernel)) (by decide +kernel)
theorem wlX6_134 : Cond.methodLink RX6 134 yX6_readItem ∈ z_all := z_in (List.mem_of_getElem? (i := 938) (by decide +kernel)) (by decide +kernel)
theorem wm_X6_readItem : Cond.instanceMethod yX6_readItem ∈ z_all := z_in (List.mem_of_getElem? (i := 940) (by decide +kernel)) (by decide +kernel)
theorem ws_X6_readItem : Cond.selects RX6 yX6_readItem yX6_readItem ∈ z_all := z_in (List.mem_of_getElem? (i := 31) (by decide +kernel)) (by decide +kernel)
theorem lX6_134 : zMl 0 RX6 134 mX6_readItem 0 := zMl_v wc_X6_readItem wi_X6 ⟨by decide, by decide⟩ (by decide +kernel) (by decide) wlX6_134 wm_X6_readItem ws_X6_readItem
theorem wc_X6_isHour : Cond.code mX6_isHour.1 mX6_isHour.2.1 mX6_isHour.2.2.1 mX6_isHour.2.2.2 ∈ z_all := z_in (List.mem_of_getElem? (i := 973) (by decide +kernel)) (by decide +kernel)
theorem wlX6_137 : Cond.methodLink RX6 137 yX6_isHour ∈ z_all := z_in (List.mem_of_getElem? (i := 970) (by decide +kernel)) (by decide +kernel)
theorem wm_X6_isHour : Cond.instanceMethod yX6_isHour ∈ z_all := z_in (List.mem_of_getElem? (i := 972) (by decide +kernel)) (by decide +kernel)
theorem ws_X6_isHour : Cond.selects RX6 yX6_isHour yX6_isHour ∈ z_all := z_in (List.mem_of_getElem? (i := 37) (by decide +kernel)) (by decide +kernel)
theorem lX6_137 : zMl 0 RX6 137 mX6_isHour 1 := zMl_v wc_X6_isHour wi_X6 ⟨by decide, by decide⟩ (by decide +kernel) (by decide) wlX6_137 wm_X6_isHour ws_X6_isHour
theorem wc_X6_bellOf : Cond.code mX6_bellOf.1 mX6_bellOf.2.1 mX6_bellOf.2.2.1 mX6_bellOf.2.2.2 ∈ z_all := z_in (List.mem_of_getElem? (i := 965) (by decide +kernel)) (by decide +kernel)
theorem wlX6_141 : Cond.methodLink RX6 141 yX6_bellOf ∈ z_all := z_in (List.mem_of_getElem? (i := 962) (by decide +kernel)) (by decide +kernel)
theorem wm_X6_bellOf : Cond.instanceMethod yX6_bellOf ∈ z_all := z_in (List.mem_of_getElem? (i := 964) (by decide +kernel)) (by decide +kernel)
theorem ws_X6_bellOf : Cond.selects RX6 yX6_bellOf yX6_bellOf ∈ z_all := z_in (List.mem_of_getElem? (i := 36) (by decide +kernel)) (by decide +kernel)
theorem lX6_141 : zMl 0 RX6 141 mX6_bellOf 2 := zMl_v wc_X6_bellOf wi_X6 ⟨by decide, by decide⟩ (by decide +kernel) (by decide) wlX6_141 wm_X6_bellOf ws_X6_bellOf
theorem wc_X6_inRota : Cond.code mX6_inRota.1 mX6_inRota.2.1 mX6_inRota.2.2.1 mX6_inRota.2.2.2 ∈ z_all := z_in (List.mem_of_getElem? (i := 977) (by decide +kernel)) (by decide +kernel)
theorem wlX6_144 : Cond.methodLink RX6 144 yX6_inRota ∈ z_all := z_in (List.mem_of_getElem? (i := 974) (by decide +kernel)) (by decide +kernel)
theorem wm_X6_inRota : Cond.instanceMethod yX6_inRota ∈ z_all := z_in (List.mem_of_getElem? (i := 976) (by decide +kernel)) (by decide +kernel)
theorem ws_X6_inRota : Cond.selects RX6 yX6_inRota yX6_inRota ∈ z_all := z_in (List.mem_of_getElem? (i := 38) (by decide +kernel)) (by decide +kernel)
theorem lX6_144 : zMl 0 RX6 144 mX6_inRota 1 := zMl_v wc_X6_inRota wi_X6 ⟨by decide, by decide⟩ (by decide +kernel) (by decide) wlX6_144 wm_X6_inRota ws_X6_inRota
theorem wc_X6_timesOf : Cond.code mX6_timesOf.1 mX6_timesOf.2.1 mX6_timesOf.2.2.1 mX6_timesOf.2.2.2 ∈ z_all := z_in (List.mem_of_getElem? (i := 961) (by decide +kernel)) (by decide +kernel)
theorem wlX6_147 : Cond.methodLink RX6 147 yX6_timesOf ∈ z_all := z_in (List.mem_of_getElem? (i := 958) (by decide +kernel)) (by decide +kernel)
theorem wm_X6_timesOf : Cond.instanceMethod yX6_timesOf ∈ z_all := z_in (List.mem_of_getElem? (i := 960) (by decide +kernel)) (by decide +kernel)
theorem ws_X6_timesOf : Cond.selects RX6 yX6_timesOf yX6_timesOf ∈ z_all := z_in (List.mem_of_getElem? (i := 35) (by decide +kernel)) (by decide +kernel)
theorem lX6_147 : zMl 0 RX6 147 mX6_timesOf 1 := zMl_v wc_X6_timesOf wi_X6 ⟨by decide, by decide⟩ (by decide +kernel) (by decide) wlX6_147 wm_X6_timesOf ws_X6_timesOf
theorem wc_X6_wayOf : Cond.code mX6_wayOf.1 mX6_wayOf.2.1 mX6_wayOf.2.2.1 mX6_wayOf.2.2.2 ∈ z_all := z_in (List.mem_of_getElem? (i := 1029) (by decide +kernel)) (by decide +kernel)
theorem wlX6_150 : Cond.methodLink RX6 150 yX6_wayOf ∈ z_all := z_in (List.mem_of_getElem? (i := 1026) (by decide +kernel)) (by decide +kernel)
theorem wm_X6_wayOf : Cond.instanceMethod yX6_wayOf ∈ z_all := z_in (List.mem_of_getElem? (i := 1028) (by decide +kernel)) (by decide +kernel)
theorem ws_X6_wayOf : Cond.selects RX6 yX6_wayOf yX6_wayOf ∈ z_all := z_in (List.mem_of_getElem? (i := 46) (by decide +kernel)) (by decide +kernel)
theorem lX6_150 : zMl 0 RX6 150 mX6_wayOf 2 := zMl_v wc_X6_wayOf wi_X6 ⟨by decide, by decide⟩ (by decide +kernel) (by decide) wlX6_150 wm_X6_wayOf ws_X6_wayOf
theorem wc_X6_isRinger : Cond.code mX6_isRinger.1 mX6_isRinger.2.1 mX6_isRinger.2.2.1 mX6_isRinger.2.2.2 ∈ z_all := z_in (List.mem_of_getElem? (i := 957) (by decide +kernel)) (by decide +kernel)
theorem wlX6_153 : Cond.methodLink RX6 153 yX6_isRinger ∈ z_all := z_in (List.mem_of_getElem? (i := 954) (by decide +kernel)) (by decide +kernel)
theorem wm_X6_isRinger : Cond.instanceMethod yX6_isRinger ∈ z_all := z_in (List.mem_of_getElem? (i := 956) (by decide +kernel)) (by decide +kernel)
theorem ws_X6_isRinger : Cond.selects RX6 yX6_isRinger yX6_isRinger ∈ z_all := z_in (List.mem_of_getElem? (i := 34) (by decide +kernel)) (by decide +kernel)
theorem lX6_153 : zMl 0 RX6 153 mX6_isRinger 1 := zMl_v wc_X6_isRinger wi_X6 ⟨by decide, by decide⟩ (by decide +kernel) (by decide) wlX6_153 wm_X6_isRinger ws_X6_isRinger
theorem wc_X6_isBusy : Cond.code mX6_isBusy.1 mX6_isBusy.2.1 mX6_isBusy.2.2.1 mX6_isBusy.2.2.2 ∈ z_all := z_in (List.mem_of_getElem? (i := 993) (by decide +kernel)) (by decide +kernel)
theorem wlX6_156 : Cond.methodLink RX6 156 yX6_isBusy ∈ z_all := z_in (List.mem_of_getElem? (i := 990) (by decide +kernel)) (by decide +kernel)
theorem wm_X6_isBusy : Cond.instanceMethod yX6_isBusy ∈ z_all := z_in (List.mem_of_getElem? (i := 992) (by decide +kernel)) (by decide +kernel)
theorem ws_X6_isBusy : Cond.selects RX6 yX6_isBusy yX6_isBusy ∈ z_all := z_in (List.mem_of_getElem? (i := 41) (by decide +kernel)) (by decide +kernel)
theorem lX6_156 : zMl 0 RX6 156 mX6_isBusy 2 := zMl_v wc_X6_isBusy wi_X6 ⟨by decide, by decide⟩ (by decide +kernel) (by decide) wlX6_156 wm_X6_isBusy ws_X6_isBusy
theorem wc_X6_isWanted : Cond.code mX6_isWanted.1 mX6_isWanted.2.1 mX6_isWanted.2.2.1 mX6_isWanted.2.2.2 ∈ z_all := z_in (List.mem_of_getElem? (i := 985) (by decide +kernel)) (by decide +kernel)
theorem wlX6_160 : Cond.methodLink RX6 160 yX6_isWanted ∈ z_all := z_in (List.mem_of_getElem? (i := 982) (by decide +kernel)) (by decide +kernel)
theorem wm_X6_isWanted : Cond.instanceMethod yX6_isWanted ∈ z_all := z_in (List.mem_of_getElem? (i := 984) (by decide +kernel)) (by decide +kernel)
theorem ws_X6_isWanted : Cond.selects RX6 yX6_isWanted yX6_isWanted ∈ z_all := z_in (List.mem_of_getElem? (i := 39) (by decide +kernel)) (by decide +kernel)
theorem lX6_160 : zMl 0 RX6 160 mX6_isWanted 2 := zMl_v wc_X6_isWanted wi_X6 ⟨by decide, by decide⟩ (by decide +kernel) (by decide) wlX6_160 wm_X6_isWanted ws_X6_isWanted
theorem wc_X6_isLawful : Cond.code mX6_isLawful.1 mX6_isLawful.2.1 mX6_isLawful.2.2.1 mX6_isLawful.2.2.2 ∈ z_all := z_in (List.mem_of_getElem? (i := 989) (by decide +kernel)) (by decide +kernel)
theorem wlX6_163 : Cond.methodLink RX6 163 yX6_isLawful ∈ z_all := z_in (List.mem_of_getElem? (i := 986) (by decide +kernel)) (by decide +kernel)
theorem wm_X6_isLawful : Cond.instanceMethod yX6_isLawful ∈ z_all := z_in (List.mem_of_getElem? (i := 988) (by decide +kernel)) (by decide +kernel)
theorem ws_X6_isLawful : Cond.selects RX6 yX6_isLawful yX6_isLawful ∈ z_all := z_in (List.mem_of_getElem? (i := 40) (by decide +kernel)) (by decide +kernel)
theorem lX6_163 : zMl 0 RX6 163 mX6_isLawful 1 := zMl_v wc_X6_isLawful wi_X6 ⟨by decide, by decide⟩ (by decide +kernel) (by decide) wlX6_163 wm_X6_isLawful ws_X6_isLawful
theorem wc_X6_allInRota : Cond.code mX6_allInRota.1 mX6_allInRota.2.1 mX6_allInRota.2.2.1 mX6_allInRota.2.2.2 ∈ z_all := z_in (List.mem_of_getElem? (i := 997) (by decide +kernel)) (by decide +kernel)
theorem wlX6_166 : Cond.methodLink RX6 166 yX6_allInRota ∈ z_all := z_in (List.mem_of_getElem? (i := 994) (by decide +kernel)) (by decide +kernel)
theorem wm_X6_allInRota : Cond.instanceMethod yX6_allInRota ∈ z_all := z_in (List.mem_of_getElem? (i := 996) (by decide +kernel)) (by decide +kernel)
theorem ws_X6_allInRota : Cond.selects RX6 yX6_allInRota yX6_allInRota ∈ z_all := z_in (List.mem_of_getElem? (i := 42) (by decide +kernel)) (by decide +kernel)
theorem lX6_166 : zMl 0 RX6 166 mX6_allInRota 0 := zMl_v wc_X6_allInRota wi_X6 ⟨by decide, by decide⟩ (by decide +kernel) (by decide) wlX6_166 wm_X6_allInRota ws_X6_allInRota
theorem wc_X6_change : Cond.code mX6_change.1 mX6_change.2.1 mX6_change.2.2.1 mX6_change.2.2.2 ∈ z_all := z_in (List.mem_of_getElem? (i := 1013) (by decide +kernel)) (by decide +kernel)
theorem wlX6_169 : Cond.methodLink RX6 169 yX6_change ∈ z_all := z_in (List.mem_of_getElem? (i := 1010) (by decide +kernel)) (by decide +kernel)
theorem wm_X6_change : Cond.instanceMethod yX6_change ∈ z_all := z_in (List.mem_of_getElem? (i := 1012) (by decide +kernel)) (by decide +kernel)
theorem ws_X6_change : Cond.selects RX6 yX6_change yX6_change ∈ z_all := z_in (List.mem_of_getElem? (i := 43) (by decide +kernel)) (by decide +kernel)
theorem lX6_169 : zMl 0 RX6 169 mX6_change 2 := zMl_v wc_X6_change wi_X6 ⟨by decide, by decide⟩ (by decide +kernel) (by decide) wlX6_169 wm_X6_change ws_X6_change
theorem wc_X6_allWanted : Cond.code mX6_allWanted.1 mX6_allWanted.2.1 mX6_allWanted.2.2.1 mX6_allWanted.2.2.2 ∈ z_all := z_in (List.mem_of_getElem? (i := 1021) (by decide +kernel)) (by decide +kernel)
theorem wlX6_173 : Cond.methodLink RX6 173 yX6_allWanted ∈ z_all := z_in (List.mem_of_getElem? (i := 1018) (by decide +kernel)) (by decide +kernel)
theorem wm_X6_allWanted : Cond.instanceMethod yX6_allWanted ∈ z_all := z_in (List.mem_of_getElem? (i := 1020) (by decide +kernel)) (by decide +kernel)
theorem ws_X6_allWanted : Cond.selects RX6 yX6_allWanted yX6_allWanted ∈ z_all := z_in (List.mem_of_getElem? (i := 44) (by decide +kernel)) (by decide +kernel)
theorem lX6_173 : zMl 0 RX6 173 mX6_allWanted 0 := zMl_v wc_X6_allWanted wi_X6 ⟨by decide, by decide⟩ (by decide +kernel) (by decide) wlX6_173 wm_X6_allWanted ws_X6_allWanted
theorem wc_X6_walkTo : Cond.code mX6_walkTo.1 mX6_walkTo.2.1 mX6_walkTo.2.2.1 mX6_walkTo.2.2.2 ∈ z_all := z_in (List.mem_of_getElem? (i := 1025) (by decide +kernel)) (by decide +kernel)
theorem wlX6_176 : Cond.methodLink RX6 176 yX6_walkTo ∈ z_all := z_in (List.mem_of_getElem? (i := 1022) (by decide +kernel)) (by decide +kernel)
theorem wm_X6_walkTo : Cond.instanceMethod yX6_walkTo ∈ z_all := z_in (List.mem_of_getElem? (i := 1024) (by decide +kernel)) (by decide +kernel)
theorem ws_X6_walkTo : Cond.selects RX6 yX6_walkTo yX6_walkTo ∈ z_all := z_in (List.mem_of_getElem? (i := 45) (by decide +kernel)) (by decide +kernel)
theorem lX6_176 : zMl 0 RX6 176 mX6_walkTo 1 := zMl_v wc_X6_walkTo wi_X6 ⟨by decide, by decide⟩ (by decide +kernel) (by decide) wlX6_176 wm_X6_walkTo ws_X6_walkTo
theorem wc_X6_bitsIn : Cond.code mX6_bitsIn.1 mX6_bitsIn.2.1 mX6_bitsIn.2.2.1 mX6_bitsIn.2.2.2 ∈ z_all := z_in (List.mem_of_getElem? (i := 1044) (by decide +kernel)) (by decide +kernel)
theorem wlX6_179 : Cond.methodLink RX6 179 yX6_bitsIn ∈ z_all := z_in (List.mem_of_getElem? (i := 1042) (by decide +kernel)) (by decide +kernel)
theorem wt_X6_bitsIn : Cond.static yX6_bitsIn ∈ z_all := z_in (List.mem_of_getElem? (i := 1043) (by decide +kernel)) (by decide +kernel)
theorem lX6_179 : zMl 1 RX6 179 mX6_bitsIn 1 := zMl_s wc_X6_bitsIn wi_X6 ⟨by decide, by decide⟩ (by decide +kernel) (by decide) wlX6_179 wt_X6_bitsIn
theorem wc_X6_wayToRing : Cond.code mX6_wayToRing.1 mX6_wayToRing.2.1 mX6_wayToRing.2.2.1 mX6_wayToRing.2.2.2 ∈ z_all := z_in (List.mem_of_getElem? (i := 1048) (by decide +kernel)) (by decide +kernel)
theorem wlX6_182 : Cond.methodLink RX6 182 yX6_wayToRing ∈ z_all := z_in (List.mem_of_getElem? (i := 1045) (by decide +kernel)) (by decide +kernel)
theorem wm_X6_wayToRing : Cond.instanceMethod yX6_wayToRing ∈ z_all := z_in (List.mem_of_getElem? (i := 1047) (by decide +kernel)) (by decide +kernel)
theorem ws_X6_wayToRing : Cond.selects RX6 yX6_wayToRing yX6_wayToRing ∈ z_all := z_in (List.mem_of_getElem? (i := 48) (by decide +kernel)) (by decide +kernel)
theorem lX6_182 : zMl 0 RX6 182 mX6_wayToRing 2 := zMl_v wc_X6_wayToRing wi_X6 ⟨by decide, by decide⟩ (by decide +kernel) (by decide) wlX6_182 wm_X6_wayToRing ws_X6_wayToRing
theorem wc_X6_findCrews : Cond.code mX6_findCrews.1 mX6_findCrews.2.1 mX6_findCrews.2.2.1 mX6_findCrews.2.2.2 ∈ z_all := z_in (List.mem_of_getElem? (i := 1041) (by decide +kernel)) (by decide +kernel)
theorem wlX6_185 : Cond.methodLink RX6 185 yX6_findCrews ∈ z_all := z_in (List.mem_of_getElem? (i := 1038) (by decide +kernel)) (by decide +kernel)
theorem wm_X6_findCrews : Cond.instanceMethod yX6_findCrews ∈ z_all := z_in (List.mem_of_getElem? (i := 1040) (by decide +kernel)) (by decide +kernel)
theorem ws_X6_findCrews : Cond.selects RX6 yX6_findCrews yX6_findCrews ∈ z_all := z_in (List.mem_of_getElem? (i := 47) (by decide +kernel)) (by decide +kernel)
theorem lX6_185 : zMl 0 RX6 185 mX6_findCrews 0 := zMl_v wc_X6_findCrews wi_X6 ⟨by decide, by decide⟩ (by decide +kernel) (by decide) wlX6_185 wm_X6_findCrews ws_X6_findCrews
theorem fX6_188 : zFl RX6 188 5 30 := ⟨(RX6, TX6, 36), rfl, by decide, z_in (List.mem_of_getElem? (i := 832) (by decide +kernel)) (by decide +kernel)⟩
theorem fX6_191 : zFl RX6 191 5 32 := ⟨(RX6, TX6, 36), rfl, by decide, z_in (List.mem_of_getElem? (i := 834) (by decide +kernel)) (by decide +kernel)⟩
theorem fX6_194 : zFl RX6 194 5 33 := ⟨(RX6, TX6, 36), rfl, by decide, z_in (List.mem_of_getElem? (i := 835) (by decide +kernel)) (by decide +kernel)⟩
theorem fX6_197 : zFl RX6 197 5 31 := ⟨(RX6, TX6, 36), rfl, by decide, z_in (List.mem_of_getElem? (i := 833) (by decide +kernel)) (by decide +kernel)⟩
theorem wc_X6_isFirst : Cond.code mX6_isFirst.1 mX6_isFirst.2.1 mX6_isFirst.2.2.1 mX6_isFirst.2.2.2 ∈ z_all := z_in (List.mem_of_getElem? (i := 1088) (by decide +kernel)) (by decide +kernel)
theorem wlX6_200 : Cond.methodLink RX6 200 yX6_isFirst ∈ z_all := z_in (List.mem_of_getElem? (i := 1085) (by decide +kernel)) (by decide +kernel)
theorem wm_X6_isFirst : Cond.instanceMethod yX6_isFirst ∈ z_all := z_in (List.mem_of_getElem? (i := 1087) (by decide +kernel)) (by decide +kernel)
theorem ws_X6_isFirst : Cond.selects RX6 yX6_isFirst yX6_isFirst ∈ z_all := z_in (List.mem_of_getElem? (i := 56) (by decide +kernel)) (by decide +kernel)
theorem lX6_200 : zMl 0 RX6 200 mX6_isFirst 1 := zMl_v wc_X6_isFirst wi_X6 ⟨by decide, by decide⟩ (by decide +kernel) (by decide) wlX6_200 wm_X6_isFirst ws_X6_isFirst
theorem wc_X6_wantedFrom : Cond.code mX6_wantedFrom.1 mX6_wantedFrom.2.1 mX6_wantedFrom.2.2.1 mX6_wantedFrom.2.2.2 ∈ z_all := z_in (List.mem_of_getElem? (i := 1072) (by decide +kernel)) (by decide +kernel)
theorem wlX6_204 : Cond.methodLink RX6 204 yX6_wantedFrom ∈ z_all := z_in (List.mem_of_getElem? (i := 1069) (by decide +kernel)) (by decide +kernel)
theorem wm_X6_wantedFrom : Cond.instanceMethod yX6_wantedFrom ∈ z_all := z_in (List.mem_of_getElem? (i := 1071) (by decide +kernel)) (by decide +kernel)
theorem ws_X6_wantedFrom : Cond.selects RX6 yX6_wantedFrom yX6_wantedFrom ∈ z_all := z_in (List.mem_of_getElem? (i := 52) (by decide +kernel)) (by decide +kernel)
theorem lX6_204 : zMl 0 RX6 204 mX6_wantedFrom 1 := zMl_v wc_X6_wantedFrom wi_X6 ⟨by decide, by decide⟩ (by decide +kernel) (by decide) wlX6_204 wm_X6_wantedFrom ws_X6_wantedFrom
theorem wc_X6_mayFollow : Cond.code mX6_mayFollow.1 mX6_mayFollow.2.1 mX6_mayFollow.2.2.1 mX6_mayFollow.2.2.2 ∈ z_all := z_in (List.mem_of_getElem? (i := 1076) (by decide +kernel)) (by decide +kernel)
theorem wlX6_207 : Cond.methodLink RX6 207 yX6_mayFollow ∈ z_all := z_in (List.mem_of_getElem? (i := 1073) (by decide +kernel)) (by decide +kernel)
theorem wm_X6_mayFollow : Cond.instanceMethod yX6_mayFollow ∈ z_all := z_in (List.mem_of_getElem? (i := 1075) (by decide +kernel)) (by decide +kernel)
theorem ws_X6_mayFollow : Cond.selects RX6 yX6_mayFollow yX6_mayFollow ∈ z_all := z_in (List.mem_of_getElem? (i := 53) (by decide +kernel)) (by decide +kernel)
theorem lX6_207 : zMl 0 RX6 207 mX6_mayFollow 3 := zMl_v wc_X6_mayFollow wi_X6 ⟨by decide, by decide⟩ (by decide +kernel) (by decide) wlX6_207 wm_X6_mayFollow ws_X6_mayFollow
theorem wc_X6_follow : Cond.code mX6_follow.1 mX6_follow.2.1 mX6_follow.2.2.1 mX6_follow.2.2.2 ∈ z_all := z_in (List.mem_of_getElem? (i := 1080) (by decide +kernel)) (by decide +kernel)
theorem wlX6_210 : Cond.methodLink RX6 210 yX6_follow ∈ z_all := z_in (List.mem_of_getElem? (i := 1077) (by decide +kernel)) (by decide +kernel)
theorem wm_X6_follow : Cond.instanceMethod yX6_follow ∈ z_all := z_in (List.mem_of_getElem? (i := 1079) (by decide +kernel)) (by decide +kernel)
theorem ws_X6_follow : Cond.selects RX6 yX6_follow yX6_follow ∈ z_all := z_in (List.mem_of_getElem? (i := 54) (by decide +kernel)) (by decide +kernel)
theorem lX6_210 : zMl 0 RX6 210 mX6_follow 2 := zMl_v wc_X6_follow wi_X6 ⟨by decide, by decide⟩ (by decide +kernel) (by decide) wlX6_210 wm_X6_follow ws_X6_follow
theorem wc_X6_weigh : Cond.code mX6_weigh.1 mX6_weigh.2.1 mX6_weigh.2.2.1 mX6_weigh.2.2.2 ∈ z_all := z_in (List.mem_of_getElem? (i := 1084) (by decide +kernel)) (by decide +kernel)
theorem wlX6_213 : Cond.methodLink RX6 213 yX6_weigh ∈ z_all := z_in (List.mem_of_getElem? (i := 1081) (by decide +kernel)) (by decide +kernel)
theorem wm_X6_weigh : Cond.instanceMethod yX6_weigh ∈ z_all := z_in (List.mem_of_getElem? (i := 1083) (by decide +kernel)) (by decide +kernel)
theorem ws_X6_weigh : Cond.selects RX6 yX6_weigh yX6_weigh ∈ z_all := z_in (List.mem_of_getElem? (i := 55) (by decide +kernel)) (by decide +kernel)
theorem lX6_213 : zMl 0 RX6 213 mX6_weigh 1 := zMl_v wc_X6_weigh wi_X6 ⟨by decide, by decide⟩ (by decide +kernel) (by decide) wlX6_213 wm_X6_weigh ws_X6_weigh
theorem wc_X6_goThrough : Cond.code mX6_goThrough.1 mX6_goThrough.2.1 mX6_goThrough.2.2.1 mX6_goThrough.2.2.2 ∈ z_all := z_in (List.mem_of_getElem? (i := 1068) (by decide +kernel)) (by decide +kernel)
theorem wlX6_217 : Cond.methodLink RX6 217 yX6_goThrough ∈ z_all := z_in (List.mem_of_getElem? (i := 1065) (by decide +kernel)) (by decide +kernel)
theorem wm_X6_goThrough : Cond.instanceMethod yX6_goThrough ∈ z_all := z_in (List.mem_of_getElem? (i := 1067) (by decide +kernel)) (by decide +kernel)
theorem ws_X6_goThrough : Cond.selects RX6 yX6_goThrough yX6_goThrough ∈ z_all := z_in (List.mem_of_getElem? (i := 51) (by decide +kernel)) (by decide +kernel)
theorem lX6_217 : zMl 0 RX6 217 mX6_goThrough 2 := zMl_v wc_X6_goThrough wi_X6 ⟨by decide, by decide⟩ (by decide +kernel) (by decide) wlX6_217 wm_X6_goThrough ws_X6_goThrough
theorem wc_X6_mostBut : Cond.code mX6_mostBut.1 mX6_mostBut.2.1 mX6_mostBut.2.2.1 mX6_mostBut.2.2.2 ∈ z_all := z_in (List.mem_of_getElem? (i := 1064) (by decide +kernel)) (by decide +kernel)
theorem wlX6_221 : Cond.methodLink RX6 221 yX6_mostBut ∈ z_all := z_in (List.mem_of_getElem? (i := 1061) (by decide +kernel)) (by decide +kernel)
theorem wm_X6_mostBut : Cond.instanceMethod yX6_mostBut ∈ z_all := z_in (List.mem_of_getElem? (i := 1063) (by decide +kernel)) (by decide +kernel)
theorem ws_X6_mostBut : Cond.selects RX6 yX6_mostBut yX6_mostBut ∈ z_all := z_in (List.mem_of_getElem? (i := 50) (by decide +kernel)) (by decide +kernel)
theorem lX6_221 : zMl 0 RX6 221 mX6_mostBut 1 := zMl_v wc_X6_mostBut wi_X6 ⟨by decide, by decide⟩ (by decide +kernel) (by decide) wlX6_221 wm_X6_mostBut ws_X6_mostBut
theorem wc_X6_findNight : Cond.code mX6_findNight.1 mX6_findNight.2.1 mX6_findNight.2.2.1 mX6_findNight.2.2.2 ∈ z_all := z_in (List.mem_of_getElem? (i := 1060) (by decide +kernel)) (by decide +kernel)
theorem wlX6_224 : Cond.methodLink RX6 224 yX6_findNight ∈ z_all := z_in (List.mem_of_getElem? (i := 1057) (by decide +kernel)) (by decide +kernel)
theorem wm_X6_findNight : Cond.instanceMethod yX6_findNight ∈ z_all := z_in (List.mem_of_getElem? (i := 1059) (by decide +kernel)) (by decide +kernel)
theorem ws_X6_findNight : Cond.selects RX6 yX6_findNight yX6_findNight ∈ z_all := z_in (List.mem_of_getElem? (i := 49) (by decide +kernel)) (by decide +kernel)
theorem lX6_224 : zMl 0 RX6 224 mX6_findNight 0 := zMl_v wc_X6_findNight wi_X6 ⟨by decide, by decide⟩ (by decide +kernel) (by decide) wlX6_224 wm_X6_findNight ws_X6_findNight
theorem wc_X6_common : Cond.code mX6_common.1 mX6_common.2.1 mX6_common.2.2.1 mX6_common.2.2.2 ∈ z_all := z_in (List.mem_of_getElem? (i := 1103) (by decide +kernel)) (by decide +kernel)
theorem wlX6_227 : Cond.methodLink RX6 227 yX6_common ∈ z_all := z_in (List.mem_of_getElem? (i := 1101) (by decide +kernel)) (by decide +kernel)
theorem wt_X6_common : Cond.static yX6_common ∈ z_all := z_in (List.mem_of_getElem? (i := 1102) (by decide +kernel)) (by decide +kernel)
theorem lX6_227 : zMl 1 RX6 227 mX6_common 2 := zMl_s wc_X6_common wi_X6 ⟨by decide, by decide⟩ (by decide +kernel) (by decide) wlX6_227 wt_X6_common
theorem wc_X6_fits : Cond.code mX6_fits.1 mX6_fits.2.1 mX6_fits.2.2.1 mX6_fits.2.2.2 ∈ z_all := z_in (List.mem_of_getElem? (i := 1123) (by decide +kernel)) (by decide +kernel)
theorem wlX6_230 : Cond.methodLink RX6 230 yX6_fits ∈ z_all := z_in (List.mem_of_getElem? (i := 1120) (by decide +kernel)) (by decide +kernel)
theorem wm_X6_fits : Cond.instanceMethod yX6_fits ∈ z_all := z_in (List.mem_of_getElem? (i := 1122) (by decide +kernel)) (by decide +kernel)
theorem ws_X6_fits : Cond.selects RX6 yX6_fits yX6_fits ∈ z_all := z_in (List.mem_of_getElem? (i := 57) (by decide +kernel)) (by decide +kernel)
theorem lX6_230 : zMl 0 RX6 230 mX6_fits 1 := zMl_v wc_X6_fits wi_X6 ⟨by decide, by decide⟩ (by decide +kernel) (by decide) wlX6_230 wm_X6_fits ws_X6_fits
theorem cX6_233 : Cond.constant RX6 233 (-1000000) ∈ z_all := z_in (List.mem_of_getElem? (i := 1128) (by decide +kernel)) (by decide +kernel)
theorem fX6_234 : zFl RX6 234 5 0 := ⟨(RX6, TX6, 36), rfl, by decide, z_in (List.mem_of_getElem? (i := 802) (by decide +kernel)) (by decide +kernel)⟩
theorem cX6_238 : Cond.constantLong RX6 238 (11) ∈ z_all := z_in (List.mem_of_getElem? (i := 1129) (by decide +kernel)) (by decide +kernel)
theorem cX6_240 : Cond.constantLong RX6 240 (101) ∈ z_all := z_in (List.mem_of_getElem? (i := 1130) (by decide +kernel)) (by decide +kernel)
theorem cX6_242 : Cond.constantLong RX6 242 (1011) ∈ z_all := z_in (List.mem_of_getElem? (i := 1131) (by decide +kernel)) (by decide +kernel)
theorem cX6_244 : Cond.constantLong RX6 244 (10101) ∈ z_all := z_in (List.mem_of_getElem? (i := 1132) (by decide +kernel)) (by decide +kernel)
theorem cX6_246 : Cond.constantLong RX6 246 (100001) ∈ z_all := z_in (List.mem_of_getElem? (i := 1133) (by decide +kernel)) (by decide +kernel)
theorem wc_X6_copy : Cond.code mX6_copy.1 mX6_copy.2.1 mX6_copy.2.2.1 mX6_copy.2.2.2 ∈ z_all := z_in (List.mem_of_getElem? (i := 1141) (by decide +kernel)) (by decide +kernel)
theorem wlX6_248 : Cond.methodLink RX6 248 yX6_copy ∈ z_all := z_in (List.mem_of_getElem? (i := 1138) (by decide +kernel)) (by decide +kernel)
theorem wm_X6_copy : Cond.instanceMethod yX6_copy ∈ z_all := z_in (List.mem_of_getElem? (i := 1140) (by decide +kernel)) (by decide +kernel)
theorem ws_X6_copy : Cond.selects RX6 yX6_copy yX6_copy ∈ z_all := z_in (List.mem_of_getElem? (i := 58) (by decide +kernel)) (by decide +kernel)
theorem lX6_248 : zMl 0 RX6 248 mX6_copy 2 := zMl_v wc_X6_copy wi_X6 ⟨by decide, by decide⟩ (by decide +kernel) (by decide) wlX6_248 wm_X6_copy ws_X6_copy
theorem cJ6_265 : Cond.constant RJ6 265 (1431655765) ∈ z_all := z_in (List.mem_of_getElem? (i := 466) (by decide +kernel)) (by decide +kernel)
theorem cJ6_266 : Cond.constant RJ6 266 (858993459) ∈ z_all := z_in (List.mem_of_getElem? (i := 467) (by decide +kernel)) (by decide +kernel)
theorem cJ6_267 : Cond.constant RJ6 267 (252645135) ∈ z_all := z_in (List.mem_of_getElem? (i := 468) (by decide +kernel)) (by decide +kernel)
theorem wc_J0_coder_7d493 : Cond.code mJ0_coder_7d493.1 mJ0_coder_7d493.2.1 mJ0_coder_7d493.2.2.1 mJ0_coder_7d493.2.2.2 ∈ z_all := z_in (List.mem_of_getElem? (i := 344) (by decide +kernel)) (by decide +kernel)
theorem wlJ0_335 : Cond.methodLink RJ0 335 yJ0_coder_7d493 ∈ z_all := z_in (List.mem_of_getElem? (i := 341) (by decide +kernel)) (by decide +kernel)
theorem wm_J0_coder_7d493 : Cond.instanceMethod yJ0_coder_7d493 ∈ z_all := z_in (List.mem_of_getElem? (i := 342) (by decide +kernel)) (by decide +kernel)
theorem ws_J0_coder_7d493 : Cond.selects RJ0 yJ0_coder_7d493 yJ0_coder_7d493 ∈ z_all := z_in (List.mem_of_getElem? (i := 343) (by decide +kernel)) (by decide +kernel)
theorem lJ0_335 : zMl 0 RJ0 335 mJ0_coder_7d493 0 := zMl_v wc_J0_coder_7d493 wi_J0 ⟨by decide, by decide⟩ (by decide +kernel) (by decide) wlJ0_335 wm_J0_coder_7d493 ws_J0_coder_7d493
theorem wc_J0_isLatin1_aae02 : Cond.code mJ0_isLatin1_aae02.1 mJ0_isLatin1_aae02.2.1 mJ0_isLatin1_aae02.2.2.1 mJ0_isLatin1_aae02.2.2.2 ∈ z_all := z_in (List.mem_of_getElem? (i := 354) (by decide +kernel)) (by decide +kernel)
theorem wlJ0_492 : Cond.methodLink RJ0 492 yJ0_isLatin1_aae02 ∈ z_all := z_in (List.mem_of_getElem? (i := 351) (by decide +kernel)) (by decide +kernel)
theorem wm_J0_isLatin1_aae02 : Cond.instanceMethod yJ0_isLatin1_aae02 ∈ z_all := z_in (List.mem_of_getElem? (i := 352) (by decide +kernel)) (by decide +kernel)
theorem ws_J0_isLatin1_aae02 : Cond.selects RJ0 yJ0_isLatin1_aae02 yJ0_isLatin1_aae02 ∈ z_all := z_in (List.mem_of_getElem? (i := 353) (by decide +kernel)) (by decide +kernel)
theorem lJ0_492 : zMl 0 RJ0 492 mJ0_isLatin1_aae02 0 := zMl_v wc_J0_isLatin1_aae02 wi_J0 ⟨by decide, by decide⟩ (by decide +kernel) (by decide) wlJ0_492 wm_J0_isLatin1_aae02 ws_J0_isLatin1_aae02
theorem wc_J1_charAt_3b067 : Cond.code mJ1_charAt_3b067.1 mJ1_charAt_3b067.2.1 mJ1_charAt_3b067.2.2.1 mJ1_charAt_3b067.2.2.2 ∈ z_all := z_in (List.mem_of_getElem? (i := 357) (by decide +kernel)) (by decide +kernel)
theorem wi_J1 : Cond.initialized RJ1 ∈ z_all := z_in (List.mem_of_getElem? (i := 67) (by decide +kernel)) (by decide +kernel)
theorem wlJ0_495 : Cond.methodLink RJ0 495 yJ1_charAt_3b067 ∈ z_all := z_in (List.mem_of_getElem? (i := 355) (by decide +kernel)) (by decide +kernel)
theorem wt_J1_charAt_3b067 : Cond.static yJ1_charAt_3b067 ∈ z_all := z_in (List.mem_of_getElem? (i := 356) (by decide +kernel)) (by decide +kernel)
theorem lJ0_495 : zMl 1 RJ0 495 mJ1_charAt_3b067 2 := zMl_s wc_J1_charAt_3b067 wi_J1 ⟨by decide, by decide⟩ (by decide +kernel) (by decide) wlJ0_495 wt_J1_charAt_3b067
theorem wc_J2_charAt_3b067 : Cond.code mJ2_charAt_3b067.1 mJ2_charAt_3b067.2.1 mJ2_charAt_3b067.2.2.1 mJ2_charAt_3b067.2.2.2 ∈ z_all := z_in (List.mem_of_getElem? (i := 368) (by decide +kernel)) (by decide +kernel)
theorem wi_J2 : Cond.initialized RJ2 ∈ z_all := z_in (List.mem_of_getElem? (i := 69) (by decide +kernel)) (by decide +kernel)
theorem wlJ0_498 : Cond.methodLink RJ0 498 yJ2_charAt_3b067 ∈ z_all := z_in (List.mem_of_getElem? (i := 366) (by decide +kernel)) (by decide +kernel)
theorem wt_J2_charAt_3b067 : Cond.static yJ2_charAt_3b067 ∈ z_all := z_in (List.mem_of_getElem? (i := 367) (by decide +kernel)) (by decide +kernel)
theorem lJ0_498 : zMl 1 RJ0 498 mJ2_charAt_3b067 2 := zMl_s wc_J2_charAt_3b067 wi_J2 ⟨by decide, by decide⟩ (by decide +kernel) (by decide) wlJ0_498 wt_J2_charAt_3b067
theorem wc_J3_checkIndex_8e157 : Cond.code mJ3_checkIndex_8e157.1 mJ3_checkIndex_8e157.2.1 mJ3_checkIndex_8e157.2.2.1 mJ3_checkIndex_8e157.2.2.2 ∈ z_all := z_in (List.mem_of_getElem? (i := 365) (by decide +kernel)) (by decide +kernel)
theorem wi_J3 : Cond.initialized RJ3 ∈ z_all := z_in (List.mem_of_getElem? (i := 68) (by decide +kernel)) (by decide +kernel)
theorem wlJ0_1059 : Cond.methodLink RJ0 1059 yJ3_checkIndex_8e157 ∈ z_all := z_in (List.mem_of_getElem? (i := 363) (by decide +kernel)) (by decide +kernel)
theorem wt_J3_checkIndex_8e157 : Cond.static yJ3_checkIndex_8e157 ∈ z_all := z_in (List.mem_of_getElem? (i := 364) (by decide +kernel)) (by decide +kernel)
theorem lJ0_1059 : zMl 1 RJ0 1059 mJ3_checkIndex_8e157 3 := zMl_s wc_J3_checkIndex_8e157 wi_J3 ⟨by decide, by decide⟩ (by decide +kernel) (by decide) wlJ0_1059 wt_J3_checkIndex_8e157
theorem wc_J0_checkIndex_df160 : Cond.code mJ0_checkIndex_df160.1 mJ0_checkIndex_df160.2.1 mJ0_checkIndex_df160.2.2.1 mJ0_checkIndex_df160.2.2.2 ∈ z_all := z_in (List.mem_of_getElem? (i := 360) (by decide +kernel)) (by decide +kernel)
theorem wlJ1_9 : Cond.methodLink RJ1 9 yJ0_checkIndex_df160 ∈ z_all := z_in (List.mem_of_getElem? (i := 358) (by decide +kernel)) (by decide +kernel)
theorem wt_J0_checkIndex_df160 : Cond.static yJ0_checkIndex_df160 ∈ z_all := z_in (List.mem_of_getElem? (i := 359) (by decide +kernel)) (by decide +kernel)
theorem lJ1_9 : zMl 1 RJ1 9 mJ0_checkIndex_df160 2 := zMl_s wc_J0_checkIndex_df160 wi_J0 ⟨by decide, by decide⟩ (by decide +kernel) (by decide) wlJ1_9 wt_J0_checkIndex_df160
theorem wc_J2_length_9d52b : Cond.code mJ2_length_9d52b.1 mJ2_length_9d52b.2.1 mJ2_length_9d52b.2.2.1 mJ2_length_9d52b.2.2.2 ∈ z_all := z_in (List.mem_of_getElem? (i := 374) (by decide +kernel)) (by decide +kernel)
theorem wlJ2_48 : Cond.methodLink RJ2 48 yJ2_length_9d52b ∈ z_all := z_in (List.mem_of_getElem? (i := 372) (by decide +kernel)) (by decide +kernel)
theorem wt_J2_length_9d52b : Cond.static yJ2_length_9d52b ∈ z_all := z_in (List.mem_of_getElem? (i := 373) (by decide +kernel)) (by decide +kernel)
theorem lJ2_48 : zMl 1 RJ2 48 mJ2_length_9d52b 1 := zMl_s wc_J2_length_9d52b wi_J2 ⟨by decide, by decide⟩ (by decide +kernel) (by decide) wlJ2_48 wt_J2_length_9d52b
theorem wc_J2_checkIndex_2214a : Cond.code mJ2_checkIndex_2214a.1 mJ2_checkIndex_2214a.2.1 mJ2_checkIndex_2214a.2.2.1 mJ2_checkIndex_2214a.2.2.2 ∈ z_all := z_in (List.mem_of_getElem? (i := 371) (by decide +kernel)) (by decide +kernel)
theorem wlJ2_67 : Cond.methodLink RJ2 67 yJ2_checkIndex_2214a ∈ z_all := z_in (List.mem_of_getElem? (i := 369) (by decide +kernel)) (by decide +kernel)
theorem wt_J2_checkIndex_2214a : Cond.static yJ2_checkIndex_2214a ∈ z_all := z_in (List.mem_of_getElem? (i := 370) (by decide +kernel)) (by decide +kernel)
theorem lJ2_67 : zMl 1 RJ2 67 mJ2_checkIndex_2214a 2 := zMl_s wc_J2_checkIndex_2214a wi_J2 ⟨by decide, by decide⟩ (by decide +kernel) (by decide) wlJ2_67 wt_J2_checkIndex_2214a
theorem wc_J2_getChar_3b067 : Cond.code mJ2_getChar_3b067.1 mJ2_getChar_3b067.2.1 mJ2_getChar_3b067.2.2.1 mJ2_getChar_3b067.2.2.2 ∈ z_all := z_in (List.mem_of_getElem? (i := 378) (by decide +kernel)) (by decide +kernel)
theorem wlJ2_71 : Cond.methodLink RJ2 71 yJ2_getChar_3b067 ∈ z_all := z_in (List.mem_of_getElem? (i := 376) (by decide +kernel)) (by decide +kernel)
theorem wt_J2_getChar_3b067 : Cond.static yJ2_getChar_3b067 ∈ z_all := z_in (List.mem_of_getElem? (i := 377) (by decide +kernel)) (by decide +kernel)
theorem lJ2_71 : zMl 1 RJ2 71 mJ2_getChar_3b067 2 := zMl_s wc_J2_getChar_3b067 wi_J2 ⟨by decide, by decide⟩ (by decide +kernel) (by decide) wlJ2_71 wt_J2_getChar_3b067
theorem wlJ2_414 : Cond.methodLink RJ2 414 yJ0_checkIndex_df160 ∈ z_all := z_in (List.mem_of_getElem? (i := 375) (by decide +kernel)) (by decide +kernel)
theorem lJ2_414 : zMl 1 RJ2 414 mJ0_checkIndex_df160 2 := zMl_s wc_J0_checkIndex_df160 wi_J0 ⟨by decide, by decide⟩ (by decide +kernel) (by decide) wlJ2_414 wt_J0_checkIndex_df160
theorem wc_X5_init : Cond.code mX5_init.1 mX5_init.2.1 mX5_init.2.2.1 mX5_init.2.2.2 ∈ z_all := z_in (List.mem_of_getElem? (i := 78) (by decide +kernel)) (by decide +kernel)
theorem wlL_9 : Cond.methodLink RL 9 yX5_init ∈ z_all := z_in (List.mem_of_getElem? (i := 76) (by decide +kernel)) (by decide +kernel)
theorem wm_X5_init : Cond.instanceMethod yX5_init ∈ z_all := z_in (List.mem_of_getElem? (i := 77) (by decide +kernel)) (by decide +kernel)
theorem lL_9 : zMl 2 RL 9 mX5_init 0 := zMl_i wc_X5_init wi_X5 ⟨by decide, by decide⟩ (by decide +kernel) (by decide) (Or.inl wlL_9) wm_X5_init rfl rfl
theorem wc_X6_init : Cond.code mX6_init.1 mX6_init.2.1 mX6_init.2.2.1 mX6_init.2.2.2 ∈ z_all := z_in (List.mem_of_getElem? (i := 796) (by decide +kernel)) (by decide +kernel)
theorem wlL_12 : Cond.methodLink RL 12 yX6_init ∈ z_all := z_in (List.mem_of_getElem? (i := 794) (by decide +kernel)) (by decide +kernel)
theorem wm_X6_init : Cond.instanceMethod yX6_init ∈ z_all := z_in (List.mem_of_getElem? (i := 795) (by decide +kernel)) (by decide +kernel)
theorem lL_12 : zMl 2 RL 12 mX6_init 0 := zMl_i wc_X6_init wi_X6 ⟨by decide, by decide⟩ (by decide +kernel) (by decide) (Or.inl wlL_12) wm_X6_init rfl rfl
theorem cL_13 : Cond.constantLong RL 13 (4294967295) ∈ z_all := z_in (List.mem_of_getElem? (i := 1154) (by decide +kernel)) (by decide +kernel)
theorem wc_X5_type : Cond.code mX5_type.1 mX5_type.2.1 mX5_type.2.2.1 mX5_type.2.2.2 ∈ z_all := z_in (List.mem_of_getElem? (i := 288) (by decide +kernel)) (by decide +kernel)
theorem wlL_15 : Cond.methodLink RL 15 yX5_type ∈ z_all := z_in (List.mem_of_getElem? (i := 285) (by decide +kernel)) (by decide +kernel)
theorem wm_X5_type : Cond.instanceMethod yX5_type ∈ z_all := z_in (List.mem_of_getElem? (i := 286) (by decide +kernel)) (by decide +kernel)
theorem ws_X5_type : Cond.selects RX5 yX5_type yX5_type ∈ z_all := z_in (List.mem_of_getElem? (i := 287) (by decide +kernel)) (by decide +kernel)
theorem lL_15 : zMl 0 RL 15 mX5_type 2 := zMl_v wc_X5_type wi_X5 ⟨by decide, by decide⟩ (by decide +kernel) (by decide) wlL_15 wm_X5_type ws_X5_type
theorem wc_X6_type : Cond.code mX6_type.1 mX6_type.2.1 mX6_type.2.2.1 mX6_type.2.2.2 ∈ z_all := z_in (List.mem_of_getElem? (i := 914) (by decide +kernel)) (by decide +kernel)
theorem wlL_19 : Cond.methodLink RL 19 yX6_type ∈ z_all := z_in (List.mem_of_getElem? (i := 911) (by decide +kernel)) (by decide +kernel)
theorem wm_X6_type : Cond.instanceMethod yX6_type ∈ z_all := z_in (List.mem_of_getElem? (i := 912) (by decide +kernel)) (by decide +kernel)
theorem ws_X6_type : Cond.selects RX6 yX6_type yX6_type ∈ z_all := z_in (List.mem_of_getElem? (i := 913) (by decide +kernel)) (by decide +kernel)
theorem lL_19 : zMl 0 RL 19 mX6_type 2 := zMl_v wc_X6_type wi_X6 ⟨by decide, by decide⟩ (by decide +kernel) (by decide) wlL_19 wm_X6_type ws_X6_type
theorem wc_X5_clear : Cond.code mX5_clear.1 mX5_clear.2.1 mX5_clear.2.2.1 mX5_clear.2.2.2 ∈ z_all := z_in (List.mem_of_getElem? (i := 296) (by decide +kernel)) (by decide +kernel)
theorem wlL_20 : Cond.methodLink RL 20 yX5_clear ∈ z_all := z_in (List.mem_of_getElem? (i := 293) (by decide +kernel)) (by decide +kernel)
theorem wm_X5_clear : Cond.instanceMethod yX5_clear ∈ z_all := z_in (List.mem_of_getElem? (i := 294) (by decide +kernel)) (by decide +kernel)
theorem ws_X5_clear : Cond.selects RX5 yX5_clear yX5_clear ∈ z_all := z_in (List.mem_of_getElem? (i := 295) (by decide +kernel)) (by decide +kernel)
theorem lL_20 : zMl 0 RL 20 mX5_clear 0 := zMl_v wc_X5_clear wi_X5 ⟨by decide, by decide⟩ (by decide +kernel) (by decide) wlL_20 wm_X5_clear ws_X5_clear
theorem wc_X6_clear : Cond.code mX6_clear.1 mX6_clear.2.1 mX6_clear.2.2.1 mX6_clear.2.2.2 ∈ z_all := z_in (List.mem_of_getElem? (i := 922) (by decide +kernel)) (by decide +kernel)
theorem wlL_24 : Cond.methodLink RL 24 yX6_clear ∈ z_all := z_in (List.mem_of_getElem? (i := 919) (by decide +kernel)) (by decide +kernel)
theorem wm_X6_clear : Cond.instanceMethod yX6_clear ∈ z_all := z_in (List.mem_of_getElem? (i := 920) (by decide +kernel)) (by decide +kernel)
theorem ws_X6_clear : Cond.selects RX6 yX6_clear yX6_clear ∈ z_all := z_in (List.mem_of_getElem? (i := 921) (by decide +kernel)) (by decide +kernel)
theorem lL_24 : zMl 0 RL 24 mX6_clear 0 := zMl_v wc_X6_clear wi_X6 ⟨by decide, by decide⟩ (by decide +kernel) (by decide) wlL_24 wm_X6_clear ws_X6_clear
theorem wc_X5_parish : Cond.code mX5_parish.1 mX5_parish.2.1 mX5_parish.2.2.1 mX5_parish.2.2.2 ∈ z_all := z_in (List.mem_of_getElem? (i := 304) (by decide +kernel)) (by decide +kernel)
theorem wlL_25 : Cond.methodLink RL 25 yX5_parish ∈ z_all := z_in (List.mem_of_getElem? (i := 301) (by decide +kernel)) (by decide +kernel)
theorem wm_X5_parish : Cond.instanceMethod yX5_parish ∈ z_all := z_in (List.mem_of_getElem? (i := 302) (by decide +kernel)) (by decide +kernel)
theorem ws_X5_parish : Cond.selects RX5 yX5_parish yX5_parish ∈ z_all := z_in (List.mem_of_getElem? (i := 303) (by decide +kernel)) (by decide +kernel)
theorem lL_25 : zMl 0 RL 25 mX5_parish 0 := zMl_v wc_X5_parish wi_X5 ⟨by decide, by decide⟩ (by decide +kernel) (by decide) wlL_25 wm_X5_parish ws_X5_parish
theorem wc_X6_parish : Cond.code mX6_parish.1 mX6_parish.2.1 mX6_parish.2.2.1 mX6_parish.2.2.2 ∈ z_all := z_in (List.mem_of_getElem? (i := 926) (by decide +kernel)) (by decide +kernel)
theorem wlL_28 : Cond.methodLink RL 28 yX6_parish ∈ z_all := z_in (List.mem_of_getElem? (i := 923) (by decide +kernel)) (by decide +kernel)
theorem wm_X6_parish : Cond.instanceMethod yX6_parish ∈ z_all := z_in (List.mem_of_getElem? (i := 924) (by decide +kernel)) (by decide +kernel)
theorem ws_X6_parish : Cond.selects RX6 yX6_parish yX6_parish ∈ z_all := z_in (List.mem_of_getElem? (i := 925) (by decide +kernel)) (by decide +kernel)
theorem lL_28 : zMl 0 RL 28 mX6_parish 0 := zMl_v wc_X6_parish wi_X6 ⟨by decide, by decide⟩ (by decide +kernel) (by decide) wlL_28 wm_X6_parish ws_X6_parish
theorem wc_X5_ringer : Cond.code mX5_ringer.1 mX5_ringer.2.1 mX5_ringer.2.2.1 mX5_ringer.2.2.2 ∈ z_all := z_in (List.mem_of_getElem? (i := 431) (by decide +kernel)) (by decide +kernel)
theorem wlL_29 : Cond.methodLink RL 29 yX5_ringer ∈ z_all := z_in (List.mem_of_getElem? (i := 428) (by decide +kernel)) (by decide +kernel)
theorem wm_X5_ringer : Cond.instanceMethod yX5_ringer ∈ z_all := z_in (List.mem_of_getElem? (i := 429) (by decide +kernel)) (by decide +kernel)
theorem ws_X5_ringer : Cond.selects RX5 yX5_ringer yX5_ringer ∈ z_all := z_in (List.mem_of_getElem? (i := 430) (by decide +kernel)) (by decide +kernel)
theorem lL_29 : zMl 0 RL 29 mX5_ringer 2 := zMl_v wc_X5_ringer wi_X5 ⟨by decide, by decide⟩ (by decide +kernel) (by decide) wlL_29 wm_X5_ringer ws_X5_ringer
theorem wc_X6_ringer : Cond.code mX6_ringer.1 mX6_ringer.2.1 mX6_ringer.2.2.1 mX6_ringer.2.2.2 ∈ z_all := z_in (List.mem_of_getElem? (i := 953) (by decide +kernel)) (by decide +kernel)
theorem wlL_33 : Cond.methodLink RL 33 yX6_ringer ∈ z_all := z_in (List.mem_of_getElem? (i := 950) (by decide +kernel)) (by decide +kernel)
theorem wm_X6_ringer : Cond.instanceMethod yX6_ringer ∈ z_all := z_in (List.mem_of_getElem? (i := 951) (by decide +kernel)) (by decide +kernel)
theorem ws_X6_ringer : Cond.selects RX6 yX6_ringer yX6_ringer ∈ z_all := z_in (List.mem_of_getElem? (i := 952) (by decide +kernel)) (by decide +kernel)
theorem lL_33 : zMl 0 RL 33 mX6_ringer 2 := zMl_v wc_X6_ringer wi_X6 ⟨by decide, by decide⟩ (by decide +kernel) (by decide) wlL_33 wm_X6_ringer ws_X6_ringer
theorem wc_X5_hour : Cond.code mX5_hour.1 mX5_hour.2.1 mX5_hour.2.2.1 mX5_hour.2.2.2 ∈ z_all := z_in (List.mem_of_getElem? (i := 454) (by decide +kernel)) (by decide +kernel)
theorem wlL_34 : Cond.methodLink RL 34 yX5_hour ∈ z_all := z_in (List.mem_of_getElem? (i := 451) (by decide +kernel)) (by decide +kernel)
theorem wm_X5_hour : Cond.instanceMethod yX5_hour ∈ z_all := z_in (List.mem_of_getElem? (i := 452) (by decide +kernel)) (by decide +kernel)
theorem ws_X5_hour : Cond.selects RX5 yX5_hour yX5_hour ∈ z_all := z_in (List.mem_of_getElem? (i := 453) (by decide +kernel)) (by decide +kernel)
theorem lL_34 : zMl 0 RL 34 mX5_hour 2 := zMl_v wc_X5_hour wi_X5 ⟨by decide, by decide⟩ (by decide +kernel) (by decide) wlL_34 wm_X5_hour ws_X5_hour
theorem wc_X6_hour : Cond.code mX6_hour.1 mX6_hour.2.1 mX6_hour.2.2.1 mX6_hour.2.2.2 ∈ z_all := z_in (List.mem_of_getElem? (i := 969) (by decide +kernel)) (by decide +kernel)
theorem wlL_37 : Cond.methodLink RL 37 yX6_hour ∈ z_all := z_in (List.mem_of_getElem? (i := 966) (by decide +kernel)) (by decide +kernel)
theorem wm_X6_hour : Cond.instanceMethod yX6_hour ∈ z_all := z_in (List.mem_of_getElem? (i := 967) (by decide +kernel)) (by decide +kernel)
theorem ws_X6_hour : Cond.selects RX6 yX6_hour yX6_hour ∈ z_all := z_in (List.mem_of_getElem? (i := 968) (by decide +kernel)) (by decide +kernel)
theorem lL_37 : zMl 0 RL 37 mX6_hour 2 := zMl_v wc_X6_hour wi_X6 ⟨by decide, by decide⟩ (by decide +kernel) (by decide) wlL_37 wm_X6_hour ws_X6_hour
theorem wc_X5_put : Cond.code mX5_put.1 mX5_put.2.1 mX5_put.2.2.1 mX5_put.2.2.2 ∈ z_all := z_in (List.mem_of_getElem? (i := 472) (by decide +kernel)) (by decide +kernel)
theorem wlL_38 : Cond.methodLink RL 38 yX5_put ∈ z_all := z_in (List.mem_of_getElem? (i := 469) (by decide +kernel)) (by decide +kernel)
theorem wm_X5_put : Cond.instanceMethod yX5_put ∈ z_all := z_in (List.mem_of_getElem? (i := 470) (by decide +kernel)) (by decide +kernel)
theorem ws_X5_put : Cond.selects RX5 yX5_put yX5_put ∈ z_all := z_in (List.mem_of_getElem? (i := 471) (by decide +kernel)) (by decide +kernel)
theorem lL_38 : zMl 0 RL 38 mX5_put 3 := zMl_v wc_X5_put wi_X5 ⟨by decide, by decide⟩ (by decide +kernel) (by decide) wlL_38 wm_X5_put ws_X5_put
theorem wc_X6_put : Cond.code mX6_put.1 mX6_put.2.1 mX6_put.2.2.1 mX6_put.2.2.2 ∈ z_all := z_in (List.mem_of_getElem? (i := 981) (by decide +kernel)) (by decide +kernel)
theorem wlL_42 : Cond.methodLink RL 42 yX6_put ∈ z_all := z_in (List.mem_of_getElem? (i := 978) (by decide +kernel)) (by decide +kernel)
theorem wm_X6_put : Cond.instanceMethod yX6_put ∈ z_all := z_in (List.mem_of_getElem? (i := 979) (by decide +kernel)) (by decide +kernel)
theorem ws_X6_put : Cond.selects RX6 yX6_put yX6_put ∈ z_all := z_in (List.mem_of_getElem? (i := 980) (by decide +kernel)) (by decide +kernel)
theorem lL_42 : zMl 0 RL 42 mX6_put 3 := zMl_v wc_X6_put wi_X6 ⟨by decide, by decide⟩ (by decide +kernel) (by decide) wlL_42 wm_X6_put ws_X6_put
theorem wc_X5_rings : Cond.code mX5_rings.1 mX5_rings.2.1 mX5_rings.2.2.1 mX5_rings.2.2.2 ∈ z_all := z_in (List.mem_of_getElem? (i := 507) (by decide +kernel)) (by decide +kernel)
theorem wlL_43 : Cond.methodLink RL 43 yX5_rings ∈ z_all := z_in (List.mem_of_getElem? (i := 504) (by decide +kernel)) (by decide +kernel)
theorem wm_X5_rings : Cond.instanceMethod yX5_rings ∈ z_all := z_in (List.mem_of_getElem? (i := 505) (by decide +kernel)) (by decide +kernel)
theorem ws_X5_rings : Cond.selects RX5 yX5_rings yX5_rings ∈ z_all := z_in (List.mem_of_getElem? (i := 506) (by decide +kernel)) (by decide +kernel)
theorem lL_43 : zMl 0 RL 43 mX5_rings 2 := zMl_v wc_X5_rings wi_X5 ⟨by decide, by decide⟩ (by decide +kernel) (by decide) wlL_43 wm_X5_rings ws_X5_rings
theorem wc_X6_rings : Cond.code mX6_rings.1 mX6_rings.2.1 mX6_rings.2.2.1 mX6_rings.2.2.2 ∈ z_all := z_in (List.mem_of_getElem? (i := 1001) (by decide +kernel)) (by decide +kernel)
theorem wlL_46 : Cond.methodLink RL 46 yX6_rings ∈ z_all := z_in (List.mem_of_getElem? (i := 998) (by decide +kernel)) (by decide +kernel)
theorem wm_X6_rings : Cond.instanceMethod yX6_rings ∈ z_all := z_in (List.mem_of_getElem? (i := 999) (by decide +kernel)) (by decide +kernel)
theorem ws_X6_rings : Cond.selects RX6 yX6_rings yX6_rings ∈ z_all := z_in (List.mem_of_getElem? (i := 1000) (by decide +kernel)) (by decide +kernel)
theorem lL_46 : zMl 0 RL 46 mX6_rings 2 := zMl_v wc_X6_rings wi_X6 ⟨by decide, by decide⟩ (by decide +kernel) (by decide) wlL_46 wm_X6_rings ws_X6_rings
theorem wc_X5_take : Cond.code mX5_take.1 mX5_take.2.1 mX5_take.2.2.1 mX5_take.2.2.2 ∈ z_all := z_in (List.mem_of_getElem? (i := 512) (by decide +kernel)) (by decide +kernel)
theorem wlL_47 : Cond.methodLink RL 47 yX5_take ∈ z_all := z_in (List.mem_of_getElem? (i := 509) (by decide +kernel)) (by decide +kernel)
theorem wm_X5_take : Cond.instanceMethod yX5_take ∈ z_all := z_in (List.mem_of_getElem? (i := 510) (by decide +kernel)) (by decide +kernel)
theorem ws_X5_take : Cond.selects RX5 yX5_take yX5_take ∈ z_all := z_in (List.mem_of_getElem? (i := 511) (by decide +kernel)) (by decide +kernel)
theorem lL_47 : zMl 0 RL 47 mX5_take 2 := zMl_v wc_X5_take wi_X5 ⟨by decide, by decide⟩ (by decide +kernel) (by decide) wlL_47 wm_X5_take ws_X5_take
theorem wc_X6_take : Cond.code mX6_take.1 mX6_take.2.1 mX6_take.2.2.1 mX6_take.2.2.2 ∈ z_all := z_in (List.mem_of_getElem? (i := 1005) (by decide +kernel)) (by decide +kernel)
theorem wlL_50 : Cond.methodLink RL 50 yX6_take ∈ z_all := z_in (List.mem_of_getElem? (i := 1002) (by decide +kernel)) (by decide +kernel)
theorem wm_X6_take : Cond.instanceMethod yX6_take ∈ z_all := z_in (List.mem_of_getElem? (i := 1003) (by decide +kernel)) (by decide +kernel)
theorem ws_X6_take : Cond.selects RX6 yX6_take yX6_take ∈ z_all := z_in (List.mem_of_getElem? (i := 1004) (by decide +kernel)) (by decide +kernel)
theorem lL_50 : zMl 0 RL 50 mX6_take 2 := zMl_v wc_X6_take wi_X6 ⟨by decide, by decide⟩ (by decide +kernel) (by decide) wlL_50 wm_X6_take ws_X6_take
theorem wc_X5_exchange : Cond.code mX5_exchange.1 mX5_exchange.2.1 mX5_exchange.2.2.1 mX5_exchange.2.2.2 ∈ z_all := z_in (List.mem_of_getElem? (i := 521) (by decide +kernel)) (by decide +kernel)
theorem wlL_51 : Cond.methodLink RL 51 yX5_exchange ∈ z_all := z_in (List.mem_of_getElem? (i := 518) (by decide +kernel)) (by decide +kernel)
theorem wm_X5_exchange : Cond.instanceMethod yX5_exchange ∈ z_all := z_in (List.mem_of_getElem? (i := 519) (by decide +kernel)) (by decide +kernel)
theorem ws_X5_exchange : Cond.selects RX5 yX5_exchange yX5_exchange ∈ z_all := z_in (List.mem_of_getElem? (i := 520) (by decide +kernel)) (by decide +kernel)
theorem lL_51 : zMl 0 RL 51 mX5_exchange 2 := zMl_v wc_X5_exchange wi_X5 ⟨by decide, by decide⟩ (by decide +kernel) (by decide) wlL_51 wm_X5_exchange ws_X5_exchange
theorem wc_X6_exchange : Cond.code mX6_exchange.1 mX6_exchange.2.1 mX6_exchange.2.2.1 mX6_exchange.2.2.2 ∈ z_all := z_in (List.mem_of_getElem? (i := 1009) (by decide +kernel)) (by decide +kernel)
theorem wlL_54 : Cond.methodLink RL 54 yX6_exchange ∈ z_all := z_in (List.mem_of_getElem? (i := 1006) (by decide +kernel)) (by decide +kernel)
theorem wm_X6_exchange : Cond.instanceMethod yX6_exchange ∈ z_all := z_in (List.mem_of_getElem? (i := 1007) (by decide +kernel)) (by decide +kernel)
theorem ws_X6_exchange : Cond.selects RX6 yX6_exchange yX6_exchange ∈ z_all := z_in (List.mem_of_getElem? (i := 1008) (by decide +kernel)) (by decide +kernel)
theorem lL_54 : zMl 0 RL 54 mX6_exchange 2 := zMl_v wc_X6_exchange wi_X6 ⟨by decide, by decide⟩ (by decide +kernel) (by decide) wlL_54 wm_X6_exchange ws_X6_exchange
theorem wc_X5_now : Cond.code mX5_now.1 mX5_now.2.1 mX5_now.2.2.1 mX5_now.2.2.2 ∈ z_all := z_in (List.mem_of_getElem? (i := 533) (by decide +kernel)) (by decide +kernel)
theorem wlL_55 : Cond.methodLink RL 55 yX5_now ∈ z_all := z_in (List.mem_of_getElem? (i := 530) (by decide +kernel)) (by decide +kernel)
theorem wm_X5_now : Cond.instanceMethod yX5_now ∈ z_all := z_in (List.mem_of_getElem? (i := 531) (by decide +kernel)) (by decide +kernel)
theorem ws_X5_now : Cond.selects RX5 yX5_now yX5_now ∈ z_all := z_in (List.mem_of_getElem? (i := 532) (by decide +kernel)) (by decide +kernel)
theorem lL_55 : zMl 0 RL 55 mX5_now 1 := zMl_v wc_X5_now wi_X5 ⟨by decide, by decide⟩ (by decide +kernel) (by decide) wlL_55 wm_X5_now ws_X5_now
theorem wc_X6_now : Cond.code mX6_now.1 mX6_now.2.1 mX6_now.2.2.1 mX6_now.2.2.2 ∈ z_all := z_in (List.mem_of_getElem? (i := 1017) (by decide +kernel)) (by decide +kernel)
theorem wlL_59 : Cond.methodLink RL 59 yX6_now ∈ z_all := z_in (List.mem_of_getElem? (i := 1014) (by decide +kernel)) (by decide +kernel)
theorem wm_X6_now : Cond.instanceMethod yX6_now ∈ z_all := z_in (List.mem_of_getElem? (i := 1015) (by decide +kernel)) (by decide +kernel)
theorem ws_X6_now : Cond.selects RX6 yX6_now yX6_now ∈ z_all := z_in (List.mem_of_getElem? (i := 1016) (by decide +kernel)) (by decide +kernel)
theorem lL_59 : zMl 0 RL 59 mX6_now 1 := zMl_v wc_X6_now wi_X6 ⟨by decide, by decide⟩ (by decide +kernel) (by decide) wlL_59 wm_X6_now ws_X6_now
theorem wc_X5_moves : Cond.code mX5_moves.1 mX5_moves.2.1 mX5_moves.2.2.1 mX5_moves.2.2.2 ∈ z_all := z_in (List.mem_of_getElem? (i := 550) (by decide +kernel)) (by decide +kernel)
theorem wlL_60 : Cond.methodLink RL 60 yX5_moves ∈ z_all := z_in (List.mem_of_getElem? (i := 547) (by decide +kernel)) (by decide +kernel)
theorem wm_X5_moves : Cond.instanceMethod yX5_moves ∈ z_all := z_in (List.mem_of_getElem? (i := 548) (by decide +kernel)) (by decide +kernel)
theorem ws_X5_moves : Cond.selects RX5 yX5_moves yX5_moves ∈ z_all := z_in (List.mem_of_getElem? (i := 549) (by decide +kernel)) (by decide +kernel)
theorem lL_60 : zMl 0 RL 60 mX5_moves 1 := zMl_v wc_X5_moves wi_X5 ⟨by decide, by decide⟩ (by decide +kernel) (by decide) wlL_60 wm_X5_moves ws_X5_moves
theorem wc_X6_moves : Cond.code mX6_moves.1 mX6_moves.2.1 mX6_moves.2.2.1 mX6_moves.2.2.2 ∈ z_all := z_in (List.mem_of_getElem? (i := 1033) (by decide +kernel)) (by decide +kernel)
theorem wlL_63 : Cond.methodLink RL 63 yX6_moves ∈ z_all := z_in (List.mem_of_getElem? (i := 1030) (by decide +kernel)) (by decide +kernel)
theorem wm_X6_moves : Cond.instanceMethod yX6_moves ∈ z_all := z_in (List.mem_of_getElem? (i := 1031) (by decide +kernel)) (by decide +kernel)
theorem ws_X6_moves : Cond.selects RX6 yX6_moves yX6_moves ∈ z_all := z_in (List.mem_of_getElem? (i := 1032) (by decide +kernel)) (by decide +kernel)
theorem lL_63 : zMl 0 RL 63 mX6_moves 1 := zMl_v wc_X6_moves wi_X6 ⟨by decide, by decide⟩ (by decide +kernel) (by decide) wlL_63 wm_X6_moves ws_X6_moves
theorem wc_X5_crew : Cond.code mX5_crew.1 mX5_crew.2.1 mX5_crew.2.2.1 mX5_crew.2.2.2 ∈ z_all := z_in (List.mem_of_getElem? (i := 558) (by decide +kernel)) (by decide +kernel)
theorem wlL_64 : Cond.methodLink RL 64 yX5_crew ∈ z_all := z_in (List.mem_of_getElem? (i := 555) (by decide +kernel)) (by decide +kernel)
theorem wm_X5_crew : Cond.instanceMethod yX5_crew ∈ z_all := z_in (List.mem_of_getElem? (i := 556) (by decide +kernel)) (by decide +kernel)
theorem ws_X5_crew : Cond.selects RX5 yX5_crew yX5_crew ∈ z_all := z_in (List.mem_of_getElem? (i := 557) (by decide +kernel)) (by decide +kernel)
theorem lL_64 : zMl 0 RL 64 mX5_crew 1 := zMl_v wc_X5_crew wi_X5 ⟨by decide, by decide⟩ (by decide +kernel) (by decide) wlL_64 wm_X5_crew ws_X5_crew
theorem wc_X6_crew : Cond.code mX6_crew.1 mX6_crew.2.1 mX6_crew.2.2.1 mX6_crew.2.2.2 ∈ z_all := z_in (List.mem_of_getElem? (i := 1037) (by decide +kernel)) (by decide +kernel)
theorem wlL_67 : Cond.methodLink RL 67 yX6_crew ∈ z_all := z_in (List.mem_of_getElem? (i := 1034) (by decide +kernel)) (by decide +kernel)
theorem wm_X6_crew : Cond.instanceMethod yX6_crew ∈ z_all := z_in (List.mem_of_getElem? (i := 1035) (by decide +kernel)) (by decide +kernel)
theorem ws_X6_crew : Cond.selects RX6 yX6_crew yX6_crew ∈ z_all := z_in (List.mem_of_getElem? (i := 1036) (by decide +kernel)) (by decide +kernel)
theorem lL_67 : zMl 0 RL 67 mX6_crew 1 := zMl_v wc_X6_crew wi_X6 ⟨by decide, by decide⟩ (by decide +kernel) (by decide) wlL_67 wm_X6_crew ws_X6_crew
theorem wc_X5_bars : Cond.code mX5_bars.1 mX5_bars.2.1 mX5_bars.2.2.1 mX5_bars.2.2.2 ∈ z_all := z_in (List.mem_of_getElem? (i := 576) (by decide +kernel)) (by decide +kernel)
theorem wlL_68 : Cond.methodLink RL 68 yX5_bars ∈ z_all := z_in (List.mem_of_getElem? (i := 573) (by decide +kernel)) (by decide +kernel)
theorem wm_X5_bars : Cond.instanceMethod yX5_bars ∈ z_all := z_in (List.mem_of_getElem? (i := 574) (by decide +kernel)) (by decide +kernel)
theorem ws_X5_bars : Cond.selects RX5 yX5_bars yX5_bars ∈ z_all := z_in (List.mem_of_getElem? (i := 575) (by decide +kernel)) (by decide +kernel)
theorem lL_68 : zMl 0 RL 68 mX5_bars 1 := zMl_v wc_X5_bars wi_X5 ⟨by decide, by decide⟩ (by decide +kernel) (by decide) wlL_68 wm_X5_bars ws_X5_bars
theorem wc_X6_bars : Cond.code mX6_bars.1 mX6_bars.2.1 mX6_bars.2.2.1 mX6_bars.2.2.2 ∈ z_all := z_in (List.mem_of_getElem? (i := 1052) (by decide +kernel)) (by decide +kernel)
theorem wlL_71 : Cond.methodLink RL 71 yX6_bars ∈ z_all := z_in (List.mem_of_getElem? (i := 1049) (by decide +kernel)) (by decide +kernel)
theorem wm_X6_bars : Cond.instanceMethod yX6_bars ∈ z_all := z_in (List.mem_of_getElem? (i := 1050) (by decide +kernel)) (by decide +kernel)
theorem ws_X6_bars : Cond.selects RX6 yX6_bars yX6_bars ∈ z_all := z_in (List.mem_of_getElem? (i := 1051) (by decide +kernel)) (by decide +kernel)
theorem lL_71 : zMl 0 RL 71 mX6_bars 1 := zMl_v wc_X6_bars wi_X6 ⟨by decide, by decide⟩ (by decide +kernel) (by decide) wlL_71 wm_X6_bars ws_X6_bars
theorem wc_X5_night : Cond.code mX5_night.1 mX5_night.2.1 mX5_night.2.2.1 mX5_night.2.2.2 ∈ z_all := z_in (List.mem_of_getElem? (i := 583) (by decide +kernel)) (by decide +kernel)
theorem wlL_72 : Cond.methodLink RL 72 yX5_night ∈ z_all := z_in (List.mem_of_getElem? (i := 580) (by decide +kernel)) (by decide +kernel)
theorem wm_X5_night : Cond.instanceMethod yX5_night ∈ z_all := z_in (List.mem_of_getElem? (i := 581) (by decide +kernel)) (by decide +kernel)
theorem ws_X5_night : Cond.selects RX5 yX5_night yX5_night ∈ z_all := z_in (List.mem_of_getElem? (i := 582) (by decide +kernel)) (by decide +kernel)
theorem lL_72 : zMl 0 RL 72 mX5_night 1 := zMl_v wc_X5_night wi_X5 ⟨by decide, by decide⟩ (by decide +kernel) (by decide) wlL_72 wm_X5_night ws_X5_night
theorem wc_X6_night : Cond.code mX6_night.1 mX6_night.2.1 mX6_night.2.2.1 mX6_night.2.2.2 ∈ z_all := z_in (List.mem_of_getElem? (i := 1056) (by decide +kernel)) (by decide +kernel)
theorem wlL_75 : Cond.methodLink RL 75 yX6_night ∈ z_all := z_in (List.mem_of_getElem? (i := 1053) (by decide +kernel)) (by decide +kernel)
theorem wm_X6_night : Cond.instanceMethod yX6_night ∈ z_all := z_in (List.mem_of_getElem? (i := 1054) (by decide +kernel)) (by decide +kernel)
theorem ws_X6_night : Cond.selects RX6 yX6_night yX6_night ∈ z_all := z_in (List.mem_of_getElem? (i := 1055) (by decide +kernel)) (by decide +kernel)
theorem lL_75 : zMl 0 RL 75 mX6_night 1 := zMl_v wc_X6_night wi_X6 ⟨by decide, by decide⟩ (by decide +kernel) (by decide) wlL_75 wm_X6_night ws_X6_night
theorem wc_X5_best : Cond.code mX5_best.1 mX5_best.2.1 mX5_best.2.2.1 mX5_best.2.2.2 ∈ z_all := z_in (List.mem_of_getElem? (i := 665) (by decide +kernel)) (by decide +kernel)
theorem wlL_76 : Cond.methodLink RL 76 yX5_best ∈ z_all := z_in (List.mem_of_getElem? (i := 662) (by decide +kernel)) (by decide +kernel)
theorem wm_X5_best : Cond.instanceMethod yX5_best ∈ z_all := z_in (List.mem_of_getElem? (i := 663) (by decide +kernel)) (by decide +kernel)
theorem ws_X5_best : Cond.selects RX5 yX5_best yX5_best ∈ z_all := z_in (List.mem_of_getElem? (i := 664) (by decide +kernel)) (by decide +kernel)
theorem lL_76 : zMl 0 RL 76 mX5_best 2 := zMl_v wc_X5_best wi_X5 ⟨by decide, by decide⟩ (by decide +kernel) (by decide) wlL_76 wm_X5_best ws_X5_best
theorem wc_X6_best : Cond.code mX6_best.1 mX6_best.2.1 mX6_best.2.2.1 mX6_best.2.2.2 ∈ z_all := z_in (List.mem_of_getElem? (i := 1092) (by decide +kernel)) (by decide +kernel)
theorem wlL_79 : Cond.methodLink RL 79 yX6_best ∈ z_all := z_in (List.mem_of_getElem? (i := 1089) (by decide +kernel)) (by decide +kernel)
theorem wm_X6_best : Cond.instanceMethod yX6_best ∈ z_all := z_in (List.mem_of_getElem? (i := 1090) (by decide +kernel)) (by decide +kernel)
theorem ws_X6_best : Cond.selects RX6 yX6_best yX6_best ∈ z_all := z_in (List.mem_of_getElem? (i := 1091) (by decide +kernel)) (by decide +kernel)
theorem lL_79 : zMl 0 RL 79 mX6_best 2 := zMl_v wc_X6_best wi_X6 ⟨by decide, by decide⟩ (by decide +kernel) (by decide) wlL_79 wm_X6_best ws_X6_best
theorem wc_X5_needed : Cond.code mX5_needed.1 mX5_needed.2.1 mX5_needed.2.2.1 mX5_needed.2.2.2 ∈ z_all := z_in (List.mem_of_getElem? (i := 674) (by decide +kernel)) (by decide +kernel)
theorem wlL_80 : Cond.methodLink RL 80 yX5_needed ∈ z_all := z_in (List.mem_of_getElem? (i := 671) (by decide +kernel)) (by decide +kernel)
theorem wm_X5_needed : Cond.instanceMethod yX5_needed ∈ z_all := z_in (List.mem_of_getElem? (i := 672) (by decide +kernel)) (by decide +kernel)
theorem ws_X5_needed : Cond.selects RX5 yX5_needed yX5_needed ∈ z_all := z_in (List.mem_of_getElem? (i := 673) (by decide +kernel)) (by decide +kernel)
theorem lL_80 : zMl 0 RL 80 mX5_needed 0 := zMl_v wc_X5_needed wi_X5 ⟨by decide, by decide⟩ (by decide +kernel) (by decide) wlL_80 wm_X5_needed ws_X5_needed
theorem wc_X6_needed : Cond.code mX6_needed.1 mX6_needed.2.1 mX6_needed.2.2.1 mX6_needed.2.2.2 ∈ z_all := z_in (List.mem_of_getElem? (i := 1096) (by decide +kernel)) (by decide +kernel)
theorem wlL_83 : Cond.methodLink RL 83 yX6_needed ∈ z_all := z_in (List.mem_of_getElem? (i := 1093) (by decide +kernel)) (by decide +kernel)
theorem wm_X6_needed : Cond.instanceMethod yX6_needed ∈ z_all := z_in (List.mem_of_getElem? (i := 1094) (by decide +kernel)) (by decide +kernel)
theorem ws_X6_needed : Cond.selects RX6 yX6_needed yX6_needed ∈ z_all := z_in (List.mem_of_getElem? (i := 1095) (by decide +kernel)) (by decide +kernel)
theorem lL_83 : zMl 0 RL 83 mX6_needed 0 := zMl_v wc_X6_needed wi_X6 ⟨by decide, by decide⟩ (by decide +kernel) (by decide) wlL_83 wm_X6_needed ws_X6_needed
theorem wc_X5_odds : Cond.code mX5_odds.1 mX5_odds.2.1 mX5_odds.2.2.1 mX5_odds.2.2.2 ∈ z_all := z_in (List.mem_of_getElem? (i := 687) (by decide +kernel)) (by decide +kernel)
theorem wlL_84 : Cond.methodLink RL 84 yX5_odds ∈ z_all := z_in (List.mem_of_getElem? (i := 684) (by decide +kernel)) (by decide +kernel)
theorem wm_X5_odds : Cond.instanceMethod yX5_odds ∈ z_all := z_in (List.mem_of_getElem? (i := 685) (by decide +kernel)) (by decide +kernel)
theorem ws_X5_odds : Cond.selects RX5 yX5_odds yX5_odds ∈ z_all := z_in (List.mem_of_getElem? (i := 686) (by decide +kernel)) (by decide +kernel)
theorem lL_84 : zMl 0 RL 84 mX5_odds 2 := zMl_v wc_X5_odds wi_X5 ⟨by decide, by decide⟩ (by decide +kernel) (by decide) wlL_84 wm_X5_odds ws_X5_odds
theorem wc_X6_odds : Cond.code mX6_odds.1 mX6_odds.2.1 mX6_odds.2.2.1 mX6_odds.2.2.2 ∈ z_all := z_in (List.mem_of_getElem? (i := 1100) (by decide +kernel)) (by decide +kernel)
theorem wlL_87 : Cond.methodLink RL 87 yX6_odds ∈ z_all := z_in (List.mem_of_getElem? (i := 1097) (by decide +kernel)) (by decide +kernel)
theorem wm_X6_odds : Cond.instanceMethod yX6_odds ∈ z_all := z_in (List.mem_of_getElem? (i := 1098) (by decide +kernel)) (by decide +kernel)
theorem ws_X6_odds : Cond.selects RX6 yX6_odds yX6_odds ∈ z_all := z_in (List.mem_of_getElem? (i := 1099) (by decide +kernel)) (by decide +kernel)
theorem lL_87 : zMl 0 RL 87 mX6_odds 2 := zMl_v wc_X6_odds wi_X6 ⟨by decide, by decide⟩ (by decide +kernel) (by decide) wlL_87 wm_X6_odds ws_X6_odds
theorem wc_X5_stands : Cond.code mX5_stands.1 mX5_stands.2.1 mX5_stands.2.2.1 mX5_stands.2.2.2 ∈ z_all := z_in (List.mem_of_getElem? (i := 706) (by decide +kernel)) (by decide +kernel)
theorem wlL_88 : Cond.methodLink RL 88 yX5_stands ∈ z_all := z_in (List.mem_of_getElem? (i := 703) (by decide +kernel)) (by decide +kernel)
theorem wm_X5_stands : Cond.instanceMethod yX5_stands ∈ z_all := z_in (List.mem_of_getElem? (i := 704) (by decide +kernel)) (by decide +kernel)
theorem ws_X5_stands : Cond.selects RX5 yX5_stands yX5_stands ∈ z_all := z_in (List.mem_of_getElem? (i := 705) (by decide +kernel)) (by decide +kernel)
theorem lL_88 : zMl 0 RL 88 mX5_stands 1 := zMl_v wc_X5_stands wi_X5 ⟨by decide, by decide⟩ (by decide +kernel) (by decide) wlL_88 wm_X5_stands ws_X5_stands
theorem wc_X6_stands : Cond.code mX6_stands.1 mX6_stands.2.1 mX6_stands.2.2.1 mX6_stands.2.2.2 ∈ z_all := z_in (List.mem_of_getElem? (i := 1107) (by decide +kernel)) (by decide +kernel)
theorem wlL_91 : Cond.methodLink RL 91 yX6_stands ∈ z_all := z_in (List.mem_of_getElem? (i := 1104) (by decide +kernel)) (by decide +kernel)
theorem wm_X6_stands : Cond.instanceMethod yX6_stands ∈ z_all := z_in (List.mem_of_getElem? (i := 1105) (by decide +kernel)) (by decide +kernel)
theorem ws_X6_stands : Cond.selects RX6 yX6_stands yX6_stands ∈ z_all := z_in (List.mem_of_getElem? (i := 1106) (by decide +kernel)) (by decide +kernel)
theorem lL_91 : zMl 0 RL 91 mX6_stands 1 := zMl_v wc_X6_stands wi_X6 ⟨by decide, by decide⟩ (by decide +kernel) (by decide) wlL_91 wm_X6_stands ws_X6_stands
theorem wc_X5_heard : Cond.code mX5_heard.1 mX5_heard.2.1 mX5_heard.2.2.1 mX5_heard.2.2.2 ∈ z_all := z_in (List.mem_of_getElem? (i := 710) (by decide +kernel)) (by decide +kernel)
theorem wlL_92 : Cond.methodLink RL 92 yX5_heard ∈ z_all := z_in (List.mem_of_getElem? (i := 707) (by decide +kernel)) (by decide +kernel)
theorem wm_X5_heard : Cond.instanceMethod yX5_heard ∈ z_all := z_in (List.mem_of_getElem? (i := 708) (by decide +kernel)) (by decide +kernel)
theorem ws_X5_heard : Cond.selects RX5 yX5_heard yX5_heard ∈ z_all := z_in (List.mem_of_getElem? (i := 709) (by decide +kernel)) (by decide +kernel)
theorem lL_92 : zMl 0 RL 92 mX5_heard 2 := zMl_v wc_X5_heard wi_X5 ⟨by decide, by decide⟩ (by decide +kernel) (by decide) wlL_92 wm_X5_heard ws_X5_heard
theorem wc_X6_heard : Cond.code mX6_heard.1 mX6_heard.2.1 mX6_heard.2.2.1 mX6_heard.2.2.2 ∈ z_all := z_in (List.mem_of_getElem? (i := 1111) (by decide +kernel)) (by decide +kernel)
theorem wlL_95 : Cond.methodLink RL 95 yX6_heard ∈ z_all := z_in (List.mem_of_getElem? (i := 1108) (by decide +kernel)) (by decide +kernel)
theorem wm_X6_heard : Cond.instanceMethod yX6_heard ∈ z_all := z_in (List.mem_of_getElem? (i := 1109) (by decide +kernel)) (by decide +kernel)
theorem ws_X6_heard : Cond.selects RX6 yX6_heard yX6_heard ∈ z_all := z_in (List.mem_of_getElem? (i := 1110) (by decide +kernel)) (by decide +kernel)
theorem lL_95 : zMl 0 RL 95 mX6_heard 2 := zMl_v wc_X6_heard wi_X6 ⟨by decide, by decide⟩ (by decide +kernel) (by decide) wlL_95 wm_X6_heard ws_X6_heard
theorem wc_X5_forget : Cond.code mX5_forget.1 mX5_forget.2.1 mX5_forget.2.2.1 mX5_forget.2.2.2 ∈ z_all := z_in (List.mem_of_getElem? (i := 714) (by decide +kernel)) (by decide +kernel)
theorem wlL_96 : Cond.methodLink RL 96 yX5_forget ∈ z_all := z_in (List.mem_of_getElem? (i := 711) (by decide +kernel)) (by decide +kernel)
theorem wm_X5_forget : Cond.instanceMethod yX5_forget ∈ z_all := z_in (List.mem_of_getElem? (i := 712) (by decide +kernel)) (by decide +kernel)
theorem ws_X5_forget : Cond.selects RX5 yX5_forget yX5_forget ∈ z_all := z_in (List.mem_of_getElem? (i := 713) (by decide +kernel)) (by decide +kernel)
theorem lL_96 : zMl 0 RL 96 mX5_forget 0 := zMl_v wc_X5_forget wi_X5 ⟨by decide, by decide⟩ (by decide +kernel) (by decide) wlL_96 wm_X5_forget ws_X5_forget
theorem wc_X6_forget : Cond.code mX6_forget.1 mX6_forget.2.1 mX6_forget.2.2.1 mX6_forget.2.2.2 ∈ z_all := z_in (List.mem_of_getElem? (i := 1115) (by decide +kernel)) (by decide +kernel)
theorem wlL_99 : Cond.methodLink RL 99 yX6_forget ∈ z_all := z_in (List.mem_of_getElem? (i := 1112) (by decide +kernel)) (by decide +kernel)
theorem wm_X6_forget : Cond.instanceMethod yX6_forget ∈ z_all := z_in (List.mem_of_getElem? (i := 1113) (by decide +kernel)) (by decide +kernel)
theorem ws_X6_forget : Cond.selects RX6 yX6_forget yX6_forget ∈ z_all := z_in (List.mem_of_getElem? (i := 1114) (by decide +kernel)) (by decide +kernel)
theorem lL_99 : zMl 0 RL 99 mX6_forget 0 := zMl_v wc_X6_forget wi_X6 ⟨by decide, by decide⟩ (by decide +kernel) (by decide) wlL_99 wm_X6_forget ws_X6_forget
theorem wc_X5_away : Cond.code mX5_away.1 mX5_away.2.1 mX5_away.2.2.1 mX5_away.2.2.2 ∈ z_all := z_in (List.mem_of_getElem? (i := 718) (by decide +kernel)) (by decide +kernel)
theorem wlL_100 : Cond.methodLink RL 100 yX5_away ∈ z_all := z_in (List.mem_of_getElem? (i := 715) (by decide +kernel)) (by decide +kernel)
theorem wm_X5_away : Cond.instanceMethod yX5_away ∈ z_all := z_in (List.mem_of_getElem? (i := 716) (by decide +kernel)) (by decide +kernel)
theorem ws_X5_away : Cond.selects RX5 yX5_away yX5_away ∈ z_all := z_in (List.mem_of_getElem? (i := 717) (by decide +kernel)) (by decide +kernel)
theorem lL_100 : zMl 0 RL 100 mX5_away 1 := zMl_v wc_X5_away wi_X5 ⟨by decide, by decide⟩ (by decide +kernel) (by decide) wlL_100 wm_X5_away ws_X5_away
theorem wc_X6_away : Cond.code mX6_away.1 mX6_away.2.1 mX6_away.2.2.1 mX6_away.2.2.2 ∈ z_all := z_in (List.mem_of_getElem? (i := 1119) (by decide +kernel)) (by decide +kernel)
theorem wlL_103 : Cond.methodLink RL 103 yX6_away ∈ z_all := z_in (List.mem_of_getElem? (i := 1116) (by decide +kernel)) (by decide +kernel)
theorem wm_X6_away : Cond.instanceMethod yX6_away ∈ z_all := z_in (List.mem_of_getElem? (i := 1117) (by decide +kernel)) (by decide +kernel)
theorem ws_X6_away : Cond.selects RX6 yX6_away yX6_away ∈ z_all := z_in (List.mem_of_getElem? (i := 1118) (by decide +kernel)) (by decide +kernel)
theorem lL_103 : zMl 0 RL 103 mX6_away 1 := zMl_v wc_X6_away wi_X6 ⟨by decide, by decide⟩ (by decide +kernel) (by decide) wlL_103 wm_X6_away ws_X6_away
theorem wc_X5_mark : Cond.code mX5_mark.1 mX5_mark.2.1 mX5_mark.2.2.1 mX5_mark.2.2.2 ∈ z_all := z_in (List.mem_of_getElem? (i := 732) (by decide +kernel)) (by decide +kernel)
theorem wlL_104 : Cond.methodLink RL 104 yX5_mark ∈ z_all := z_in (List.mem_of_getElem? (i := 729) (by decide +kernel)) (by decide +kernel)
theorem wm_X5_mark : Cond.instanceMethod yX5_mark ∈ z_all := z_in (List.mem_of_getElem? (i := 730) (by decide +kernel)) (by decide +kernel)
theorem ws_X5_mark : Cond.selects RX5 yX5_mark yX5_mark ∈ z_all := z_in (List.mem_of_getElem? (i := 731) (by decide +kernel)) (by decide +kernel)
theorem lL_104 : zMl 0 RL 104 mX5_mark 2 := zMl_v wc_X5_mark wi_X5 ⟨by decide, by decide⟩ (by decide +kernel) (by decide) wlL_104 wm_X5_mark ws_X5_mark
theorem wc_X6_mark : Cond.code mX6_mark.1 mX6_mark.2.1 mX6_mark.2.2.1 mX6_mark.2.2.2 ∈ z_all := z_in (List.mem_of_getElem? (i := 1127) (by decide +kernel)) (by decide +kernel)
theorem wlL_107 : Cond.methodLink RL 107 yX6_mark ∈ z_all := z_in (List.mem_of_getElem? (i := 1124) (by decide +kernel)) (by decide +kernel)
theorem wm_X6_mark : Cond.instanceMethod yX6_mark ∈ z_all := z_in (List.mem_of_getElem? (i := 1125) (by decide +kernel)) (by decide +kernel)
theorem ws_X6_mark : Cond.selects RX6 yX6_mark yX6_mark ∈ z_all := z_in (List.mem_of_getElem? (i := 1126) (by decide +kernel)) (by decide +kernel)
theorem lL_107 : zMl 0 RL 107 mX6_mark 2 := zMl_v wc_X6_mark wi_X6 ⟨by decide, by decide⟩ (by decide +kernel) (by decide) wlL_107 wm_X6_mark ws_X6_mark
theorem wc_X5_keep : Cond.code mX5_keep.1 mX5_keep.2.1 mX5_keep.2.2.1 mX5_keep.2.2.2 ∈ z_all := z_in (List.mem_of_getElem? (i := 772) (by decide +kernel)) (by decide +kernel)
theorem wlL_108 : Cond.methodLink RL 108 yX5_keep ∈ z_all := z_in (List.mem_of_getElem? (i := 769) (by decide +kernel)) (by decide +kernel)
theorem wm_X5_keep : Cond.instanceMethod yX5_keep ∈ z_all := z_in (List.mem_of_getElem? (i := 770) (by decide +kernel)) (by decide +kernel)
theorem ws_X5_keep : Cond.selects RX5 yX5_keep yX5_keep ∈ z_all := z_in (List.mem_of_getElem? (i := 771) (by decide +kernel)) (by decide +kernel)
theorem lL_108 : zMl 0 RL 108 mX5_keep 1 := zMl_v wc_X5_keep wi_X5 ⟨by decide, by decide⟩ (by decide +kernel) (by decide) wlL_108 wm_X5_keep ws_X5_keep
theorem wc_X6_keep : Cond.code mX6_keep.1 mX6_keep.2.1 mX6_keep.2.2.1 mX6_keep.2.2.2 ∈ z_all := z_in (List.mem_of_getElem? (i := 1137) (by decide +kernel)) (by decide +kernel)
theorem wlL_111 : Cond.methodLink RL 111 yX6_keep ∈ z_all := z_in (List.mem_of_getElem? (i := 1134) (by decide +kernel)) (by decide +kernel)
theorem wm_X6_keep : Cond.instanceMethod yX6_keep ∈ z_all := z_in (List.mem_of_getElem? (i := 1135) (by decide +kernel)) (by decide +kernel)
theorem ws_X6_keep : Cond.selects RX6 yX6_keep yX6_keep ∈ z_all := z_in (List.mem_of_getElem? (i := 1136) (by decide +kernel)) (by decide +kernel)
theorem lL_111 : zMl 0 RL 111 mX6_keep 1 := zMl_v wc_X6_keep wi_X6 ⟨by decide, by decide⟩ (by decide +kernel) (by decide) wlL_111 wm_X6_keep ws_X6_keep
theorem wc_X5_back : Cond.code mX5_back.1 mX5_back.2.1 mX5_back.2.2.1 mX5_back.2.2.2 ∈ z_all := z_in (List.mem_of_getElem? (i := 783) (by decide +kernel)) (by decide +kernel)
theorem wlL_112 : Cond.methodLink RL 112 yX5_back ∈ z_all := z_in (List.mem_of_getElem? (i := 780) (by decide +kernel)) (by decide +kernel)
theorem wm_X5_back : Cond.instanceMethod yX5_back ∈ z_all := z_in (List.mem_of_getElem? (i := 781) (by decide +kernel)) (by decide +kernel)
theorem ws_X5_back : Cond.selects RX5 yX5_back yX5_back ∈ z_all := z_in (List.mem_of_getElem? (i := 782) (by decide +kernel)) (by decide +kernel)
theorem lL_112 : zMl 0 RL 112 mX5_back 1 := zMl_v wc_X5_back wi_X5 ⟨by decide, by decide⟩ (by decide +kernel) (by decide) wlL_112 wm_X5_back ws_X5_back
theorem wc_X6_back : Cond.code mX6_back.1 mX6_back.2.1 mX6_back.2.2.1 mX6_back.2.2.2 ∈ z_all := z_in (List.mem_of_getElem? (i := 1145) (by decide +kernel)) (by decide +kernel)
theorem wlL_115 : Cond.methodLink RL 115 yX6_back ∈ z_all := z_in (List.mem_of_getElem? (i := 1142) (by decide +kernel)) (by decide +kernel)
theorem wm_X6_back : Cond.instanceMethod yX6_back ∈ z_all := z_in (List.mem_of_getElem? (i := 1143) (by decide +kernel)) (by decide +kernel)
theorem ws_X6_back : Cond.selects RX6 yX6_back yX6_back ∈ z_all := z_in (List.mem_of_getElem? (i := 1144) (by decide +kernel)) (by decide +kernel)
theorem lL_115 : zMl 0 RL 115 mX6_back 1 := zMl_v wc_X6_back wi_X6 ⟨by decide, by decide⟩ (by decide +kernel) (by decide) wlL_115 wm_X6_back ws_X6_back
theorem wc_X5_count : Cond.code mX5_count.1 mX5_count.2.1 mX5_count.2.2.1 mX5_count.2.2.2 ∈ z_all := z_in (List.mem_of_getElem? (i := 787) (by decide +kernel)) (by decide +kernel)
theorem wlL_116 : Cond.methodLink RL 116 yX5_count ∈ z_all := z_in (List.mem_of_getElem? (i := 784) (by decide +kernel)) (by decide +kernel)
theorem wm_X5_count : Cond.instanceMethod yX5_count ∈ z_all := z_in (List.mem_of_getElem? (i := 785) (by decide +kernel)) (by decide +kernel)
theorem ws_X5_count : Cond.selects RX5 yX5_count yX5_count ∈ z_all := z_in (List.mem_of_getElem? (i := 786) (by decide +kernel)) (by decide +kernel)
theorem lL_116 : zMl 0 RL 116 mX5_count 1 := zMl_v wc_X5_count wi_X5 ⟨by decide, by decide⟩ (by decide +kernel) (by decide) wlL_116 wm_X5_count ws_X5_count
theorem wc_X6_count : Cond.code mX6_count.1 mX6_count.2.1 mX6_count.2.2.1 mX6_count.2.2.2 ∈ z_all := z_in (List.mem_of_getElem? (i := 1149) (by decide +kernel)) (by decide +kernel)
theorem wlL_119 : Cond.methodLink RL 119 yX6_count ∈ z_all := z_in (List.mem_of_getElem? (i := 1146) (by decide +kernel)) (by decide +kernel)
theorem wm_X6_count : Cond.instanceMethod yX6_count ∈ z_all := z_in (List.mem_of_getElem? (i := 1147) (by decide +kernel)) (by decide +kernel)
theorem ws_X6_count : Cond.selects RX6 yX6_count yX6_count ∈ z_all := z_in (List.mem_of_getElem? (i := 1148) (by decide +kernel)) (by decide +kernel)
theorem lL_119 : zMl 0 RL 119 mX6_count 1 := zMl_v wc_X6_count wi_X6 ⟨by decide, by decide⟩ (by decide +kernel) (by decide) wlL_119 wm_X6_count ws_X6_count
theorem wc_X5_trace : Cond.code mX5_trace.1 mX5_trace.2.1 mX5_trace.2.2.1 mX5_trace.2.2.2 ∈ z_all := z_in (List.mem_of_getElem? (i := 791) (by decide +kernel)) (by decide +kernel)
theorem wlL_120 : Cond.methodLink RL 120 yX5_trace ∈ z_all := z_in (List.mem_of_getElem? (i := 788) (by decide +kernel)) (by decide +kernel)
theorem wm_X5_trace : Cond.instanceMethod yX5_trace ∈ z_all := z_in (List.mem_of_getElem? (i := 789) (by decide +kernel)) (by decide +kernel)
theorem ws_X5_trace : Cond.selects RX5 yX5_trace yX5_trace ∈ z_all := z_in (List.mem_of_getElem? (i := 790) (by decide +kernel)) (by decide +kernel)
theorem lL_120 : zMl 0 RL 120 mX5_trace 0 := zMl_v wc_X5_trace wi_X5 ⟨by decide, by decide⟩ (by decide +kernel) (by decide) wlL_120 wm_X5_trace ws_X5_trace
theorem wc_X6_trace : Cond.code mX6_trace.1 mX6_trace.2.1 mX6_trace.2.2.1 mX6_trace.2.2.2 ∈ z_all := z_in (List.mem_of_getElem? (i := 1153) (by decide +kernel)) (by decide +kernel)
theorem wlL_124 : Cond.methodLink RL 124 yX6_trace ∈ z_all := z_in (List.mem_of_getElem? (i := 1150) (by decide +kernel)) (by decide +kernel)
theorem wm_X6_trace : Cond.instanceMethod yX6_trace ∈ z_all := z_in (List.mem_of_getElem? (i := 1151) (by decide +kernel)) (by decide +kernel)
theorem ws_X6_trace : Cond.selects RX6 yX6_trace yX6_trace ∈ z_all := z_in (List.mem_of_getElem? (i := 1152) (by decide +kernel)) (by decide +kernel)
theorem lL_124 : zMl 0 RL 124 mX6_trace 0 := zMl_v wc_X6_trace wi_X6 ⟨by decide, by decide⟩ (by decide +kernel) (by decide) wlL_124 wm_X6_trace ws_X6_trace
end
section
theorem kX0_most_0 {K : zK} {l : Launch} {d : Nat} {ls : List (Nat × Value)} {st : List Value} {n : Nat} {h : zH} {mc ms : Nat} {Q : zQ} (k : zGb K l d mX0_most [(0, .iconst 0), (1, .istore_n 2), (2, .iconst 1), (3, .istore_n 3)] 4 ls st n h mc ms Q) : zGo K l d mX0_most 0 ls st n h mc ms Q := k (by decide +kernel)
theorem kX0_most_4 {K : zK} {l : Launch} {d : Nat} {ls : List (Nat × Value)} {st : List Value} {n : Nat} {h : zH} {mc ms : Nat} {Q : zQ} (k : zGb K l d mX0_most [(4, .iload_n 3), (5, .iconst 1), (6, .aload_n 0), (7, .getfield 9), (10, .iload_n 1), (11, .iaload), (12, .ishl), (13, .if_icmp .ge 22), (16, .iload_n 2), (17, .aload_n 0), (18, .iload_n 1), (19, .bipush 63), (21, .iload_n 3), (22, .invokestatic 15), (25, .invokestatic 21), (28, .istore_n 2), (29, .iinc 3 1), (32, .goto (-28))] 35 ls st n h mc ms Q) : zGo K l d mX0_most 4 ls st n h mc ms Q := k (by decide +kernel)
theorem kX0_most_35 {K : zK} {l : Launch} {d : Nat} {ls : List (Nat × Value)} {st : List Value} {n : Nat} {h : zH} {mc ms : Nat} {Q : zQ} (k : zGb K l d mX0_most [(35, .aload_n 0), (36, .getfield 9), (39, .iload_n 1), (40, .iaload), (41, .iload_n 2), (42, .isub), (43, .ireturn)] 44 ls st n h mc ms Q) : zGo K l d mX0_most 35 ls st n h mc ms Q := k (by decide +kernel)
theorem kX0_firstBar_0 {K : zK} {l : Launch} {d : Nat} {ls : List (Nat × Value)} {st : List Value} {n : Nat} {h : zH} {mc ms : Nat} {Q : zQ} (k : zGb K l d mX0_firstBar [(0, .iconst 1), (1, .istore_n 3)] 2 ls st n h mc ms Q) : zGo K l d mX0_firstBar 0 ls st n h mc ms Q := k (by decide +kernel)
theorem kX0_firstBar_2 {K : zK} {l : Launch} {d : Nat} {ls : List (Nat × Value)} {st : List Value} {n : Nat} {h : zH} {mc ms : Nat} {Q : zQ} (k : zGb K l d mX0_firstBar [(2, .iload_n 3), (3, .iconst 1), (4, .aload_n 0), (5, .getfield 9), (8, .iload_n 1), (9, .iaload), (10, .ishl), (11, .if_icmp .ge 21), (14, .aload_n 0), (15, .iload_n 1), (16, .iload_n 2), (17, .iload_n 3), (18, .invokestatic 15), (21, .ifCond .le 5), (24, .iload_n 3), (25, .ireturn)] 26 ls st n h mc ms Q) : zGo K l d mX0_firstBar 2 ls st n h mc ms Q := k (by decide +kernel)
theorem kX0_firstBar_26 {K : zK} {l : Launch} {d : Nat} {ls : List (Nat × Value)} {st : List Value} {n : Nat} {h : zH} {mc ms : Nat} {Q : zQ} (k : zGb K l d mX0_firstBar [(26, .iinc 3 1), (29, .goto (-27))] 32 ls st n h mc ms Q) : zGo K l d mX0_firstBar 26 ls st n h mc ms Q := k (by decide +kernel)
theorem kX0_firstBar_32 {K : zK} {l : Launch} {d : Nat} {ls : List (Nat × Value)} {st : List Value} {n : Nat} {h : zH} {mc ms : Nat} {Q : zQ} (k : zGb K l d mX0_firstBar [(32, .bipush (-9)), (34, .ireturn)] 35 ls st n h mc ms Q) : zGo K l d mX0_firstBar 32 ls st n h mc ms Q := k (by decide +kernel)
theorem kX0_lostIn_0 {K : zK} {l : Launch} {d : Nat} {ls : List (Nat × Value)} {st : List Value} {n : Nat} {h : zH} {mc ms : Nat} {Q : zQ} (k : zGb K l d mX0_lostIn [(0, .iload_n 3), (1, .invokestatic 27), (4, .aload_n 0), (5, .iload_n 1), (6, .iload_n 2), (7, .iload_n 3), (8, .invokevirtual 33), (11, .isub), (12, .ireturn)] 13 ls st n h mc ms Q) : zGo K l d mX0_lostIn 0 ls st n h mc ms Q := k (by decide +kernel)
theorem kX0_fullWeight_0 {K : zK} {l : Launch} {d : Nat} {ls : List (Nat × Value)} {st : List Value} {n : Nat} {h : zH} {mc ms : Nat} {Q : zQ} (k : zGb K l d mX0_fullWeight [(0, .iconst 0), (1, .istore_n 2), (2, .iconst 0), (3, .istore_n 3)] 4 ls st n h mc ms Q) : zGo K l d mX0_fullWeight 0 ls st n h mc ms Q := k (by decide +kernel)
theorem kX0_fullWeight_4 {K : zK} {l : Launch} {d : Nat} {ls : List (Nat × Value)} {st : List Value} {n : Nat} {h : zH} {mc ms : Nat} {Q : zQ} (k : zGb K l d mX0_fullWeight [(4, .iload_n 3), (5, .iconst 1), (6, .aload_n 0), (7, .getfield 37), (10, .ishl), (11, .if_icmp .ge 37), (14, .aload_n 0), (15, .iload_n 3), (16, .invokevirtual 41), (19, .istore 4), (21, .iload 4), (23, .ifCond .le 19), (26, .aload_n 0), (27, .iload_n 1), (28, .iload_n 3), (29, .invokestatic 44), (32, .bipush (-9)), (34, .if_icmp .ne 8), (37, .iload_n 2), (38, .iload 4), (40, .iadd), (41, .istore_n 2)] 42 ls st n h mc ms Q) : zGo K l d mX0_fullWeight 4 ls st n h mc ms Q := k (by decide +kernel)
theorem kX0_fullWeight_42 {K : zK} {l : Launch} {d : Nat} {ls : List (Nat × Value)} {st : List Value} {n : Nat} {h : zH} {mc ms : Nat} {Q : zQ} (k : zGb K l d mX0_fullWeight [(42, .iinc 3 1), (45, .goto (-41))] 48 ls st n h mc ms Q) : zGo K l d mX0_fullWeight 42 ls st n h mc ms Q := k (by decide +kernel)
theorem kX0_fullWeight_48 {K : zK} {l : Launch} {d : Nat} {ls : List (Nat × Value)} {st : List Value} {n : Nat} {h : zH} {mc ms : Nat} {Q : zQ} (k : zGb K l d mX0_fullWeight [(48, .iload_n 2), (49, .ireturn)] 50 ls st n h mc ms Q) : zGo K l d mX0_fullWeight 48 ls st n h mc ms Q := k (by decide +kernel)
theorem kX1_init_0 {K : zK} {l : Launch} {d : Nat} {ls : List (Nat × Value)} {st : List Value} {n : Nat} {h : zH} {mc ms : Nat} {Q : zQ} (k : zGb K l d mX1_init [(0, .aload_n 0), (1, .invokespecial 5), (4, .aload_n 0), (5, .iconst 0), (6, .putfield 11), (9, .aload_n 0), (10, .iconst 0), (11, .putfield 15), (14, .aload_n 0), (15, .iconst 1), (16, .putfield 19), (19, .aload_n 0), (20, .iconst 0), (21, .putfield 22), (24, .aload_n 0), (25, .lconst 0), (26, .putfield 25), (29, .aload_n 0), (30, .iconst (-1)), (31, .putfield 29), (34, .aload_n 0), (35, .iconst (-1)), (36, .putfield 32), (39, .aload_n 0), (40, .iconst (-1)), (41, .putfield 35), (44, .aload_n 0), (45, .sipush 256), (48, .newarray .int), (50, .putfield 38), (53, .aload_n 0), (54, .iconst 4), (55, .newarray .int), (57, .putfield 42), (60, .aload_n 0), (61, .sipush 256), (64, .newarray .long), (66, .putfield 45), (69, .aload_n 0), (70, .sipush 256), (73, .newarray .long), (75, .putfield 49), (78, .aload_n 0), (79, .iconst 0), (80, .putfield 52), (83, .aload_n 0), (84, .iconst 0), (85, .putfield 55), (88, .aload_n 0), (89, .ldc2_w 58), (92, .putfield 60), (95, .aload_n 0), (96, .ldc2_w 63), (99, .putfield 65), (102, .aload_n 0), (103, .iconst 4), (104, .newarray .int), (106, .putfield 68), (109, .return_)] 110 ls st n h mc ms Q) : zGo K l d mX1_init 0 ls st n h mc ms Q := k (by decide +kernel)
theorem kX1_forParish_0 {K : zK} {l : Launch} {d : Nat} {ls : List (Nat × Value)} {st : List Value} {n : Nat} {h : zH} {mc ms : Nat} {Q : zQ} (k : zGb K l d mX1_forParish [(0, .aload_n 0), (1, .iconst 0), (2, .putfield 11), (5, .aload_n 0), (6, .iconst (-1)), (7, .putfield 29), (10, .aload_n 0), (11, .iconst (-1)), (12, .putfield 32), (15, .aload_n 0), (16, .iconst (-1)), (17, .putfield 35), (20, .return_)] 21 ls st n h mc ms Q) : zGo K l d mX1_forParish 0 ls st n h mc ms Q := k (by decide +kernel)
theorem kX1_forTower_0 {K : zK} {l : Launch} {d : Nat} {ls : List (Nat × Value)} {st : List Value} {n : Nat} {h : zH} {mc ms : Nat} {Q : zQ} (k : zGb K l d mX1_forTower [(0, .aload_n 0), (1, .iconst 0), (2, .putfield 11), (5, .return_)] 6 ls st n h mc ms Q) : zGo K l d mX1_forTower 0 ls st n h mc ms Q := k (by decide +kernel)
theorem kX1_settle_0 {K : zK} {l : Launch} {d : Nat} {ls : List (Nat × Value)} {st : List Value} {n : Nat} {h : zH} {mc ms : Nat} {Q : zQ} (k : zGb K l d mX1_settle [(0, .aload_n 0), (1, .getfield 11), (4, .ifCond .eq 4), (7, .return_)] 8 ls st n h mc ms Q) : zGo K l d mX1_settle 0 ls st n h mc ms Q := k (by decide +kernel)
theorem kX1_settle_8 {K : zK} {l : Launch} {d : Nat} {ls : List (Nat × Value)} {st : List Value} {n : Nat} {h : zH} {mc ms : Nat} {Q : zQ} (k : zGb K l d mX1_settle [(8, .aload_n 0), (9, .aload_n 1), (10, .getfield 71), (13, .putfield 15), (16, .aload_n 0), (17, .aload_n 1), (18, .getfield 74), (21, .putfield 19), (24, .aload_n 0), (25, .aload_n 1), (26, .getfield 75), (29, .putfield 22), (32, .iconst 0), (33, .istore_n 3)] 34 ls st n h mc ms Q) : zGo K l d mX1_settle 8 ls st n h mc ms Q := k (by decide +kernel)
theorem kX1_settle_34 {K : zK} {l : Launch} {d : Nat} {ls : List (Nat × Value)} {st : List Value} {n : Nat} {h : zH} {mc ms : Nat} {Q : zQ} (k : zGb K l d mX1_settle [(34, .iload_n 3), (35, .iconst 4), (36, .if_icmp .ge 21), (39, .aload_n 0), (40, .aload_n 1), (41, .iload_n 2), (42, .iload_n 3), (43, .invokevirtual 76), (46, .aload_n 0), (47, .iload_n 3), (48, .invokevirtual 80), (51, .iinc 3 1), (54, .goto (-20))] 57 ls st n h mc ms Q) : zGo K l d mX1_settle 34 ls st n h mc ms Q := k (by decide +kernel)
theorem kX1_settle_57 {K : zK} {l : Launch} {d : Nat} {ls : List (Nat × Value)} {st : List Value} {n : Nat} {h : zH} {mc ms : Nat} {Q : zQ} (k : zGb K l d mX1_settle [(57, .aload_n 0), (58, .aload_n 0), (59, .ldc2_w 58), (62, .aload_n 0), (63, .invokevirtual 84), (66, .aload_n 0), (67, .getfield 19), (70, .ldc2_w 63), (73, .invokevirtual 88), (76, .putfield 25), (79, .aload_n 0), (80, .iconst 1), (81, .putfield 11), (84, .return_)] 85 ls st n h mc ms Q) : zGo K l d mX1_settle 57 ls st n h mc ms Q := k (by decide +kernel)
theorem kX1_everyone_0 {K : zK} {l : Launch} {d : Nat} {ls : List (Nat × Value)} {st : List Value} {n : Nat} {h : zH} {mc ms : Nat} {Q : zQ} (k : zGb K l d mX1_everyone [(0, .iconst 1), (1, .aload_n 0), (2, .getfield 15), (5, .ishl), (6, .iconst 1), (7, .isub), (8, .ireturn)] 9 ls st n h mc ms Q) : zGo K l d mX1_everyone 0 ls st n h mc ms Q := k (by decide +kernel)
theorem kX1_fewestShort_0 {K : zK} {l : Launch} {d : Nat} {ls : List (Nat × Value)} {st : List Value} {n : Nat} {h : zH} {mc ms : Nat} {Q : zQ} (k : zGb K l d mX1_fewestShort [(0, .aload_n 0), (1, .getfield 25), (4, .bipush 59), (6, .lushr), (7, .l2i), (8, .ireturn)] 9 ls st n h mc ms Q) : zGo K l d mX1_fewestShort 0 ls st n h mc ms Q := k (by decide +kernel)
theorem kX1_leastWalk_0 {K : zK} {l : Launch} {d : Nat} {ls : List (Nat × Value)} {st : List Value} {n : Nat} {h : zH} {mc ms : Nat} {Q : zQ} (k : zGb K l d mX1_leastWalk [(0, .aload_n 0), (1, .getfield 25), (4, .bipush 48), (6, .lushr), (7, .ldc2_w 92), (10, .land), (11, .l2i), (12, .ireturn)] 13 ls st n h mc ms Q) : zGo K l d mX1_leastWalk 0 ls st n h mc ms Q := k (by decide +kernel)
theorem kX1_firstBell_0 {K : zK} {l : Launch} {d : Nat} {ls : List (Nat × Value)} {st : List Value} {n : Nat} {h : zH} {mc ms : Nat} {Q : zQ} (k : zGb K l d mX1_firstBell [(0, .aload_n 0), (1, .getfield 25), (4, .iload_n 1), (5, .iload_n 2), (6, .invokestatic 94), (9, .lushr), (10, .ldc2_w 98), (13, .land), (14, .l2i), (15, .istore_n 3), (16, .iload_n 3), (17, .ifCond .ne 8), (20, .bipush (-9)), (22, .goto 6)] 25 ls st n h mc ms Q) : zGo K l d mX1_firstBell 0 ls st n h mc ms Q := k (by decide +kernel)
theorem kX1_firstBell_25 {K : zK} {l : Launch} {d : Nat} {ls : List (Nat × Value)} {st : List Value} {n : Nat} {h : zH} {mc ms : Nat} {Q : zQ} (k : zGb K l d mX1_firstBell [(25, .iload_n 3), (26, .iconst 1), (27, .isub)] 28 ls st n h mc ms Q) : zGo K l d mX1_firstBell 25 ls st n h mc ms Q := k (by decide +kernel)
theorem kX1_firstBell_28 {K : zK} {l : Launch} {d : Nat} {ls : List (Nat × Value)} {st : List Value} {n : Nat} {h : zH} {mc ms : Nat} {Q : zQ} (k : zGb K l d mX1_firstBell [(28, .ireturn)] 29 ls st n h mc ms Q) : zGo K l d mX1_firstBell 28 ls st n h mc ms Q := k (by decide +kernel)
theorem kX1_fewestRingers_0 {K : zK} {l : Launch} {d : Nat} {ls : List (Nat × Value)} {st : List Value} {n : Nat} {h : zH} {mc ms : Nat} {Q : zQ} (k : zGb K l d mX1_fewestRingers [(0, .aload_n 0), (1, .getfield 29), (4, .iconst (-1)), (5, .if_icmp .ne 43), (8, .aload_n 0), (9, .iconst 0), (10, .putfield 29)] 13 ls st n h mc ms Q) : zGo K l d mX1_fewestRingers 0 ls st n h mc ms Q := k (by decide +kernel)
theorem kX1_fewestRingers_13 {K : zK} {l : Launch} {d : Nat} {ls : List (Nat × Value)} {st : List Value} {n : Nat} {h : zH} {mc ms : Nat} {Q : zQ} (k : zGb K l d mX1_fewestRingers [(13, .aload_n 0), (14, .getfield 29), (17, .aload_n 0), (18, .getfield 15), (21, .if_icmp .ge 27), (24, .aload_n 0), (25, .aload_n 0), (26, .getfield 29), (29, .invokevirtual 100), (32, .ifCond .ne 16), (35, .aload_n 0), (36, .dup), (37, .getfield 29), (40, .iconst 1), (41, .iadd), (42, .putfield 29), (45, .goto (-32))] 48 ls st n h mc ms Q) : zGo K l d mX1_fewestRingers 13 ls st n h mc ms Q := k (by decide +kernel)
theorem kX1_fewestRingers_48 {K : zK} {l : Launch} {d : Nat} {ls : List (Nat × Value)} {st : List Value} {n : Nat} {h : zH} {mc ms : Nat} {Q : zQ} (k : zGb K l d mX1_fewestRingers [(48, .aload_n 0), (49, .getfield 29), (52, .ireturn)] 53 ls st n h mc ms Q) : zGo K l d mX1_fewestRingers 48 ls st n h mc ms Q := k (by decide +kernel)
theorem kX1_areEnough_0 {K : zK} {l : Launch} {d : Nat} {ls : List (Nat × Value)} {st : List Value} {n : Nat} {h : zH} {mc ms : Nat} {Q : zQ} (k : zGb K l d mX1_areEnough [(0, .iconst 0), (1, .istore_n 2)] 2 ls st n h mc ms Q) : zGo K l d mX1_areEnough 0 ls st n h mc ms Q := k (by decide +kernel)
theorem kX1_areEnough_2 {K : zK} {l : Launch} {d : Nat} {ls : List (Nat × Value)} {st : List Value} {n : Nat} {h : zH} {mc ms : Nat} {Q : zQ} (k : zGb K l d mX1_areEnough [(2, .iload_n 2), (3, .aload_n 0), (4, .invokevirtual 84), (7, .if_icmp .gt 31), (10, .iload_n 2), (11, .invokestatic 104), (14, .iload_n 1), (15, .if_icmp .ne 17), (18, .aload_n 0), (19, .iload_n 2), (20, .aload_n 0), (21, .getfield 19), (24, .invokevirtual 110), (27, .ifCond .eq 5), (30, .iconst 1), (31, .ireturn)] 32 ls st n h mc ms Q) : zGo K l d mX1_areEnough 2 ls st n h mc ms Q := k (by decide +kernel)
theorem kX1_areEnough_32 {K : zK} {l : Launch} {d : Nat} {ls : List (Nat × Value)} {st : List Value} {n : Nat} {h : zH} {mc ms : Nat} {Q : zQ} (k : zGb K l d mX1_areEnough [(32, .iinc 2 1), (35, .goto (-33))] 38 ls st n h mc ms Q) : zGo K l d mX1_areEnough 32 ls st n h mc ms Q := k (by decide +kernel)
theorem kX1_areEnough_38 {K : zK} {l : Launch} {d : Nat} {ls : List (Nat × Value)} {st : List Value} {n : Nat} {h : zH} {mc ms : Nat} {Q : zQ} (k : zGb K l d mX1_areEnough [(38, .iconst 0), (39, .ireturn)] 40 ls st n h mc ms Q) : zGo K l d mX1_areEnough 38 ls st n h mc ms Q := k (by decide +kernel)
theorem kX1_mostEven_0 {K : zK} {l : Launch} {d : Nat} {ls : List (Nat × Value)} {st : List Value} {n : Nat} {h : zH} {mc ms : Nat} {Q : zQ} (k : zGb K l d mX1_mostEven [(0, .aload_n 0), (1, .getfield 32), (4, .iconst (-1)), (5, .if_icmp .ne 45), (8, .aload_n 0), (9, .aload_n 0), (10, .getfield 19), (13, .putfield 32), (16, .aload_n 0), (17, .getfield 19), (20, .iconst 1), (21, .isub), (22, .istore_n 1)] 23 ls st n h mc ms Q) : zGo K l d mX1_mostEven 0 ls st n h mc ms Q := k (by decide +kernel)
theorem kX1_mostEven_23 {K : zK} {l : Launch} {d : Nat} {ls : List (Nat × Value)} {st : List Value} {n : Nat} {h : zH} {mc ms : Nat} {Q : zQ} (k : zGb K l d mX1_mostEven [(23, .iload_n 1), (24, .ifCond .lt 26), (27, .aload_n 0), (28, .aload_n 0), (29, .invokevirtual 84), (32, .iload_n 1), (33, .invokevirtual 110), (36, .ifCond .eq 14), (39, .aload_n 0), (40, .iload_n 1), (41, .putfield 32), (44, .iinc 1 (-1)), (47, .goto (-24))] 50 ls st n h mc ms Q) : zGo K l d mX1_mostEven 23 ls st n h mc ms Q := k (by decide +kernel)
theorem kX1_mostEven_50 {K : zK} {l : Launch} {d : Nat} {ls : List (Nat × Value)} {st : List Value} {n : Nat} {h : zH} {mc ms : Nat} {Q : zQ} (k : zGb K l d mX1_mostEven [(50, .aload_n 0), (51, .getfield 32), (54, .ireturn)] 55 ls st n h mc ms Q) : zGo K l d mX1_mostEven 50 ls st n h mc ms Q := k (by decide +kernel)
theorem kX1_missedRingers_0 {K : zK} {l : Launch} {d : Nat} {ls : List (Nat × Value)} {st : List Value} {n : Nat} {h : zH} {mc ms : Nat} {Q : zQ} (k : zGb K l d mX1_missedRingers [(0, .aload_n 0), (1, .getfield 35), (4, .iconst (-1)), (5, .if_icmp .ne 65), (8, .aload_n 0), (9, .iconst 0), (10, .putfield 35), (13, .iconst 0), (14, .istore_n 1)] 15 ls st n h mc ms Q) : zGo K l d mX1_missedRingers 0 ls st n h mc ms Q := k (by decide +kernel)
theorem kX1_missedRingers_15 {K : zK} {l : Launch} {d : Nat} {ls : List (Nat × Value)} {st : List Value} {n : Nat} {h : zH} {mc ms : Nat} {Q : zQ} (k : zGb K l d mX1_missedRingers [(15, .iload_n 1), (16, .aload_n 0), (17, .getfield 15), (20, .if_icmp .ge 50), (23, .aload_n 0), (24, .iload_n 1), (25, .invokevirtual 114), (28, .ifCond .eq 36), (31, .aload_n 0), (32, .aload_n 0), (33, .invokevirtual 84), (36, .iconst 1), (37, .iload_n 1), (38, .ishl), (39, .iconst (-1)), (40, .ixor), (41, .iand), (42, .aload_n 0), (43, .getfield 19), (46, .invokevirtual 110), (49, .ifCond .ne 15), (52, .aload_n 0), (53, .dup), (54, .getfield 35), (57, .iconst 1), (58, .iload_n 1), (59, .ishl), (60, .ior), (61, .putfield 35)] 64 ls st n h mc ms Q) : zGo K l d mX1_missedRingers 15 ls st n h mc ms Q := k (by decide +kernel)
theorem kX1_missedRingers_64 {K : zK} {l : Launch} {d : Nat} {ls : List (Nat × Value)} {st : List Value} {n : Nat} {h : zH} {mc ms : Nat} {Q : zQ} (k : zGb K l d mX1_missedRingers [(64, .iinc 1 1), (67, .goto (-52))] 70 ls st n h mc ms Q) : zGo K l d mX1_missedRingers 64 ls st n h mc ms Q := k (by decide +kernel)
theorem kX1_missedRingers_70 {K : zK} {l : Launch} {d : Nat} {ls : List (Nat × Value)} {st : List Value} {n : Nat} {h : zH} {mc ms : Nat} {Q : zQ} (k : zGb K l d mX1_missedRingers [(70, .aload_n 0), (71, .getfield 35), (74, .ireturn)] 75 ls st n h mc ms Q) : zGo K l d mX1_missedRingers 70 ls st n h mc ms Q := k (by decide +kernel)
theorem kX1_ringsInFirst_0 {K : zK} {l : Launch} {d : Nat} {ls : List (Nat × Value)} {st : List Value} {n : Nat} {h : zH} {mc ms : Nat} {Q : zQ} (k : zGb K l d mX1_ringsInFirst [(0, .iconst 0), (1, .istore_n 2)] 2 ls st n h mc ms Q) : zGo K l d mX1_ringsInFirst 0 ls st n h mc ms Q := k (by decide +kernel)
theorem kX1_ringsInFirst_2 {K : zK} {l : Launch} {d : Nat} {ls : List (Nat × Value)} {st : List Value} {n : Nat} {h : zH} {mc ms : Nat} {Q : zQ} (k : zGb K l d mX1_ringsInFirst [(2, .iload_n 2), (3, .iconst 4), (4, .if_icmp .ge 22), (7, .aload_n 0), (8, .iload_n 1), (9, .iload_n 2), (10, .invokevirtual 117), (13, .bipush (-9)), (15, .if_icmp .eq 5), (18, .iconst 1), (19, .ireturn)] 20 ls st n h mc ms Q) : zGo K l d mX1_ringsInFirst 2 ls st n h mc ms Q := k (by decide +kernel)
theorem kX1_ringsInFirst_20 {K : zK} {l : Launch} {d : Nat} {ls : List (Nat × Value)} {st : List Value} {n : Nat} {h : zH} {mc ms : Nat} {Q : zQ} (k : zGb K l d mX1_ringsInFirst [(20, .iinc 2 1), (23, .goto (-21))] 26 ls st n h mc ms Q) : zGo K l d mX1_ringsInFirst 20 ls st n h mc ms Q := k (by decide +kernel)
theorem kX1_ringsInFirst_26 {K : zK} {l : Launch} {d : Nat} {ls : List (Nat × Value)} {st : List Value} {n : Nat} {h : zH} {mc ms : Nat} {Q : zQ} (k : zGb K l d mX1_ringsInFirst [(26, .iconst 0), (27, .ireturn)] 28 ls st n h mc ms Q) : zGo K l d mX1_ringsInFirst 26 ls st n h mc ms Q := k (by decide +kernel)
theorem kX1_isEnough_0 {K : zK} {l : Launch} {d : Nat} {ls : List (Nat × Value)} {st : List Value} {n : Nat} {h : zH} {mc ms : Nat} {Q : zQ} (k : zGb K l d mX1_isEnough [(0, .aload_n 0), (1, .getfield 25), (4, .ldc2_w 120), (7, .land), (8, .lstore_n 3), (9, .aload_n 0), (10, .ldc2_w 120), (13, .iload_n 1), (14, .iload_n 2), (15, .lload_n 3), (16, .lconst 1), (17, .ladd), (18, .invokevirtual 88), (21, .lload_n 3), (22, .lcmp), (23, .ifCond .gt 7), (26, .iconst 1), (27, .goto 4)] 30 ls st n h mc ms Q) : zGo K l d mX1_isEnough 0 ls st n h mc ms Q := k (by decide +kernel)
theorem kX1_isEnough_30 {K : zK} {l : Launch} {d : Nat} {ls : List (Nat × Value)} {st : List Value} {n : Nat} {h : zH} {mc ms : Nat} {Q : zQ} (k : zGb K l d mX1_isEnough [(30, .iconst 0)] 31 ls st n h mc ms Q) : zGo K l d mX1_isEnough 30 ls st n h mc ms Q := k (by decide +kernel)
theorem kX1_isEnough_31 {K : zK} {l : Launch} {d : Nat} {ls : List (Nat × Value)} {st : List Value} {n : Nat} {h : zH} {mc ms : Nat} {Q : zQ} (k : zGb K l d mX1_isEnough [(31, .ireturn)] 32 ls st n h mc ms Q) : zGo K l d mX1_isEnough 31 ls st n h mc ms Q := k (by decide +kernel)
theorem kX1_shiftOf_0 {K : zK} {l : Launch} {d : Nat} {ls : List (Nat × Value)} {st : List Value} {n : Nat} {h : zH} {mc ms : Nat} {Q : zQ} (k : zGb K l d mX1_shiftOf [(0, .bipush 46), (2, .iconst 2), (3, .iload_n 0), (4, .iconst 4), (5, .imul), (6, .iload_n 1), (7, .iadd), (8, .imul), (9, .isub), (10, .ireturn)] 11 ls st n h mc ms Q) : zGo K l d mX1_shiftOf 0 ls st n h mc ms Q := k (by decide +kernel)
theorem kX1_priceHour_0 {K : zK} {l : Launch} {d : Nat} {ls : List (Nat × Value)} {st : List Value} {n : Nat} {h : zH} {mc ms : Nat} {Q : zQ} (k : zGb K l d mX1_priceHour [(0, .aload_n 1), (1, .iload_n 3), (2, .invokevirtual 122), (5, .ifCond .eq 12), (8, .aload_n 1), (9, .getfield 125), (12, .iload_n 3), (13, .iaload), (14, .goto 4)] 17 ls st n h mc ms Q) : zGo K l d mX1_priceHour 0 ls st n h mc ms Q := k (by decide +kernel)
theorem kX1_priceHour_17 {K : zK} {l : Launch} {d : Nat} {ls : List (Nat × Value)} {st : List Value} {n : Nat} {h : zH} {mc ms : Nat} {Q : zQ} (k : zGb K l d mX1_priceHour [(17, .iconst 0)] 18 ls st n h mc ms Q) : zGo K l d mX1_priceHour 17 ls st n h mc ms Q := k (by decide +kernel)
theorem kX1_priceHour_18 {K : zK} {l : Launch} {d : Nat} {ls : List (Nat × Value)} {st : List Value} {n : Nat} {h : zH} {mc ms : Nat} {Q : zQ} (k : zGb K l d mX1_priceHour [(18, .istore 4), (20, .aload_n 0), (21, .getfield 42), (24, .iload_n 3), (25, .iconst 0), (26, .iastore), (27, .bipush 63), (29, .istore 5)] 31 ls st n h mc ms Q) : zGo K l d mX1_priceHour 18 ls st n h mc ms Q := k (by decide +kernel)
theorem kX1_priceHour_31 {K : zK} {l : Launch} {d : Nat} {ls : List (Nat × Value)} {st : List Value} {n : Nat} {h : zH} {mc ms : Nat} {Q : zQ} (k : zGb K l d mX1_priceHour [(31, .iload 5), (33, .ifCond .lt 106), (36, .iload 5), (38, .invokestatic 104), (41, .istore 6), (43, .iload 6), (45, .iload 4), (47, .if_icmp .le 9), (50, .ldc2_w 128), (53, .goto 12)] 56 ls st n h mc ms Q) : zGo K l d mX1_priceHour 31 ls st n h mc ms Q := k (by decide +kernel)
theorem kX1_priceHour_56 {K : zK} {l : Launch} {d : Nat} {ls : List (Nat × Value)} {st : List Value} {n : Nat} {h : zH} {mc ms : Nat} {Q : zQ} (k : zGb K l d mX1_priceHour [(56, .aload_n 1), (57, .iload_n 3), (58, .iload 5), (60, .iconst 0), (61, .iconst 0), (62, .invokestatic 130)] 65 ls st n h mc ms Q) : zGo K l d mX1_priceHour 56 ls st n h mc ms Q := k (by decide +kernel)
theorem kX1_priceHour_65 {K : zK} {l : Launch} {d : Nat} {ls : List (Nat × Value)} {st : List Value} {n : Nat} {h : zH} {mc ms : Nat} {Q : zQ} (k : zGb K l d mX1_priceHour [(65, .lstore 7), (67, .ldc2_w 63), (70, .lstore 9), (72, .lload 7), (74, .lconst 0), (75, .lcmp), (76, .ifCond .lt 29), (79, .iload 4), (81, .iload 6), (83, .isub), (84, .i2l), (85, .bipush 59), (87, .lshl), (88, .aload_n 1), (89, .iload_n 2), (90, .iload 5), (92, .invokestatic 134), (95, .i2l), (96, .bipush 48), (98, .lshl), (99, .ladd), (100, .lload 7), (102, .ladd), (103, .lstore 9)] 105 ls st n h mc ms Q) : zGo K l d mX1_priceHour 65 ls st n h mc ms Q := k (by decide +kernel)
theorem kX1_priceHour_105 {K : zK} {l : Launch} {d : Nat} {ls : List (Nat × Value)} {st : List Value} {n : Nat} {h : zH} {mc ms : Nat} {Q : zQ} (k : zGb K l d mX1_priceHour [(105, .aload_n 0), (106, .getfield 45), (109, .iload_n 3), (110, .bipush 64), (112, .imul), (113, .iload 5), (115, .iadd), (116, .lload 9), (118, .lastore), (119, .lload 7), (121, .lconst 0), (122, .lcmp), (123, .ifCond .lt 10), (126, .aload_n 0), (127, .iload_n 3), (128, .iload 5), (130, .invokevirtual 138)] 133 ls st n h mc ms Q) : zGo K l d mX1_priceHour 105 ls st n h mc ms Q := k (by decide +kernel)
theorem kX1_priceHour_133 {K : zK} {l : Launch} {d : Nat} {ls : List (Nat × Value)} {st : List Value} {n : Nat} {h : zH} {mc ms : Nat} {Q : zQ} (k : zGb K l d mX1_priceHour [(133, .iinc 5 (-1)), (136, .goto (-105))] 139 ls st n h mc ms Q) : zGo K l d mX1_priceHour 133 ls st n h mc ms Q := k (by decide +kernel)
theorem kX1_priceHour_139 {K : zK} {l : Launch} {d : Nat} {ls : List (Nat × Value)} {st : List Value} {n : Nat} {h : zH} {mc ms : Nat} {Q : zQ} (k : zGb K l d mX1_priceHour [(139, .return_)] 140 ls st n h mc ms Q) : zGo K l d mX1_priceHour 139 ls st n h mc ms Q := k (by decide +kernel)
theorem kX1_addInOrder_0 {K : zK} {l : Launch} {d : Nat} {ls : List (Nat × Value)} {st : List Value} {n : Nat} {h : zH} {mc ms : Nat} {Q : zQ} (k : zGb K l d mX1_addInOrder [(0, .iload_n 1), (1, .bipush 64), (3, .imul), (4, .istore_n 3), (5, .iload_n 3), (6, .aload_n 0), (7, .getfield 42), (10, .iload_n 1), (11, .iaload), (12, .iadd), (13, .istore 4)] 15 ls st n h mc ms Q) : zGo K l d mX1_addInOrder 0 ls st n h mc ms Q := k (by decide +kernel)
theorem kX1_addInOrder_15 {K : zK} {l : Launch} {d : Nat} {ls : List (Nat × Value)} {st : List Value} {n : Nat} {h : zH} {mc ms : Nat} {Q : zQ} (k : zGb K l d mX1_addInOrder [(15, .iload 4), (17, .iload_n 3), (18, .if_icmp .le 53), (21, .aload_n 0), (22, .getfield 45), (25, .iload_n 3), (26, .aload_n 0), (27, .getfield 38), (30, .iload 4), (32, .iconst 1), (33, .isub), (34, .iaload), (35, .iadd), (36, .laload), (37, .aload_n 0), (38, .getfield 45), (41, .iload_n 3), (42, .iload_n 2), (43, .iadd), (44, .laload), (45, .lcmp), (46, .ifCond .le 25), (49, .aload_n 0), (50, .getfield 38), (53, .iload 4), (55, .aload_n 0), (56, .getfield 38), (59, .iload 4), (61, .iconst 1), (62, .isub), (63, .iaload), (64, .iastore), (65, .iinc 4 (-1)), (68, .goto (-53))] 71 ls st n h mc ms Q) : zGo K l d mX1_addInOrder 15 ls st n h mc ms Q := k (by decide +kernel)
theorem kX1_addInOrder_71 {K : zK} {l : Launch} {d : Nat} {ls : List (Nat × Value)} {st : List Value} {n : Nat} {h : zH} {mc ms : Nat} {Q : zQ} (k : zGb K l d mX1_addInOrder [(71, .aload_n 0), (72, .getfield 38), (75, .iload 4), (77, .iload_n 2), (78, .iastore), (79, .aload_n 0), (80, .getfield 42), (83, .iload_n 1), (84, .dup2), (85, .iaload), (86, .iconst 1), (87, .iadd), (88, .iastore), (89, .return_)] 90 ls st n h mc ms Q) : zGo K l d mX1_addInOrder 71 ls st n h mc ms Q := k (by decide +kernel)
theorem kX1_walkOf_0 {K : zK} {l : Launch} {d : Nat} {ls : List (Nat × Value)} {st : List Value} {n : Nat} {h : zH} {mc ms : Nat} {Q : zQ} (k : zGb K l d mX1_walkOf [(0, .iconst 0), (1, .istore_n 3), (2, .iconst 0), (3, .istore 4)] 5 ls st n h mc ms Q) : zGo K l d mX1_walkOf 0 ls st n h mc ms Q := k (by decide +kernel)
theorem kX1_walkOf_5 {K : zK} {l : Launch} {d : Nat} {ls : List (Nat × Value)} {st : List Value} {n : Nat} {h : zH} {mc ms : Nat} {Q : zQ} (k : zGb K l d mX1_walkOf [(5, .iload 4), (7, .aload_n 0), (8, .getfield 71), (11, .if_icmp .ge 30), (14, .iload_n 2), (15, .iload 4), (17, .ishr), (18, .iconst 1), (19, .iand), (20, .ifCond .eq 15), (23, .iload_n 3), (24, .iconst 2), (25, .aload_n 0), (26, .iload 4), (28, .iload_n 1), (29, .invokevirtual 142), (32, .imul), (33, .iadd), (34, .istore_n 3)] 35 ls st n h mc ms Q) : zGo K l d mX1_walkOf 5 ls st n h mc ms Q := k (by decide +kernel)
theorem kX1_walkOf_35 {K : zK} {l : Launch} {d : Nat} {ls : List (Nat × Value)} {st : List Value} {n : Nat} {h : zH} {mc ms : Nat} {Q : zQ} (k : zGb K l d mX1_walkOf [(35, .iinc 4 1), (38, .goto (-33))] 41 ls st n h mc ms Q) : zGo K l d mX1_walkOf 35 ls st n h mc ms Q := k (by decide +kernel)
theorem kX1_walkOf_41 {K : zK} {l : Launch} {d : Nat} {ls : List (Nat × Value)} {st : List Value} {n : Nat} {h : zH} {mc ms : Nat} {Q : zQ} (k : zGb K l d mX1_walkOf [(41, .iload_n 3), (42, .ireturn)] 43 ls st n h mc ms Q) : zGo K l d mX1_walkOf 41 ls st n h mc ms Q := k (by decide +kernel)
theorem kX1_seatsOf_0 {K : zK} {l : Launch} {d : Nat} {ls : List (Nat × Value)} {st : List Value} {n : Nat} {h : zH} {mc ms : Nat} {Q : zQ} (k : zGb K l d mX1_seatsOf [(0, .iload_n 3), (1, .bipush 6), (3, .if_icmp .ge 9), (6, .iload_n 2), (7, .iload_n 3), (8, .ishr), (9, .ifCond .ne 5)] 12 ls st n h mc ms Q) : zGo K l d mX1_seatsOf 0 ls st n h mc ms Q := k (by decide +kernel)
theorem kX1_seatsOf_12 {K : zK} {l : Launch} {d : Nat} {ls : List (Nat × Value)} {st : List Value} {n : Nat} {h : zH} {mc ms : Nat} {Q : zQ} (k : zGb K l d mX1_seatsOf [(12, .lconst 0), (13, .lreturn)] 14 ls st n h mc ms Q) : zGo K l d mX1_seatsOf 12 ls st n h mc ms Q := k (by decide +kernel)
theorem kX1_seatsOf_14 {K : zK} {l : Launch} {d : Nat} {ls : List (Nat × Value)} {st : List Value} {n : Nat} {h : zH} {mc ms : Nat} {Q : zQ} (k : zGb K l d mX1_seatsOf [(14, .iload_n 2), (15, .iload_n 3), (16, .ishr), (17, .iconst 1), (18, .iand), (19, .ifCond .ne 15), (22, .aload_n 0), (23, .iload_n 1), (24, .iload_n 2), (25, .iload_n 3), (26, .iconst 1), (27, .iadd), (28, .iload 4), (30, .invokestatic 130), (33, .lreturn)] 34 ls st n h mc ms Q) : zGo K l d mX1_seatsOf 14 ls st n h mc ms Q := k (by decide +kernel)
theorem kX1_seatsOf_34 {K : zK} {l : Launch} {d : Nat} {ls : List (Nat × Value)} {st : List Value} {n : Nat} {h : zH} {mc ms : Nat} {Q : zQ} (k : zGb K l d mX1_seatsOf [(34, .aload_n 0), (35, .iload_n 3), (36, .iload_n 1), (37, .invokevirtual 145), (40, .iload 4), (42, .iconst (-1)), (43, .ixor), (44, .iand), (45, .istore 5), (47, .iconst 0), (48, .istore 6)] 50 ls st n h mc ms Q) : zGo K l d mX1_seatsOf 34 ls st n h mc ms Q := k (by decide +kernel)
theorem kX1_seatsOf_50 {K : zK} {l : Launch} {d : Nat} {ls : List (Nat × Value)} {st : List Value} {n : Nat} {h : zH} {mc ms : Nat} {Q : zQ} (k : zGb K l d mX1_seatsOf [(50, .iload 6), (52, .iconst 3), (53, .if_icmp .ge 59), (56, .iload 5), (58, .iload 6), (60, .ishr), (61, .iconst 1), (62, .iand), (63, .ifCond .eq 43), (66, .aload_n 0), (67, .iload_n 1), (68, .iload_n 2), (69, .iload_n 3), (70, .iconst 1), (71, .iadd), (72, .iload 4), (74, .iconst 1), (75, .iload 6), (77, .ishl), (78, .ior), (79, .invokestatic 130), (82, .lstore 7), (84, .lload 7), (86, .lconst 0), (87, .lcmp), (88, .ifCond .lt 18), (91, .lload 7), (93, .iload 6), (95, .iconst 1), (96, .iadd), (97, .i2l), (98, .iload_n 3), (99, .iload_n 1), (100, .invokestatic 94), (103, .lshl), (104, .ladd), (105, .lreturn)] 106 ls st n h mc ms Q) : zGo K l d mX1_seatsOf 50 ls st n h mc ms Q := k (by decide +kernel)
theorem kX1_seatsOf_106 {K : zK} {l : Launch} {d : Nat} {ls : List (Nat × Value)} {st : List Value} {n : Nat} {h : zH} {mc ms : Nat} {Q : zQ} (k : zGb K l d mX1_seatsOf [(106, .iinc 6 1), (109, .goto (-59))] 112 ls st n h mc ms Q) : zGo K l d mX1_seatsOf 106 ls st n h mc ms Q := k (by decide +kernel)
theorem kX1_seatsOf_112 {K : zK} {l : Launch} {d : Nat} {ls : List (Nat × Value)} {st : List Value} {n : Nat} {h : zH} {mc ms : Nat} {Q : zQ} (k : zGb K l d mX1_seatsOf [(112, .ldc2_w 128), (115, .lreturn)] 116 ls st n h mc ms Q) : zGo K l d mX1_seatsOf 112 ls st n h mc ms Q := k (by decide +kernel)
theorem kX1_findLeast_0 {K : zK} {l : Launch} {d : Nat} {ls : List (Nat × Value)} {st : List Value} {n : Nat} {h : zH} {mc ms : Nat} {Q : zQ} (k : zGb K l d mX1_findLeast [(0, .iload_n 1), (1, .bipush 64), (3, .imul), (4, .istore_n 2), (5, .iconst 0), (6, .istore_n 3)] 7 ls st n h mc ms Q) : zGo K l d mX1_findLeast 0 ls st n h mc ms Q := k (by decide +kernel)
theorem kX1_findLeast_7 {K : zK} {l : Launch} {d : Nat} {ls : List (Nat × Value)} {st : List Value} {n : Nat} {h : zH} {mc ms : Nat} {Q : zQ} (k : zGb K l d mX1_findLeast [(7, .iload_n 3), (8, .bipush 64), (10, .if_icmp .ge 74), (13, .aload_n 0), (14, .getfield 45), (17, .iload_n 2), (18, .iload_n 3), (19, .iadd), (20, .laload), (21, .lstore 4), (23, .iconst 0), (24, .istore 6)] 26 ls st n h mc ms Q) : zGo K l d mX1_findLeast 7 ls st n h mc ms Q := k (by decide +kernel)
theorem kX1_findLeast_26 {K : zK} {l : Launch} {d : Nat} {ls : List (Nat × Value)} {st : List Value} {n : Nat} {h : zH} {mc ms : Nat} {Q : zQ} (k : zGb K l d mX1_findLeast [(26, .iload 6), (28, .bipush 6), (30, .if_icmp .ge 38), (33, .iload_n 3), (34, .iload 6), (36, .ishr), (37, .iconst 1), (38, .iand), (39, .ifCond .eq 23), (42, .lload 4), (44, .aload_n 0), (45, .getfield 49), (48, .iload_n 2), (49, .iload_n 3), (50, .iadd), (51, .iconst 1), (52, .iload 6), (54, .ishl), (55, .isub), (56, .laload), (57, .invokestatic 148), (60, .lstore 4)] 62 ls st n h mc ms Q) : zGo K l d mX1_findLeast 26 ls st n h mc ms Q := k (by decide +kernel)
theorem kX1_findLeast_62 {K : zK} {l : Launch} {d : Nat} {ls : List (Nat × Value)} {st : List Value} {n : Nat} {h : zH} {mc ms : Nat} {Q : zQ} (k : zGb K l d mX1_findLeast [(62, .iinc 6 1), (65, .goto (-39))] 68 ls st n h mc ms Q) : zGo K l d mX1_findLeast 62 ls st n h mc ms Q := k (by decide +kernel)
theorem kX1_findLeast_68 {K : zK} {l : Launch} {d : Nat} {ls : List (Nat × Value)} {st : List Value} {n : Nat} {h : zH} {mc ms : Nat} {Q : zQ} (k : zGb K l d mX1_findLeast [(68, .aload_n 0), (69, .getfield 49), (72, .iload_n 2), (73, .iload_n 3), (74, .iadd), (75, .lload 4), (77, .lastore), (78, .iinc 3 1), (81, .goto (-74))] 84 ls st n h mc ms Q) : zGo K l d mX1_findLeast 68 ls st n h mc ms Q := k (by decide +kernel)
theorem kX1_findLeast_84 {K : zK} {l : Launch} {d : Nat} {ls : List (Nat × Value)} {st : List Value} {n : Nat} {h : zH} {mc ms : Nat} {Q : zQ} (k : zGb K l d mX1_findLeast [(84, .return_)] 85 ls st n h mc ms Q) : zGo K l d mX1_findLeast 84 ls st n h mc ms Q := k (by decide +kernel)
theorem kX1_search_0 {K : zK} {l : Launch} {d : Nat} {ls : List (Nat × Value)} {st : List Value} {n : Nat} {h : zH} {mc ms : Nat} {Q : zQ} (k : zGb K l d mX1_search [(0, .aload_n 0), (1, .lload_n 1), (2, .putfield 60), (5, .aload_n 0), (6, .iload_n 3), (7, .putfield 52), (10, .aload_n 0), (11, .iload 4), (13, .putfield 55), (16, .aload_n 0), (17, .lload 5), (19, .putfield 65), (22, .aload_n 0), (23, .iconst 0), (24, .lconst 0), (25, .invokestatic 154), (28, .aload_n 0), (29, .getfield 65), (32, .lreturn)] 33 ls st n h mc ms Q) : zGo K l d mX1_search 0 ls st n h mc ms Q := k (by decide +kernel)
theorem kX1_seek_0 {K : zK} {l : Launch} {d : Nat} {ls : List (Nat × Value)} {st : List Value} {n : Nat} {h : zH} {mc ms : Nat} {Q : zQ} (k : zGb K l d mX1_seek [(0, .iload_n 1), (1, .ifCond .lt 8), (4, .iload_n 1), (5, .iconst 3), (6, .if_icmp .le 4)] 9 ls st n h mc ms Q) : zGo K l d mX1_seek 0 ls st n h mc ms Q := k (by decide +kernel)
theorem kX1_seek_9 {K : zK} {l : Launch} {d : Nat} {ls : List (Nat × Value)} {st : List Value} {n : Nat} {h : zH} {mc ms : Nat} {Q : zQ} (k : zGb K l d mX1_seek [(9, .return_)] 10 ls st n h mc ms Q) : zGo K l d mX1_seek 9 ls st n h mc ms Q := k (by decide +kernel)
theorem kX1_seek_10 {K : zK} {l : Launch} {d : Nat} {ls : List (Nat × Value)} {st : List Value} {n : Nat} {h : zH} {mc ms : Nat} {Q : zQ} (k : zGb K l d mX1_seek [(10, .aload_n 0), (11, .iload_n 1), (12, .invokevirtual 158), (15, .lstore 4), (17, .aload_n 0), (18, .iload_n 1), (19, .iload_n 1), (20, .invokevirtual 162), (23, .istore 6), (25, .iload_n 1), (26, .bipush 64), (28, .imul), (29, .istore 7), (31, .lload_n 2), (32, .lload 4), (34, .ladd), (35, .aload_n 0), (36, .getfield 49), (39, .iload 7), (41, .iload 6), (43, .iadd), (44, .laload), (45, .aload_n 0), (46, .getfield 60), (49, .land), (50, .ladd), (51, .lstore 8), (53, .lload 8), (55, .aload_n 0), (56, .getfield 65), (59, .lcmp), (60, .ifCond .lt 4), (63, .return_)] 64 ls st n h mc ms Q) : zGo K l d mX1_seek 10 ls st n h mc ms Q := k (by decide +kernel)
theorem kX1_seek_64 {K : zK} {l : Launch} {d : Nat} {ls : List (Nat × Value)} {st : List Value} {n : Nat} {h : zH} {mc ms : Nat} {Q : zQ} (k : zGb K l d mX1_seek [(64, .iload_n 1), (65, .iconst 3), (66, .if_icmp .ne 10), (69, .aload_n 0), (70, .lload 8), (72, .putfield 65), (75, .return_)] 76 ls st n h mc ms Q) : zGo K l d mX1_seek 64 ls st n h mc ms Q := k (by decide +kernel)
theorem kX1_seek_76 {K : zK} {l : Launch} {d : Nat} {ls : List (Nat × Value)} {st : List Value} {n : Nat} {h : zH} {mc ms : Nat} {Q : zQ} (k : zGb K l d mX1_seek [(76, .iconst 0), (77, .istore 10)] 79 ls st n h mc ms Q) : zGo K l d mX1_seek 76 ls st n h mc ms Q := k (by decide +kernel)
theorem kX1_seek_79 {K : zK} {l : Launch} {d : Nat} {ls : List (Nat × Value)} {st : List Value} {n : Nat} {h : zH} {mc ms : Nat} {Q : zQ} (k : zGb K l d mX1_seek [(79, .iload 10), (81, .aload_n 0), (82, .getfield 42), (85, .iload_n 1), (86, .iaload), (87, .if_icmp .ge 91), (90, .aload_n 0), (91, .getfield 38), (94, .iload 7), (96, .iload 10), (98, .iadd), (99, .iaload), (100, .istore 11), (102, .lload_n 2), (103, .aload_n 0), (104, .getfield 45), (107, .iload 7), (109, .iload 11), (111, .iadd), (112, .laload), (113, .aload_n 0), (114, .getfield 60), (117, .land), (118, .ladd), (119, .lstore 12), (121, .lload 12), (123, .lload 4), (125, .ladd), (126, .aload_n 0), (127, .getfield 65), (130, .lcmp), (131, .ifCond .ge 13), (134, .lload 8), (136, .aload_n 0), (137, .getfield 65), (140, .lcmp), (141, .ifCond .lt 4)] 144 ls st n h mc ms Q) : zGo K l d mX1_seek 79 ls st n h mc ms Q := k (by decide +kernel)
theorem kX1_seek_144 {K : zK} {l : Launch} {d : Nat} {ls : List (Nat × Value)} {st : List Value} {n : Nat} {h : zH} {mc ms : Nat} {Q : zQ} (k : zGb K l d mX1_seek [(144, .return_)] 145 ls st n h mc ms Q) : zGo K l d mX1_seek 144 ls st n h mc ms Q := k (by decide +kernel)
theorem kX1_seek_145 {K : zK} {l : Launch} {d : Nat} {ls : List (Nat × Value)} {st : List Value} {n : Nat} {h : zH} {mc ms : Nat} {Q : zQ} (k : zGb K l d mX1_seek [(145, .iload 11), (147, .iload 6), (149, .iconst (-1)), (150, .ixor), (151, .iand), (152, .ifCond .ne 20), (155, .aload_n 0), (156, .getfield 68), (159, .iload_n 1), (160, .iload 11), (162, .iastore), (163, .aload_n 0), (164, .iload_n 1), (165, .iconst 1), (166, .iadd), (167, .lload 12), (169, .invokestatic 154)] 172 ls st n h mc ms Q) : zGo K l d mX1_seek 145 ls st n h mc ms Q := k (by decide +kernel)
theorem kX1_seek_172 {K : zK} {l : Launch} {d : Nat} {ls : List (Nat × Value)} {st : List Value} {n : Nat} {h : zH} {mc ms : Nat} {Q : zQ} (k : zGb K l d mX1_seek [(172, .iinc 10 1), (175, .goto (-96))] 178 ls st n h mc ms Q) : zGo K l d mX1_seek 172 ls st n h mc ms Q := k (by decide +kernel)
theorem kX1_seek_178 {K : zK} {l : Launch} {d : Nat} {ls : List (Nat × Value)} {st : List Value} {n : Nat} {h : zH} {mc ms : Nat} {Q : zQ} (k : zGb K l d mX1_seek [(178, .return_)] 179 ls st n h mc ms Q) : zGo K l d mX1_seek 178 ls st n h mc ms Q := k (by decide +kernel)
theorem kX1_leastAfter_0 {K : zK} {l : Launch} {d : Nat} {ls : List (Nat × Value)} {st : List Value} {n : Nat} {h : zH} {mc ms : Nat} {Q : zQ} (k : zGb K l d mX1_leastAfter [(0, .lconst 0), (1, .lstore_n 2), (2, .iload_n 1), (3, .iconst 1), (4, .iadd), (5, .istore 4)] 7 ls st n h mc ms Q) : zGo K l d mX1_leastAfter 0 ls st n h mc ms Q := k (by decide +kernel)
theorem kX1_leastAfter_7 {K : zK} {l : Launch} {d : Nat} {ls : List (Nat × Value)} {st : List Value} {n : Nat} {h : zH} {mc ms : Nat} {Q : zQ} (k : zGb K l d mX1_leastAfter [(7, .iload 4), (9, .iconst 4), (10, .if_icmp .ge 35), (13, .lload_n 2), (14, .aload_n 0), (15, .getfield 49), (18, .iload 4), (20, .bipush 64), (22, .imul), (23, .aload_n 0), (24, .iload 4), (26, .iload_n 1), (27, .invokevirtual 162), (30, .iadd), (31, .laload), (32, .aload_n 0), (33, .getfield 60), (36, .land), (37, .ladd), (38, .lstore_n 2), (39, .iinc 4 1), (42, .goto (-35))] 45 ls st n h mc ms Q) : zGo K l d mX1_leastAfter 7 ls st n h mc ms Q := k (by decide +kernel)
theorem kX1_leastAfter_45 {K : zK} {l : Launch} {d : Nat} {ls : List (Nat × Value)} {st : List Value} {n : Nat} {h : zH} {mc ms : Nat} {Q : zQ} (k : zGb K l d mX1_leastAfter [(45, .lload_n 2), (46, .lreturn)] 47 ls st n h mc ms Q) : zGo K l d mX1_leastAfter 45 ls st n h mc ms Q := k (by decide +kernel)
theorem kX1_openIn_0 {K : zK} {l : Launch} {d : Nat} {ls : List (Nat × Value)} {st : List Value} {n : Nat} {h : zH} {mc ms : Nat} {Q : zQ} (k : zGb K l d mX1_openIn [(0, .iconst 0), (1, .istore_n 3), (2, .iconst 0), (3, .istore 4), (5, .iconst 0), (6, .istore 5), (8, .iconst 0), (9, .istore 6), (11, .iconst 0), (12, .istore 7)] 14 ls st n h mc ms Q) : zGo K l d mX1_openIn 0 ls st n h mc ms Q := k (by decide +kernel)
theorem kX1_openIn_14 {K : zK} {l : Launch} {d : Nat} {ls : List (Nat × Value)} {st : List Value} {n : Nat} {h : zH} {mc ms : Nat} {Q : zQ} (k : zGb K l d mX1_openIn [(14, .iload 7), (16, .iload_n 2), (17, .if_icmp .ge 66), (20, .iload 7), (22, .iconst 4), (23, .if_icmp .ge 60), (26, .aload_n 0), (27, .getfield 68), (30, .iload 7), (32, .iaload), (33, .istore 8), (35, .iload 5), (37, .iload 4), (39, .iload 8), (41, .iand), (42, .ior), (43, .istore 5), (45, .iload 4), (47, .iload_n 3), (48, .iload 8), (50, .iand), (51, .ior), (52, .istore 4), (54, .iload_n 3), (55, .iload 8), (57, .ior), (58, .istore_n 3), (59, .iload_n 1), (60, .iload 7), (62, .isub), (63, .aload_n 0), (64, .getfield 22), (67, .if_icmp .gt 10), (70, .iload 6), (72, .iload 8), (74, .ior), (75, .istore 6)] 77 ls st n h mc ms Q) : zGo K l d mX1_openIn 14 ls st n h mc ms Q := k (by decide +kernel)
theorem kX1_openIn_77 {K : zK} {l : Launch} {d : Nat} {ls : List (Nat × Value)} {st : List Value} {n : Nat} {h : zH} {mc ms : Nat} {Q : zQ} (k : zGb K l d mX1_openIn [(77, .iinc 7 1), (80, .goto (-66))] 83 ls st n h mc ms Q) : zGo K l d mX1_openIn 77 ls st n h mc ms Q := k (by decide +kernel)
theorem kX1_openIn_83 {K : zK} {l : Launch} {d : Nat} {ls : List (Nat × Value)} {st : List Value} {n : Nat} {h : zH} {mc ms : Nat} {Q : zQ} (k : zGb K l d mX1_openIn [(83, .aload_n 0), (84, .getfield 55), (87, .tableswitch 69 0 3 #[29, 31, 43, 56])] 116 ls st n h mc ms Q) : zGo K l d mX1_openIn 83 ls st n h mc ms Q := k (by decide +kernel)
theorem kX1_openIn_116 {K : zK} {l : Launch} {d : Nat} {ls : List (Nat × Value)} {st : List Value} {n : Nat} {h : zH} {mc ms : Nat} {Q : zQ} (k : zGb K l d mX1_openIn [(116, .iconst 0), (117, .ireturn)] 118 ls st n h mc ms Q) : zGo K l d mX1_openIn 116 ls st n h mc ms Q := k (by decide +kernel)
theorem kX1_openIn_118 {K : zK} {l : Launch} {d : Nat} {ls : List (Nat × Value)} {st : List Value} {n : Nat} {h : zH} {mc ms : Nat} {Q : zQ} (k : zGb K l d mX1_openIn [(118, .aload_n 0), (119, .getfield 52), (122, .iload 6), (124, .iload_n 3), (125, .ior), (126, .iconst (-1)), (127, .ixor), (128, .iand), (129, .ireturn)] 130 ls st n h mc ms Q) : zGo K l d mX1_openIn 118 ls st n h mc ms Q := k (by decide +kernel)
theorem kX1_openIn_130 {K : zK} {l : Launch} {d : Nat} {ls : List (Nat × Value)} {st : List Value} {n : Nat} {h : zH} {mc ms : Nat} {Q : zQ} (k : zGb K l d mX1_openIn [(130, .aload_n 0), (131, .getfield 52), (134, .iload 6), (136, .iload 4), (138, .ior), (139, .iconst (-1)), (140, .ixor), (141, .iand), (142, .ireturn)] 143 ls st n h mc ms Q) : zGo K l d mX1_openIn 130 ls st n h mc ms Q := k (by decide +kernel)
theorem kX1_openIn_143 {K : zK} {l : Launch} {d : Nat} {ls : List (Nat × Value)} {st : List Value} {n : Nat} {h : zH} {mc ms : Nat} {Q : zQ} (k : zGb K l d mX1_openIn [(143, .aload_n 0), (144, .getfield 52), (147, .iload 6), (149, .iload 5), (151, .ior), (152, .iconst (-1)), (153, .ixor), (154, .iand), (155, .ireturn)] 156 ls st n h mc ms Q) : zGo K l d mX1_openIn 143 ls st n h mc ms Q := k (by decide +kernel)
theorem kX1_openIn_156 {K : zK} {l : Launch} {d : Nat} {ls : List (Nat × Value)} {st : List Value} {n : Nat} {h : zH} {mc ms : Nat} {Q : zQ} (k : zGb K l d mX1_openIn [(156, .aload_n 0), (157, .getfield 52), (160, .iload 6), (162, .iconst (-1)), (163, .ixor), (164, .iand), (165, .ireturn)] 166 ls st n h mc ms Q) : zGo K l d mX1_openIn 156 ls st n h mc ms Q := k (by decide +kernel)
theorem kJ6_bitCount_0f7a4_0 {K : zK} {l : Launch} {d : Nat} {ls : List (Nat × Value)} {st : List Value} {n : Nat} {h : zH} {mc ms : Nat} {Q : zQ} (k : zGb K l d mJ6_bitCount_0f7a4 [(0, .iload_n 0), (1, .iload_n 0), (2, .iconst 1), (3, .iushr), (4, .ldc_w 265), (7, .iand), (8, .isub), (9, .istore_n 0), (10, .iload_n 0), (11, .ldc_w 266), (14, .iand), (15, .iload_n 0), (16, .iconst 2), (17, .iushr), (18, .ldc_w 266), (21, .iand), (22, .iadd), (23, .istore_n 0), (24, .iload_n 0), (25, .iload_n 0), (26, .iconst 4), (27, .iushr), (28, .iadd), (29, .ldc_w 267), (32, .iand), (33, .istore_n 0), (34, .iload_n 0), (35, .iload_n 0), (36, .bipush 8), (38, .iushr), (39, .iadd), (40, .istore_n 0), (41, .iload_n 0), (42, .iload_n 0), (43, .bipush 16), (45, .iushr), (46, .iadd), (47, .istore_n 0), (48, .iload_n 0), (49, .bipush 63), (51, .iand), (52, .ireturn)] 53 ls st n h mc ms Q) : zGo K l d mJ6_bitCount_0f7a4 0 ls st n h mc ms Q := k (by decide +kernel)
theorem kJ9_abs_0f7a4_0 {K : zK} {l : Launch} {d : Nat} {ls : List (Nat × Value)} {st : List Value} {n : Nat} {h : zH} {mc ms : Nat} {Q : zQ} (k : zGb K l d mJ9_abs_0f7a4 [(0, .iload_n 0), (1, .ifCond .ge 8), (4, .iload_n 0), (5, .ineg), (6, .goto 4)] 9 ls st n h mc ms Q) : zGo K l d mJ9_abs_0f7a4 0 ls st n h mc ms Q := k (by decide +kernel)
theorem kJ9_abs_0f7a4_9 {K : zK} {l : Launch} {d : Nat} {ls : List (Nat × Value)} {st : List Value} {n : Nat} {h : zH} {mc ms : Nat} {Q : zQ} (k : zGb K l d mJ9_abs_0f7a4 [(9, .iload_n 0)] 10 ls st n h mc ms Q) : zGo K l d mJ9_abs_0f7a4 9 ls st n h mc ms Q := k (by decide +kernel)
theorem kJ9_abs_0f7a4_10 {K : zK} {l : Launch} {d : Nat} {ls : List (Nat × Value)} {st : List Value} {n : Nat} {h : zH} {mc ms : Nat} {Q : zQ} (k : zGb K l d mJ9_abs_0f7a4 [(10, .ireturn)] 11 ls st n h mc ms Q) : zGo K l d mJ9_abs_0f7a4 10 ls st n h mc ms Q := k (by decide +kernel)
theorem kJ9_max_7cf53_0 {K : zK} {l : Launch} {d : Nat} {ls : List (Nat × Value)} {st : List Value} {n : Nat} {h : zH} {mc ms : Nat} {Q : zQ} (k : zGb K l d mJ9_max_7cf53 [(0, .iload_n 0), (1, .iload_n 1), (2, .if_icmp .lt 7), (5, .iload_n 0), (6, .goto 4)] 9 ls st n h mc ms Q) : zGo K l d mJ9_max_7cf53 0 ls st n h mc ms Q := k (by decide +kernel)
theorem kJ9_max_7cf53_9 {K : zK} {l : Launch} {d : Nat} {ls : List (Nat × Value)} {st : List Value} {n : Nat} {h : zH} {mc ms : Nat} {Q : zQ} (k : zGb K l d mJ9_max_7cf53 [(9, .iload_n 1)] 10 ls st n h mc ms Q) : zGo K l d mJ9_max_7cf53 9 ls st n h mc ms Q := k (by decide +kernel)
theorem kJ9_max_7cf53_10 {K : zK} {l : Launch} {d : Nat} {ls : List (Nat × Value)} {st : List Value} {n : Nat} {h : zH} {mc ms : Nat} {Q : zQ} (k : zGb K l d mJ9_max_7cf53 [(10, .ireturn)] 11 ls st n h mc ms Q) : zGo K l d mJ9_max_7cf53 10 ls st n h mc ms Q := k (by decide +kernel)
theorem kJ9_min_7cf53_0 {K : zK} {l : Launch} {d : Nat} {ls : List (Nat × Value)} {st : List Value} {n : Nat} {h : zH} {mc ms : Nat} {Q : zQ} (k : zGb K l d mJ9_min_7cf53 [(0, .iload_n 0), (1, .iload_n 1), (2, .if_icmp .gt 7), (5, .iload_n 0), (6, .goto 4)] 9 ls st n h mc ms Q) : zGo K l d mJ9_min_7cf53 0 ls st n h mc ms Q := k (by decide +kernel)
theorem kJ9_min_7cf53_9 {K : zK} {l : Launch} {d : Nat} {ls : List (Nat × Value)} {st : List Value} {n : Nat} {h : zH} {mc ms : Nat} {Q : zQ} (k : zGb K l d mJ9_min_7cf53 [(9, .iload_n 1)] 10 ls st n h mc ms Q) : zGo K l d mJ9_min_7cf53 9 ls st n h mc ms Q := k (by decide +kernel)
theorem kJ9_min_7cf53_10 {K : zK} {l : Launch} {d : Nat} {ls : List (Nat × Value)} {st : List Value} {n : Nat} {h : zH} {mc ms : Nat} {Q : zQ} (k : zGb K l d mJ9_min_7cf53 [(10, .ireturn)] 11 ls st n h mc ms Q) : zGo K l d mJ9_min_7cf53 10 ls st n h mc ms Q := k (by decide +kernel)
theorem kJ9_min_f86c9_0 {K : zK} {l : Launch} {d : Nat} {ls : List (Nat × Value)} {st : List Value} {n : Nat} {h : zH} {mc ms : Nat} {Q : zQ} (k : zGb K l d mJ9_min_f86c9 [(0, .lload_n 0), (1, .lload_n 2), (2, .lcmp), (3, .ifCond .gt 7), (6, .lload_n 0), (7, .goto 4)] 10 ls st n h mc ms Q) : zGo K l d mJ9_min_f86c9 0 ls st n h mc ms Q := k (by decide +kernel)
theorem kJ9_min_f86c9_10 {K : zK} {l : Launch} {d : Nat} {ls : List (Nat × Value)} {st : List Value} {n : Nat} {h : zH} {mc ms : Nat} {Q : zQ} (k : zGb K l d mJ9_min_f86c9 [(10, .lload_n 2)] 11 ls st n h mc ms Q) : zGo K l d mJ9_min_f86c9 10 ls st n h mc ms Q := k (by decide +kernel)
theorem kJ9_min_f86c9_11 {K : zK} {l : Launch} {d : Nat} {ls : List (Nat × Value)} {st : List Value} {n : Nat} {h : zH} {mc ms : Nat} {Q : zQ} (k : zGb K l d mJ9_min_f86c9 [(11, .lreturn)] 12 ls st n h mc ms Q) : zGo K l d mJ9_min_f86c9 11 ls st n h mc ms Q := k (by decide +kernel)
theorem kJ0_length_8abf5_0 {K : zK} {l : Launch} {d : Nat} {ls : List (Nat × Value)} {st : List Value} {n : Nat} {h : zH} {mc ms : Nat} {Q : zQ} (k : zGb K l d mJ0_length_8abf5 [(0, .aload_n 0), (1, .getfield 9), (4, .arraylength), (5, .aload_n 0), (6, .invokevirtual 335), (9, .ishr), (10, .ireturn)] 11 ls st n h mc ms Q) : zGo K l d mJ0_length_8abf5 0 ls st n h mc ms Q := k (by decide +kernel)
theorem kJ0_charAt_5068e_0 {K : zK} {l : Launch} {d : Nat} {ls : List (Nat × Value)} {st : List Value} {n : Nat} {h : zH} {mc ms : Nat} {Q : zQ} (k : zGb K l d mJ0_charAt_5068e [(0, .aload_n 0), (1, .invokevirtual 492), (4, .ifCond .eq 12), (7, .aload_n 0), (8, .getfield 9), (11, .iload_n 1), (12, .invokestatic 495), (15, .ireturn)] 16 ls st n h mc ms Q) : zGo K l d mJ0_charAt_5068e 0 ls st n h mc ms Q := k (by decide +kernel)
theorem kJ0_charAt_5068e_16 {K : zK} {l : Launch} {d : Nat} {ls : List (Nat × Value)} {st : List Value} {n : Nat} {h : zH} {mc ms : Nat} {Q : zQ} (k : zGb K l d mJ0_charAt_5068e [(16, .aload_n 0), (17, .getfield 9), (20, .iload_n 1), (21, .invokestatic 498), (24, .ireturn)] 25 ls st n h mc ms Q) : zGo K l d mJ0_charAt_5068e 16 ls st n h mc ms Q := k (by decide +kernel)
theorem kJ0_coder_7d493_0 {K : zK} {l : Launch} {d : Nat} {ls : List (Nat × Value)} {st : List Value} {n : Nat} {h : zH} {mc ms : Nat} {Q : zQ} (k : zGb K l d mJ0_coder_7d493 [(0, .getstatic 38), (3, .ifCond .eq 10), (6, .aload_n 0), (7, .getfield 15), (10, .goto 4)] 13 ls st n h mc ms Q) : zGo K l d mJ0_coder_7d493 0 ls st n h mc ms Q := k (by decide +kernel)
theorem kJ0_coder_7d493_13 {K : zK} {l : Launch} {d : Nat} {ls : List (Nat × Value)} {st : List Value} {n : Nat} {h : zH} {mc ms : Nat} {Q : zQ} (k : zGb K l d mJ0_coder_7d493 [(13, .iconst 1)] 14 ls st n h mc ms Q) : zGo K l d mJ0_coder_7d493 13 ls st n h mc ms Q := k (by decide +kernel)
theorem kJ0_coder_7d493_14 {K : zK} {l : Launch} {d : Nat} {ls : List (Nat × Value)} {st : List Value} {n : Nat} {h : zH} {mc ms : Nat} {Q : zQ} (k : zGb K l d mJ0_coder_7d493 [(14, .ireturn)] 15 ls st n h mc ms Q) : zGo K l d mJ0_coder_7d493 14 ls st n h mc ms Q := k (by decide +kernel)
theorem kJ0_isLatin1_aae02_0 {K : zK} {l : Launch} {d : Nat} {ls : List (Nat × Value)} {st : List Value} {n : Nat} {h : zH} {mc ms : Nat} {Q : zQ} (k : zGb K l d mJ0_isLatin1_aae02 [(0, .getstatic 38), (3, .ifCond .eq 14), (6, .aload_n 0), (7, .getfield 15), (10, .ifCond .ne 7), (13, .iconst 1), (14, .goto 4)] 17 ls st n h mc ms Q) : zGo K l d mJ0_isLatin1_aae02 0 ls st n h mc ms Q := k (by decide +kernel)
theorem kJ0_isLatin1_aae02_17 {K : zK} {l : Launch} {d : Nat} {ls : List (Nat × Value)} {st : List Value} {n : Nat} {h : zH} {mc ms : Nat} {Q : zQ} (k : zGb K l d mJ0_isLatin1_aae02 [(17, .iconst 0)] 18 ls st n h mc ms Q) : zGo K l d mJ0_isLatin1_aae02 17 ls st n h mc ms Q := k (by decide +kernel)
theorem kJ0_isLatin1_aae02_18 {K : zK} {l : Launch} {d : Nat} {ls : List (Nat × Value)} {st : List Value} {n : Nat} {h : zH} {mc ms : Nat} {Q : zQ} (k : zGb K l d mJ0_isLatin1_aae02 [(18, .ireturn)] 19 ls st n h mc ms Q) : zGo K l d mJ0_isLatin1_aae02 18 ls st n h mc ms Q := k (by decide +kernel)
theorem kJ0_checkIndex_df160_0 {K : zK} {l : Launch} {d : Nat} {ls : List (Nat × Value)} {st : List Value} {n : Nat} {h : zH} {mc ms : Nat} {Q : zQ} (k : zGb K l d mJ0_checkIndex_df160 [(0, .iload_n 0), (1, .iload_n 1), (2, .getstatic 1053), (5, .invokestatic 1059), (8, .pop), (9, .return_)] 10 ls st n h mc ms Q) : zGo K l d mJ0_checkIndex_df160 0 ls st n h mc ms Q := k (by decide +kernel)
theorem kJ1_charAt_3b067_0 {K : zK} {l : Launch} {d : Nat} {ls : List (Nat × Value)} {st : List Value} {n : Nat} {h : zH} {mc ms : Nat} {Q : zQ} (k : zGb K l d mJ1_charAt_3b067 [(0, .iload_n 1), (1, .aload_n 0), (2, .arraylength), (3, .invokestatic 9), (6, .aload_n 0), (7, .iload_n 1), (8, .baload), (9, .sipush 255), (12, .iand), (13, .i2c), (14, .ireturn)] 15 ls st n h mc ms Q) : zGo K l d mJ1_charAt_3b067 0 ls st n h mc ms Q := k (by decide +kernel)
theorem kJ2_getChar_3b067_0 {K : zK} {l : Launch} {d : Nat} {ls : List (Nat × Value)} {st : List Value} {n : Nat} {h : zH} {mc ms : Nat} {Q : zQ} (k : zGb K l d mJ2_getChar_3b067 [(0, .getstatic 44), (3, .ifCond .ne 25), (6, .iload_n 1), (7, .ifCond .lt 11), (10, .iload_n 1), (11, .aload_n 0), (12, .invokestatic 48), (15, .if_icmp .lt 13)] 18 ls st n h mc ms Q) : zGo K l d mJ2_getChar_3b067 0 ls st n h mc ms Q := k (by decide +kernel)
theorem kJ2_getChar_3b067_18 {K : zK} {l : Launch} {d : Nat} {ls : List (Nat × Value)} {st : List Value} {n : Nat} {h : zH} {mc ms : Nat} {Q : zQ} (k : zGb K l d mJ2_getChar_3b067 [(18, .new 52), (21, .dup), (22, .ldc 54), (24, .invokespecial 56), (27, .athrow)] 28 ls st n h mc ms Q) : zGo K l d mJ2_getChar_3b067 18 ls st n h mc ms Q := k (by decide +kernel)
theorem kJ2_getChar_3b067_28 {K : zK} {l : Launch} {d : Nat} {ls : List (Nat × Value)} {st : List Value} {n : Nat} {h : zH} {mc ms : Nat} {Q : zQ} (k : zGb K l d mJ2_getChar_3b067 [(28, .iload_n 1), (29, .iconst 1), (30, .ishl), (31, .istore_n 1), (32, .aload_n 0), (33, .iload_n 1), (34, .iinc 1 1), (37, .baload), (38, .sipush 255), (41, .iand), (42, .getstatic 59), (45, .ishl), (46, .aload_n 0), (47, .iload_n 1), (48, .baload), (49, .sipush 255), (52, .iand), (53, .getstatic 63), (56, .ishl), (57, .ior), (58, .i2c), (59, .ireturn)] 60 ls st n h mc ms Q) : zGo K l d mJ2_getChar_3b067 28 ls st n h mc ms Q := k (by decide +kernel)
theorem kJ2_length_9d52b_0 {K : zK} {l : Launch} {d : Nat} {ls : List (Nat × Value)} {st : List Value} {n : Nat} {h : zH} {mc ms : Nat} {Q : zQ} (k : zGb K l d mJ2_length_9d52b [(0, .aload_n 0), (1, .arraylength), (2, .iconst 1), (3, .ishr), (4, .ireturn)] 5 ls st n h mc ms Q) : zGo K l d mJ2_length_9d52b 0 ls st n h mc ms Q := k (by decide +kernel)
theorem kJ2_charAt_3b067_0 {K : zK} {l : Launch} {d : Nat} {ls : List (Nat × Value)} {st : List Value} {n : Nat} {h : zH} {mc ms : Nat} {Q : zQ} (k : zGb K l d mJ2_charAt_3b067 [(0, .iload_n 1), (1, .aload_n 0), (2, .invokestatic 67), (5, .aload_n 0), (6, .iload_n 1), (7, .invokestatic 71), (10, .ireturn)] 11 ls st n h mc ms Q) : zGo K l d mJ2_charAt_3b067 0 ls st n h mc ms Q := k (by decide +kernel)
theorem kJ2_checkIndex_2214a_0 {K : zK} {l : Launch} {d : Nat} {ls : List (Nat × Value)} {st : List Value} {n : Nat} {h : zH} {mc ms : Nat} {Q : zQ} (k : zGb K l d mJ2_checkIndex_2214a [(0, .iload_n 0), (1, .aload_n 1), (2, .invokestatic 48), (5, .invokestatic 414), (8, .return_)] 9 ls st n h mc ms Q) : zGo K l d mJ2_checkIndex_2214a 0 ls st n h mc ms Q := k (by decide +kernel)
theorem kJ3_checkIndex_8e157_0 {K : zK} {l : Launch} {d : Nat} {ls : List (Nat × Value)} {st : List Value} {n : Nat} {h : zH} {mc ms : Nat} {Q : zQ} (k : zGb K l d mJ3_checkIndex_8e157 [(0, .iload_n 0), (1, .ifCond .lt 8), (4, .iload_n 0), (5, .iload_n 1), (6, .if_icmp .lt 10)] 9 ls st n h mc ms Q) : zGo K l d mJ3_checkIndex_8e157 0 ls st n h mc ms Q := k (by decide +kernel)
theorem kJ3_checkIndex_8e157_9 {K : zK} {l : Launch} {d : Nat} {ls : List (Nat × Value)} {st : List Value} {n : Nat} {h : zH} {mc ms : Nat} {Q : zQ} (k : zGb K l d mJ3_checkIndex_8e157 [(9, .aload_n 2), (10, .iload_n 0), (11, .iload_n 1), (12, .invokestatic 95), (15, .athrow)] 16 ls st n h mc ms Q) : zGo K l d mJ3_checkIndex_8e157 9 ls st n h mc ms Q := k (by decide +kernel)
theorem kJ3_checkIndex_8e157_16 {K : zK} {l : Launch} {d : Nat} {ls : List (Nat × Value)} {st : List Value} {n : Nat} {h : zH} {mc ms : Nat} {Q : zQ} (k : zGb K l d mJ3_checkIndex_8e157 [(16, .iload_n 0), (17, .ireturn)] 18 ls st n h mc ms Q) : zGo K l d mJ3_checkIndex_8e157 16 ls st n h mc ms Q := k (by decide +kernel)
end
section
theorem kX2_init_0 {K : zK} {l : Launch} {d : Nat} {ls : List (Nat × Value)} {st : List Value} {n : Nat} {h : zH} {mc ms : Nat} {Q : zQ} (k : zGb K l d mX2_init [(0, .aload_n 0), (1, .invokespecial 3), (4, .aload_n 0), (5, .iconst 0), (6, .putfield 9), (9, .aload_n 0), (10, .iconst 0), (11, .putfield 15), (14, .aload_n 0), (15, .iconst 0), (16, .putfield 18), (19, .aload_n 0), (20, .iconst 1), (21, .putfield 21), (24, .aload_n 0), (25, .iconst 0), (26, .putfield 24), (29, .aload_n 0), (30, .iconst 4), (31, .newarray .int), (33, .putfield 27), (36, .aload_n 0), (37, .bipush 6), (39, .newarray .int), (41, .putfield 31), (44, .aload_n 0), (45, .bipush 6), (47, .newarray .int), (49, .putfield 34), (52, .aload_n 0), (53, .bipush 6), (55, .newarray .int), (57, .putfield 37), (60, .aload_n 0), (61, .bipush 6), (63, .newarray .int), (65, .putfield 40), (68, .return_)] 69 ls st n h mc ms Q) : zGo K l d mX2_init 0 ls st n h mc ms Q := k (by decide +kernel)
theorem kX2_empty_0 {K : zK} {l : Launch} {d : Nat} {ls : List (Nat × Value)} {st : List Value} {n : Nat} {h : zH} {mc ms : Nat} {Q : zQ} (k : zGb K l d mX2_empty [(0, .aload_n 0), (1, .iconst 0), (2, .putfield 9), (5, .aload_n 0), (6, .iconst 0), (7, .putfield 15), (10, .aload_n 0), (11, .iconst 0), (12, .putfield 18), (15, .aload_n 0), (16, .iconst 1), (17, .putfield 21), (20, .aload_n 0), (21, .iconst 0), (22, .putfield 24), (25, .return_)] 26 ls st n h mc ms Q) : zGo K l d mX2_empty 0 ls st n h mc ms Q := k (by decide +kernel)
theorem kX2_addHour_0 {K : zK} {l : Launch} {d : Nat} {ls : List (Nat × Value)} {st : List Value} {n : Nat} {h : zH} {mc ms : Nat} {Q : zQ} (k : zGb K l d mX2_addHour [(0, .aload_n 0), (1, .getfield 9), (4, .iconst 4), (5, .if_icmp .ge 23), (8, .aload_n 0), (9, .getfield 27), (12, .aload_n 0), (13, .getfield 9), (16, .iload_n 1), (17, .iastore), (18, .aload_n 0), (19, .dup), (20, .getfield 9), (23, .iconst 1), (24, .iadd), (25, .putfield 9)] 28 ls st n h mc ms Q) : zGo K l d mX2_addHour 0 ls st n h mc ms Q := k (by decide +kernel)
theorem kX2_addHour_28 {K : zK} {l : Launch} {d : Nat} {ls : List (Nat × Value)} {st : List Value} {n : Nat} {h : zH} {mc ms : Nat} {Q : zQ} (k : zGb K l d mX2_addHour [(28, .return_)] 29 ls st n h mc ms Q) : zGo K l d mX2_addHour 28 ls st n h mc ms Q := k (by decide +kernel)
theorem kX2_addRinger_0 {K : zK} {l : Launch} {d : Nat} {ls : List (Nat × Value)} {st : List Value} {n : Nat} {h : zH} {mc ms : Nat} {Q : zQ} (k : zGb K l d mX2_addRinger [(0, .aload_n 0), (1, .getfield 15), (4, .bipush 6), (6, .if_icmp .ge 54), (9, .aload_n 0), (10, .getfield 31), (13, .aload_n 0), (14, .getfield 15), (17, .iload_n 1), (18, .iastore), (19, .aload_n 0), (20, .getfield 34), (23, .aload_n 0), (24, .getfield 15), (27, .iload_n 2), (28, .iastore), (29, .aload_n 0), (30, .getfield 37), (33, .aload_n 0), (34, .getfield 15), (37, .iload_n 3), (38, .iastore), (39, .aload_n 0), (40, .getfield 40), (43, .aload_n 0), (44, .getfield 15), (47, .iload 4), (49, .iastore), (50, .aload_n 0), (51, .dup), (52, .getfield 15), (55, .iconst 1), (56, .iadd), (57, .putfield 15)] 60 ls st n h mc ms Q) : zGo K l d mX2_addRinger 0 ls st n h mc ms Q := k (by decide +kernel)
theorem kX2_addRinger_60 {K : zK} {l : Launch} {d : Nat} {ls : List (Nat × Value)} {st : List Value} {n : Nat} {h : zH} {mc ms : Nat} {Q : zQ} (k : zGb K l d mX2_addRinger [(60, .return_)] 61 ls st n h mc ms Q) : zGo K l d mX2_addRinger 60 ls st n h mc ms Q := k (by decide +kernel)
theorem kX2_hasHour_0 {K : zK} {l : Launch} {d : Nat} {ls : List (Nat × Value)} {st : List Value} {n : Nat} {h : zH} {mc ms : Nat} {Q : zQ} (k : zGb K l d mX2_hasHour [(0, .iload_n 1), (1, .ifCond .lt 15), (4, .iload_n 1), (5, .aload_n 0), (6, .getfield 9), (9, .if_icmp .ge 7), (12, .iconst 1), (13, .goto 4)] 16 ls st n h mc ms Q) : zGo K l d mX2_hasHour 0 ls st n h mc ms Q := k (by decide +kernel)
theorem kX2_hasHour_16 {K : zK} {l : Launch} {d : Nat} {ls : List (Nat × Value)} {st : List Value} {n : Nat} {h : zH} {mc ms : Nat} {Q : zQ} (k : zGb K l d mX2_hasHour [(16, .iconst 0)] 17 ls st n h mc ms Q) : zGo K l d mX2_hasHour 16 ls st n h mc ms Q := k (by decide +kernel)
theorem kX2_hasHour_17 {K : zK} {l : Launch} {d : Nat} {ls : List (Nat × Value)} {st : List Value} {n : Nat} {h : zH} {mc ms : Nat} {Q : zQ} (k : zGb K l d mX2_hasHour [(17, .ireturn)] 18 ls st n h mc ms Q) : zGo K l d mX2_hasHour 17 ls st n h mc ms Q := k (by decide +kernel)
theorem kX2_hasRinger_0 {K : zK} {l : Launch} {d : Nat} {ls : List (Nat × Value)} {st : List Value} {n : Nat} {h : zH} {mc ms : Nat} {Q : zQ} (k : zGb K l d mX2_hasRinger [(0, .iload_n 1), (1, .ifCond .lt 15), (4, .iload_n 1), (5, .aload_n 0), (6, .getfield 15), (9, .if_icmp .ge 7), (12, .iconst 1), (13, .goto 4)] 16 ls st n h mc ms Q) : zGo K l d mX2_hasRinger 0 ls st n h mc ms Q := k (by decide +kernel)
theorem kX2_hasRinger_16 {K : zK} {l : Launch} {d : Nat} {ls : List (Nat × Value)} {st : List Value} {n : Nat} {h : zH} {mc ms : Nat} {Q : zQ} (k : zGb K l d mX2_hasRinger [(16, .iconst 0)] 17 ls st n h mc ms Q) : zGo K l d mX2_hasRinger 16 ls st n h mc ms Q := k (by decide +kernel)
theorem kX2_hasRinger_17 {K : zK} {l : Launch} {d : Nat} {ls : List (Nat × Value)} {st : List Value} {n : Nat} {h : zH} {mc ms : Nat} {Q : zQ} (k : zGb K l d mX2_hasRinger [(17, .ireturn)] 18 ls st n h mc ms Q) : zGo K l d mX2_hasRinger 17 ls st n h mc ms Q := k (by decide +kernel)
theorem kX2_hasBell_0 {K : zK} {l : Launch} {d : Nat} {ls : List (Nat × Value)} {st : List Value} {n : Nat} {h : zH} {mc ms : Nat} {Q : zQ} (k : zGb K l d mX2_hasBell [(0, .aload_n 0), (1, .iload_n 1), (2, .invokevirtual 43), (5, .ifCond .eq 21), (8, .iload_n 2), (9, .ifCond .lt 17), (12, .iload_n 2), (13, .aload_n 0), (14, .getfield 27), (17, .iload_n 1), (18, .iaload), (19, .if_icmp .ge 7), (22, .iconst 1), (23, .goto 4)] 26 ls st n h mc ms Q) : zGo K l d mX2_hasBell 0 ls st n h mc ms Q := k (by decide +kernel)
theorem kX2_hasBell_26 {K : zK} {l : Launch} {d : Nat} {ls : List (Nat × Value)} {st : List Value} {n : Nat} {h : zH} {mc ms : Nat} {Q : zQ} (k : zGb K l d mX2_hasBell [(26, .iconst 0)] 27 ls st n h mc ms Q) : zGo K l d mX2_hasBell 26 ls st n h mc ms Q := k (by decide +kernel)
theorem kX2_hasBell_27 {K : zK} {l : Launch} {d : Nat} {ls : List (Nat × Value)} {st : List Value} {n : Nat} {h : zH} {mc ms : Nat} {Q : zQ} (k : zGb K l d mX2_hasBell [(27, .ireturn)] 28 ls st n h mc ms Q) : zGo K l d mX2_hasBell 27 ls st n h mc ms Q := k (by decide +kernel)
theorem kX2_wantedInAll_0 {K : zK} {l : Launch} {d : Nat} {ls : List (Nat × Value)} {st : List Value} {n : Nat} {h : zH} {mc ms : Nat} {Q : zQ} (k : zGb K l d mX2_wantedInAll [(0, .iconst 0), (1, .istore_n 1), (2, .iconst 0), (3, .istore_n 2)] 4 ls st n h mc ms Q) : zGo K l d mX2_wantedInAll 0 ls st n h mc ms Q := k (by decide +kernel)
theorem kX2_wantedInAll_4 {K : zK} {l : Launch} {d : Nat} {ls : List (Nat × Value)} {st : List Value} {n : Nat} {h : zH} {mc ms : Nat} {Q : zQ} (k : zGb K l d mX2_wantedInAll [(4, .iload_n 2), (5, .aload_n 0), (6, .getfield 9), (9, .if_icmp .ge 18), (12, .iload_n 1), (13, .aload_n 0), (14, .getfield 27), (17, .iload_n 2), (18, .iaload), (19, .iadd), (20, .istore_n 1), (21, .iinc 2 1), (24, .goto (-20))] 27 ls st n h mc ms Q) : zGo K l d mX2_wantedInAll 4 ls st n h mc ms Q := k (by decide +kernel)
theorem kX2_wantedInAll_27 {K : zK} {l : Launch} {d : Nat} {ls : List (Nat × Value)} {st : List Value} {n : Nat} {h : zH} {mc ms : Nat} {Q : zQ} (k : zGb K l d mX2_wantedInAll [(27, .iload_n 1), (28, .ireturn)] 29 ls st n h mc ms Q) : zGo K l d mX2_wantedInAll 27 ls st n h mc ms Q := k (by decide +kernel)
theorem kX2_bellsFor_0 {K : zK} {l : Launch} {d : Nat} {ls : List (Nat × Value)} {st : List Value} {n : Nat} {h : zH} {mc ms : Nat} {Q : zQ} (k : zGb K l d mX2_bellsFor [(0, .aload_n 0), (1, .iload_n 1), (2, .invokevirtual 47), (5, .ifCond .eq 24), (8, .aload_n 0), (9, .iload_n 2), (10, .invokevirtual 43), (13, .ifCond .eq 16), (16, .aload_n 0), (17, .getfield 37), (20, .iload_n 1), (21, .iaload), (22, .iload_n 2), (23, .ishr), (24, .iconst 1), (25, .iand), (26, .ifCond .eq 5)] 29 ls st n h mc ms Q) : zGo K l d mX2_bellsFor 0 ls st n h mc ms Q := k (by decide +kernel)
theorem kX2_bellsFor_29 {K : zK} {l : Launch} {d : Nat} {ls : List (Nat × Value)} {st : List Value} {n : Nat} {h : zH} {mc ms : Nat} {Q : zQ} (k : zGb K l d mX2_bellsFor [(29, .iconst 0), (30, .ireturn)] 31 ls st n h mc ms Q) : zGo K l d mX2_bellsFor 29 ls st n h mc ms Q := k (by decide +kernel)
theorem kX2_bellsFor_31 {K : zK} {l : Launch} {d : Nat} {ls : List (Nat × Value)} {st : List Value} {n : Nat} {h : zH} {mc ms : Nat} {Q : zQ} (k : zGb K l d mX2_bellsFor [(31, .aload_n 0), (32, .getfield 34), (35, .iload_n 1), (36, .iaload), (37, .iconst 1), (38, .aload_n 0), (39, .getfield 27), (42, .iload_n 2), (43, .iaload), (44, .ishl), (45, .iconst 1), (46, .isub), (47, .iand), (48, .ireturn)] 49 ls st n h mc ms Q) : zGo K l d mX2_bellsFor 31 ls st n h mc ms Q := k (by decide +kernel)
theorem kX2_canRing_0 {K : zK} {l : Launch} {d : Nat} {ls : List (Nat × Value)} {st : List Value} {n : Nat} {h : zH} {mc ms : Nat} {Q : zQ} (k : zGb K l d mX2_canRing [(0, .aload_n 0), (1, .iload_n 2), (2, .iload_n 3), (3, .invokevirtual 50), (6, .ifCond .eq 20), (9, .aload_n 0), (10, .iload_n 1), (11, .iload_n 2), (12, .invokevirtual 54), (15, .iload_n 3), (16, .ishr), (17, .iconst 1), (18, .iand), (19, .ifCond .eq 7), (22, .iconst 1), (23, .goto 4)] 26 ls st n h mc ms Q) : zGo K l d mX2_canRing 0 ls st n h mc ms Q := k (by decide +kernel)
theorem kX2_canRing_26 {K : zK} {l : Launch} {d : Nat} {ls : List (Nat × Value)} {st : List Value} {n : Nat} {h : zH} {mc ms : Nat} {Q : zQ} (k : zGb K l d mX2_canRing [(26, .iconst 0)] 27 ls st n h mc ms Q) : zGo K l d mX2_canRing 26 ls st n h mc ms Q := k (by decide +kernel)
theorem kX2_canRing_27 {K : zK} {l : Launch} {d : Nat} {ls : List (Nat × Value)} {st : List Value} {n : Nat} {h : zH} {mc ms : Nat} {Q : zQ} (k : zGb K l d mX2_canRing [(27, .ireturn)] 28 ls st n h mc ms Q) : zGo K l d mX2_canRing 27 ls st n h mc ms Q := k (by decide +kernel)
theorem kX2_ableOf_0 {K : zK} {l : Launch} {d : Nat} {ls : List (Nat × Value)} {st : List Value} {n : Nat} {h : zH} {mc ms : Nat} {Q : zQ} (k : zGb K l d mX2_ableOf [(0, .iconst 0), (1, .istore 4), (3, .iconst 0), (4, .istore 5)] 6 ls st n h mc ms Q) : zGo K l d mX2_ableOf 0 ls st n h mc ms Q := k (by decide +kernel)
theorem kX2_ableOf_6 {K : zK} {l : Launch} {d : Nat} {ls : List (Nat × Value)} {st : List Value} {n : Nat} {h : zH} {mc ms : Nat} {Q : zQ} (k : zGb K l d mX2_ableOf [(6, .iload 5), (8, .aload_n 0), (9, .getfield 15), (12, .if_icmp .ge 33), (15, .iload_n 2), (16, .iload 5), (18, .ishr), (19, .iconst 1), (20, .iand), (21, .ifCond .eq 18), (24, .aload_n 0), (25, .iload 5), (27, .iload_n 1), (28, .invokevirtual 54), (31, .iload_n 3), (32, .iand), (33, .ifCond .eq 6), (36, .iinc 4 1)] 39 ls st n h mc ms Q) : zGo K l d mX2_ableOf 6 ls st n h mc ms Q := k (by decide +kernel)
theorem kX2_ableOf_39 {K : zK} {l : Launch} {d : Nat} {ls : List (Nat × Value)} {st : List Value} {n : Nat} {h : zH} {mc ms : Nat} {Q : zQ} (k : zGb K l d mX2_ableOf [(39, .iinc 5 1), (42, .goto (-36))] 45 ls st n h mc ms Q) : zGo K l d mX2_ableOf 39 ls st n h mc ms Q := k (by decide +kernel)
theorem kX2_ableOf_45 {K : zK} {l : Launch} {d : Nat} {ls : List (Nat × Value)} {st : List Value} {n : Nat} {h : zH} {mc ms : Nat} {Q : zQ} (k : zGb K l d mX2_ableOf [(45, .iload 4), (47, .ireturn)] 48 ls st n h mc ms Q) : zGo K l d mX2_ableOf 45 ls st n h mc ms Q := k (by decide +kernel)
theorem kX2_busyHours_0 {K : zK} {l : Launch} {d : Nat} {ls : List (Nat × Value)} {st : List Value} {n : Nat} {h : zH} {mc ms : Nat} {Q : zQ} (k : zGb K l d mX2_busyHours [(0, .aload_n 0), (1, .iload_n 1), (2, .invokevirtual 47), (5, .ifCond .eq 24), (8, .aload_n 0), (9, .getfield 37), (12, .iload_n 1), (13, .iaload), (14, .iconst 1), (15, .aload_n 0), (16, .getfield 9), (19, .ishl), (20, .iconst 1), (21, .isub), (22, .iand), (23, .invokestatic 58), (26, .goto 4)] 29 ls st n h mc ms Q) : zGo K l d mX2_busyHours 0 ls st n h mc ms Q := k (by decide +kernel)
theorem kX2_busyHours_29 {K : zK} {l : Launch} {d : Nat} {ls : List (Nat × Value)} {st : List Value} {n : Nat} {h : zH} {mc ms : Nat} {Q : zQ} (k : zGb K l d mX2_busyHours [(29, .iconst 0)] 30 ls st n h mc ms Q) : zGo K l d mX2_busyHours 29 ls st n h mc ms Q := k (by decide +kernel)
theorem kX2_busyHours_30 {K : zK} {l : Launch} {d : Nat} {ls : List (Nat × Value)} {st : List Value} {n : Nat} {h : zH} {mc ms : Nat} {Q : zQ} (k : zGb K l d mX2_busyHours [(30, .ireturn)] 31 ls st n h mc ms Q) : zGo K l d mX2_busyHours 30 ls st n h mc ms Q := k (by decide +kernel)
theorem kX2_way_0 {K : zK} {l : Launch} {d : Nat} {ls : List (Nat × Value)} {st : List Value} {n : Nat} {h : zH} {mc ms : Nat} {Q : zQ} (k : zGb K l d mX2_way [(0, .aload_n 0), (1, .iload_n 1), (2, .invokevirtual 47), (5, .ifCond .eq 17), (8, .aload_n 0), (9, .getfield 31), (12, .iload_n 1), (13, .iaload), (14, .iload_n 2), (15, .isub), (16, .invokestatic 64), (19, .goto 4)] 22 ls st n h mc ms Q) : zGo K l d mX2_way 0 ls st n h mc ms Q := k (by decide +kernel)
theorem kX2_way_22 {K : zK} {l : Launch} {d : Nat} {ls : List (Nat × Value)} {st : List Value} {n : Nat} {h : zH} {mc ms : Nat} {Q : zQ} (k : zGb K l d mX2_way [(22, .iconst 0)] 23 ls st n h mc ms Q) : zGo K l d mX2_way 22 ls st n h mc ms Q := k (by decide +kernel)
theorem kX2_way_23 {K : zK} {l : Launch} {d : Nat} {ls : List (Nat × Value)} {st : List Value} {n : Nat} {h : zH} {mc ms : Nat} {Q : zQ} (k : zGb K l d mX2_way [(23, .ireturn)] 24 ls st n h mc ms Q) : zGo K l d mX2_way 23 ls st n h mc ms Q := k (by decide +kernel)
theorem kX2_weightOf_0 {K : zK} {l : Launch} {d : Nat} {ls : List (Nat × Value)} {st : List Value} {n : Nat} {h : zH} {mc ms : Nat} {Q : zQ} (k : zGb K l d mX2_weightOf [(0, .iconst 1), (1, .istore_n 2), (2, .iconst 0), (3, .istore_n 3)] 4 ls st n h mc ms Q) : zGo K l d mX2_weightOf 0 ls st n h mc ms Q := k (by decide +kernel)
theorem kX2_weightOf_4 {K : zK} {l : Launch} {d : Nat} {ls : List (Nat × Value)} {st : List Value} {n : Nat} {h : zH} {mc ms : Nat} {Q : zQ} (k : zGb K l d mX2_weightOf [(4, .iload_n 3), (5, .aload_n 0), (6, .getfield 15), (9, .if_icmp .ge 38), (12, .iload_n 2), (13, .iload_n 1), (14, .iload_n 3), (15, .ishr), (16, .iconst 1), (17, .iand), (18, .ifCond .eq 15), (21, .bipush 10), (23, .aload_n 0), (24, .getfield 40), (27, .iload_n 3), (28, .iaload), (29, .isub), (30, .goto 9)] 33 ls st n h mc ms Q) : zGo K l d mX2_weightOf 4 ls st n h mc ms Q := k (by decide +kernel)
theorem kX2_weightOf_33 {K : zK} {l : Launch} {d : Nat} {ls : List (Nat × Value)} {st : List Value} {n : Nat} {h : zH} {mc ms : Nat} {Q : zQ} (k : zGb K l d mX2_weightOf [(33, .aload_n 0), (34, .getfield 40), (37, .iload_n 3), (38, .iaload)] 39 ls st n h mc ms Q) : zGo K l d mX2_weightOf 33 ls st n h mc ms Q := k (by decide +kernel)
theorem kX2_weightOf_39 {K : zK} {l : Launch} {d : Nat} {ls : List (Nat × Value)} {st : List Value} {n : Nat} {h : zH} {mc ms : Nat} {Q : zQ} (k : zGb K l d mX2_weightOf [(39, .imul), (40, .istore_n 2), (41, .iinc 3 1), (44, .goto (-40))] 47 ls st n h mc ms Q) : zGo K l d mX2_weightOf 39 ls st n h mc ms Q := k (by decide +kernel)
theorem kX2_weightOf_47 {K : zK} {l : Launch} {d : Nat} {ls : List (Nat × Value)} {st : List Value} {n : Nat} {h : zH} {mc ms : Nat} {Q : zQ} (k : zGb K l d mX2_weightOf [(47, .iload_n 2), (48, .ireturn)] 49 ls st n h mc ms Q) : zGo K l d mX2_weightOf 47 ls st n h mc ms Q := k (by decide +kernel)
theorem kX2_weightInAll_0 {K : zK} {l : Launch} {d : Nat} {ls : List (Nat × Value)} {st : List Value} {n : Nat} {h : zH} {mc ms : Nat} {Q : zQ} (k : zGb K l d mX2_weightInAll [(0, .iconst 1), (1, .istore_n 1), (2, .iconst 0), (3, .istore_n 2)] 4 ls st n h mc ms Q) : zGo K l d mX2_weightInAll 0 ls st n h mc ms Q := k (by decide +kernel)
theorem kX2_weightInAll_4 {K : zK} {l : Launch} {d : Nat} {ls : List (Nat × Value)} {st : List Value} {n : Nat} {h : zH} {mc ms : Nat} {Q : zQ} (k : zGb K l d mX2_weightInAll [(4, .iload_n 2), (5, .aload_n 0), (6, .getfield 15), (9, .if_icmp .ge 14), (12, .iload_n 1), (13, .bipush 10), (15, .imul), (16, .istore_n 1), (17, .iinc 2 1), (20, .goto (-16))] 23 ls st n h mc ms Q) : zGo K l d mX2_weightInAll 4 ls st n h mc ms Q := k (by decide +kernel)
theorem kX2_weightInAll_23 {K : zK} {l : Launch} {d : Nat} {ls : List (Nat × Value)} {st : List Value} {n : Nat} {h : zH} {mc ms : Nat} {Q : zQ} (k : zGb K l d mX2_weightInAll [(23, .iload_n 1), (24, .ireturn)] 25 ls st n h mc ms Q) : zGo K l d mX2_weightInAll 23 ls st n h mc ms Q := k (by decide +kernel)
theorem kX3_init_0 {K : zK} {l : Launch} {d : Nat} {ls : List (Nat × Value)} {st : List Value} {n : Nat} {h : zH} {mc ms : Nat} {Q : zQ} (k : zGb K l d mX3_init [(0, .aload_n 0), (1, .invokespecial 3), (4, .aload_n 0), (5, .iconst 0), (6, .putfield 9), (9, .aload_n 0), (10, .iconst 0), (11, .putfield 15), (14, .aload_n 0), (15, .iconst 4), (16, .newarray .int), (18, .putfield 18), (21, .aload_n 0), (22, .bipush 24), (24, .newarray .int), (26, .putfield 22), (29, .aload_n 0), (30, .invokevirtual 25), (33, .return_)] 34 ls st n h mc ms Q) : zGo K l d mX3_init 0 ls st n h mc ms Q := k (by decide +kernel)
theorem kX3_empty_0 {K : zK} {l : Launch} {d : Nat} {ls : List (Nat × Value)} {st : List Value} {n : Nat} {h : zH} {mc ms : Nat} {Q : zQ} (k : zGb K l d mX3_empty [(0, .aload_n 0), (1, .invokevirtual 25), (4, .aload_n 0), (5, .iload_n 1), (6, .putfield 15), (9, .return_)] 10 ls st n h mc ms Q) : zGo K l d mX3_empty 0 ls st n h mc ms Q := k (by decide +kernel)
theorem kX3_clean_0 {K : zK} {l : Launch} {d : Nat} {ls : List (Nat × Value)} {st : List Value} {n : Nat} {h : zH} {mc ms : Nat} {Q : zQ} (k : zGb K l d mX3_clean [(0, .aload_n 0), (1, .iconst 0), (2, .putfield 9), (5, .iconst 0), (6, .istore_n 1)] 7 ls st n h mc ms Q) : zGo K l d mX3_clean 0 ls st n h mc ms Q := k (by decide +kernel)
theorem kX3_clean_7 {K : zK} {l : Launch} {d : Nat} {ls : List (Nat × Value)} {st : List Value} {n : Nat} {h : zH} {mc ms : Nat} {Q : zQ} (k : zGb K l d mX3_clean [(7, .iload_n 1), (8, .iconst 4), (9, .if_icmp .ge 17), (12, .aload_n 0), (13, .getfield 18), (16, .iload_n 1), (17, .bipush (-9)), (19, .iastore), (20, .iinc 1 1), (23, .goto (-16))] 26 ls st n h mc ms Q) : zGo K l d mX3_clean 7 ls st n h mc ms Q := k (by decide +kernel)
theorem kX3_clean_26 {K : zK} {l : Launch} {d : Nat} {ls : List (Nat × Value)} {st : List Value} {n : Nat} {h : zH} {mc ms : Nat} {Q : zQ} (k : zGb K l d mX3_clean [(26, .iconst 0), (27, .istore_n 1)] 28 ls st n h mc ms Q) : zGo K l d mX3_clean 26 ls st n h mc ms Q := k (by decide +kernel)
theorem kX3_clean_28 {K : zK} {l : Launch} {d : Nat} {ls : List (Nat × Value)} {st : List Value} {n : Nat} {h : zH} {mc ms : Nat} {Q : zQ} (k : zGb K l d mX3_clean [(28, .iload_n 1), (29, .aload_n 0), (30, .getfield 22), (33, .arraylength), (34, .if_icmp .ge 17), (37, .aload_n 0), (38, .getfield 22), (41, .iload_n 1), (42, .bipush (-9)), (44, .iastore), (45, .iinc 1 1), (48, .goto (-20))] 51 ls st n h mc ms Q) : zGo K l d mX3_clean 28 ls st n h mc ms Q := k (by decide +kernel)
theorem kX3_clean_51 {K : zK} {l : Launch} {d : Nat} {ls : List (Nat × Value)} {st : List Value} {n : Nat} {h : zH} {mc ms : Nat} {Q : zQ} (k : zGb K l d mX3_clean [(51, .return_)] 52 ls st n h mc ms Q) : zGo K l d mX3_clean 51 ls st n h mc ms Q := k (by decide +kernel)
theorem kX3_copy_0 {K : zK} {l : Launch} {d : Nat} {ls : List (Nat × Value)} {st : List Value} {n : Nat} {h : zH} {mc ms : Nat} {Q : zQ} (k : zGb K l d mX3_copy [(0, .aload_n 0), (1, .aload_n 1), (2, .getfield 9), (5, .putfield 9), (8, .aload_n 0), (9, .aload_n 1), (10, .getfield 15), (13, .putfield 15), (16, .aload_n 1), (17, .getfield 18), (20, .iconst 0), (21, .aload_n 0), (22, .getfield 18), (25, .iconst 0), (26, .iconst 4), (27, .invokestatic 28), (30, .aload_n 1), (31, .getfield 22), (34, .iconst 0), (35, .aload_n 0), (36, .getfield 22), (39, .iconst 0), (40, .aload_n 0), (41, .getfield 22), (44, .arraylength), (45, .invokestatic 28), (48, .return_)] 49 ls st n h mc ms Q) : zGo K l d mX3_copy 0 ls st n h mc ms Q := k (by decide +kernel)
theorem kX3_bellOf_0 {K : zK} {l : Launch} {d : Nat} {ls : List (Nat × Value)} {st : List Value} {n : Nat} {h : zH} {mc ms : Nat} {Q : zQ} (k : zGb K l d mX3_bellOf [(0, .iload_n 1), (1, .iload_n 2), (2, .invokestatic 34), (5, .ifCond .eq 16), (8, .aload_n 0), (9, .getfield 22), (12, .iload_n 1), (13, .iconst 4), (14, .imul), (15, .iload_n 2), (16, .iadd), (17, .iaload), (18, .goto 5)] 21 ls st n h mc ms Q) : zGo K l d mX3_bellOf 0 ls st n h mc ms Q := k (by decide +kernel)
theorem kX3_bellOf_21 {K : zK} {l : Launch} {d : Nat} {ls : List (Nat × Value)} {st : List Value} {n : Nat} {h : zH} {mc ms : Nat} {Q : zQ} (k : zGb K l d mX3_bellOf [(21, .bipush (-9))] 23 ls st n h mc ms Q) : zGo K l d mX3_bellOf 21 ls st n h mc ms Q := k (by decide +kernel)
theorem kX3_bellOf_23 {K : zK} {l : Launch} {d : Nat} {ls : List (Nat × Value)} {st : List Value} {n : Nat} {h : zH} {mc ms : Nat} {Q : zQ} (k : zGb K l d mX3_bellOf [(23, .ireturn)] 24 ls st n h mc ms Q) : zGo K l d mX3_bellOf 23 ls st n h mc ms Q := k (by decide +kernel)
theorem kX3_isTurn_0 {K : zK} {l : Launch} {d : Nat} {ls : List (Nat × Value)} {st : List Value} {n : Nat} {h : zH} {mc ms : Nat} {Q : zQ} (k : zGb K l d mX3_isTurn [(0, .iload_n 0), (1, .ifCond .lt 22), (4, .iload_n 0), (5, .bipush 6), (7, .if_icmp .ge 16), (10, .iload_n 1), (11, .ifCond .lt 12), (14, .iload_n 1), (15, .iconst 4), (16, .if_icmp .ge 7), (19, .iconst 1), (20, .goto 4)] 23 ls st n h mc ms Q) : zGo K l d mX3_isTurn 0 ls st n h mc ms Q := k (by decide +kernel)
theorem kX3_isTurn_23 {K : zK} {l : Launch} {d : Nat} {ls : List (Nat × Value)} {st : List Value} {n : Nat} {h : zH} {mc ms : Nat} {Q : zQ} (k : zGb K l d mX3_isTurn [(23, .iconst 0)] 24 ls st n h mc ms Q) : zGo K l d mX3_isTurn 23 ls st n h mc ms Q := k (by decide +kernel)
theorem kX3_isTurn_24 {K : zK} {l : Launch} {d : Nat} {ls : List (Nat × Value)} {st : List Value} {n : Nat} {h : zH} {mc ms : Nat} {Q : zQ} (k : zGb K l d mX3_isTurn [(24, .ireturn)] 25 ls st n h mc ms Q) : zGo K l d mX3_isTurn 24 ls st n h mc ms Q := k (by decide +kernel)
theorem kX3_hasTurn_0 {K : zK} {l : Launch} {d : Nat} {ls : List (Nat × Value)} {st : List Value} {n : Nat} {h : zH} {mc ms : Nat} {Q : zQ} (k : zGb K l d mX3_hasTurn [(0, .aload_n 0), (1, .iload_n 1), (2, .iload_n 2), (3, .invokevirtual 38), (6, .bipush (-9)), (8, .if_icmp .eq 7), (11, .iconst 1), (12, .goto 4)] 15 ls st n h mc ms Q) : zGo K l d mX3_hasTurn 0 ls st n h mc ms Q := k (by decide +kernel)
theorem kX3_hasTurn_15 {K : zK} {l : Launch} {d : Nat} {ls : List (Nat × Value)} {st : List Value} {n : Nat} {h : zH} {mc ms : Nat} {Q : zQ} (k : zGb K l d mX3_hasTurn [(15, .iconst 0)] 16 ls st n h mc ms Q) : zGo K l d mX3_hasTurn 15 ls st n h mc ms Q := k (by decide +kernel)
theorem kX3_hasTurn_16 {K : zK} {l : Launch} {d : Nat} {ls : List (Nat × Value)} {st : List Value} {n : Nat} {h : zH} {mc ms : Nat} {Q : zQ} (k : zGb K l d mX3_hasTurn [(16, .ireturn)] 17 ls st n h mc ms Q) : zGo K l d mX3_hasTurn 16 ls st n h mc ms Q := k (by decide +kernel)
theorem kX3_give_0 {K : zK} {l : Launch} {d : Nat} {ls : List (Nat × Value)} {st : List Value} {n : Nat} {h : zH} {mc ms : Nat} {Q : zQ} (k : zGb K l d mX3_give [(0, .iload_n 1), (1, .iload_n 2), (2, .invokestatic 34), (5, .ifCond .eq 33), (8, .aload_n 0), (9, .iload_n 1), (10, .iload_n 2), (11, .invokevirtual 42), (14, .ifCond .ne 24), (17, .aload_n 0), (18, .getfield 22), (21, .iload_n 1), (22, .iconst 4), (23, .imul), (24, .iload_n 2), (25, .iadd), (26, .iload_n 3), (27, .iastore), (28, .aload_n 0), (29, .dup), (30, .getfield 9), (33, .iconst 1), (34, .iadd), (35, .putfield 9)] 38 ls st n h mc ms Q) : zGo K l d mX3_give 0 ls st n h mc ms Q := k (by decide +kernel)
theorem kX3_give_38 {K : zK} {l : Launch} {d : Nat} {ls : List (Nat × Value)} {st : List Value} {n : Nat} {h : zH} {mc ms : Nat} {Q : zQ} (k : zGb K l d mX3_give [(38, .return_)] 39 ls st n h mc ms Q) : zGo K l d mX3_give 38 ls st n h mc ms Q := k (by decide +kernel)
theorem kX3_free_0 {K : zK} {l : Launch} {d : Nat} {ls : List (Nat × Value)} {st : List Value} {n : Nat} {h : zH} {mc ms : Nat} {Q : zQ} (k : zGb K l d mX3_free [(0, .aload_n 0), (1, .iload_n 1), (2, .iload_n 2), (3, .invokevirtual 42), (6, .ifCond .eq 25), (9, .aload_n 0), (10, .getfield 22), (13, .iload_n 1), (14, .iconst 4), (15, .imul), (16, .iload_n 2), (17, .iadd), (18, .bipush (-9)), (20, .iastore), (21, .aload_n 0), (22, .dup), (23, .getfield 9), (26, .iconst 1), (27, .isub), (28, .putfield 9)] 31 ls st n h mc ms Q) : zGo K l d mX3_free 0 ls st n h mc ms Q := k (by decide +kernel)
theorem kX3_free_31 {K : zK} {l : Launch} {d : Nat} {ls : List (Nat × Value)} {st : List Value} {n : Nat} {h : zH} {mc ms : Nat} {Q : zQ} (k : zGb K l d mX3_free [(31, .return_)] 32 ls st n h mc ms Q) : zGo K l d mX3_free 31 ls st n h mc ms Q := k (by decide +kernel)
theorem kX3_swap_0 {K : zK} {l : Launch} {d : Nat} {ls : List (Nat × Value)} {st : List Value} {n : Nat} {h : zH} {mc ms : Nat} {Q : zQ} (k : zGb K l d mX3_swap [(0, .iconst 0), (1, .istore_n 3)] 2 ls st n h mc ms Q) : zGo K l d mX3_swap 0 ls st n h mc ms Q := k (by decide +kernel)
theorem kX3_swap_2 {K : zK} {l : Launch} {d : Nat} {ls : List (Nat × Value)} {st : List Value} {n : Nat} {h : zH} {mc ms : Nat} {Q : zQ} (k : zGb K l d mX3_swap [(2, .iload_n 3), (3, .iconst 4), (4, .if_icmp .ge 69), (7, .iload_n 1), (8, .iload_n 3), (9, .invokestatic 34), (12, .ifCond .eq 61), (15, .iload_n 2), (16, .iload_n 3), (17, .invokestatic 34), (20, .ifCond .eq 53), (23, .aload_n 0), (24, .getfield 22), (27, .iload_n 1), (28, .iconst 4), (29, .imul), (30, .iload_n 3), (31, .iadd), (32, .iaload), (33, .istore 4), (35, .aload_n 0), (36, .getfield 22), (39, .iload_n 1), (40, .iconst 4), (41, .imul), (42, .iload_n 3), (43, .iadd), (44, .aload_n 0), (45, .getfield 22), (48, .iload_n 2), (49, .iconst 4), (50, .imul), (51, .iload_n 3), (52, .iadd), (53, .iaload), (54, .iastore), (55, .aload_n 0), (56, .getfield 22), (59, .iload_n 2), (60, .iconst 4), (61, .imul), (62, .iload_n 3), (63, .iadd), (64, .iload 4), (66, .iastore), (67, .iinc 3 1), (70, .goto (-68))] 73 ls st n h mc ms Q) : zGo K l d mX3_swap 2 ls st n h mc ms Q := k (by decide +kernel)
theorem kX3_swap_73 {K : zK} {l : Launch} {d : Nat} {ls : List (Nat × Value)} {st : List Value} {n : Nat} {h : zH} {mc ms : Nat} {Q : zQ} (k : zGb K l d mX3_swap [(73, .return_)] 74 ls st n h mc ms Q) : zGo K l d mX3_swap 73 ls st n h mc ms Q := k (by decide +kernel)
theorem kX3_ringerAt_0 {K : zK} {l : Launch} {d : Nat} {ls : List (Nat × Value)} {st : List Value} {n : Nat} {h : zH} {mc ms : Nat} {Q : zQ} (k : zGb K l d mX3_ringerAt [(0, .iconst 0), (1, .istore_n 3)] 2 ls st n h mc ms Q) : zGo K l d mX3_ringerAt 0 ls st n h mc ms Q := k (by decide +kernel)
theorem kX3_ringerAt_2 {K : zK} {l : Launch} {d : Nat} {ls : List (Nat × Value)} {st : List Value} {n : Nat} {h : zH} {mc ms : Nat} {Q : zQ} (k : zGb K l d mX3_ringerAt [(2, .iload_n 3), (3, .bipush 6), (5, .if_icmp .ge 21), (8, .aload_n 0), (9, .iload_n 3), (10, .iload_n 1), (11, .invokevirtual 38), (14, .iload_n 2), (15, .if_icmp .ne 5), (18, .iload_n 3), (19, .ireturn)] 20 ls st n h mc ms Q) : zGo K l d mX3_ringerAt 2 ls st n h mc ms Q := k (by decide +kernel)
theorem kX3_ringerAt_20 {K : zK} {l : Launch} {d : Nat} {ls : List (Nat × Value)} {st : List Value} {n : Nat} {h : zH} {mc ms : Nat} {Q : zQ} (k : zGb K l d mX3_ringerAt [(20, .iinc 3 1), (23, .goto (-21))] 26 ls st n h mc ms Q) : zGo K l d mX3_ringerAt 20 ls st n h mc ms Q := k (by decide +kernel)
theorem kX3_ringerAt_26 {K : zK} {l : Launch} {d : Nat} {ls : List (Nat × Value)} {st : List Value} {n : Nat} {h : zH} {mc ms : Nat} {Q : zQ} (k : zGb K l d mX3_ringerAt [(26, .bipush (-9)), (28, .ireturn)] 29 ls st n h mc ms Q) : zGo K l d mX3_ringerAt 26 ls st n h mc ms Q := k (by decide +kernel)
theorem kX3_timesOf_0 {K : zK} {l : Launch} {d : Nat} {ls : List (Nat × Value)} {st : List Value} {n : Nat} {h : zH} {mc ms : Nat} {Q : zQ} (k : zGb K l d mX3_timesOf [(0, .iconst 0), (1, .istore_n 2), (2, .iconst 0), (3, .istore_n 3)] 4 ls st n h mc ms Q) : zGo K l d mX3_timesOf 0 ls st n h mc ms Q := k (by decide +kernel)
theorem kX3_timesOf_4 {K : zK} {l : Launch} {d : Nat} {ls : List (Nat × Value)} {st : List Value} {n : Nat} {h : zH} {mc ms : Nat} {Q : zQ} (k : zGb K l d mX3_timesOf [(4, .iload_n 3), (5, .iconst 4), (6, .if_icmp .ge 21), (9, .aload_n 0), (10, .iload_n 1), (11, .iload_n 3), (12, .invokevirtual 42), (15, .ifCond .eq 6), (18, .iinc 2 1)] 21 ls st n h mc ms Q) : zGo K l d mX3_timesOf 4 ls st n h mc ms Q := k (by decide +kernel)
theorem kX3_timesOf_21 {K : zK} {l : Launch} {d : Nat} {ls : List (Nat × Value)} {st : List Value} {n : Nat} {h : zH} {mc ms : Nat} {Q : zQ} (k : zGb K l d mX3_timesOf [(21, .iinc 3 1), (24, .goto (-20))] 27 ls st n h mc ms Q) : zGo K l d mX3_timesOf 21 ls st n h mc ms Q := k (by decide +kernel)
theorem kX3_timesOf_27 {K : zK} {l : Launch} {d : Nat} {ls : List (Nat × Value)} {st : List Value} {n : Nat} {h : zH} {mc ms : Nat} {Q : zQ} (k : zGb K l d mX3_timesOf [(27, .iload_n 2), (28, .ireturn)] 29 ls st n h mc ms Q) : zGo K l d mX3_timesOf 27 ls st n h mc ms Q := k (by decide +kernel)
theorem kX3_hasRoom_0 {K : zK} {l : Launch} {d : Nat} {ls : List (Nat × Value)} {st : List Value} {n : Nat} {h : zH} {mc ms : Nat} {Q : zQ} (k : zGb K l d mX3_hasRoom [(0, .aload_n 0), (1, .iload_n 3), (2, .iload 4), (4, .invokevirtual 45), (7, .bipush (-9)), (9, .if_icmp .ne 15), (12, .aload_n 0), (13, .iload_n 2), (14, .invokevirtual 48), (17, .aload_n 1), (18, .getfield 52), (21, .if_icmp .lt 5)] 24 ls st n h mc ms Q) : zGo K l d mX3_hasRoom 0 ls st n h mc ms Q := k (by decide +kernel)
theorem kX3_hasRoom_24 {K : zK} {l : Launch} {d : Nat} {ls : List (Nat × Value)} {st : List Value} {n : Nat} {h : zH} {mc ms : Nat} {Q : zQ} (k : zGb K l d mX3_hasRoom [(24, .iconst 0), (25, .ireturn)] 26 ls st n h mc ms Q) : zGo K l d mX3_hasRoom 24 ls st n h mc ms Q := k (by decide +kernel)
theorem kX3_hasRoom_26 {K : zK} {l : Launch} {d : Nat} {ls : List (Nat × Value)} {st : List Value} {n : Nat} {h : zH} {mc ms : Nat} {Q : zQ} (k : zGb K l d mX3_hasRoom [(26, .iconst 0), (27, .istore 5)] 29 ls st n h mc ms Q) : zGo K l d mX3_hasRoom 26 ls st n h mc ms Q := k (by decide +kernel)
theorem kX3_hasRoom_29 {K : zK} {l : Launch} {d : Nat} {ls : List (Nat × Value)} {st : List Value} {n : Nat} {h : zH} {mc ms : Nat} {Q : zQ} (k : zGb K l d mX3_hasRoom [(29, .iload 5), (31, .iconst 4), (32, .if_icmp .ge 35), (35, .aload_n 0), (36, .iload_n 2), (37, .iload 5), (39, .invokevirtual 42), (42, .ifCond .eq 19), (45, .iload_n 3), (46, .iload 5), (48, .isub), (49, .invokestatic 57), (52, .aload_n 1), (53, .getfield 62), (56, .if_icmp .gt 5), (59, .iconst 0), (60, .ireturn)] 61 ls st n h mc ms Q) : zGo K l d mX3_hasRoom 29 ls st n h mc ms Q := k (by decide +kernel)
theorem kX3_hasRoom_61 {K : zK} {l : Launch} {d : Nat} {ls : List (Nat × Value)} {st : List Value} {n : Nat} {h : zH} {mc ms : Nat} {Q : zQ} (k : zGb K l d mX3_hasRoom [(61, .iinc 5 1), (64, .goto (-35))] 67 ls st n h mc ms Q) : zGo K l d mX3_hasRoom 61 ls st n h mc ms Q := k (by decide +kernel)
theorem kX3_hasRoom_67 {K : zK} {l : Launch} {d : Nat} {ls : List (Nat × Value)} {st : List Value} {n : Nat} {h : zH} {mc ms : Nat} {Q : zQ} (k : zGb K l d mX3_hasRoom [(67, .iconst 1), (68, .ireturn)] 69 ls st n h mc ms Q) : zGo K l d mX3_hasRoom 67 ls st n h mc ms Q := k (by decide +kernel)
theorem kX3_ringersIn_0 {K : zK} {l : Launch} {d : Nat} {ls : List (Nat × Value)} {st : List Value} {n : Nat} {h : zH} {mc ms : Nat} {Q : zQ} (k : zGb K l d mX3_ringersIn [(0, .iconst 0), (1, .istore_n 2), (2, .iconst 0), (3, .istore_n 3)] 4 ls st n h mc ms Q) : zGo K l d mX3_ringersIn 0 ls st n h mc ms Q := k (by decide +kernel)
theorem kX3_ringersIn_4 {K : zK} {l : Launch} {d : Nat} {ls : List (Nat × Value)} {st : List Value} {n : Nat} {h : zH} {mc ms : Nat} {Q : zQ} (k : zGb K l d mX3_ringersIn [(4, .iload_n 3), (5, .bipush 6), (7, .if_icmp .ge 24), (10, .aload_n 0), (11, .iload_n 3), (12, .iload_n 1), (13, .invokevirtual 42), (16, .ifCond .eq 9), (19, .iload_n 2), (20, .iconst 1), (21, .iload_n 3), (22, .ishl), (23, .ior), (24, .istore_n 2)] 25 ls st n h mc ms Q) : zGo K l d mX3_ringersIn 4 ls st n h mc ms Q := k (by decide +kernel)
theorem kX3_ringersIn_25 {K : zK} {l : Launch} {d : Nat} {ls : List (Nat × Value)} {st : List Value} {n : Nat} {h : zH} {mc ms : Nat} {Q : zQ} (k : zGb K l d mX3_ringersIn [(25, .iinc 3 1), (28, .goto (-24))] 31 ls st n h mc ms Q) : zGo K l d mX3_ringersIn 25 ls st n h mc ms Q := k (by decide +kernel)
theorem kX3_ringersIn_31 {K : zK} {l : Launch} {d : Nat} {ls : List (Nat × Value)} {st : List Value} {n : Nat} {h : zH} {mc ms : Nat} {Q : zQ} (k : zGb K l d mX3_ringersIn [(31, .iload_n 2), (32, .ireturn)] 33 ls st n h mc ms Q) : zGo K l d mX3_ringersIn 31 ls st n h mc ms Q := k (by decide +kernel)
theorem kX3_ringersAtAll_0 {K : zK} {l : Launch} {d : Nat} {ls : List (Nat × Value)} {st : List Value} {n : Nat} {h : zH} {mc ms : Nat} {Q : zQ} (k : zGb K l d mX3_ringersAtAll [(0, .iconst 0), (1, .istore_n 1), (2, .iconst 0), (3, .istore_n 2)] 4 ls st n h mc ms Q) : zGo K l d mX3_ringersAtAll 0 ls st n h mc ms Q := k (by decide +kernel)
theorem kX3_ringersAtAll_4 {K : zK} {l : Launch} {d : Nat} {ls : List (Nat × Value)} {st : List Value} {n : Nat} {h : zH} {mc ms : Nat} {Q : zQ} (k : zGb K l d mX3_ringersAtAll [(4, .iload_n 2), (5, .iconst 4), (6, .if_icmp .ge 17), (9, .iload_n 1), (10, .aload_n 0), (11, .iload_n 2), (12, .invokevirtual 65), (15, .ior), (16, .istore_n 1), (17, .iinc 2 1), (20, .goto (-16))] 23 ls st n h mc ms Q) : zGo K l d mX3_ringersAtAll 4 ls st n h mc ms Q := k (by decide +kernel)
theorem kX3_ringersAtAll_23 {K : zK} {l : Launch} {d : Nat} {ls : List (Nat × Value)} {st : List Value} {n : Nat} {h : zH} {mc ms : Nat} {Q : zQ} (k : zGb K l d mX3_ringersAtAll [(23, .iload_n 1), (24, .ireturn)] 25 ls st n h mc ms Q) : zGo K l d mX3_ringersAtAll 23 ls st n h mc ms Q := k (by decide +kernel)
theorem kX3_soundsWithout_0 {K : zK} {l : Launch} {d : Nat} {ls : List (Nat × Value)} {st : List Value} {n : Nat} {h : zH} {mc ms : Nat} {Q : zQ} (k : zGb K l d mX3_soundsWithout [(0, .iconst 0), (1, .istore_n 2)] 2 ls st n h mc ms Q) : zGo K l d mX3_soundsWithout 0 ls st n h mc ms Q := k (by decide +kernel)
theorem kX3_soundsWithout_2 {K : zK} {l : Launch} {d : Nat} {ls : List (Nat × Value)} {st : List Value} {n : Nat} {h : zH} {mc ms : Nat} {Q : zQ} (k : zGb K l d mX3_soundsWithout [(2, .iload_n 2), (3, .iconst 4), (4, .if_icmp .ge 43), (7, .aload_n 0), (8, .getfield 18), (11, .iload_n 2), (12, .iaload), (13, .bipush (-9)), (15, .if_icmp .eq 26), (18, .aload_n 0), (19, .getfield 18), (22, .iload_n 2), (23, .iaload), (24, .aload_n 0), (25, .iload_n 2), (26, .invokevirtual 65), (29, .iload_n 1), (30, .iconst (-1)), (31, .ixor), (32, .iand), (33, .invokestatic 68), (36, .if_icmp .eq 5), (39, .iconst 0), (40, .ireturn)] 41 ls st n h mc ms Q) : zGo K l d mX3_soundsWithout 2 ls st n h mc ms Q := k (by decide +kernel)
theorem kX3_soundsWithout_41 {K : zK} {l : Launch} {d : Nat} {ls : List (Nat × Value)} {st : List Value} {n : Nat} {h : zH} {mc ms : Nat} {Q : zQ} (k : zGb K l d mX3_soundsWithout [(41, .iinc 2 1), (44, .goto (-42))] 47 ls st n h mc ms Q) : zGo K l d mX3_soundsWithout 41 ls st n h mc ms Q := k (by decide +kernel)
theorem kX3_soundsWithout_47 {K : zK} {l : Launch} {d : Nat} {ls : List (Nat × Value)} {st : List Value} {n : Nat} {h : zH} {mc ms : Nat} {Q : zQ} (k : zGb K l d mX3_soundsWithout [(47, .iconst 1), (48, .ireturn)] 49 ls st n h mc ms Q) : zGo K l d mX3_soundsWithout 47 ls st n h mc ms Q := k (by decide +kernel)
theorem kX3_walk_0 {K : zK} {l : Launch} {d : Nat} {ls : List (Nat × Value)} {st : List Value} {n : Nat} {h : zH} {mc ms : Nat} {Q : zQ} (k : zGb K l d mX3_walk [(0, .iconst 0), (1, .istore_n 3), (2, .iconst 0), (3, .istore 4)] 5 ls st n h mc ms Q) : zGo K l d mX3_walk 0 ls st n h mc ms Q := k (by decide +kernel)
theorem kX3_walk_5 {K : zK} {l : Launch} {d : Nat} {ls : List (Nat × Value)} {st : List Value} {n : Nat} {h : zH} {mc ms : Nat} {Q : zQ} (k : zGb K l d mX3_walk [(5, .iload 4), (7, .aload_n 1), (8, .getfield 73), (11, .if_icmp .ge 28), (14, .iload_n 3), (15, .aload_n 0), (16, .iload 4), (18, .invokevirtual 48), (21, .iconst 2), (22, .imul), (23, .aload_n 1), (24, .iload 4), (26, .iload_n 2), (27, .invokevirtual 76), (30, .imul), (31, .iadd), (32, .istore_n 3), (33, .iinc 4 1), (36, .goto (-31))] 39 ls st n h mc ms Q) : zGo K l d mX3_walk 5 ls st n h mc ms Q := k (by decide +kernel)
theorem kX3_walk_39 {K : zK} {l : Launch} {d : Nat} {ls : List (Nat × Value)} {st : List Value} {n : Nat} {h : zH} {mc ms : Nat} {Q : zQ} (k : zGb K l d mX3_walk [(39, .iload_n 3), (40, .ireturn)] 41 ls st n h mc ms Q) : zGo K l d mX3_walk 39 ls st n h mc ms Q := k (by decide +kernel)
theorem kX4_init_0 {K : zK} {l : Launch} {d : Nat} {ls : List (Nat × Value)} {st : List Value} {n : Nat} {h : zH} {mc ms : Nat} {Q : zQ} (k : zGb K l d mX4_init [(0, .aload_n 0), (1, .invokespecial 5), (4, .aload_n 0), (5, .iconst 0), (6, .putfield 11), (9, .aload_n 0), (10, .sipush 200), (13, .newarray .byte), (15, .putfield 15), (18, .aload_n 0), (19, .iconst 0), (20, .putfield 19), (23, .aload_n 0), (24, .iconst (-1)), (25, .putfield 22), (28, .aload_n 0), (29, .iconst 4), (30, .newarray .int), (32, .putfield 25), (35, .aload_n 0), (36, .iconst 5), (37, .newarray .boolean), (39, .putfield 29), (42, .return_)] 43 ls st n h mc ms Q) : zGo K l d mX4_init 0 ls st n h mc ms Q := k (by decide +kernel)
theorem kX4_empty_0 {K : zK} {l : Launch} {d : Nat} {ls : List (Nat × Value)} {st : List Value} {n : Nat} {h : zH} {mc ms : Nat} {Q : zQ} (k : zGb K l d mX4_empty [(0, .aload_n 0), (1, .iconst 0), (2, .putfield 11), (5, .return_)] 6 ls st n h mc ms Q) : zGo K l d mX4_empty 0 ls st n h mc ms Q := k (by decide +kernel)
theorem kX4_add_0 {K : zK} {l : Launch} {d : Nat} {ls : List (Nat × Value)} {st : List Value} {n : Nat} {h : zH} {mc ms : Nat} {Q : zQ} (k : zGb K l d mX4_add [(0, .aload_n 0), (1, .getfield 11), (4, .sipush 200), (7, .if_icmp .ge 23), (10, .aload_n 0), (11, .getfield 15), (14, .aload_n 0), (15, .getfield 11), (18, .iload_n 1), (19, .bastore), (20, .aload_n 0), (21, .dup), (22, .getfield 11), (25, .iconst 1), (26, .iadd), (27, .putfield 11)] 30 ls st n h mc ms Q) : zGo K l d mX4_add 0 ls st n h mc ms Q := k (by decide +kernel)
theorem kX4_add_30 {K : zK} {l : Launch} {d : Nat} {ls : List (Nat × Value)} {st : List Value} {n : Nat} {h : zH} {mc ms : Nat} {Q : zQ} (k : zGb K l d mX4_add [(30, .return_)] 31 ls st n h mc ms Q) : zGo K l d mX4_add 30 ls st n h mc ms Q := k (by decide +kernel)
theorem kX4_read_0 {K : zK} {l : Launch} {d : Nat} {ls : List (Nat × Value)} {st : List Value} {n : Nat} {h : zH} {mc ms : Nat} {Q : zQ} (k : zGb K l d mX4_read [(0, .aload_n 0), (1, .iconst 0), (2, .putfield 19), (5, .aload_n 0), (6, .iconst (-1)), (7, .putfield 22), (10, .iconst 0), (11, .istore_n 2)] 12 ls st n h mc ms Q) : zGo K l d mX4_read 0 ls st n h mc ms Q := k (by decide +kernel)
theorem kX4_read_12 {K : zK} {l : Launch} {d : Nat} {ls : List (Nat × Value)} {st : List Value} {n : Nat} {h : zH} {mc ms : Nat} {Q : zQ} (k : zGb K l d mX4_read [(12, .iload_n 2), (13, .iconst 5), (14, .if_icmp .ge 16), (17, .aload_n 0), (18, .getfield 29), (21, .iload_n 2), (22, .iconst 0), (23, .bastore), (24, .iinc 2 1), (27, .goto (-15))] 30 ls st n h mc ms Q) : zGo K l d mX4_read 12 ls st n h mc ms Q := k (by decide +kernel)
theorem kX4_read_30 {K : zK} {l : Launch} {d : Nat} {ls : List (Nat × Value)} {st : List Value} {n : Nat} {h : zH} {mc ms : Nat} {Q : zQ} (k : zGb K l d mX4_read [(30, .aload_n 1), (31, .invokevirtual 33), (34, .iconst 0), (35, .istore_n 2), (36, .aload_n 0), (37, .invokevirtual 38), (40, .iconst 0), (41, .istore_n 3)] 42 ls st n h mc ms Q) : zGo K l d mX4_read 30 ls st n h mc ms Q := k (by decide +kernel)
theorem kX4_read_42 {K : zK} {l : Launch} {d : Nat} {ls : List (Nat × Value)} {st : List Value} {n : Nat} {h : zH} {mc ms : Nat} {Q : zQ} (k : zGb K l d mX4_read [(42, .iload_n 3), (43, .sipush 200), (46, .if_icmp .ge 40), (49, .aload_n 0), (50, .getfield 19), (53, .aload_n 0), (54, .getfield 11), (57, .if_icmp .ge 29), (60, .aload_n 0), (61, .getfield 22), (64, .iconst (-1)), (65, .if_icmp .ne 21), (68, .aload_n 0), (69, .aload_n 1), (70, .invokevirtual 41), (73, .iinc 2 1), (76, .aload_n 0), (77, .invokevirtual 38), (80, .iinc 3 1), (83, .goto (-41))] 86 ls st n h mc ms Q) : zGo K l d mX4_read 42 ls st n h mc ms Q := k (by decide +kernel)
theorem kX4_read_86 {K : zK} {l : Launch} {d : Nat} {ls : List (Nat × Value)} {st : List Value} {n : Nat} {h : zH} {mc ms : Nat} {Q : zQ} (k : zGb K l d mX4_read [(86, .aload_n 0), (87, .getfield 22), (90, .iconst (-1)), (91, .if_icmp .ne 7), (94, .iload_n 2), (95, .goto 10)] 98 ls st n h mc ms Q) : zGo K l d mX4_read 86 ls st n h mc ms Q := k (by decide +kernel)
theorem kX4_read_98 {K : zK} {l : Launch} {d : Nat} {ls : List (Nat × Value)} {st : List Value} {n : Nat} {h : zH} {mc ms : Nat} {Q : zQ} (k : zGb K l d mX4_read [(98, .bipush (-10)), (100, .aload_n 0), (101, .getfield 22), (104, .isub)] 105 ls st n h mc ms Q) : zGo K l d mX4_read 98 ls st n h mc ms Q := k (by decide +kernel)
theorem kX4_read_105 {K : zK} {l : Launch} {d : Nat} {ls : List (Nat × Value)} {st : List Value} {n : Nat} {h : zH} {mc ms : Nat} {Q : zQ} (k : zGb K l d mX4_read [(105, .ireturn)] 106 ls st n h mc ms Q) : zGo K l d mX4_read 105 ls st n h mc ms Q := k (by decide +kernel)
theorem kX4_readItem_0 {K : zK} {l : Launch} {d : Nat} {ls : List (Nat × Value)} {st : List Value} {n : Nat} {h : zH} {mc ms : Nat} {Q : zQ} (k : zGb K l d mX4_readItem [(0, .aload_n 0), (1, .getfield 19), (4, .istore_n 2), (5, .aload_n 0), (6, .invokevirtual 45), (9, .istore_n 3), (10, .iload_n 3), (11, .bipush (-9)), (13, .if_icmp .eq 12), (16, .aload_n 0), (17, .iload_n 3), (18, .aload_n 1), (19, .invokevirtual 49), (22, .ifCond .ne 9)] 25 ls st n h mc ms Q) : zGo K l d mX4_readItem 0 ls st n h mc ms Q := k (by decide +kernel)
theorem kX4_readItem_25 {K : zK} {l : Launch} {d : Nat} {ls : List (Nat × Value)} {st : List Value} {n : Nat} {h : zH} {mc ms : Nat} {Q : zQ} (k : zGb K l d mX4_readItem [(25, .aload_n 0), (26, .iload_n 2), (27, .putfield 22), (30, .return_)] 31 ls st n h mc ms Q) : zGo K l d mX4_readItem 25 ls st n h mc ms Q := k (by decide +kernel)
theorem kX4_readItem_31 {K : zK} {l : Launch} {d : Nat} {ls : List (Nat × Value)} {st : List Value} {n : Nat} {h : zH} {mc ms : Nat} {Q : zQ} (k : zGb K l d mX4_readItem [(31, .aload_n 0), (32, .iload_n 3), (33, .invokevirtual 53), (36, .aload_n 0), (37, .invokevirtual 57), (40, .aload_n 0), (41, .getfield 22), (44, .iconst (-1)), (45, .if_icmp .ne 9), (48, .aload_n 0), (49, .iload_n 3), (50, .aload_n 1), (51, .invokevirtual 60)] 54 ls st n h mc ms Q) : zGo K l d mX4_readItem 31 ls st n h mc ms Q := k (by decide +kernel)
theorem kX4_readItem_54 {K : zK} {l : Launch} {d : Nat} {ls : List (Nat × Value)} {st : List Value} {n : Nat} {h : zH} {mc ms : Nat} {Q : zQ} (k : zGb K l d mX4_readItem [(54, .return_)] 55 ls st n h mc ms Q) : zGo K l d mX4_readItem 54 ls st n h mc ms Q := k (by decide +kernel)
theorem kX4_kindOfWord_0 {K : zK} {l : Launch} {d : Nat} {ls : List (Nat × Value)} {st : List Value} {n : Nat} {h : zH} {mc ms : Nat} {Q : zQ} (k : zGb K l d mX4_kindOfWord [(0, .aload_n 0), (1, .getfield 19), (4, .istore_n 1)] 5 ls st n h mc ms Q) : zGo K l d mX4_kindOfWord 0 ls st n h mc ms Q := k (by decide +kernel)
theorem kX4_kindOfWord_5 {K : zK} {l : Launch} {d : Nat} {ls : List (Nat × Value)} {st : List Value} {n : Nat} {h : zH} {mc ms : Nat} {Q : zQ} (k : zGb K l d mX4_kindOfWord [(5, .aload_n 0), (6, .getfield 19), (9, .aload_n 0), (10, .getfield 11), (13, .if_icmp .ge 44), (16, .aload_n 0), (17, .getfield 15), (20, .aload_n 0), (21, .getfield 19), (24, .baload), (25, .bipush 97), (27, .if_icmp .lt 30), (30, .aload_n 0), (31, .getfield 15), (34, .aload_n 0), (35, .getfield 19), (38, .baload), (39, .bipush 122), (41, .if_icmp .gt 16), (44, .aload_n 0), (45, .dup), (46, .getfield 19), (49, .iconst 1), (50, .iadd), (51, .putfield 19), (54, .goto (-49))] 57 ls st n h mc ms Q) : zGo K l d mX4_kindOfWord 5 ls st n h mc ms Q := k (by decide +kernel)
theorem kX4_kindOfWord_57 {K : zK} {l : Launch} {d : Nat} {ls : List (Nat × Value)} {st : List Value} {n : Nat} {h : zH} {mc ms : Nat} {Q : zQ} (k : zGb K l d mX4_kindOfWord [(57, .iconst 0), (58, .istore_n 2)] 59 ls st n h mc ms Q) : zGo K l d mX4_kindOfWord 57 ls st n h mc ms Q := k (by decide +kernel)
theorem kX4_kindOfWord_59 {K : zK} {l : Launch} {d : Nat} {ls : List (Nat × Value)} {st : List Value} {n : Nat} {h : zH} {mc ms : Nat} {Q : zQ} (k : zGb K l d mX4_kindOfWord [(59, .iload_n 2), (60, .iconst 5), (61, .if_icmp .ge 27), (64, .aload_n 0), (65, .iload_n 2), (66, .invokestatic 64), (69, .iload_n 1), (70, .aload_n 0), (71, .getfield 19), (74, .invokevirtual 68), (77, .ifCond .eq 5), (80, .iload_n 2), (81, .ireturn)] 82 ls st n h mc ms Q) : zGo K l d mX4_kindOfWord 59 ls st n h mc ms Q := k (by decide +kernel)
theorem kX4_kindOfWord_82 {K : zK} {l : Launch} {d : Nat} {ls : List (Nat × Value)} {st : List Value} {n : Nat} {h : zH} {mc ms : Nat} {Q : zQ} (k : zGb K l d mX4_kindOfWord [(82, .iinc 2 1), (85, .goto (-26))] 88 ls st n h mc ms Q) : zGo K l d mX4_kindOfWord 82 ls st n h mc ms Q := k (by decide +kernel)
theorem kX4_kindOfWord_88 {K : zK} {l : Launch} {d : Nat} {ls : List (Nat × Value)} {st : List Value} {n : Nat} {h : zH} {mc ms : Nat} {Q : zQ} (k : zGb K l d mX4_kindOfWord [(88, .bipush (-9)), (90, .ireturn)] 91 ls st n h mc ms Q) : zGo K l d mX4_kindOfWord 88 ls st n h mc ms Q := k (by decide +kernel)
theorem kX4_nameOf_0 {K : zK} {l : Launch} {d : Nat} {ls : List (Nat × Value)} {st : List Value} {n : Nat} {h : zH} {mc ms : Nat} {Q : zQ} (k : zGb K l d mX4_nameOf [(0, .iload_n 0), (1, .tableswitch 43 0 3 #[31, 34, 37, 40])] 32 ls st n h mc ms Q) : zGo K l d mX4_nameOf 0 ls st n h mc ms Q := k (by decide +kernel)
theorem kX4_nameOf_32 {K : zK} {l : Launch} {d : Nat} {ls : List (Nat × Value)} {st : List Value} {n : Nat} {h : zH} {mc ms : Nat} {Q : zQ} (k : zGb K l d mX4_nameOf [(32, .ldc 72), (34, .areturn)] 35 ls st n h mc ms Q) : zGo K l d mX4_nameOf 32 ls st n h mc ms Q := k (by decide +kernel)
theorem kX4_nameOf_35 {K : zK} {l : Launch} {d : Nat} {ls : List (Nat × Value)} {st : List Value} {n : Nat} {h : zH} {mc ms : Nat} {Q : zQ} (k : zGb K l d mX4_nameOf [(35, .ldc 74), (37, .areturn)] 38 ls st n h mc ms Q) : zGo K l d mX4_nameOf 35 ls st n h mc ms Q := k (by decide +kernel)
theorem kX4_nameOf_38 {K : zK} {l : Launch} {d : Nat} {ls : List (Nat × Value)} {st : List Value} {n : Nat} {h : zH} {mc ms : Nat} {Q : zQ} (k : zGb K l d mX4_nameOf [(38, .ldc 76), (40, .areturn)] 41 ls st n h mc ms Q) : zGo K l d mX4_nameOf 38 ls st n h mc ms Q := k (by decide +kernel)
theorem kX4_nameOf_41 {K : zK} {l : Launch} {d : Nat} {ls : List (Nat × Value)} {st : List Value} {n : Nat} {h : zH} {mc ms : Nat} {Q : zQ} (k : zGb K l d mX4_nameOf [(41, .ldc 78), (43, .areturn)] 44 ls st n h mc ms Q) : zGo K l d mX4_nameOf 41 ls st n h mc ms Q := k (by decide +kernel)
theorem kX4_nameOf_44 {K : zK} {l : Launch} {d : Nat} {ls : List (Nat × Value)} {st : List Value} {n : Nat} {h : zH} {mc ms : Nat} {Q : zQ} (k : zGb K l d mX4_nameOf [(44, .ldc 80), (46, .areturn)] 47 ls st n h mc ms Q) : zGo K l d mX4_nameOf 44 ls st n h mc ms Q := k (by decide +kernel)
theorem kX4_isWord_0 {K : zK} {l : Launch} {d : Nat} {ls : List (Nat × Value)} {st : List Value} {n : Nat} {h : zH} {mc ms : Nat} {Q : zQ} (k : zGb K l d mX4_isWord [(0, .aload_n 1), (1, .invokevirtual 82), (4, .iload_n 3), (5, .iload_n 2), (6, .isub), (7, .if_icmp .ne 11), (10, .iload_n 3), (11, .aload_n 0), (12, .getfield 11), (15, .if_icmp .le 5)] 18 ls st n h mc ms Q) : zGo K l d mX4_isWord 0 ls st n h mc ms Q := k (by decide +kernel)
theorem kX4_isWord_18 {K : zK} {l : Launch} {d : Nat} {ls : List (Nat × Value)} {st : List Value} {n : Nat} {h : zH} {mc ms : Nat} {Q : zQ} (k : zGb K l d mX4_isWord [(18, .iconst 0), (19, .ireturn)] 20 ls st n h mc ms Q) : zGo K l d mX4_isWord 18 ls st n h mc ms Q := k (by decide +kernel)
theorem kX4_isWord_20 {K : zK} {l : Launch} {d : Nat} {ls : List (Nat × Value)} {st : List Value} {n : Nat} {h : zH} {mc ms : Nat} {Q : zQ} (k : zGb K l d mX4_isWord [(20, .iconst 0), (21, .istore 4)] 23 ls st n h mc ms Q) : zGo K l d mX4_isWord 20 ls st n h mc ms Q := k (by decide +kernel)
theorem kX4_isWord_23 {K : zK} {l : Launch} {d : Nat} {ls : List (Nat × Value)} {st : List Value} {n : Nat} {h : zH} {mc ms : Nat} {Q : zQ} (k : zGb K l d mX4_isWord [(23, .iload 4), (25, .aload_n 1), (26, .invokevirtual 82), (29, .if_icmp .ge 29), (32, .aload_n 0), (33, .getfield 15), (36, .iload_n 2), (37, .iload 4), (39, .iadd), (40, .baload), (41, .aload_n 1), (42, .iload 4), (44, .invokevirtual 86), (47, .if_icmp .eq 5), (50, .iconst 0), (51, .ireturn)] 52 ls st n h mc ms Q) : zGo K l d mX4_isWord 23 ls st n h mc ms Q := k (by decide +kernel)
theorem kX4_isWord_52 {K : zK} {l : Launch} {d : Nat} {ls : List (Nat × Value)} {st : List Value} {n : Nat} {h : zH} {mc ms : Nat} {Q : zQ} (k : zGb K l d mX4_isWord [(52, .iinc 4 1), (55, .goto (-32))] 58 ls st n h mc ms Q) : zGo K l d mX4_isWord 52 ls st n h mc ms Q := k (by decide +kernel)
theorem kX4_isWord_58 {K : zK} {l : Launch} {d : Nat} {ls : List (Nat × Value)} {st : List Value} {n : Nat} {h : zH} {mc ms : Nat} {Q : zQ} (k : zGb K l d mX4_isWord [(58, .iconst 1), (59, .ireturn)] 60 ls st n h mc ms Q) : zGo K l d mX4_isWord 58 ls st n h mc ms Q := k (by decide +kernel)
theorem kX4_mayStand_0 {K : zK} {l : Launch} {d : Nat} {ls : List (Nat × Value)} {st : List Value} {n : Nat} {h : zH} {mc ms : Nat} {Q : zQ} (k : zGb K l d mX4_mayStand [(0, .iload_n 1), (1, .lookupswitch 56 #[(0, 27), (1, 41)])] 28 ls st n h mc ms Q) : zGo K l d mX4_mayStand 0 ls st n h mc ms Q := k (by decide +kernel)
theorem kX4_mayStand_28 {K : zK} {l : Launch} {d : Nat} {ls : List (Nat × Value)} {st : List Value} {n : Nat} {h : zH} {mc ms : Nat} {Q : zQ} (k : zGb K l d mX4_mayStand [(28, .aload_n 2), (29, .getfield 90), (32, .iconst 4), (33, .if_icmp .ge 7), (36, .iconst 1), (37, .goto 4)] 40 ls st n h mc ms Q) : zGo K l d mX4_mayStand 28 ls st n h mc ms Q := k (by decide +kernel)
theorem kX4_mayStand_40 {K : zK} {l : Launch} {d : Nat} {ls : List (Nat × Value)} {st : List Value} {n : Nat} {h : zH} {mc ms : Nat} {Q : zQ} (k : zGb K l d mX4_mayStand [(40, .iconst 0)] 41 ls st n h mc ms Q) : zGo K l d mX4_mayStand 40 ls st n h mc ms Q := k (by decide +kernel)
theorem kX4_mayStand_41 {K : zK} {l : Launch} {d : Nat} {ls : List (Nat × Value)} {st : List Value} {n : Nat} {h : zH} {mc ms : Nat} {Q : zQ} (k : zGb K l d mX4_mayStand [(41, .ireturn)] 42 ls st n h mc ms Q) : zGo K l d mX4_mayStand 41 ls st n h mc ms Q := k (by decide +kernel)
theorem kX4_mayStand_42 {K : zK} {l : Launch} {d : Nat} {ls : List (Nat × Value)} {st : List Value} {n : Nat} {h : zH} {mc ms : Nat} {Q : zQ} (k : zGb K l d mX4_mayStand [(42, .aload_n 2), (43, .getfield 93), (46, .bipush 6), (48, .if_icmp .ge 7), (51, .iconst 1), (52, .goto 4)] 55 ls st n h mc ms Q) : zGo K l d mX4_mayStand 42 ls st n h mc ms Q := k (by decide +kernel)
theorem kX4_mayStand_55 {K : zK} {l : Launch} {d : Nat} {ls : List (Nat × Value)} {st : List Value} {n : Nat} {h : zH} {mc ms : Nat} {Q : zQ} (k : zGb K l d mX4_mayStand [(55, .iconst 0)] 56 ls st n h mc ms Q) : zGo K l d mX4_mayStand 55 ls st n h mc ms Q := k (by decide +kernel)
theorem kX4_mayStand_56 {K : zK} {l : Launch} {d : Nat} {ls : List (Nat × Value)} {st : List Value} {n : Nat} {h : zH} {mc ms : Nat} {Q : zQ} (k : zGb K l d mX4_mayStand [(56, .ireturn)] 57 ls st n h mc ms Q) : zGo K l d mX4_mayStand 56 ls st n h mc ms Q := k (by decide +kernel)
theorem kX4_mayStand_57 {K : zK} {l : Launch} {d : Nat} {ls : List (Nat × Value)} {st : List Value} {n : Nat} {h : zH} {mc ms : Nat} {Q : zQ} (k : zGb K l d mX4_mayStand [(57, .aload_n 0), (58, .getfield 29), (61, .iload_n 1), (62, .baload), (63, .ifCond .ne 7), (66, .iconst 1), (67, .goto 4)] 70 ls st n h mc ms Q) : zGo K l d mX4_mayStand 57 ls st n h mc ms Q := k (by decide +kernel)
theorem kX4_mayStand_70 {K : zK} {l : Launch} {d : Nat} {ls : List (Nat × Value)} {st : List Value} {n : Nat} {h : zH} {mc ms : Nat} {Q : zQ} (k : zGb K l d mX4_mayStand [(70, .iconst 0)] 71 ls st n h mc ms Q) : zGo K l d mX4_mayStand 70 ls st n h mc ms Q := k (by decide +kernel)
theorem kX4_mayStand_71 {K : zK} {l : Launch} {d : Nat} {ls : List (Nat × Value)} {st : List Value} {n : Nat} {h : zH} {mc ms : Nat} {Q : zQ} (k : zGb K l d mX4_mayStand [(71, .ireturn)] 72 ls st n h mc ms Q) : zGo K l d mX4_mayStand 71 ls st n h mc ms Q := k (by decide +kernel)
theorem kX4_readNumbers_0 {K : zK} {l : Launch} {d : Nat} {ls : List (Nat × Value)} {st : List Value} {n : Nat} {h : zH} {mc ms : Nat} {Q : zQ} (k : zGb K l d mX4_readNumbers [(0, .iload_n 1), (1, .tableswitch 97 0 3 #[31, 41, 76, 87])] 32 ls st n h mc ms Q) : zGo K l d mX4_readNumbers 0 ls st n h mc ms Q := k (by decide +kernel)
theorem kX4_readNumbers_32 {K : zK} {l : Launch} {d : Nat} {ls : List (Nat × Value)} {st : List Value} {n : Nat} {h : zH} {mc ms : Nat} {Q : zQ} (k : zGb K l d mX4_readNumbers [(32, .aload_n 0), (33, .iconst 0), (34, .iconst 1), (35, .iconst 3), (36, .invokevirtual 96), (39, .goto 66)] 42 ls st n h mc ms Q) : zGo K l d mX4_readNumbers 32 ls st n h mc ms Q := k (by decide +kernel)
theorem kX4_readNumbers_42 {K : zK} {l : Launch} {d : Nat} {ls : List (Nat × Value)} {st : List Value} {n : Nat} {h : zH} {mc ms : Nat} {Q : zQ} (k : zGb K l d mX4_readNumbers [(42, .aload_n 0), (43, .iconst 0), (44, .iconst 0), (45, .bipush 60), (47, .invokevirtual 96), (50, .aload_n 0), (51, .iconst 1), (52, .iconst 0), (53, .bipush 7), (55, .invokevirtual 96), (58, .aload_n 0), (59, .iconst 2), (60, .iconst 0), (61, .bipush 15), (63, .invokevirtual 96), (66, .aload_n 0), (67, .iconst 3), (68, .iconst 0), (69, .bipush 9), (71, .invokevirtual 96), (74, .goto 31)] 77 ls st n h mc ms Q) : zGo K l d mX4_readNumbers 42 ls st n h mc ms Q := k (by decide +kernel)
theorem kX4_readNumbers_77 {K : zK} {l : Launch} {d : Nat} {ls : List (Nat × Value)} {st : List Value} {n : Nat} {h : zH} {mc ms : Nat} {Q : zQ} (k : zGb K l d mX4_readNumbers [(77, .aload_n 0), (78, .iconst 0), (79, .iconst 0), (80, .bipush 60), (82, .invokevirtual 96), (85, .goto 20)] 88 ls st n h mc ms Q) : zGo K l d mX4_readNumbers 77 ls st n h mc ms Q := k (by decide +kernel)
theorem kX4_readNumbers_88 {K : zK} {l : Launch} {d : Nat} {ls : List (Nat × Value)} {st : List Value} {n : Nat} {h : zH} {mc ms : Nat} {Q : zQ} (k : zGb K l d mX4_readNumbers [(88, .aload_n 0), (89, .iconst 0), (90, .iconst 1), (91, .iconst 4), (92, .invokevirtual 96), (95, .goto 10)] 98 ls st n h mc ms Q) : zGo K l d mX4_readNumbers 88 ls st n h mc ms Q := k (by decide +kernel)
theorem kX4_readNumbers_98 {K : zK} {l : Launch} {d : Nat} {ls : List (Nat × Value)} {st : List Value} {n : Nat} {h : zH} {mc ms : Nat} {Q : zQ} (k : zGb K l d mX4_readNumbers [(98, .aload_n 0), (99, .iconst 0), (100, .iconst 0), (101, .iconst 3), (102, .invokevirtual 96)] 105 ls st n h mc ms Q) : zGo K l d mX4_readNumbers 98 ls st n h mc ms Q := k (by decide +kernel)
theorem kX4_readNumbers_105 {K : zK} {l : Launch} {d : Nat} {ls : List (Nat × Value)} {st : List Value} {n : Nat} {h : zH} {mc ms : Nat} {Q : zQ} (k : zGb K l d mX4_readNumbers [(105, .return_)] 106 ls st n h mc ms Q) : zGo K l d mX4_readNumbers 105 ls st n h mc ms Q := k (by decide +kernel)
theorem kX4_readNumber_0 {K : zK} {l : Launch} {d : Nat} {ls : List (Nat × Value)} {st : List Value} {n : Nat} {h : zH} {mc ms : Nat} {Q : zQ} (k : zGb K l d mX4_readNumber [(0, .aload_n 0), (1, .invokevirtual 38), (4, .aload_n 0), (5, .getfield 22), (8, .iconst (-1)), (9, .if_icmp .ne 10), (12, .aload_n 0), (13, .invokevirtual 100), (16, .ifCond .eq 4)] 19 ls st n h mc ms Q) : zGo K l d mX4_readNumber 0 ls st n h mc ms Q := k (by decide +kernel)
theorem kX4_readNumber_19 {K : zK} {l : Launch} {d : Nat} {ls : List (Nat × Value)} {st : List Value} {n : Nat} {h : zH} {mc ms : Nat} {Q : zQ} (k : zGb K l d mX4_readNumber [(19, .return_)] 20 ls st n h mc ms Q) : zGo K l d mX4_readNumber 19 ls st n h mc ms Q := k (by decide +kernel)
theorem kX4_readNumber_20 {K : zK} {l : Launch} {d : Nat} {ls : List (Nat × Value)} {st : List Value} {n : Nat} {h : zH} {mc ms : Nat} {Q : zQ} (k : zGb K l d mX4_readNumber [(20, .aload_n 0), (21, .getfield 19), (24, .istore 4), (26, .iconst 0), (27, .istore 5)] 29 ls st n h mc ms Q) : zGo K l d mX4_readNumber 20 ls st n h mc ms Q := k (by decide +kernel)
theorem kX4_readNumber_29 {K : zK} {l : Launch} {d : Nat} {ls : List (Nat × Value)} {st : List Value} {n : Nat} {h : zH} {mc ms : Nat} {Q : zQ} (k : zGb K l d mX4_readNumber [(29, .aload_n 0), (30, .getfield 19), (33, .aload_n 0), (34, .getfield 11), (37, .if_icmp .ge 70), (40, .aload_n 0), (41, .getfield 15), (44, .aload_n 0), (45, .getfield 19), (48, .baload), (49, .bipush 48), (51, .if_icmp .lt 56), (54, .aload_n 0), (55, .getfield 15), (58, .aload_n 0), (59, .getfield 19), (62, .baload), (63, .bipush 57), (65, .if_icmp .gt 42), (68, .iload 5), (70, .bipush 10), (72, .imul), (73, .aload_n 0), (74, .getfield 15), (77, .aload_n 0), (78, .getfield 19), (81, .baload), (82, .iadd), (83, .bipush 48), (85, .isub), (86, .sipush 1000), (89, .invokestatic 104), (92, .istore 5), (94, .aload_n 0), (95, .dup), (96, .getfield 19), (99, .iconst 1), (100, .iadd), (101, .putfield 19), (104, .goto (-75))] 107 ls st n h mc ms Q) : zGo K l d mX4_readNumber 29 ls st n h mc ms Q := k (by decide +kernel)
theorem kX4_readNumber_107 {K : zK} {l : Launch} {d : Nat} {ls : List (Nat × Value)} {st : List Value} {n : Nat} {h : zH} {mc ms : Nat} {Q : zQ} (k : zGb K l d mX4_readNumber [(107, .aload_n 0), (108, .getfield 19), (111, .iload 4), (113, .isub), (114, .iconst 1), (115, .if_icmp .le 19), (118, .aload_n 0), (119, .getfield 15), (122, .iload 4), (124, .baload), (125, .bipush 48), (127, .if_icmp .ne 7), (130, .iconst 1), (131, .goto 4)] 134 ls st n h mc ms Q) : zGo K l d mX4_readNumber 107 ls st n h mc ms Q := k (by decide +kernel)
theorem kX4_readNumber_134 {K : zK} {l : Launch} {d : Nat} {ls : List (Nat × Value)} {st : List Value} {n : Nat} {h : zH} {mc ms : Nat} {Q : zQ} (k : zGb K l d mX4_readNumber [(134, .iconst 0)] 135 ls st n h mc ms Q) : zGo K l d mX4_readNumber 134 ls st n h mc ms Q := k (by decide +kernel)
theorem kX4_readNumber_135 {K : zK} {l : Launch} {d : Nat} {ls : List (Nat × Value)} {st : List Value} {n : Nat} {h : zH} {mc ms : Nat} {Q : zQ} (k : zGb K l d mX4_readNumber [(135, .istore 6), (137, .aload_n 0), (138, .getfield 19), (141, .iload 4), (143, .if_icmp .eq 20), (146, .iload 6), (148, .ifCond .ne 15), (151, .iload 5), (153, .iload_n 2), (154, .if_icmp .lt 9), (157, .iload 5), (159, .iload_n 3), (160, .if_icmp .le 10)] 163 ls st n h mc ms Q) : zGo K l d mX4_readNumber 135 ls st n h mc ms Q := k (by decide +kernel)
theorem kX4_readNumber_163 {K : zK} {l : Launch} {d : Nat} {ls : List (Nat × Value)} {st : List Value} {n : Nat} {h : zH} {mc ms : Nat} {Q : zQ} (k : zGb K l d mX4_readNumber [(163, .aload_n 0), (164, .iload 4), (166, .putfield 22), (169, .return_)] 170 ls st n h mc ms Q) : zGo K l d mX4_readNumber 163 ls st n h mc ms Q := k (by decide +kernel)
theorem kX4_readNumber_170 {K : zK} {l : Launch} {d : Nat} {ls : List (Nat × Value)} {st : List Value} {n : Nat} {h : zH} {mc ms : Nat} {Q : zQ} (k : zGb K l d mX4_readNumber [(170, .aload_n 0), (171, .getfield 25), (174, .iload_n 1), (175, .iload 5), (177, .iastore), (178, .return_)] 179 ls st n h mc ms Q) : zGo K l d mX4_readNumber 170 ls st n h mc ms Q := k (by decide +kernel)
theorem kX4_readEnd_0 {K : zK} {l : Launch} {d : Nat} {ls : List (Nat × Value)} {st : List Value} {n : Nat} {h : zH} {mc ms : Nat} {Q : zQ} (k : zGb K l d mX4_readEnd [(0, .aload_n 0), (1, .invokevirtual 38), (4, .aload_n 0), (5, .getfield 22), (8, .iconst (-1)), (9, .if_icmp .ne 10), (12, .aload_n 0), (13, .invokevirtual 100), (16, .ifCond .eq 4)] 19 ls st n h mc ms Q) : zGo K l d mX4_readEnd 0 ls st n h mc ms Q := k (by decide +kernel)
theorem kX4_readEnd_19 {K : zK} {l : Launch} {d : Nat} {ls : List (Nat × Value)} {st : List Value} {n : Nat} {h : zH} {mc ms : Nat} {Q : zQ} (k : zGb K l d mX4_readEnd [(19, .return_)] 20 ls st n h mc ms Q) : zGo K l d mX4_readEnd 19 ls st n h mc ms Q := k (by decide +kernel)
theorem kX4_readEnd_20 {K : zK} {l : Launch} {d : Nat} {ls : List (Nat × Value)} {st : List Value} {n : Nat} {h : zH} {mc ms : Nat} {Q : zQ} (k : zGb K l d mX4_readEnd [(20, .aload_n 0), (21, .getfield 15), (24, .aload_n 0), (25, .getfield 19), (28, .baload), (29, .bipush 59), (31, .if_icmp .eq 12), (34, .aload_n 0), (35, .aload_n 0), (36, .getfield 19), (39, .putfield 22), (42, .return_)] 43 ls st n h mc ms Q) : zGo K l d mX4_readEnd 20 ls st n h mc ms Q := k (by decide +kernel)
theorem kX4_readEnd_43 {K : zK} {l : Launch} {d : Nat} {ls : List (Nat × Value)} {st : List Value} {n : Nat} {h : zH} {mc ms : Nat} {Q : zQ} (k : zGb K l d mX4_readEnd [(43, .aload_n 0), (44, .dup), (45, .getfield 19), (48, .iconst 1), (49, .iadd), (50, .putfield 19), (53, .return_)] 54 ls st n h mc ms Q) : zGo K l d mX4_readEnd 43 ls st n h mc ms Q := k (by decide +kernel)
theorem kX4_endsTooEarly_0 {K : zK} {l : Launch} {d : Nat} {ls : List (Nat × Value)} {st : List Value} {n : Nat} {h : zH} {mc ms : Nat} {Q : zQ} (k : zGb K l d mX4_endsTooEarly [(0, .aload_n 0), (1, .getfield 19), (4, .aload_n 0), (5, .getfield 11), (8, .if_icmp .lt 13), (11, .aload_n 0), (12, .aload_n 0), (13, .getfield 11), (16, .putfield 22), (19, .iconst 1), (20, .ireturn)] 21 ls st n h mc ms Q) : zGo K l d mX4_endsTooEarly 0 ls st n h mc ms Q := k (by decide +kernel)
theorem kX4_endsTooEarly_21 {K : zK} {l : Launch} {d : Nat} {ls : List (Nat × Value)} {st : List Value} {n : Nat} {h : zH} {mc ms : Nat} {Q : zQ} (k : zGb K l d mX4_endsTooEarly [(21, .iconst 0), (22, .ireturn)] 23 ls st n h mc ms Q) : zGo K l d mX4_endsTooEarly 21 ls st n h mc ms Q := k (by decide +kernel)
theorem kX4_skipBlanks_0 {K : zK} {l : Launch} {d : Nat} {ls : List (Nat × Value)} {st : List Value} {n : Nat} {h : zH} {mc ms : Nat} {Q : zQ} (k : zGb K l d mX4_skipBlanks [(0, .aload_n 0), (1, .getfield 19), (4, .aload_n 0), (5, .getfield 11), (8, .if_icmp .ge 30), (11, .aload_n 0), (12, .getfield 15), (15, .aload_n 0), (16, .getfield 19), (19, .baload), (20, .bipush 32), (22, .if_icmp .ne 16), (25, .aload_n 0), (26, .dup), (27, .getfield 19), (30, .iconst 1), (31, .iadd), (32, .putfield 19), (35, .goto (-35))] 38 ls st n h mc ms Q) : zGo K l d mX4_skipBlanks 0 ls st n h mc ms Q := k (by decide +kernel)
theorem kX4_skipBlanks_38 {K : zK} {l : Launch} {d : Nat} {ls : List (Nat × Value)} {st : List Value} {n : Nat} {h : zH} {mc ms : Nat} {Q : zQ} (k : zGb K l d mX4_skipBlanks [(38, .return_)] 39 ls st n h mc ms Q) : zGo K l d mX4_skipBlanks 38 ls st n h mc ms Q := k (by decide +kernel)
theorem kX4_tell_0 {K : zK} {l : Launch} {d : Nat} {ls : List (Nat × Value)} {st : List Value} {n : Nat} {h : zH} {mc ms : Nat} {Q : zQ} (k : zGb K l d mX4_tell [(0, .aload_n 0), (1, .getfield 29), (4, .iload_n 1), (5, .iconst 1), (6, .bastore), (7, .iload_n 1), (8, .tableswitch 102 0 3 #[32, 45, 76, 89])] 40 ls st n h mc ms Q) : zGo K l d mX4_tell 0 ls st n h mc ms Q := k (by decide +kernel)
theorem kX4_tell_40 {K : zK} {l : Launch} {d : Nat} {ls : List (Nat × Value)} {st : List Value} {n : Nat} {h : zH} {mc ms : Nat} {Q : zQ} (k : zGb K l d mX4_tell [(40, .aload_n 2), (41, .aload_n 0), (42, .getfield 25), (45, .iconst 0), (46, .iaload), (47, .invokevirtual 110), (50, .goto 70)] 53 ls st n h mc ms Q) : zGo K l d mX4_tell 40 ls st n h mc ms Q := k (by decide +kernel)
theorem kX4_tell_53 {K : zK} {l : Launch} {d : Nat} {ls : List (Nat × Value)} {st : List Value} {n : Nat} {h : zH} {mc ms : Nat} {Q : zQ} (k : zGb K l d mX4_tell [(53, .aload_n 2), (54, .aload_n 0), (55, .getfield 25), (58, .iconst 0), (59, .iaload), (60, .aload_n 0), (61, .getfield 25), (64, .iconst 1), (65, .iaload), (66, .aload_n 0), (67, .getfield 25), (70, .iconst 2), (71, .iaload), (72, .aload_n 0), (73, .getfield 25), (76, .iconst 3), (77, .iaload), (78, .invokevirtual 113), (81, .goto 39)] 84 ls st n h mc ms Q) : zGo K l d mX4_tell 53 ls st n h mc ms Q := k (by decide +kernel)
theorem kX4_tell_84 {K : zK} {l : Launch} {d : Nat} {ls : List (Nat × Value)} {st : List Value} {n : Nat} {h : zH} {mc ms : Nat} {Q : zQ} (k : zGb K l d mX4_tell [(84, .aload_n 2), (85, .aload_n 0), (86, .getfield 25), (89, .iconst 0), (90, .iaload), (91, .putfield 117), (94, .goto 26)] 97 ls st n h mc ms Q) : zGo K l d mX4_tell 84 ls st n h mc ms Q := k (by decide +kernel)
theorem kX4_tell_97 {K : zK} {l : Launch} {d : Nat} {ls : List (Nat × Value)} {st : List Value} {n : Nat} {h : zH} {mc ms : Nat} {Q : zQ} (k : zGb K l d mX4_tell [(97, .aload_n 2), (98, .aload_n 0), (99, .getfield 25), (102, .iconst 0), (103, .iaload), (104, .putfield 119), (107, .goto 13)] 110 ls st n h mc ms Q) : zGo K l d mX4_tell 97 ls st n h mc ms Q := k (by decide +kernel)
theorem kX4_tell_110 {K : zK} {l : Launch} {d : Nat} {ls : List (Nat × Value)} {st : List Value} {n : Nat} {h : zH} {mc ms : Nat} {Q : zQ} (k : zGb K l d mX4_tell [(110, .aload_n 2), (111, .aload_n 0), (112, .getfield 25), (115, .iconst 0), (116, .iaload), (117, .putfield 121)] 120 ls st n h mc ms Q) : zGo K l d mX4_tell 110 ls st n h mc ms Q := k (by decide +kernel)
theorem kX4_tell_120 {K : zK} {l : Launch} {d : Nat} {ls : List (Nat × Value)} {st : List Value} {n : Nat} {h : zH} {mc ms : Nat} {Q : zQ} (k : zGb K l d mX4_tell [(120, .return_)] 121 ls st n h mc ms Q) : zGo K l d mX4_tell 120 ls st n h mc ms Q := k (by decide +kernel)
end
section
theorem kX5_init_0 {K : zK} {l : Launch} {d : Nat} {ls : List (Nat × Value)} {st : List Value} {n : Nat} {h : zH} {mc ms : Nat} {Q : zQ} (k : zGb K l d mX5_init [(0, .aload_n 0), (1, .invokespecial 1), (4, .aload_n 0), (5, .new 7), (8, .dup), (9, .invokespecial 9), (12, .putfield 10), (15, .aload_n 0), (16, .new 16), (19, .dup), (20, .invokespecial 18), (23, .putfield 19), (26, .aload_n 0), (27, .new 16), (30, .dup), (31, .invokespecial 18), (34, .putfield 23), (37, .aload_n 0), (38, .new 26), (41, .dup), (42, .invokespecial 28), (45, .putfield 29), (48, .aload_n 0), (49, .iconst 2), (50, .anewarray 26), (53, .putfield 33), (56, .aload_n 0), (57, .iconst 2), (58, .newarray .boolean), (60, .putfield 37), (63, .aload_n 0), (64, .new 41), (67, .dup), (68, .invokespecial 43), (71, .putfield 44), (74, .aload_n 0), (75, .lconst 0), (76, .putfield 48), (79, .iconst 0), (80, .istore_n 1)] 81 ls st n h mc ms Q) : zGo K l d mX5_init 0 ls st n h mc ms Q := k (by decide +kernel)
theorem kX5_init_81 {K : zK} {l : Launch} {d : Nat} {ls : List (Nat × Value)} {st : List Value} {n : Nat} {h : zH} {mc ms : Nat} {Q : zQ} (k : zGb K l d mX5_init [(81, .iload_n 1), (82, .iconst 2), (83, .if_icmp .ge 22), (86, .aload_n 0), (87, .getfield 33), (90, .iload_n 1), (91, .new 26), (94, .dup), (95, .invokespecial 28), (98, .aastore), (99, .iinc 1 1), (102, .goto (-21))] 105 ls st n h mc ms Q) : zGo K l d mX5_init 81 ls st n h mc ms Q := k (by decide +kernel)
theorem kX5_init_105 {K : zK} {l : Launch} {d : Nat} {ls : List (Nat × Value)} {st : List Value} {n : Nat} {h : zH} {mc ms : Nat} {Q : zQ} (k : zGb K l d mX5_init [(105, .return_)] 106 ls st n h mc ms Q) : zGo K l d mX5_init 105 ls st n h mc ms Q := k (by decide +kernel)
theorem kX5_type_0 {K : zK} {l : Launch} {d : Nat} {ls : List (Nat × Value)} {st : List Value} {n : Nat} {h : zH} {mc ms : Nat} {Q : zQ} (k : zGb K l d mX5_type [(0, .iload_n 3), (1, .iconst 1), (2, .if_icmp .lt 9), (5, .iload_n 3), (6, .bipush 8), (8, .if_icmp .le 5)] 11 ls st n h mc ms Q) : zGo K l d mX5_type 0 ls st n h mc ms Q := k (by decide +kernel)
theorem kX5_type_11 {K : zK} {l : Launch} {d : Nat} {ls : List (Nat × Value)} {st : List Value} {n : Nat} {h : zH} {mc ms : Nat} {Q : zQ} (k : zGb K l d mX5_type [(11, .iconst (-1)), (12, .ireturn)] 13 ls st n h mc ms Q) : zGo K l d mX5_type 11 ls st n h mc ms Q := k (by decide +kernel)
theorem kX5_type_13 {K : zK} {l : Launch} {d : Nat} {ls : List (Nat × Value)} {st : List Value} {n : Nat} {h : zH} {mc ms : Nat} {Q : zQ} (k : zGb K l d mX5_type [(13, .aload_n 0), (14, .getfield 10), (17, .getfield 52), (20, .iload_n 3), (21, .iadd), (22, .sipush 200), (25, .if_icmp .le 6), (28, .bipush (-3)), (30, .ireturn)] 31 ls st n h mc ms Q) : zGo K l d mX5_type 13 ls st n h mc ms Q := k (by decide +kernel)
theorem kX5_type_31 {K : zK} {l : Launch} {d : Nat} {ls : List (Nat × Value)} {st : List Value} {n : Nat} {h : zH} {mc ms : Nat} {Q : zQ} (k : zGb K l d mX5_type [(31, .iload_n 3), (32, .iconst 1), (33, .isub), (34, .istore 4)] 36 ls st n h mc ms Q) : zGo K l d mX5_type 31 ls st n h mc ms Q := k (by decide +kernel)
theorem kX5_type_36 {K : zK} {l : Launch} {d : Nat} {ls : List (Nat × Value)} {st : List Value} {n : Nat} {h : zH} {mc ms : Nat} {Q : zQ} (k : zGb K l d mX5_type [(36, .iload 4), (38, .ifCond .lt 25), (41, .aload_n 0), (42, .getfield 10), (45, .lload_n 1), (46, .bipush 8), (48, .iload 4), (50, .imul), (51, .lushr), (52, .l2i), (53, .i2b), (54, .invokevirtual 56), (57, .iinc 4 (-1)), (60, .goto (-24))] 63 ls st n h mc ms Q) : zGo K l d mX5_type 36 ls st n h mc ms Q := k (by decide +kernel)
theorem kX5_type_63 {K : zK} {l : Launch} {d : Nat} {ls : List (Nat × Value)} {st : List Value} {n : Nat} {h : zH} {mc ms : Nat} {Q : zQ} (k : zGb K l d mX5_type [(63, .aload_n 0), (64, .getfield 10), (67, .getfield 52), (70, .ireturn)] 71 ls st n h mc ms Q) : zGo K l d mX5_type 63 ls st n h mc ms Q := k (by decide +kernel)
theorem kX5_clear_0 {K : zK} {l : Launch} {d : Nat} {ls : List (Nat × Value)} {st : List Value} {n : Nat} {h : zH} {mc ms : Nat} {Q : zQ} (k : zGb K l d mX5_clear [(0, .aload_n 0), (1, .getfield 10), (4, .getfield 52), (7, .istore_n 1), (8, .aload_n 0), (9, .getfield 10), (12, .invokevirtual 60), (15, .iload_n 1), (16, .ireturn)] 17 ls st n h mc ms Q) : zGo K l d mX5_clear 0 ls st n h mc ms Q := k (by decide +kernel)
theorem kX5_parish_0 {K : zK} {l : Launch} {d : Nat} {ls : List (Nat × Value)} {st : List Value} {n : Nat} {h : zH} {mc ms : Nat} {Q : zQ} (k : zGb K l d mX5_parish [(0, .aload_n 0), (1, .getfield 10), (4, .aload_n 0), (5, .getfield 23), (8, .invokevirtual 63), (11, .istore_n 1), (12, .iload_n 1), (13, .ifCond .ge 5), (16, .iload_n 1), (17, .ireturn)] 18 ls st n h mc ms Q) : zGo K l d mX5_parish 0 ls st n h mc ms Q := k (by decide +kernel)
theorem kX5_parish_18 {K : zK} {l : Launch} {d : Nat} {ls : List (Nat × Value)} {st : List Value} {n : Nat} {h : zH} {mc ms : Nat} {Q : zQ} (k : zGb K l d mX5_parish [(18, .aload_n 0), (19, .getfield 19), (22, .astore_n 2), (23, .aload_n 0), (24, .aload_n 0), (25, .getfield 23), (28, .putfield 19), (31, .aload_n 0), (32, .aload_n 2), (33, .putfield 23), (36, .aload_n 0), (37, .getfield 10), (40, .invokevirtual 60), (43, .aload_n 0), (44, .getfield 29), (47, .aload_n 0), (48, .getfield 19), (51, .getfield 67), (54, .invokevirtual 70), (57, .iconst 0), (58, .istore_n 3)] 59 ls st n h mc ms Q) : zGo K l d mX5_parish 18 ls st n h mc ms Q := k (by decide +kernel)
theorem kX5_parish_59 {K : zK} {l : Launch} {d : Nat} {ls : List (Nat × Value)} {st : List Value} {n : Nat} {h : zH} {mc ms : Nat} {Q : zQ} (k : zGb K l d mX5_parish [(59, .iload_n 3), (60, .iconst 2), (61, .if_icmp .ge 16), (64, .aload_n 0), (65, .getfield 37), (68, .iload_n 3), (69, .iconst 0), (70, .bastore), (71, .iinc 3 1), (74, .goto (-15))] 77 ls st n h mc ms Q) : zGo K l d mX5_parish 59 ls st n h mc ms Q := k (by decide +kernel)
theorem kX5_parish_77 {K : zK} {l : Launch} {d : Nat} {ls : List (Nat × Value)} {st : List Value} {n : Nat} {h : zH} {mc ms : Nat} {Q : zQ} (k : zGb K l d mX5_parish [(77, .aload_n 0), (78, .getfield 44), (81, .invokevirtual 73), (84, .iload_n 1), (85, .ireturn)] 86 ls st n h mc ms Q) : zGo K l d mX5_parish 77 ls st n h mc ms Q := k (by decide +kernel)
theorem kX5_ringer_0 {K : zK} {l : Launch} {d : Nat} {ls : List (Nat × Value)} {st : List Value} {n : Nat} {h : zH} {mc ms : Nat} {Q : zQ} (k : zGb K l d mX5_ringer [(0, .aload_n 0), (1, .getfield 19), (4, .iload_n 1), (5, .invokevirtual 76), (8, .ifCond .ne 5), (11, .iconst (-1)), (12, .ireturn)] 13 ls st n h mc ms Q) : zGo K l d mX5_ringer 0 ls st n h mc ms Q := k (by decide +kernel)
theorem kX5_ringer_13 {K : zK} {l : Launch} {d : Nat} {ls : List (Nat × Value)} {st : List Value} {n : Nat} {h : zH} {mc ms : Nat} {Q : zQ} (k : zGb K l d mX5_ringer [(13, .iload_n 2), (14, .tableswitch 83 0 4 #[34, 44, 54, 64, 74])] 48 ls st n h mc ms Q) : zGo K l d mX5_ringer 13 ls st n h mc ms Q := k (by decide +kernel)
theorem kX5_ringer_48 {K : zK} {l : Launch} {d : Nat} {ls : List (Nat × Value)} {st : List Value} {n : Nat} {h : zH} {mc ms : Nat} {Q : zQ} (k : zGb K l d mX5_ringer [(48, .aload_n 0), (49, .getfield 19), (52, .getfield 80), (55, .iload_n 1), (56, .iaload), (57, .ireturn)] 58 ls st n h mc ms Q) : zGo K l d mX5_ringer 48 ls st n h mc ms Q := k (by decide +kernel)
theorem kX5_ringer_58 {K : zK} {l : Launch} {d : Nat} {ls : List (Nat × Value)} {st : List Value} {n : Nat} {h : zH} {mc ms : Nat} {Q : zQ} (k : zGb K l d mX5_ringer [(58, .aload_n 0), (59, .getfield 19), (62, .getfield 84), (65, .iload_n 1), (66, .iaload), (67, .ireturn)] 68 ls st n h mc ms Q) : zGo K l d mX5_ringer 58 ls st n h mc ms Q := k (by decide +kernel)
theorem kX5_ringer_68 {K : zK} {l : Launch} {d : Nat} {ls : List (Nat × Value)} {st : List Value} {n : Nat} {h : zH} {mc ms : Nat} {Q : zQ} (k : zGb K l d mX5_ringer [(68, .aload_n 0), (69, .getfield 19), (72, .getfield 87), (75, .iload_n 1), (76, .iaload), (77, .ireturn)] 78 ls st n h mc ms Q) : zGo K l d mX5_ringer 68 ls st n h mc ms Q := k (by decide +kernel)
theorem kX5_ringer_78 {K : zK} {l : Launch} {d : Nat} {ls : List (Nat × Value)} {st : List Value} {n : Nat} {h : zH} {mc ms : Nat} {Q : zQ} (k : zGb K l d mX5_ringer [(78, .aload_n 0), (79, .getfield 19), (82, .getfield 90), (85, .iload_n 1), (86, .iaload), (87, .ireturn)] 88 ls st n h mc ms Q) : zGo K l d mX5_ringer 78 ls st n h mc ms Q := k (by decide +kernel)
theorem kX5_ringer_88 {K : zK} {l : Launch} {d : Nat} {ls : List (Nat × Value)} {st : List Value} {n : Nat} {h : zH} {mc ms : Nat} {Q : zQ} (k : zGb K l d mX5_ringer [(88, .aload_n 0), (89, .getfield 29), (92, .iload_n 1), (93, .invokevirtual 93), (96, .ireturn)] 97 ls st n h mc ms Q) : zGo K l d mX5_ringer 88 ls st n h mc ms Q := k (by decide +kernel)
theorem kX5_ringer_97 {K : zK} {l : Launch} {d : Nat} {ls : List (Nat × Value)} {st : List Value} {n : Nat} {h : zH} {mc ms : Nat} {Q : zQ} (k : zGb K l d mX5_ringer [(97, .iconst (-1)), (98, .ireturn)] 99 ls st n h mc ms Q) : zGo K l d mX5_ringer 97 ls st n h mc ms Q := k (by decide +kernel)
theorem kX5_hour_0 {K : zK} {l : Launch} {d : Nat} {ls : List (Nat × Value)} {st : List Value} {n : Nat} {h : zH} {mc ms : Nat} {Q : zQ} (k : zGb K l d mX5_hour [(0, .aload_n 0), (1, .getfield 19), (4, .iload_n 1), (5, .invokevirtual 97), (8, .ifCond .ne 5), (11, .iconst (-1)), (12, .ireturn)] 13 ls st n h mc ms Q) : zGo K l d mX5_hour 0 ls st n h mc ms Q := k (by decide +kernel)
theorem kX5_hour_13 {K : zK} {l : Launch} {d : Nat} {ls : List (Nat × Value)} {st : List Value} {n : Nat} {h : zH} {mc ms : Nat} {Q : zQ} (k : zGb K l d mX5_hour [(13, .iload_n 2), (14, .tableswitch 68 0 2 #[26, 36, 58])] 40 ls st n h mc ms Q) : zGo K l d mX5_hour 13 ls st n h mc ms Q := k (by decide +kernel)
theorem kX5_hour_40 {K : zK} {l : Launch} {d : Nat} {ls : List (Nat × Value)} {st : List Value} {n : Nat} {h : zH} {mc ms : Nat} {Q : zQ} (k : zGb K l d mX5_hour [(40, .aload_n 0), (41, .getfield 19), (44, .getfield 100), (47, .iload_n 1), (48, .iaload), (49, .ireturn)] 50 ls st n h mc ms Q) : zGo K l d mX5_hour 40 ls st n h mc ms Q := k (by decide +kernel)
theorem kX5_hour_50 {K : zK} {l : Launch} {d : Nat} {ls : List (Nat × Value)} {st : List Value} {n : Nat} {h : zH} {mc ms : Nat} {Q : zQ} (k : zGb K l d mX5_hour [(50, .aload_n 0), (51, .getfield 19), (54, .getfield 100), (57, .iload_n 1), (58, .iaload), (59, .aload_n 0), (60, .getfield 29), (63, .iload_n 1), (64, .invokevirtual 103), (67, .invokestatic 106), (70, .isub), (71, .ireturn)] 72 ls st n h mc ms Q) : zGo K l d mX5_hour 50 ls st n h mc ms Q := k (by decide +kernel)
theorem kX5_hour_72 {K : zK} {l : Launch} {d : Nat} {ls : List (Nat × Value)} {st : List Value} {n : Nat} {h : zH} {mc ms : Nat} {Q : zQ} (k : zGb K l d mX5_hour [(72, .aload_n 0), (73, .getfield 29), (76, .getfield 111), (79, .iload_n 1), (80, .iaload), (81, .ireturn)] 82 ls st n h mc ms Q) : zGo K l d mX5_hour 72 ls st n h mc ms Q := k (by decide +kernel)
theorem kX5_hour_82 {K : zK} {l : Launch} {d : Nat} {ls : List (Nat × Value)} {st : List Value} {n : Nat} {h : zH} {mc ms : Nat} {Q : zQ} (k : zGb K l d mX5_hour [(82, .iconst (-1)), (83, .ireturn)] 84 ls st n h mc ms Q) : zGo K l d mX5_hour 82 ls st n h mc ms Q := k (by decide +kernel)
theorem kX5_put_0 {K : zK} {l : Launch} {d : Nat} {ls : List (Nat × Value)} {st : List Value} {n : Nat} {h : zH} {mc ms : Nat} {Q : zQ} (k : zGb K l d mX5_put [(0, .aload_n 0), (1, .getfield 19), (4, .iload_n 1), (5, .invokevirtual 76), (8, .ifCond .eq 15), (11, .aload_n 0), (12, .getfield 19), (15, .iload_n 2), (16, .iload_n 3), (17, .invokevirtual 114), (20, .ifCond .ne 5)] 23 ls st n h mc ms Q) : zGo K l d mX5_put 0 ls st n h mc ms Q := k (by decide +kernel)
theorem kX5_put_23 {K : zK} {l : Launch} {d : Nat} {ls : List (Nat × Value)} {st : List Value} {n : Nat} {h : zH} {mc ms : Nat} {Q : zQ} (k : zGb K l d mX5_put [(23, .iconst (-1)), (24, .ireturn)] 25 ls st n h mc ms Q) : zGo K l d mX5_put 23 ls st n h mc ms Q := k (by decide +kernel)
theorem kX5_put_25 {K : zK} {l : Launch} {d : Nat} {ls : List (Nat × Value)} {st : List Value} {n : Nat} {h : zH} {mc ms : Nat} {Q : zQ} (k : zGb K l d mX5_put [(25, .aload_n 0), (26, .getfield 19), (29, .iload_n 1), (30, .iload_n 2), (31, .iload_n 3), (32, .invokevirtual 118), (35, .ifCond .eq 20), (38, .aload_n 0), (39, .getfield 29), (42, .aload_n 0), (43, .getfield 19), (46, .iload_n 1), (47, .iload_n 2), (48, .iload_n 3), (49, .invokevirtual 122), (52, .ifCond .ne 6)] 55 ls st n h mc ms Q) : zGo K l d mX5_put 25 ls st n h mc ms Q := k (by decide +kernel)
theorem kX5_put_55 {K : zK} {l : Launch} {d : Nat} {ls : List (Nat × Value)} {st : List Value} {n : Nat} {h : zH} {mc ms : Nat} {Q : zQ} (k : zGb K l d mX5_put [(55, .bipush (-2)), (57, .ireturn)] 58 ls st n h mc ms Q) : zGo K l d mX5_put 55 ls st n h mc ms Q := k (by decide +kernel)
theorem kX5_put_58 {K : zK} {l : Launch} {d : Nat} {ls : List (Nat × Value)} {st : List Value} {n : Nat} {h : zH} {mc ms : Nat} {Q : zQ} (k : zGb K l d mX5_put [(58, .aload_n 0), (59, .getfield 29), (62, .iload_n 1), (63, .iload_n 2), (64, .iload_n 3), (65, .invokevirtual 126), (68, .aload_n 0), (69, .getfield 29), (72, .getfield 130), (75, .ireturn)] 76 ls st n h mc ms Q) : zGo K l d mX5_put 58 ls st n h mc ms Q := k (by decide +kernel)
theorem kX5_rings_0 {K : zK} {l : Launch} {d : Nat} {ls : List (Nat × Value)} {st : List Value} {n : Nat} {h : zH} {mc ms : Nat} {Q : zQ} (k : zGb K l d mX5_rings [(0, .aload_n 0), (1, .getfield 19), (4, .iload_n 1), (5, .iload_n 2), (6, .invokevirtual 114), (9, .ifCond .ne 5), (12, .iconst (-1)), (13, .ireturn)] 14 ls st n h mc ms Q) : zGo K l d mX5_rings 0 ls st n h mc ms Q := k (by decide +kernel)
theorem kX5_rings_14 {K : zK} {l : Launch} {d : Nat} {ls : List (Nat × Value)} {st : List Value} {n : Nat} {h : zH} {mc ms : Nat} {Q : zQ} (k : zGb K l d mX5_rings [(14, .aload_n 0), (15, .getfield 29), (18, .iload_n 1), (19, .iload_n 2), (20, .invokevirtual 133), (23, .ireturn)] 24 ls st n h mc ms Q) : zGo K l d mX5_rings 14 ls st n h mc ms Q := k (by decide +kernel)
theorem kX5_take_0 {K : zK} {l : Launch} {d : Nat} {ls : List (Nat × Value)} {st : List Value} {n : Nat} {h : zH} {mc ms : Nat} {Q : zQ} (k : zGb K l d mX5_take [(0, .aload_n 0), (1, .getfield 19), (4, .iload_n 1), (5, .invokevirtual 76), (8, .ifCond .eq 14), (11, .aload_n 0), (12, .getfield 19), (15, .iload_n 2), (16, .invokevirtual 97), (19, .ifCond .ne 5)] 22 ls st n h mc ms Q) : zGo K l d mX5_take 0 ls st n h mc ms Q := k (by decide +kernel)
theorem kX5_take_22 {K : zK} {l : Launch} {d : Nat} {ls : List (Nat × Value)} {st : List Value} {n : Nat} {h : zH} {mc ms : Nat} {Q : zQ} (k : zGb K l d mX5_take [(22, .iconst (-1)), (23, .ireturn)] 24 ls st n h mc ms Q) : zGo K l d mX5_take 22 ls st n h mc ms Q := k (by decide +kernel)
theorem kX5_take_24 {K : zK} {l : Launch} {d : Nat} {ls : List (Nat × Value)} {st : List Value} {n : Nat} {h : zH} {mc ms : Nat} {Q : zQ} (k : zGb K l d mX5_take [(24, .aload_n 0), (25, .getfield 29), (28, .iload_n 1), (29, .iload_n 2), (30, .invokevirtual 137), (33, .istore_n 3), (34, .iload_n 3), (35, .bipush (-9)), (37, .if_icmp .ne 6), (40, .bipush (-2)), (42, .ireturn)] 43 ls st n h mc ms Q) : zGo K l d mX5_take 24 ls st n h mc ms Q := k (by decide +kernel)
theorem kX5_take_43 {K : zK} {l : Launch} {d : Nat} {ls : List (Nat × Value)} {st : List Value} {n : Nat} {h : zH} {mc ms : Nat} {Q : zQ} (k : zGb K l d mX5_take [(43, .aload_n 0), (44, .getfield 29), (47, .iload_n 1), (48, .iload_n 2), (49, .invokevirtual 140), (52, .iload_n 3), (53, .ireturn)] 54 ls st n h mc ms Q) : zGo K l d mX5_take 43 ls st n h mc ms Q := k (by decide +kernel)
theorem kX5_exchange_0 {K : zK} {l : Launch} {d : Nat} {ls : List (Nat × Value)} {st : List Value} {n : Nat} {h : zH} {mc ms : Nat} {Q : zQ} (k : zGb K l d mX5_exchange [(0, .aload_n 0), (1, .getfield 19), (4, .iload_n 1), (5, .invokevirtual 76), (8, .ifCond .eq 19), (11, .aload_n 0), (12, .getfield 19), (15, .iload_n 2), (16, .invokevirtual 76), (19, .ifCond .eq 8), (22, .iload_n 1), (23, .iload_n 2), (24, .if_icmp .ne 5)] 27 ls st n h mc ms Q) : zGo K l d mX5_exchange 0 ls st n h mc ms Q := k (by decide +kernel)
theorem kX5_exchange_27 {K : zK} {l : Launch} {d : Nat} {ls : List (Nat × Value)} {st : List Value} {n : Nat} {h : zH} {mc ms : Nat} {Q : zQ} (k : zGb K l d mX5_exchange [(27, .iconst (-1)), (28, .ireturn)] 29 ls st n h mc ms Q) : zGo K l d mX5_exchange 27 ls st n h mc ms Q := k (by decide +kernel)
theorem kX5_exchange_29 {K : zK} {l : Launch} {d : Nat} {ls : List (Nat × Value)} {st : List Value} {n : Nat} {h : zH} {mc ms : Nat} {Q : zQ} (k : zGb K l d mX5_exchange [(29, .aload_n 0), (30, .iload_n 1), (31, .iload_n 2), (32, .invokevirtual 144), (35, .ifCond .eq 12), (38, .aload_n 0), (39, .iload_n 2), (40, .iload_n 1), (41, .invokevirtual 144), (44, .ifCond .ne 6)] 47 ls st n h mc ms Q) : zGo K l d mX5_exchange 29 ls st n h mc ms Q := k (by decide +kernel)
theorem kX5_exchange_47 {K : zK} {l : Launch} {d : Nat} {ls : List (Nat × Value)} {st : List Value} {n : Nat} {h : zH} {mc ms : Nat} {Q : zQ} (k : zGb K l d mX5_exchange [(47, .bipush (-2)), (49, .ireturn)] 50 ls st n h mc ms Q) : zGo K l d mX5_exchange 47 ls st n h mc ms Q := k (by decide +kernel)
theorem kX5_exchange_50 {K : zK} {l : Launch} {d : Nat} {ls : List (Nat × Value)} {st : List Value} {n : Nat} {h : zH} {mc ms : Nat} {Q : zQ} (k : zGb K l d mX5_exchange [(50, .aload_n 0), (51, .getfield 29), (54, .iload_n 1), (55, .iload_n 2), (56, .invokevirtual 147), (59, .aload_n 0), (60, .getfield 29), (63, .iload_n 1), (64, .invokevirtual 93), (67, .aload_n 0), (68, .getfield 29), (71, .iload_n 2), (72, .invokevirtual 93), (75, .iadd), (76, .ireturn)] 77 ls st n h mc ms Q) : zGo K l d mX5_exchange 50 ls st n h mc ms Q := k (by decide +kernel)
theorem kX5_canTakeOver_0 {K : zK} {l : Launch} {d : Nat} {ls : List (Nat × Value)} {st : List Value} {n : Nat} {h : zH} {mc ms : Nat} {Q : zQ} (k : zGb K l d mX5_canTakeOver [(0, .iconst 0), (1, .istore_n 3)] 2 ls st n h mc ms Q) : zGo K l d mX5_canTakeOver 0 ls st n h mc ms Q := k (by decide +kernel)
theorem kX5_canTakeOver_2 {K : zK} {l : Launch} {d : Nat} {ls : List (Nat × Value)} {st : List Value} {n : Nat} {h : zH} {mc ms : Nat} {Q : zQ} (k : zGb K l d mX5_canTakeOver [(2, .iload_n 3), (3, .aload_n 0), (4, .getfield 19), (7, .getfield 150), (10, .if_icmp .ge 43), (13, .aload_n 0), (14, .getfield 29), (17, .iload_n 2), (18, .iload_n 3), (19, .invokevirtual 137), (22, .istore 4), (24, .iload 4), (26, .bipush (-9)), (28, .if_icmp .eq 19), (31, .aload_n 0), (32, .getfield 19), (35, .iload_n 1), (36, .iload_n 3), (37, .iload 4), (39, .invokevirtual 118), (42, .ifCond .ne 5), (45, .iconst 0), (46, .ireturn)] 47 ls st n h mc ms Q) : zGo K l d mX5_canTakeOver 2 ls st n h mc ms Q := k (by decide +kernel)
theorem kX5_canTakeOver_47 {K : zK} {l : Launch} {d : Nat} {ls : List (Nat × Value)} {st : List Value} {n : Nat} {h : zH} {mc ms : Nat} {Q : zQ} (k : zGb K l d mX5_canTakeOver [(47, .iinc 3 1), (50, .goto (-48))] 53 ls st n h mc ms Q) : zGo K l d mX5_canTakeOver 47 ls st n h mc ms Q := k (by decide +kernel)
theorem kX5_canTakeOver_53 {K : zK} {l : Launch} {d : Nat} {ls : List (Nat × Value)} {st : List Value} {n : Nat} {h : zH} {mc ms : Nat} {Q : zQ} (k : zGb K l d mX5_canTakeOver [(53, .iconst 1), (54, .ireturn)] 55 ls st n h mc ms Q) : zGo K l d mX5_canTakeOver 53 ls st n h mc ms Q := k (by decide +kernel)
theorem kX5_now_0 {K : zK} {l : Launch} {d : Nat} {ls : List (Nat × Value)} {st : List Value} {n : Nat} {h : zH} {mc ms : Nat} {Q : zQ} (k : zGb K l d mX5_now [(0, .iload_n 1), (1, .tableswitch 82 0 3 #[31, 47, 66, 74])] 32 ls st n h mc ms Q) : zGo K l d mX5_now 0 ls st n h mc ms Q := k (by decide +kernel)
theorem kX5_now_32 {K : zK} {l : Launch} {d : Nat} {ls : List (Nat × Value)} {st : List Value} {n : Nat} {h : zH} {mc ms : Nat} {Q : zQ} (k : zGb K l d mX5_now [(32, .aload_n 0), (33, .getfield 19), (36, .invokevirtual 153), (39, .aload_n 0), (40, .getfield 29), (43, .getfield 130), (46, .isub), (47, .ireturn)] 48 ls st n h mc ms Q) : zGo K l d mX5_now 32 ls st n h mc ms Q := k (by decide +kernel)
theorem kX5_now_48 {K : zK} {l : Launch} {d : Nat} {ls : List (Nat × Value)} {st : List Value} {n : Nat} {h : zH} {mc ms : Nat} {Q : zQ} (k : zGb K l d mX5_now [(48, .aload_n 0), (49, .getfield 29), (52, .aload_n 0), (53, .getfield 19), (56, .aload_n 0), (57, .getfield 29), (60, .getfield 157), (63, .invokevirtual 158), (66, .ireturn)] 67 ls st n h mc ms Q) : zGo K l d mX5_now 48 ls st n h mc ms Q := k (by decide +kernel)
theorem kX5_now_67 {K : zK} {l : Launch} {d : Nat} {ls : List (Nat × Value)} {st : List Value} {n : Nat} {h : zH} {mc ms : Nat} {Q : zQ} (k : zGb K l d mX5_now [(67, .aload_n 0), (68, .getfield 29), (71, .getfield 130), (74, .ireturn)] 75 ls st n h mc ms Q) : zGo K l d mX5_now 67 ls st n h mc ms Q := k (by decide +kernel)
theorem kX5_now_75 {K : zK} {l : Launch} {d : Nat} {ls : List (Nat × Value)} {st : List Value} {n : Nat} {h : zH} {mc ms : Nat} {Q : zQ} (k : zGb K l d mX5_now [(75, .aload_n 0), (76, .getfield 29), (79, .getfield 157), (82, .ireturn)] 83 ls st n h mc ms Q) : zGo K l d mX5_now 75 ls st n h mc ms Q := k (by decide +kernel)
theorem kX5_now_83 {K : zK} {l : Launch} {d : Nat} {ls : List (Nat × Value)} {st : List Value} {n : Nat} {h : zH} {mc ms : Nat} {Q : zQ} (k : zGb K l d mX5_now [(83, .iconst (-1)), (84, .ireturn)] 85 ls st n h mc ms Q) : zGo K l d mX5_now 83 ls st n h mc ms Q := k (by decide +kernel)
theorem kX5_moves_0 {K : zK} {l : Launch} {d : Nat} {ls : List (Nat × Value)} {st : List Value} {n : Nat} {h : zH} {mc ms : Nat} {Q : zQ} (k : zGb K l d mX5_moves [(0, .iload_n 1), (1, .ifCond .lt 9), (4, .iload_n 1), (5, .bipush 60), (7, .if_icmp .le 5)] 10 ls st n h mc ms Q) : zGo K l d mX5_moves 0 ls st n h mc ms Q := k (by decide +kernel)
theorem kX5_moves_10 {K : zK} {l : Launch} {d : Nat} {ls : List (Nat × Value)} {st : List Value} {n : Nat} {h : zH} {mc ms : Nat} {Q : zQ} (k : zGb K l d mX5_moves [(10, .iconst (-1)), (11, .ireturn)] 12 ls st n h mc ms Q) : zGo K l d mX5_moves 10 ls st n h mc ms Q := k (by decide +kernel)
theorem kX5_moves_12 {K : zK} {l : Launch} {d : Nat} {ls : List (Nat × Value)} {st : List Value} {n : Nat} {h : zH} {mc ms : Nat} {Q : zQ} (k : zGb K l d mX5_moves [(12, .aload_n 0), (13, .getfield 29), (16, .getfield 157), (19, .istore_n 2), (20, .aload_n 0), (21, .getfield 29), (24, .iload_n 1), (25, .putfield 157), (28, .aload_n 0), (29, .getfield 44), (32, .invokevirtual 162), (35, .iload_n 2), (36, .ireturn)] 37 ls st n h mc ms Q) : zGo K l d mX5_moves 12 ls st n h mc ms Q := k (by decide +kernel)
theorem kX5_crew_0 {K : zK} {l : Launch} {d : Nat} {ls : List (Nat × Value)} {st : List Value} {n : Nat} {h : zH} {mc ms : Nat} {Q : zQ} (k : zGb K l d mX5_crew [(0, .aload_n 0), (1, .getfield 19), (4, .iload_n 1), (5, .invokevirtual 97), (8, .ifCond .ne 5), (11, .iconst (-1)), (12, .ireturn)] 13 ls st n h mc ms Q) : zGo K l d mX5_crew 0 ls st n h mc ms Q := k (by decide +kernel)
theorem kX5_crew_13 {K : zK} {l : Launch} {d : Nat} {ls : List (Nat × Value)} {st : List Value} {n : Nat} {h : zH} {mc ms : Nat} {Q : zQ} (k : zGb K l d mX5_crew [(13, .aload_n 0), (14, .getfield 19), (17, .iload_n 1), (18, .invokestatic 165), (21, .ireturn)] 22 ls st n h mc ms Q) : zGo K l d mX5_crew 13 ls st n h mc ms Q := k (by decide +kernel)
theorem kX5_bars_0 {K : zK} {l : Launch} {d : Nat} {ls : List (Nat × Value)} {st : List Value} {n : Nat} {h : zH} {mc ms : Nat} {Q : zQ} (k : zGb K l d mX5_bars [(0, .aload_n 0), (1, .getfield 19), (4, .iload_n 1), (5, .invokevirtual 97), (8, .ifCond .ne 5), (11, .iconst (-1)), (12, .ireturn)] 13 ls st n h mc ms Q) : zGo K l d mX5_bars 0 ls st n h mc ms Q := k (by decide +kernel)
theorem kX5_bars_13 {K : zK} {l : Launch} {d : Nat} {ls : List (Nat × Value)} {st : List Value} {n : Nat} {h : zH} {mc ms : Nat} {Q : zQ} (k : zGb K l d mX5_bars [(13, .aload_n 0), (14, .getfield 19), (17, .iload_n 1), (18, .bipush 63), (20, .invokestatic 170), (23, .ireturn)] 24 ls st n h mc ms Q) : zGo K l d mX5_bars 13 ls st n h mc ms Q := k (by decide +kernel)
theorem kX5_night_0 {K : zK} {l : Launch} {d : Nat} {ls : List (Nat × Value)} {st : List Value} {n : Nat} {h : zH} {mc ms : Nat} {Q : zQ} (k : zGb K l d mX5_night [(0, .iload_n 1), (1, .ifCond .lt 8), (4, .iload_n 1), (5, .iconst 3), (6, .if_icmp .le 5)] 9 ls st n h mc ms Q) : zGo K l d mX5_night 0 ls st n h mc ms Q := k (by decide +kernel)
theorem kX5_night_9 {K : zK} {l : Launch} {d : Nat} {ls : List (Nat × Value)} {st : List Value} {n : Nat} {h : zH} {mc ms : Nat} {Q : zQ} (k : zGb K l d mX5_night [(9, .iconst (-1)), (10, .ireturn)] 11 ls st n h mc ms Q) : zGo K l d mX5_night 9 ls st n h mc ms Q := k (by decide +kernel)
theorem kX5_night_11 {K : zK} {l : Launch} {d : Nat} {ls : List (Nat × Value)} {st : List Value} {n : Nat} {h : zH} {mc ms : Nat} {Q : zQ} (k : zGb K l d mX5_night [(11, .aload_n 0), (12, .getfield 44), (15, .aload_n 0), (16, .getfield 19), (19, .aload_n 0), (20, .getfield 29), (23, .getfield 157), (26, .invokevirtual 174), (29, .iload_n 1), (30, .tableswitch 50 0 2 #[26, 34, 42])] 56 ls st n h mc ms Q) : zGo K l d mX5_night 11 ls st n h mc ms Q := k (by decide +kernel)
theorem kX5_night_56 {K : zK} {l : Launch} {d : Nat} {ls : List (Nat × Value)} {st : List Value} {n : Nat} {h : zH} {mc ms : Nat} {Q : zQ} (k : zGb K l d mX5_night [(56, .aload_n 0), (57, .getfield 44), (60, .invokevirtual 178), (63, .ireturn)] 64 ls st n h mc ms Q) : zGo K l d mX5_night 56 ls st n h mc ms Q := k (by decide +kernel)
theorem kX5_night_64 {K : zK} {l : Launch} {d : Nat} {ls : List (Nat × Value)} {st : List Value} {n : Nat} {h : zH} {mc ms : Nat} {Q : zQ} (k : zGb K l d mX5_night [(64, .aload_n 0), (65, .getfield 44), (68, .invokevirtual 181), (71, .ireturn)] 72 ls st n h mc ms Q) : zGo K l d mX5_night 64 ls st n h mc ms Q := k (by decide +kernel)
theorem kX5_night_72 {K : zK} {l : Launch} {d : Nat} {ls : List (Nat × Value)} {st : List Value} {n : Nat} {h : zH} {mc ms : Nat} {Q : zQ} (k : zGb K l d mX5_night [(72, .aload_n 0), (73, .getfield 44), (76, .invokevirtual 184), (79, .ireturn)] 80 ls st n h mc ms Q) : zGo K l d mX5_night 72 ls st n h mc ms Q := k (by decide +kernel)
theorem kX5_night_80 {K : zK} {l : Launch} {d : Nat} {ls : List (Nat × Value)} {st : List Value} {n : Nat} {h : zH} {mc ms : Nat} {Q : zQ} (k : zGb K l d mX5_night [(80, .aload_n 0), (81, .getfield 44), (84, .invokevirtual 187), (87, .ireturn)] 88 ls st n h mc ms Q) : zGo K l d mX5_night 80 ls st n h mc ms Q := k (by decide +kernel)
theorem kX5_best_0 {K : zK} {l : Launch} {d : Nat} {ls : List (Nat × Value)} {st : List Value} {n : Nat} {h : zH} {mc ms : Nat} {Q : zQ} (k : zGb K l d mX5_best [(0, .aload_n 0), (1, .getfield 19), (4, .iload_n 1), (5, .invokevirtual 76), (8, .ifCond .eq 14), (11, .aload_n 0), (12, .getfield 19), (15, .iload_n 2), (16, .invokevirtual 97), (19, .ifCond .ne 5)] 22 ls st n h mc ms Q) : zGo K l d mX5_best 0 ls st n h mc ms Q := k (by decide +kernel)
theorem kX5_best_22 {K : zK} {l : Launch} {d : Nat} {ls : List (Nat × Value)} {st : List Value} {n : Nat} {h : zH} {mc ms : Nat} {Q : zQ} (k : zGb K l d mX5_best [(22, .iconst (-1)), (23, .ireturn)] 24 ls st n h mc ms Q) : zGo K l d mX5_best 22 ls st n h mc ms Q := k (by decide +kernel)
theorem kX5_best_24 {K : zK} {l : Launch} {d : Nat} {ls : List (Nat × Value)} {st : List Value} {n : Nat} {h : zH} {mc ms : Nat} {Q : zQ} (k : zGb K l d mX5_best [(24, .aload_n 0), (25, .getfield 44), (28, .aload_n 0), (29, .getfield 19), (32, .aload_n 0), (33, .getfield 29), (36, .getfield 157), (39, .invokevirtual 174), (42, .aload_n 0), (43, .getfield 44), (46, .iload_n 1), (47, .iload_n 2), (48, .invokevirtual 190), (51, .ireturn)] 52 ls st n h mc ms Q) : zGo K l d mX5_best 24 ls st n h mc ms Q := k (by decide +kernel)
theorem kX5_needed_0 {K : zK} {l : Launch} {d : Nat} {ls : List (Nat × Value)} {st : List Value} {n : Nat} {h : zH} {mc ms : Nat} {Q : zQ} (k : zGb K l d mX5_needed [(0, .aload_n 0), (1, .getfield 44), (4, .aload_n 0), (5, .getfield 19), (8, .aload_n 0), (9, .getfield 29), (12, .getfield 157), (15, .invokevirtual 174), (18, .aload_n 0), (19, .getfield 44), (22, .invokevirtual 193), (25, .ireturn)] 26 ls st n h mc ms Q) : zGo K l d mX5_needed 0 ls st n h mc ms Q := k (by decide +kernel)
theorem kX5_odds_0 {K : zK} {l : Launch} {d : Nat} {ls : List (Nat × Value)} {st : List Value} {n : Nat} {h : zH} {mc ms : Nat} {Q : zQ} (k : zGb K l d mX5_odds [(0, .aload_n 0), (1, .getfield 19), (4, .iload_n 1), (5, .invokevirtual 97), (8, .ifCond .eq 12), (11, .iload_n 2), (12, .ifCond .lt 8), (15, .iload_n 2), (16, .iconst 1), (17, .if_icmp .le 5)] 20 ls st n h mc ms Q) : zGo K l d mX5_odds 0 ls st n h mc ms Q := k (by decide +kernel)
theorem kX5_odds_20 {K : zK} {l : Launch} {d : Nat} {ls : List (Nat × Value)} {st : List Value} {n : Nat} {h : zH} {mc ms : Nat} {Q : zQ} (k : zGb K l d mX5_odds [(20, .iconst (-1)), (21, .ireturn)] 22 ls st n h mc ms Q) : zGo K l d mX5_odds 20 ls st n h mc ms Q := k (by decide +kernel)
theorem kX5_odds_22 {K : zK} {l : Launch} {d : Nat} {ls : List (Nat × Value)} {st : List Value} {n : Nat} {h : zH} {mc ms : Nat} {Q : zQ} (k : zGb K l d mX5_odds [(22, .aload_n 0), (23, .getfield 19), (26, .iload_n 1), (27, .invokestatic 196), (30, .istore_n 3), (31, .aload_n 0), (32, .getfield 19), (35, .invokevirtual 199), (38, .istore 4), (40, .iload_n 3), (41, .iload 4), (43, .invokestatic 202), (46, .istore 5), (48, .iload 5), (50, .iconst 1), (51, .if_icmp .ge 5), (54, .iconst (-1)), (55, .ireturn)] 56 ls st n h mc ms Q) : zGo K l d mX5_odds 22 ls st n h mc ms Q := k (by decide +kernel)
theorem kX5_odds_56 {K : zK} {l : Launch} {d : Nat} {ls : List (Nat × Value)} {st : List Value} {n : Nat} {h : zH} {mc ms : Nat} {Q : zQ} (k : zGb K l d mX5_odds [(56, .iload_n 2), (57, .ifCond .ne 10), (60, .iload_n 3), (61, .iload 5), (63, .idiv), (64, .goto 8)] 67 ls st n h mc ms Q) : zGo K l d mX5_odds 56 ls st n h mc ms Q := k (by decide +kernel)
theorem kX5_odds_67 {K : zK} {l : Launch} {d : Nat} {ls : List (Nat × Value)} {st : List Value} {n : Nat} {h : zH} {mc ms : Nat} {Q : zQ} (k : zGb K l d mX5_odds [(67, .iload 4), (69, .iload 5), (71, .idiv)] 72 ls st n h mc ms Q) : zGo K l d mX5_odds 67 ls st n h mc ms Q := k (by decide +kernel)
theorem kX5_odds_72 {K : zK} {l : Launch} {d : Nat} {ls : List (Nat × Value)} {st : List Value} {n : Nat} {h : zH} {mc ms : Nat} {Q : zQ} (k : zGb K l d mX5_odds [(72, .ireturn)] 73 ls st n h mc ms Q) : zGo K l d mX5_odds 72 ls st n h mc ms Q := k (by decide +kernel)
theorem kX5_commonDivisor_0 {K : zK} {l : Launch} {d : Nat} {ls : List (Nat × Value)} {st : List Value} {n : Nat} {h : zH} {mc ms : Nat} {Q : zQ} (k : zGb K l d mX5_commonDivisor [(0, .iload_n 0), (1, .istore_n 2), (2, .iload_n 1), (3, .istore_n 3), (4, .iconst 0), (5, .istore 4)] 7 ls st n h mc ms Q) : zGo K l d mX5_commonDivisor 0 ls st n h mc ms Q := k (by decide +kernel)
theorem kX5_commonDivisor_7 {K : zK} {l : Launch} {d : Nat} {ls : List (Nat × Value)} {st : List Value} {n : Nat} {h : zH} {mc ms : Nat} {Q : zQ} (k : zGb K l d mX5_commonDivisor [(7, .iload 4), (9, .bipush 64), (11, .if_icmp .ge 23), (14, .iload_n 3), (15, .ifCond .eq 19), (18, .iload_n 2), (19, .iload_n 3), (20, .irem), (21, .istore 5), (23, .iload_n 3), (24, .istore_n 2), (25, .iload 5), (27, .istore_n 3), (28, .iinc 4 1), (31, .goto (-24))] 34 ls st n h mc ms Q) : zGo K l d mX5_commonDivisor 7 ls st n h mc ms Q := k (by decide +kernel)
theorem kX5_commonDivisor_34 {K : zK} {l : Launch} {d : Nat} {ls : List (Nat × Value)} {st : List Value} {n : Nat} {h : zH} {mc ms : Nat} {Q : zQ} (k : zGb K l d mX5_commonDivisor [(34, .iload_n 2), (35, .ireturn)] 36 ls st n h mc ms Q) : zGo K l d mX5_commonDivisor 34 ls st n h mc ms Q := k (by decide +kernel)
theorem kX5_stands_0 {K : zK} {l : Launch} {d : Nat} {ls : List (Nat × Value)} {st : List Value} {n : Nat} {h : zH} {mc ms : Nat} {Q : zQ} (k : zGb K l d mX5_stands [(0, .iload_n 1), (1, .ifCond .lt 8), (4, .iload_n 1), (5, .iconst 1), (6, .if_icmp .le 5)] 9 ls st n h mc ms Q) : zGo K l d mX5_stands 0 ls st n h mc ms Q := k (by decide +kernel)
theorem kX5_stands_9 {K : zK} {l : Launch} {d : Nat} {ls : List (Nat × Value)} {st : List Value} {n : Nat} {h : zH} {mc ms : Nat} {Q : zQ} (k : zGb K l d mX5_stands [(9, .iconst (-1)), (10, .ireturn)] 11 ls st n h mc ms Q) : zGo K l d mX5_stands 9 ls st n h mc ms Q := k (by decide +kernel)
theorem kX5_stands_11 {K : zK} {l : Launch} {d : Nat} {ls : List (Nat × Value)} {st : List Value} {n : Nat} {h : zH} {mc ms : Nat} {Q : zQ} (k : zGb K l d mX5_stands [(11, .iconst 0), (12, .istore_n 2), (13, .aload_n 0), (14, .getfield 29), (17, .aload_n 0), (18, .getfield 19), (21, .iconst 0), (22, .invokevirtual 158), (25, .istore_n 3), (26, .iconst 1), (27, .istore 4)] 29 ls st n h mc ms Q) : zGo K l d mX5_stands 11 ls st n h mc ms Q := k (by decide +kernel)
theorem kX5_stands_29 {K : zK} {l : Launch} {d : Nat} {ls : List (Nat × Value)} {st : List Value} {n : Nat} {h : zH} {mc ms : Nat} {Q : zQ} (k : zGb K l d mX5_stands [(29, .iload 4), (31, .bipush 60), (33, .if_icmp .gt 36), (36, .aload_n 0), (37, .getfield 29), (40, .aload_n 0), (41, .getfield 19), (44, .iload 4), (46, .invokevirtual 158), (49, .istore 5), (51, .iload 5), (53, .iload_n 3), (54, .if_icmp .ge 9), (57, .iload 5), (59, .istore_n 3), (60, .iload 4), (62, .istore_n 2)] 63 ls st n h mc ms Q) : zGo K l d mX5_stands 29 ls st n h mc ms Q := k (by decide +kernel)
theorem kX5_stands_63 {K : zK} {l : Launch} {d : Nat} {ls : List (Nat × Value)} {st : List Value} {n : Nat} {h : zH} {mc ms : Nat} {Q : zQ} (k : zGb K l d mX5_stands [(63, .iinc 4 1), (66, .goto (-37))] 69 ls st n h mc ms Q) : zGo K l d mX5_stands 63 ls st n h mc ms Q := k (by decide +kernel)
theorem kX5_stands_69 {K : zK} {l : Launch} {d : Nat} {ls : List (Nat × Value)} {st : List Value} {n : Nat} {h : zH} {mc ms : Nat} {Q : zQ} (k : zGb K l d mX5_stands [(69, .iload_n 1), (70, .ifCond .ne 7), (73, .iload_n 2), (74, .goto 4)] 77 ls st n h mc ms Q) : zGo K l d mX5_stands 69 ls st n h mc ms Q := k (by decide +kernel)
theorem kX5_stands_77 {K : zK} {l : Launch} {d : Nat} {ls : List (Nat × Value)} {st : List Value} {n : Nat} {h : zH} {mc ms : Nat} {Q : zQ} (k : zGb K l d mX5_stands [(77, .iload_n 3)] 78 ls st n h mc ms Q) : zGo K l d mX5_stands 77 ls st n h mc ms Q := k (by decide +kernel)
theorem kX5_stands_78 {K : zK} {l : Launch} {d : Nat} {ls : List (Nat × Value)} {st : List Value} {n : Nat} {h : zH} {mc ms : Nat} {Q : zQ} (k : zGb K l d mX5_stands [(78, .ireturn)] 79 ls st n h mc ms Q) : zGo K l d mX5_stands 78 ls st n h mc ms Q := k (by decide +kernel)
theorem kX5_heard_0 {K : zK} {l : Launch} {d : Nat} {ls : List (Nat × Value)} {st : List Value} {n : Nat} {h : zH} {mc ms : Nat} {Q : zQ} (k : zGb K l d mX5_heard [(0, .aload_n 0), (1, .getfield 19), (4, .iload_n 1), (5, .invokevirtual 97), (8, .ifCond .eq 12), (11, .iload_n 2), (12, .ifCond .lt 8), (15, .iload_n 2), (16, .iconst 3), (17, .if_icmp .le 5)] 20 ls st n h mc ms Q) : zGo K l d mX5_heard 0 ls st n h mc ms Q := k (by decide +kernel)
theorem kX5_heard_20 {K : zK} {l : Launch} {d : Nat} {ls : List (Nat × Value)} {st : List Value} {n : Nat} {h : zH} {mc ms : Nat} {Q : zQ} (k : zGb K l d mX5_heard [(20, .iconst (-1)), (21, .ireturn)] 22 ls st n h mc ms Q) : zGo K l d mX5_heard 20 ls st n h mc ms Q := k (by decide +kernel)
theorem kX5_heard_22 {K : zK} {l : Launch} {d : Nat} {ls : List (Nat × Value)} {st : List Value} {n : Nat} {h : zH} {mc ms : Nat} {Q : zQ} (k : zGb K l d mX5_heard [(22, .aload_n 0), (23, .getfield 29), (26, .getfield 111), (29, .iload_n 1), (30, .iaload), (31, .istore_n 3), (32, .aload_n 0), (33, .getfield 29), (36, .getfield 111), (39, .iload_n 1), (40, .iload_n 2), (41, .iastore), (42, .iload_n 3), (43, .ireturn)] 44 ls st n h mc ms Q) : zGo K l d mX5_heard 22 ls st n h mc ms Q := k (by decide +kernel)
theorem kX5_forget_0 {K : zK} {l : Launch} {d : Nat} {ls : List (Nat × Value)} {st : List Value} {n : Nat} {h : zH} {mc ms : Nat} {Q : zQ} (k : zGb K l d mX5_forget [(0, .iconst 0), (1, .istore_n 1), (2, .iconst 0), (3, .istore_n 2)] 4 ls st n h mc ms Q) : zGo K l d mX5_forget 0 ls st n h mc ms Q := k (by decide +kernel)
theorem kX5_forget_4 {K : zK} {l : Launch} {d : Nat} {ls : List (Nat × Value)} {st : List Value} {n : Nat} {h : zH} {mc ms : Nat} {Q : zQ} (k : zGb K l d mX5_forget [(4, .iload_n 2), (5, .iconst 4), (6, .if_icmp .ge 37), (9, .aload_n 0), (10, .getfield 29), (13, .getfield 111), (16, .iload_n 2), (17, .iaload), (18, .bipush (-9)), (20, .if_icmp .eq 17), (23, .iinc 1 1), (26, .aload_n 0), (27, .getfield 29), (30, .getfield 111), (33, .iload_n 2), (34, .bipush (-9)), (36, .iastore)] 37 ls st n h mc ms Q) : zGo K l d mX5_forget 4 ls st n h mc ms Q := k (by decide +kernel)
theorem kX5_forget_37 {K : zK} {l : Launch} {d : Nat} {ls : List (Nat × Value)} {st : List Value} {n : Nat} {h : zH} {mc ms : Nat} {Q : zQ} (k : zGb K l d mX5_forget [(37, .iinc 2 1), (40, .goto (-36))] 43 ls st n h mc ms Q) : zGo K l d mX5_forget 37 ls st n h mc ms Q := k (by decide +kernel)
theorem kX5_forget_43 {K : zK} {l : Launch} {d : Nat} {ls : List (Nat × Value)} {st : List Value} {n : Nat} {h : zH} {mc ms : Nat} {Q : zQ} (k : zGb K l d mX5_forget [(43, .iload_n 1), (44, .ireturn)] 45 ls st n h mc ms Q) : zGo K l d mX5_forget 43 ls st n h mc ms Q := k (by decide +kernel)
theorem kX5_away_0 {K : zK} {l : Launch} {d : Nat} {ls : List (Nat × Value)} {st : List Value} {n : Nat} {h : zH} {mc ms : Nat} {Q : zQ} (k : zGb K l d mX5_away [(0, .iload_n 1), (1, .ifCond .lt 8), (4, .iload_n 1), (5, .iconst 2), (6, .if_icmp .le 5)] 9 ls st n h mc ms Q) : zGo K l d mX5_away 0 ls st n h mc ms Q := k (by decide +kernel)
theorem kX5_away_9 {K : zK} {l : Launch} {d : Nat} {ls : List (Nat × Value)} {st : List Value} {n : Nat} {h : zH} {mc ms : Nat} {Q : zQ} (k : zGb K l d mX5_away [(9, .iconst (-1)), (10, .ireturn)] 11 ls st n h mc ms Q) : zGo K l d mX5_away 9 ls st n h mc ms Q := k (by decide +kernel)
theorem kX5_away_11 {K : zK} {l : Launch} {d : Nat} {ls : List (Nat × Value)} {st : List Value} {n : Nat} {h : zH} {mc ms : Nat} {Q : zQ} (k : zGb K l d mX5_away [(11, .aload_n 0), (12, .getfield 29), (15, .invokevirtual 205), (18, .istore_n 2), (19, .iconst 0), (20, .istore_n 3), (21, .iload_n 2), (22, .istore 4), (24, .iconst 0), (25, .istore 5), (27, .iconst 0), (28, .istore 6)] 30 ls st n h mc ms Q) : zGo K l d mX5_away 11 ls st n h mc ms Q := k (by decide +kernel)
theorem kX5_away_30 {K : zK} {l : Launch} {d : Nat} {ls : List (Nat × Value)} {st : List Value} {n : Nat} {h : zH} {mc ms : Nat} {Q : zQ} (k : zGb K l d mX5_away [(30, .iload 6), (32, .bipush 64), (34, .if_icmp .ge 47), (37, .iload 6), (39, .iload_n 2), (40, .iconst (-1)), (41, .ixor), (42, .iand), (43, .ifCond .ne 32), (46, .aload_n 0), (47, .getfield 29), (50, .iload 6), (52, .invokevirtual 208), (55, .ifCond .eq 20), (58, .iinc 3 1), (61, .iload 4), (63, .iload 6), (65, .iand), (66, .istore 4), (68, .iload 5), (70, .iload 6), (72, .ior), (73, .istore 5)] 75 ls st n h mc ms Q) : zGo K l d mX5_away 30 ls st n h mc ms Q := k (by decide +kernel)
theorem kX5_away_75 {K : zK} {l : Launch} {d : Nat} {ls : List (Nat × Value)} {st : List Value} {n : Nat} {h : zH} {mc ms : Nat} {Q : zQ} (k : zGb K l d mX5_away [(75, .iinc 6 1), (78, .goto (-48))] 81 ls st n h mc ms Q) : zGo K l d mX5_away 75 ls st n h mc ms Q := k (by decide +kernel)
theorem kX5_away_81 {K : zK} {l : Launch} {d : Nat} {ls : List (Nat × Value)} {st : List Value} {n : Nat} {h : zH} {mc ms : Nat} {Q : zQ} (k : zGb K l d mX5_away [(81, .iload_n 1), (82, .ifCond .ne 5), (85, .iload_n 3), (86, .ireturn)] 87 ls st n h mc ms Q) : zGo K l d mX5_away 81 ls st n h mc ms Q := k (by decide +kernel)
theorem kX5_away_87 {K : zK} {l : Launch} {d : Nat} {ls : List (Nat × Value)} {st : List Value} {n : Nat} {h : zH} {mc ms : Nat} {Q : zQ} (k : zGb K l d mX5_away [(87, .iload_n 1), (88, .iconst 1), (89, .if_icmp .ne 14), (92, .iload_n 3), (93, .ifCond .ne 7), (96, .iconst 0), (97, .goto 5)] 100 ls st n h mc ms Q) : zGo K l d mX5_away 87 ls st n h mc ms Q := k (by decide +kernel)
theorem kX5_away_100 {K : zK} {l : Launch} {d : Nat} {ls : List (Nat × Value)} {st : List Value} {n : Nat} {h : zH} {mc ms : Nat} {Q : zQ} (k : zGb K l d mX5_away [(100, .iload 4)] 102 ls st n h mc ms Q) : zGo K l d mX5_away 100 ls st n h mc ms Q := k (by decide +kernel)
theorem kX5_away_102 {K : zK} {l : Launch} {d : Nat} {ls : List (Nat × Value)} {st : List Value} {n : Nat} {h : zH} {mc ms : Nat} {Q : zQ} (k : zGb K l d mX5_away [(102, .ireturn)] 103 ls st n h mc ms Q) : zGo K l d mX5_away 102 ls st n h mc ms Q := k (by decide +kernel)
theorem kX5_away_103 {K : zK} {l : Launch} {d : Nat} {ls : List (Nat × Value)} {st : List Value} {n : Nat} {h : zH} {mc ms : Nat} {Q : zQ} (k : zGb K l d mX5_away [(103, .iload_n 2), (104, .iload 5), (106, .iconst (-1)), (107, .ixor), (108, .iand), (109, .ireturn)] 110 ls st n h mc ms Q) : zGo K l d mX5_away 103 ls st n h mc ms Q := k (by decide +kernel)
theorem kX5_mark_0 {K : zK} {l : Launch} {d : Nat} {ls : List (Nat × Value)} {st : List Value} {n : Nat} {h : zH} {mc ms : Nat} {Q : zQ} (k : zGb K l d mX5_mark [(0, .aload_n 0), (1, .getfield 19), (4, .iload_n 2), (5, .invokevirtual 76), (8, .ifCond .ne 6), (11, .ldc 211), (13, .ireturn)] 14 ls st n h mc ms Q) : zGo K l d mX5_mark 0 ls st n h mc ms Q := k (by decide +kernel)
theorem kX5_mark_14 {K : zK} {l : Launch} {d : Nat} {ls : List (Nat × Value)} {st : List Value} {n : Nat} {h : zH} {mc ms : Nat} {Q : zQ} (k : zGb K l d mX5_mark [(14, .iload_n 1), (15, .tableswitch 73 0 5 #[37, 43, 49, 55, 61, 67])] 52 ls st n h mc ms Q) : zGo K l d mX5_mark 14 ls st n h mc ms Q := k (by decide +kernel)
theorem kX5_mark_52 {K : zK} {l : Launch} {d : Nat} {ls : List (Nat × Value)} {st : List Value} {n : Nat} {h : zH} {mc ms : Nat} {Q : zQ} (k : zGb K l d mX5_mark [(52, .aload_n 0), (53, .iload_n 2), (54, .invokevirtual 212), (57, .ireturn)] 58 ls st n h mc ms Q) : zGo K l d mX5_mark 52 ls st n h mc ms Q := k (by decide +kernel)
theorem kX5_mark_58 {K : zK} {l : Launch} {d : Nat} {ls : List (Nat × Value)} {st : List Value} {n : Nat} {h : zH} {mc ms : Nat} {Q : zQ} (k : zGb K l d mX5_mark [(58, .aload_n 0), (59, .iload_n 2), (60, .invokevirtual 215), (63, .ireturn)] 64 ls st n h mc ms Q) : zGo K l d mX5_mark 58 ls st n h mc ms Q := k (by decide +kernel)
theorem kX5_mark_64 {K : zK} {l : Launch} {d : Nat} {ls : List (Nat × Value)} {st : List Value} {n : Nat} {h : zH} {mc ms : Nat} {Q : zQ} (k : zGb K l d mX5_mark [(64, .aload_n 0), (65, .iload_n 2), (66, .invokevirtual 218), (69, .ireturn)] 70 ls st n h mc ms Q) : zGo K l d mX5_mark 64 ls st n h mc ms Q := k (by decide +kernel)
theorem kX5_mark_70 {K : zK} {l : Launch} {d : Nat} {ls : List (Nat × Value)} {st : List Value} {n : Nat} {h : zH} {mc ms : Nat} {Q : zQ} (k : zGb K l d mX5_mark [(70, .aload_n 0), (71, .iload_n 2), (72, .invokevirtual 221), (75, .ireturn)] 76 ls st n h mc ms Q) : zGo K l d mX5_mark 70 ls st n h mc ms Q := k (by decide +kernel)
theorem kX5_mark_76 {K : zK} {l : Launch} {d : Nat} {ls : List (Nat × Value)} {st : List Value} {n : Nat} {h : zH} {mc ms : Nat} {Q : zQ} (k : zGb K l d mX5_mark [(76, .aload_n 0), (77, .iload_n 2), (78, .invokevirtual 224), (81, .ireturn)] 82 ls st n h mc ms Q) : zGo K l d mX5_mark 76 ls st n h mc ms Q := k (by decide +kernel)
theorem kX5_mark_82 {K : zK} {l : Launch} {d : Nat} {ls : List (Nat × Value)} {st : List Value} {n : Nat} {h : zH} {mc ms : Nat} {Q : zQ} (k : zGb K l d mX5_mark [(82, .aload_n 0), (83, .iload_n 2), (84, .invokevirtual 227), (87, .ireturn)] 88 ls st n h mc ms Q) : zGo K l d mX5_mark 82 ls st n h mc ms Q := k (by decide +kernel)
theorem kX5_mark_88 {K : zK} {l : Launch} {d : Nat} {ls : List (Nat × Value)} {st : List Value} {n : Nat} {h : zH} {mc ms : Nat} {Q : zQ} (k : zGb K l d mX5_mark [(88, .ldc 211), (90, .ireturn)] 91 ls st n h mc ms Q) : zGo K l d mX5_mark 88 ls st n h mc ms Q := k (by decide +kernel)
theorem kX5_markRinger_0 {K : zK} {l : Launch} {d : Nat} {ls : List (Nat × Value)} {st : List Value} {n : Nat} {h : zH} {mc ms : Nat} {Q : zQ} (k : zGb K l d mX5_markRinger [(0, .aload_n 0), (1, .dup), (2, .getfield 48), (5, .lconst 1), (6, .ladd), (7, .putfield 48), (10, .aload_n 0), (11, .getfield 29), (14, .iload_n 1), (15, .invokevirtual 93), (18, .ireturn)] 19 ls st n h mc ms Q) : zGo K l d mX5_markRinger 0 ls st n h mc ms Q := k (by decide +kernel)
theorem kX5_markSexton_0 {K : zK} {l : Launch} {d : Nat} {ls : List (Nat × Value)} {st : List Value} {n : Nat} {h : zH} {mc ms : Nat} {Q : zQ} (k : zGb K l d mX5_markSexton [(0, .aload_n 0), (1, .dup), (2, .getfield 48), (5, .ldc2_w 230), (8, .ladd), (9, .putfield 48), (12, .aload_n 0), (13, .iload_n 1), (14, .invokevirtual 212), (17, .aload_n 0), (18, .getfield 19), (21, .getfield 84), (24, .iload_n 1), (25, .iaload), (26, .invokestatic 106), (29, .iadd), (30, .ireturn)] 31 ls st n h mc ms Q) : zGo K l d mX5_markSexton 0 ls st n h mc ms Q := k (by decide +kernel)
theorem kX5_markChild_0 {K : zK} {l : Launch} {d : Nat} {ls : List (Nat × Value)} {st : List Value} {n : Nat} {h : zH} {mc ms : Nat} {Q : zQ} (k : zGb K l d mX5_markChild [(0, .aload_n 0), (1, .dup), (2, .getfield 48), (5, .ldc2_w 232), (8, .ladd), (9, .putfield 48), (12, .aload_n 0), (13, .iload_n 1), (14, .invokevirtual 212), (17, .aload_n 0), (18, .getfield 19), (21, .iload_n 1), (22, .invokevirtual 234), (25, .isub), (26, .ireturn)] 27 ls st n h mc ms Q) : zGo K l d mX5_markChild 0 ls st n h mc ms Q := k (by decide +kernel)
theorem kX5_markWarden_0 {K : zK} {l : Launch} {d : Nat} {ls : List (Nat × Value)} {st : List Value} {n : Nat} {h : zH} {mc ms : Nat} {Q : zQ} (k : zGb K l d mX5_markWarden [(0, .aload_n 0), (1, .dup), (2, .getfield 48), (5, .ldc2_w 237), (8, .ladd), (9, .putfield 48), (12, .aload_n 0), (13, .iload_n 1), (14, .invokevirtual 215), (17, .iconst 2), (18, .imul), (19, .ireturn)] 20 ls st n h mc ms Q) : zGo K l d mX5_markWarden 0 ls st n h mc ms Q := k (by decide +kernel)
theorem kX5_markNovice_0 {K : zK} {l : Launch} {d : Nat} {ls : List (Nat × Value)} {st : List Value} {n : Nat} {h : zH} {mc ms : Nat} {Q : zQ} (k : zGb K l d mX5_markNovice [(0, .aload_n 0), (1, .dup), (2, .getfield 48), (5, .ldc2_w 239), (8, .ladd), (9, .putfield 48), (12, .aload_n 0), (13, .iload_n 1), (14, .invokevirtual 218), (17, .iload_n 1), (18, .iadd), (19, .ireturn)] 20 ls st n h mc ms Q) : zGo K l d mX5_markNovice 0 ls st n h mc ms Q := k (by decide +kernel)
theorem kX5_markStranger_0 {K : zK} {l : Launch} {d : Nat} {ls : List (Nat × Value)} {st : List Value} {n : Nat} {h : zH} {mc ms : Nat} {Q : zQ} (k : zGb K l d mX5_markStranger [(0, .aload_n 0), (1, .dup), (2, .getfield 48), (5, .ldc2_w 241), (8, .ladd), (9, .putfield 48), (12, .aload_n 0), (13, .iload_n 1), (14, .invokevirtual 212), (17, .aload_n 0), (18, .getfield 19), (21, .iload_n 1), (22, .aload_n 0), (23, .getfield 29), (26, .getfield 157), (29, .invokevirtual 243), (32, .iadd), (33, .ireturn)] 34 ls st n h mc ms Q) : zGo K l d mX5_markStranger 0 ls st n h mc ms Q := k (by decide +kernel)
theorem kX5_keep_0 {K : zK} {l : Launch} {d : Nat} {ls : List (Nat × Value)} {st : List Value} {n : Nat} {h : zH} {mc ms : Nat} {Q : zQ} (k : zGb K l d mX5_keep [(0, .iload_n 1), (1, .ifCond .lt 8), (4, .iload_n 1), (5, .iconst 2), (6, .if_icmp .lt 5)] 9 ls st n h mc ms Q) : zGo K l d mX5_keep 0 ls st n h mc ms Q := k (by decide +kernel)
theorem kX5_keep_9 {K : zK} {l : Launch} {d : Nat} {ls : List (Nat × Value)} {st : List Value} {n : Nat} {h : zH} {mc ms : Nat} {Q : zQ} (k : zGb K l d mX5_keep [(9, .iconst (-1)), (10, .ireturn)] 11 ls st n h mc ms Q) : zGo K l d mX5_keep 9 ls st n h mc ms Q := k (by decide +kernel)
theorem kX5_keep_11 {K : zK} {l : Launch} {d : Nat} {ls : List (Nat × Value)} {st : List Value} {n : Nat} {h : zH} {mc ms : Nat} {Q : zQ} (k : zGb K l d mX5_keep [(11, .aload_n 0), (12, .getfield 33), (15, .iload_n 1), (16, .aaload), (17, .aload_n 0), (18, .getfield 29), (21, .invokevirtual 246), (24, .aload_n 0), (25, .getfield 37), (28, .iload_n 1), (29, .iconst 1), (30, .bastore), (31, .aload_n 0), (32, .getfield 29), (35, .getfield 130), (38, .ireturn)] 39 ls st n h mc ms Q) : zGo K l d mX5_keep 11 ls st n h mc ms Q := k (by decide +kernel)
theorem kX5_back_0 {K : zK} {l : Launch} {d : Nat} {ls : List (Nat × Value)} {st : List Value} {n : Nat} {h : zH} {mc ms : Nat} {Q : zQ} (k : zGb K l d mX5_back [(0, .iload_n 1), (1, .ifCond .lt 8), (4, .iload_n 1), (5, .iconst 2), (6, .if_icmp .lt 5)] 9 ls st n h mc ms Q) : zGo K l d mX5_back 0 ls st n h mc ms Q := k (by decide +kernel)
theorem kX5_back_9 {K : zK} {l : Launch} {d : Nat} {ls : List (Nat × Value)} {st : List Value} {n : Nat} {h : zH} {mc ms : Nat} {Q : zQ} (k : zGb K l d mX5_back [(9, .iconst (-1)), (10, .ireturn)] 11 ls st n h mc ms Q) : zGo K l d mX5_back 9 ls st n h mc ms Q := k (by decide +kernel)
theorem kX5_back_11 {K : zK} {l : Launch} {d : Nat} {ls : List (Nat × Value)} {st : List Value} {n : Nat} {h : zH} {mc ms : Nat} {Q : zQ} (k : zGb K l d mX5_back [(11, .aload_n 0), (12, .getfield 37), (15, .iload_n 1), (16, .baload), (17, .ifCond .ne 6), (20, .bipush (-2)), (22, .ireturn)] 23 ls st n h mc ms Q) : zGo K l d mX5_back 11 ls st n h mc ms Q := k (by decide +kernel)
theorem kX5_back_23 {K : zK} {l : Launch} {d : Nat} {ls : List (Nat × Value)} {st : List Value} {n : Nat} {h : zH} {mc ms : Nat} {Q : zQ} (k : zGb K l d mX5_back [(23, .aload_n 0), (24, .getfield 29), (27, .aload_n 0), (28, .getfield 33), (31, .iload_n 1), (32, .aaload), (33, .invokevirtual 246), (36, .aload_n 0), (37, .getfield 44), (40, .invokevirtual 162), (43, .aload_n 0), (44, .getfield 29), (47, .getfield 130), (50, .ireturn)] 51 ls st n h mc ms Q) : zGo K l d mX5_back 23 ls st n h mc ms Q := k (by decide +kernel)
theorem kX5_count_0 {K : zK} {l : Launch} {d : Nat} {ls : List (Nat × Value)} {st : List Value} {n : Nat} {h : zH} {mc ms : Nat} {Q : zQ} (k : zGb K l d mX5_count [(0, .iload_n 1), (1, .tableswitch 75 0 4 #[35, 43, 51, 59, 67])] 36 ls st n h mc ms Q) : zGo K l d mX5_count 0 ls st n h mc ms Q := k (by decide +kernel)
theorem kX5_count_36 {K : zK} {l : Launch} {d : Nat} {ls : List (Nat × Value)} {st : List Value} {n : Nat} {h : zH} {mc ms : Nat} {Q : zQ} (k : zGb K l d mX5_count [(36, .aload_n 0), (37, .getfield 19), (40, .getfield 150), (43, .ireturn)] 44 ls st n h mc ms Q) : zGo K l d mX5_count 36 ls st n h mc ms Q := k (by decide +kernel)
theorem kX5_count_44 {K : zK} {l : Launch} {d : Nat} {ls : List (Nat × Value)} {st : List Value} {n : Nat} {h : zH} {mc ms : Nat} {Q : zQ} (k : zGb K l d mX5_count [(44, .aload_n 0), (45, .getfield 19), (48, .getfield 250), (51, .ireturn)] 52 ls st n h mc ms Q) : zGo K l d mX5_count 44 ls st n h mc ms Q := k (by decide +kernel)
theorem kX5_count_52 {K : zK} {l : Launch} {d : Nat} {ls : List (Nat × Value)} {st : List Value} {n : Nat} {h : zH} {mc ms : Nat} {Q : zQ} (k : zGb K l d mX5_count [(52, .aload_n 0), (53, .getfield 19), (56, .getfield 253), (59, .ireturn)] 60 ls st n h mc ms Q) : zGo K l d mX5_count 52 ls st n h mc ms Q := k (by decide +kernel)
theorem kX5_count_60 {K : zK} {l : Launch} {d : Nat} {ls : List (Nat × Value)} {st : List Value} {n : Nat} {h : zH} {mc ms : Nat} {Q : zQ} (k : zGb K l d mX5_count [(60, .aload_n 0), (61, .getfield 19), (64, .getfield 256), (67, .ireturn)] 68 ls st n h mc ms Q) : zGo K l d mX5_count 60 ls st n h mc ms Q := k (by decide +kernel)
theorem kX5_count_68 {K : zK} {l : Launch} {d : Nat} {ls : List (Nat × Value)} {st : List Value} {n : Nat} {h : zH} {mc ms : Nat} {Q : zQ} (k : zGb K l d mX5_count [(68, .aload_n 0), (69, .getfield 10), (72, .getfield 52), (75, .ireturn)] 76 ls st n h mc ms Q) : zGo K l d mX5_count 68 ls st n h mc ms Q := k (by decide +kernel)
theorem kX5_count_76 {K : zK} {l : Launch} {d : Nat} {ls : List (Nat × Value)} {st : List Value} {n : Nat} {h : zH} {mc ms : Nat} {Q : zQ} (k : zGb K l d mX5_count [(76, .iconst (-1)), (77, .ireturn)] 78 ls st n h mc ms Q) : zGo K l d mX5_count 76 ls st n h mc ms Q := k (by decide +kernel)
theorem kX5_trace_0 {K : zK} {l : Launch} {d : Nat} {ls : List (Nat × Value)} {st : List Value} {n : Nat} {h : zH} {mc ms : Nat} {Q : zQ} (k : zGb K l d mX5_trace [(0, .aload_n 0), (1, .getfield 48), (4, .lreturn)] 5 ls st n h mc ms Q) : zGo K l d mX5_trace 0 ls st n h mc ms Q := k (by decide +kernel)
theorem kL_law_0 {K : zK} {l : Launch} {d : Nat} {ls : List (Nat × Value)} {st : List Value} {n : Nat} {h : zH} {mc ms : Nat} {Q : zQ} (k : zGb K l d mL_law [(0, .new 7), (3, .dup), (4, .invokespecial 9), (7, .astore_n 1), (8, .new 10), (11, .dup), (12, .invokespecial 12), (15, .astore_n 2), (16, .iconst 0), (17, .istore_n 3)] 18 ls st n h mc ms Q) : zGo K l d mL_law 0 ls st n h mc ms Q := k (by decide +kernel)
theorem kL_law_18 {K : zK} {l : Launch} {d : Nat} {ls : List (Nat × Value)} {st : List Value} {n : Nat} {h : zH} {mc ms : Nat} {Q : zQ} (k : zGb K l d mL_law [(18, .iload_n 3), (19, .aload_n 0), (20, .arraylength), (21, .iconst 4), (22, .isub), (23, .if_icmp .gt 834), (26, .aload_n 0), (27, .iload_n 3), (28, .iaload), (29, .bipush 31), (31, .iand), (32, .tableswitch 819 0 25 #[120, 183, 196, 209, 242, 275, 318, 351, 384, 417, 440, 463, 486, 509, 532, 565, 578, 611, 634, 667, 680, 703, 736, 759, 782, 805])] 152 ls st n h mc ms Q) : zGo K l d mL_law 18 ls st n h mc ms Q := k (by decide +kernel)
theorem kL_law_152 {K : zK} {l : Launch} {d : Nat} {ls : List (Nat × Value)} {st : List Value} {n : Nat} {h : zH} {mc ms : Nat} {Q : zQ} (k : zGb K l d mL_law [(152, .aload_n 1), (153, .aload_n 0), (154, .iload_n 3), (155, .iconst 1), (156, .iadd), (157, .iaload), (158, .i2l), (159, .bipush 32), (161, .lshl), (162, .aload_n 0), (163, .iload_n 3), (164, .iconst 2), (165, .iadd), (166, .iaload), (167, .i2l), (168, .ldc2_w 13), (171, .land), (172, .lor), (173, .aload_n 0), (174, .iload_n 3), (175, .iconst 3), (176, .iadd), (177, .iaload), (178, .invokevirtual 15), (181, .aload_n 2), (182, .aload_n 0), (183, .iload_n 3), (184, .iconst 1), (185, .iadd), (186, .iaload), (187, .i2l), (188, .bipush 32), (190, .lshl), (191, .aload_n 0), (192, .iload_n 3), (193, .iconst 2), (194, .iadd), (195, .iaload), (196, .i2l), (197, .ldc2_w 13), (200, .land), (201, .lor), (202, .aload_n 0), (203, .iload_n 3), (204, .iconst 3), (205, .iadd), (206, .iaload), (207, .invokevirtual 19), (210, .if_icmp .eq 641), (213, .iconst 0), (214, .ireturn)] 215 ls st n h mc ms Q) : zGo K l d mL_law 152 ls st n h mc ms Q := k (by decide +kernel)
theorem kL_law_215 {K : zK} {l : Launch} {d : Nat} {ls : List (Nat × Value)} {st : List Value} {n : Nat} {h : zH} {mc ms : Nat} {Q : zQ} (k : zGb K l d mL_law [(215, .aload_n 1), (216, .invokevirtual 20), (219, .aload_n 2), (220, .invokevirtual 24), (223, .if_icmp .eq 628), (226, .iconst 0), (227, .ireturn)] 228 ls st n h mc ms Q) : zGo K l d mL_law 215 ls st n h mc ms Q := k (by decide +kernel)
theorem kL_law_228 {K : zK} {l : Launch} {d : Nat} {ls : List (Nat × Value)} {st : List Value} {n : Nat} {h : zH} {mc ms : Nat} {Q : zQ} (k : zGb K l d mL_law [(228, .aload_n 1), (229, .invokevirtual 25), (232, .aload_n 2), (233, .invokevirtual 28), (236, .if_icmp .eq 615), (239, .iconst 0), (240, .ireturn)] 241 ls st n h mc ms Q) : zGo K l d mL_law 228 ls st n h mc ms Q := k (by decide +kernel)
theorem kL_law_241 {K : zK} {l : Launch} {d : Nat} {ls : List (Nat × Value)} {st : List Value} {n : Nat} {h : zH} {mc ms : Nat} {Q : zQ} (k : zGb K l d mL_law [(241, .aload_n 1), (242, .aload_n 0), (243, .iload_n 3), (244, .iconst 1), (245, .iadd), (246, .iaload), (247, .aload_n 0), (248, .iload_n 3), (249, .iconst 2), (250, .iadd), (251, .iaload), (252, .invokevirtual 29), (255, .aload_n 2), (256, .aload_n 0), (257, .iload_n 3), (258, .iconst 1), (259, .iadd), (260, .iaload), (261, .aload_n 0), (262, .iload_n 3), (263, .iconst 2), (264, .iadd), (265, .iaload), (266, .invokevirtual 33), (269, .if_icmp .eq 582), (272, .iconst 0), (273, .ireturn)] 274 ls st n h mc ms Q) : zGo K l d mL_law 241 ls st n h mc ms Q := k (by decide +kernel)
theorem kL_law_274 {K : zK} {l : Launch} {d : Nat} {ls : List (Nat × Value)} {st : List Value} {n : Nat} {h : zH} {mc ms : Nat} {Q : zQ} (k : zGb K l d mL_law [(274, .aload_n 1), (275, .aload_n 0), (276, .iload_n 3), (277, .iconst 1), (278, .iadd), (279, .iaload), (280, .aload_n 0), (281, .iload_n 3), (282, .iconst 2), (283, .iadd), (284, .iaload), (285, .invokevirtual 34), (288, .aload_n 2), (289, .aload_n 0), (290, .iload_n 3), (291, .iconst 1), (292, .iadd), (293, .iaload), (294, .aload_n 0), (295, .iload_n 3), (296, .iconst 2), (297, .iadd), (298, .iaload), (299, .invokevirtual 37), (302, .if_icmp .eq 549), (305, .iconst 0), (306, .ireturn)] 307 ls st n h mc ms Q) : zGo K l d mL_law 274 ls st n h mc ms Q := k (by decide +kernel)
theorem kL_law_307 {K : zK} {l : Launch} {d : Nat} {ls : List (Nat × Value)} {st : List Value} {n : Nat} {h : zH} {mc ms : Nat} {Q : zQ} (k : zGb K l d mL_law [(307, .aload_n 1), (308, .aload_n 0), (309, .iload_n 3), (310, .iconst 1), (311, .iadd), (312, .iaload), (313, .aload_n 0), (314, .iload_n 3), (315, .iconst 2), (316, .iadd), (317, .iaload), (318, .aload_n 0), (319, .iload_n 3), (320, .iconst 3), (321, .iadd), (322, .iaload), (323, .invokevirtual 38), (326, .aload_n 2), (327, .aload_n 0), (328, .iload_n 3), (329, .iconst 1), (330, .iadd), (331, .iaload), (332, .aload_n 0), (333, .iload_n 3), (334, .iconst 2), (335, .iadd), (336, .iaload), (337, .aload_n 0), (338, .iload_n 3), (339, .iconst 3), (340, .iadd), (341, .iaload), (342, .invokevirtual 42), (345, .if_icmp .eq 506), (348, .iconst 0), (349, .ireturn)] 350 ls st n h mc ms Q) : zGo K l d mL_law 307 ls st n h mc ms Q := k (by decide +kernel)
theorem kL_law_350 {K : zK} {l : Launch} {d : Nat} {ls : List (Nat × Value)} {st : List Value} {n : Nat} {h : zH} {mc ms : Nat} {Q : zQ} (k : zGb K l d mL_law [(350, .aload_n 1), (351, .aload_n 0), (352, .iload_n 3), (353, .iconst 1), (354, .iadd), (355, .iaload), (356, .aload_n 0), (357, .iload_n 3), (358, .iconst 2), (359, .iadd), (360, .iaload), (361, .invokevirtual 43), (364, .aload_n 2), (365, .aload_n 0), (366, .iload_n 3), (367, .iconst 1), (368, .iadd), (369, .iaload), (370, .aload_n 0), (371, .iload_n 3), (372, .iconst 2), (373, .iadd), (374, .iaload), (375, .invokevirtual 46), (378, .if_icmp .eq 473), (381, .iconst 0), (382, .ireturn)] 383 ls st n h mc ms Q) : zGo K l d mL_law 350 ls st n h mc ms Q := k (by decide +kernel)
theorem kL_law_383 {K : zK} {l : Launch} {d : Nat} {ls : List (Nat × Value)} {st : List Value} {n : Nat} {h : zH} {mc ms : Nat} {Q : zQ} (k : zGb K l d mL_law [(383, .aload_n 1), (384, .aload_n 0), (385, .iload_n 3), (386, .iconst 1), (387, .iadd), (388, .iaload), (389, .aload_n 0), (390, .iload_n 3), (391, .iconst 2), (392, .iadd), (393, .iaload), (394, .invokevirtual 47), (397, .aload_n 2), (398, .aload_n 0), (399, .iload_n 3), (400, .iconst 1), (401, .iadd), (402, .iaload), (403, .aload_n 0), (404, .iload_n 3), (405, .iconst 2), (406, .iadd), (407, .iaload), (408, .invokevirtual 50), (411, .if_icmp .eq 440), (414, .iconst 0), (415, .ireturn)] 416 ls st n h mc ms Q) : zGo K l d mL_law 383 ls st n h mc ms Q := k (by decide +kernel)
theorem kL_law_416 {K : zK} {l : Launch} {d : Nat} {ls : List (Nat × Value)} {st : List Value} {n : Nat} {h : zH} {mc ms : Nat} {Q : zQ} (k : zGb K l d mL_law [(416, .aload_n 1), (417, .aload_n 0), (418, .iload_n 3), (419, .iconst 1), (420, .iadd), (421, .iaload), (422, .aload_n 0), (423, .iload_n 3), (424, .iconst 2), (425, .iadd), (426, .iaload), (427, .invokevirtual 51), (430, .aload_n 2), (431, .aload_n 0), (432, .iload_n 3), (433, .iconst 1), (434, .iadd), (435, .iaload), (436, .aload_n 0), (437, .iload_n 3), (438, .iconst 2), (439, .iadd), (440, .iaload), (441, .invokevirtual 54), (444, .if_icmp .eq 407), (447, .iconst 0), (448, .ireturn)] 449 ls st n h mc ms Q) : zGo K l d mL_law 416 ls st n h mc ms Q := k (by decide +kernel)
theorem kL_law_449 {K : zK} {l : Launch} {d : Nat} {ls : List (Nat × Value)} {st : List Value} {n : Nat} {h : zH} {mc ms : Nat} {Q : zQ} (k : zGb K l d mL_law [(449, .aload_n 1), (450, .aload_n 0), (451, .iload_n 3), (452, .iconst 1), (453, .iadd), (454, .iaload), (455, .invokevirtual 55), (458, .aload_n 2), (459, .aload_n 0), (460, .iload_n 3), (461, .iconst 1), (462, .iadd), (463, .iaload), (464, .invokevirtual 59), (467, .if_icmp .eq 384), (470, .iconst 0), (471, .ireturn)] 472 ls st n h mc ms Q) : zGo K l d mL_law 449 ls st n h mc ms Q := k (by decide +kernel)
theorem kL_law_472 {K : zK} {l : Launch} {d : Nat} {ls : List (Nat × Value)} {st : List Value} {n : Nat} {h : zH} {mc ms : Nat} {Q : zQ} (k : zGb K l d mL_law [(472, .aload_n 1), (473, .aload_n 0), (474, .iload_n 3), (475, .iconst 1), (476, .iadd), (477, .iaload), (478, .invokevirtual 60), (481, .aload_n 2), (482, .aload_n 0), (483, .iload_n 3), (484, .iconst 1), (485, .iadd), (486, .iaload), (487, .invokevirtual 63), (490, .if_icmp .eq 361), (493, .iconst 0), (494, .ireturn)] 495 ls st n h mc ms Q) : zGo K l d mL_law 472 ls st n h mc ms Q := k (by decide +kernel)
theorem kL_law_495 {K : zK} {l : Launch} {d : Nat} {ls : List (Nat × Value)} {st : List Value} {n : Nat} {h : zH} {mc ms : Nat} {Q : zQ} (k : zGb K l d mL_law [(495, .aload_n 1), (496, .aload_n 0), (497, .iload_n 3), (498, .iconst 1), (499, .iadd), (500, .iaload), (501, .invokevirtual 64), (504, .aload_n 2), (505, .aload_n 0), (506, .iload_n 3), (507, .iconst 1), (508, .iadd), (509, .iaload), (510, .invokevirtual 67), (513, .if_icmp .eq 338), (516, .iconst 0), (517, .ireturn)] 518 ls st n h mc ms Q) : zGo K l d mL_law 495 ls st n h mc ms Q := k (by decide +kernel)
theorem kL_law_518 {K : zK} {l : Launch} {d : Nat} {ls : List (Nat × Value)} {st : List Value} {n : Nat} {h : zH} {mc ms : Nat} {Q : zQ} (k : zGb K l d mL_law [(518, .aload_n 1), (519, .aload_n 0), (520, .iload_n 3), (521, .iconst 1), (522, .iadd), (523, .iaload), (524, .invokevirtual 68), (527, .aload_n 2), (528, .aload_n 0), (529, .iload_n 3), (530, .iconst 1), (531, .iadd), (532, .iaload), (533, .invokevirtual 71), (536, .if_icmp .eq 315), (539, .iconst 0), (540, .ireturn)] 541 ls st n h mc ms Q) : zGo K l d mL_law 518 ls st n h mc ms Q := k (by decide +kernel)
theorem kL_law_541 {K : zK} {l : Launch} {d : Nat} {ls : List (Nat × Value)} {st : List Value} {n : Nat} {h : zH} {mc ms : Nat} {Q : zQ} (k : zGb K l d mL_law [(541, .aload_n 1), (542, .aload_n 0), (543, .iload_n 3), (544, .iconst 1), (545, .iadd), (546, .iaload), (547, .invokevirtual 72), (550, .aload_n 2), (551, .aload_n 0), (552, .iload_n 3), (553, .iconst 1), (554, .iadd), (555, .iaload), (556, .invokevirtual 75), (559, .if_icmp .eq 292), (562, .iconst 0), (563, .ireturn)] 564 ls st n h mc ms Q) : zGo K l d mL_law 541 ls st n h mc ms Q := k (by decide +kernel)
theorem kL_law_564 {K : zK} {l : Launch} {d : Nat} {ls : List (Nat × Value)} {st : List Value} {n : Nat} {h : zH} {mc ms : Nat} {Q : zQ} (k : zGb K l d mL_law [(564, .aload_n 1), (565, .aload_n 0), (566, .iload_n 3), (567, .iconst 1), (568, .iadd), (569, .iaload), (570, .aload_n 0), (571, .iload_n 3), (572, .iconst 2), (573, .iadd), (574, .iaload), (575, .invokevirtual 76), (578, .aload_n 2), (579, .aload_n 0), (580, .iload_n 3), (581, .iconst 1), (582, .iadd), (583, .iaload), (584, .aload_n 0), (585, .iload_n 3), (586, .iconst 2), (587, .iadd), (588, .iaload), (589, .invokevirtual 79), (592, .if_icmp .eq 259), (595, .iconst 0), (596, .ireturn)] 597 ls st n h mc ms Q) : zGo K l d mL_law 564 ls st n h mc ms Q := k (by decide +kernel)
theorem kL_law_597 {K : zK} {l : Launch} {d : Nat} {ls : List (Nat × Value)} {st : List Value} {n : Nat} {h : zH} {mc ms : Nat} {Q : zQ} (k : zGb K l d mL_law [(597, .aload_n 1), (598, .invokevirtual 80), (601, .aload_n 2), (602, .invokevirtual 83), (605, .if_icmp .eq 246), (608, .iconst 0), (609, .ireturn)] 610 ls st n h mc ms Q) : zGo K l d mL_law 597 ls st n h mc ms Q := k (by decide +kernel)
theorem kL_law_610 {K : zK} {l : Launch} {d : Nat} {ls : List (Nat × Value)} {st : List Value} {n : Nat} {h : zH} {mc ms : Nat} {Q : zQ} (k : zGb K l d mL_law [(610, .aload_n 1), (611, .aload_n 0), (612, .iload_n 3), (613, .iconst 1), (614, .iadd), (615, .iaload), (616, .aload_n 0), (617, .iload_n 3), (618, .iconst 2), (619, .iadd), (620, .iaload), (621, .invokevirtual 84), (624, .aload_n 2), (625, .aload_n 0), (626, .iload_n 3), (627, .iconst 1), (628, .iadd), (629, .iaload), (630, .aload_n 0), (631, .iload_n 3), (632, .iconst 2), (633, .iadd), (634, .iaload), (635, .invokevirtual 87), (638, .if_icmp .eq 213), (641, .iconst 0), (642, .ireturn)] 643 ls st n h mc ms Q) : zGo K l d mL_law 610 ls st n h mc ms Q := k (by decide +kernel)
theorem kL_law_643 {K : zK} {l : Launch} {d : Nat} {ls : List (Nat × Value)} {st : List Value} {n : Nat} {h : zH} {mc ms : Nat} {Q : zQ} (k : zGb K l d mL_law [(643, .aload_n 1), (644, .aload_n 0), (645, .iload_n 3), (646, .iconst 1), (647, .iadd), (648, .iaload), (649, .invokevirtual 88), (652, .aload_n 2), (653, .aload_n 0), (654, .iload_n 3), (655, .iconst 1), (656, .iadd), (657, .iaload), (658, .invokevirtual 91), (661, .if_icmp .eq 190), (664, .iconst 0), (665, .ireturn)] 666 ls st n h mc ms Q) : zGo K l d mL_law 643 ls st n h mc ms Q := k (by decide +kernel)
theorem kL_law_666 {K : zK} {l : Launch} {d : Nat} {ls : List (Nat × Value)} {st : List Value} {n : Nat} {h : zH} {mc ms : Nat} {Q : zQ} (k : zGb K l d mL_law [(666, .aload_n 1), (667, .aload_n 0), (668, .iload_n 3), (669, .iconst 1), (670, .iadd), (671, .iaload), (672, .aload_n 0), (673, .iload_n 3), (674, .iconst 2), (675, .iadd), (676, .iaload), (677, .invokevirtual 92), (680, .aload_n 2), (681, .aload_n 0), (682, .iload_n 3), (683, .iconst 1), (684, .iadd), (685, .iaload), (686, .aload_n 0), (687, .iload_n 3), (688, .iconst 2), (689, .iadd), (690, .iaload), (691, .invokevirtual 95), (694, .if_icmp .eq 157), (697, .iconst 0), (698, .ireturn)] 699 ls st n h mc ms Q) : zGo K l d mL_law 666 ls st n h mc ms Q := k (by decide +kernel)
theorem kL_law_699 {K : zK} {l : Launch} {d : Nat} {ls : List (Nat × Value)} {st : List Value} {n : Nat} {h : zH} {mc ms : Nat} {Q : zQ} (k : zGb K l d mL_law [(699, .aload_n 1), (700, .invokevirtual 96), (703, .aload_n 2), (704, .invokevirtual 99), (707, .if_icmp .eq 144), (710, .iconst 0), (711, .ireturn)] 712 ls st n h mc ms Q) : zGo K l d mL_law 699 ls st n h mc ms Q := k (by decide +kernel)
theorem kL_law_712 {K : zK} {l : Launch} {d : Nat} {ls : List (Nat × Value)} {st : List Value} {n : Nat} {h : zH} {mc ms : Nat} {Q : zQ} (k : zGb K l d mL_law [(712, .aload_n 1), (713, .aload_n 0), (714, .iload_n 3), (715, .iconst 1), (716, .iadd), (717, .iaload), (718, .invokevirtual 100), (721, .aload_n 2), (722, .aload_n 0), (723, .iload_n 3), (724, .iconst 1), (725, .iadd), (726, .iaload), (727, .invokevirtual 103), (730, .if_icmp .eq 121), (733, .iconst 0), (734, .ireturn)] 735 ls st n h mc ms Q) : zGo K l d mL_law 712 ls st n h mc ms Q := k (by decide +kernel)
theorem kL_law_735 {K : zK} {l : Launch} {d : Nat} {ls : List (Nat × Value)} {st : List Value} {n : Nat} {h : zH} {mc ms : Nat} {Q : zQ} (k : zGb K l d mL_law [(735, .aload_n 1), (736, .aload_n 0), (737, .iload_n 3), (738, .iconst 1), (739, .iadd), (740, .iaload), (741, .aload_n 0), (742, .iload_n 3), (743, .iconst 2), (744, .iadd), (745, .iaload), (746, .invokevirtual 104), (749, .aload_n 2), (750, .aload_n 0), (751, .iload_n 3), (752, .iconst 1), (753, .iadd), (754, .iaload), (755, .aload_n 0), (756, .iload_n 3), (757, .iconst 2), (758, .iadd), (759, .iaload), (760, .invokevirtual 107), (763, .if_icmp .eq 88), (766, .iconst 0), (767, .ireturn)] 768 ls st n h mc ms Q) : zGo K l d mL_law 735 ls st n h mc ms Q := k (by decide +kernel)
theorem kL_law_768 {K : zK} {l : Launch} {d : Nat} {ls : List (Nat × Value)} {st : List Value} {n : Nat} {h : zH} {mc ms : Nat} {Q : zQ} (k : zGb K l d mL_law [(768, .aload_n 1), (769, .aload_n 0), (770, .iload_n 3), (771, .iconst 1), (772, .iadd), (773, .iaload), (774, .invokevirtual 108), (777, .aload_n 2), (778, .aload_n 0), (779, .iload_n 3), (780, .iconst 1), (781, .iadd), (782, .iaload), (783, .invokevirtual 111), (786, .if_icmp .eq 65), (789, .iconst 0), (790, .ireturn)] 791 ls st n h mc ms Q) : zGo K l d mL_law 768 ls st n h mc ms Q := k (by decide +kernel)
theorem kL_law_791 {K : zK} {l : Launch} {d : Nat} {ls : List (Nat × Value)} {st : List Value} {n : Nat} {h : zH} {mc ms : Nat} {Q : zQ} (k : zGb K l d mL_law [(791, .aload_n 1), (792, .aload_n 0), (793, .iload_n 3), (794, .iconst 1), (795, .iadd), (796, .iaload), (797, .invokevirtual 112), (800, .aload_n 2), (801, .aload_n 0), (802, .iload_n 3), (803, .iconst 1), (804, .iadd), (805, .iaload), (806, .invokevirtual 115), (809, .if_icmp .eq 42), (812, .iconst 0), (813, .ireturn)] 814 ls st n h mc ms Q) : zGo K l d mL_law 791 ls st n h mc ms Q := k (by decide +kernel)
theorem kL_law_814 {K : zK} {l : Launch} {d : Nat} {ls : List (Nat × Value)} {st : List Value} {n : Nat} {h : zH} {mc ms : Nat} {Q : zQ} (k : zGb K l d mL_law [(814, .aload_n 1), (815, .aload_n 0), (816, .iload_n 3), (817, .iconst 1), (818, .iadd), (819, .iaload), (820, .invokevirtual 116), (823, .aload_n 2), (824, .aload_n 0), (825, .iload_n 3), (826, .iconst 1), (827, .iadd), (828, .iaload), (829, .invokevirtual 119), (832, .if_icmp .eq 19), (835, .iconst 0), (836, .ireturn)] 837 ls st n h mc ms Q) : zGo K l d mL_law 814 ls st n h mc ms Q := k (by decide +kernel)
theorem kL_law_837 {K : zK} {l : Launch} {d : Nat} {ls : List (Nat × Value)} {st : List Value} {n : Nat} {h : zH} {mc ms : Nat} {Q : zQ} (k : zGb K l d mL_law [(837, .aload_n 1), (838, .invokevirtual 120), (841, .aload_n 2), (842, .invokevirtual 124), (845, .lcmp), (846, .ifCond .eq 5), (849, .iconst 0), (850, .ireturn)] 851 ls st n h mc ms Q) : zGo K l d mL_law 837 ls st n h mc ms Q := k (by decide +kernel)
theorem kL_law_851 {K : zK} {l : Launch} {d : Nat} {ls : List (Nat × Value)} {st : List Value} {n : Nat} {h : zH} {mc ms : Nat} {Q : zQ} (k : zGb K l d mL_law [(851, .iinc 3 4), (854, .goto (-836))] 857 ls st n h mc ms Q) : zGo K l d mL_law 851 ls st n h mc ms Q := k (by decide +kernel)
theorem kL_law_857 {K : zK} {l : Launch} {d : Nat} {ls : List (Nat × Value)} {st : List Value} {n : Nat} {h : zH} {mc ms : Nat} {Q : zQ} (k : zGb K l d mL_law [(857, .iconst 1), (858, .ireturn)] 859 ls st n h mc ms Q) : zGo K l d mL_law 857 ls st n h mc ms Q := k (by decide +kernel)
end
section
theorem kX6_init_0 {K : zK} {l : Launch} {d : Nat} {ls : List (Nat × Value)} {st : List Value} {n : Nat} {h : zH} {mc ms : Nat} {Q : zQ} (k : zGb K l d mX6_init [(0, .aload_n 0), (1, .invokespecial 1), (4, .aload_n 0), (5, .sipush 200), (8, .newarray .byte), (10, .putfield 7), (13, .aload_n 0), (14, .iconst 2), (15, .newarray .int), (17, .putfield 13), (20, .aload_n 0), (21, .bipush 8), (23, .newarray .int), (25, .putfield 17), (28, .aload_n 0), (29, .iconst 2), (30, .newarray .int), (32, .putfield 20), (35, .aload_n 0), (36, .bipush 12), (38, .newarray .int), (40, .putfield 23), (43, .aload_n 0), (44, .bipush 12), (46, .newarray .int), (48, .putfield 26), (51, .aload_n 0), (52, .bipush 12), (54, .newarray .int), (56, .putfield 29), (59, .aload_n 0), (60, .bipush 12), (62, .newarray .int), (64, .putfield 32), (67, .aload_n 0), (68, .iconst 2), (69, .newarray .int), (71, .putfield 35), (74, .aload_n 0), (75, .iconst 2), (76, .newarray .int), (78, .putfield 38), (81, .aload_n 0), (82, .iconst 2), (83, .newarray .int), (85, .putfield 41), (88, .aload_n 0), (89, .bipush 51), (91, .newarray .int), (93, .putfield 44), (96, .aload_n 0), (97, .iconst 2), (98, .newarray .boolean), (100, .putfield 47), (103, .aload_n 0), (104, .sipush 256), (107, .newarray .int), (109, .putfield 51), (112, .aload_n 0), (113, .sipush 256), (116, .newarray .int), (118, .putfield 54), (121, .aload_n 0), (122, .iconst 4), (123, .newarray .int), (125, .putfield 57), (128, .aload_n 0), (129, .iconst 4), (130, .newarray .int), (132, .putfield 60), (135, .aload_n 0), (136, .iconst 4), (137, .newarray .int), (139, .putfield 63), (142, .aload_n 0), (143, .iconst 5), (144, .newarray .int), (146, .putfield 66), (149, .aload_n 0), (150, .iconst 5), (151, .newarray .int), (153, .putfield 69), (156, .aload_n 0), (157, .iconst 5), (158, .newarray .int), (160, .putfield 72), (163, .aload_n 0), (164, .iconst 5), (165, .newarray .int), (167, .putfield 75), (170, .aload_n 0), (171, .iconst 4), (172, .newarray .int), (174, .putfield 78), (177, .aload_n 0), (178, .iconst 4), (179, .newarray .int), (181, .putfield 81), (184, .aload_n 0), (185, .getfield 38), (188, .iconst 0), (189, .iconst 1), (190, .iastore), (191, .aload_n 0), (192, .invokevirtual 84), (195, .return_)] 196 ls st n h mc ms Q) : zGo K l d mX6_init 0 ls st n h mc ms Q := k (by decide +kernel)
theorem kX6_in_0 {K : zK} {l : Launch} {d : Nat} {ls : List (Nat × Value)} {st : List Value} {n : Nat} {h : zH} {mc ms : Nat} {Q : zQ} (k : zGb K l d mX6_in [(0, .iload_n 0), (1, .iload_n 1), (2, .if_icmp .lt 12), (5, .iload_n 0), (6, .iload_n 2), (7, .if_icmp .gt 7), (10, .iconst 1), (11, .goto 4)] 14 ls st n h mc ms Q) : zGo K l d mX6_in 0 ls st n h mc ms Q := k (by decide +kernel)
theorem kX6_in_14 {K : zK} {l : Launch} {d : Nat} {ls : List (Nat × Value)} {st : List Value} {n : Nat} {h : zH} {mc ms : Nat} {Q : zQ} (k : zGb K l d mX6_in [(14, .iconst 0)] 15 ls st n h mc ms Q) : zGo K l d mX6_in 14 ls st n h mc ms Q := k (by decide +kernel)
theorem kX6_in_15 {K : zK} {l : Launch} {d : Nat} {ls : List (Nat × Value)} {st : List Value} {n : Nat} {h : zH} {mc ms : Nat} {Q : zQ} (k : zGb K l d mX6_in [(15, .ireturn)] 16 ls st n h mc ms Q) : zGo K l d mX6_in 15 ls st n h mc ms Q := k (by decide +kernel)
theorem kX6_type_0 {K : zK} {l : Launch} {d : Nat} {ls : List (Nat × Value)} {st : List Value} {n : Nat} {h : zH} {mc ms : Nat} {Q : zQ} (k : zGb K l d mX6_type [(0, .iload_n 3), (1, .iconst 1), (2, .bipush 8), (4, .invokestatic 87), (7, .ifCond .ne 5), (10, .iconst (-1)), (11, .ireturn)] 12 ls st n h mc ms Q) : zGo K l d mX6_type 0 ls st n h mc ms Q := k (by decide +kernel)
theorem kX6_type_12 {K : zK} {l : Launch} {d : Nat} {ls : List (Nat × Value)} {st : List Value} {n : Nat} {h : zH} {mc ms : Nat} {Q : zQ} (k : zGb K l d mX6_type [(12, .aload_n 0), (13, .getfield 91), (16, .iload_n 3), (17, .iadd), (18, .sipush 200), (21, .if_icmp .le 6), (24, .bipush (-3)), (26, .ireturn)] 27 ls st n h mc ms Q) : zGo K l d mX6_type 12 ls st n h mc ms Q := k (by decide +kernel)
theorem kX6_type_27 {K : zK} {l : Launch} {d : Nat} {ls : List (Nat × Value)} {st : List Value} {n : Nat} {h : zH} {mc ms : Nat} {Q : zQ} (k : zGb K l d mX6_type [(27, .iload_n 3), (28, .iconst 1), (29, .isub), (30, .istore 4)] 32 ls st n h mc ms Q) : zGo K l d mX6_type 27 ls st n h mc ms Q := k (by decide +kernel)
theorem kX6_type_32 {K : zK} {l : Launch} {d : Nat} {ls : List (Nat × Value)} {st : List Value} {n : Nat} {h : zH} {mc ms : Nat} {Q : zQ} (k : zGb K l d mX6_type [(32, .iload 4), (34, .ifCond .lt 41), (37, .aload_n 0), (38, .getfield 7), (41, .aload_n 0), (42, .getfield 91), (45, .lload_n 1), (46, .bipush 8), (48, .iload 4), (50, .imul), (51, .lshr), (52, .ldc2_w 95), (55, .land), (56, .l2i), (57, .i2b), (58, .bastore), (59, .aload_n 0), (60, .dup), (61, .getfield 91), (64, .iconst 1), (65, .iadd), (66, .putfield 91), (69, .iinc 4 (-1)), (72, .goto (-40))] 75 ls st n h mc ms Q) : zGo K l d mX6_type 32 ls st n h mc ms Q := k (by decide +kernel)
theorem kX6_type_75 {K : zK} {l : Launch} {d : Nat} {ls : List (Nat × Value)} {st : List Value} {n : Nat} {h : zH} {mc ms : Nat} {Q : zQ} (k : zGb K l d mX6_type [(75, .aload_n 0), (76, .getfield 91), (79, .ireturn)] 80 ls st n h mc ms Q) : zGo K l d mX6_type 75 ls st n h mc ms Q := k (by decide +kernel)
theorem kX6_clear_0 {K : zK} {l : Launch} {d : Nat} {ls : List (Nat × Value)} {st : List Value} {n : Nat} {h : zH} {mc ms : Nat} {Q : zQ} (k : zGb K l d mX6_clear [(0, .aload_n 0), (1, .getfield 91), (4, .istore_n 1), (5, .aload_n 0), (6, .iconst 0), (7, .putfield 91), (10, .iload_n 1), (11, .ireturn)] 12 ls st n h mc ms Q) : zGo K l d mX6_clear 0 ls st n h mc ms Q := k (by decide +kernel)
theorem kX6_here_0 {K : zK} {l : Launch} {d : Nat} {ls : List (Nat × Value)} {st : List Value} {n : Nat} {h : zH} {mc ms : Nat} {Q : zQ} (k : zGb K l d mX6_here [(0, .aload_n 0), (1, .getfield 97), (4, .aload_n 0), (5, .getfield 91), (8, .if_icmp .ge 19), (11, .aload_n 0), (12, .getfield 7), (15, .aload_n 0), (16, .getfield 97), (19, .baload), (20, .sipush 255), (23, .iand), (24, .goto 4)] 27 ls st n h mc ms Q) : zGo K l d mX6_here 0 ls st n h mc ms Q := k (by decide +kernel)
theorem kX6_here_27 {K : zK} {l : Launch} {d : Nat} {ls : List (Nat × Value)} {st : List Value} {n : Nat} {h : zH} {mc ms : Nat} {Q : zQ} (k : zGb K l d mX6_here [(27, .iconst (-1))] 28 ls st n h mc ms Q) : zGo K l d mX6_here 27 ls st n h mc ms Q := k (by decide +kernel)
theorem kX6_here_28 {K : zK} {l : Launch} {d : Nat} {ls : List (Nat × Value)} {st : List Value} {n : Nat} {h : zH} {mc ms : Nat} {Q : zQ} (k : zGb K l d mX6_here [(28, .ireturn)] 29 ls st n h mc ms Q) : zGo K l d mX6_here 28 ls st n h mc ms Q := k (by decide +kernel)
theorem kX6_meaning_0 {K : zK} {l : Launch} {d : Nat} {ls : List (Nat × Value)} {st : List Value} {n : Nat} {h : zH} {mc ms : Nat} {Q : zQ} (k : zGb K l d mX6_meaning [(0, .iload_n 0), (1, .lookupswitch 61 #[(168984, 51), (358472, 59), (10815598, 57), (10940985, 55), (263344113, 53)])] 52 ls st n h mc ms Q) : zGo K l d mX6_meaning 0 ls st n h mc ms Q := k (by decide +kernel)
theorem kX6_meaning_52 {K : zK} {l : Launch} {d : Nat} {ls : List (Nat × Value)} {st : List Value} {n : Nat} {h : zH} {mc ms : Nat} {Q : zQ} (k : zGb K l d mX6_meaning [(52, .iconst 0), (53, .ireturn)] 54 ls st n h mc ms Q) : zGo K l d mX6_meaning 52 ls st n h mc ms Q := k (by decide +kernel)
theorem kX6_meaning_54 {K : zK} {l : Launch} {d : Nat} {ls : List (Nat × Value)} {st : List Value} {n : Nat} {h : zH} {mc ms : Nat} {Q : zQ} (k : zGb K l d mX6_meaning [(54, .iconst 1), (55, .ireturn)] 56 ls st n h mc ms Q) : zGo K l d mX6_meaning 54 ls st n h mc ms Q := k (by decide +kernel)
theorem kX6_meaning_56 {K : zK} {l : Launch} {d : Nat} {ls : List (Nat × Value)} {st : List Value} {n : Nat} {h : zH} {mc ms : Nat} {Q : zQ} (k : zGb K l d mX6_meaning [(56, .iconst 2), (57, .ireturn)] 58 ls st n h mc ms Q) : zGo K l d mX6_meaning 56 ls st n h mc ms Q := k (by decide +kernel)
theorem kX6_meaning_58 {K : zK} {l : Launch} {d : Nat} {ls : List (Nat × Value)} {st : List Value} {n : Nat} {h : zH} {mc ms : Nat} {Q : zQ} (k : zGb K l d mX6_meaning [(58, .iconst 3), (59, .ireturn)] 60 ls st n h mc ms Q) : zGo K l d mX6_meaning 58 ls st n h mc ms Q := k (by decide +kernel)
theorem kX6_meaning_60 {K : zK} {l : Launch} {d : Nat} {ls : List (Nat × Value)} {st : List Value} {n : Nat} {h : zH} {mc ms : Nat} {Q : zQ} (k : zGb K l d mX6_meaning [(60, .iconst 4), (61, .ireturn)] 62 ls st n h mc ms Q) : zGo K l d mX6_meaning 60 ls st n h mc ms Q := k (by decide +kernel)
theorem kX6_meaning_62 {K : zK} {l : Launch} {d : Nat} {ls : List (Nat × Value)} {st : List Value} {n : Nat} {h : zH} {mc ms : Nat} {Q : zQ} (k : zGb K l d mX6_meaning [(62, .bipush 8), (64, .ireturn)] 65 ls st n h mc ms Q) : zGo K l d mX6_meaning 62 ls st n h mc ms Q := k (by decide +kernel)
theorem kX6_next_0 {K : zK} {l : Launch} {d : Nat} {ls : List (Nat × Value)} {st : List Value} {n : Nat} {h : zH} {mc ms : Nat} {Q : zQ} (k : zGb K l d mX6_next [(0, .aload_n 0), (1, .invokevirtual 100), (4, .bipush 32), (6, .if_icmp .ne 16), (9, .aload_n 0), (10, .dup), (11, .getfield 97), (14, .iconst 1), (15, .iadd), (16, .putfield 97), (19, .goto (-19))] 22 ls st n h mc ms Q) : zGo K l d mX6_next 0 ls st n h mc ms Q := k (by decide +kernel)
theorem kX6_next_22 {K : zK} {l : Launch} {d : Nat} {ls : List (Nat × Value)} {st : List Value} {n : Nat} {h : zH} {mc ms : Nat} {Q : zQ} (k : zGb K l d mX6_next [(22, .aload_n 0), (23, .aload_n 0), (24, .getfield 97), (27, .putfield 104), (30, .aload_n 0), (31, .iconst 0), (32, .putfield 107), (35, .aload_n 0), (36, .invokevirtual 100), (39, .istore_n 1), (40, .iload_n 1), (41, .ifCond .ge 11), (44, .aload_n 0), (45, .iconst 5), (46, .putfield 110), (49, .goto 245)] 52 ls st n h mc ms Q) : zGo K l d mX6_next 22 ls st n h mc ms Q := k (by decide +kernel)
theorem kX6_next_52 {K : zK} {l : Launch} {d : Nat} {ls : List (Nat × Value)} {st : List Value} {n : Nat} {h : zH} {mc ms : Nat} {Q : zQ} (k : zGb K l d mX6_next [(52, .iload_n 1), (53, .bipush 97), (55, .bipush 122), (57, .invokestatic 87), (60, .ifCond .eq 92), (63, .iconst 0), (64, .istore_n 2)] 65 ls st n h mc ms Q) : zGo K l d mX6_next 52 ls st n h mc ms Q := k (by decide +kernel)
theorem kX6_next_65 {K : zK} {l : Launch} {d : Nat} {ls : List (Nat × Value)} {st : List Value} {n : Nat} {h : zH} {mc ms : Nat} {Q : zQ} (k : zGb K l d mX6_next [(65, .aload_n 0), (66, .invokevirtual 100), (69, .bipush 97), (71, .bipush 122), (73, .invokestatic 87), (76, .ifCond .eq 47), (79, .aload_n 0), (80, .getfield 97), (83, .aload_n 0), (84, .getfield 104), (87, .isub), (88, .bipush 6), (90, .if_icmp .ge 18), (93, .bipush 27), (95, .iload_n 2), (96, .imul), (97, .aload_n 0), (98, .invokevirtual 100), (101, .iadd), (102, .bipush 96), (104, .isub), (105, .goto 4)] 108 ls st n h mc ms Q) : zGo K l d mX6_next 65 ls st n h mc ms Q := k (by decide +kernel)
theorem kX6_next_108 {K : zK} {l : Launch} {d : Nat} {ls : List (Nat × Value)} {st : List Value} {n : Nat} {h : zH} {mc ms : Nat} {Q : zQ} (k : zGb K l d mX6_next [(108, .iconst 0)] 109 ls st n h mc ms Q) : zGo K l d mX6_next 108 ls st n h mc ms Q := k (by decide +kernel)
theorem kX6_next_109 {K : zK} {l : Launch} {d : Nat} {ls : List (Nat × Value)} {st : List Value} {n : Nat} {h : zH} {mc ms : Nat} {Q : zQ} (k : zGb K l d mX6_next [(109, .istore_n 2), (110, .aload_n 0), (111, .dup), (112, .getfield 97), (115, .iconst 1), (116, .iadd), (117, .putfield 97), (120, .goto (-55))] 123 ls st n h mc ms Q) : zGo K l d mX6_next 109 ls st n h mc ms Q := k (by decide +kernel)
theorem kX6_next_123 {K : zK} {l : Launch} {d : Nat} {ls : List (Nat × Value)} {st : List Value} {n : Nat} {h : zH} {mc ms : Nat} {Q : zQ} (k : zGb K l d mX6_next [(123, .aload_n 0), (124, .aload_n 0), (125, .getfield 97), (128, .aload_n 0), (129, .getfield 104), (132, .isub), (133, .bipush 6), (135, .if_icmp .le 7), (138, .iconst 0), (139, .goto 4)] 142 ls st n h mc ms Q) : zGo K l d mX6_next 123 ls st n h mc ms Q := k (by decide +kernel)
theorem kX6_next_142 {K : zK} {l : Launch} {d : Nat} {ls : List (Nat × Value)} {st : List Value} {n : Nat} {h : zH} {mc ms : Nat} {Q : zQ} (k : zGb K l d mX6_next [(142, .iload_n 2)] 143 ls st n h mc ms Q) : zGo K l d mX6_next 142 ls st n h mc ms Q := k (by decide +kernel)
theorem kX6_next_143 {K : zK} {l : Launch} {d : Nat} {ls : List (Nat × Value)} {st : List Value} {n : Nat} {h : zH} {mc ms : Nat} {Q : zQ} (k : zGb K l d mX6_next [(143, .invokestatic 113), (146, .putfield 110), (149, .goto 145)] 152 ls st n h mc ms Q) : zGo K l d mX6_next 143 ls st n h mc ms Q := k (by decide +kernel)
theorem kX6_next_152 {K : zK} {l : Launch} {d : Nat} {ls : List (Nat × Value)} {st : List Value} {n : Nat} {h : zH} {mc ms : Nat} {Q : zQ} (k : zGb K l d mX6_next [(152, .iload_n 1), (153, .bipush 48), (155, .bipush 57), (157, .invokestatic 87), (160, .ifCond .eq 107)] 163 ls st n h mc ms Q) : zGo K l d mX6_next 152 ls st n h mc ms Q := k (by decide +kernel)
theorem kX6_next_163 {K : zK} {l : Launch} {d : Nat} {ls : List (Nat × Value)} {st : List Value} {n : Nat} {h : zH} {mc ms : Nat} {Q : zQ} (k : zGb K l d mX6_next [(163, .aload_n 0), (164, .invokevirtual 100), (167, .bipush 48), (169, .bipush 57), (171, .invokestatic 87), (174, .ifCond .eq 51), (177, .aload_n 0), (178, .aload_n 0), (179, .getfield 107), (182, .bipush 99), (184, .if_icmp .le 10), (187, .aload_n 0), (188, .getfield 107), (191, .goto 18)] 194 ls st n h mc ms Q) : zGo K l d mX6_next 163 ls st n h mc ms Q := k (by decide +kernel)
theorem kX6_next_194 {K : zK} {l : Launch} {d : Nat} {ls : List (Nat × Value)} {st : List Value} {n : Nat} {h : zH} {mc ms : Nat} {Q : zQ} (k : zGb K l d mX6_next [(194, .bipush 10), (196, .aload_n 0), (197, .getfield 107), (200, .imul), (201, .aload_n 0), (202, .invokevirtual 100), (205, .iadd), (206, .bipush 48), (208, .isub)] 209 ls st n h mc ms Q) : zGo K l d mX6_next 194 ls st n h mc ms Q := k (by decide +kernel)
theorem kX6_next_209 {K : zK} {l : Launch} {d : Nat} {ls : List (Nat × Value)} {st : List Value} {n : Nat} {h : zH} {mc ms : Nat} {Q : zQ} (k : zGb K l d mX6_next [(209, .putfield 107), (212, .aload_n 0), (213, .dup), (214, .getfield 97), (217, .iconst 1), (218, .iadd), (219, .putfield 97), (222, .goto (-59))] 225 ls st n h mc ms Q) : zGo K l d mX6_next 209 ls st n h mc ms Q := k (by decide +kernel)
theorem kX6_next_225 {K : zK} {l : Launch} {d : Nat} {ls : List (Nat × Value)} {st : List Value} {n : Nat} {h : zH} {mc ms : Nat} {Q : zQ} (k : zGb K l d mX6_next [(225, .aload_n 0), (226, .aload_n 0), (227, .getfield 107), (230, .bipush 99), (232, .if_icmp .gt 22), (235, .iload_n 1), (236, .bipush 48), (238, .if_icmp .ne 21), (241, .aload_n 0), (242, .getfield 97), (245, .aload_n 0), (246, .getfield 104), (249, .isub), (250, .iconst 1), (251, .if_icmp .le 8)] 254 ls st n h mc ms Q) : zGo K l d mX6_next 225 ls st n h mc ms Q := k (by decide +kernel)
theorem kX6_next_254 {K : zK} {l : Launch} {d : Nat} {ls : List (Nat × Value)} {st : List Value} {n : Nat} {h : zH} {mc ms : Nat} {Q : zQ} (k : zGb K l d mX6_next [(254, .bipush 8), (256, .goto 5)] 259 ls st n h mc ms Q) : zGo K l d mX6_next 254 ls st n h mc ms Q := k (by decide +kernel)
theorem kX6_next_259 {K : zK} {l : Launch} {d : Nat} {ls : List (Nat × Value)} {st : List Value} {n : Nat} {h : zH} {mc ms : Nat} {Q : zQ} (k : zGb K l d mX6_next [(259, .bipush 6)] 261 ls st n h mc ms Q) : zGo K l d mX6_next 259 ls st n h mc ms Q := k (by decide +kernel)
theorem kX6_next_261 {K : zK} {l : Launch} {d : Nat} {ls : List (Nat × Value)} {st : List Value} {n : Nat} {h : zH} {mc ms : Nat} {Q : zQ} (k : zGb K l d mX6_next [(261, .putfield 110), (264, .goto 30)] 267 ls st n h mc ms Q) : zGo K l d mX6_next 261 ls st n h mc ms Q := k (by decide +kernel)
theorem kX6_next_267 {K : zK} {l : Launch} {d : Nat} {ls : List (Nat × Value)} {st : List Value} {n : Nat} {h : zH} {mc ms : Nat} {Q : zQ} (k : zGb K l d mX6_next [(267, .aload_n 0), (268, .dup), (269, .getfield 97), (272, .iconst 1), (273, .iadd), (274, .putfield 97), (277, .aload_n 0), (278, .iload_n 1), (279, .bipush 59), (281, .if_icmp .ne 8), (284, .bipush 7), (286, .goto 5)] 289 ls st n h mc ms Q) : zGo K l d mX6_next 267 ls st n h mc ms Q := k (by decide +kernel)
theorem kX6_next_289 {K : zK} {l : Launch} {d : Nat} {ls : List (Nat × Value)} {st : List Value} {n : Nat} {h : zH} {mc ms : Nat} {Q : zQ} (k : zGb K l d mX6_next [(289, .bipush 8)] 291 ls st n h mc ms Q) : zGo K l d mX6_next 289 ls st n h mc ms Q := k (by decide +kernel)
theorem kX6_next_291 {K : zK} {l : Launch} {d : Nat} {ls : List (Nat × Value)} {st : List Value} {n : Nat} {h : zH} {mc ms : Nat} {Q : zQ} (k : zGb K l d mX6_next [(291, .putfield 110)] 294 ls st n h mc ms Q) : zGo K l d mX6_next 291 ls st n h mc ms Q := k (by decide +kernel)
theorem kX6_next_294 {K : zK} {l : Launch} {d : Nat} {ls : List (Nat × Value)} {st : List Value} {n : Nat} {h : zH} {mc ms : Nat} {Q : zQ} (k : zGb K l d mX6_next [(294, .return_)] 295 ls st n h mc ms Q) : zGo K l d mX6_next 294 ls st n h mc ms Q := k (by decide +kernel)
theorem kX6_due_0 {K : zK} {l : Launch} {d : Nat} {ls : List (Nat × Value)} {st : List Value} {n : Nat} {h : zH} {mc ms : Nat} {Q : zQ} (k : zGb K l d mX6_due [(0, .aload_n 0), (1, .getfield 107), (4, .istore_n 2), (5, .aload_n 0), (6, .getfield 117), (9, .bipush (-9)), (11, .if_icmp .ne 22), (14, .iload_n 1), (15, .ifCond .eq 10), (18, .aload_n 0), (19, .invokevirtual 120), (22, .goto 11)] 25 ls st n h mc ms Q) : zGo K l d mX6_due 0 ls st n h mc ms Q := k (by decide +kernel)
theorem kX6_due_25 {K : zK} {l : Launch} {d : Nat} {ls : List (Nat × Value)} {st : List Value} {n : Nat} {h : zH} {mc ms : Nat} {Q : zQ} (k : zGb K l d mX6_due [(25, .aload_n 0), (26, .aload_n 0), (27, .getfield 104), (30, .putfield 117)] 33 ls st n h mc ms Q) : zGo K l d mX6_due 25 ls st n h mc ms Q := k (by decide +kernel)
theorem kX6_due_33 {K : zK} {l : Launch} {d : Nat} {ls : List (Nat × Value)} {st : List Value} {n : Nat} {h : zH} {mc ms : Nat} {Q : zQ} (k : zGb K l d mX6_due [(33, .iload_n 2), (34, .ireturn)] 35 ls st n h mc ms Q) : zGo K l d mX6_due 33 ls st n h mc ms Q := k (by decide +kernel)
theorem kX6_number_0 {K : zK} {l : Launch} {d : Nat} {ls : List (Nat × Value)} {st : List Value} {n : Nat} {h : zH} {mc ms : Nat} {Q : zQ} (k : zGb K l d mX6_number [(0, .aload_n 0), (1, .aload_n 0), (2, .getfield 110), (5, .bipush 6), (7, .if_icmp .ne 19), (10, .aload_n 0), (11, .getfield 107), (14, .iload_n 1), (15, .iload_n 2), (16, .invokestatic 87), (19, .ifCond .eq 7), (22, .iconst 1), (23, .goto 4)] 26 ls st n h mc ms Q) : zGo K l d mX6_number 0 ls st n h mc ms Q := k (by decide +kernel)
theorem kX6_number_26 {K : zK} {l : Launch} {d : Nat} {ls : List (Nat × Value)} {st : List Value} {n : Nat} {h : zH} {mc ms : Nat} {Q : zQ} (k : zGb K l d mX6_number [(26, .iconst 0)] 27 ls st n h mc ms Q) : zGo K l d mX6_number 26 ls st n h mc ms Q := k (by decide +kernel)
theorem kX6_number_27 {K : zK} {l : Launch} {d : Nat} {ls : List (Nat × Value)} {st : List Value} {n : Nat} {h : zH} {mc ms : Nat} {Q : zQ} (k : zGb K l d mX6_number [(27, .invokevirtual 123), (30, .ireturn)] 31 ls st n h mc ms Q) : zGo K l d mX6_number 27 ls st n h mc ms Q := k (by decide +kernel)
theorem kX6_readItem_0 {K : zK} {l : Launch} {d : Nat} {ls : List (Nat × Value)} {st : List Value} {n : Nat} {h : zH} {mc ms : Nat} {Q : zQ} (k : zGb K l d mX6_readItem [(0, .aload_n 0), (1, .getfield 110), (4, .istore_n 1), (5, .aload_n 0), (6, .iload_n 1), (7, .ifCond .ne 13), (10, .aload_n 0), (11, .getfield 13), (14, .iconst 1), (15, .iaload), (16, .iconst 4), (17, .if_icmp .lt 39)] 20 ls st n h mc ms Q) : zGo K l d mX6_readItem 0 ls st n h mc ms Q := k (by decide +kernel)
theorem kX6_readItem_20 {K : zK} {l : Launch} {d : Nat} {ls : List (Nat × Value)} {st : List Value} {n : Nat} {h : zH} {mc ms : Nat} {Q : zQ} (k : zGb K l d mX6_readItem [(20, .iload_n 1), (21, .iconst 1), (22, .if_icmp .ne 14), (25, .aload_n 0), (26, .getfield 20), (29, .iconst 1), (30, .iaload), (31, .bipush 6), (33, .if_icmp .lt 23)] 36 ls st n h mc ms Q) : zGo K l d mX6_readItem 20 ls st n h mc ms Q := k (by decide +kernel)
theorem kX6_readItem_36 {K : zK} {l : Launch} {d : Nat} {ls : List (Nat × Value)} {st : List Value} {n : Nat} {h : zH} {mc ms : Nat} {Q : zQ} (k : zGb K l d mX6_readItem [(36, .iload_n 1), (37, .iconst 2), (38, .iconst 4), (39, .invokestatic 87), (42, .ifCond .eq 18), (45, .aload_n 0), (46, .getfield 127), (49, .iload_n 1), (50, .ishr), (51, .iconst 1), (52, .iand), (53, .ifCond .ne 7)] 56 ls st n h mc ms Q) : zGo K l d mX6_readItem 36 ls st n h mc ms Q := k (by decide +kernel)
theorem kX6_readItem_56 {K : zK} {l : Launch} {d : Nat} {ls : List (Nat × Value)} {st : List Value} {n : Nat} {h : zH} {mc ms : Nat} {Q : zQ} (k : zGb K l d mX6_readItem [(56, .iconst 1), (57, .goto 4)] 60 ls st n h mc ms Q) : zGo K l d mX6_readItem 56 ls st n h mc ms Q := k (by decide +kernel)
theorem kX6_readItem_60 {K : zK} {l : Launch} {d : Nat} {ls : List (Nat × Value)} {st : List Value} {n : Nat} {h : zH} {mc ms : Nat} {Q : zQ} (k : zGb K l d mX6_readItem [(60, .iconst 0)] 61 ls st n h mc ms Q) : zGo K l d mX6_readItem 60 ls st n h mc ms Q := k (by decide +kernel)
theorem kX6_readItem_61 {K : zK} {l : Launch} {d : Nat} {ls : List (Nat × Value)} {st : List Value} {n : Nat} {h : zH} {mc ms : Nat} {Q : zQ} (k : zGb K l d mX6_readItem [(61, .invokevirtual 123), (64, .pop), (65, .aload_n 0), (66, .getfield 117), (69, .bipush (-9)), (71, .if_icmp .eq 4), (74, .return_)] 75 ls st n h mc ms Q) : zGo K l d mX6_readItem 61 ls st n h mc ms Q := k (by decide +kernel)
theorem kX6_readItem_75 {K : zK} {l : Launch} {d : Nat} {ls : List (Nat × Value)} {st : List Value} {n : Nat} {h : zH} {mc ms : Nat} {Q : zQ} (k : zGb K l d mX6_readItem [(75, .aload_n 0), (76, .dup), (77, .getfield 127), (80, .iconst 1), (81, .iload_n 1), (82, .ishl), (83, .ior), (84, .putfield 127), (87, .iload_n 1), (88, .tableswitch 170 0 3 #[32, 64, 139, 155])] 120 ls st n h mc ms Q) : zGo K l d mX6_readItem 75 ls st n h mc ms Q := k (by decide +kernel)
theorem kX6_readItem_120 {K : zK} {l : Launch} {d : Nat} {ls : List (Nat × Value)} {st : List Value} {n : Nat} {h : zH} {mc ms : Nat} {Q : zQ} (k : zGb K l d mX6_readItem [(120, .aload_n 0), (121, .getfield 17), (124, .iconst 4), (125, .aload_n 0), (126, .getfield 13), (129, .iconst 1), (130, .iaload), (131, .iadd), (132, .aload_n 0), (133, .iconst 1), (134, .iconst 3), (135, .invokevirtual 130), (138, .iastore), (139, .aload_n 0), (140, .getfield 13), (143, .iconst 1), (144, .dup2), (145, .iaload), (146, .iconst 1), (147, .iadd), (148, .iastore), (149, .goto 121)] 152 ls st n h mc ms Q) : zGo K l d mX6_readItem 120 ls st n h mc ms Q := k (by decide +kernel)
theorem kX6_readItem_152 {K : zK} {l : Launch} {d : Nat} {ls : List (Nat × Value)} {st : List Value} {n : Nat} {h : zH} {mc ms : Nat} {Q : zQ} (k : zGb K l d mX6_readItem [(152, .bipush 6), (154, .aload_n 0), (155, .getfield 20), (158, .iconst 1), (159, .iaload), (160, .iadd), (161, .istore_n 2), (162, .aload_n 0), (163, .getfield 23), (166, .iload_n 2), (167, .aload_n 0), (168, .iconst 0), (169, .bipush 60), (171, .invokevirtual 130), (174, .iastore), (175, .aload_n 0), (176, .getfield 26), (179, .iload_n 2), (180, .aload_n 0), (181, .iconst 0), (182, .bipush 7), (184, .invokevirtual 130), (187, .iastore), (188, .aload_n 0), (189, .getfield 29), (192, .iload_n 2), (193, .aload_n 0), (194, .iconst 0), (195, .bipush 15), (197, .invokevirtual 130), (200, .iastore), (201, .aload_n 0), (202, .getfield 32), (205, .iload_n 2), (206, .aload_n 0), (207, .iconst 0), (208, .bipush 9), (210, .invokevirtual 130), (213, .iastore), (214, .aload_n 0), (215, .getfield 20), (218, .iconst 1), (219, .dup2), (220, .iaload), (221, .iconst 1), (222, .iadd), (223, .iastore), (224, .goto 46)] 227 ls st n h mc ms Q) : zGo K l d mX6_readItem 152 ls st n h mc ms Q := k (by decide +kernel)
theorem kX6_readItem_227 {K : zK} {l : Launch} {d : Nat} {ls : List (Nat × Value)} {st : List Value} {n : Nat} {h : zH} {mc ms : Nat} {Q : zQ} (k : zGb K l d mX6_readItem [(227, .aload_n 0), (228, .getfield 35), (231, .iconst 1), (232, .aload_n 0), (233, .iconst 0), (234, .bipush 60), (236, .invokevirtual 130), (239, .iastore), (240, .goto 30)] 243 ls st n h mc ms Q) : zGo K l d mX6_readItem 227 ls st n h mc ms Q := k (by decide +kernel)
theorem kX6_readItem_243 {K : zK} {l : Launch} {d : Nat} {ls : List (Nat × Value)} {st : List Value} {n : Nat} {h : zH} {mc ms : Nat} {Q : zQ} (k : zGb K l d mX6_readItem [(243, .aload_n 0), (244, .getfield 38), (247, .iconst 1), (248, .aload_n 0), (249, .iconst 1), (250, .iconst 4), (251, .invokevirtual 130), (254, .iastore), (255, .goto 15)] 258 ls st n h mc ms Q) : zGo K l d mX6_readItem 243 ls st n h mc ms Q := k (by decide +kernel)
theorem kX6_readItem_258 {K : zK} {l : Launch} {d : Nat} {ls : List (Nat × Value)} {st : List Value} {n : Nat} {h : zH} {mc ms : Nat} {Q : zQ} (k : zGb K l d mX6_readItem [(258, .aload_n 0), (259, .getfield 41), (262, .iconst 1), (263, .aload_n 0), (264, .iconst 0), (265, .iconst 3), (266, .invokevirtual 130), (269, .iastore)] 270 ls st n h mc ms Q) : zGo K l d mX6_readItem 258 ls st n h mc ms Q := k (by decide +kernel)
theorem kX6_readItem_270 {K : zK} {l : Launch} {d : Nat} {ls : List (Nat × Value)} {st : List Value} {n : Nat} {h : zH} {mc ms : Nat} {Q : zQ} (k : zGb K l d mX6_readItem [(270, .aload_n 0), (271, .aload_n 0), (272, .getfield 110), (275, .bipush 7), (277, .if_icmp .ne 7), (280, .iconst 1), (281, .goto 4)] 284 ls st n h mc ms Q) : zGo K l d mX6_readItem 270 ls st n h mc ms Q := k (by decide +kernel)
theorem kX6_readItem_284 {K : zK} {l : Launch} {d : Nat} {ls : List (Nat × Value)} {st : List Value} {n : Nat} {h : zH} {mc ms : Nat} {Q : zQ} (k : zGb K l d mX6_readItem [(284, .iconst 0)] 285 ls st n h mc ms Q) : zGo K l d mX6_readItem 284 ls st n h mc ms Q := k (by decide +kernel)
theorem kX6_readItem_285 {K : zK} {l : Launch} {d : Nat} {ls : List (Nat × Value)} {st : List Value} {n : Nat} {h : zH} {mc ms : Nat} {Q : zQ} (k : zGb K l d mX6_readItem [(285, .invokevirtual 123), (288, .pop), (289, .return_)] 290 ls st n h mc ms Q) : zGo K l d mX6_readItem 285 ls st n h mc ms Q := k (by decide +kernel)
theorem kX6_parish_0 {K : zK} {l : Launch} {d : Nat} {ls : List (Nat × Value)} {st : List Value} {n : Nat} {h : zH} {mc ms : Nat} {Q : zQ} (k : zGb K l d mX6_parish [(0, .aload_n 0), (1, .iconst 0), (2, .putfield 97), (5, .aload_n 0), (6, .bipush (-9)), (8, .putfield 117), (11, .aload_n 0), (12, .iconst 0), (13, .putfield 127), (16, .aload_n 0), (17, .getfield 13), (20, .iconst 1), (21, .iconst 0), (22, .iastore), (23, .aload_n 0), (24, .getfield 20), (27, .iconst 1), (28, .iconst 0), (29, .iastore), (30, .aload_n 0), (31, .getfield 35), (34, .iconst 1), (35, .iconst 0), (36, .iastore), (37, .aload_n 0), (38, .getfield 38), (41, .iconst 1), (42, .iconst 1), (43, .iastore), (44, .aload_n 0), (45, .getfield 41), (48, .iconst 1), (49, .iconst 0), (50, .iastore), (51, .iconst 0), (52, .istore_n 1), (53, .aload_n 0), (54, .invokevirtual 120)] 57 ls st n h mc ms Q) : zGo K l d mX6_parish 0 ls st n h mc ms Q := k (by decide +kernel)
theorem kX6_parish_57 {K : zK} {l : Launch} {d : Nat} {ls : List (Nat × Value)} {st : List Value} {n : Nat} {h : zH} {mc ms : Nat} {Q : zQ} (k : zGb K l d mX6_parish [(57, .aload_n 0), (58, .getfield 117), (61, .bipush (-9)), (63, .if_icmp .ne 21), (66, .aload_n 0), (67, .getfield 110), (70, .iconst 5), (71, .if_icmp .eq 13), (74, .aload_n 0), (75, .invokevirtual 134), (78, .iinc 1 1), (81, .goto (-24))] 84 ls st n h mc ms Q) : zGo K l d mX6_parish 57 ls st n h mc ms Q := k (by decide +kernel)
theorem kX6_parish_84 {K : zK} {l : Launch} {d : Nat} {ls : List (Nat × Value)} {st : List Value} {n : Nat} {h : zH} {mc ms : Nat} {Q : zQ} (k : zGb K l d mX6_parish [(84, .aload_n 0), (85, .getfield 117), (88, .bipush (-9)), (90, .if_icmp .eq 11), (93, .bipush (-10)), (95, .aload_n 0), (96, .getfield 117), (99, .isub), (100, .ireturn)] 101 ls st n h mc ms Q) : zGo K l d mX6_parish 84 ls st n h mc ms Q := k (by decide +kernel)
theorem kX6_parish_101 {K : zK} {l : Launch} {d : Nat} {ls : List (Nat × Value)} {st : List Value} {n : Nat} {h : zH} {mc ms : Nat} {Q : zQ} (k : zGb K l d mX6_parish [(101, .aload_n 0), (102, .getfield 13), (105, .iconst 0), (106, .aload_n 0), (107, .getfield 13), (110, .iconst 1), (111, .iaload), (112, .iastore), (113, .aload_n 0), (114, .getfield 20), (117, .iconst 0), (118, .aload_n 0), (119, .getfield 20), (122, .iconst 1), (123, .iaload), (124, .iastore), (125, .aload_n 0), (126, .getfield 35), (129, .iconst 0), (130, .aload_n 0), (131, .getfield 35), (134, .iconst 1), (135, .iaload), (136, .iastore), (137, .aload_n 0), (138, .getfield 38), (141, .iconst 0), (142, .aload_n 0), (143, .getfield 38), (146, .iconst 1), (147, .iaload), (148, .iastore), (149, .aload_n 0), (150, .getfield 41), (153, .iconst 0), (154, .aload_n 0), (155, .getfield 41), (158, .iconst 1), (159, .iaload), (160, .iastore), (161, .iconst 0), (162, .istore_n 2)] 163 ls st n h mc ms Q) : zGo K l d mX6_parish 101 ls st n h mc ms Q := k (by decide +kernel)
theorem kX6_parish_163 {K : zK} {l : Launch} {d : Nat} {ls : List (Nat × Value)} {st : List Value} {n : Nat} {h : zH} {mc ms : Nat} {Q : zQ} (k : zGb K l d mX6_parish [(163, .iload_n 2), (164, .iconst 4), (165, .if_icmp .ge 23), (168, .aload_n 0), (169, .getfield 17), (172, .iload_n 2), (173, .aload_n 0), (174, .getfield 17), (177, .iconst 4), (178, .iload_n 2), (179, .iadd), (180, .iaload), (181, .iastore), (182, .iinc 2 1), (185, .goto (-22))] 188 ls st n h mc ms Q) : zGo K l d mX6_parish 163 ls st n h mc ms Q := k (by decide +kernel)
theorem kX6_parish_188 {K : zK} {l : Launch} {d : Nat} {ls : List (Nat × Value)} {st : List Value} {n : Nat} {h : zH} {mc ms : Nat} {Q : zQ} (k : zGb K l d mX6_parish [(188, .iconst 0), (189, .istore_n 2)] 190 ls st n h mc ms Q) : zGo K l d mX6_parish 188 ls st n h mc ms Q := k (by decide +kernel)
theorem kX6_parish_190 {K : zK} {l : Launch} {d : Nat} {ls : List (Nat × Value)} {st : List Value} {n : Nat} {h : zH} {mc ms : Nat} {Q : zQ} (k : zGb K l d mX6_parish [(190, .iload_n 2), (191, .bipush 6), (193, .if_icmp .ge 69), (196, .aload_n 0), (197, .getfield 23), (200, .iload_n 2), (201, .aload_n 0), (202, .getfield 23), (205, .bipush 6), (207, .iload_n 2), (208, .iadd), (209, .iaload), (210, .iastore), (211, .aload_n 0), (212, .getfield 26), (215, .iload_n 2), (216, .aload_n 0), (217, .getfield 26), (220, .bipush 6), (222, .iload_n 2), (223, .iadd), (224, .iaload), (225, .iastore), (226, .aload_n 0), (227, .getfield 29), (230, .iload_n 2), (231, .aload_n 0), (232, .getfield 29), (235, .bipush 6), (237, .iload_n 2), (238, .iadd), (239, .iaload), (240, .iastore), (241, .aload_n 0), (242, .getfield 32), (245, .iload_n 2), (246, .aload_n 0), (247, .getfield 32), (250, .bipush 6), (252, .iload_n 2), (253, .iadd), (254, .iaload), (255, .iastore), (256, .iinc 2 1), (259, .goto (-69))] 262 ls st n h mc ms Q) : zGo K l d mX6_parish 190 ls st n h mc ms Q := k (by decide +kernel)
theorem kX6_parish_262 {K : zK} {l : Launch} {d : Nat} {ls : List (Nat × Value)} {st : List Value} {n : Nat} {h : zH} {mc ms : Nat} {Q : zQ} (k : zGb K l d mX6_parish [(262, .aload_n 0), (263, .invokevirtual 84), (266, .aload_n 0), (267, .iconst 0), (268, .putfield 91), (271, .iload_n 1), (272, .ireturn)] 273 ls st n h mc ms Q) : zGo K l d mX6_parish 262 ls st n h mc ms Q := k (by decide +kernel)
theorem kX6_begin_0 {K : zK} {l : Launch} {d : Nat} {ls : List (Nat × Value)} {st : List Value} {n : Nat} {h : zH} {mc ms : Nat} {Q : zQ} (k : zGb K l d mX6_begin [(0, .iconst 0), (1, .istore_n 1)] 2 ls st n h mc ms Q) : zGo K l d mX6_begin 0 ls st n h mc ms Q := k (by decide +kernel)
theorem kX6_begin_2 {K : zK} {l : Launch} {d : Nat} {ls : List (Nat × Value)} {st : List Value} {n : Nat} {h : zH} {mc ms : Nat} {Q : zQ} (k : zGb K l d mX6_begin [(2, .iload_n 1), (3, .bipush 17), (5, .if_icmp .ge 17), (8, .aload_n 0), (9, .getfield 44), (12, .iload_n 1), (13, .bipush (-9)), (15, .iastore), (16, .iinc 1 1), (19, .goto (-17))] 22 ls st n h mc ms Q) : zGo K l d mX6_begin 2 ls st n h mc ms Q := k (by decide +kernel)
theorem kX6_begin_22 {K : zK} {l : Launch} {d : Nat} {ls : List (Nat × Value)} {st : List Value} {n : Nat} {h : zH} {mc ms : Nat} {Q : zQ} (k : zGb K l d mX6_begin [(22, .aload_n 0), (23, .getfield 44), (26, .bipush 12), (28, .aload_n 0), (29, .getfield 35), (32, .iconst 0), (33, .iaload), (34, .iastore), (35, .aload_n 0), (36, .getfield 47), (39, .iconst 0), (40, .iconst 0), (41, .bastore), (42, .aload_n 0), (43, .getfield 47), (46, .iconst 1), (47, .iconst 0), (48, .bastore), (49, .return_)] 50 ls st n h mc ms Q) : zGo K l d mX6_begin 22 ls st n h mc ms Q := k (by decide +kernel)
theorem kX6_isHour_0 {K : zK} {l : Launch} {d : Nat} {ls : List (Nat × Value)} {st : List Value} {n : Nat} {h : zH} {mc ms : Nat} {Q : zQ} (k : zGb K l d mX6_isHour [(0, .iload_n 1), (1, .iconst 0), (2, .aload_n 0), (3, .getfield 13), (6, .iconst 0), (7, .iaload), (8, .iconst 1), (9, .isub), (10, .invokestatic 87), (13, .ireturn)] 14 ls st n h mc ms Q) : zGo K l d mX6_isHour 0 ls st n h mc ms Q := k (by decide +kernel)
theorem kX6_isRinger_0 {K : zK} {l : Launch} {d : Nat} {ls : List (Nat × Value)} {st : List Value} {n : Nat} {h : zH} {mc ms : Nat} {Q : zQ} (k : zGb K l d mX6_isRinger [(0, .iload_n 1), (1, .iconst 0), (2, .aload_n 0), (3, .getfield 20), (6, .iconst 0), (7, .iaload), (8, .iconst 1), (9, .isub), (10, .invokestatic 87), (13, .ireturn)] 14 ls st n h mc ms Q) : zGo K l d mX6_isRinger 0 ls st n h mc ms Q := k (by decide +kernel)
theorem kX6_isWanted_0 {K : zK} {l : Launch} {d : Nat} {ls : List (Nat × Value)} {st : List Value} {n : Nat} {h : zH} {mc ms : Nat} {Q : zQ} (k : zGb K l d mX6_isWanted [(0, .aload_n 0), (1, .iload_n 1), (2, .invokevirtual 137), (5, .ifCond .eq 23), (8, .iload_n 2), (9, .iconst 0), (10, .aload_n 0), (11, .getfield 17), (14, .iload_n 1), (15, .iaload), (16, .iconst 1), (17, .isub), (18, .invokestatic 87), (21, .ifCond .eq 7), (24, .iconst 1), (25, .goto 4)] 28 ls st n h mc ms Q) : zGo K l d mX6_isWanted 0 ls st n h mc ms Q := k (by decide +kernel)
theorem kX6_isWanted_28 {K : zK} {l : Launch} {d : Nat} {ls : List (Nat × Value)} {st : List Value} {n : Nat} {h : zH} {mc ms : Nat} {Q : zQ} (k : zGb K l d mX6_isWanted [(28, .iconst 0)] 29 ls st n h mc ms Q) : zGo K l d mX6_isWanted 28 ls st n h mc ms Q := k (by decide +kernel)
theorem kX6_isWanted_29 {K : zK} {l : Launch} {d : Nat} {ls : List (Nat × Value)} {st : List Value} {n : Nat} {h : zH} {mc ms : Nat} {Q : zQ} (k : zGb K l d mX6_isWanted [(29, .ireturn)] 30 ls st n h mc ms Q) : zGo K l d mX6_isWanted 29 ls st n h mc ms Q := k (by decide +kernel)
theorem kX6_bellOf_0 {K : zK} {l : Launch} {d : Nat} {ls : List (Nat × Value)} {st : List Value} {n : Nat} {h : zH} {mc ms : Nat} {Q : zQ} (k : zGb K l d mX6_bellOf [(0, .bipush (-9)), (2, .istore_n 3), (3, .iconst 0), (4, .istore 4)] 6 ls st n h mc ms Q) : zGo K l d mX6_bellOf 0 ls st n h mc ms Q := k (by decide +kernel)
theorem kX6_bellOf_6 {K : zK} {l : Launch} {d : Nat} {ls : List (Nat × Value)} {st : List Value} {n : Nat} {h : zH} {mc ms : Nat} {Q : zQ} (k : zGb K l d mX6_bellOf [(6, .iload 4), (8, .iconst 3), (9, .if_icmp .ge 31), (12, .aload_n 0), (13, .getfield 44), (16, .iconst 3), (17, .iload_n 2), (18, .imul), (19, .iload 4), (21, .iadd), (22, .iaload), (23, .iload_n 1), (24, .if_icmp .ne 8), (27, .iload 4), (29, .goto 4)] 32 ls st n h mc ms Q) : zGo K l d mX6_bellOf 6 ls st n h mc ms Q := k (by decide +kernel)
theorem kX6_bellOf_32 {K : zK} {l : Launch} {d : Nat} {ls : List (Nat × Value)} {st : List Value} {n : Nat} {h : zH} {mc ms : Nat} {Q : zQ} (k : zGb K l d mX6_bellOf [(32, .iload_n 3)] 33 ls st n h mc ms Q) : zGo K l d mX6_bellOf 32 ls st n h mc ms Q := k (by decide +kernel)
theorem kX6_bellOf_33 {K : zK} {l : Launch} {d : Nat} {ls : List (Nat × Value)} {st : List Value} {n : Nat} {h : zH} {mc ms : Nat} {Q : zQ} (k : zGb K l d mX6_bellOf [(33, .istore_n 3), (34, .iinc 4 1), (37, .goto (-31))] 40 ls st n h mc ms Q) : zGo K l d mX6_bellOf 33 ls st n h mc ms Q := k (by decide +kernel)
theorem kX6_bellOf_40 {K : zK} {l : Launch} {d : Nat} {ls : List (Nat × Value)} {st : List Value} {n : Nat} {h : zH} {mc ms : Nat} {Q : zQ} (k : zGb K l d mX6_bellOf [(40, .iload_n 3), (41, .ireturn)] 42 ls st n h mc ms Q) : zGo K l d mX6_bellOf 40 ls st n h mc ms Q := k (by decide +kernel)
theorem kX6_timesOf_0 {K : zK} {l : Launch} {d : Nat} {ls : List (Nat × Value)} {st : List Value} {n : Nat} {h : zH} {mc ms : Nat} {Q : zQ} (k : zGb K l d mX6_timesOf [(0, .iconst 0), (1, .istore_n 2), (2, .iconst 0), (3, .istore_n 3)] 4 ls st n h mc ms Q) : zGo K l d mX6_timesOf 0 ls st n h mc ms Q := k (by decide +kernel)
theorem kX6_timesOf_4 {K : zK} {l : Launch} {d : Nat} {ls : List (Nat × Value)} {st : List Value} {n : Nat} {h : zH} {mc ms : Nat} {Q : zQ} (k : zGb K l d mX6_timesOf [(4, .iload_n 3), (5, .iconst 4), (6, .if_icmp .ge 28), (9, .iload_n 2), (10, .aload_n 0), (11, .iload_n 1), (12, .iload_n 3), (13, .invokevirtual 141), (16, .bipush (-9)), (18, .if_icmp .ne 7), (21, .iconst 0), (22, .goto 4)] 25 ls st n h mc ms Q) : zGo K l d mX6_timesOf 4 ls st n h mc ms Q := k (by decide +kernel)
theorem kX6_timesOf_25 {K : zK} {l : Launch} {d : Nat} {ls : List (Nat × Value)} {st : List Value} {n : Nat} {h : zH} {mc ms : Nat} {Q : zQ} (k : zGb K l d mX6_timesOf [(25, .iconst 1)] 26 ls st n h mc ms Q) : zGo K l d mX6_timesOf 25 ls st n h mc ms Q := k (by decide +kernel)
theorem kX6_timesOf_26 {K : zK} {l : Launch} {d : Nat} {ls : List (Nat × Value)} {st : List Value} {n : Nat} {h : zH} {mc ms : Nat} {Q : zQ} (k : zGb K l d mX6_timesOf [(26, .iadd), (27, .istore_n 2), (28, .iinc 3 1), (31, .goto (-27))] 34 ls st n h mc ms Q) : zGo K l d mX6_timesOf 26 ls st n h mc ms Q := k (by decide +kernel)
theorem kX6_timesOf_34 {K : zK} {l : Launch} {d : Nat} {ls : List (Nat × Value)} {st : List Value} {n : Nat} {h : zH} {mc ms : Nat} {Q : zQ} (k : zGb K l d mX6_timesOf [(34, .iload_n 2), (35, .ireturn)] 36 ls st n h mc ms Q) : zGo K l d mX6_timesOf 34 ls st n h mc ms Q := k (by decide +kernel)
theorem kX6_inRota_0 {K : zK} {l : Launch} {d : Nat} {ls : List (Nat × Value)} {st : List Value} {n : Nat} {h : zH} {mc ms : Nat} {Q : zQ} (k : zGb K l d mX6_inRota [(0, .iconst 0), (1, .istore_n 2), (2, .iconst 0), (3, .istore_n 3)] 4 ls st n h mc ms Q) : zGo K l d mX6_inRota 0 ls st n h mc ms Q := k (by decide +kernel)
theorem kX6_inRota_4 {K : zK} {l : Launch} {d : Nat} {ls : List (Nat × Value)} {st : List Value} {n : Nat} {h : zH} {mc ms : Nat} {Q : zQ} (k : zGb K l d mX6_inRota [(4, .iload_n 3), (5, .iconst 3), (6, .if_icmp .ge 32), (9, .iload_n 2), (10, .aload_n 0), (11, .getfield 44), (14, .iconst 3), (15, .iload_n 1), (16, .imul), (17, .iload_n 3), (18, .iadd), (19, .iaload), (20, .bipush (-9)), (22, .if_icmp .ne 7), (25, .iconst 0), (26, .goto 4)] 29 ls st n h mc ms Q) : zGo K l d mX6_inRota 4 ls st n h mc ms Q := k (by decide +kernel)
theorem kX6_inRota_29 {K : zK} {l : Launch} {d : Nat} {ls : List (Nat × Value)} {st : List Value} {n : Nat} {h : zH} {mc ms : Nat} {Q : zQ} (k : zGb K l d mX6_inRota [(29, .iconst 1)] 30 ls st n h mc ms Q) : zGo K l d mX6_inRota 29 ls st n h mc ms Q := k (by decide +kernel)
theorem kX6_inRota_30 {K : zK} {l : Launch} {d : Nat} {ls : List (Nat × Value)} {st : List Value} {n : Nat} {h : zH} {mc ms : Nat} {Q : zQ} (k : zGb K l d mX6_inRota [(30, .iadd), (31, .istore_n 2), (32, .iinc 3 1), (35, .goto (-31))] 38 ls st n h mc ms Q) : zGo K l d mX6_inRota 30 ls st n h mc ms Q := k (by decide +kernel)
theorem kX6_inRota_38 {K : zK} {l : Launch} {d : Nat} {ls : List (Nat × Value)} {st : List Value} {n : Nat} {h : zH} {mc ms : Nat} {Q : zQ} (k : zGb K l d mX6_inRota [(38, .iload_n 2), (39, .ireturn)] 40 ls st n h mc ms Q) : zGo K l d mX6_inRota 38 ls st n h mc ms Q := k (by decide +kernel)
theorem kX6_allInRota_0 {K : zK} {l : Launch} {d : Nat} {ls : List (Nat × Value)} {st : List Value} {n : Nat} {h : zH} {mc ms : Nat} {Q : zQ} (k : zGb K l d mX6_allInRota [(0, .aload_n 0), (1, .iconst 0), (2, .invokevirtual 144), (5, .aload_n 0), (6, .iconst 1), (7, .invokevirtual 144), (10, .iadd), (11, .aload_n 0), (12, .iconst 2), (13, .invokevirtual 144), (16, .iadd), (17, .aload_n 0), (18, .iconst 3), (19, .invokevirtual 144), (22, .iadd), (23, .ireturn)] 24 ls st n h mc ms Q) : zGo K l d mX6_allInRota 0 ls st n h mc ms Q := k (by decide +kernel)
theorem kX6_wayOf_0 {K : zK} {l : Launch} {d : Nat} {ls : List (Nat × Value)} {st : List Value} {n : Nat} {h : zH} {mc ms : Nat} {Q : zQ} (k : zGb K l d mX6_wayOf [(0, .aload_n 0), (1, .getfield 23), (4, .iload_n 1), (5, .iaload), (6, .iload_n 2), (7, .if_icmp .ge 14), (10, .iload_n 2), (11, .aload_n 0), (12, .getfield 23), (15, .iload_n 1), (16, .iaload), (17, .isub), (18, .goto 11)] 21 ls st n h mc ms Q) : zGo K l d mX6_wayOf 0 ls st n h mc ms Q := k (by decide +kernel)
theorem kX6_wayOf_21 {K : zK} {l : Launch} {d : Nat} {ls : List (Nat × Value)} {st : List Value} {n : Nat} {h : zH} {mc ms : Nat} {Q : zQ} (k : zGb K l d mX6_wayOf [(21, .aload_n 0), (22, .getfield 23), (25, .iload_n 1), (26, .iaload), (27, .iload_n 2), (28, .isub)] 29 ls st n h mc ms Q) : zGo K l d mX6_wayOf 21 ls st n h mc ms Q := k (by decide +kernel)
theorem kX6_wayOf_29 {K : zK} {l : Launch} {d : Nat} {ls : List (Nat × Value)} {st : List Value} {n : Nat} {h : zH} {mc ms : Nat} {Q : zQ} (k : zGb K l d mX6_wayOf [(29, .ireturn)] 30 ls st n h mc ms Q) : zGo K l d mX6_wayOf 29 ls st n h mc ms Q := k (by decide +kernel)
theorem kX6_walkTo_0 {K : zK} {l : Launch} {d : Nat} {ls : List (Nat × Value)} {st : List Value} {n : Nat} {h : zH} {mc ms : Nat} {Q : zQ} (k : zGb K l d mX6_walkTo [(0, .iconst 0), (1, .istore_n 2), (2, .iconst 0), (3, .istore_n 3)] 4 ls st n h mc ms Q) : zGo K l d mX6_walkTo 0 ls st n h mc ms Q := k (by decide +kernel)
theorem kX6_walkTo_4 {K : zK} {l : Launch} {d : Nat} {ls : List (Nat × Value)} {st : List Value} {n : Nat} {h : zH} {mc ms : Nat} {Q : zQ} (k : zGb K l d mX6_walkTo [(4, .iload_n 3), (5, .aload_n 0), (6, .getfield 20), (9, .iconst 0), (10, .iaload), (11, .if_icmp .ge 26), (14, .iload_n 2), (15, .iconst 2), (16, .aload_n 0), (17, .iload_n 3), (18, .invokevirtual 147), (21, .imul), (22, .aload_n 0), (23, .iload_n 3), (24, .iload_n 1), (25, .invokevirtual 150), (28, .imul), (29, .iadd), (30, .istore_n 2), (31, .iinc 3 1), (34, .goto (-30))] 37 ls st n h mc ms Q) : zGo K l d mX6_walkTo 4 ls st n h mc ms Q := k (by decide +kernel)
theorem kX6_walkTo_37 {K : zK} {l : Launch} {d : Nat} {ls : List (Nat × Value)} {st : List Value} {n : Nat} {h : zH} {mc ms : Nat} {Q : zQ} (k : zGb K l d mX6_walkTo [(37, .iload_n 2), (38, .ireturn)] 39 ls st n h mc ms Q) : zGo K l d mX6_walkTo 37 ls st n h mc ms Q := k (by decide +kernel)
theorem kX6_ringer_0 {K : zK} {l : Launch} {d : Nat} {ls : List (Nat × Value)} {st : List Value} {n : Nat} {h : zH} {mc ms : Nat} {Q : zQ} (k : zGb K l d mX6_ringer [(0, .aload_n 0), (1, .iload_n 1), (2, .invokevirtual 153), (5, .ifCond .ne 5), (8, .iconst (-1)), (9, .ireturn)] 10 ls st n h mc ms Q) : zGo K l d mX6_ringer 0 ls st n h mc ms Q := k (by decide +kernel)
theorem kX6_ringer_10 {K : zK} {l : Launch} {d : Nat} {ls : List (Nat × Value)} {st : List Value} {n : Nat} {h : zH} {mc ms : Nat} {Q : zQ} (k : zGb K l d mX6_ringer [(10, .iload_n 2), (11, .tableswitch 67 0 4 #[33, 40, 47, 54, 61])] 44 ls st n h mc ms Q) : zGo K l d mX6_ringer 10 ls st n h mc ms Q := k (by decide +kernel)
theorem kX6_ringer_44 {K : zK} {l : Launch} {d : Nat} {ls : List (Nat × Value)} {st : List Value} {n : Nat} {h : zH} {mc ms : Nat} {Q : zQ} (k : zGb K l d mX6_ringer [(44, .aload_n 0), (45, .getfield 23), (48, .iload_n 1), (49, .iaload), (50, .ireturn)] 51 ls st n h mc ms Q) : zGo K l d mX6_ringer 44 ls st n h mc ms Q := k (by decide +kernel)
theorem kX6_ringer_51 {K : zK} {l : Launch} {d : Nat} {ls : List (Nat × Value)} {st : List Value} {n : Nat} {h : zH} {mc ms : Nat} {Q : zQ} (k : zGb K l d mX6_ringer [(51, .aload_n 0), (52, .getfield 26), (55, .iload_n 1), (56, .iaload), (57, .ireturn)] 58 ls st n h mc ms Q) : zGo K l d mX6_ringer 51 ls st n h mc ms Q := k (by decide +kernel)
theorem kX6_ringer_58 {K : zK} {l : Launch} {d : Nat} {ls : List (Nat × Value)} {st : List Value} {n : Nat} {h : zH} {mc ms : Nat} {Q : zQ} (k : zGb K l d mX6_ringer [(58, .aload_n 0), (59, .getfield 29), (62, .iload_n 1), (63, .iaload), (64, .ireturn)] 65 ls st n h mc ms Q) : zGo K l d mX6_ringer 58 ls st n h mc ms Q := k (by decide +kernel)
theorem kX6_ringer_65 {K : zK} {l : Launch} {d : Nat} {ls : List (Nat × Value)} {st : List Value} {n : Nat} {h : zH} {mc ms : Nat} {Q : zQ} (k : zGb K l d mX6_ringer [(65, .aload_n 0), (66, .getfield 32), (69, .iload_n 1), (70, .iaload), (71, .ireturn)] 72 ls st n h mc ms Q) : zGo K l d mX6_ringer 65 ls st n h mc ms Q := k (by decide +kernel)
theorem kX6_ringer_72 {K : zK} {l : Launch} {d : Nat} {ls : List (Nat × Value)} {st : List Value} {n : Nat} {h : zH} {mc ms : Nat} {Q : zQ} (k : zGb K l d mX6_ringer [(72, .aload_n 0), (73, .iload_n 1), (74, .invokevirtual 147), (77, .ireturn)] 78 ls st n h mc ms Q) : zGo K l d mX6_ringer 72 ls st n h mc ms Q := k (by decide +kernel)
theorem kX6_ringer_78 {K : zK} {l : Launch} {d : Nat} {ls : List (Nat × Value)} {st : List Value} {n : Nat} {h : zH} {mc ms : Nat} {Q : zQ} (k : zGb K l d mX6_ringer [(78, .iconst (-1)), (79, .ireturn)] 80 ls st n h mc ms Q) : zGo K l d mX6_ringer 78 ls st n h mc ms Q := k (by decide +kernel)
theorem kX6_hour_0 {K : zK} {l : Launch} {d : Nat} {ls : List (Nat × Value)} {st : List Value} {n : Nat} {h : zH} {mc ms : Nat} {Q : zQ} (k : zGb K l d mX6_hour [(0, .aload_n 0), (1, .iload_n 1), (2, .invokevirtual 137), (5, .ifCond .eq 12), (8, .iload_n 2), (9, .iconst 0), (10, .iconst 2), (11, .invokestatic 87), (14, .ifCond .ne 5)] 17 ls st n h mc ms Q) : zGo K l d mX6_hour 0 ls st n h mc ms Q := k (by decide +kernel)
theorem kX6_hour_17 {K : zK} {l : Launch} {d : Nat} {ls : List (Nat × Value)} {st : List Value} {n : Nat} {h : zH} {mc ms : Nat} {Q : zQ} (k : zGb K l d mX6_hour [(17, .iconst (-1)), (18, .ireturn)] 19 ls st n h mc ms Q) : zGo K l d mX6_hour 17 ls st n h mc ms Q := k (by decide +kernel)
theorem kX6_hour_19 {K : zK} {l : Launch} {d : Nat} {ls : List (Nat × Value)} {st : List Value} {n : Nat} {h : zH} {mc ms : Nat} {Q : zQ} (k : zGb K l d mX6_hour [(19, .iload_n 2), (20, .ifCond .ne 12), (23, .aload_n 0), (24, .getfield 17), (27, .iload_n 1), (28, .iaload), (29, .goto 32)] 32 ls st n h mc ms Q) : zGo K l d mX6_hour 19 ls st n h mc ms Q := k (by decide +kernel)
theorem kX6_hour_32 {K : zK} {l : Launch} {d : Nat} {ls : List (Nat × Value)} {st : List Value} {n : Nat} {h : zH} {mc ms : Nat} {Q : zQ} (k : zGb K l d mX6_hour [(32, .iload_n 2), (33, .iconst 1), (34, .if_icmp .ne 18), (37, .aload_n 0), (38, .getfield 17), (41, .iload_n 1), (42, .iaload), (43, .aload_n 0), (44, .iload_n 1), (45, .invokevirtual 144), (48, .isub), (49, .goto 12)] 52 ls st n h mc ms Q) : zGo K l d mX6_hour 32 ls st n h mc ms Q := k (by decide +kernel)
theorem kX6_hour_52 {K : zK} {l : Launch} {d : Nat} {ls : List (Nat × Value)} {st : List Value} {n : Nat} {h : zH} {mc ms : Nat} {Q : zQ} (k : zGb K l d mX6_hour [(52, .aload_n 0), (53, .getfield 44), (56, .bipush 13), (58, .iload_n 1), (59, .iadd), (60, .iaload)] 61 ls st n h mc ms Q) : zGo K l d mX6_hour 52 ls st n h mc ms Q := k (by decide +kernel)
theorem kX6_hour_61 {K : zK} {l : Launch} {d : Nat} {ls : List (Nat × Value)} {st : List Value} {n : Nat} {h : zH} {mc ms : Nat} {Q : zQ} (k : zGb K l d mX6_hour [(61, .ireturn)] 62 ls st n h mc ms Q) : zGo K l d mX6_hour 61 ls st n h mc ms Q := k (by decide +kernel)
theorem kX6_isBusy_0 {K : zK} {l : Launch} {d : Nat} {ls : List (Nat × Value)} {st : List Value} {n : Nat} {h : zH} {mc ms : Nat} {Q : zQ} (k : zGb K l d mX6_isBusy [(0, .aload_n 0), (1, .getfield 29), (4, .iload_n 1), (5, .iaload), (6, .iload_n 2), (7, .ishr), (8, .iconst 1), (9, .iand), (10, .iconst 1), (11, .if_icmp .ne 7), (14, .iconst 1), (15, .goto 4)] 18 ls st n h mc ms Q) : zGo K l d mX6_isBusy 0 ls st n h mc ms Q := k (by decide +kernel)
theorem kX6_isBusy_18 {K : zK} {l : Launch} {d : Nat} {ls : List (Nat × Value)} {st : List Value} {n : Nat} {h : zH} {mc ms : Nat} {Q : zQ} (k : zGb K l d mX6_isBusy [(18, .iconst 0)] 19 ls st n h mc ms Q) : zGo K l d mX6_isBusy 18 ls st n h mc ms Q := k (by decide +kernel)
theorem kX6_isBusy_19 {K : zK} {l : Launch} {d : Nat} {ls : List (Nat × Value)} {st : List Value} {n : Nat} {h : zH} {mc ms : Nat} {Q : zQ} (k : zGb K l d mX6_isBusy [(19, .ireturn)] 20 ls st n h mc ms Q) : zGo K l d mX6_isBusy 19 ls st n h mc ms Q := k (by decide +kernel)
theorem kX6_isLawful_0 {K : zK} {l : Launch} {d : Nat} {ls : List (Nat × Value)} {st : List Value} {n : Nat} {h : zH} {mc ms : Nat} {Q : zQ} (k : zGb K l d mX6_isLawful [(0, .iconst 0), (1, .istore_n 2), (2, .bipush (-9)), (4, .istore_n 3), (5, .iconst 1), (6, .istore 4), (8, .iconst 0), (9, .istore 5)] 11 ls st n h mc ms Q) : zGo K l d mX6_isLawful 0 ls st n h mc ms Q := k (by decide +kernel)
theorem kX6_isLawful_11 {K : zK} {l : Launch} {d : Nat} {ls : List (Nat × Value)} {st : List Value} {n : Nat} {h : zH} {mc ms : Nat} {Q : zQ} (k : zGb K l d mX6_isLawful [(11, .iload 5), (13, .iconst 4), (14, .if_icmp .ge 131), (17, .iconst 0), (18, .istore 6), (20, .iconst 0), (21, .istore 7)] 23 ls st n h mc ms Q) : zGo K l d mX6_isLawful 11 ls st n h mc ms Q := k (by decide +kernel)
theorem kX6_isLawful_23 {K : zK} {l : Launch} {d : Nat} {ls : List (Nat × Value)} {st : List Value} {n : Nat} {h : zH} {mc ms : Nat} {Q : zQ} (k : zGb K l d mX6_isLawful [(23, .iload 7), (25, .iconst 3), (26, .if_icmp .ge 55), (29, .aload_n 0), (30, .getfield 44), (33, .iconst 3), (34, .iload 5), (36, .imul), (37, .iload 7), (39, .iadd), (40, .iaload), (41, .iload_n 1), (42, .if_icmp .ne 33), (45, .iinc 6 1), (48, .iload 4), (50, .ifCond .eq 22), (53, .aload_n 0), (54, .getfield 26), (57, .iload_n 1), (58, .iaload), (59, .iload 7), (61, .ishr), (62, .iconst 1), (63, .iand), (64, .iconst 1), (65, .if_icmp .ne 7), (68, .iconst 1), (69, .goto 4)] 72 ls st n h mc ms Q) : zGo K l d mX6_isLawful 23 ls st n h mc ms Q := k (by decide +kernel)
theorem kX6_isLawful_72 {K : zK} {l : Launch} {d : Nat} {ls : List (Nat × Value)} {st : List Value} {n : Nat} {h : zH} {mc ms : Nat} {Q : zQ} (k : zGb K l d mX6_isLawful [(72, .iconst 0)] 73 ls st n h mc ms Q) : zGo K l d mX6_isLawful 72 ls st n h mc ms Q := k (by decide +kernel)
theorem kX6_isLawful_73 {K : zK} {l : Launch} {d : Nat} {ls : List (Nat × Value)} {st : List Value} {n : Nat} {h : zH} {mc ms : Nat} {Q : zQ} (k : zGb K l d mX6_isLawful [(73, .istore 4)] 75 ls st n h mc ms Q) : zGo K l d mX6_isLawful 73 ls st n h mc ms Q := k (by decide +kernel)
theorem kX6_isLawful_75 {K : zK} {l : Launch} {d : Nat} {ls : List (Nat × Value)} {st : List Value} {n : Nat} {h : zH} {mc ms : Nat} {Q : zQ} (k : zGb K l d mX6_isLawful [(75, .iinc 7 1), (78, .goto (-55))] 81 ls st n h mc ms Q) : zGo K l d mX6_isLawful 75 ls st n h mc ms Q := k (by decide +kernel)
theorem kX6_isLawful_81 {K : zK} {l : Launch} {d : Nat} {ls : List (Nat × Value)} {st : List Value} {n : Nat} {h : zH} {mc ms : Nat} {Q : zQ} (k : zGb K l d mX6_isLawful [(81, .iload 6), (83, .ifCond .le 56), (86, .iload 4), (88, .ifCond .eq 42), (91, .iload 6), (93, .iconst 1), (94, .if_icmp .ne 36), (97, .aload_n 0), (98, .iload_n 1), (99, .iload 5), (101, .invokevirtual 156), (104, .ifCond .ne 26), (107, .iload_n 3), (108, .bipush (-9)), (110, .if_icmp .eq 16), (113, .iload 5), (115, .iload_n 3), (116, .isub), (117, .aload_n 0), (118, .getfield 41), (121, .iconst 0), (122, .iaload), (123, .if_icmp .le 7)] 126 ls st n h mc ms Q) : zGo K l d mX6_isLawful 81 ls st n h mc ms Q := k (by decide +kernel)
theorem kX6_isLawful_126 {K : zK} {l : Launch} {d : Nat} {ls : List (Nat × Value)} {st : List Value} {n : Nat} {h : zH} {mc ms : Nat} {Q : zQ} (k : zGb K l d mX6_isLawful [(126, .iconst 1), (127, .goto 4)] 130 ls st n h mc ms Q) : zGo K l d mX6_isLawful 126 ls st n h mc ms Q := k (by decide +kernel)
theorem kX6_isLawful_130 {K : zK} {l : Launch} {d : Nat} {ls : List (Nat × Value)} {st : List Value} {n : Nat} {h : zH} {mc ms : Nat} {Q : zQ} (k : zGb K l d mX6_isLawful [(130, .iconst 0)] 131 ls st n h mc ms Q) : zGo K l d mX6_isLawful 130 ls st n h mc ms Q := k (by decide +kernel)
theorem kX6_isLawful_131 {K : zK} {l : Launch} {d : Nat} {ls : List (Nat × Value)} {st : List Value} {n : Nat} {h : zH} {mc ms : Nat} {Q : zQ} (k : zGb K l d mX6_isLawful [(131, .istore 4), (133, .iload 5), (135, .istore_n 3), (136, .iinc 2 1)] 139 ls st n h mc ms Q) : zGo K l d mX6_isLawful 131 ls st n h mc ms Q := k (by decide +kernel)
theorem kX6_isLawful_139 {K : zK} {l : Launch} {d : Nat} {ls : List (Nat × Value)} {st : List Value} {n : Nat} {h : zH} {mc ms : Nat} {Q : zQ} (k : zGb K l d mX6_isLawful [(139, .iinc 5 1), (142, .goto (-131))] 145 ls st n h mc ms Q) : zGo K l d mX6_isLawful 139 ls st n h mc ms Q := k (by decide +kernel)
theorem kX6_isLawful_145 {K : zK} {l : Launch} {d : Nat} {ls : List (Nat × Value)} {st : List Value} {n : Nat} {h : zH} {mc ms : Nat} {Q : zQ} (k : zGb K l d mX6_isLawful [(145, .iload 4), (147, .ifCond .eq 17), (150, .iload_n 2), (151, .aload_n 0), (152, .getfield 38), (155, .iconst 0), (156, .iaload), (157, .if_icmp .gt 7), (160, .iconst 1), (161, .goto 4)] 164 ls st n h mc ms Q) : zGo K l d mX6_isLawful 145 ls st n h mc ms Q := k (by decide +kernel)
theorem kX6_isLawful_164 {K : zK} {l : Launch} {d : Nat} {ls : List (Nat × Value)} {st : List Value} {n : Nat} {h : zH} {mc ms : Nat} {Q : zQ} (k : zGb K l d mX6_isLawful [(164, .iconst 0)] 165 ls st n h mc ms Q) : zGo K l d mX6_isLawful 164 ls st n h mc ms Q := k (by decide +kernel)
theorem kX6_isLawful_165 {K : zK} {l : Launch} {d : Nat} {ls : List (Nat × Value)} {st : List Value} {n : Nat} {h : zH} {mc ms : Nat} {Q : zQ} (k : zGb K l d mX6_isLawful [(165, .ireturn)] 166 ls st n h mc ms Q) : zGo K l d mX6_isLawful 165 ls st n h mc ms Q := k (by decide +kernel)
theorem kX6_put_0 {K : zK} {l : Launch} {d : Nat} {ls : List (Nat × Value)} {st : List Value} {n : Nat} {h : zH} {mc ms : Nat} {Q : zQ} (k : zGb K l d mX6_put [(0, .aload_n 0), (1, .iload_n 1), (2, .invokevirtual 153), (5, .ifCond .eq 12), (8, .aload_n 0), (9, .iload_n 2), (10, .iload_n 3), (11, .invokevirtual 160), (14, .ifCond .ne 5)] 17 ls st n h mc ms Q) : zGo K l d mX6_put 0 ls st n h mc ms Q := k (by decide +kernel)
theorem kX6_put_17 {K : zK} {l : Launch} {d : Nat} {ls : List (Nat × Value)} {st : List Value} {n : Nat} {h : zH} {mc ms : Nat} {Q : zQ} (k : zGb K l d mX6_put [(17, .iconst (-1)), (18, .ireturn)] 19 ls st n h mc ms Q) : zGo K l d mX6_put 17 ls st n h mc ms Q := k (by decide +kernel)
theorem kX6_put_19 {K : zK} {l : Launch} {d : Nat} {ls : List (Nat × Value)} {st : List Value} {n : Nat} {h : zH} {mc ms : Nat} {Q : zQ} (k : zGb K l d mX6_put [(19, .aload_n 0), (20, .getfield 44), (23, .iconst 3), (24, .iload_n 2), (25, .imul), (26, .iload_n 3), (27, .iadd), (28, .iaload), (29, .bipush (-9)), (31, .if_icmp .eq 6), (34, .bipush (-2)), (36, .ireturn)] 37 ls st n h mc ms Q) : zGo K l d mX6_put 19 ls st n h mc ms Q := k (by decide +kernel)
theorem kX6_put_37 {K : zK} {l : Launch} {d : Nat} {ls : List (Nat × Value)} {st : List Value} {n : Nat} {h : zH} {mc ms : Nat} {Q : zQ} (k : zGb K l d mX6_put [(37, .aload_n 0), (38, .getfield 44), (41, .iconst 3), (42, .iload_n 2), (43, .imul), (44, .iload_n 3), (45, .iadd), (46, .iload_n 1), (47, .iastore), (48, .aload_n 0), (49, .iload_n 1), (50, .invokevirtual 163), (53, .ifCond .ne 18), (56, .aload_n 0), (57, .getfield 44), (60, .iconst 3), (61, .iload_n 2), (62, .imul), (63, .iload_n 3), (64, .iadd), (65, .bipush (-9)), (67, .iastore), (68, .bipush (-2)), (70, .ireturn)] 71 ls st n h mc ms Q) : zGo K l d mX6_put 37 ls st n h mc ms Q := k (by decide +kernel)
theorem kX6_put_71 {K : zK} {l : Launch} {d : Nat} {ls : List (Nat × Value)} {st : List Value} {n : Nat} {h : zH} {mc ms : Nat} {Q : zQ} (k : zGb K l d mX6_put [(71, .aload_n 0), (72, .invokevirtual 166), (75, .ireturn)] 76 ls st n h mc ms Q) : zGo K l d mX6_put 71 ls st n h mc ms Q := k (by decide +kernel)
theorem kX6_rings_0 {K : zK} {l : Launch} {d : Nat} {ls : List (Nat × Value)} {st : List Value} {n : Nat} {h : zH} {mc ms : Nat} {Q : zQ} (k : zGb K l d mX6_rings [(0, .aload_n 0), (1, .iload_n 1), (2, .iload_n 2), (3, .invokevirtual 160), (6, .ifCond .eq 16), (9, .aload_n 0), (10, .getfield 44), (13, .iconst 3), (14, .iload_n 1), (15, .imul), (16, .iload_n 2), (17, .iadd), (18, .iaload), (19, .goto 4)] 22 ls st n h mc ms Q) : zGo K l d mX6_rings 0 ls st n h mc ms Q := k (by decide +kernel)
theorem kX6_rings_22 {K : zK} {l : Launch} {d : Nat} {ls : List (Nat × Value)} {st : List Value} {n : Nat} {h : zH} {mc ms : Nat} {Q : zQ} (k : zGb K l d mX6_rings [(22, .iconst (-1))] 23 ls st n h mc ms Q) : zGo K l d mX6_rings 22 ls st n h mc ms Q := k (by decide +kernel)
theorem kX6_rings_23 {K : zK} {l : Launch} {d : Nat} {ls : List (Nat × Value)} {st : List Value} {n : Nat} {h : zH} {mc ms : Nat} {Q : zQ} (k : zGb K l d mX6_rings [(23, .ireturn)] 24 ls st n h mc ms Q) : zGo K l d mX6_rings 23 ls st n h mc ms Q := k (by decide +kernel)
theorem kX6_take_0 {K : zK} {l : Launch} {d : Nat} {ls : List (Nat × Value)} {st : List Value} {n : Nat} {h : zH} {mc ms : Nat} {Q : zQ} (k : zGb K l d mX6_take [(0, .aload_n 0), (1, .iload_n 1), (2, .invokevirtual 153), (5, .ifCond .eq 11), (8, .aload_n 0), (9, .iload_n 2), (10, .invokevirtual 137), (13, .ifCond .ne 5)] 16 ls st n h mc ms Q) : zGo K l d mX6_take 0 ls st n h mc ms Q := k (by decide +kernel)
theorem kX6_take_16 {K : zK} {l : Launch} {d : Nat} {ls : List (Nat × Value)} {st : List Value} {n : Nat} {h : zH} {mc ms : Nat} {Q : zQ} (k : zGb K l d mX6_take [(16, .iconst (-1)), (17, .ireturn)] 18 ls st n h mc ms Q) : zGo K l d mX6_take 16 ls st n h mc ms Q := k (by decide +kernel)
theorem kX6_take_18 {K : zK} {l : Launch} {d : Nat} {ls : List (Nat × Value)} {st : List Value} {n : Nat} {h : zH} {mc ms : Nat} {Q : zQ} (k : zGb K l d mX6_take [(18, .aload_n 0), (19, .iload_n 1), (20, .iload_n 2), (21, .invokevirtual 141), (24, .istore_n 3), (25, .iload_n 3), (26, .bipush (-9)), (28, .if_icmp .ne 6), (31, .bipush (-2)), (33, .ireturn)] 34 ls st n h mc ms Q) : zGo K l d mX6_take 18 ls st n h mc ms Q := k (by decide +kernel)
theorem kX6_take_34 {K : zK} {l : Launch} {d : Nat} {ls : List (Nat × Value)} {st : List Value} {n : Nat} {h : zH} {mc ms : Nat} {Q : zQ} (k : zGb K l d mX6_take [(34, .aload_n 0), (35, .getfield 44), (38, .iconst 3), (39, .iload_n 2), (40, .imul), (41, .iload_n 3), (42, .iadd), (43, .bipush (-9)), (45, .iastore), (46, .iload_n 3), (47, .ireturn)] 48 ls st n h mc ms Q) : zGo K l d mX6_take 34 ls st n h mc ms Q := k (by decide +kernel)
theorem kX6_change_0 {K : zK} {l : Launch} {d : Nat} {ls : List (Nat × Value)} {st : List Value} {n : Nat} {h : zH} {mc ms : Nat} {Q : zQ} (k : zGb K l d mX6_change [(0, .iconst 0), (1, .istore_n 3)] 2 ls st n h mc ms Q) : zGo K l d mX6_change 0 ls st n h mc ms Q := k (by decide +kernel)
theorem kX6_change_2 {K : zK} {l : Launch} {d : Nat} {ls : List (Nat × Value)} {st : List Value} {n : Nat} {h : zH} {mc ms : Nat} {Q : zQ} (k : zGb K l d mX6_change [(2, .iload_n 3), (3, .bipush 12), (5, .if_icmp .ge 49), (8, .aload_n 0), (9, .getfield 44), (12, .iload_n 3), (13, .aload_n 0), (14, .getfield 44), (17, .iload_n 3), (18, .iaload), (19, .iload_n 1), (20, .if_icmp .ne 7), (23, .iload_n 2), (24, .goto 23)] 27 ls st n h mc ms Q) : zGo K l d mX6_change 2 ls st n h mc ms Q := k (by decide +kernel)
theorem kX6_change_27 {K : zK} {l : Launch} {d : Nat} {ls : List (Nat × Value)} {st : List Value} {n : Nat} {h : zH} {mc ms : Nat} {Q : zQ} (k : zGb K l d mX6_change [(27, .aload_n 0), (28, .getfield 44), (31, .iload_n 3), (32, .iaload), (33, .iload_n 2), (34, .if_icmp .ne 7), (37, .iload_n 1), (38, .goto 9)] 41 ls st n h mc ms Q) : zGo K l d mX6_change 27 ls st n h mc ms Q := k (by decide +kernel)
theorem kX6_change_41 {K : zK} {l : Launch} {d : Nat} {ls : List (Nat × Value)} {st : List Value} {n : Nat} {h : zH} {mc ms : Nat} {Q : zQ} (k : zGb K l d mX6_change [(41, .aload_n 0), (42, .getfield 44), (45, .iload_n 3), (46, .iaload)] 47 ls st n h mc ms Q) : zGo K l d mX6_change 41 ls st n h mc ms Q := k (by decide +kernel)
theorem kX6_change_47 {K : zK} {l : Launch} {d : Nat} {ls : List (Nat × Value)} {st : List Value} {n : Nat} {h : zH} {mc ms : Nat} {Q : zQ} (k : zGb K l d mX6_change [(47, .iastore), (48, .iinc 3 1), (51, .goto (-49))] 54 ls st n h mc ms Q) : zGo K l d mX6_change 47 ls st n h mc ms Q := k (by decide +kernel)
theorem kX6_change_54 {K : zK} {l : Launch} {d : Nat} {ls : List (Nat × Value)} {st : List Value} {n : Nat} {h : zH} {mc ms : Nat} {Q : zQ} (k : zGb K l d mX6_change [(54, .return_)] 55 ls st n h mc ms Q) : zGo K l d mX6_change 54 ls st n h mc ms Q := k (by decide +kernel)
theorem kX6_exchange_0 {K : zK} {l : Launch} {d : Nat} {ls : List (Nat × Value)} {st : List Value} {n : Nat} {h : zH} {mc ms : Nat} {Q : zQ} (k : zGb K l d mX6_exchange [(0, .aload_n 0), (1, .iload_n 1), (2, .invokevirtual 153), (5, .ifCond .eq 16), (8, .aload_n 0), (9, .iload_n 2), (10, .invokevirtual 153), (13, .ifCond .eq 8), (16, .iload_n 1), (17, .iload_n 2), (18, .if_icmp .ne 5)] 21 ls st n h mc ms Q) : zGo K l d mX6_exchange 0 ls st n h mc ms Q := k (by decide +kernel)
theorem kX6_exchange_21 {K : zK} {l : Launch} {d : Nat} {ls : List (Nat × Value)} {st : List Value} {n : Nat} {h : zH} {mc ms : Nat} {Q : zQ} (k : zGb K l d mX6_exchange [(21, .iconst (-1)), (22, .ireturn)] 23 ls st n h mc ms Q) : zGo K l d mX6_exchange 21 ls st n h mc ms Q := k (by decide +kernel)
theorem kX6_exchange_23 {K : zK} {l : Launch} {d : Nat} {ls : List (Nat × Value)} {st : List Value} {n : Nat} {h : zH} {mc ms : Nat} {Q : zQ} (k : zGb K l d mX6_exchange [(23, .aload_n 0), (24, .iload_n 1), (25, .iload_n 2), (26, .invokevirtual 169), (29, .aload_n 0), (30, .iload_n 1), (31, .invokevirtual 163), (34, .ifCond .eq 11), (37, .aload_n 0), (38, .iload_n 2), (39, .invokevirtual 163), (42, .ifCond .ne 12)] 45 ls st n h mc ms Q) : zGo K l d mX6_exchange 23 ls st n h mc ms Q := k (by decide +kernel)
theorem kX6_exchange_45 {K : zK} {l : Launch} {d : Nat} {ls : List (Nat × Value)} {st : List Value} {n : Nat} {h : zH} {mc ms : Nat} {Q : zQ} (k : zGb K l d mX6_exchange [(45, .aload_n 0), (46, .iload_n 1), (47, .iload_n 2), (48, .invokevirtual 169), (51, .bipush (-2)), (53, .ireturn)] 54 ls st n h mc ms Q) : zGo K l d mX6_exchange 45 ls st n h mc ms Q := k (by decide +kernel)
theorem kX6_exchange_54 {K : zK} {l : Launch} {d : Nat} {ls : List (Nat × Value)} {st : List Value} {n : Nat} {h : zH} {mc ms : Nat} {Q : zQ} (k : zGb K l d mX6_exchange [(54, .aload_n 0), (55, .iload_n 1), (56, .invokevirtual 147), (59, .aload_n 0), (60, .iload_n 2), (61, .invokevirtual 147), (64, .iadd), (65, .ireturn)] 66 ls st n h mc ms Q) : zGo K l d mX6_exchange 54 ls st n h mc ms Q := k (by decide +kernel)
theorem kX6_allWanted_0 {K : zK} {l : Launch} {d : Nat} {ls : List (Nat × Value)} {st : List Value} {n : Nat} {h : zH} {mc ms : Nat} {Q : zQ} (k : zGb K l d mX6_allWanted [(0, .iconst 0), (1, .istore_n 1), (2, .iconst 0), (3, .istore_n 2)] 4 ls st n h mc ms Q) : zGo K l d mX6_allWanted 0 ls st n h mc ms Q := k (by decide +kernel)
theorem kX6_allWanted_4 {K : zK} {l : Launch} {d : Nat} {ls : List (Nat × Value)} {st : List Value} {n : Nat} {h : zH} {mc ms : Nat} {Q : zQ} (k : zGb K l d mX6_allWanted [(4, .iload_n 2), (5, .aload_n 0), (6, .getfield 13), (9, .iconst 0), (10, .iaload), (11, .if_icmp .ge 18), (14, .iload_n 1), (15, .aload_n 0), (16, .getfield 17), (19, .iload_n 2), (20, .iaload), (21, .iadd), (22, .istore_n 1), (23, .iinc 2 1), (26, .goto (-22))] 29 ls st n h mc ms Q) : zGo K l d mX6_allWanted 4 ls st n h mc ms Q := k (by decide +kernel)
theorem kX6_allWanted_29 {K : zK} {l : Launch} {d : Nat} {ls : List (Nat × Value)} {st : List Value} {n : Nat} {h : zH} {mc ms : Nat} {Q : zQ} (k : zGb K l d mX6_allWanted [(29, .iload_n 1), (30, .ireturn)] 31 ls st n h mc ms Q) : zGo K l d mX6_allWanted 29 ls st n h mc ms Q := k (by decide +kernel)
theorem kX6_now_0 {K : zK} {l : Launch} {d : Nat} {ls : List (Nat × Value)} {st : List Value} {n : Nat} {h : zH} {mc ms : Nat} {Q : zQ} (k : zGb K l d mX6_now [(0, .iload_n 1), (1, .tableswitch 66 0 3 #[31, 41, 53, 58])] 32 ls st n h mc ms Q) : zGo K l d mX6_now 0 ls st n h mc ms Q := k (by decide +kernel)
theorem kX6_now_32 {K : zK} {l : Launch} {d : Nat} {ls : List (Nat × Value)} {st : List Value} {n : Nat} {h : zH} {mc ms : Nat} {Q : zQ} (k : zGb K l d mX6_now [(32, .aload_n 0), (33, .invokevirtual 173), (36, .aload_n 0), (37, .invokevirtual 166), (40, .isub), (41, .ireturn)] 42 ls st n h mc ms Q) : zGo K l d mX6_now 32 ls st n h mc ms Q := k (by decide +kernel)
theorem kX6_now_42 {K : zK} {l : Launch} {d : Nat} {ls : List (Nat × Value)} {st : List Value} {n : Nat} {h : zH} {mc ms : Nat} {Q : zQ} (k : zGb K l d mX6_now [(42, .aload_n 0), (43, .aload_n 0), (44, .getfield 44), (47, .bipush 12), (49, .iaload), (50, .invokevirtual 176), (53, .ireturn)] 54 ls st n h mc ms Q) : zGo K l d mX6_now 42 ls st n h mc ms Q := k (by decide +kernel)
theorem kX6_now_54 {K : zK} {l : Launch} {d : Nat} {ls : List (Nat × Value)} {st : List Value} {n : Nat} {h : zH} {mc ms : Nat} {Q : zQ} (k : zGb K l d mX6_now [(54, .aload_n 0), (55, .invokevirtual 166), (58, .ireturn)] 59 ls st n h mc ms Q) : zGo K l d mX6_now 54 ls st n h mc ms Q := k (by decide +kernel)
theorem kX6_now_59 {K : zK} {l : Launch} {d : Nat} {ls : List (Nat × Value)} {st : List Value} {n : Nat} {h : zH} {mc ms : Nat} {Q : zQ} (k : zGb K l d mX6_now [(59, .aload_n 0), (60, .getfield 44), (63, .bipush 12), (65, .iaload), (66, .ireturn)] 67 ls st n h mc ms Q) : zGo K l d mX6_now 59 ls st n h mc ms Q := k (by decide +kernel)
theorem kX6_now_67 {K : zK} {l : Launch} {d : Nat} {ls : List (Nat × Value)} {st : List Value} {n : Nat} {h : zH} {mc ms : Nat} {Q : zQ} (k : zGb K l d mX6_now [(67, .iconst (-1)), (68, .ireturn)] 69 ls st n h mc ms Q) : zGo K l d mX6_now 67 ls st n h mc ms Q := k (by decide +kernel)
theorem kX6_moves_0 {K : zK} {l : Launch} {d : Nat} {ls : List (Nat × Value)} {st : List Value} {n : Nat} {h : zH} {mc ms : Nat} {Q : zQ} (k : zGb K l d mX6_moves [(0, .iload_n 1), (1, .iconst 0), (2, .bipush 60), (4, .invokestatic 87), (7, .ifCond .ne 5), (10, .iconst (-1)), (11, .ireturn)] 12 ls st n h mc ms Q) : zGo K l d mX6_moves 0 ls st n h mc ms Q := k (by decide +kernel)
theorem kX6_moves_12 {K : zK} {l : Launch} {d : Nat} {ls : List (Nat × Value)} {st : List Value} {n : Nat} {h : zH} {mc ms : Nat} {Q : zQ} (k : zGb K l d mX6_moves [(12, .aload_n 0), (13, .getfield 44), (16, .bipush 12), (18, .iaload), (19, .istore_n 2), (20, .aload_n 0), (21, .getfield 44), (24, .bipush 12), (26, .iload_n 1), (27, .iastore), (28, .iload_n 2), (29, .ireturn)] 30 ls st n h mc ms Q) : zGo K l d mX6_moves 12 ls st n h mc ms Q := k (by decide +kernel)
theorem kX6_bitsIn_0 {K : zK} {l : Launch} {d : Nat} {ls : List (Nat × Value)} {st : List Value} {n : Nat} {h : zH} {mc ms : Nat} {Q : zQ} (k : zGb K l d mX6_bitsIn [(0, .iconst 0), (1, .istore_n 1), (2, .iconst 0), (3, .istore_n 2)] 4 ls st n h mc ms Q) : zGo K l d mX6_bitsIn 0 ls st n h mc ms Q := k (by decide +kernel)
theorem kX6_bitsIn_4 {K : zK} {l : Launch} {d : Nat} {ls : List (Nat × Value)} {st : List Value} {n : Nat} {h : zH} {mc ms : Nat} {Q : zQ} (k : zGb K l d mX6_bitsIn [(4, .iload_n 2), (5, .bipush 6), (7, .if_icmp .ge 17), (10, .iload_n 1), (11, .iload_n 0), (12, .iload_n 2), (13, .ishr), (14, .iconst 1), (15, .iand), (16, .iadd), (17, .istore_n 1), (18, .iinc 2 1), (21, .goto (-17))] 24 ls st n h mc ms Q) : zGo K l d mX6_bitsIn 4 ls st n h mc ms Q := k (by decide +kernel)
theorem kX6_bitsIn_24 {K : zK} {l : Launch} {d : Nat} {ls : List (Nat × Value)} {st : List Value} {n : Nat} {h : zH} {mc ms : Nat} {Q : zQ} (k : zGb K l d mX6_bitsIn [(24, .iload_n 1), (25, .ireturn)] 26 ls st n h mc ms Q) : zGo K l d mX6_bitsIn 24 ls st n h mc ms Q := k (by decide +kernel)
theorem kX6_wayToRing_0 {K : zK} {l : Launch} {d : Nat} {ls : List (Nat × Value)} {st : List Value} {n : Nat} {h : zH} {mc ms : Nat} {Q : zQ} (k : zGb K l d mX6_wayToRing [(0, .iload_n 2), (1, .invokestatic 179), (4, .istore_n 3), (5, .iload_n 3), (6, .ifCond .ne 7), (9, .iconst 1), (10, .goto 24)] 13 ls st n h mc ms Q) : zGo K l d mX6_wayToRing 0 ls st n h mc ms Q := k (by decide +kernel)
theorem kX6_wayToRing_13 {K : zK} {l : Launch} {d : Nat} {ls : List (Nat × Value)} {st : List Value} {n : Nat} {h : zH} {mc ms : Nat} {Q : zQ} (k : zGb K l d mX6_wayToRing [(13, .iload_n 3), (14, .iconst 1), (15, .if_icmp .ne 7), (18, .iconst 3), (19, .goto 15)] 22 ls st n h mc ms Q) : zGo K l d mX6_wayToRing 13 ls st n h mc ms Q := k (by decide +kernel)
theorem kX6_wayToRing_22 {K : zK} {l : Launch} {d : Nat} {ls : List (Nat × Value)} {st : List Value} {n : Nat} {h : zH} {mc ms : Nat} {Q : zQ} (k : zGb K l d mX6_wayToRing [(22, .iload_n 3), (23, .iconst 2), (24, .if_icmp .ne 8), (27, .bipush 9), (29, .goto 5)] 32 ls st n h mc ms Q) : zGo K l d mX6_wayToRing 22 ls st n h mc ms Q := k (by decide +kernel)
theorem kX6_wayToRing_32 {K : zK} {l : Launch} {d : Nat} {ls : List (Nat × Value)} {st : List Value} {n : Nat} {h : zH} {mc ms : Nat} {Q : zQ} (k : zGb K l d mX6_wayToRing [(32, .bipush 27)] 34 ls st n h mc ms Q) : zGo K l d mX6_wayToRing 32 ls st n h mc ms Q := k (by decide +kernel)
theorem kX6_wayToRing_34 {K : zK} {l : Launch} {d : Nat} {ls : List (Nat × Value)} {st : List Value} {n : Nat} {h : zH} {mc ms : Nat} {Q : zQ} (k : zGb K l d mX6_wayToRing [(34, .istore 4), (36, .iconst 0), (37, .istore 5)] 39 ls st n h mc ms Q) : zGo K l d mX6_wayToRing 34 ls st n h mc ms Q := k (by decide +kernel)
theorem kX6_wayToRing_39 {K : zK} {l : Launch} {d : Nat} {ls : List (Nat × Value)} {st : List Value} {n : Nat} {h : zH} {mc ms : Nat} {Q : zQ} (k : zGb K l d mX6_wayToRing [(39, .iload 5), (41, .iload 4), (43, .if_icmp .ge 174), (46, .iload 5), (48, .bipush 27), (50, .imul), (51, .iload 4), (53, .idiv), (54, .istore 6), (56, .iconst 0), (57, .istore 7), (59, .iconst 0), (60, .istore 8), (62, .iload_n 3), (63, .aload_n 0), (64, .getfield 17), (67, .iload_n 1), (68, .iaload), (69, .if_icmp .gt 7), (72, .iconst 1), (73, .goto 4)] 76 ls st n h mc ms Q) : zGo K l d mX6_wayToRing 39 ls st n h mc ms Q := k (by decide +kernel)
theorem kX6_wayToRing_76 {K : zK} {l : Launch} {d : Nat} {ls : List (Nat × Value)} {st : List Value} {n : Nat} {h : zH} {mc ms : Nat} {Q : zQ} (k : zGb K l d mX6_wayToRing [(76, .iconst 0)] 77 ls st n h mc ms Q) : zGo K l d mX6_wayToRing 76 ls st n h mc ms Q := k (by decide +kernel)
theorem kX6_wayToRing_77 {K : zK} {l : Launch} {d : Nat} {ls : List (Nat × Value)} {st : List Value} {n : Nat} {h : zH} {mc ms : Nat} {Q : zQ} (k : zGb K l d mX6_wayToRing [(77, .istore 9), (79, .iconst 0), (80, .istore 10)] 82 ls st n h mc ms Q) : zGo K l d mX6_wayToRing 77 ls st n h mc ms Q := k (by decide +kernel)
theorem kX6_wayToRing_82 {K : zK} {l : Launch} {d : Nat} {ls : List (Nat × Value)} {st : List Value} {n : Nat} {h : zH} {mc ms : Nat} {Q : zQ} (k : zGb K l d mX6_wayToRing [(82, .iload 10), (84, .bipush 6), (86, .if_icmp .ge 117), (89, .iload 9), (91, .ifCond .eq 112), (94, .iload_n 2), (95, .iload 10), (97, .ishr), (98, .iconst 1), (99, .iand), (100, .iconst 1), (101, .if_icmp .ne 96), (104, .iload 6), (106, .bipush 9), (108, .idiv), (109, .istore 11), (111, .iload 6), (113, .bipush 9), (115, .irem), (116, .iconst 3), (117, .imul), (118, .istore 6), (120, .iload 11), (122, .aload_n 0), (123, .getfield 17), (126, .iload_n 1), (127, .iaload), (128, .if_icmp .ge 43), (131, .iload 7), (133, .iload 11), (135, .ishr), (136, .iconst 1), (137, .iand), (138, .ifCond .ne 33), (141, .aload_n 0), (142, .getfield 26), (145, .iload 10), (147, .iaload), (148, .iload 11), (150, .ishr), (151, .iconst 1), (152, .iand), (153, .iconst 1), (154, .if_icmp .ne 17), (157, .aload_n 0), (158, .iload 10), (160, .iload_n 1), (161, .invokevirtual 156), (164, .ifCond .ne 7), (167, .iconst 1), (168, .goto 4)] 171 ls st n h mc ms Q) : zGo K l d mX6_wayToRing 82 ls st n h mc ms Q := k (by decide +kernel)
theorem kX6_wayToRing_171 {K : zK} {l : Launch} {d : Nat} {ls : List (Nat × Value)} {st : List Value} {n : Nat} {h : zH} {mc ms : Nat} {Q : zQ} (k : zGb K l d mX6_wayToRing [(171, .iconst 0)] 172 ls st n h mc ms Q) : zGo K l d mX6_wayToRing 171 ls st n h mc ms Q := k (by decide +kernel)
theorem kX6_wayToRing_172 {K : zK} {l : Launch} {d : Nat} {ls : List (Nat × Value)} {st : List Value} {n : Nat} {h : zH} {mc ms : Nat} {Q : zQ} (k : zGb K l d mX6_wayToRing [(172, .istore 9), (174, .iload 7), (176, .iconst 1), (177, .iload 11), (179, .ishl), (180, .ior), (181, .istore 7), (183, .iload 8), (185, .iload 11), (187, .iconst 1), (188, .iadd), (189, .iconst 2), (190, .iload 10), (192, .imul), (193, .ishl), (194, .ior), (195, .istore 8)] 197 ls st n h mc ms Q) : zGo K l d mX6_wayToRing 172 ls st n h mc ms Q := k (by decide +kernel)
theorem kX6_wayToRing_197 {K : zK} {l : Launch} {d : Nat} {ls : List (Nat × Value)} {st : List Value} {n : Nat} {h : zH} {mc ms : Nat} {Q : zQ} (k : zGb K l d mX6_wayToRing [(197, .iinc 10 1), (200, .goto (-118))] 203 ls st n h mc ms Q) : zGo K l d mX6_wayToRing 197 ls st n h mc ms Q := k (by decide +kernel)
theorem kX6_wayToRing_203 {K : zK} {l : Launch} {d : Nat} {ls : List (Nat × Value)} {st : List Value} {n : Nat} {h : zH} {mc ms : Nat} {Q : zQ} (k : zGb K l d mX6_wayToRing [(203, .iload 9), (205, .ifCond .eq 6), (208, .iload 8), (210, .ireturn)] 211 ls st n h mc ms Q) : zGo K l d mX6_wayToRing 203 ls st n h mc ms Q := k (by decide +kernel)
theorem kX6_wayToRing_211 {K : zK} {l : Launch} {d : Nat} {ls : List (Nat × Value)} {st : List Value} {n : Nat} {h : zH} {mc ms : Nat} {Q : zQ} (k : zGb K l d mX6_wayToRing [(211, .iinc 5 1), (214, .goto (-175))] 217 ls st n h mc ms Q) : zGo K l d mX6_wayToRing 211 ls st n h mc ms Q := k (by decide +kernel)
theorem kX6_wayToRing_217 {K : zK} {l : Launch} {d : Nat} {ls : List (Nat × Value)} {st : List Value} {n : Nat} {h : zH} {mc ms : Nat} {Q : zQ} (k : zGb K l d mX6_wayToRing [(217, .bipush (-9)), (219, .ireturn)] 220 ls st n h mc ms Q) : zGo K l d mX6_wayToRing 217 ls st n h mc ms Q := k (by decide +kernel)
theorem kX6_findCrews_0 {K : zK} {l : Launch} {d : Nat} {ls : List (Nat × Value)} {st : List Value} {n : Nat} {h : zH} {mc ms : Nat} {Q : zQ} (k : zGb K l d mX6_findCrews [(0, .iconst 0), (1, .istore_n 1)] 2 ls st n h mc ms Q) : zGo K l d mX6_findCrews 0 ls st n h mc ms Q := k (by decide +kernel)
theorem kX6_findCrews_2 {K : zK} {l : Launch} {d : Nat} {ls : List (Nat × Value)} {st : List Value} {n : Nat} {h : zH} {mc ms : Nat} {Q : zQ} (k : zGb K l d mX6_findCrews [(2, .iload_n 1), (3, .iconst 4), (4, .if_icmp .ge 144), (7, .aload_n 0), (8, .getfield 57), (11, .iload_n 1), (12, .iconst 0), (13, .iastore), (14, .iconst 3), (15, .istore_n 2)] 16 ls st n h mc ms Q) : zGo K l d mX6_findCrews 2 ls st n h mc ms Q := k (by decide +kernel)
theorem kX6_findCrews_16 {K : zK} {l : Launch} {d : Nat} {ls : List (Nat × Value)} {st : List Value} {n : Nat} {h : zH} {mc ms : Nat} {Q : zQ} (k : zGb K l d mX6_findCrews [(16, .iload_n 2), (17, .ifCond .lt 125), (20, .iconst 0), (21, .istore_n 3)] 22 ls st n h mc ms Q) : zGo K l d mX6_findCrews 16 ls st n h mc ms Q := k (by decide +kernel)
theorem kX6_findCrews_22 {K : zK} {l : Launch} {d : Nat} {ls : List (Nat × Value)} {st : List Value} {n : Nat} {h : zH} {mc ms : Nat} {Q : zQ} (k : zGb K l d mX6_findCrews [(22, .iload_n 3), (23, .iconst 1), (24, .aload_n 0), (25, .getfield 20), (28, .iconst 0), (29, .iaload), (30, .ishl), (31, .if_icmp .ge 105), (34, .iload_n 3), (35, .invokestatic 179), (38, .iload_n 2), (39, .if_icmp .ne 91), (42, .iload_n 1), (43, .aload_n 0), (44, .getfield 13), (47, .iconst 0), (48, .iaload), (49, .if_icmp .lt 7), (52, .iload_n 2), (53, .ifCond .ne 77)] 56 ls st n h mc ms Q) : zGo K l d mX6_findCrews 22 ls st n h mc ms Q := k (by decide +kernel)
theorem kX6_findCrews_56 {K : zK} {l : Launch} {d : Nat} {ls : List (Nat × Value)} {st : List Value} {n : Nat} {h : zH} {mc ms : Nat} {Q : zQ} (k : zGb K l d mX6_findCrews [(56, .iload_n 1), (57, .aload_n 0), (58, .getfield 13), (61, .iconst 0), (62, .iaload), (63, .if_icmp .ge 12), (66, .aload_n 0), (67, .iload_n 1), (68, .iload_n 3), (69, .invokevirtual 182), (72, .goto 4)] 75 ls st n h mc ms Q) : zGo K l d mX6_findCrews 56 ls st n h mc ms Q := k (by decide +kernel)
theorem kX6_findCrews_75 {K : zK} {l : Launch} {d : Nat} {ls : List (Nat × Value)} {st : List Value} {n : Nat} {h : zH} {mc ms : Nat} {Q : zQ} (k : zGb K l d mX6_findCrews [(75, .iconst 0)] 76 ls st n h mc ms Q) : zGo K l d mX6_findCrews 75 ls st n h mc ms Q := k (by decide +kernel)
theorem kX6_findCrews_76 {K : zK} {l : Launch} {d : Nat} {ls : List (Nat × Value)} {st : List Value} {n : Nat} {h : zH} {mc ms : Nat} {Q : zQ} (k : zGb K l d mX6_findCrews [(76, .istore 4), (78, .iload 4), (80, .bipush (-9)), (82, .if_icmp .eq 48), (85, .aload_n 0), (86, .getfield 51), (89, .bipush 64), (91, .iload_n 1), (92, .imul), (93, .aload_n 0), (94, .getfield 57), (97, .iload_n 1), (98, .iaload), (99, .iadd), (100, .iload_n 3), (101, .iastore), (102, .aload_n 0), (103, .getfield 54), (106, .bipush 64), (108, .iload_n 1), (109, .imul), (110, .aload_n 0), (111, .getfield 57), (114, .iload_n 1), (115, .iaload), (116, .iadd), (117, .iload 4), (119, .iastore), (120, .aload_n 0), (121, .getfield 57), (124, .iload_n 1), (125, .dup2), (126, .iaload), (127, .iconst 1), (128, .iadd), (129, .iastore)] 130 ls st n h mc ms Q) : zGo K l d mX6_findCrews 76 ls st n h mc ms Q := k (by decide +kernel)
theorem kX6_findCrews_130 {K : zK} {l : Launch} {d : Nat} {ls : List (Nat × Value)} {st : List Value} {n : Nat} {h : zH} {mc ms : Nat} {Q : zQ} (k : zGb K l d mX6_findCrews [(130, .iinc 3 1), (133, .goto (-111))] 136 ls st n h mc ms Q) : zGo K l d mX6_findCrews 130 ls st n h mc ms Q := k (by decide +kernel)
theorem kX6_findCrews_136 {K : zK} {l : Launch} {d : Nat} {ls : List (Nat × Value)} {st : List Value} {n : Nat} {h : zH} {mc ms : Nat} {Q : zQ} (k : zGb K l d mX6_findCrews [(136, .iinc 2 (-1)), (139, .goto (-123))] 142 ls st n h mc ms Q) : zGo K l d mX6_findCrews 136 ls st n h mc ms Q := k (by decide +kernel)
theorem kX6_findCrews_142 {K : zK} {l : Launch} {d : Nat} {ls : List (Nat × Value)} {st : List Value} {n : Nat} {h : zH} {mc ms : Nat} {Q : zQ} (k : zGb K l d mX6_findCrews [(142, .iinc 1 1), (145, .goto (-143))] 148 ls st n h mc ms Q) : zGo K l d mX6_findCrews 142 ls st n h mc ms Q := k (by decide +kernel)
theorem kX6_findCrews_148 {K : zK} {l : Launch} {d : Nat} {ls : List (Nat × Value)} {st : List Value} {n : Nat} {h : zH} {mc ms : Nat} {Q : zQ} (k : zGb K l d mX6_findCrews [(148, .return_)] 149 ls st n h mc ms Q) : zGo K l d mX6_findCrews 148 ls st n h mc ms Q := k (by decide +kernel)
theorem kX6_crew_0 {K : zK} {l : Launch} {d : Nat} {ls : List (Nat × Value)} {st : List Value} {n : Nat} {h : zH} {mc ms : Nat} {Q : zQ} (k : zGb K l d mX6_crew [(0, .aload_n 0), (1, .iload_n 1), (2, .invokevirtual 137), (5, .ifCond .ne 5), (8, .iconst (-1)), (9, .ireturn)] 10 ls st n h mc ms Q) : zGo K l d mX6_crew 0 ls st n h mc ms Q := k (by decide +kernel)
theorem kX6_crew_10 {K : zK} {l : Launch} {d : Nat} {ls : List (Nat × Value)} {st : List Value} {n : Nat} {h : zH} {mc ms : Nat} {Q : zQ} (k : zGb K l d mX6_crew [(10, .aload_n 0), (11, .invokevirtual 185), (14, .aload_n 0), (15, .getfield 51), (18, .bipush 64), (20, .iload_n 1), (21, .imul), (22, .iaload), (23, .invokestatic 179), (26, .ireturn)] 27 ls st n h mc ms Q) : zGo K l d mX6_crew 10 ls st n h mc ms Q := k (by decide +kernel)
theorem kX6_bars_0 {K : zK} {l : Launch} {d : Nat} {ls : List (Nat × Value)} {st : List Value} {n : Nat} {h : zH} {mc ms : Nat} {Q : zQ} (k : zGb K l d mX6_bars [(0, .aload_n 0), (1, .iload_n 1), (2, .invokevirtual 137), (5, .ifCond .ne 5), (8, .iconst (-1)), (9, .ireturn)] 10 ls st n h mc ms Q) : zGo K l d mX6_bars 0 ls st n h mc ms Q := k (by decide +kernel)
theorem kX6_bars_10 {K : zK} {l : Launch} {d : Nat} {ls : List (Nat × Value)} {st : List Value} {n : Nat} {h : zH} {mc ms : Nat} {Q : zQ} (k : zGb K l d mX6_bars [(10, .iconst 1), (11, .istore_n 2)] 12 ls st n h mc ms Q) : zGo K l d mX6_bars 10 ls st n h mc ms Q := k (by decide +kernel)
theorem kX6_bars_12 {K : zK} {l : Launch} {d : Nat} {ls : List (Nat × Value)} {st : List Value} {n : Nat} {h : zH} {mc ms : Nat} {Q : zQ} (k : zGb K l d mX6_bars [(12, .iload_n 2), (13, .iconst 1), (14, .aload_n 0), (15, .getfield 17), (18, .iload_n 1), (19, .iaload), (20, .ishl), (21, .if_icmp .ge 71), (24, .iconst 0), (25, .istore_n 3), (26, .iconst 0), (27, .istore 4)] 29 ls st n h mc ms Q) : zGo K l d mX6_bars 12 ls st n h mc ms Q := k (by decide +kernel)
theorem kX6_bars_29 {K : zK} {l : Launch} {d : Nat} {ls : List (Nat × Value)} {st : List Value} {n : Nat} {h : zH} {mc ms : Nat} {Q : zQ} (k : zGb K l d mX6_bars [(29, .iload 4), (31, .aload_n 0), (32, .getfield 20), (35, .iconst 0), (36, .iaload), (37, .if_icmp .ge 39), (40, .iload_n 3), (41, .aload_n 0), (42, .getfield 26), (45, .iload 4), (47, .iaload), (48, .iload_n 2), (49, .iand), (50, .ifCond .eq 17), (53, .aload_n 0), (54, .iload 4), (56, .iload_n 1), (57, .invokevirtual 156), (60, .ifCond .ne 7), (63, .iconst 1), (64, .goto 4)] 67 ls st n h mc ms Q) : zGo K l d mX6_bars 29 ls st n h mc ms Q := k (by decide +kernel)
theorem kX6_bars_67 {K : zK} {l : Launch} {d : Nat} {ls : List (Nat × Value)} {st : List Value} {n : Nat} {h : zH} {mc ms : Nat} {Q : zQ} (k : zGb K l d mX6_bars [(67, .iconst 0)] 68 ls st n h mc ms Q) : zGo K l d mX6_bars 67 ls st n h mc ms Q := k (by decide +kernel)
theorem kX6_bars_68 {K : zK} {l : Launch} {d : Nat} {ls : List (Nat × Value)} {st : List Value} {n : Nat} {h : zH} {mc ms : Nat} {Q : zQ} (k : zGb K l d mX6_bars [(68, .iadd), (69, .istore_n 3), (70, .iinc 4 1), (73, .goto (-44))] 76 ls st n h mc ms Q) : zGo K l d mX6_bars 68 ls st n h mc ms Q := k (by decide +kernel)
theorem kX6_bars_76 {K : zK} {l : Launch} {d : Nat} {ls : List (Nat × Value)} {st : List Value} {n : Nat} {h : zH} {mc ms : Nat} {Q : zQ} (k : zGb K l d mX6_bars [(76, .iload_n 3), (77, .iload_n 2), (78, .invokestatic 179), (81, .if_icmp .ge 5), (84, .iload_n 2), (85, .ireturn)] 86 ls st n h mc ms Q) : zGo K l d mX6_bars 76 ls st n h mc ms Q := k (by decide +kernel)
theorem kX6_bars_86 {K : zK} {l : Launch} {d : Nat} {ls : List (Nat × Value)} {st : List Value} {n : Nat} {h : zH} {mc ms : Nat} {Q : zQ} (k : zGb K l d mX6_bars [(86, .iinc 2 1), (89, .goto (-77))] 92 ls st n h mc ms Q) : zGo K l d mX6_bars 86 ls st n h mc ms Q := k (by decide +kernel)
theorem kX6_bars_92 {K : zK} {l : Launch} {d : Nat} {ls : List (Nat × Value)} {st : List Value} {n : Nat} {h : zH} {mc ms : Nat} {Q : zQ} (k : zGb K l d mX6_bars [(92, .bipush (-9)), (94, .ireturn)] 95 ls st n h mc ms Q) : zGo K l d mX6_bars 92 ls st n h mc ms Q := k (by decide +kernel)
theorem kX6_mayFollow_0 {K : zK} {l : Launch} {d : Nat} {ls : List (Nat × Value)} {st : List Value} {n : Nat} {h : zH} {mc ms : Nat} {Q : zQ} (k : zGb K l d mX6_mayFollow [(0, .iload_n 2), (1, .iload_n 3), (2, .iand), (3, .ifCond .ne 7), (6, .iconst 1), (7, .goto 4)] 10 ls st n h mc ms Q) : zGo K l d mX6_mayFollow 0 ls st n h mc ms Q := k (by decide +kernel)
theorem kX6_mayFollow_10 {K : zK} {l : Launch} {d : Nat} {ls : List (Nat × Value)} {st : List Value} {n : Nat} {h : zH} {mc ms : Nat} {Q : zQ} (k : zGb K l d mX6_mayFollow [(10, .iconst 0)] 11 ls st n h mc ms Q) : zGo K l d mX6_mayFollow 10 ls st n h mc ms Q := k (by decide +kernel)
theorem kX6_mayFollow_11 {K : zK} {l : Launch} {d : Nat} {ls : List (Nat × Value)} {st : List Value} {n : Nat} {h : zH} {mc ms : Nat} {Q : zQ} (k : zGb K l d mX6_mayFollow [(11, .istore 4), (13, .iconst 0), (14, .istore 5)] 16 ls st n h mc ms Q) : zGo K l d mX6_mayFollow 11 ls st n h mc ms Q := k (by decide +kernel)
theorem kX6_mayFollow_16 {K : zK} {l : Launch} {d : Nat} {ls : List (Nat × Value)} {st : List Value} {n : Nat} {h : zH} {mc ms : Nat} {Q : zQ} (k : zGb K l d mX6_mayFollow [(16, .iload 5), (18, .iload_n 1), (19, .if_icmp .ge 46), (22, .iload 4), (24, .ifCond .eq 32), (27, .iload_n 1), (28, .iload 5), (30, .isub), (31, .aload_n 0), (32, .getfield 41), (35, .iconst 0), (36, .iaload), (37, .if_icmp .gt 15), (40, .iload_n 2), (41, .aload_n 0), (42, .getfield 63), (45, .iload 5), (47, .iaload), (48, .iand), (49, .ifCond .ne 7)] 52 ls st n h mc ms Q) : zGo K l d mX6_mayFollow 16 ls st n h mc ms Q := k (by decide +kernel)
theorem kX6_mayFollow_52 {K : zK} {l : Launch} {d : Nat} {ls : List (Nat × Value)} {st : List Value} {n : Nat} {h : zH} {mc ms : Nat} {Q : zQ} (k : zGb K l d mX6_mayFollow [(52, .iconst 1), (53, .goto 4)] 56 ls st n h mc ms Q) : zGo K l d mX6_mayFollow 52 ls st n h mc ms Q := k (by decide +kernel)
theorem kX6_mayFollow_56 {K : zK} {l : Launch} {d : Nat} {ls : List (Nat × Value)} {st : List Value} {n : Nat} {h : zH} {mc ms : Nat} {Q : zQ} (k : zGb K l d mX6_mayFollow [(56, .iconst 0)] 57 ls st n h mc ms Q) : zGo K l d mX6_mayFollow 56 ls st n h mc ms Q := k (by decide +kernel)
theorem kX6_mayFollow_57 {K : zK} {l : Launch} {d : Nat} {ls : List (Nat × Value)} {st : List Value} {n : Nat} {h : zH} {mc ms : Nat} {Q : zQ} (k : zGb K l d mX6_mayFollow [(57, .istore 4), (59, .iinc 5 1), (62, .goto (-46))] 65 ls st n h mc ms Q) : zGo K l d mX6_mayFollow 57 ls st n h mc ms Q := k (by decide +kernel)
theorem kX6_mayFollow_65 {K : zK} {l : Launch} {d : Nat} {ls : List (Nat × Value)} {st : List Value} {n : Nat} {h : zH} {mc ms : Nat} {Q : zQ} (k : zGb K l d mX6_mayFollow [(65, .aload_n 0), (66, .getfield 38), (69, .iconst 0), (70, .iaload), (71, .iconst 1), (72, .if_icmp .ne 12), (75, .aload_n 0), (76, .getfield 66), (79, .iload_n 1), (80, .iaload), (81, .goto 42)] 84 ls st n h mc ms Q) : zGo K l d mX6_mayFollow 65 ls st n h mc ms Q := k (by decide +kernel)
theorem kX6_mayFollow_84 {K : zK} {l : Launch} {d : Nat} {ls : List (Nat × Value)} {st : List Value} {n : Nat} {h : zH} {mc ms : Nat} {Q : zQ} (k : zGb K l d mX6_mayFollow [(84, .aload_n 0), (85, .getfield 38), (88, .iconst 0), (89, .iaload), (90, .iconst 2), (91, .if_icmp .ne 12), (94, .aload_n 0), (95, .getfield 69), (98, .iload_n 1), (99, .iaload), (100, .goto 23)] 103 ls st n h mc ms Q) : zGo K l d mX6_mayFollow 84 ls st n h mc ms Q := k (by decide +kernel)
theorem kX6_mayFollow_103 {K : zK} {l : Launch} {d : Nat} {ls : List (Nat × Value)} {st : List Value} {n : Nat} {h : zH} {mc ms : Nat} {Q : zQ} (k : zGb K l d mX6_mayFollow [(103, .aload_n 0), (104, .getfield 38), (107, .iconst 0), (108, .iaload), (109, .iconst 3), (110, .if_icmp .ne 12), (113, .aload_n 0), (114, .getfield 72), (117, .iload_n 1), (118, .iaload), (119, .goto 4)] 122 ls st n h mc ms Q) : zGo K l d mX6_mayFollow 103 ls st n h mc ms Q := k (by decide +kernel)
theorem kX6_mayFollow_122 {K : zK} {l : Launch} {d : Nat} {ls : List (Nat × Value)} {st : List Value} {n : Nat} {h : zH} {mc ms : Nat} {Q : zQ} (k : zGb K l d mX6_mayFollow [(122, .iconst 0)] 123 ls st n h mc ms Q) : zGo K l d mX6_mayFollow 122 ls st n h mc ms Q := k (by decide +kernel)
theorem kX6_mayFollow_123 {K : zK} {l : Launch} {d : Nat} {ls : List (Nat × Value)} {st : List Value} {n : Nat} {h : zH} {mc ms : Nat} {Q : zQ} (k : zGb K l d mX6_mayFollow [(123, .istore 5), (125, .iload 4), (127, .ifCond .eq 14), (130, .iload_n 2), (131, .iload 5), (133, .iand), (134, .ifCond .ne 7), (137, .iconst 1), (138, .goto 4)] 141 ls st n h mc ms Q) : zGo K l d mX6_mayFollow 123 ls st n h mc ms Q := k (by decide +kernel)
theorem kX6_mayFollow_141 {K : zK} {l : Launch} {d : Nat} {ls : List (Nat × Value)} {st : List Value} {n : Nat} {h : zH} {mc ms : Nat} {Q : zQ} (k : zGb K l d mX6_mayFollow [(141, .iconst 0)] 142 ls st n h mc ms Q) : zGo K l d mX6_mayFollow 141 ls st n h mc ms Q := k (by decide +kernel)
theorem kX6_mayFollow_142 {K : zK} {l : Launch} {d : Nat} {ls : List (Nat × Value)} {st : List Value} {n : Nat} {h : zH} {mc ms : Nat} {Q : zQ} (k : zGb K l d mX6_mayFollow [(142, .ireturn)] 143 ls st n h mc ms Q) : zGo K l d mX6_mayFollow 142 ls st n h mc ms Q := k (by decide +kernel)
theorem kX6_follow_0 {K : zK} {l : Launch} {d : Nat} {ls : List (Nat × Value)} {st : List Value} {n : Nat} {h : zH} {mc ms : Nat} {Q : zQ} (k : zGb K l d mX6_follow [(0, .aload_n 0), (1, .getfield 63), (4, .iload_n 1), (5, .iload_n 2), (6, .iastore), (7, .aload_n 0), (8, .getfield 72), (11, .iload_n 1), (12, .iconst 1), (13, .iadd), (14, .aload_n 0), (15, .getfield 72), (18, .iload_n 1), (19, .iaload), (20, .aload_n 0), (21, .getfield 69), (24, .iload_n 1), (25, .iaload), (26, .iload_n 2), (27, .iand), (28, .ior), (29, .iastore), (30, .aload_n 0), (31, .getfield 69), (34, .iload_n 1), (35, .iconst 1), (36, .iadd), (37, .aload_n 0), (38, .getfield 69), (41, .iload_n 1), (42, .iaload), (43, .aload_n 0), (44, .getfield 66), (47, .iload_n 1), (48, .iaload), (49, .iload_n 2), (50, .iand), (51, .ior), (52, .iastore), (53, .aload_n 0), (54, .getfield 66), (57, .iload_n 1), (58, .iconst 1), (59, .iadd), (60, .aload_n 0), (61, .getfield 66), (64, .iload_n 1), (65, .iaload), (66, .iload_n 2), (67, .ior), (68, .iastore), (69, .aload_n 0), (70, .getfield 75), (73, .iload_n 1), (74, .iconst 1), (75, .iadd), (76, .aload_n 0), (77, .getfield 75), (80, .iload_n 1), (81, .iaload), (82, .iload_n 2), (83, .invokestatic 179), (86, .iadd), (87, .iastore), (88, .return_)] 89 ls st n h mc ms Q) : zGo K l d mX6_follow 0 ls st n h mc ms Q := k (by decide +kernel)
theorem kX6_wantedFrom_0 {K : zK} {l : Launch} {d : Nat} {ls : List (Nat × Value)} {st : List Value} {n : Nat} {h : zH} {mc ms : Nat} {Q : zQ} (k : zGb K l d mX6_wantedFrom [(0, .iconst 0), (1, .istore_n 2), (2, .iload_n 1), (3, .istore_n 3)] 4 ls st n h mc ms Q) : zGo K l d mX6_wantedFrom 0 ls st n h mc ms Q := k (by decide +kernel)
theorem kX6_wantedFrom_4 {K : zK} {l : Launch} {d : Nat} {ls : List (Nat × Value)} {st : List Value} {n : Nat} {h : zH} {mc ms : Nat} {Q : zQ} (k : zGb K l d mX6_wantedFrom [(4, .iload_n 3), (5, .aload_n 0), (6, .getfield 13), (9, .iconst 0), (10, .iaload), (11, .if_icmp .ge 18), (14, .iload_n 2), (15, .aload_n 0), (16, .getfield 17), (19, .iload_n 3), (20, .iaload), (21, .iadd), (22, .istore_n 2), (23, .iinc 3 1), (26, .goto (-22))] 29 ls st n h mc ms Q) : zGo K l d mX6_wantedFrom 4 ls st n h mc ms Q := k (by decide +kernel)
theorem kX6_wantedFrom_29 {K : zK} {l : Launch} {d : Nat} {ls : List (Nat × Value)} {st : List Value} {n : Nat} {h : zH} {mc ms : Nat} {Q : zQ} (k : zGb K l d mX6_wantedFrom [(29, .iload_n 2), (30, .ireturn)] 31 ls st n h mc ms Q) : zGo K l d mX6_wantedFrom 29 ls st n h mc ms Q := k (by decide +kernel)
theorem kX6_isFirst_0 {K : zK} {l : Launch} {d : Nat} {ls : List (Nat × Value)} {st : List Value} {n : Nat} {h : zH} {mc ms : Nat} {Q : zQ} (k : zGb K l d mX6_isFirst [(0, .iconst 0), (1, .istore_n 2)] 2 ls st n h mc ms Q) : zGo K l d mX6_isFirst 0 ls st n h mc ms Q := k (by decide +kernel)
theorem kX6_isFirst_2 {K : zK} {l : Launch} {d : Nat} {ls : List (Nat × Value)} {st : List Value} {n : Nat} {h : zH} {mc ms : Nat} {Q : zQ} (k : zGb K l d mX6_isFirst [(2, .iload_n 2), (3, .bipush 6), (5, .if_icmp .ge 67), (8, .iconst 0), (9, .istore_n 3)] 10 ls st n h mc ms Q) : zGo K l d mX6_isFirst 2 ls st n h mc ms Q := k (by decide +kernel)
theorem kX6_isFirst_10 {K : zK} {l : Launch} {d : Nat} {ls : List (Nat × Value)} {st : List Value} {n : Nat} {h : zH} {mc ms : Nat} {Q : zQ} (k : zGb K l d mX6_isFirst [(10, .iload_n 3), (11, .iconst 4), (12, .if_icmp .ge 54), (15, .aload_n 1), (16, .iload_n 3), (17, .iaload), (18, .iconst 2), (19, .iload_n 2), (20, .imul), (21, .ishr), (22, .iconst 3), (23, .iand), (24, .istore 4), (26, .aload_n 0), (27, .getfield 78), (30, .iload_n 3), (31, .iaload), (32, .iconst 2), (33, .iload_n 2), (34, .imul), (35, .ishr), (36, .iconst 3), (37, .iand), (38, .istore 5), (40, .iload 4), (42, .iload 5), (44, .if_icmp .eq 16), (47, .iload 4), (49, .iload 5), (51, .if_icmp .ge 7), (54, .iconst 1), (55, .goto 4)] 58 ls st n h mc ms Q) : zGo K l d mX6_isFirst 10 ls st n h mc ms Q := k (by decide +kernel)
theorem kX6_isFirst_58 {K : zK} {l : Launch} {d : Nat} {ls : List (Nat × Value)} {st : List Value} {n : Nat} {h : zH} {mc ms : Nat} {Q : zQ} (k : zGb K l d mX6_isFirst [(58, .iconst 0)] 59 ls st n h mc ms Q) : zGo K l d mX6_isFirst 58 ls st n h mc ms Q := k (by decide +kernel)
theorem kX6_isFirst_59 {K : zK} {l : Launch} {d : Nat} {ls : List (Nat × Value)} {st : List Value} {n : Nat} {h : zH} {mc ms : Nat} {Q : zQ} (k : zGb K l d mX6_isFirst [(59, .ireturn)] 60 ls st n h mc ms Q) : zGo K l d mX6_isFirst 59 ls st n h mc ms Q := k (by decide +kernel)
theorem kX6_isFirst_60 {K : zK} {l : Launch} {d : Nat} {ls : List (Nat × Value)} {st : List Value} {n : Nat} {h : zH} {mc ms : Nat} {Q : zQ} (k : zGb K l d mX6_isFirst [(60, .iinc 3 1), (63, .goto (-53))] 66 ls st n h mc ms Q) : zGo K l d mX6_isFirst 60 ls st n h mc ms Q := k (by decide +kernel)
theorem kX6_isFirst_66 {K : zK} {l : Launch} {d : Nat} {ls : List (Nat × Value)} {st : List Value} {n : Nat} {h : zH} {mc ms : Nat} {Q : zQ} (k : zGb K l d mX6_isFirst [(66, .iinc 2 1), (69, .goto (-67))] 72 ls st n h mc ms Q) : zGo K l d mX6_isFirst 66 ls st n h mc ms Q := k (by decide +kernel)
theorem kX6_isFirst_72 {K : zK} {l : Launch} {d : Nat} {ls : List (Nat × Value)} {st : List Value} {n : Nat} {h : zH} {mc ms : Nat} {Q : zQ} (k : zGb K l d mX6_isFirst [(72, .iconst 0), (73, .ireturn)] 74 ls st n h mc ms Q) : zGo K l d mX6_isFirst 72 ls st n h mc ms Q := k (by decide +kernel)
theorem kX6_weigh_0 {K : zK} {l : Launch} {d : Nat} {ls : List (Nat × Value)} {st : List Value} {n : Nat} {h : zH} {mc ms : Nat} {Q : zQ} (k : zGb K l d mX6_weigh [(0, .iload_n 1), (1, .ifCond .eq 34), (4, .aload_n 0), (5, .aload_n 0), (6, .getfield 75), (9, .iconst 4), (10, .iaload), (11, .aload_n 0), (12, .getfield 188), (15, .if_icmp .le 12), (18, .aload_n 0), (19, .getfield 75), (22, .iconst 4), (23, .iaload), (24, .goto 7)] 27 ls st n h mc ms Q) : zGo K l d mX6_weigh 0 ls st n h mc ms Q := k (by decide +kernel)
theorem kX6_weigh_27 {K : zK} {l : Launch} {d : Nat} {ls : List (Nat × Value)} {st : List Value} {n : Nat} {h : zH} {mc ms : Nat} {Q : zQ} (k : zGb K l d mX6_weigh [(27, .aload_n 0), (28, .getfield 188)] 31 ls st n h mc ms Q) : zGo K l d mX6_weigh 27 ls st n h mc ms Q := k (by decide +kernel)
theorem kX6_weigh_31 {K : zK} {l : Launch} {d : Nat} {ls : List (Nat × Value)} {st : List Value} {n : Nat} {h : zH} {mc ms : Nat} {Q : zQ} (k : zGb K l d mX6_weigh [(31, .putfield 188), (34, .return_)] 35 ls st n h mc ms Q) : zGo K l d mX6_weigh 31 ls st n h mc ms Q := k (by decide +kernel)
theorem kX6_weigh_35 {K : zK} {l : Launch} {d : Nat} {ls : List (Nat × Value)} {st : List Value} {n : Nat} {h : zH} {mc ms : Nat} {Q : zQ} (k : zGb K l d mX6_weigh [(35, .iconst 0), (36, .istore_n 2), (37, .iconst 0), (38, .istore_n 3)] 39 ls st n h mc ms Q) : zGo K l d mX6_weigh 35 ls st n h mc ms Q := k (by decide +kernel)
theorem kX6_weigh_39 {K : zK} {l : Launch} {d : Nat} {ls : List (Nat × Value)} {st : List Value} {n : Nat} {h : zH} {mc ms : Nat} {Q : zQ} (k : zGb K l d mX6_weigh [(39, .iload_n 3), (40, .iconst 4), (41, .if_icmp .ge 81), (44, .iconst 0), (45, .istore 4)] 47 ls st n h mc ms Q) : zGo K l d mX6_weigh 39 ls st n h mc ms Q := k (by decide +kernel)
theorem kX6_weigh_47 {K : zK} {l : Launch} {d : Nat} {ls : List (Nat × Value)} {st : List Value} {n : Nat} {h : zH} {mc ms : Nat} {Q : zQ} (k : zGb K l d mX6_weigh [(47, .iload 4), (49, .aload_n 0), (50, .getfield 20), (53, .iconst 0), (54, .iaload), (55, .if_icmp .ge 39), (58, .iload_n 2), (59, .aload_n 0), (60, .getfield 63), (63, .iload_n 3), (64, .iaload), (65, .iload 4), (67, .ishr), (68, .iconst 1), (69, .iand), (70, .iconst 2), (71, .imul), (72, .aload_n 0), (73, .iload 4), (75, .aload_n 0), (76, .getfield 44), (79, .bipush 12), (81, .iaload), (82, .invokevirtual 150), (85, .imul), (86, .iadd), (87, .istore_n 2), (88, .iinc 4 1), (91, .goto (-44))] 94 ls st n h mc ms Q) : zGo K l d mX6_weigh 47 ls st n h mc ms Q := k (by decide +kernel)
theorem kX6_weigh_94 {K : zK} {l : Launch} {d : Nat} {ls : List (Nat × Value)} {st : List Value} {n : Nat} {h : zH} {mc ms : Nat} {Q : zQ} (k : zGb K l d mX6_weigh [(94, .aload_n 0), (95, .getfield 81), (98, .iload_n 3), (99, .aload_n 0), (100, .getfield 54), (103, .bipush 64), (105, .iload_n 3), (106, .imul), (107, .aload_n 0), (108, .getfield 60), (111, .iload_n 3), (112, .iaload), (113, .iadd), (114, .iaload), (115, .iastore), (116, .iinc 3 1), (119, .goto (-80))] 122 ls st n h mc ms Q) : zGo K l d mX6_weigh 94 ls st n h mc ms Q := k (by decide +kernel)
theorem kX6_weigh_122 {K : zK} {l : Launch} {d : Nat} {ls : List (Nat × Value)} {st : List Value} {n : Nat} {h : zH} {mc ms : Nat} {Q : zQ} (k : zGb K l d mX6_weigh [(122, .aload_n 0), (123, .getfield 63), (126, .iconst 0), (127, .iaload), (128, .aload_n 0), (129, .getfield 63), (132, .iconst 1), (133, .iaload), (134, .iand), (135, .aload_n 0), (136, .getfield 63), (139, .iconst 2), (140, .iaload), (141, .iand), (142, .aload_n 0), (143, .getfield 63), (146, .iconst 3), (147, .iaload), (148, .iand), (149, .istore_n 3), (150, .iload_n 3), (151, .ifCond .eq 7), (154, .iconst 4), (155, .goto 43)] 158 ls st n h mc ms Q) : zGo K l d mX6_weigh 122 ls st n h mc ms Q := k (by decide +kernel)
theorem kX6_weigh_158 {K : zK} {l : Launch} {d : Nat} {ls : List (Nat × Value)} {st : List Value} {n : Nat} {h : zH} {mc ms : Nat} {Q : zQ} (k : zGb K l d mX6_weigh [(158, .aload_n 0), (159, .getfield 72), (162, .iconst 4), (163, .iaload), (164, .ifCond .eq 7), (167, .iconst 3), (168, .goto 30)] 171 ls st n h mc ms Q) : zGo K l d mX6_weigh 158 ls st n h mc ms Q := k (by decide +kernel)
theorem kX6_weigh_171 {K : zK} {l : Launch} {d : Nat} {ls : List (Nat × Value)} {st : List Value} {n : Nat} {h : zH} {mc ms : Nat} {Q : zQ} (k : zGb K l d mX6_weigh [(171, .aload_n 0), (172, .getfield 69), (175, .iconst 4), (176, .iaload), (177, .ifCond .eq 7), (180, .iconst 2), (181, .goto 17)] 184 ls st n h mc ms Q) : zGo K l d mX6_weigh 171 ls st n h mc ms Q := k (by decide +kernel)
theorem kX6_weigh_184 {K : zK} {l : Launch} {d : Nat} {ls : List (Nat × Value)} {st : List Value} {n : Nat} {h : zH} {mc ms : Nat} {Q : zQ} (k : zGb K l d mX6_weigh [(184, .aload_n 0), (185, .getfield 66), (188, .iconst 4), (189, .iaload), (190, .ifCond .eq 7), (193, .iconst 1), (194, .goto 4)] 197 ls st n h mc ms Q) : zGo K l d mX6_weigh 184 ls st n h mc ms Q := k (by decide +kernel)
theorem kX6_weigh_197 {K : zK} {l : Launch} {d : Nat} {ls : List (Nat × Value)} {st : List Value} {n : Nat} {h : zH} {mc ms : Nat} {Q : zQ} (k : zGb K l d mX6_weigh [(197, .iconst 0)] 198 ls st n h mc ms Q) : zGo K l d mX6_weigh 197 ls st n h mc ms Q := k (by decide +kernel)
theorem kX6_weigh_198 {K : zK} {l : Launch} {d : Nat} {ls : List (Nat × Value)} {st : List Value} {n : Nat} {h : zH} {mc ms : Nat} {Q : zQ} (k : zGb K l d mX6_weigh [(198, .istore 4), (200, .aload_n 0), (201, .aload_n 0), (202, .getfield 191), (205, .ifCond .lt 19), (208, .aload_n 0), (209, .getfield 66), (212, .iconst 4), (213, .iaload), (214, .invokestatic 179), (217, .aload_n 0), (218, .getfield 191), (221, .if_icmp .ge 15)] 224 ls st n h mc ms Q) : zGo K l d mX6_weigh 198 ls st n h mc ms Q := k (by decide +kernel)
theorem kX6_weigh_224 {K : zK} {l : Launch} {d : Nat} {ls : List (Nat × Value)} {st : List Value} {n : Nat} {h : zH} {mc ms : Nat} {Q : zQ} (k : zGb K l d mX6_weigh [(224, .aload_n 0), (225, .getfield 66), (228, .iconst 4), (229, .iaload), (230, .invokestatic 179), (233, .goto 7)] 236 ls st n h mc ms Q) : zGo K l d mX6_weigh 224 ls st n h mc ms Q := k (by decide +kernel)
theorem kX6_weigh_236 {K : zK} {l : Launch} {d : Nat} {ls : List (Nat × Value)} {st : List Value} {n : Nat} {h : zH} {mc ms : Nat} {Q : zQ} (k : zGb K l d mX6_weigh [(236, .aload_n 0), (237, .getfield 191)] 240 ls st n h mc ms Q) : zGo K l d mX6_weigh 236 ls st n h mc ms Q := k (by decide +kernel)
theorem kX6_weigh_240 {K : zK} {l : Launch} {d : Nat} {ls : List (Nat × Value)} {st : List Value} {n : Nat} {h : zH} {mc ms : Nat} {Q : zQ} (k : zGb K l d mX6_weigh [(240, .putfield 191), (243, .aload_n 0), (244, .aload_n 0), (245, .getfield 194), (248, .ifCond .lt 12), (251, .iload 4), (253, .aload_n 0), (254, .getfield 194), (257, .if_icmp .ge 8)] 260 ls st n h mc ms Q) : zGo K l d mX6_weigh 240 ls st n h mc ms Q := k (by decide +kernel)
theorem kX6_weigh_260 {K : zK} {l : Launch} {d : Nat} {ls : List (Nat × Value)} {st : List Value} {n : Nat} {h : zH} {mc ms : Nat} {Q : zQ} (k : zGb K l d mX6_weigh [(260, .iload 4), (262, .goto 7)] 265 ls st n h mc ms Q) : zGo K l d mX6_weigh 260 ls st n h mc ms Q := k (by decide +kernel)
theorem kX6_weigh_265 {K : zK} {l : Launch} {d : Nat} {ls : List (Nat × Value)} {st : List Value} {n : Nat} {h : zH} {mc ms : Nat} {Q : zQ} (k : zGb K l d mX6_weigh [(265, .aload_n 0), (266, .getfield 194)] 269 ls st n h mc ms Q) : zGo K l d mX6_weigh 265 ls st n h mc ms Q := k (by decide +kernel)
theorem kX6_weigh_269 {K : zK} {l : Launch} {d : Nat} {ls : List (Nat × Value)} {st : List Value} {n : Nat} {h : zH} {mc ms : Nat} {Q : zQ} (k : zGb K l d mX6_weigh [(269, .putfield 194), (272, .aload_n 0), (273, .getfield 197), (276, .ifCond .lt 30), (279, .iload_n 2), (280, .aload_n 0), (281, .getfield 197), (284, .if_icmp .lt 22), (287, .iload_n 2), (288, .aload_n 0), (289, .getfield 197), (292, .if_icmp .ne 48), (295, .aload_n 0), (296, .aload_n 0), (297, .getfield 81), (300, .invokevirtual 200), (303, .ifCond .eq 37)] 306 ls st n h mc ms Q) : zGo K l d mX6_weigh 269 ls st n h mc ms Q := k (by decide +kernel)
theorem kX6_weigh_306 {K : zK} {l : Launch} {d : Nat} {ls : List (Nat × Value)} {st : List Value} {n : Nat} {h : zH} {mc ms : Nat} {Q : zQ} (k : zGb K l d mX6_weigh [(306, .aload_n 0), (307, .iload_n 2), (308, .putfield 197), (311, .iconst 0), (312, .istore 5)] 314 ls st n h mc ms Q) : zGo K l d mX6_weigh 306 ls st n h mc ms Q := k (by decide +kernel)
theorem kX6_weigh_314 {K : zK} {l : Launch} {d : Nat} {ls : List (Nat × Value)} {st : List Value} {n : Nat} {h : zH} {mc ms : Nat} {Q : zQ} (k : zGb K l d mX6_weigh [(314, .iload 5), (316, .iconst 4), (317, .if_icmp .ge 23), (320, .aload_n 0), (321, .getfield 78), (324, .iload 5), (326, .aload_n 0), (327, .getfield 81), (330, .iload 5), (332, .iaload), (333, .iastore), (334, .iinc 5 1), (337, .goto (-23))] 340 ls st n h mc ms Q) : zGo K l d mX6_weigh 314 ls st n h mc ms Q := k (by decide +kernel)
theorem kX6_weigh_340 {K : zK} {l : Launch} {d : Nat} {ls : List (Nat × Value)} {st : List Value} {n : Nat} {h : zH} {mc ms : Nat} {Q : zQ} (k : zGb K l d mX6_weigh [(340, .return_)] 341 ls st n h mc ms Q) : zGo K l d mX6_weigh 340 ls st n h mc ms Q := k (by decide +kernel)
theorem kX6_goThrough_0 {K : zK} {l : Launch} {d : Nat} {ls : List (Nat × Value)} {st : List Value} {n : Nat} {h : zH} {mc ms : Nat} {Q : zQ} (k : zGb K l d mX6_goThrough [(0, .iconst 0), (1, .istore_n 3), (2, .aload_n 0), (3, .getfield 60), (6, .iconst 0), (7, .iconst (-1)), (8, .iastore)] 9 ls st n h mc ms Q) : zGo K l d mX6_goThrough 0 ls st n h mc ms Q := k (by decide +kernel)
theorem kX6_goThrough_9 {K : zK} {l : Launch} {d : Nat} {ls : List (Nat × Value)} {st : List Value} {n : Nat} {h : zH} {mc ms : Nat} {Q : zQ} (k : zGb K l d mX6_goThrough [(9, .iload_n 3), (10, .ifCond .lt 143), (13, .aload_n 0), (14, .getfield 60), (17, .iload_n 3), (18, .dup2), (19, .iaload), (20, .iconst 1), (21, .iadd), (22, .iastore), (23, .aload_n 0), (24, .getfield 60), (27, .iload_n 3), (28, .iaload), (29, .aload_n 0), (30, .getfield 57), (33, .iload_n 3), (34, .iaload), (35, .if_icmp .ne 9), (38, .iinc 3 (-1)), (41, .goto (-32))] 44 ls st n h mc ms Q) : zGo K l d mX6_goThrough 9 ls st n h mc ms Q := k (by decide +kernel)
theorem kX6_goThrough_44 {K : zK} {l : Launch} {d : Nat} {ls : List (Nat × Value)} {st : List Value} {n : Nat} {h : zH} {mc ms : Nat} {Q : zQ} (k : zGb K l d mX6_goThrough [(44, .aload_n 0), (45, .getfield 51), (48, .bipush 64), (50, .iload_n 3), (51, .imul), (52, .aload_n 0), (53, .getfield 60), (56, .iload_n 3), (57, .iaload), (58, .iadd), (59, .iaload), (60, .istore 4), (62, .aload_n 0), (63, .getfield 75), (66, .iload_n 3), (67, .iaload), (68, .iload 4), (70, .invokestatic 179), (73, .iadd), (74, .aload_n 0), (75, .iload_n 3), (76, .iconst 1), (77, .iadd), (78, .invokevirtual 204), (81, .iadd), (82, .istore 5), (84, .iload_n 2), (85, .ifCond .eq 15), (88, .iload 5), (90, .aload_n 0), (91, .getfield 188), (94, .if_icmp .le 56), (97, .goto 12)] 100 ls st n h mc ms Q) : zGo K l d mX6_goThrough 44 ls st n h mc ms Q := k (by decide +kernel)
theorem kX6_goThrough_100 {K : zK} {l : Launch} {d : Nat} {ls : List (Nat × Value)} {st : List Value} {n : Nat} {h : zH} {mc ms : Nat} {Q : zQ} (k : zGb K l d mX6_goThrough [(100, .iload 5), (102, .aload_n 0), (103, .getfield 188), (106, .if_icmp .lt 44)] 109 ls st n h mc ms Q) : zGo K l d mX6_goThrough 100 ls st n h mc ms Q := k (by decide +kernel)
theorem kX6_goThrough_109 {K : zK} {l : Launch} {d : Nat} {ls : List (Nat × Value)} {st : List Value} {n : Nat} {h : zH} {mc ms : Nat} {Q : zQ} (k : zGb K l d mX6_goThrough [(109, .aload_n 0), (110, .iload_n 3), (111, .iload 4), (113, .iload_n 1), (114, .invokevirtual 207), (117, .ifCond .eq 33), (120, .aload_n 0), (121, .iload_n 3), (122, .iload 4), (124, .invokevirtual 210), (127, .iload_n 3), (128, .iconst 3), (129, .if_icmp .ne 11), (132, .aload_n 0), (133, .iload_n 2), (134, .invokevirtual 213), (137, .goto 13)] 140 ls st n h mc ms Q) : zGo K l d mX6_goThrough 109 ls st n h mc ms Q := k (by decide +kernel)
theorem kX6_goThrough_140 {K : zK} {l : Launch} {d : Nat} {ls : List (Nat × Value)} {st : List Value} {n : Nat} {h : zH} {mc ms : Nat} {Q : zQ} (k : zGb K l d mX6_goThrough [(140, .iinc 3 1), (143, .aload_n 0), (144, .getfield 60), (147, .iload_n 3), (148, .iconst (-1)), (149, .iastore)] 150 ls st n h mc ms Q) : zGo K l d mX6_goThrough 140 ls st n h mc ms Q := k (by decide +kernel)
theorem kX6_goThrough_150 {K : zK} {l : Launch} {d : Nat} {ls : List (Nat × Value)} {st : List Value} {n : Nat} {h : zH} {mc ms : Nat} {Q : zQ} (k : zGb K l d mX6_goThrough [(150, .goto (-141))] 153 ls st n h mc ms Q) : zGo K l d mX6_goThrough 150 ls st n h mc ms Q := k (by decide +kernel)
theorem kX6_goThrough_153 {K : zK} {l : Launch} {d : Nat} {ls : List (Nat × Value)} {st : List Value} {n : Nat} {h : zH} {mc ms : Nat} {Q : zQ} (k : zGb K l d mX6_goThrough [(153, .return_)] 154 ls st n h mc ms Q) : zGo K l d mX6_goThrough 153 ls st n h mc ms Q := k (by decide +kernel)
theorem kX6_mostBut_0 {K : zK} {l : Launch} {d : Nat} {ls : List (Nat × Value)} {st : List Value} {n : Nat} {h : zH} {mc ms : Nat} {Q : zQ} (k : zGb K l d mX6_mostBut [(0, .aload_n 0), (1, .iconst (-1)), (2, .putfield 188), (5, .aload_n 0), (6, .iload_n 1), (7, .iconst 1), (8, .invokevirtual 217), (11, .aload_n 0), (12, .getfield 188), (15, .ireturn)] 16 ls st n h mc ms Q) : zGo K l d mX6_mostBut 0 ls st n h mc ms Q := k (by decide +kernel)
theorem kX6_findNight_0 {K : zK} {l : Launch} {d : Nat} {ls : List (Nat × Value)} {st : List Value} {n : Nat} {h : zH} {mc ms : Nat} {Q : zQ} (k : zGb K l d mX6_findNight [(0, .aload_n 0), (1, .invokevirtual 185), (4, .aload_n 0), (5, .iconst 0), (6, .invokevirtual 221), (9, .pop), (10, .aload_n 0), (11, .iconst (-1)), (12, .putfield 197), (15, .aload_n 0), (16, .iconst (-1)), (17, .putfield 191), (20, .aload_n 0), (21, .iconst (-1)), (22, .putfield 194), (25, .aload_n 0), (26, .iconst 0), (27, .iconst 0), (28, .invokevirtual 217), (31, .return_)] 32 ls st n h mc ms Q) : zGo K l d mX6_findNight 0 ls st n h mc ms Q := k (by decide +kernel)
theorem kX6_night_0 {K : zK} {l : Launch} {d : Nat} {ls : List (Nat × Value)} {st : List Value} {n : Nat} {h : zH} {mc ms : Nat} {Q : zQ} (k : zGb K l d mX6_night [(0, .iload_n 1), (1, .iconst 0), (2, .iconst 3), (3, .invokestatic 87), (6, .ifCond .ne 5), (9, .iconst (-1)), (10, .ireturn)] 11 ls st n h mc ms Q) : zGo K l d mX6_night 0 ls st n h mc ms Q := k (by decide +kernel)
theorem kX6_night_11 {K : zK} {l : Launch} {d : Nat} {ls : List (Nat × Value)} {st : List Value} {n : Nat} {h : zH} {mc ms : Nat} {Q : zQ} (k : zGb K l d mX6_night [(11, .aload_n 0), (12, .invokevirtual 224), (15, .iload_n 1), (16, .ifCond .ne 15), (19, .aload_n 0), (20, .invokevirtual 173), (23, .aload_n 0), (24, .getfield 188), (27, .isub), (28, .goto 31)] 31 ls st n h mc ms Q) : zGo K l d mX6_night 11 ls st n h mc ms Q := k (by decide +kernel)
theorem kX6_night_31 {K : zK} {l : Launch} {d : Nat} {ls : List (Nat × Value)} {st : List Value} {n : Nat} {h : zH} {mc ms : Nat} {Q : zQ} (k : zGb K l d mX6_night [(31, .iload_n 1), (32, .iconst 1), (33, .if_icmp .ne 10), (36, .aload_n 0), (37, .getfield 197), (40, .goto 19)] 43 ls st n h mc ms Q) : zGo K l d mX6_night 31 ls st n h mc ms Q := k (by decide +kernel)
theorem kX6_night_43 {K : zK} {l : Launch} {d : Nat} {ls : List (Nat × Value)} {st : List Value} {n : Nat} {h : zH} {mc ms : Nat} {Q : zQ} (k : zGb K l d mX6_night [(43, .iload_n 1), (44, .iconst 2), (45, .if_icmp .ne 10), (48, .aload_n 0), (49, .getfield 191), (52, .goto 7)] 55 ls st n h mc ms Q) : zGo K l d mX6_night 43 ls st n h mc ms Q := k (by decide +kernel)
theorem kX6_night_55 {K : zK} {l : Launch} {d : Nat} {ls : List (Nat × Value)} {st : List Value} {n : Nat} {h : zH} {mc ms : Nat} {Q : zQ} (k : zGb K l d mX6_night [(55, .aload_n 0), (56, .getfield 194)] 59 ls st n h mc ms Q) : zGo K l d mX6_night 55 ls st n h mc ms Q := k (by decide +kernel)
theorem kX6_night_59 {K : zK} {l : Launch} {d : Nat} {ls : List (Nat × Value)} {st : List Value} {n : Nat} {h : zH} {mc ms : Nat} {Q : zQ} (k : zGb K l d mX6_night [(59, .ireturn)] 60 ls st n h mc ms Q) : zGo K l d mX6_night 59 ls st n h mc ms Q := k (by decide +kernel)
theorem kX6_best_0 {K : zK} {l : Launch} {d : Nat} {ls : List (Nat × Value)} {st : List Value} {n : Nat} {h : zH} {mc ms : Nat} {Q : zQ} (k : zGb K l d mX6_best [(0, .aload_n 0), (1, .iload_n 1), (2, .invokevirtual 153), (5, .ifCond .eq 11), (8, .aload_n 0), (9, .iload_n 2), (10, .invokevirtual 137), (13, .ifCond .ne 5)] 16 ls st n h mc ms Q) : zGo K l d mX6_best 0 ls st n h mc ms Q := k (by decide +kernel)
theorem kX6_best_16 {K : zK} {l : Launch} {d : Nat} {ls : List (Nat × Value)} {st : List Value} {n : Nat} {h : zH} {mc ms : Nat} {Q : zQ} (k : zGb K l d mX6_best [(16, .iconst (-1)), (17, .ireturn)] 18 ls st n h mc ms Q) : zGo K l d mX6_best 16 ls st n h mc ms Q := k (by decide +kernel)
theorem kX6_best_18 {K : zK} {l : Launch} {d : Nat} {ls : List (Nat × Value)} {st : List Value} {n : Nat} {h : zH} {mc ms : Nat} {Q : zQ} (k : zGb K l d mX6_best [(18, .aload_n 0), (19, .invokevirtual 224), (22, .aload_n 0), (23, .getfield 78), (26, .iload_n 2), (27, .iaload), (28, .iconst 2), (29, .iload_n 1), (30, .imul), (31, .ishr), (32, .iconst 3), (33, .iand), (34, .istore_n 3), (35, .iload_n 3), (36, .ifCond .ne 8), (39, .bipush (-9)), (41, .goto 6)] 44 ls st n h mc ms Q) : zGo K l d mX6_best 18 ls st n h mc ms Q := k (by decide +kernel)
theorem kX6_best_44 {K : zK} {l : Launch} {d : Nat} {ls : List (Nat × Value)} {st : List Value} {n : Nat} {h : zH} {mc ms : Nat} {Q : zQ} (k : zGb K l d mX6_best [(44, .iload_n 3), (45, .iconst 1), (46, .isub)] 47 ls st n h mc ms Q) : zGo K l d mX6_best 44 ls st n h mc ms Q := k (by decide +kernel)
theorem kX6_best_47 {K : zK} {l : Launch} {d : Nat} {ls : List (Nat × Value)} {st : List Value} {n : Nat} {h : zH} {mc ms : Nat} {Q : zQ} (k : zGb K l d mX6_best [(47, .ireturn)] 48 ls st n h mc ms Q) : zGo K l d mX6_best 47 ls st n h mc ms Q := k (by decide +kernel)
theorem kX6_needed_0 {K : zK} {l : Launch} {d : Nat} {ls : List (Nat × Value)} {st : List Value} {n : Nat} {h : zH} {mc ms : Nat} {Q : zQ} (k : zGb K l d mX6_needed [(0, .aload_n 0), (1, .invokevirtual 185), (4, .aload_n 0), (5, .iconst 0), (6, .invokevirtual 221), (9, .istore_n 1), (10, .iconst 0), (11, .istore_n 2), (12, .iconst 0), (13, .istore_n 3)] 14 ls st n h mc ms Q) : zGo K l d mX6_needed 0 ls st n h mc ms Q := k (by decide +kernel)
theorem kX6_needed_14 {K : zK} {l : Launch} {d : Nat} {ls : List (Nat × Value)} {st : List Value} {n : Nat} {h : zH} {mc ms : Nat} {Q : zQ} (k : zGb K l d mX6_needed [(14, .iload_n 3), (15, .aload_n 0), (16, .getfield 20), (19, .iconst 0), (20, .iaload), (21, .if_icmp .ge 30), (24, .iload_n 2), (25, .aload_n 0), (26, .iconst 1), (27, .iload_n 3), (28, .ishl), (29, .invokevirtual 221), (32, .iload_n 1), (33, .if_icmp .ge 9), (36, .iconst 1), (37, .iload_n 3), (38, .ishl), (39, .goto 4)] 42 ls st n h mc ms Q) : zGo K l d mX6_needed 14 ls st n h mc ms Q := k (by decide +kernel)
theorem kX6_needed_42 {K : zK} {l : Launch} {d : Nat} {ls : List (Nat × Value)} {st : List Value} {n : Nat} {h : zH} {mc ms : Nat} {Q : zQ} (k : zGb K l d mX6_needed [(42, .iconst 0)] 43 ls st n h mc ms Q) : zGo K l d mX6_needed 42 ls st n h mc ms Q := k (by decide +kernel)
theorem kX6_needed_43 {K : zK} {l : Launch} {d : Nat} {ls : List (Nat × Value)} {st : List Value} {n : Nat} {h : zH} {mc ms : Nat} {Q : zQ} (k : zGb K l d mX6_needed [(43, .ior), (44, .istore_n 2), (45, .iinc 3 1), (48, .goto (-34))] 51 ls st n h mc ms Q) : zGo K l d mX6_needed 43 ls st n h mc ms Q := k (by decide +kernel)
theorem kX6_needed_51 {K : zK} {l : Launch} {d : Nat} {ls : List (Nat × Value)} {st : List Value} {n : Nat} {h : zH} {mc ms : Nat} {Q : zQ} (k : zGb K l d mX6_needed [(51, .iload_n 2), (52, .ireturn)] 53 ls st n h mc ms Q) : zGo K l d mX6_needed 51 ls st n h mc ms Q := k (by decide +kernel)
theorem kX6_common_0 {K : zK} {l : Launch} {d : Nat} {ls : List (Nat × Value)} {st : List Value} {n : Nat} {h : zH} {mc ms : Nat} {Q : zQ} (k : zGb K l d mX6_common [(0, .iload_n 0), (1, .istore_n 2), (2, .iload_n 1), (3, .istore_n 3)] 4 ls st n h mc ms Q) : zGo K l d mX6_common 0 ls st n h mc ms Q := k (by decide +kernel)
theorem kX6_common_4 {K : zK} {l : Launch} {d : Nat} {ls : List (Nat × Value)} {st : List Value} {n : Nat} {h : zH} {mc ms : Nat} {Q : zQ} (k : zGb K l d mX6_common [(4, .iload_n 3), (5, .ifCond .eq 16), (8, .iload_n 2), (9, .iload_n 3), (10, .irem), (11, .istore 4), (13, .iload_n 3), (14, .istore_n 2), (15, .iload 4), (17, .istore_n 3), (18, .goto (-14))] 21 ls st n h mc ms Q) : zGo K l d mX6_common 4 ls st n h mc ms Q := k (by decide +kernel)
theorem kX6_common_21 {K : zK} {l : Launch} {d : Nat} {ls : List (Nat × Value)} {st : List Value} {n : Nat} {h : zH} {mc ms : Nat} {Q : zQ} (k : zGb K l d mX6_common [(21, .iload_n 2), (22, .ireturn)] 23 ls st n h mc ms Q) : zGo K l d mX6_common 21 ls st n h mc ms Q := k (by decide +kernel)
theorem kX6_odds_0 {K : zK} {l : Launch} {d : Nat} {ls : List (Nat × Value)} {st : List Value} {n : Nat} {h : zH} {mc ms : Nat} {Q : zQ} (k : zGb K l d mX6_odds [(0, .aload_n 0), (1, .iload_n 1), (2, .invokevirtual 137), (5, .ifCond .eq 12), (8, .iload_n 2), (9, .iconst 0), (10, .iconst 1), (11, .invokestatic 87), (14, .ifCond .ne 5)] 17 ls st n h mc ms Q) : zGo K l d mX6_odds 0 ls st n h mc ms Q := k (by decide +kernel)
theorem kX6_odds_17 {K : zK} {l : Launch} {d : Nat} {ls : List (Nat × Value)} {st : List Value} {n : Nat} {h : zH} {mc ms : Nat} {Q : zQ} (k : zGb K l d mX6_odds [(17, .iconst (-1)), (18, .ireturn)] 19 ls st n h mc ms Q) : zGo K l d mX6_odds 17 ls st n h mc ms Q := k (by decide +kernel)
theorem kX6_odds_19 {K : zK} {l : Launch} {d : Nat} {ls : List (Nat × Value)} {st : List Value} {n : Nat} {h : zH} {mc ms : Nat} {Q : zQ} (k : zGb K l d mX6_odds [(19, .aload_n 0), (20, .invokevirtual 185), (23, .iconst 0), (24, .istore_n 3), (25, .iconst 1), (26, .istore 4), (28, .iconst 0), (29, .istore 5)] 31 ls st n h mc ms Q) : zGo K l d mX6_odds 19 ls st n h mc ms Q := k (by decide +kernel)
theorem kX6_odds_31 {K : zK} {l : Launch} {d : Nat} {ls : List (Nat × Value)} {st : List Value} {n : Nat} {h : zH} {mc ms : Nat} {Q : zQ} (k : zGb K l d mX6_odds [(31, .iload 5), (33, .aload_n 0), (34, .getfield 20), (37, .iconst 0), (38, .iaload), (39, .if_icmp .ge 16), (42, .iload 4), (44, .bipush 10), (46, .imul), (47, .istore 4), (49, .iinc 5 1), (52, .goto (-21))] 55 ls st n h mc ms Q) : zGo K l d mX6_odds 31 ls st n h mc ms Q := k (by decide +kernel)
theorem kX6_odds_55 {K : zK} {l : Launch} {d : Nat} {ls : List (Nat × Value)} {st : List Value} {n : Nat} {h : zH} {mc ms : Nat} {Q : zQ} (k : zGb K l d mX6_odds [(55, .iconst 0), (56, .istore 5)] 58 ls st n h mc ms Q) : zGo K l d mX6_odds 55 ls st n h mc ms Q := k (by decide +kernel)
theorem kX6_odds_58 {K : zK} {l : Launch} {d : Nat} {ls : List (Nat × Value)} {st : List Value} {n : Nat} {h : zH} {mc ms : Nat} {Q : zQ} (k : zGb K l d mX6_odds [(58, .iload 5), (60, .iconst 1), (61, .aload_n 0), (62, .getfield 20), (65, .iconst 0), (66, .iaload), (67, .ishl), (68, .if_icmp .ge 155), (71, .iconst 0), (72, .istore 6), (74, .iconst 1), (75, .istore 7), (77, .iconst 0), (78, .istore 8)] 80 ls st n h mc ms Q) : zGo K l d mX6_odds 58 ls st n h mc ms Q := k (by decide +kernel)
theorem kX6_odds_80 {K : zK} {l : Launch} {d : Nat} {ls : List (Nat × Value)} {st : List Value} {n : Nat} {h : zH} {mc ms : Nat} {Q : zQ} (k : zGb K l d mX6_odds [(80, .iload 8), (82, .aload_n 0), (83, .getfield 20), (86, .iconst 0), (87, .iaload), (88, .if_icmp .ge 45), (91, .iload 7), (93, .iload 5), (95, .iload 8), (97, .ishr), (98, .iconst 1), (99, .iand), (100, .iconst 1), (101, .if_icmp .ne 16), (104, .bipush 10), (106, .aload_n 0), (107, .getfield 32), (110, .iload 8), (112, .iaload), (113, .isub), (114, .goto 10)] 117 ls st n h mc ms Q) : zGo K l d mX6_odds 80 ls st n h mc ms Q := k (by decide +kernel)
theorem kX6_odds_117 {K : zK} {l : Launch} {d : Nat} {ls : List (Nat × Value)} {st : List Value} {n : Nat} {h : zH} {mc ms : Nat} {Q : zQ} (k : zGb K l d mX6_odds [(117, .aload_n 0), (118, .getfield 32), (121, .iload 8), (123, .iaload)] 124 ls st n h mc ms Q) : zGo K l d mX6_odds 117 ls st n h mc ms Q := k (by decide +kernel)
theorem kX6_odds_124 {K : zK} {l : Launch} {d : Nat} {ls : List (Nat × Value)} {st : List Value} {n : Nat} {h : zH} {mc ms : Nat} {Q : zQ} (k : zGb K l d mX6_odds [(124, .imul), (125, .istore 7), (127, .iinc 8 1), (130, .goto (-50))] 133 ls st n h mc ms Q) : zGo K l d mX6_odds 124 ls st n h mc ms Q := k (by decide +kernel)
theorem kX6_odds_133 {K : zK} {l : Launch} {d : Nat} {ls : List (Nat × Value)} {st : List Value} {n : Nat} {h : zH} {mc ms : Nat} {Q : zQ} (k : zGb K l d mX6_odds [(133, .iconst 0), (134, .istore 8)] 136 ls st n h mc ms Q) : zGo K l d mX6_odds 133 ls st n h mc ms Q := k (by decide +kernel)
theorem kX6_odds_136 {K : zK} {l : Launch} {d : Nat} {ls : List (Nat × Value)} {st : List Value} {n : Nat} {h : zH} {mc ms : Nat} {Q : zQ} (k : zGb K l d mX6_odds [(136, .iload 8), (138, .aload_n 0), (139, .getfield 57), (142, .iload_n 1), (143, .iaload), (144, .if_icmp .ge 59), (147, .aload_n 0), (148, .getfield 51), (151, .bipush 64), (153, .iload_n 1), (154, .imul), (155, .iload 8), (157, .iadd), (158, .iaload), (159, .istore 9), (161, .iload 6), (163, .ifCond .ne 27), (166, .iload 9), (168, .invokestatic 179), (171, .aload_n 0), (172, .getfield 17), (175, .iload_n 1), (176, .iaload), (177, .if_icmp .ne 17), (180, .iload 9), (182, .iload 5), (184, .iconst (-1)), (185, .ixor), (186, .iand), (187, .ifCond .ne 7)] 190 ls st n h mc ms Q) : zGo K l d mX6_odds 136 ls st n h mc ms Q := k (by decide +kernel)
theorem kX6_odds_190 {K : zK} {l : Launch} {d : Nat} {ls : List (Nat × Value)} {st : List Value} {n : Nat} {h : zH} {mc ms : Nat} {Q : zQ} (k : zGb K l d mX6_odds [(190, .iconst 1), (191, .goto 4)] 194 ls st n h mc ms Q) : zGo K l d mX6_odds 190 ls st n h mc ms Q := k (by decide +kernel)
theorem kX6_odds_194 {K : zK} {l : Launch} {d : Nat} {ls : List (Nat × Value)} {st : List Value} {n : Nat} {h : zH} {mc ms : Nat} {Q : zQ} (k : zGb K l d mX6_odds [(194, .iconst 0)] 195 ls st n h mc ms Q) : zGo K l d mX6_odds 194 ls st n h mc ms Q := k (by decide +kernel)
theorem kX6_odds_195 {K : zK} {l : Launch} {d : Nat} {ls : List (Nat × Value)} {st : List Value} {n : Nat} {h : zH} {mc ms : Nat} {Q : zQ} (k : zGb K l d mX6_odds [(195, .istore 6), (197, .iinc 8 1), (200, .goto (-64))] 203 ls st n h mc ms Q) : zGo K l d mX6_odds 195 ls st n h mc ms Q := k (by decide +kernel)
theorem kX6_odds_203 {K : zK} {l : Launch} {d : Nat} {ls : List (Nat × Value)} {st : List Value} {n : Nat} {h : zH} {mc ms : Nat} {Q : zQ} (k : zGb K l d mX6_odds [(203, .iload_n 3), (204, .iload 6), (206, .ifCond .eq 8), (209, .iload 7), (211, .goto 4)] 214 ls st n h mc ms Q) : zGo K l d mX6_odds 203 ls st n h mc ms Q := k (by decide +kernel)
theorem kX6_odds_214 {K : zK} {l : Launch} {d : Nat} {ls : List (Nat × Value)} {st : List Value} {n : Nat} {h : zH} {mc ms : Nat} {Q : zQ} (k : zGb K l d mX6_odds [(214, .iconst 0)] 215 ls st n h mc ms Q) : zGo K l d mX6_odds 214 ls st n h mc ms Q := k (by decide +kernel)
theorem kX6_odds_215 {K : zK} {l : Launch} {d : Nat} {ls : List (Nat × Value)} {st : List Value} {n : Nat} {h : zH} {mc ms : Nat} {Q : zQ} (k : zGb K l d mX6_odds [(215, .iadd), (216, .istore_n 3), (217, .iinc 5 1), (220, .goto (-162))] 223 ls st n h mc ms Q) : zGo K l d mX6_odds 215 ls st n h mc ms Q := k (by decide +kernel)
theorem kX6_odds_223 {K : zK} {l : Launch} {d : Nat} {ls : List (Nat × Value)} {st : List Value} {n : Nat} {h : zH} {mc ms : Nat} {Q : zQ} (k : zGb K l d mX6_odds [(223, .iload_n 3), (224, .iload 4), (226, .invokestatic 227), (229, .istore 5), (231, .iload_n 2), (232, .ifCond .ne 10), (235, .iload_n 3), (236, .iload 5), (238, .idiv), (239, .goto 8)] 242 ls st n h mc ms Q) : zGo K l d mX6_odds 223 ls st n h mc ms Q := k (by decide +kernel)
theorem kX6_odds_242 {K : zK} {l : Launch} {d : Nat} {ls : List (Nat × Value)} {st : List Value} {n : Nat} {h : zH} {mc ms : Nat} {Q : zQ} (k : zGb K l d mX6_odds [(242, .iload 4), (244, .iload 5), (246, .idiv)] 247 ls st n h mc ms Q) : zGo K l d mX6_odds 242 ls st n h mc ms Q := k (by decide +kernel)
theorem kX6_odds_247 {K : zK} {l : Launch} {d : Nat} {ls : List (Nat × Value)} {st : List Value} {n : Nat} {h : zH} {mc ms : Nat} {Q : zQ} (k : zGb K l d mX6_odds [(247, .ireturn)] 248 ls st n h mc ms Q) : zGo K l d mX6_odds 247 ls st n h mc ms Q := k (by decide +kernel)
theorem kX6_stands_0 {K : zK} {l : Launch} {d : Nat} {ls : List (Nat × Value)} {st : List Value} {n : Nat} {h : zH} {mc ms : Nat} {Q : zQ} (k : zGb K l d mX6_stands [(0, .iload_n 1), (1, .iconst 0), (2, .iconst 1), (3, .invokestatic 87), (6, .ifCond .ne 5), (9, .iconst (-1)), (10, .ireturn)] 11 ls st n h mc ms Q) : zGo K l d mX6_stands 0 ls st n h mc ms Q := k (by decide +kernel)
theorem kX6_stands_11 {K : zK} {l : Launch} {d : Nat} {ls : List (Nat × Value)} {st : List Value} {n : Nat} {h : zH} {mc ms : Nat} {Q : zQ} (k : zGb K l d mX6_stands [(11, .iconst 0), (12, .istore_n 2), (13, .iconst 1), (14, .istore_n 3)] 15 ls st n h mc ms Q) : zGo K l d mX6_stands 11 ls st n h mc ms Q := k (by decide +kernel)
theorem kX6_stands_15 {K : zK} {l : Launch} {d : Nat} {ls : List (Nat × Value)} {st : List Value} {n : Nat} {h : zH} {mc ms : Nat} {Q : zQ} (k : zGb K l d mX6_stands [(15, .iload_n 3), (16, .bipush 60), (18, .if_icmp .gt 28), (21, .aload_n 0), (22, .iload_n 3), (23, .invokevirtual 176), (26, .aload_n 0), (27, .iload_n 2), (28, .invokevirtual 176), (31, .if_icmp .ge 7), (34, .iload_n 3), (35, .goto 4)] 38 ls st n h mc ms Q) : zGo K l d mX6_stands 15 ls st n h mc ms Q := k (by decide +kernel)
theorem kX6_stands_38 {K : zK} {l : Launch} {d : Nat} {ls : List (Nat × Value)} {st : List Value} {n : Nat} {h : zH} {mc ms : Nat} {Q : zQ} (k : zGb K l d mX6_stands [(38, .iload_n 2)] 39 ls st n h mc ms Q) : zGo K l d mX6_stands 38 ls st n h mc ms Q := k (by decide +kernel)
theorem kX6_stands_39 {K : zK} {l : Launch} {d : Nat} {ls : List (Nat × Value)} {st : List Value} {n : Nat} {h : zH} {mc ms : Nat} {Q : zQ} (k : zGb K l d mX6_stands [(39, .istore_n 2), (40, .iinc 3 1), (43, .goto (-28))] 46 ls st n h mc ms Q) : zGo K l d mX6_stands 39 ls st n h mc ms Q := k (by decide +kernel)
theorem kX6_stands_46 {K : zK} {l : Launch} {d : Nat} {ls : List (Nat × Value)} {st : List Value} {n : Nat} {h : zH} {mc ms : Nat} {Q : zQ} (k : zGb K l d mX6_stands [(46, .iload_n 1), (47, .ifCond .ne 7), (50, .iload_n 2), (51, .goto 8)] 54 ls st n h mc ms Q) : zGo K l d mX6_stands 46 ls st n h mc ms Q := k (by decide +kernel)
theorem kX6_stands_54 {K : zK} {l : Launch} {d : Nat} {ls : List (Nat × Value)} {st : List Value} {n : Nat} {h : zH} {mc ms : Nat} {Q : zQ} (k : zGb K l d mX6_stands [(54, .aload_n 0), (55, .iload_n 2), (56, .invokevirtual 176)] 59 ls st n h mc ms Q) : zGo K l d mX6_stands 54 ls st n h mc ms Q := k (by decide +kernel)
theorem kX6_stands_59 {K : zK} {l : Launch} {d : Nat} {ls : List (Nat × Value)} {st : List Value} {n : Nat} {h : zH} {mc ms : Nat} {Q : zQ} (k : zGb K l d mX6_stands [(59, .ireturn)] 60 ls st n h mc ms Q) : zGo K l d mX6_stands 59 ls st n h mc ms Q := k (by decide +kernel)
theorem kX6_heard_0 {K : zK} {l : Launch} {d : Nat} {ls : List (Nat × Value)} {st : List Value} {n : Nat} {h : zH} {mc ms : Nat} {Q : zQ} (k : zGb K l d mX6_heard [(0, .aload_n 0), (1, .iload_n 1), (2, .invokevirtual 137), (5, .ifCond .eq 12), (8, .iload_n 2), (9, .iconst 0), (10, .iconst 3), (11, .invokestatic 87), (14, .ifCond .ne 5)] 17 ls st n h mc ms Q) : zGo K l d mX6_heard 0 ls st n h mc ms Q := k (by decide +kernel)
theorem kX6_heard_17 {K : zK} {l : Launch} {d : Nat} {ls : List (Nat × Value)} {st : List Value} {n : Nat} {h : zH} {mc ms : Nat} {Q : zQ} (k : zGb K l d mX6_heard [(17, .iconst (-1)), (18, .ireturn)] 19 ls st n h mc ms Q) : zGo K l d mX6_heard 17 ls st n h mc ms Q := k (by decide +kernel)
theorem kX6_heard_19 {K : zK} {l : Launch} {d : Nat} {ls : List (Nat × Value)} {st : List Value} {n : Nat} {h : zH} {mc ms : Nat} {Q : zQ} (k : zGb K l d mX6_heard [(19, .aload_n 0), (20, .getfield 44), (23, .bipush 13), (25, .iload_n 1), (26, .iadd), (27, .iaload), (28, .istore_n 3), (29, .aload_n 0), (30, .getfield 44), (33, .bipush 13), (35, .iload_n 1), (36, .iadd), (37, .iload_n 2), (38, .iastore), (39, .iload_n 3), (40, .ireturn)] 41 ls st n h mc ms Q) : zGo K l d mX6_heard 19 ls st n h mc ms Q := k (by decide +kernel)
theorem kX6_forget_0 {K : zK} {l : Launch} {d : Nat} {ls : List (Nat × Value)} {st : List Value} {n : Nat} {h : zH} {mc ms : Nat} {Q : zQ} (k : zGb K l d mX6_forget [(0, .iconst 0), (1, .istore_n 1), (2, .iconst 0), (3, .istore_n 2)] 4 ls st n h mc ms Q) : zGo K l d mX6_forget 0 ls st n h mc ms Q := k (by decide +kernel)
theorem kX6_forget_4 {K : zK} {l : Launch} {d : Nat} {ls : List (Nat × Value)} {st : List Value} {n : Nat} {h : zH} {mc ms : Nat} {Q : zQ} (k : zGb K l d mX6_forget [(4, .iload_n 2), (5, .iconst 4), (6, .if_icmp .ge 42), (9, .iload_n 1), (10, .aload_n 0), (11, .getfield 44), (14, .bipush 13), (16, .iload_n 2), (17, .iadd), (18, .iaload), (19, .bipush (-9)), (21, .if_icmp .ne 7), (24, .iconst 0), (25, .goto 4)] 28 ls st n h mc ms Q) : zGo K l d mX6_forget 4 ls st n h mc ms Q := k (by decide +kernel)
theorem kX6_forget_28 {K : zK} {l : Launch} {d : Nat} {ls : List (Nat × Value)} {st : List Value} {n : Nat} {h : zH} {mc ms : Nat} {Q : zQ} (k : zGb K l d mX6_forget [(28, .iconst 1)] 29 ls st n h mc ms Q) : zGo K l d mX6_forget 28 ls st n h mc ms Q := k (by decide +kernel)
theorem kX6_forget_29 {K : zK} {l : Launch} {d : Nat} {ls : List (Nat × Value)} {st : List Value} {n : Nat} {h : zH} {mc ms : Nat} {Q : zQ} (k : zGb K l d mX6_forget [(29, .iadd), (30, .istore_n 1), (31, .aload_n 0), (32, .getfield 44), (35, .bipush 13), (37, .iload_n 2), (38, .iadd), (39, .bipush (-9)), (41, .iastore), (42, .iinc 2 1), (45, .goto (-41))] 48 ls st n h mc ms Q) : zGo K l d mX6_forget 29 ls st n h mc ms Q := k (by decide +kernel)
theorem kX6_forget_48 {K : zK} {l : Launch} {d : Nat} {ls : List (Nat × Value)} {st : List Value} {n : Nat} {h : zH} {mc ms : Nat} {Q : zQ} (k : zGb K l d mX6_forget [(48, .iload_n 1), (49, .ireturn)] 50 ls st n h mc ms Q) : zGo K l d mX6_forget 48 ls st n h mc ms Q := k (by decide +kernel)
theorem kX6_fits_0 {K : zK} {l : Launch} {d : Nat} {ls : List (Nat × Value)} {st : List Value} {n : Nat} {h : zH} {mc ms : Nat} {Q : zQ} (k : zGb K l d mX6_fits [(0, .iconst 1), (1, .istore_n 2), (2, .iconst 0), (3, .istore_n 3)] 4 ls st n h mc ms Q) : zGo K l d mX6_fits 0 ls st n h mc ms Q := k (by decide +kernel)
theorem kX6_fits_4 {K : zK} {l : Launch} {d : Nat} {ls : List (Nat × Value)} {st : List Value} {n : Nat} {h : zH} {mc ms : Nat} {Q : zQ} (k : zGb K l d mX6_fits [(4, .iload_n 3), (5, .iconst 4), (6, .if_icmp .ge 104), (9, .iconst 0), (10, .istore 4), (12, .iconst 0), (13, .istore 5)] 15 ls st n h mc ms Q) : zGo K l d mX6_fits 4 ls st n h mc ms Q := k (by decide +kernel)
theorem kX6_fits_15 {K : zK} {l : Launch} {d : Nat} {ls : List (Nat × Value)} {st : List Value} {n : Nat} {h : zH} {mc ms : Nat} {Q : zQ} (k : zGb K l d mX6_fits [(15, .iload 5), (17, .iconst 3), (18, .if_icmp .ge 48), (21, .aload_n 0), (22, .getfield 44), (25, .iconst 3), (26, .iload_n 3), (27, .imul), (28, .iload 5), (30, .iadd), (31, .iaload), (32, .istore 6), (34, .iload 4), (36, .iload 6), (38, .bipush (-9)), (40, .if_icmp .eq 16), (43, .iload_n 1), (44, .iload 6), (46, .ishr), (47, .iconst 1), (48, .iand), (49, .ifCond .ne 7), (52, .iconst 1), (53, .goto 4)] 56 ls st n h mc ms Q) : zGo K l d mX6_fits 15 ls st n h mc ms Q := k (by decide +kernel)
theorem kX6_fits_56 {K : zK} {l : Launch} {d : Nat} {ls : List (Nat × Value)} {st : List Value} {n : Nat} {h : zH} {mc ms : Nat} {Q : zQ} (k : zGb K l d mX6_fits [(56, .iconst 0)] 57 ls st n h mc ms Q) : zGo K l d mX6_fits 56 ls st n h mc ms Q := k (by decide +kernel)
theorem kX6_fits_57 {K : zK} {l : Launch} {d : Nat} {ls : List (Nat × Value)} {st : List Value} {n : Nat} {h : zH} {mc ms : Nat} {Q : zQ} (k : zGb K l d mX6_fits [(57, .iadd), (58, .istore 4), (60, .iinc 5 1), (63, .goto (-48))] 66 ls st n h mc ms Q) : zGo K l d mX6_fits 57 ls st n h mc ms Q := k (by decide +kernel)
theorem kX6_fits_66 {K : zK} {l : Launch} {d : Nat} {ls : List (Nat × Value)} {st : List Value} {n : Nat} {h : zH} {mc ms : Nat} {Q : zQ} (k : zGb K l d mX6_fits [(66, .iload_n 2), (67, .ifCond .eq 35), (70, .aload_n 0), (71, .getfield 44), (74, .bipush 13), (76, .iload_n 3), (77, .iadd), (78, .iaload), (79, .bipush (-9)), (81, .if_icmp .eq 17), (84, .aload_n 0), (85, .getfield 44), (88, .bipush 13), (90, .iload_n 3), (91, .iadd), (92, .iaload), (93, .iload 4), (95, .if_icmp .ne 7)] 98 ls st n h mc ms Q) : zGo K l d mX6_fits 66 ls st n h mc ms Q := k (by decide +kernel)
theorem kX6_fits_98 {K : zK} {l : Launch} {d : Nat} {ls : List (Nat × Value)} {st : List Value} {n : Nat} {h : zH} {mc ms : Nat} {Q : zQ} (k : zGb K l d mX6_fits [(98, .iconst 1), (99, .goto 4)] 102 ls st n h mc ms Q) : zGo K l d mX6_fits 98 ls st n h mc ms Q := k (by decide +kernel)
theorem kX6_fits_102 {K : zK} {l : Launch} {d : Nat} {ls : List (Nat × Value)} {st : List Value} {n : Nat} {h : zH} {mc ms : Nat} {Q : zQ} (k : zGb K l d mX6_fits [(102, .iconst 0)] 103 ls st n h mc ms Q) : zGo K l d mX6_fits 102 ls st n h mc ms Q := k (by decide +kernel)
theorem kX6_fits_103 {K : zK} {l : Launch} {d : Nat} {ls : List (Nat × Value)} {st : List Value} {n : Nat} {h : zH} {mc ms : Nat} {Q : zQ} (k : zGb K l d mX6_fits [(103, .istore_n 2), (104, .iinc 3 1), (107, .goto (-103))] 110 ls st n h mc ms Q) : zGo K l d mX6_fits 103 ls st n h mc ms Q := k (by decide +kernel)
theorem kX6_fits_110 {K : zK} {l : Launch} {d : Nat} {ls : List (Nat × Value)} {st : List Value} {n : Nat} {h : zH} {mc ms : Nat} {Q : zQ} (k : zGb K l d mX6_fits [(110, .iload_n 2), (111, .ireturn)] 112 ls st n h mc ms Q) : zGo K l d mX6_fits 110 ls st n h mc ms Q := k (by decide +kernel)
theorem kX6_away_0 {K : zK} {l : Launch} {d : Nat} {ls : List (Nat × Value)} {st : List Value} {n : Nat} {h : zH} {mc ms : Nat} {Q : zQ} (k : zGb K l d mX6_away [(0, .iload_n 1), (1, .iconst 0), (2, .iconst 2), (3, .invokestatic 87), (6, .ifCond .ne 5), (9, .iconst (-1)), (10, .ireturn)] 11 ls st n h mc ms Q) : zGo K l d mX6_away 0 ls st n h mc ms Q := k (by decide +kernel)
theorem kX6_away_11 {K : zK} {l : Launch} {d : Nat} {ls : List (Nat × Value)} {st : List Value} {n : Nat} {h : zH} {mc ms : Nat} {Q : zQ} (k : zGb K l d mX6_away [(11, .iconst 0), (12, .istore_n 2), (13, .iconst 0), (14, .istore_n 3)] 15 ls st n h mc ms Q) : zGo K l d mX6_away 11 ls st n h mc ms Q := k (by decide +kernel)
theorem kX6_away_15 {K : zK} {l : Launch} {d : Nat} {ls : List (Nat × Value)} {st : List Value} {n : Nat} {h : zH} {mc ms : Nat} {Q : zQ} (k : zGb K l d mX6_away [(15, .iload_n 3), (16, .aload_n 0), (17, .getfield 20), (20, .iconst 0), (21, .iaload), (22, .if_icmp .ge 27), (25, .iload_n 2), (26, .aload_n 0), (27, .iload_n 3), (28, .invokevirtual 147), (31, .ifCond .le 9), (34, .iconst 1), (35, .iload_n 3), (36, .ishl), (37, .goto 4)] 40 ls st n h mc ms Q) : zGo K l d mX6_away 15 ls st n h mc ms Q := k (by decide +kernel)
theorem kX6_away_40 {K : zK} {l : Launch} {d : Nat} {ls : List (Nat × Value)} {st : List Value} {n : Nat} {h : zH} {mc ms : Nat} {Q : zQ} (k : zGb K l d mX6_away [(40, .iconst 0)] 41 ls st n h mc ms Q) : zGo K l d mX6_away 40 ls st n h mc ms Q := k (by decide +kernel)
theorem kX6_away_41 {K : zK} {l : Launch} {d : Nat} {ls : List (Nat × Value)} {st : List Value} {n : Nat} {h : zH} {mc ms : Nat} {Q : zQ} (k : zGb K l d mX6_away [(41, .ior), (42, .istore_n 2), (43, .iinc 3 1), (46, .goto (-31))] 49 ls st n h mc ms Q) : zGo K l d mX6_away 41 ls st n h mc ms Q := k (by decide +kernel)
theorem kX6_away_49 {K : zK} {l : Launch} {d : Nat} {ls : List (Nat × Value)} {st : List Value} {n : Nat} {h : zH} {mc ms : Nat} {Q : zQ} (k : zGb K l d mX6_away [(49, .iconst 0), (50, .istore_n 3), (51, .iload_n 2), (52, .istore 4), (54, .iconst 0), (55, .istore 5), (57, .iconst 0), (58, .istore 6)] 60 ls st n h mc ms Q) : zGo K l d mX6_away 49 ls st n h mc ms Q := k (by decide +kernel)
theorem kX6_away_60 {K : zK} {l : Launch} {d : Nat} {ls : List (Nat × Value)} {st : List Value} {n : Nat} {h : zH} {mc ms : Nat} {Q : zQ} (k : zGb K l d mX6_away [(60, .iload 6), (62, .iload_n 2), (63, .if_icmp .gt 44), (66, .iload 6), (68, .iload_n 2), (69, .iconst (-1)), (70, .ixor), (71, .iand), (72, .ifCond .ne 29), (75, .aload_n 0), (76, .iload 6), (78, .invokevirtual 230), (81, .ifCond .eq 20), (84, .iinc 3 1), (87, .iload 4), (89, .iload 6), (91, .iand), (92, .istore 4), (94, .iload 5), (96, .iload 6), (98, .ior), (99, .istore 5)] 101 ls st n h mc ms Q) : zGo K l d mX6_away 60 ls st n h mc ms Q := k (by decide +kernel)
theorem kX6_away_101 {K : zK} {l : Launch} {d : Nat} {ls : List (Nat × Value)} {st : List Value} {n : Nat} {h : zH} {mc ms : Nat} {Q : zQ} (k : zGb K l d mX6_away [(101, .iinc 6 1), (104, .goto (-44))] 107 ls st n h mc ms Q) : zGo K l d mX6_away 101 ls st n h mc ms Q := k (by decide +kernel)
theorem kX6_away_107 {K : zK} {l : Launch} {d : Nat} {ls : List (Nat × Value)} {st : List Value} {n : Nat} {h : zH} {mc ms : Nat} {Q : zQ} (k : zGb K l d mX6_away [(107, .iload_n 1), (108, .ifCond .ne 7), (111, .iload_n 3), (112, .goto 27)] 115 ls st n h mc ms Q) : zGo K l d mX6_away 107 ls st n h mc ms Q := k (by decide +kernel)
theorem kX6_away_115 {K : zK} {l : Launch} {d : Nat} {ls : List (Nat × Value)} {st : List Value} {n : Nat} {h : zH} {mc ms : Nat} {Q : zQ} (k : zGb K l d mX6_away [(115, .iload_n 1), (116, .iconst 1), (117, .if_icmp .ne 16), (120, .iload_n 3), (121, .ifCond .ne 7), (124, .iconst 0), (125, .goto 14)] 128 ls st n h mc ms Q) : zGo K l d mX6_away 115 ls st n h mc ms Q := k (by decide +kernel)
theorem kX6_away_128 {K : zK} {l : Launch} {d : Nat} {ls : List (Nat × Value)} {st : List Value} {n : Nat} {h : zH} {mc ms : Nat} {Q : zQ} (k : zGb K l d mX6_away [(128, .iload 4), (130, .goto 9)] 133 ls st n h mc ms Q) : zGo K l d mX6_away 128 ls st n h mc ms Q := k (by decide +kernel)
theorem kX6_away_133 {K : zK} {l : Launch} {d : Nat} {ls : List (Nat × Value)} {st : List Value} {n : Nat} {h : zH} {mc ms : Nat} {Q : zQ} (k : zGb K l d mX6_away [(133, .iload_n 2), (134, .iload 5), (136, .iconst (-1)), (137, .ixor), (138, .iand)] 139 ls st n h mc ms Q) : zGo K l d mX6_away 133 ls st n h mc ms Q := k (by decide +kernel)
theorem kX6_away_139 {K : zK} {l : Launch} {d : Nat} {ls : List (Nat × Value)} {st : List Value} {n : Nat} {h : zH} {mc ms : Nat} {Q : zQ} (k : zGb K l d mX6_away [(139, .ireturn)] 140 ls st n h mc ms Q) : zGo K l d mX6_away 139 ls st n h mc ms Q := k (by decide +kernel)
theorem kX6_mark_0 {K : zK} {l : Launch} {d : Nat} {ls : List (Nat × Value)} {st : List Value} {n : Nat} {h : zH} {mc ms : Nat} {Q : zQ} (k : zGb K l d mX6_mark [(0, .iload_n 1), (1, .iconst 0), (2, .iconst 5), (3, .invokestatic 87), (6, .ifCond .eq 11), (9, .aload_n 0), (10, .iload_n 2), (11, .invokevirtual 153), (14, .ifCond .ne 6)] 17 ls st n h mc ms Q) : zGo K l d mX6_mark 0 ls st n h mc ms Q := k (by decide +kernel)
theorem kX6_mark_17 {K : zK} {l : Launch} {d : Nat} {ls : List (Nat × Value)} {st : List Value} {n : Nat} {h : zH} {mc ms : Nat} {Q : zQ} (k : zGb K l d mX6_mark [(17, .ldc 233), (19, .ireturn)] 20 ls st n h mc ms Q) : zGo K l d mX6_mark 17 ls st n h mc ms Q := k (by decide +kernel)
theorem kX6_mark_20 {K : zK} {l : Launch} {d : Nat} {ls : List (Nat × Value)} {st : List Value} {n : Nat} {h : zH} {mc ms : Nat} {Q : zQ} (k : zGb K l d mX6_mark [(20, .aload_n 0), (21, .iload_n 2), (22, .invokevirtual 147), (25, .istore_n 3), (26, .aload_n 0), (27, .getfield 29), (30, .iload_n 2), (31, .iaload), (32, .iconst 1), (33, .aload_n 0), (34, .getfield 13), (37, .iconst 0), (38, .iaload), (39, .ishl), (40, .iconst 1), (41, .isub), (42, .iand), (43, .invokestatic 179), (46, .istore 4), (48, .iload_n 1), (49, .tableswitch 133 0 4 #[35, 47, 71, 88, 114])] 84 ls st n h mc ms Q) : zGo K l d mX6_mark 20 ls st n h mc ms Q := k (by decide +kernel)
theorem kX6_mark_84 {K : zK} {l : Launch} {d : Nat} {ls : List (Nat × Value)} {st : List Value} {n : Nat} {h : zH} {mc ms : Nat} {Q : zQ} (k : zGb K l d mX6_mark [(84, .aload_n 0), (85, .dup), (86, .getfield 234), (89, .lconst 1), (90, .ladd), (91, .putfield 234), (94, .iload_n 3), (95, .ireturn)] 96 ls st n h mc ms Q) : zGo K l d mX6_mark 84 ls st n h mc ms Q := k (by decide +kernel)
theorem kX6_mark_96 {K : zK} {l : Launch} {d : Nat} {ls : List (Nat × Value)} {st : List Value} {n : Nat} {h : zH} {mc ms : Nat} {Q : zQ} (k : zGb K l d mX6_mark [(96, .aload_n 0), (97, .dup), (98, .getfield 234), (101, .ldc2_w 238), (104, .ladd), (105, .putfield 234), (108, .iload_n 3), (109, .aload_n 0), (110, .getfield 26), (113, .iload_n 2), (114, .iaload), (115, .invokestatic 179), (118, .iadd), (119, .ireturn)] 120 ls st n h mc ms Q) : zGo K l d mX6_mark 96 ls st n h mc ms Q := k (by decide +kernel)
theorem kX6_mark_120 {K : zK} {l : Launch} {d : Nat} {ls : List (Nat × Value)} {st : List Value} {n : Nat} {h : zH} {mc ms : Nat} {Q : zQ} (k : zGb K l d mX6_mark [(120, .aload_n 0), (121, .dup), (122, .getfield 234), (125, .ldc2_w 240), (128, .ladd), (129, .putfield 234), (132, .iload_n 3), (133, .iload 4), (135, .isub), (136, .ireturn)] 137 ls st n h mc ms Q) : zGo K l d mX6_mark 120 ls st n h mc ms Q := k (by decide +kernel)
theorem kX6_mark_137 {K : zK} {l : Launch} {d : Nat} {ls : List (Nat × Value)} {st : List Value} {n : Nat} {h : zH} {mc ms : Nat} {Q : zQ} (k : zGb K l d mX6_mark [(137, .aload_n 0), (138, .dup), (139, .getfield 234), (142, .ldc2_w 242), (145, .ladd), (146, .putfield 234), (149, .iconst 2), (150, .iload_n 3), (151, .aload_n 0), (152, .getfield 26), (155, .iload_n 2), (156, .iaload), (157, .invokestatic 179), (160, .iadd), (161, .imul), (162, .ireturn)] 163 ls st n h mc ms Q) : zGo K l d mX6_mark 137 ls st n h mc ms Q := k (by decide +kernel)
theorem kX6_mark_163 {K : zK} {l : Launch} {d : Nat} {ls : List (Nat × Value)} {st : List Value} {n : Nat} {h : zH} {mc ms : Nat} {Q : zQ} (k : zGb K l d mX6_mark [(163, .aload_n 0), (164, .dup), (165, .getfield 234), (168, .ldc2_w 244), (171, .ladd), (172, .putfield 234), (175, .iload_n 3), (176, .iload 4), (178, .isub), (179, .iload_n 2), (180, .iadd), (181, .ireturn)] 182 ls st n h mc ms Q) : zGo K l d mX6_mark 163 ls st n h mc ms Q := k (by decide +kernel)
theorem kX6_mark_182 {K : zK} {l : Launch} {d : Nat} {ls : List (Nat × Value)} {st : List Value} {n : Nat} {h : zH} {mc ms : Nat} {Q : zQ} (k : zGb K l d mX6_mark [(182, .aload_n 0), (183, .dup), (184, .getfield 234), (187, .ldc2_w 246), (190, .ladd), (191, .putfield 234), (194, .iload_n 3), (195, .aload_n 0), (196, .iload_n 2), (197, .aload_n 0), (198, .getfield 44), (201, .bipush 12), (203, .iaload), (204, .invokevirtual 150), (207, .iadd), (208, .ireturn)] 209 ls st n h mc ms Q) : zGo K l d mX6_mark 182 ls st n h mc ms Q := k (by decide +kernel)
theorem kX6_copy_0 {K : zK} {l : Launch} {d : Nat} {ls : List (Nat × Value)} {st : List Value} {n : Nat} {h : zH} {mc ms : Nat} {Q : zQ} (k : zGb K l d mX6_copy [(0, .iconst 0), (1, .istore_n 3)] 2 ls st n h mc ms Q) : zGo K l d mX6_copy 0 ls st n h mc ms Q := k (by decide +kernel)
theorem kX6_copy_2 {K : zK} {l : Launch} {d : Nat} {ls : List (Nat × Value)} {st : List Value} {n : Nat} {h : zH} {mc ms : Nat} {Q : zQ} (k : zGb K l d mX6_copy [(2, .iload_n 3), (3, .bipush 17), (5, .if_icmp .ge 25), (8, .aload_n 0), (9, .getfield 44), (12, .iload_n 2), (13, .iload_n 3), (14, .iadd), (15, .aload_n 0), (16, .getfield 44), (19, .iload_n 1), (20, .iload_n 3), (21, .iadd), (22, .iaload), (23, .iastore), (24, .iinc 3 1), (27, .goto (-25))] 30 ls st n h mc ms Q) : zGo K l d mX6_copy 2 ls st n h mc ms Q := k (by decide +kernel)
theorem kX6_copy_30 {K : zK} {l : Launch} {d : Nat} {ls : List (Nat × Value)} {st : List Value} {n : Nat} {h : zH} {mc ms : Nat} {Q : zQ} (k : zGb K l d mX6_copy [(30, .return_)] 31 ls st n h mc ms Q) : zGo K l d mX6_copy 30 ls st n h mc ms Q := k (by decide +kernel)
theorem kX6_keep_0 {K : zK} {l : Launch} {d : Nat} {ls : List (Nat × Value)} {st : List Value} {n : Nat} {h : zH} {mc ms : Nat} {Q : zQ} (k : zGb K l d mX6_keep [(0, .iload_n 1), (1, .iconst 0), (2, .iconst 1), (3, .invokestatic 87), (6, .ifCond .ne 5), (9, .iconst (-1)), (10, .ireturn)] 11 ls st n h mc ms Q) : zGo K l d mX6_keep 0 ls st n h mc ms Q := k (by decide +kernel)
theorem kX6_keep_11 {K : zK} {l : Launch} {d : Nat} {ls : List (Nat × Value)} {st : List Value} {n : Nat} {h : zH} {mc ms : Nat} {Q : zQ} (k : zGb K l d mX6_keep [(11, .aload_n 0), (12, .iconst 0), (13, .bipush 17), (15, .iconst 1), (16, .iload_n 1), (17, .iadd), (18, .imul), (19, .invokevirtual 248), (22, .aload_n 0), (23, .getfield 47), (26, .iload_n 1), (27, .iconst 1), (28, .bastore), (29, .aload_n 0), (30, .invokevirtual 166), (33, .ireturn)] 34 ls st n h mc ms Q) : zGo K l d mX6_keep 11 ls st n h mc ms Q := k (by decide +kernel)
theorem kX6_back_0 {K : zK} {l : Launch} {d : Nat} {ls : List (Nat × Value)} {st : List Value} {n : Nat} {h : zH} {mc ms : Nat} {Q : zQ} (k : zGb K l d mX6_back [(0, .iload_n 1), (1, .iconst 0), (2, .iconst 1), (3, .invokestatic 87), (6, .ifCond .ne 5), (9, .iconst (-1)), (10, .ireturn)] 11 ls st n h mc ms Q) : zGo K l d mX6_back 0 ls st n h mc ms Q := k (by decide +kernel)
theorem kX6_back_11 {K : zK} {l : Launch} {d : Nat} {ls : List (Nat × Value)} {st : List Value} {n : Nat} {h : zH} {mc ms : Nat} {Q : zQ} (k : zGb K l d mX6_back [(11, .aload_n 0), (12, .getfield 47), (15, .iload_n 1), (16, .baload), (17, .ifCond .ne 6), (20, .bipush (-2)), (22, .ireturn)] 23 ls st n h mc ms Q) : zGo K l d mX6_back 11 ls st n h mc ms Q := k (by decide +kernel)
theorem kX6_back_23 {K : zK} {l : Launch} {d : Nat} {ls : List (Nat × Value)} {st : List Value} {n : Nat} {h : zH} {mc ms : Nat} {Q : zQ} (k : zGb K l d mX6_back [(23, .aload_n 0), (24, .bipush 17), (26, .iconst 1), (27, .iload_n 1), (28, .iadd), (29, .imul), (30, .iconst 0), (31, .invokevirtual 248), (34, .aload_n 0), (35, .invokevirtual 166), (38, .ireturn)] 39 ls st n h mc ms Q) : zGo K l d mX6_back 23 ls st n h mc ms Q := k (by decide +kernel)
theorem kX6_count_0 {K : zK} {l : Launch} {d : Nat} {ls : List (Nat × Value)} {st : List Value} {n : Nat} {h : zH} {mc ms : Nat} {Q : zQ} (k : zGb K l d mX6_count [(0, .iload_n 1), (1, .ifCond .ne 12), (4, .aload_n 0), (5, .getfield 13), (8, .iconst 0), (9, .iaload), (10, .goto 58)] 13 ls st n h mc ms Q) : zGo K l d mX6_count 0 ls st n h mc ms Q := k (by decide +kernel)
theorem kX6_count_13 {K : zK} {l : Launch} {d : Nat} {ls : List (Nat × Value)} {st : List Value} {n : Nat} {h : zH} {mc ms : Nat} {Q : zQ} (k : zGb K l d mX6_count [(13, .iload_n 1), (14, .iconst 1), (15, .if_icmp .ne 12), (18, .aload_n 0), (19, .getfield 20), (22, .iconst 0), (23, .iaload), (24, .goto 44)] 27 ls st n h mc ms Q) : zGo K l d mX6_count 13 ls st n h mc ms Q := k (by decide +kernel)
theorem kX6_count_27 {K : zK} {l : Launch} {d : Nat} {ls : List (Nat × Value)} {st : List Value} {n : Nat} {h : zH} {mc ms : Nat} {Q : zQ} (k : zGb K l d mX6_count [(27, .iload_n 1), (28, .iconst 2), (29, .if_icmp .ne 12), (32, .aload_n 0), (33, .getfield 38), (36, .iconst 0), (37, .iaload), (38, .goto 30)] 41 ls st n h mc ms Q) : zGo K l d mX6_count 27 ls st n h mc ms Q := k (by decide +kernel)
theorem kX6_count_41 {K : zK} {l : Launch} {d : Nat} {ls : List (Nat × Value)} {st : List Value} {n : Nat} {h : zH} {mc ms : Nat} {Q : zQ} (k : zGb K l d mX6_count [(41, .iload_n 1), (42, .iconst 3), (43, .if_icmp .ne 12), (46, .aload_n 0), (47, .getfield 41), (50, .iconst 0), (51, .iaload), (52, .goto 16)] 55 ls st n h mc ms Q) : zGo K l d mX6_count 41 ls st n h mc ms Q := k (by decide +kernel)
theorem kX6_count_55 {K : zK} {l : Launch} {d : Nat} {ls : List (Nat × Value)} {st : List Value} {n : Nat} {h : zH} {mc ms : Nat} {Q : zQ} (k : zGb K l d mX6_count [(55, .iload_n 1), (56, .iconst 4), (57, .if_icmp .ne 10), (60, .aload_n 0), (61, .getfield 91), (64, .goto 4)] 67 ls st n h mc ms Q) : zGo K l d mX6_count 55 ls st n h mc ms Q := k (by decide +kernel)
theorem kX6_count_67 {K : zK} {l : Launch} {d : Nat} {ls : List (Nat × Value)} {st : List Value} {n : Nat} {h : zH} {mc ms : Nat} {Q : zQ} (k : zGb K l d mX6_count [(67, .iconst (-1))] 68 ls st n h mc ms Q) : zGo K l d mX6_count 67 ls st n h mc ms Q := k (by decide +kernel)
theorem kX6_count_68 {K : zK} {l : Launch} {d : Nat} {ls : List (Nat × Value)} {st : List Value} {n : Nat} {h : zH} {mc ms : Nat} {Q : zQ} (k : zGb K l d mX6_count [(68, .ireturn)] 69 ls st n h mc ms Q) : zGo K l d mX6_count 68 ls st n h mc ms Q := k (by decide +kernel)
theorem kX6_trace_0 {K : zK} {l : Launch} {d : Nat} {ls : List (Nat × Value)} {st : List Value} {n : Nat} {h : zH} {mc ms : Nat} {Q : zQ} (k : zGb K l d mX6_trace [(0, .aload_n 0), (1, .getfield 234), (4, .lreturn)] 5 ls st n h mc ms Q) : zGo K l d mX6_trace 0 ls st n h mc ms Q := k (by decide +kernel)
end
section
/-! THE ENGINE, second part: constructors, new cells, arraycopy -/
theorem zg_objInit {K : zK} {l : Launch} {d : Nat} {M : zM} {pc : Nat} {ls : List (Nat × Value)} {st : List Value} {n : Nat} {h : zH} {mc ms : Nat} {Q : zQ} {idx b : Nat} (h1 : Cond.methodLink M.1.cls idx objectInit ∈ z_all) (h2 : Cond.instanceMethod objectInit ∈ z_all) (h3 : Cond.code objectInit ⟨#[0xb1]⟩ 1 none ∈ z_all) (hd1 : 1 ≤ d) (hrest : (st.map fun v => v.category).sum ≤ 8) (hd : decode M.2.1 pc = .ok (.invokespecial idx, 3)) (kk : zGo K l d M (pc + 3) ls st n h mc ms Q) : zGo K l d M pc ls (.ref b :: st) n h mc ms Q := by
  intro p e R s m args below meth c A n0 ad0 ad H locs cells slots MC MS lsA C D
  have k2 := kk p e R s m args below meth c A n0 ad0 ad H locs cells slots MC MS lsA C D
  obtain ⟨C1, C2, C3, C4, C5, C6, C7, C8, C9, C10, C11, C12, C13, C14⟩ := C
  refine W.objInit C1 C2 C5 (C7 _ h1) (C7 _ h2) (C7 _ h3) rfl (by rw [C4]; exact D.2.2.2.2.2.2.2.2.1) rfl hd (by omega) ?_ k2
  have e1 : ((st.map (z_v K ad)).map fun v => v.category) = st.map fun v => v.category := by
    rw [List.map_map]; exact List.map_congr_left (fun v _ => z_v_cat K ad v)
  show 2 * 0 + ((st.map (z_v K ad)).map fun v => v.category).sum + 12 ≤ R.locals
  rw [e1]; omega
def zLe (n : Nat) : va_E → Prop
  | .inr (_, fs) => ∀ v ∈ fs, zLt n v
  | .inl (_, _, .inr (.inr (.inr (.inr f)))) => ∀ (j a : Nat), f j = some a → a < n ∨ 1000 ≤ a
  | _ => True
def zWfh (n : Nat) (h : zH) : Prop := ∀ k, k < n → zLe n (h k)
theorem z_ad_same {K : zK} {ad ad' : Nat → Nat} {n a : Nat} (hv : a < n ∨ 1000 ≤ a) (h : ∀ k, k < n → ad' k = ad k) : z_ad K ad' a = z_ad K ad a := by
  rcases hv with q | q
  · simp only [z_ad, h a q]
  · have q' : ¬ a < 1000 := Nat.not_lt.mpr q
    simp only [z_ad, if_neg q']
theorem z_e_same {K : zK} {ad ad' : Nat → Nat} {n : Nat} {e : va_E} (hv : zLe n e) (h : ∀ k, k < n → ad' k = ad k) : z_e K ad' e = z_e K ad e := by
  rcases e with ⟨t, m, f | f | f | f | f⟩ | ⟨c, fs⟩
  · rfl
  · rfl
  · rfl
  · rfl
  · have e1 : (fun j => (f j).map (z_ad K ad')) = fun j => (f j).map (z_ad K ad) := by
      funext j
      cases hf : f j with
      | none => rfl
      | some a =>
        have q : a < n ∨ 1000 ≤ a := hv j a hf
        simp only [Option.map_some, z_ad_same q h]
    simp only [z_e, e1]
  · have e1 : fs.map (z_v K ad') = fs.map (z_v K ad) := z_lst_same hv h
    simp only [z_e, e1]
theorem z_w_push {K : zK} {ad : Nat → Nat} {n q : Nat} {h : zH} {e : va_E} (hn : n < 1000) (hw : zWfh n h) : z_w K (fun k => if k = n then q else ad k) (n + 1) (z_up h n e) = z_w K ad n h ++ [(q, z_e K (fun k => if k = n then q else ad k) e)] := by
  have hs : ∀ k, k < n → (fun k => if k = n then q else ad k) k = ad k := fun k hk => if_neg (by omega)
  unfold z_w
  rw [List.range_succ, List.map_append]
  congr 1
  · refine List.map_congr_left (fun i hi => ?_)
    have hi : i < n := List.mem_range.mp hi
    rw [z_up_ne (by omega), z_ad_same (Or.inl hi) hs, z_e_same (hw i hi) hs]
  · simp only [List.map_cons, List.map_nil, z_up_self]
    congr 2
    simp [z_ad, hn]
theorem va_RA_inj {U : State} {c1 c2 : ClassId} {ty : FieldType} (h1 : va_RA U c1 ty) (h2 : va_RA U c2 ty) : c1 = c2 := by
  cases ty with
  | object C =>
    obtain ⟨-, -, -, -, -, a⟩ := h1
    obtain ⟨-, -, -, -, -, b⟩ := h2
    exact Option.some.inj (a.symm.trans b)
  | _ => exact Option.some.inj (h1.symm.trans h2)
/-- behind a new cell -/
theorem z_made {K : zK} {l : Launch} {d : Nat} {M : zM} {pc : Nat} {ls : List (Nat × Value)} {st : List Value} {n : Nat} {h : zH} {mc ms N : Nat} {Q : zQ} {e : va_E} {p : Program} {ev : Env} {R : Room} {s : State} {m : MethodId} {args : Array Value} {below : List Frame} {meth : Method} {c : Code} {A : Nat → Prop} {n0 : Nat} {ad0 ad : Nat → Nat} {H H1 : Heap} {locs : List Loc} {cells slots MC MS : Nat} {lsA : Array Slot} {q : Nat} {e' : va_E}
    (C : zC K d M p R s m args meth c A MC MS) (D : zD K M A s n0 ad0 ad n h H locs cells slots mc ms MC MS ls lsA) (hn : n < 1000) (hw : zWfh n h) (hls : zWf n ls st) (hmc : 1 ≤ mc) (hms : N ≤ ms) (he : ∀ ad, z_e K ad e = e') (g1 : va_P K.1 vwCl (z_w K ad n h ++ [(q, e')]) H1) (g2 : va_D A (z_w K ad n h ++ [(q, e')])) (g3 : va_S A s.heap H1 locs)
    (kk : zGo K l d M pc ls (.ref n :: st) (n + 1) (z_up h n e) (mc - 1) (ms - N) Q) : W p l ev R s m args below meth c H1 locs (cells + 1) (slots + N) (MQ below (z_Qc K Q ad0 n0 A) args s MC MS A) (F0 m pc lsA (.ref q :: st.map (z_v K ad))) := by
  obtain ⟨D1, D2, D3, D4, D5, D6, D7, D8, D9⟩ := D
  have hs : ∀ k, k < n → (fun k => if k = n then q else ad k) k = ad k := fun k hk => if_neg (by omega)
  have k2 := kk p ev R s m args below meth c A n0 ad0 (fun k => if k = n then q else ad k) H1 locs (cells + 1) (slots + N) MC MS lsA C ⟨by omega, fun k hk => by rw [hs k (by omega)]; exact D2 k hk, fun q => by omega, by omega, by omega, by rw [z_w_push hn hw, he]; exact g1, by rw [z_w_push hn hw, he]; exact g2, g3, by rw [z_loc_same hls.1 hs]; exact D9⟩
  have e1 : (Value.ref n :: st).map (z_v K (fun k => if k = n then q else ad k)) = .ref q :: st.map (z_v K ad) := by
    rw [List.map_cons, z_lst_same hls.2 hs]
    simp [z_v, z_ad, hn]
  rw [e1] at k2
  exact k2
def zNw (own : String) (idx ci : Nat) (fs : List Value) (N : Nat) : Prop := ∃ q : vw_C, vwCl[ci]? = some q ∧ q.2.2 = N ∧ Cond.classLink own idx q.1 ∈ z_all ∧ Cond.instantiable q.1 q.2.2 ∈ z_all ∧ Cond.initialized q.1 ∈ z_all ∧ (∀ j, j < q.2.2 → defaultValue (z_ty ci j) = vp_V fs j) ∧ ∀ (K : zK) (ad : Nat → Nat), fs.map (z_v K ad) = fs
theorem zg_new {K : zK} {l : Launch} {d : Nat} {M : zM} {pc : Nat} {ls : List (Nat × Value)} {st : List Value} {n : Nat} {h : zH} {mc ms : Nat} {Q : zQ} {idx ci N : Nat} {fs : List Value} (hN : zNw M.1.cls idx ci fs N) (hn : n < 1000) (hw : zWfh n h) (hls : zWf n ls st) (hmc : 1 ≤ mc) (hms : N ≤ ms) (hd : decode M.2.1 pc = .ok (.new idx, 3)) (kk : zGo K l d M (pc + 3) ls (.ref n :: st) (n + 1) (z_up h n (.inr (ci, fs))) (mc - 1) (ms - N) Q) : zGo K l d M pc ls st n h mc ms Q := by
  intro p e R s m args below meth c A n0 ad0 ad H locs cells slots MC MS lsA C D
  have C' := C
  have D' := D
  obtain ⟨C1, C2, C3, C4, C5, C6, C7, C8, C9, C10, C11, C12, C13, C14⟩ := C'
  obtain ⟨D1, D2, D3, D4, D5, D6, D7, D8, D9⟩ := D'
  obtain ⟨q, hq, rfl, w1, w2, w3, hfs, hz⟩ := hN
  obtain ⟨c1, c2, c3⟩ := z_cls hq
  refine va_new (C := q.1) (T := q.2.1) (N := q.2.2) C1 C2 C7 c1 (z_ty ci) c2 C5 (C7 _ w1) (C7 _ w2) (C7 _ w3) C9.1 D6 D7 D8 C10 hq hfs (by omega) (by omega) hd (fun q1 H1 g1 g2 g3 => ?_)
  exact z_made (e := .inr (ci, fs)) C D hn hw hls hmc hms (fun ad => by simp only [z_e, hz]) g1 g2 g3 kk
theorem zg_newarray {K : zK} {l : Launch} {d : Nat} {M : zM} {pc : Nat} {ls : List (Nat × Value)} {st : List Value} {n : Nat} {h : zH} {mc ms : Nat} {Q : zQ} {atype : ArrayType} {t N : Nat} {i : Int32} {ty : FieldType} {a0 : vp_A} (hat : newarray.typeOf atype = ty) (hw0 : Cond.arrayClass (newarray.typeOf atype) ∈ z_all) (ht : ∀ K : zK, (z_tys K)[t]? = some (K.2.1 t, ty)) (ha0 : ∀ cA : ClassId, vp_cell cA a0 = arrV cA N (fun _ => defaultValue ty)) (hz : ∀ (K : zK) (ad : Nat → Nat), z_e K ad (.inl (t, a0)) = .inl (K.2.1 t, a0)) (hi : ¬ i < 0) (hiN : i.toNatClampNeg = N) (hbytes : N * componentBytes ty ≤ 536870912) (hn : n < 1000) (hw : zWfh n h) (hls : zWf n ls st) (hmc : 1 ≤ mc) (hms : N ≤ ms) (hd : decode M.2.1 pc = .ok (.newarray atype, 2)) (kk : zGo K l d M (pc + 2) ls (.ref n :: st) (n + 1) (z_up h n (.inl (t, a0))) (mc - 1) (ms - N) Q) : zGo K l d M pc ls (.int i :: st) n h mc ms Q := by
  intro p e R s m args below meth c A n0 ad0 ad H locs cells slots MC MS lsA C D
  have C' := C
  have D' := D
  obtain ⟨C1, C2, C3, C4, C5, C6, C7, C8, C9, C10, C11, C12, C13, C14⟩ := C'
  obtain ⟨D1, D2, D3, D4, D5, D6, D7, D8, D9⟩ := D'
  refine va_newa C1 C2 (C7 _ hw0) hat C9.1 D6 D7 D8 C10 ha0 hi hiN hbytes (by omega) (by omega) hd (fun q1 cA H1 gK g1 g2 g3 => ?_)
  have e1 : cA = K.2.1 t := by
    have r1 := (gK.2 (z_tys K).length (cA, ty) (by simp)).2
    have r2 := (C9.1.2 t _ (ht K)).2
    exact va_RA_inj r1 r2
  rw [e1] at g1 g2
  exact z_made (e := .inl (t, a0)) C D hn hw hls hmc hms (fun ad => hz K ad) g1 g2 g3 kk
theorem zg_anewarray {K : zK} {l : Launch} {d : Nat} {M : zM} {pc : Nat} {ls : List (Nat × Value)} {st : List Value} {n : Nat} {h : zH} {mc ms : Nat} {Q : zQ} {idx N : Nat} {i : Int32} (hcl : Cond.classLink M.1.cls idx RX3 ∈ z_all) (hi : ¬ i < 0) (hiN : i.toNatClampNeg = N) (hbytes : N * 4 ≤ 536870912) (hn : n < 1000) (hw : zWfh n h) (hls : zWf n ls st) (hmc : 1 ≤ mc) (hms : N ≤ ms) (hd : decode M.2.1 pc = .ok (.anewarray idx, 3)) (kk : zGo K l d M (pc + 3) ls (.ref n :: st) (n + 1) (z_up h n (.inl (4, N, .inr (.inr (.inr (.inr (fun _ => none))))))) (mc - 1) (ms - N) Q) : zGo K l d M pc ls (.int i :: st) n h mc ms Q := by
  intro p e R s m args below meth c A n0 ad0 ad H locs cells slots MC MS lsA C D
  have C' := C
  have D' := D
  obtain ⟨C1, C2, C3, C4, C5, C6, C7, C8, C9, C10, C11, C12, C13, C14⟩ := C'
  obtain ⟨D1, D2, D3, D4, D5, D6, D7, D8, D9⟩ := D'
  refine va_newq C1 C2 C5 (C7 _ hcl) C9.2.2.1.2.2 C9.1 D6 D7 D8 C10 hi hiN hbytes (by omega) (by omega) hd (fun q1 cA H1 gK g1 g2 g3 => ?_)
  have e1 : cA = K.2.1 4 := by
    have r1 := (gK.2 (z_tys K).length (cA, .object RX3) (by simp)).2
    have r2 := (C9.1.2 4 _ (rfl : (z_tys K)[4]? = some (K.2.1 4, .object RX3))).2
    exact va_RA_inj r1 r2
  rw [e1] at g1 g2
  exact z_made (e := .inl (4, N, .inr (.inr (.inr (.inr (fun _ => none)))))) C D hn hw hls hmc hms (fun ad => rfl) g1 g2 g3 kk
theorem zg_aastore {K : zK} {l : Launch} {d : Nat} {M : zM} {pc : Nat} {ls : List (Nat × Value)} {st : List Value} {n : Nat} {h : zH} {mc ms : Nat} {Q : zQ} {a N k x : Nat} {vs : List Value} {f : Nat → Option Nat} {i : Int32} (ha : a < n) (hc : h a = .inl (4, N, .inr (.inr (.inr (.inr f))))) (hi : zIx i N k) (hx : x < n) (hv : h x = .inr (2, vs)) (hd : decode M.2.1 pc = .ok (.aastore, 1)) (kk : zGo K l d M (pc + 1) ls st n (z_up h a (.inl (4, N, .inr (.inr (.inr (.inr (va_up f k (some x)))))))) mc ms Q) : zGo K l d M pc ls (.ref x :: .int i :: .ref a :: st) n h mc ms Q := by
  intro p e R s m args below meth c A n0 ad0 ad H locs cells slots MC MS lsA C D
  have C' := C
  obtain ⟨C1, C2, C3, C4, C5, C6, C7, C8, C9, C10, C11, C12, C13, C14⟩ := C'
  obtain ⟨D1, D2, D3, D4, D5, D6, D7, D8, D9⟩ := D
  obtain ⟨hi1, hi2⟩ := hi
  have e1 : (fun j => (va_up f k (some x) j).map (z_ad K ad)) = va_up (fun j => (f j).map (z_ad K ad)) i.toNatClampNeg (some (z_ad K ad x)) := by
    funext j
    simp only [va_up, hi2]
    split <;> rfl
  refine va_astq (r := (RX3, TX3, 4)) C1 C2 C9.1 D6 D7 D8 a 4 x 2 (z_at ha hc) rfl (z_at hx hv) rfl hi1 hd (fun H1 locs1 g1 g2 g3 => ?_)
  have e2 : z_e K ad (.inl (4, N, .inr (.inr (.inr (.inr (va_up f k (some x))))))) = .inl (K.2.1 4, N, .inr (.inr (.inr (.inr (va_up (fun j => (f j).map (z_ad K ad)) i.toNatClampNeg (some (z_ad K ad x))))))) := by
    simp only [z_e, e1]
  exact kk p e R s m args below meth c A n0 ad0 ad H1 locs1 cells slots MC MS lsA C ⟨D1, D2, D3, D4, D5, z_back (P := fun w => va_P K.1 vwCl w H1) e2 g1, z_back (P := fun w => va_D A w) e2 g2, g3, D9⟩
/-- arraycopy of ints, from a to b -/
theorem zg_copyi {K : zK} {l : Launch} {d : Nat} {M : zM} {pc : Nat} {ls : List (Nat × Value)} {st : List Value} {n : Nat} {h : zH} {mc ms : Nat} {Q : zQ} {idx a b N1 N2 : Nat} {f g : Nat → Int32} {sp dp m0 : Int32} (w1 : Cond.methodLink M.1.cls idx arraycopyName ∈ z_all) (w2 : Cond.native arraycopyName ∈ z_all) (w3 : Cond.static arraycopyName ∈ z_all) (w4 : Cond.initialized "java/lang/System" ∈ z_all) (ha : a < n) (hb : b < n) (hca : h a = .inl (0, N1, .inl f)) (hcb : h b = .inl (0, N2, .inl g)) (h1 : ¬ sp < 0) (h2 : ¬ dp < 0) (h3 : ¬ m0 < 0) (h4 : sp.toNatClampNeg + m0.toNatClampNeg ≤ N1) (h5 : dp.toNatClampNeg + m0.toNatClampNeg ≤ N2) (hd1 : 1 ≤ d) (hrest : (st.map fun v => v.category).sum ≤ 8) (hfr : nativeFrameWords "java/lang/System" "arraycopy" 5 ≤ 40) (hd : decode M.2.1 pc = .ok (.invokestatic idx, 3)) (kk : zGo K l d M (pc + 3) ls st n (z_up h b (.inl (0, N2, .inl (va_cpy f g sp.toNatClampNeg dp.toNatClampNeg m0.toNatClampNeg)))) mc ms Q) : zGo K l d M pc ls (.int m0 :: .int dp :: .ref b :: .int sp :: .ref a :: st) n h mc ms Q := by
  intro p e R s m args below meth c A n0 ad0 ad H locs cells slots MC MS lsA C D
  have C' := C
  obtain ⟨C1, C2, C3, C4, C5, C6, C7, C8, C9, C10, C11, C12, C13, C14⟩ := C'
  obtain ⟨D1, D2, D3, D4, D5, D6, D7, D8, D9⟩ := D
  have e1 : ((st.map (z_v K ad)).map fun v => v.category) = st.map fun v => v.category := by
    rw [List.map_map]; exact List.map_congr_left (fun v _ => z_v_cat K ad v)
  refine va_copyi C1 C2 (by rw [C4]; exact D9.1.symm) C5 (C7 _ w1) (C7 _ w2) (C7 _ w3) (C7 _ w4) C9.1 D6 D7 D8 a b 0 0 (z_at ha hca) (z_at hb hcb) rfl rfl rfl h1 h2 h3 h4 h5 (fun i hi => rfl) (by omega) (by rw [e1]; omega) hd (fun H1 locs1 g1 g2 g3 => ?_)
  exact kk p e R s m args below meth c A n0 ad0 ad H1 locs1 cells slots MC MS lsA C ⟨D1, D2, D3, D4, D5, z_back (P := fun w => va_P K.1 vwCl w H1) rfl g1, z_back (P := fun w => va_D A w) rfl g2, g3, D9⟩
/-- a constructor's call -/
theorem zg_calli {K : zK} {l : Launch} {d : Nat} {M : zM} {pc : Nat} {ls : List (Nat × Value)} {st : List Value} {n : Nat} {h : zH} {mc ms : Nat} {Q : zQ} {d' idx na mc' ms' b : Nat} {M' : zM} {av rest : List Value} {Q' : zQ} (hr : zRuns K l d' M' (.ref b :: av) n h mc' ms' Q') (hm : zMl 2 M.1.cls idx M' na) (hst : st = av.reverse ++ .ref b :: rest) (hna : av.length = na) (hd' : d' + 1 ≤ d) (hrest : (rest.map fun v => v.category).sum ≤ 8) (hb1 : mc' ≤ mc) (hb2 : ms' ≤ ms) (hd : decode M.2.1 pc = .ok (.invokespecial idx, 3))
    (k : ∀ v n' h', Q' v n' h' → (n' = n ∨ zWf n ls rest) ∧ zGo K l d M (pc + 3) ls (v.toList ++ rest) n' h' (mc - mc') (ms - ms') Q) : zGo K l d M pc ls st n h mc ms Q := by
  intro p e R s m args below meth c A n0 ad0 ad H locs cells slots MC MS lsA C D
  subst hst
  have C' := C
  have D' := D
  obtain ⟨C1, C2, C3, C4, C5, C6, C7, C8, C9, C10, C11, C12, C13, C14⟩ := C'
  obtain ⟨D1, D2, D3, D4, D5, D6, D7, D8, D9⟩ := D'
  have m6 : (Cond.methodLink M.1.cls idx M'.1 ∈ z_all ∨ (M.1.cls, idx, M'.1) ∈ z_nest) ∧ Cond.instanceMethod M'.1 ∈ z_all ∧ M'.1.name = "<init>" ∧ M'.2.2.2 = none := hm.2.2.2.2.2
  have hret : M'.2.2.2 = none := m6.2.2.2
  have e1 : ((rest.map (z_v K ad)).map fun v => v.category) = rest.map fun v => v.category := by
    rw [List.map_map]; exact List.map_congr_left (fun v _ => z_v_cat K ad v)
  have hp : PreS s H (z_Pc K ad n h H.size (.ref b :: av)) (.ref (z_ad K ad b) :: av.map (z_v K ad)) := ⟨z_blind, z_pre (av := .ref b :: av) C D⟩
  rcases m6.1 with hl | hl
  · have cb := z_callB (mc' := mc') (ms' := ms') C hm hl hd'
    rw [hret] at cb
    have hrun := va_runI (g := F0 m pc lsA ((av.reverse ++ .ref b :: rest).map (z_v K ad))) (rest := rest.map (z_v K ad)) (cells := cells) (slots := slots) (locs := locs) (below := below) (e := e) (meth := meth) ⟨C1, C2, C4, C5, C7⟩ (hr ad H.size) ⟨cb, m6.2.2.1, C7 _ m6.2.1⟩ hp rfl (by rw [List.length_map]; exact hna) D9.1 (by simp [z_v]) (by
      show 2 * 0 + _ ≤ 8
      rw [e1]; omega) hd ⟨by omega, by omega⟩
    exact z_called C D hb1 hb2 hrun k
  · obtain ⟨m1, m2, m3, m4, m5, -⟩ := hm
    have cb : va_CN R s args M.1.cls idx M'.1 RX5 M'.2.1 M'.2.2.1 M'.2.2.2 (z_ws M') (z_rm d' mc' ms') mc' ms' na := va_cnB na C7 (z_goodIn M' m1) rfl rfl rfl (C9.2.2.1.2.1 _ hl) (C7 _ m2) ⟨m3.1, m3.2, m4⟩ ⟨by show d' + 1 ≤ R.frames; omega, by show 8 + (M'.2.2.1 + 11) + 64 * d' ≤ R.locals; omega⟩
    rw [hret] at cb
    have hrun := va_runIN (g := F0 m pc lsA ((av.reverse ++ .ref b :: rest).map (z_v K ad))) (rest := rest.map (z_v K ad)) (cells := cells) (slots := slots) (locs := locs) (below := below) (e := e) (meth := meth) ⟨C1, C2, C4, C5, C7⟩ (hr ad H.size) ⟨cb, m6.2.2.1, C7 _ m6.2.1⟩ hp rfl (by rw [List.length_map]; exact hna) D9.1 (by simp [z_v]) (by
      show 2 * 0 + _ ≤ 8
      rw [e1]; omega) hd ⟨by omega, by omega⟩
    exact z_called C D hb1 hb2 hrun k
theorem z_oI2 : Cond.instanceMethod objectInit ∈ z_all := z_in (List.mem_of_getElem? (i := 80) (by decide +kernel)) (by decide +kernel)
theorem z_oI3 : Cond.code objectInit ⟨#[0xb1]⟩ 1 none ∈ z_all := z_in (List.mem_of_getElem? (i := 81) (by decide +kernel)) (by decide +kernel)
theorem z_natF : nativeFrameWords "java/lang/System" "arraycopy" 5 ≤ 40 := by decide +kernel
end
section
/-! NUMBERS: bits of small numbers (bt, b_ext, b_sshr, b_shl began as the kit's BITS rows) -/
theorem zRet.of {K : zK} {l : Launch} {d : Nat} {M : zM} {av : List Value} {n : Nat} {h : zH} {v : Option Value} {h' : zH} (hy : plainName M.1.cls = true) (hlen : (lg_sl av).length ≤ M.2.2.1) (k : ∀ Q : zQ, Q v n h' → zGo K l d M 0 (lv_args 0 av) [] n h 0 0 Q) : zRet K l d M av n h v h' :=
  zRuns.of hy hlen (k _ ⟨rfl, rfl, rfl⟩)
theorem zRex.of {K : zK} {l : Launch} {d : Nat} {M : zM} {av : List Value} {n : Nat} {h : zH} {P : Option Value → zH → Prop} (hy : plainName M.1.cls = true) (hlen : (lg_sl av).length ≤ M.2.2.1) (k : ∀ Q : zQ, (∀ v h', P v h' → Q v n h') → zGo K l d M 0 (lv_args 0 av) [] n h 0 0 Q) : zRex K l d M av n h P :=
  zRuns.of hy hlen (k _ (fun _ _ hp => ⟨rfl, hp⟩))
theorem z_down {P : Nat → Prop} (N : Nat) (hs : ∀ k, k ≤ N → (k < N → P (k + 1)) → P k) : ∀ k, k ≤ N → P k := by
  have key : ∀ j k, k + j = N → P k := by
    intro j
    induction j with
    | zero => intro k hk; exact hs k (by omega) (fun q => by omega)
    | succ j ih => intro k hk; exact hs k (by omega) (fun _ => ih (k + 1) (by omega))
  intro k hk
  exact key (N - k) k (by omega)
def zcnt (p : Nat → Bool) : Nat → Nat
  | 0 => 0
  | k + 1 => zcnt p k + (if p k then 1 else 0)
theorem zcnt_le (p : Nat → Bool) (n : Nat) : zcnt p n ≤ n := by
  induction n with
  | zero => exact Nat.le_refl _
  | succ n ih => simp only [zcnt]; split <;> omega
theorem zb_0 {p : Prop} [Decidable p] : (if p then (1 : Int32) else 0) = 0 ↔ ¬ p := by
  by_cases h : p <;> simp [h]
theorem zb_n {p : Prop} [Decidable p] : ¬ (if p then (1 : Int32) else 0) = 0 ↔ p := by
  by_cases h : p <;> simp [h]
def bt (x : Int32) (i : Nat) : Bool := x.toBitVec.getLsbD i
theorem b_ext {x y : Int32} (h : ∀ i, i < 32 → bt x i = bt y i) : x = y := Int32.toBitVec_inj.mp (BitVec.eq_of_getLsbD_eq (fun i hi => h i hi))
theorem b_or (x y : Int32) (i : Nat) : bt (x ||| y) i = (bt x i || bt y i) := by unfold bt; rw [Int32.toBitVec_or, BitVec.getLsbD_or]
theorem b_and (x y : Int32) (i : Nat) : bt (x &&& y) i = (bt x i && bt y i) := by unfold bt; rw [Int32.toBitVec_and, BitVec.getLsbD_and]
theorem b_xor (x y : Int32) (i : Nat) : bt (x ^^^ y) i = (bt x i ^^ bt y i) := by unfold bt; rw [Int32.toBitVec_xor, BitVec.getLsbD_xor]
theorem b_m1 : ∀ i, i < 32 → bt (-1) i = true := by decide +kernel
theorem s_l : ∀ n, n < 32 → ((nI n &&& 31).toBitVec.smod 32).toNat = n := by decide +kernel
theorem b_shl (n : Nat) (hn : n < 32) (x : Int32) {i : Nat} (hi : i < 32) : bt (x <<< (nI n &&& 31)) i = (decide (n ≤ i) && bt x (i - n)) := by
  unfold bt
  rw [Int32.toBitVec_shiftLeft]
  show (x.toBitVec <<< ((nI n &&& 31).toBitVec.smod 32).toNat).getLsbD i = _
  rw [s_l n hn, BitVec.getLsbD_shiftLeft]
  rcases Nat.lt_or_ge i n with h | h
  · simp [h, Nat.not_le.mpr h]
  · simp [hi, h, Nat.not_lt.mpr h]
theorem b_sshr (n : Nat) (hn : n < 32) (x : Int32) {i : Nat} (hi : i < 32) : bt (x >>> (nI n &&& 31)) i = if n + i < 32 then bt x (n + i) else bt x 31 := by
  unfold bt
  rw [Int32.toBitVec_shiftRight]
  show (x.toBitVec.sshiftRight ((nI n &&& 31).toBitVec.smod 32).toNat).getLsbD i = _
  rw [s_l n hn, BitVec.getLsbD_sshiftRight, BitVec.msb_eq_getLsbD_last]
  simp [hi]
theorem b_nI (a : Nat) {i : Nat} (hi : i < 32) : bt (nI a) i = a.testBit i := by
  show (BitVec.ofNat 32 a).getLsbD i = _
  rw [BitVec.getLsbD_ofNat, decide_eq_true hi, Bool.true_and]
theorem z_and (a b : Nat) : nI a &&& nI b = nI (a &&& b) := b_ext fun i hi => by
  rw [b_and, b_nI _ hi, b_nI _ hi, b_nI _ hi, Nat.testBit_and]
theorem z_or (a b : Nat) : nI a ||| nI b = nI (a ||| b) := b_ext fun i hi => by
  rw [b_or, b_nI _ hi, b_nI _ hi, b_nI _ hi, Nat.testBit_or]
theorem z_xor (a b : Nat) : nI a ^^^ nI b = nI (a ^^^ b) := b_ext fun i hi => by
  rw [b_xor, b_nI _ hi, b_nI _ hi, b_nI _ hi, Nat.testBit_xor]
/-- a without b -/
def zdif (a b : Nat) : Nat := a ^^^ (a &&& b)
theorem zdif_bit (a b i : Nat) : (zdif a b).testBit i = (a.testBit i && !b.testBit i) := by
  unfold zdif
  rw [Nat.testBit_xor, Nat.testBit_and]
  cases a.testBit i <;> cases b.testBit i <;> rfl
theorem z_andn (a b : Nat) : nI a &&& (nI b ^^^ (-1)) = nI (zdif a b) := b_ext fun i hi => by
  rw [b_and, b_xor, b_m1 i hi, b_nI _ hi, b_nI _ hi, b_nI _ hi, zdif_bit]
  cases a.testBit i <;> cases b.testBit i <;> rfl
theorem z_shl {a k : Nat} (hk : k < 32) : nI a <<< (nI k &&& 31) = nI (a <<< k) := b_ext fun i hi => by
  rw [b_shl k hk _ hi, b_nI _ (by omega), b_nI _ hi, Nat.testBit_shiftLeft]
theorem z_shr {a k : Nat} (ha : a < 2 ^ 31) (hk : k < 32) : nI a >>> (nI k &&& 31) = nI (a >>> k) := b_ext fun i hi => by
  rw [b_sshr k hk _ hi, b_nI _ hi, Nat.testBit_shiftRight]
  split
  · next q => rw [b_nI _ q]
  · next q =>
    rw [b_nI _ (by decide), Nat.testBit_lt_two_pow (Nat.lt_of_lt_of_le ha (Nat.pow_le_pow_right (by decide) (by decide : 31 ≤ 31))), Nat.testBit_lt_two_pow (Nat.lt_of_lt_of_le ha (Nat.pow_le_pow_right (by decide) (by omega : 31 ≤ k + i)))]
/-- one bit -/
theorem z_bit {a k : Nat} (ha : a < 2 ^ 31) (hk : k < 32) : (nI a >>> (nI k &&& 31)) &&& 1 = if a.testBit k then 1 else 0 := by
  rw [z_shr ha hk, show (1 : Int32) = nI 1 from rfl, z_and]
  have e : a >>> k &&& 1 = if a.testBit k then 1 else 0 := by
    have h2 := Nat.mod_two_eq_zero_or_one (a >>> k)
    have h3 : a.testBit k = decide (a >>> k % 2 = 1) := by rw [Nat.testBit_eq_decide_div_mod_eq, Nat.shiftRight_eq_div_pow]
    rw [Nat.and_one_is_mod, h3]
    rcases h2 with q | q <;> simp [q]
  rw [e]
  split <;> rfl
/-- how many of the lowest six bits -/
def zpop (s : Nat) : Nat := zcnt (fun k => s.testBit k) 6
theorem zpop_le (s : Nat) : zpop s ≤ 6 := zcnt_le _ _
end
section
/-! the JDK's static methods -/
section
variable {K : zK} {l : Launch} {n : Nat} {h : zH} {x y : Int32} {u v : Int64}
def z_us (x y : Int32) : Int32 := (x.toUInt32 >>> (y.toUInt32 &&& Int32.toUInt32 31)).toInt32
def z_bc1 (x : Int32) : Int32 := x - (z_us x 1 &&& 1431655765)
def z_bc2 (x : Int32) : Int32 := (x &&& 858993459) + (z_us x 2 &&& 858993459)
def z_bc3 (x : Int32) : Int32 := (x + z_us x 4) &&& 252645135
def z_bc4 (x : Int32) : Int32 := x + z_us x 8
def z_bc5 (x : Int32) : Int32 := x + z_us x 16
def z_bcE (x : Int32) : Int32 := z_bc5 (z_bc4 (z_bc3 (z_bc2 (z_bc1 x)))) &&& 63
theorem z_bc : ∀ s, s < 64 → z_bcE (nI s) = nI (zpop s) := by decide +kernel
theorem r_bitCount {s : Nat} (hs : s < 64) : zRet K l 0 mJ6_bitCount_0f7a4 [.int (nI s)] n h (some (.int (nI (zpop s)))) h := by
  refine zRet.of (by decide) (Nat.le_of_ble_eq_true rfl) (fun Q hQ => ?_)
  rw [← z_bc s hs] at hQ
  refine kJ6_bitCount_0f7a4_0 ?_
  refine zb_go (zg_iload_n rfl) rfl ?_
  refine zb_go (zg_iload_n rfl) rfl ?_
  refine zb_go (zg_iconst 1 (by decide)) rfl ?_
  refine zb_go zg_iushr rfl ?_
  refine zb_go (zg_ldc_w cJ6_265) rfl ?_
  refine zb_go zg_iand rfl ?_
  refine zb_go zg_isub rfl ?_
  refine zb_go (zg_istore_n (by decide)) rfl ?_
  refine zb_go (zg_iload_n rfl) rfl ?_
  refine zb_go (zg_ldc_w cJ6_266) rfl ?_
  refine zb_go zg_iand rfl ?_
  refine zb_go (zg_iload_n rfl) rfl ?_
  refine zb_go (zg_iconst 2 (by decide)) rfl ?_
  refine zb_go zg_iushr rfl ?_
  refine zb_go (zg_ldc_w cJ6_266) rfl ?_
  refine zb_go zg_iand rfl ?_
  refine zb_go zg_iadd rfl ?_
  refine zb_go (zg_istore_n (by decide)) rfl ?_
  refine zb_go (zg_iload_n rfl) rfl ?_
  refine zb_go (zg_iload_n rfl) rfl ?_
  refine zb_go (zg_iconst 4 (by decide)) rfl ?_
  refine zb_go zg_iushr rfl ?_
  refine zb_go zg_iadd rfl ?_
  refine zb_go (zg_ldc_w cJ6_267) rfl ?_
  refine zb_go zg_iand rfl ?_
  refine zb_go (zg_istore_n (by decide)) rfl ?_
  refine zb_go (zg_iload_n rfl) rfl ?_
  refine zb_go (zg_iload_n rfl) rfl ?_
  refine zb_go (zg_bipush 8 (by decide)) rfl ?_
  refine zb_go zg_iushr rfl ?_
  refine zb_go zg_iadd rfl ?_
  refine zb_go (zg_istore_n (by decide)) rfl ?_
  refine zb_go (zg_iload_n rfl) rfl ?_
  refine zb_go (zg_iload_n rfl) rfl ?_
  refine zb_go (zg_bipush 16 (by decide)) rfl ?_
  refine zb_go zg_iushr rfl ?_
  refine zb_go zg_iadd rfl ?_
  refine zb_go (zg_istore_n (by decide)) rfl ?_
  refine zb_go (zg_iload_n rfl) rfl ?_
  refine zb_go (zg_bipush 63 (by decide)) rfl ?_
  refine zb_go zg_iand rfl ?_
  refine zb_end (zg_ireturn rfl (by rfl) ?_) rfl
  exact hQ
end
theorem wq_mmax : Cond.code Lib.Math.max.name Lib.Math.max.code 2 (some .int) ∈ z_all := z_in (List.mem_of_getElem? (i := 572) (by decide +kernel)) (by decide +kernel)
theorem wr_mmax : Cond.static Lib.Math.max.name ∈ z_all := z_in (List.mem_of_getElem? (i := 571) (by decide +kernel)) (by decide +kernel)
theorem zg_mmax {K : zK} {l : Launch} {d : Nat} {M : zM} {pc : Nat} {ls : List (Nat × Value)} {st : List Value} {n : Nat} {h : zH} {mc ms : Nat} {Q : zQ} {idx : Nat} {x y : Int32} (hm : Cond.methodLink M.1.cls idx Lib.Math.max.name ∈ z_all) (hd1 : 1 ≤ d) (hrest : (st.map fun v => v.category).sum ≤ 8) (hd : decode M.2.1 pc = .ok (.invokestatic idx, 3)) (kk : zGo K l d M (pc + 3) ls (.int (if x < y then y else x) :: st) n h mc ms Q) : zGo K l d M pc ls (.int y :: .int x :: st) n h mc ms Q := by
  intro p e R s m args below meth c A n0 ad0 ad H locs cells slots MC MS lsA C D
  have k2 := kk p e R s m args below meth c A n0 ad0 ad H locs cells slots MC MS lsA C D
  have e1 : ((st.map (z_v K ad)).map fun v => v.category) = st.map fun v => v.category := by
    rw [List.map_map]; exact List.map_congr_left (fun v _ => z_v_cat K ad v)
  obtain ⟨C1, C2, C3, C4, C5, C6, C7, C8, C9, C10, C11, C12, C13, C14⟩ := C
  obtain ⟨D1, D2, D3, D4, D5, D6, D7, D8, D9⟩ := D
  exact va_mmax C1 C2 (by rw [C4]; exact D9.1.symm) C5 (C7 _ hm) (C7 _ wr_mmax) (C7 _ wi_J9) (C7 _ wq_mmax) (by omega) (by rw [e1]; omega) (by omega) (by omega) hd k2
theorem wq_mmin : Cond.code Lib.Math.min.name Lib.Math.min.code 2 (some .int) ∈ z_all := z_in (List.mem_of_getElem? (i := 403) (by decide +kernel)) (by decide +kernel)
theorem wr_mmin : Cond.static Lib.Math.min.name ∈ z_all := z_in (List.mem_of_getElem? (i := 402) (by decide +kernel)) (by decide +kernel)
theorem zg_mmin {K : zK} {l : Launch} {d : Nat} {M : zM} {pc : Nat} {ls : List (Nat × Value)} {st : List Value} {n : Nat} {h : zH} {mc ms : Nat} {Q : zQ} {idx : Nat} {x y : Int32} (hm : Cond.methodLink M.1.cls idx Lib.Math.min.name ∈ z_all) (hd1 : 1 ≤ d) (hrest : (st.map fun v => v.category).sum ≤ 8) (hd : decode M.2.1 pc = .ok (.invokestatic idx, 3)) (kk : zGo K l d M (pc + 3) ls (.int (if y < x then y else x) :: st) n h mc ms Q) : zGo K l d M pc ls (.int y :: .int x :: st) n h mc ms Q := by
  intro p e R s m args below meth c A n0 ad0 ad H locs cells slots MC MS lsA C D
  have k2 := kk p e R s m args below meth c A n0 ad0 ad H locs cells slots MC MS lsA C D
  have e1 : ((st.map (z_v K ad)).map fun v => v.category) = st.map fun v => v.category := by
    rw [List.map_map]; exact List.map_congr_left (fun v _ => z_v_cat K ad v)
  obtain ⟨C1, C2, C3, C4, C5, C6, C7, C8, C9, C10, C11, C12, C13, C14⟩ := C
  obtain ⟨D1, D2, D3, D4, D5, D6, D7, D8, D9⟩ := D
  exact va_mmin C1 C2 (by rw [C4]; exact D9.1.symm) C5 (C7 _ hm) (C7 _ wr_mmin) (C7 _ wi_J9) (C7 _ wq_mmin) (by omega) (by rw [e1]; omega) (by omega) (by omega) hd k2
theorem wq_mabs : Cond.code Lib.Math.abs.name Lib.Math.abs.code 1 (some .int) ∈ z_all := z_in (List.mem_of_getElem? (i := 499) (by decide +kernel)) (by decide +kernel)
theorem wr_mabs : Cond.static Lib.Math.abs.name ∈ z_all := z_in (List.mem_of_getElem? (i := 498) (by decide +kernel)) (by decide +kernel)
theorem zg_mabs {K : zK} {l : Launch} {d : Nat} {M : zM} {pc : Nat} {ls : List (Nat × Value)} {st : List Value} {n : Nat} {h : zH} {mc ms : Nat} {Q : zQ} {idx : Nat} {x : Int32} (hm : Cond.methodLink M.1.cls idx Lib.Math.abs.name ∈ z_all) (hd1 : 1 ≤ d) (hrest : (st.map fun v => v.category).sum ≤ 8) (hd : decode M.2.1 pc = .ok (.invokestatic idx, 3)) (kk : zGo K l d M (pc + 3) ls (.int (if 0 ≤ x then x else 0 - x) :: st) n h mc ms Q) : zGo K l d M pc ls (.int x :: st) n h mc ms Q := by
  intro p e R s m args below meth c A n0 ad0 ad H locs cells slots MC MS lsA C D
  have k2 := kk p e R s m args below meth c A n0 ad0 ad H locs cells slots MC MS lsA C D
  have e1 : ((st.map (z_v K ad)).map fun v => v.category) = st.map fun v => v.category := by
    rw [List.map_map]; exact List.map_congr_left (fun v _ => z_v_cat K ad v)
  obtain ⟨C1, C2, C3, C4, C5, C6, C7, C8, C9, C10, C11, C12, C13, C14⟩ := C
  obtain ⟨D1, D2, D3, D4, D5, D6, D7, D8, D9⟩ := D
  exact va_mabs C1 C2 (by rw [C4]; exact D9.1.symm) C5 (C7 _ hm) (C7 _ wr_mabs) (C7 _ wi_J9) (C7 _ wq_mabs) (by omega) (by rw [e1]; omega) (by omega) (by omega) hd k2
theorem wq_mminL : Cond.code Lib.MathLoose.min_long.x Lib.MathLoose.min_long.code 4 (some .long) ∈ z_all := z_in (List.mem_of_getElem? (i := 616) (by decide +kernel)) (by decide +kernel)
theorem wr_mminL : Cond.static Lib.MathLoose.min_long.x ∈ z_all := z_in (List.mem_of_getElem? (i := 615) (by decide +kernel)) (by decide +kernel)
theorem zg_mminL {K : zK} {l : Launch} {d : Nat} {M : zM} {pc : Nat} {ls : List (Nat × Value)} {st : List Value} {n : Nat} {h : zH} {mc ms : Nat} {Q : zQ} {idx : Nat} {x y : Int64} (hm : Cond.methodLink M.1.cls idx Lib.MathLoose.min_long.x ∈ z_all) (hd1 : 1 ≤ d) (hrest : (st.map fun v => v.category).sum ≤ 8) (hd : decode M.2.1 pc = .ok (.invokestatic idx, 3)) (kk : zGo K l d M (pc + 3) ls (.long (if y < x then y else x) :: st) n h mc ms Q) : zGo K l d M pc ls (.long y :: .long x :: st) n h mc ms Q := by
  intro p e R s m args below meth c A n0 ad0 ad H locs cells slots MC MS lsA C D
  have k2 := kk p e R s m args below meth c A n0 ad0 ad H locs cells slots MC MS lsA C D
  have e1 : ((st.map (z_v K ad)).map fun v => v.category) = st.map fun v => v.category := by
    rw [List.map_map]; exact List.map_congr_left (fun v _ => z_v_cat K ad v)
  obtain ⟨C1, C2, C3, C4, C5, C6, C7, C8, C9, C10, C11, C12, C13, C14⟩ := C
  obtain ⟨D1, D2, D3, D4, D5, D6, D7, D8, D9⟩ := D
  exact va_mmin_long C1 C2 (by rw [C4]; exact D9.1.symm) C5 (C7 _ hm) (C7 _ wr_mminL) (C7 _ wi_J9) (C7 _ wq_mminL) (by omega) (by rw [e1]; omega) (by omega) (by omega) hd k2
end
section
/-! ROTA -/
def isRota (h : zH) (a : Nat) (tu tw : Int32) (S B : Nat → Int32) : Prop := h a = .inr (2, [.int tu, .int tw, .ref (a + 1), .ref (a + 2)]) ∧ h (a + 1) = .inl (0, 4, .inl S) ∧ h (a + 2) = .inl (0, 24, .inl B)
section
variable {K : zK} {l : Launch} {n a r g : Nat} {h : zH} {tu tw : Int32} {S B : Nat → Int32}
theorem r_X3_isTurn (hr : r < 6) (hg : g < 4) : zRet K l 0 mX3_isTurn [.int (nI r), .int (nI g)] n h (some (.int 1)) h := by
  refine zRet.of (by decide) (Nat.le_of_ble_eq_true rfl) (fun Q hQ => ?_)
  refine kX3_isTurn_0 ?_
  refine zb_go (zg_iload_n rfl) rfl ?_
  refine zb_br (zg_if_lt (tgt := 23) (by decide)) rfl (fun c => ?_) (fun c => ?_)
  · exact absurd c (nI_pos (by omega))
  · refine zb_go (zg_iload_n rfl) rfl ?_
    refine zb_go (zg_bipush 6 (by decide)) rfl ?_
    refine zb_br (zg_icmp_ge (tgt := 23) (by decide)) rfl (fun c => ?_) (fun c => ?_)
    · exact absurd c (nI_ge (by omega) (by decide))
    · refine zb_go (zg_iload_n rfl) rfl ?_
      refine zb_br (zg_if_lt (tgt := 23) (by decide)) rfl (fun c => ?_) (fun c => ?_)
      · exact absurd c (nI_pos (by omega))
      · refine zb_go (zg_iload_n rfl) rfl ?_
        refine zb_go (zg_iconst 4 (by decide)) rfl ?_
        refine zb_br (zg_icmp_ge (tgt := 23) (by decide)) rfl (fun c => ?_) (fun c => ?_)
        · exact absurd c (nI_ge (by omega) (by decide))
        · refine zb_go (zg_iconst 1 (by decide)) rfl ?_
          refine zb_end (zg_goto (tgt := 24) (by decide) ?_) rfl
          refine kX3_isTurn_24 ?_
          refine zb_end (zg_ireturn rfl (by rfl) ?_) rfl
          exact hQ
theorem z_ix4 (hr : r < 6) (hg : g < 4) : zIx (nI r * 4 + nI g) 24 (4 * r + g) := by
  have e : nI r * 4 + nI g = nI (4 * r + g) := by
    rw [show (4 : Int32) = nI 4 from rfl, pk_mul, nI_add, Nat.mul_comm]
  rw [e]
  exact zIx.nI (by omega) (by decide)
theorem r_X3_bellOf (hR : isRota h a tu tw S B) (ha : a + 2 < n) (hr : r < 6) (hg : g < 4) : zRet K l 1 mX3_bellOf [.ref a, .int (nI r), .int (nI g)] n h (some (.int (B (4 * r + g)))) h := by
  refine zRet.of (by decide) (Nat.le_of_ble_eq_true rfl) (fun Q hQ => ?_)
  obtain ⟨h1, h2, h3⟩ := hR
  refine kX3_bellOf_0 ?_
  refine zb_go (zg_iload_n rfl) rfl ?_
  refine zb_go (zg_iload_n rfl) rfl ?_
  refine zb_calls (r_X3_isTurn hr hg) lX3_34 rfl (by decide) rfl (Nat.le_of_ble_eq_true rfl) rfl ?_
  refine zb_br (zg_if_eq (tgt := 21) (by decide)) rfl (fun c => ?_) (fun c => ?_)
  · exact absurd c (by decide)
  · refine zb_go (zg_aload_n rfl) rfl ?_
    refine zb_go (zg_getfield fX3_22 (by first | assumption | decide | omega) (by first | assumption | exact z_up_self _ _ _ | exact (z_up_ne (by first | decide | omega)).trans (by assumption) | exact (z_up_ne (by first | decide | omega)).trans (z_up_self _ _ _) | exact (z_up_ne (by first | decide | omega)).trans ((z_up_ne (by first | decide | omega)).trans (by assumption)) | exact (z_up_ne (by first | decide | omega)).trans ((z_up_ne (by first | decide | omega)).trans (z_up_self _ _ _))) (by rfl)) rfl ?_
    refine zb_go (zg_iload_n rfl) rfl ?_
    refine zb_go (zg_iconst 4 (by decide)) rfl ?_
    refine zb_go zg_imul rfl ?_
    refine zb_go (zg_iload_n rfl) rfl ?_
    refine zb_go zg_iadd rfl ?_
    refine zb_go (zi_iaload (by first | assumption | decide | omega) (by first | assumption | exact z_up_self _ _ _ | exact (z_up_ne (by first | decide | omega)).trans (by assumption) | exact (z_up_ne (by first | decide | omega)).trans (z_up_self _ _ _) | exact (z_up_ne (by first | decide | omega)).trans ((z_up_ne (by first | decide | omega)).trans (by assumption)) | exact (z_up_ne (by first | decide | omega)).trans ((z_up_ne (by first | decide | omega)).trans (z_up_self _ _ _))) (z_ix4 hr hg)) rfl ?_
    refine zb_end (zg_goto (tgt := 23) (by decide) ?_) rfl
    refine kX3_bellOf_23 ?_
    refine zb_end (zg_ireturn rfl (by rfl) ?_) rfl
    exact hQ
theorem r_X3_hasTurn (hR : isRota h a tu tw S B) (ha : a + 2 < n) (hr : r < 6) (hg : g < 4) : zRet K l 2 mX3_hasTurn [.ref a, .int (nI r), .int (nI g)] n h (some (.int (if B (4 * r + g) ≠ -9 then 1 else 0))) h := by
  refine zRet.of (by decide) (Nat.le_of_ble_eq_true rfl) (fun Q hQ => ?_)
  have h1 := hR.1
  refine kX3_hasTurn_0 ?_
  refine zb_go (zg_aload_n rfl) rfl ?_
  refine zb_go (zg_iload_n rfl) rfl ?_
  refine zb_go (zg_iload_n rfl) rfl ?_
  refine zb_callv (r_X3_bellOf hR ha hr hg) lX3_38 (by first | assumption | exact z_up_self _ _ _ | exact (z_up_ne (by first | decide | omega)).trans (by assumption) | exact (z_up_ne (by first | decide | omega)).trans (z_up_self _ _ _) | exact (z_up_ne (by first | decide | omega)).trans ((z_up_ne (by first | decide | omega)).trans (by assumption)) | exact (z_up_ne (by first | decide | omega)).trans ((z_up_ne (by first | decide | omega)).trans (z_up_self _ _ _))) rfl rfl (by first | assumption | decide | omega) (by decide) rfl (Nat.le_of_ble_eq_true rfl) rfl ?_
  refine zb_go (zg_bipush (-9) (by decide)) rfl ?_
  refine zb_br (zg_icmp_eq (tgt := 15) (by decide)) rfl (fun c => ?_) (fun c => ?_)
  · rw [if_neg (fun q => q c)] at hQ
    refine kX3_hasTurn_15 ?_
    refine zb_go (zg_iconst 0 (by decide)) rfl ?_
    refine zb_out ?_
    refine kX3_hasTurn_16 ?_
    refine zb_end (zg_ireturn rfl (by rfl) ?_) rfl
    exact hQ
  · rw [if_pos c] at hQ
    refine zb_go (zg_iconst 1 (by decide)) rfl ?_
    refine zb_end (zg_goto (tgt := 16) (by decide) ?_) rfl
    refine kX3_hasTurn_16 ?_
    refine zb_end (zg_ireturn rfl (by rfl) ?_) rfl
    exact hQ
def rT (B : Nat → Int32) (r k : Nat) : Nat := zcnt (fun g => decide (B (4 * r + g) ≠ -9)) k
theorem r_X3_timesOf (hR : isRota h a tu tw S B) (ha : a + 2 < n) (hr : r < 6) : zRet K l 3 mX3_timesOf [.ref a, .int (nI r)] n h (some (.int (nI (rT B r 4)))) h := by
  refine zRet.of (by decide) (Nat.le_of_ble_eq_true rfl) (fun Q hQ => ?_)
  have h1 := hR.1
  have lp : ∀ k, k ≤ 4 → zGo K l 3 mX3_timesOf 4 [(0, .ref a), (1, .int (nI r)), (2, .int (nI (rT B r k))), (3, .int (nI k))] [] n h 0 0 Q := by
    refine z_down 4 (fun k hk ih => ?_)
    refine kX3_timesOf_4 ?_
    refine zb_go (zg_iload_n rfl) rfl ?_
    refine zb_go (zg_iconst 4 (by decide)) rfl ?_
    refine zb_br (zg_icmp_ge (tgt := 27) (by decide)) rfl (fun c => ?_) (fun c => ?_)
    · have e : k = 4 := by
        have q := (nI_leI (a := 4) (b := k) (by decide) (by omega)).mp c
        omega
      subst e
      refine kX3_timesOf_27 ?_
      refine zb_go (zg_iload_n rfl) rfl ?_
      refine zb_end (zg_ireturn rfl (by rfl) ?_) rfl
      exact hQ
    · have hk4 : k < 4 := by
        rcases Nat.lt_or_ge k 4 with q | q
        · exact q
        · exact absurd (nI_le q (by omega)) c
      refine zb_go (zg_aload_n rfl) rfl ?_
      refine zb_go (zg_iload_n rfl) rfl ?_
      refine zb_go (zg_iload_n rfl) rfl ?_
      refine zb_callv (r_X3_hasTurn hR ha hr hk4) lX3_42 (by first | assumption | exact z_up_self _ _ _ | exact (z_up_ne (by first | decide | omega)).trans (by assumption) | exact (z_up_ne (by first | decide | omega)).trans (z_up_self _ _ _) | exact (z_up_ne (by first | decide | omega)).trans ((z_up_ne (by first | decide | omega)).trans (by assumption)) | exact (z_up_ne (by first | decide | omega)).trans ((z_up_ne (by first | decide | omega)).trans (z_up_self _ _ _))) rfl rfl (by first | assumption | decide | omega) (by decide) rfl (Nat.le_of_ble_eq_true rfl) rfl ?_
      refine zb_br (zg_if_eq (tgt := 21) (by decide)) rfl (fun c => ?_) (fun c => ?_)
      · have e : rT B r (k + 1) = rT B r k := by
          have q := zb_0.mp c
          simp only [rT, zcnt, decide_eq_true_eq, if_neg q, Nat.add_zero]
        refine kX3_timesOf_21 ?_
        refine zb_go (zg_iinc 1 (by decide) rfl (by decide)) rfl ?_
        refine zb_end (zg_goto (tgt := 4) (by decide) ?_) rfl
        rw [nI_1, ← e]
        exact ih hk4
      · have e : rT B r (k + 1) = rT B r k + 1 := by
          have q := zb_n.mp c
          simp only [rT, zcnt, decide_eq_true_eq, if_pos q]
        refine zb_go (zg_iinc 1 (by decide) rfl (by decide)) rfl ?_
        refine zb_out ?_
        refine kX3_timesOf_21 ?_
        refine zb_go (zg_iinc 1 (by decide) rfl (by decide)) rfl ?_
        refine zb_end (zg_goto (tgt := 4) (by decide) ?_) rfl
        rw [nI_1, nI_1, ← e]
        exact ih hk4
  refine kX3_timesOf_0 ?_
  refine zb_go (zg_iconst 0 (by decide)) rfl ?_
  refine zb_go (zg_istore_n (by decide)) rfl ?_
  refine zb_go (zg_iconst 0 (by decide)) rfl ?_
  refine zb_go (zg_istore_n (by decide)) rfl ?_
  refine zb_out ?_
  exact lp 0 (by omega)
end
end
section
/-! PARISH: hours, ringers, tower, times, rest; wants, homes, bells, busy, ills -/
abbrev zP : Type := Nat × Nat × Nat × Nat × Nat × (Nat → Nat) × (Nat → Nat) × (Nat → Nat) × (Nat → Nat) × (Nat → Nat)
def pH (P : zP) : Nat := P.1
def pR (P : zP) : Nat := P.2.1
def pTw (P : zP) : Nat := P.2.2.1
def pTi (P : zP) : Nat := P.2.2.2.1
def pRe (P : zP) : Nat := P.2.2.2.2.1
def pW (P : zP) : Nat → Nat := P.2.2.2.2.2.1
def pHo (P : zP) : Nat → Nat := P.2.2.2.2.2.2.1
def pBe (P : zP) : Nat → Nat := P.2.2.2.2.2.2.2.1
def pBu (P : zP) : Nat → Nat := P.2.2.2.2.2.2.2.2.1
def pIl (P : zP) : Nat → Nat := P.2.2.2.2.2.2.2.2.2
/-- as the document bounds them -/
def okP (P : zP) : Prop := pH P ≤ 4 ∧ pR P ≤ 6 ∧ pTw P ≤ 60 ∧ (1 ≤ pTi P ∧ pTi P ≤ 4) ∧ pRe P ≤ 3 ∧ (∀ i, i < pH P → 1 ≤ pW P i ∧ pW P i ≤ 3) ∧ ∀ i, i < pR P → pHo P i ≤ 60 ∧ pBe P i ≤ 7 ∧ pBu P i ≤ 15 ∧ pIl P i ≤ 9
def isPar (h : zH) (p : Nat) (P : zP) : Prop :=
  h p = .inr (1, [.int (nI (pH P)), .int (nI (pR P)), .int (nI (pTw P)), .int (nI (pTi P)), .int (nI (pRe P)), .ref (p + 1), .ref (p + 2), .ref (p + 3), .ref (p + 4), .ref (p + 5)]) ∧
  (∃ f, h (p + 1) = .inl (0, 4, .inl f) ∧ ∀ i, i < pH P → f i = nI (pW P i)) ∧ (∃ f, h (p + 2) = .inl (0, 6, .inl f) ∧ ∀ i, i < pR P → f i = nI (pHo P i)) ∧ (∃ f, h (p + 3) = .inl (0, 6, .inl f) ∧ ∀ i, i < pR P → f i = nI (pBe P i)) ∧
  (∃ f, h (p + 4) = .inl (0, 6, .inl f) ∧ ∀ i, i < pR P → f i = nI (pBu P i)) ∧ (∃ f, h (p + 5) = .inl (0, 6, .inl f) ∧ ∀ i, i < pR P → f i = nI (pIl P i))
section
variable {K : zK} {l : Launch} {n p r g b : Nat} {h : zH} {P : zP} {x y z : Int32}
theorem r_X2_hasHour (hP : isPar h p P) (hp : p + 5 < n) : zRet K l 0 mX2_hasHour [.ref p, .int x] n h (some (.int (if 0 ≤ x ∧ x < nI (pH P) then 1 else 0))) h := by
  refine zRet.of (by decide) (Nat.le_of_ble_eq_true rfl) (fun Q hQ => ?_)
  have h1 := hP.1
  refine kX2_hasHour_0 ?_
  refine zb_go (zg_iload_n rfl) rfl ?_
  refine zb_br (zg_if_lt (tgt := 16) (by decide)) rfl (fun c0 => ?_) (fun c0 => ?_)
  · rw [if_neg (fun q => Int32.not_le.mpr c0 q.1)] at hQ
    refine kX2_hasHour_16 ?_
    refine zb_go (zg_iconst 0 (by decide)) rfl ?_
    refine zb_out ?_
    refine kX2_hasHour_17 ?_
    refine zb_end (zg_ireturn rfl (by rfl) ?_) rfl
    exact hQ
  · refine zb_go (zg_iload_n rfl) rfl ?_
    refine zb_go (zg_aload_n rfl) rfl ?_
    refine zb_go (zg_getfield fX2_9 (by first | assumption | decide | omega) (by repeat (first | assumption | exact z_up_self _ _ _ | refine (z_up_ne (by first | decide | omega)).trans ?_)) (by rfl)) rfl ?_
    refine zb_br (zg_icmp_ge (tgt := 16) (by decide)) rfl (fun c => ?_) (fun c => ?_)
    · rw [if_neg (fun q => Int32.not_le.mpr q.2 c)] at hQ
      refine kX2_hasHour_16 ?_
      refine zb_go (zg_iconst 0 (by decide)) rfl ?_
      refine zb_out ?_
      refine kX2_hasHour_17 ?_
      refine zb_end (zg_ireturn rfl (by rfl) ?_) rfl
      exact hQ
    · rw [if_pos ⟨Int32.not_lt.mp c0, Int32.not_le.mp c⟩] at hQ
      refine zb_go (zg_iconst 1 (by decide)) rfl ?_
      refine zb_end (zg_goto (tgt := 17) (by decide) ?_) rfl
      refine kX2_hasHour_17 ?_
      refine zb_end (zg_ireturn rfl (by rfl) ?_) rfl
      exact hQ
theorem r_X2_hasRinger (hP : isPar h p P) (hp : p + 5 < n) : zRet K l 0 mX2_hasRinger [.ref p, .int x] n h (some (.int (if 0 ≤ x ∧ x < nI (pR P) then 1 else 0))) h := by
  refine zRet.of (by decide) (Nat.le_of_ble_eq_true rfl) (fun Q hQ => ?_)
  have h1 := hP.1
  refine kX2_hasRinger_0 ?_
  refine zb_go (zg_iload_n rfl) rfl ?_
  refine zb_br (zg_if_lt (tgt := 16) (by decide)) rfl (fun c0 => ?_) (fun c0 => ?_)
  · rw [if_neg (fun q => Int32.not_le.mpr c0 q.1)] at hQ
    refine kX2_hasRinger_16 ?_
    refine zb_go (zg_iconst 0 (by decide)) rfl ?_
    refine zb_out ?_
    refine kX2_hasRinger_17 ?_
    refine zb_end (zg_ireturn rfl (by rfl) ?_) rfl
    exact hQ
  · refine zb_go (zg_iload_n rfl) rfl ?_
    refine zb_go (zg_aload_n rfl) rfl ?_
    refine zb_go (zg_getfield fX2_15 (by first | assumption | decide | omega) (by repeat (first | assumption | exact z_up_self _ _ _ | refine (z_up_ne (by first | decide | omega)).trans ?_)) (by rfl)) rfl ?_
    refine zb_br (zg_icmp_ge (tgt := 16) (by decide)) rfl (fun c => ?_) (fun c => ?_)
    · rw [if_neg (fun q => Int32.not_le.mpr q.2 c)] at hQ
      refine kX2_hasRinger_16 ?_
      refine zb_go (zg_iconst 0 (by decide)) rfl ?_
      refine zb_out ?_
      refine kX2_hasRinger_17 ?_
      refine zb_end (zg_ireturn rfl (by rfl) ?_) rfl
      exact hQ
    · rw [if_pos ⟨Int32.not_lt.mp c0, Int32.not_le.mp c⟩] at hQ
      refine zb_go (zg_iconst 1 (by decide)) rfl ?_
      refine zb_end (zg_goto (tgt := 17) (by decide) ?_) rfl
      refine kX2_hasRinger_17 ?_
      refine zb_end (zg_ireturn rfl (by rfl) ?_) rfl
      exact hQ
/-- an int that is a number below N -/
theorem z_isIx {N : Nat} (hN : N < 2 ^ 31) (h : 0 ≤ x ∧ x < nI N) : ∃ k, k < N ∧ x = nI k := by
  obtain ⟨j, hj, rfl⟩ := nI_of (Int32.not_lt.mpr h.1)
  exact ⟨j, (nI_ltI hj hN).mp h.2, rfl⟩
theorem z_isIn {N k : Nat} (hk : k < 2 ^ 31) (hN : N < 2 ^ 31) : (0 ≤ nI k ∧ nI k < nI N) ↔ k < N := ⟨fun q => (nI_ltI hk hN).mp q.2, fun q => ⟨nI_pos' hk, nI_lt q hN⟩⟩
theorem r_X2_hasHourN (hP : isPar h p P) (hp : p + 5 < n) (ok : okP P) (hg : g < 2 ^ 31) : zRet K l 0 mX2_hasHour [.ref p, .int (nI g)] n h (some (.int (if g < pH P then 1 else 0))) h := by
  have e : (if 0 ≤ nI g ∧ nI g < nI (pH P) then (1 : Int32) else 0) = if g < pH P then 1 else 0 := by
    have := ok.1
    by_cases q : g < pH P
    · rw [if_pos q, if_pos ((z_isIn hg (by omega)).mpr q)]
    · rw [if_neg q, if_neg (fun z => q ((z_isIn hg (by omega)).mp z))]
  rw [← e]
  exact r_X2_hasHour hP hp
theorem r_X2_hasRingerN (hP : isPar h p P) (hp : p + 5 < n) (ok : okP P) (hr : r < 2 ^ 31) : zRet K l 0 mX2_hasRinger [.ref p, .int (nI r)] n h (some (.int (if r < pR P then 1 else 0))) h := by
  have e : (if 0 ≤ nI r ∧ nI r < nI (pR P) then (1 : Int32) else 0) = if r < pR P then 1 else 0 := by
    have := ok.2.1
    by_cases q : r < pR P
    · rw [if_pos q, if_pos ((z_isIn hr (by omega)).mpr q)]
    · rw [if_neg q, if_neg (fun z => q ((z_isIn hr (by omega)).mp z))]
  rw [← e]
  exact r_X2_hasRinger hP hp
theorem r_X2_hasBell (hP : isPar h p P) (hp : p + 5 < n) (ok : okP P) : zRet K l 1 mX2_hasBell [.ref p, .int x, .int y] n h (some (.int (if (0 ≤ x ∧ x < nI (pH P)) ∧ 0 ≤ y ∧ y < nI (pW P x.toNatClampNeg) then 1 else 0))) h := by
  refine zRet.of (by decide) (Nat.le_of_ble_eq_true rfl) (fun Q hQ => ?_)
  obtain ⟨h1, ⟨f, h2, hf⟩, -⟩ := id hP
  have k1 := ok.1
  refine kX2_hasBell_0 ?_
  refine zb_go (zg_aload_n rfl) rfl ?_
  refine zb_go (zg_iload_n rfl) rfl ?_
  refine zb_callv (r_X2_hasHour hP hp) lX2_43 (by repeat (first | assumption | exact z_up_self _ _ _ | refine (z_up_ne (by first | decide | omega)).trans ?_)) rfl rfl (by first | assumption | decide | omega) (by decide) rfl (Nat.le_of_ble_eq_true rfl) rfl ?_
  refine zb_br (zg_if_eq (tgt := 26) (by decide)) rfl (fun c0 => ?_) (fun c0 => ?_)
  · rw [if_neg (fun q => zb_0.mp c0 q.1)] at hQ
    refine kX2_hasBell_26 ?_
    refine zb_go (zg_iconst 0 (by decide)) rfl ?_
    refine zb_out ?_
    refine kX2_hasBell_27 ?_
    refine zb_end (zg_ireturn rfl (by rfl) ?_) rfl
    exact hQ
  · have c0 := zb_n.mp c0
    obtain ⟨g, hg, rfl⟩ := z_isIx (by omega) c0
    rw [nI_clamp (by omega)] at hQ
    refine zb_go (zg_iload_n rfl) rfl ?_
    refine zb_br (zg_if_lt (tgt := 26) (by decide)) rfl (fun c1 => ?_) (fun c1 => ?_)
    · rw [if_neg (fun q => Int32.not_le.mpr c1 q.2.1)] at hQ
      refine kX2_hasBell_26 ?_
      refine zb_go (zg_iconst 0 (by decide)) rfl ?_
      refine zb_out ?_
      refine kX2_hasBell_27 ?_
      refine zb_end (zg_ireturn rfl (by rfl) ?_) rfl
      exact hQ
    · refine zb_go (zg_iload_n rfl) rfl ?_
      refine zb_go (zg_aload_n rfl) rfl ?_
      refine zb_go (zg_getfield fX2_27 (by first | assumption | decide | omega) (by repeat (first | assumption | exact z_up_self _ _ _ | refine (z_up_ne (by first | decide | omega)).trans ?_)) (by rfl)) rfl ?_
      refine zb_go (zg_iload_n rfl) rfl ?_
      refine zb_go (zi_iaload (by first | assumption | decide | omega) (by repeat (first | assumption | exact z_up_self _ _ _ | refine (z_up_ne (by first | decide | omega)).trans ?_)) (by first | assumption | exact zIx.nI (by omega) (by decide) | exact ⟨by decide, by decide⟩)) rfl ?_
      refine zb_br (zg_icmp_ge (tgt := 26) (by decide)) rfl (fun c => ?_) (fun c => ?_)
      · rw [hf g hg] at c
        rw [if_neg (fun q => Int32.not_le.mpr q.2.2 c)] at hQ
        refine kX2_hasBell_26 ?_
        refine zb_go (zg_iconst 0 (by decide)) rfl ?_
        refine zb_out ?_
        refine kX2_hasBell_27 ?_
        refine zb_end (zg_ireturn rfl (by rfl) ?_) rfl
        exact hQ
      · rw [hf g hg] at c
        rw [if_pos ⟨c0, Int32.not_lt.mp c1, Int32.not_le.mp c⟩] at hQ
        refine zb_go (zg_iconst 1 (by decide)) rfl ?_
        refine zb_end (zg_goto (tgt := 27) (by decide) ?_) rfl
        refine kX2_hasBell_27 ?_
        refine zb_end (zg_ireturn rfl (by rfl) ?_) rfl
        exact hQ
theorem z_ifc {p q : Prop} [Decidable p] [Decidable q] {a b : Int32} (h : p ↔ q) : (if p then a else b) = if q then a else b := by
  by_cases hq : q
  · rw [if_pos hq, if_pos (h.mpr hq)]
  · rw [if_neg hq, if_neg (fun z => hq (h.mp z))]
theorem r_X2_hasBellN (hP : isPar h p P) (hp : p + 5 < n) (ok : okP P) (hg : g < 2 ^ 31) (hb : b < 2 ^ 31) : zRet K l 1 mX2_hasBell [.ref p, .int (nI g), .int (nI b)] n h (some (.int (if g < pH P ∧ b < pW P g then 1 else 0))) h := by
  have k1 := ok.1
  have e : (if (0 ≤ nI g ∧ nI g < nI (pH P)) ∧ 0 ≤ nI b ∧ nI b < nI (pW P (nI g).toNatClampNeg) then (1 : Int32) else 0) = if g < pH P ∧ b < pW P g then 1 else 0 := by
    refine z_ifc ?_
    rw [nI_clamp hg]
    by_cases q : g < pH P
    · have hw := ok.2.2.2.2.2.1 g q
      exact and_congr (z_isIn hg (by omega)) (z_isIn hb (by omega))
    · exact ⟨fun z => absurd ((z_isIn hg (by omega)).mp z.1) q, fun z => absurd z.1 q⟩
  rw [← e]
  exact r_X2_hasBell hP hp ok
def zsum (f : Nat → Nat) : Nat → Nat
  | 0 => 0
  | k + 1 => zsum f k + f k
theorem zsum_le {f : Nat → Nat} {m : Nat} : ∀ {k : Nat}, (∀ i, i < k → f i ≤ m) → zsum f k ≤ k * m
  | 0, _ => by simp [zsum]
  | k + 1, h => by
    have := zsum_le (k := k) (fun i hi => h i (by omega))
    have := h k (by omega)
    simp only [zsum]
    rw [Nat.add_mul]
    omega
theorem r_X2_wantedInAll (hP : isPar h p P) (hp : p + 5 < n) (ok : okP P) : zRet K l 0 mX2_wantedInAll [.ref p] n h (some (.int (nI (zsum (pW P) (pH P))))) h := by
  refine zRet.of (by decide) (Nat.le_of_ble_eq_true rfl) (fun Q hQ => ?_)
  obtain ⟨h1, ⟨f, h2, hf⟩, -⟩ := id hP
  have k1 := ok.1
  have lp : ∀ k, k ≤ pH P → zGo K l 0 mX2_wantedInAll 4 [(0, .ref p), (1, .int (nI (zsum (pW P) k))), (2, .int (nI k))] [] n h 0 0 Q := by
    refine z_down _ (fun k hk ih => ?_)
    refine kX2_wantedInAll_4 ?_
    refine zb_go (zg_iload_n rfl) rfl ?_
    refine zb_go (zg_aload_n rfl) rfl ?_
    refine zb_go (zg_getfield fX2_9 (by first | assumption | decide | omega) (by repeat (first | assumption | exact z_up_self _ _ _ | refine (z_up_ne (by first | decide | omega)).trans ?_)) (by rfl)) rfl ?_
    refine zb_br (zg_icmp_ge (tgt := 27) (by decide)) rfl (fun c => ?_) (fun c => ?_)
    · have e : k = pH P := by
        have := (nI_leI (by omega) (by omega)).mp c
        omega
      subst e
      refine kX2_wantedInAll_27 ?_
      refine zb_go (zg_iload_n rfl) rfl ?_
      refine zb_end (zg_ireturn rfl (by rfl) ?_) rfl
      exact hQ
    · have hk4 : k < pH P := Nat.not_le.mp (fun q => c (nI_le q (by omega)))
      refine zb_go (zg_iload_n rfl) rfl ?_
      refine zb_go (zg_aload_n rfl) rfl ?_
      refine zb_go (zg_getfield fX2_27 (by first | assumption | decide | omega) (by repeat (first | assumption | exact z_up_self _ _ _ | refine (z_up_ne (by first | decide | omega)).trans ?_)) (by rfl)) rfl ?_
      refine zb_go (zg_iload_n rfl) rfl ?_
      refine zb_go (zi_iaload (by first | assumption | decide | omega) (by repeat (first | assumption | exact z_up_self _ _ _ | refine (z_up_ne (by first | decide | omega)).trans ?_)) (by first | assumption | exact zIx.nI (by omega) (by decide) | exact ⟨by decide, by decide⟩)) rfl ?_
      refine zb_go zg_iadd rfl ?_
      refine zb_go (zg_istore_n (by decide)) rfl ?_
      refine zb_go (zg_iinc 1 (by decide) rfl (by decide)) rfl ?_
      refine zb_end (zg_goto (tgt := 4) (by decide) ?_) rfl
      rw [hf k hk4, nI_add, nI_1]
      exact ih hk4
  refine kX2_wantedInAll_0 ?_
  refine zb_go (zg_iconst 0 (by decide)) rfl ?_
  refine zb_go (zg_istore_n (by decide)) rfl ?_
  refine zb_go (zg_iconst 0 (by decide)) rfl ?_
  refine zb_go (zg_istore_n (by decide)) rfl ?_
  refine zb_out ?_
  exact lp 0 (by omega)
/-- the bells of an hour that a ringer could ring in it, as bits -/
def sBells (P : zP) (r g : Nat) : Nat := if r < pR P ∧ g < pH P ∧ (pBu P r).testBit g = false then pBe P r &&& (2 ^ pW P g - 1) else 0
theorem z_mask {k : Nat} (hk : k < 31) : ((1 : Int32) <<< (nI k &&& 31)) - 1 = nI (2 ^ k - 1) := by
  rw [show (1 : Int32) = nI 1 from rfl, z_shl (by omega), Nat.shiftLeft_eq, Nat.one_mul, pk_sub (Nat.two_pow_pos k)]
theorem r_X2_bellsFor (hP : isPar h p P) (hp : p + 5 < n) (ok : okP P) (hr : r < 2 ^ 31) (hg : g < 2 ^ 31) : zRet K l 1 mX2_bellsFor [.ref p, .int (nI r), .int (nI g)] n h (some (.int (nI (sBells P r g)))) h := by
  refine zRet.of (by decide) (Nat.le_of_ble_eq_true rfl) (fun Q hQ => ?_)
  obtain ⟨h1, ⟨f, h2, hf⟩, -, ⟨fb, h4, hfb⟩, ⟨fu, h5, hfu⟩, -⟩ := id hP
  have k1 := ok.1
  have k2 := ok.2.1
  unfold sBells at hQ
  refine kX2_bellsFor_0 ?_
  refine zb_go (zg_aload_n rfl) rfl ?_
  refine zb_go (zg_iload_n rfl) rfl ?_
  refine zb_callv (r_X2_hasRingerN hP hp ok hr) lX2_47 (by repeat (first | assumption | exact z_up_self _ _ _ | refine (z_up_ne (by first | decide | omega)).trans ?_)) rfl rfl (by first | assumption | decide | omega) (by decide) rfl (Nat.le_of_ble_eq_true rfl) rfl ?_
  refine zb_br (zg_if_eq (tgt := 29) (by decide)) rfl (fun c0 => ?_) (fun c0 => ?_)
  · rw [if_neg (fun q => zb_0.mp c0 q.1)] at hQ
    refine kX2_bellsFor_29 ?_
    refine zb_go (zg_iconst 0 (by decide)) rfl ?_
    refine zb_end (zg_ireturn rfl (by rfl) ?_) rfl
    exact hQ
  · have c0 := zb_n.mp c0
    have hb := ok.2.2.2.2.2.2 r c0
    refine zb_go (zg_aload_n rfl) rfl ?_
    refine zb_go (zg_iload_n rfl) rfl ?_
    refine zb_callv (r_X2_hasHourN hP hp ok hg) lX2_43 (by repeat (first | assumption | exact z_up_self _ _ _ | refine (z_up_ne (by first | decide | omega)).trans ?_)) rfl rfl (by first | assumption | decide | omega) (by decide) rfl (Nat.le_of_ble_eq_true rfl) rfl ?_
    refine zb_br (zg_if_eq (tgt := 29) (by decide)) rfl (fun c1 => ?_) (fun c1 => ?_)
    · rw [if_neg (fun q => zb_0.mp c1 q.2.1)] at hQ
      refine kX2_bellsFor_29 ?_
      refine zb_go (zg_iconst 0 (by decide)) rfl ?_
      refine zb_end (zg_ireturn rfl (by rfl) ?_) rfl
      exact hQ
    · have c1 := zb_n.mp c1
      have hw := ok.2.2.2.2.2.1 g c1
      refine zb_go (zg_aload_n rfl) rfl ?_
      refine zb_go (zg_getfield fX2_37 (by first | assumption | decide | omega) (by repeat (first | assumption | exact z_up_self _ _ _ | refine (z_up_ne (by first | decide | omega)).trans ?_)) (by rfl)) rfl ?_
      refine zb_go (zg_iload_n rfl) rfl ?_
      refine zb_go (zi_iaload (by first | assumption | decide | omega) (by repeat (first | assumption | exact z_up_self _ _ _ | refine (z_up_ne (by first | decide | omega)).trans ?_)) (by first | assumption | exact zIx.nI (by omega) (by decide) | exact ⟨by decide, by decide⟩)) rfl ?_
      refine zb_go (zg_iload_n rfl) rfl ?_
      refine zb_go zg_ishr rfl ?_
      refine zb_go (zg_iconst 1 (by decide)) rfl ?_
      refine zb_go zg_iand rfl ?_
      refine zb_br (zg_if_eq (tgt := 31) (by decide)) rfl (fun c2 => ?_) (fun c2 => ?_)
      · rw [hfu r c0, z_bit (by omega) (by omega)] at c2
        rw [if_pos ⟨c0, c1, by simpa using zb_0.mp c2⟩] at hQ
        refine kX2_bellsFor_31 ?_
        refine zb_go (zg_aload_n rfl) rfl ?_
        refine zb_go (zg_getfield fX2_34 (by first | assumption | decide | omega) (by repeat (first | assumption | exact z_up_self _ _ _ | refine (z_up_ne (by first | decide | omega)).trans ?_)) (by rfl)) rfl ?_
        refine zb_go (zg_iload_n rfl) rfl ?_
        refine zb_go (zi_iaload (by first | assumption | decide | omega) (by repeat (first | assumption | exact z_up_self _ _ _ | refine (z_up_ne (by first | decide | omega)).trans ?_)) (by first | assumption | exact zIx.nI (by omega) (by decide) | exact ⟨by decide, by decide⟩)) rfl ?_
        refine zb_go (zg_iconst 1 (by decide)) rfl ?_
        refine zb_go (zg_aload_n rfl) rfl ?_
        refine zb_go (zg_getfield fX2_27 (by first | assumption | decide | omega) (by repeat (first | assumption | exact z_up_self _ _ _ | refine (z_up_ne (by first | decide | omega)).trans ?_)) (by rfl)) rfl ?_
        refine zb_go (zg_iload_n rfl) rfl ?_
        refine zb_go (zi_iaload (by first | assumption | decide | omega) (by repeat (first | assumption | exact z_up_self _ _ _ | refine (z_up_ne (by first | decide | omega)).trans ?_)) (by first | assumption | exact zIx.nI (by omega) (by decide) | exact ⟨by decide, by decide⟩)) rfl ?_
        refine zb_go zg_ishl rfl ?_
        refine zb_go (zg_iconst 1 (by decide)) rfl ?_
        refine zb_go zg_isub rfl ?_
        refine zb_go zg_iand rfl ?_
        refine zb_end (zg_ireturn rfl (by rfl) ?_) rfl
        rw [hf g c1, hfb r c0, z_mask (by omega), z_and]
        exact hQ
      · rw [hfu r c0, z_bit (by omega) (by omega)] at c2
        rw [if_neg (fun q => by have := zb_n.mp c2; rw [q.2.2] at this; exact absurd this (by decide))] at hQ
        refine zb_out ?_
        refine kX2_bellsFor_29 ?_
        refine zb_go (zg_iconst 0 (by decide)) rfl ?_
        refine zb_end (zg_ireturn rfl (by rfl) ?_) rfl
        exact hQ
theorem sBells_lt (ok : okP P) : sBells P r g ≤ 7 := by
  unfold sBells
  split
  · next q =>
    have := (ok.2.2.2.2.2.2 r q.1).2.1
    exact Nat.le_trans Nat.and_le_left this
  · omega
theorem r_X2_canRing (hP : isPar h p P) (hp : p + 5 < n) (ok : okP P) (hr : r < 2 ^ 31) (hg : g < 2 ^ 31) (hb : b < 31) : zRet K l 2 mX2_canRing [.ref p, .int (nI r), .int (nI g), .int (nI b)] n h (some (.int (if (g < pH P ∧ b < pW P g) ∧ (sBells P r g).testBit b then 1 else 0))) h := by
  refine zRet.of (by decide) (Nat.le_of_ble_eq_true rfl) (fun Q hQ => ?_)
  have h1 := hP.1
  have k1 := sBells_lt (r := r) (g := g) ok
  refine kX2_canRing_0 ?_
  refine zb_go (zg_aload_n rfl) rfl ?_
  refine zb_go (zg_iload_n rfl) rfl ?_
  refine zb_go (zg_iload_n rfl) rfl ?_
  refine zb_callv (r_X2_hasBellN hP hp ok hg (by omega)) lX2_50 (by repeat (first | assumption | exact z_up_self _ _ _ | refine (z_up_ne (by first | decide | omega)).trans ?_)) rfl rfl (by first | assumption | decide | omega) (by decide) rfl (Nat.le_of_ble_eq_true rfl) rfl ?_
  refine zb_br (zg_if_eq (tgt := 26) (by decide)) rfl (fun c0 => ?_) (fun c0 => ?_)
  · rw [if_neg (fun q => zb_0.mp c0 q.1)] at hQ
    refine kX2_canRing_26 ?_
    refine zb_go (zg_iconst 0 (by decide)) rfl ?_
    refine zb_out ?_
    refine kX2_canRing_27 ?_
    refine zb_end (zg_ireturn rfl (by rfl) ?_) rfl
    exact hQ
  · refine zb_go (zg_aload_n rfl) rfl ?_
    refine zb_go (zg_iload_n rfl) rfl ?_
    refine zb_go (zg_iload_n rfl) rfl ?_
    refine zb_callv (r_X2_bellsFor hP hp ok hr hg) lX2_54 (by repeat (first | assumption | exact z_up_self _ _ _ | refine (z_up_ne (by first | decide | omega)).trans ?_)) rfl rfl (by first | assumption | decide | omega) (by decide) rfl (Nat.le_of_ble_eq_true rfl) rfl ?_
    refine zb_go (zg_iload_n rfl) rfl ?_
    refine zb_go zg_ishr rfl ?_
    refine zb_go (zg_iconst 1 (by decide)) rfl ?_
    refine zb_go zg_iand rfl ?_
    refine zb_br (zg_if_eq (tgt := 26) (by decide)) rfl (fun c1 => ?_) (fun c1 => ?_)
    · rw [z_bit (by omega) (by omega)] at c1
      rw [if_neg (fun q => zb_0.mp c1 q.2)] at hQ
      refine kX2_canRing_26 ?_
      refine zb_go (zg_iconst 0 (by decide)) rfl ?_
      refine zb_out ?_
      refine kX2_canRing_27 ?_
      refine zb_end (zg_ireturn rfl (by rfl) ?_) rfl
      exact hQ
    · rw [z_bit (by omega) (by omega)] at c1
      rw [if_pos ⟨zb_n.mp c0, zb_n.mp c1⟩] at hQ
      refine zb_go (zg_iconst 1 (by decide)) rfl ?_
      refine zb_end (zg_goto (tgt := 27) (by decide) ?_) rfl
      refine kX2_canRing_27 ?_
      refine zb_end (zg_ireturn rfl (by rfl) ?_) rfl
      exact hQ
/-- how many of a set of ringers could ring any of these bells -/
def sAble (P : zP) (g am be : Nat) (k : Nat) : Nat := zcnt (fun r => am.testBit r && decide (sBells P r g &&& be ≠ 0)) k
theorem r_X2_ableOf {am be : Nat} (hP : isPar h p P) (hp : p + 5 < n) (ok : okP P) (hg : g < 2 ^ 31) (ha : am < 2 ^ 31) (hbe : be < 2 ^ 31) : zRet K l 2 mX2_ableOf [.ref p, .int (nI g), .int (nI am), .int (nI be)] n h (some (.int (nI (sAble P g am be (pR P))))) h := by
  refine zRet.of (by decide) (Nat.le_of_ble_eq_true rfl) (fun Q hQ => ?_)
  have h1 := hP.1
  have k2 := ok.2.1
  have lp : ∀ k, k ≤ pR P → zGo K l 2 mX2_ableOf 6 [(0, .ref p), (1, .int (nI g)), (2, .int (nI am)), (3, .int (nI be)), (4, .int (nI (sAble P g am be k))), (5, .int (nI k))] [] n h 0 0 Q := by
    refine z_down _ (fun k hk ih => ?_)
    refine kX2_ableOf_6 ?_
    refine zb_go (zg_iload rfl) rfl ?_
    refine zb_go (zg_aload_n rfl) rfl ?_
    refine zb_go (zg_getfield fX2_15 (by first | assumption | decide | omega) (by repeat (first | assumption | exact z_up_self _ _ _ | refine (z_up_ne (by first | decide | omega)).trans ?_)) (by rfl)) rfl ?_
    refine zb_br (zg_icmp_ge (tgt := 45) (by decide)) rfl (fun c => ?_) (fun c => ?_)
    · have e : k = pR P := by
        have := (nI_leI (by omega) (by omega)).mp c
        omega
      subst e
      refine kX2_ableOf_45 ?_
      refine zb_go (zg_iload rfl) rfl ?_
      refine zb_end (zg_ireturn rfl (by rfl) ?_) rfl
      exact hQ
    · have hk4 : k < pR P := Nat.not_le.mp (fun q => c (nI_le q (by omega)))
      have kb := sBells_lt (r := k) (g := g) ok
      have kand : sBells P k g &&& be ≤ 7 := Nat.le_trans Nat.and_le_left kb
      refine zb_go (zg_iload_n rfl) rfl ?_
      refine zb_go (zg_iload rfl) rfl ?_
      refine zb_go zg_ishr rfl ?_
      refine zb_go (zg_iconst 1 (by decide)) rfl ?_
      refine zb_go zg_iand rfl ?_
      refine zb_br (zg_if_eq (tgt := 39) (by decide)) rfl (fun c1 => ?_) (fun c1 => ?_)
      · rw [z_bit ha (by omega)] at c1
        have e : sAble P g am be (k + 1) = sAble P g am be k := by simp [sAble, zcnt, zb_0.mp c1]
        refine kX2_ableOf_39 ?_
        refine zb_go (zg_iinc 1 (by decide) rfl (by decide)) rfl ?_
        refine zb_end (zg_goto (tgt := 6) (by decide) ?_) rfl
        rw [nI_1, ← e]
        exact ih hk4
      · rw [z_bit ha (by omega)] at c1
        have c1 := zb_n.mp c1
        refine zb_go (zg_aload_n rfl) rfl ?_
        refine zb_go (zg_iload rfl) rfl ?_
        refine zb_go (zg_iload_n rfl) rfl ?_
        refine zb_callv (r_X2_bellsFor hP hp ok (by omega) hg) lX2_54 (by repeat (first | assumption | exact z_up_self _ _ _ | refine (z_up_ne (by first | decide | omega)).trans ?_)) rfl rfl (by first | assumption | decide | omega) (by decide) rfl (Nat.le_of_ble_eq_true rfl) rfl ?_
        refine zb_go (zg_iload_n rfl) rfl ?_
        refine zb_go zg_iand rfl ?_
        refine zb_br (zg_if_eq (tgt := 39) (by decide)) rfl (fun c2 => ?_) (fun c2 => ?_)
        · rw [z_and] at c2
          have c2 : sBells P k g &&& be = 0 := (nI_eq (b := 0) (by omega) (by omega)).mp c2
          have e : sAble P g am be (k + 1) = sAble P g am be k := by simp [sAble, zcnt, c2]
          refine kX2_ableOf_39 ?_
          refine zb_go (zg_iinc 1 (by decide) rfl (by decide)) rfl ?_
          refine zb_end (zg_goto (tgt := 6) (by decide) ?_) rfl
          rw [nI_1, ← e]
          exact ih hk4
        · rw [z_and] at c2
          have c2 : ¬ sBells P k g &&& be = 0 := fun q => c2 (by rw [q]; rfl)
          have e : sAble P g am be (k + 1) = sAble P g am be k + 1 := by simp [sAble, zcnt, c1, c2]
          refine zb_go (zg_iinc 1 (by decide) rfl (by decide)) rfl ?_
          refine zb_out ?_
          refine kX2_ableOf_39 ?_
          refine zb_go (zg_iinc 1 (by decide) rfl (by decide)) rfl ?_
          refine zb_end (zg_goto (tgt := 6) (by decide) ?_) rfl
          rw [nI_1, nI_1, ← e]
          exact ih hk4
  refine kX2_ableOf_0 ?_
  refine zb_go (zg_iconst 0 (by decide)) rfl ?_
  refine zb_go (zg_istore (by decide)) rfl ?_
  refine zb_go (zg_iconst 0 (by decide)) rfl ?_
  refine zb_go (zg_istore (by decide)) rfl ?_
  refine zb_out ?_
  exact lp 0 (by omega)
theorem r_X2_busyHours (hP : isPar h p P) (hp : p + 5 < n) (ok : okP P) (hr : r < pR P) : zRet K l 1 mX2_busyHours [.ref p, .int (nI r)] n h (some (.int (nI (zpop (pBu P r &&& (2 ^ pH P - 1)))))) h := by
  refine zRet.of (by decide) (Nat.le_of_ble_eq_true rfl) (fun Q hQ => ?_)
  obtain ⟨h1, -, -, -, ⟨fu, h5, hfu⟩, -⟩ := id hP
  have k1 := ok.1
  have k2 := ok.2.1
  have hb := ok.2.2.2.2.2.2 r hr
  have hand : pBu P r &&& (2 ^ pH P - 1) ≤ 15 := Nat.le_trans Nat.and_le_left hb.2.2.1
  refine kX2_busyHours_0 ?_
  refine zb_go (zg_aload_n rfl) rfl ?_
  refine zb_go (zg_iload_n rfl) rfl ?_
  refine zb_callv (r_X2_hasRingerN hP hp ok (by omega)) lX2_47 (by repeat (first | assumption | exact z_up_self _ _ _ | refine (z_up_ne (by first | decide | omega)).trans ?_)) rfl rfl (by first | assumption | decide | omega) (by decide) rfl (Nat.le_of_ble_eq_true rfl) rfl ?_
  refine zb_br (zg_if_eq (tgt := 29) (by decide)) rfl (fun c => ?_) (fun c => ?_)
  · exact absurd hr (zb_0.mp c)
  · refine zb_go (zg_aload_n rfl) rfl ?_
    refine zb_go (zg_getfield fX2_37 (by first | assumption | decide | omega) (by repeat (first | assumption | exact z_up_self _ _ _ | refine (z_up_ne (by first | decide | omega)).trans ?_)) (by rfl)) rfl ?_
    refine zb_go (zg_iload_n rfl) rfl ?_
    refine zb_go (zi_iaload (by first | assumption | decide | omega) (by repeat (first | assumption | exact z_up_self _ _ _ | refine (z_up_ne (by first | decide | omega)).trans ?_)) (by first | assumption | exact zIx.nI (by omega) (by decide) | exact ⟨by decide, by decide⟩)) rfl ?_
    refine zb_go (zg_iconst 1 (by decide)) rfl ?_
    refine zb_go (zg_aload_n rfl) rfl ?_
    refine zb_go (zg_getfield fX2_9 (by first | assumption | decide | omega) (by repeat (first | assumption | exact z_up_self _ _ _ | refine (z_up_ne (by first | decide | omega)).trans ?_)) (by rfl)) rfl ?_
    refine zb_go zg_ishl rfl ?_
    refine zb_go (zg_iconst 1 (by decide)) rfl ?_
    refine zb_go zg_isub rfl ?_
    refine zb_go zg_iand rfl ?_
    rw [hfu r hr, z_mask (by omega), z_and]
    refine zb_calls (r_bitCount (by omega)) lX2_58 rfl (by decide) rfl (Nat.le_of_ble_eq_true rfl) rfl ?_
    refine zb_end (zg_goto (tgt := 30) (by decide) ?_) rfl
    refine kX2_busyHours_30 ?_
    refine zb_end (zg_ireturn rfl (by rfl) ?_) rfl
    exact hQ
def zdist (a b : Nat) : Nat := if a ≤ b then b - a else a - b
theorem z_absd {a b : Nat} (ha : a < 2 ^ 30) (hb : b < 2 ^ 30) : (if 0 ≤ nI a - nI b then nI a - nI b else 0 - (nI a - nI b)) = nI (zdist a b) := by
  unfold zdist
  rcases Nat.lt_or_ge a b with q | q
  · have h1 := pk_sneg hb q
    rw [if_neg (Int32.not_le.mpr h1), if_pos (by omega), show (0 : Int32) - (nI a - nI b) = nI b - nI a by rw [Int32.zero_sub, Int32.neg_sub], pk_sub (by omega)]
  · rw [pk_sub q, if_pos (nI_pos' (by omega))]
    split
    · next z => rw [show a - b = b - a by omega]
    · rfl
theorem r_X2_way {w : Nat} (hP : isPar h p P) (hp : p + 5 < n) (ok : okP P) (hr : r < pR P) (hw : w < 2 ^ 30) : zRet K l 1 mX2_way [.ref p, .int (nI r), .int (nI w)] n h (some (.int (nI (zdist (pHo P r) w)))) h := by
  refine zRet.of (by decide) (Nat.le_of_ble_eq_true rfl) (fun Q hQ => ?_)
  obtain ⟨h1, -, ⟨fu, h5, hfu⟩, -⟩ := id hP
  have k2 := ok.2.1
  have hb := ok.2.2.2.2.2.2 r hr
  refine kX2_way_0 ?_
  refine zb_go (zg_aload_n rfl) rfl ?_
  refine zb_go (zg_iload_n rfl) rfl ?_
  refine zb_callv (r_X2_hasRingerN hP hp ok (by omega)) lX2_47 (by repeat (first | assumption | exact z_up_self _ _ _ | refine (z_up_ne (by first | decide | omega)).trans ?_)) rfl rfl (by first | assumption | decide | omega) (by decide) rfl (Nat.le_of_ble_eq_true rfl) rfl ?_
  refine zb_br (zg_if_eq (tgt := 22) (by decide)) rfl (fun c => ?_) (fun c => ?_)
  · exact absurd hr (zb_0.mp c)
  · rw [← z_absd (by omega) hw, ← hfu r hr] at hQ
    refine zb_go (zg_aload_n rfl) rfl ?_
    refine zb_go (zg_getfield fX2_31 (by first | assumption | decide | omega) (by repeat (first | assumption | exact z_up_self _ _ _ | refine (z_up_ne (by first | decide | omega)).trans ?_)) (by rfl)) rfl ?_
    refine zb_go (zg_iload_n rfl) rfl ?_
    refine zb_go (zi_iaload (by first | assumption | decide | omega) (by repeat (first | assumption | exact z_up_self _ _ _ | refine (z_up_ne (by first | decide | omega)).trans ?_)) (by first | assumption | exact zIx.nI (by omega) (by decide) | exact ⟨by decide, by decide⟩)) rfl ?_
    refine zb_go (zg_iload_n rfl) rfl ?_
    refine zb_go zg_isub rfl ?_
    refine zb_go (zg_mabs wlX2_64 (by decide) (Nat.le_of_ble_eq_true rfl)) rfl ?_
    refine zb_end (zg_goto (tgt := 23) (by decide) ?_) rfl
    refine kX2_way_23 ?_
    refine zb_end (zg_ireturn rfl (by rfl) ?_) rfl
    exact hQ
def zprod (f : Nat → Nat) : Nat → Nat
  | 0 => 1
  | k + 1 => zprod f k * f k
def sWt (P : zP) (w : Nat) : Nat → Nat := zprod (fun r => if w.testBit r then 10 - pIl P r else pIl P r)
theorem r_X2_weightOf {w : Nat} (hP : isPar h p P) (hp : p + 5 < n) (ok : okP P) (hw : w < 2 ^ 31) : zRet K l 0 mX2_weightOf [.ref p, .int (nI w)] n h (some (.int (nI (sWt P w (pR P))))) h := by
  refine zRet.of (by decide) (Nat.le_of_ble_eq_true rfl) (fun Q hQ => ?_)
  obtain ⟨h1, -, -, -, -, ⟨f, h6, hf⟩⟩ := id hP
  have k2 := ok.2.1
  have lp : ∀ k, k ≤ pR P → zGo K l 0 mX2_weightOf 4 [(0, .ref p), (1, .int (nI w)), (2, .int (nI (sWt P w k))), (3, .int (nI k))] [] n h 0 0 Q := by
    refine z_down _ (fun k hk ih => ?_)
    refine kX2_weightOf_4 ?_
    refine zb_go (zg_iload_n rfl) rfl ?_
    refine zb_go (zg_aload_n rfl) rfl ?_
    refine zb_go (zg_getfield fX2_15 (by first | assumption | decide | omega) (by repeat (first | assumption | exact z_up_self _ _ _ | refine (z_up_ne (by first | decide | omega)).trans ?_)) (by rfl)) rfl ?_
    refine zb_br (zg_icmp_ge (tgt := 47) (by decide)) rfl (fun c => ?_) (fun c => ?_)
    · have e : k = pR P := by
        have := (nI_leI (by omega) (by omega)).mp c
        omega
      subst e
      refine kX2_weightOf_47 ?_
      refine zb_go (zg_iload_n rfl) rfl ?_
      refine zb_end (zg_ireturn rfl (by rfl) ?_) rfl
      exact hQ
    · have hk4 : k < pR P := Nat.not_le.mp (fun q => c (nI_le q (by omega)))
      have hil := (ok.2.2.2.2.2.2 k hk4).2.2.2
      refine zb_go (zg_iload_n rfl) rfl ?_
      refine zb_go (zg_iload_n rfl) rfl ?_
      refine zb_go (zg_iload_n rfl) rfl ?_
      refine zb_go zg_ishr rfl ?_
      refine zb_go (zg_iconst 1 (by decide)) rfl ?_
      refine zb_go zg_iand rfl ?_
      refine zb_br (zg_if_eq (tgt := 33) (by decide)) rfl (fun c1 => ?_) (fun c1 => ?_)
      · rw [z_bit hw (by omega)] at c1
        have e : sWt P w (k + 1) = sWt P w k * pIl P k := by simp [sWt, zprod, zb_0.mp c1]
        refine kX2_weightOf_33 ?_
        refine zb_go (zg_aload_n rfl) rfl ?_
        refine zb_go (zg_getfield fX2_40 (by first | assumption | decide | omega) (by repeat (first | assumption | exact z_up_self _ _ _ | refine (z_up_ne (by first | decide | omega)).trans ?_)) (by rfl)) rfl ?_
        refine zb_go (zg_iload_n rfl) rfl ?_
        refine zb_go (zi_iaload (by first | assumption | decide | omega) (by repeat (first | assumption | exact z_up_self _ _ _ | refine (z_up_ne (by first | decide | omega)).trans ?_)) (by first | assumption | exact zIx.nI (by omega) (by decide) | exact ⟨by decide, by decide⟩)) rfl ?_
        refine zb_out ?_
        refine kX2_weightOf_39 ?_
        refine zb_go zg_imul rfl ?_
        refine zb_go (zg_istore_n (by decide)) rfl ?_
        refine zb_go (zg_iinc 1 (by decide) rfl (by decide)) rfl ?_
        refine zb_end (zg_goto (tgt := 4) (by decide) ?_) rfl
        rw [hf k hk4, pk_mul, nI_1, ← e]
        exact ih hk4
      · rw [z_bit hw (by omega)] at c1
        have e : sWt P w (k + 1) = sWt P w k * (10 - pIl P k) := by simp [sWt, zprod, zb_n.mp c1]
        refine zb_go (zg_bipush 10 (by decide)) rfl ?_
        refine zb_go (zg_aload_n rfl) rfl ?_
        refine zb_go (zg_getfield fX2_40 (by first | assumption | decide | omega) (by repeat (first | assumption | exact z_up_self _ _ _ | refine (z_up_ne (by first | decide | omega)).trans ?_)) (by rfl)) rfl ?_
        refine zb_go (zg_iload_n rfl) rfl ?_
        refine zb_go (zi_iaload (by first | assumption | decide | omega) (by repeat (first | assumption | exact z_up_self _ _ _ | refine (z_up_ne (by first | decide | omega)).trans ?_)) (by first | assumption | exact zIx.nI (by omega) (by decide) | exact ⟨by decide, by decide⟩)) rfl ?_
        refine zb_go zg_isub rfl ?_
        rw [hf k hk4, show (10 : Int32) = nI 10 from rfl, pk_sub (by omega)]
        refine zb_end (zg_goto (tgt := 39) (by decide) ?_) rfl
        refine kX2_weightOf_39 ?_
        refine zb_go zg_imul rfl ?_
        refine zb_go (zg_istore_n (by decide)) rfl ?_
        refine zb_go (zg_iinc 1 (by decide) rfl (by decide)) rfl ?_
        refine zb_end (zg_goto (tgt := 4) (by decide) ?_) rfl
        rw [pk_mul, nI_1, ← e]
        exact ih hk4
  refine kX2_weightOf_0 ?_
  refine zb_go (zg_iconst 1 (by decide)) rfl ?_
  refine zb_go (zg_istore_n (by decide)) rfl ?_
  refine zb_go (zg_iconst 0 (by decide)) rfl ?_
  refine zb_go (zg_istore_n (by decide)) rfl ?_
  refine zb_out ?_
  exact lp 0 (by omega)
theorem r_X2_weightInAll (hP : isPar h p P) (hp : p + 5 < n) (ok : okP P) : zRet K l 0 mX2_weightInAll [.ref p] n h (some (.int (nI (10 ^ pR P)))) h := by
  refine zRet.of (by decide) (Nat.le_of_ble_eq_true rfl) (fun Q hQ => ?_)
  have h1 := hP.1
  have k2 := ok.2.1
  have lp : ∀ k, k ≤ pR P → zGo K l 0 mX2_weightInAll 4 [(0, .ref p), (1, .int (nI (10 ^ k))), (2, .int (nI k))] [] n h 0 0 Q := by
    refine z_down _ (fun k hk ih => ?_)
    refine kX2_weightInAll_4 ?_
    refine zb_go (zg_iload_n rfl) rfl ?_
    refine zb_go (zg_aload_n rfl) rfl ?_
    refine zb_go (zg_getfield fX2_15 (by first | assumption | decide | omega) (by repeat (first | assumption | exact z_up_self _ _ _ | refine (z_up_ne (by first | decide | omega)).trans ?_)) (by rfl)) rfl ?_
    refine zb_br (zg_icmp_ge (tgt := 23) (by decide)) rfl (fun c => ?_) (fun c => ?_)
    · have e : k = pR P := by
        have := (nI_leI (by omega) (by omega)).mp c
        omega
      subst e
      refine kX2_weightInAll_23 ?_
      refine zb_go (zg_iload_n rfl) rfl ?_
      refine zb_end (zg_ireturn rfl (by rfl) ?_) rfl
      exact hQ
    · have hk4 : k < pR P := Nat.not_le.mp (fun q => c (nI_le q (by omega)))
      refine zb_go (zg_iload_n rfl) rfl ?_
      refine zb_go (zg_bipush 10 (by decide)) rfl ?_
      refine zb_go zg_imul rfl ?_
      refine zb_go (zg_istore_n (by decide)) rfl ?_
      refine zb_go (zg_iinc 1 (by decide) rfl (by decide)) rfl ?_
      refine zb_end (zg_goto (tgt := 4) (by decide) ?_) rfl
      rw [show (10 : Int32) = nI 10 from rfl, pk_mul, nI_1, ← Nat.pow_succ]
      exact ih hk4
  refine kX2_weightInAll_0 ?_
  refine zb_go (zg_iconst 1 (by decide)) rfl ?_
  refine zb_go (zg_istore_n (by decide)) rfl ?_
  refine zb_go (zg_iconst 0 (by decide)) rfl ?_
  refine zb_go (zg_istore_n (by decide)) rfl ?_
  refine zb_out ?_
  exact lp 0 (by omega)
/-- only cells lo .. hi may differ -/
def zSame (lo hi : Nat) (h h' : zH) : Prop := ∀ k, k < lo ∨ hi < k → h' k = h k
theorem zSame.rf {lo hi : Nat} {h : zH} : zSame lo hi h h := fun _ _ => rfl
theorem zSame.trans {lo hi : Nat} {h h1 h2 : zH} (a : zSame lo hi h h1) (b : zSame lo hi h1 h2) : zSame lo hi h h2 := fun k hk => (b k hk).trans (a k hk)
theorem zSame.up {lo hi a : Nat} {h h1 : zH} {e : va_E} (s : zSame lo hi h h1) (h1' : lo ≤ a) (h2 : a ≤ hi) : zSame lo hi h (z_up h1 a e) := fun k hk => by
  rw [z_up_ne (by omega)]; exact s k hk
theorem zSame.wide {lo hi lo' hi' : Nat} {h h1 : zH} (s : zSame lo hi h h1) (h1' : lo' ≤ lo) (h2 : hi ≤ hi') : zSame lo' hi' h h1 := fun k hk => s k (by omega)
theorem isPar.same {lo hi : Nat} {h h1 : zH} {p : Nat} {P : zP} (hP : isPar h p P) (s : zSame lo hi h h1) (hp : p + 5 < lo ∨ hi < p) : isPar h1 p P := by
  obtain ⟨a1, ⟨f1, a2, b2⟩, ⟨f2, a3, b3⟩, ⟨f3, a4, b4⟩, ⟨f4, a5, b5⟩, ⟨f5, a6, b6⟩⟩ := hP
  exact ⟨(s _ (by omega)).trans a1, ⟨f1, (s _ (by omega)).trans a2, b2⟩, ⟨f2, (s _ (by omega)).trans a3, b3⟩, ⟨f3, (s _ (by omega)).trans a4, b4⟩, ⟨f4, (s _ (by omega)).trans a5, b5⟩, ⟨f5, (s _ (by omega)).trans a6, b6⟩⟩
def pEmpty (P : zP) : zP := (0, 0, 0, 1, 0, pW P, pHo P, pBe P, pBu P, pIl P)
theorem r_X2_empty (hP : isPar h p P) (hp : p + 5 < n) : zRex K l 0 mX2_empty [.ref p] n h (fun v h' => v = none ∧ isPar h' p (pEmpty P) ∧ zSame p (p + 5) h h') := by
  refine zRex.of (by decide) (Nat.le_of_ble_eq_true rfl) (fun Q hQ => ?_)
  obtain ⟨h1, ⟨f1, a2, b2⟩, ⟨f2, a3, b3⟩, ⟨f3, a4, b4⟩, ⟨f4, a5, b5⟩, ⟨f5, a6, b6⟩⟩ := id hP
  refine kX2_empty_0 ?_
  refine zb_go (zg_aload_n rfl) rfl ?_
  refine zb_go (zg_iconst 0 (by decide)) rfl ?_
  refine zb_go (zg_putfield fX2_9 (by first | assumption | decide | omega) (by repeat (first | assumption | exact z_up_self _ _ _ | refine (z_up_ne (by first | decide | omega)).trans ?_)) (by exact Nat.le_of_ble_eq_true rfl) (by rfl) (by rfl) (by first | exact Or.inl rfl | exact Or.inr ⟨rfl, rfl⟩)) rfl ?_
  refine zb_go (zg_aload_n rfl) rfl ?_
  refine zb_go (zg_iconst 0 (by decide)) rfl ?_
  refine zb_go (zg_putfield fX2_15 (by first | assumption | decide | omega) (by repeat (first | assumption | exact z_up_self _ _ _ | refine (z_up_ne (by first | decide | omega)).trans ?_)) (by exact Nat.le_of_ble_eq_true rfl) (by rfl) (by rfl) (by first | exact Or.inl rfl | exact Or.inr ⟨rfl, rfl⟩)) rfl ?_
  refine zb_go (zg_aload_n rfl) rfl ?_
  refine zb_go (zg_iconst 0 (by decide)) rfl ?_
  refine zb_go (zg_putfield fX2_18 (by first | assumption | decide | omega) (by repeat (first | assumption | exact z_up_self _ _ _ | refine (z_up_ne (by first | decide | omega)).trans ?_)) (by exact Nat.le_of_ble_eq_true rfl) (by rfl) (by rfl) (by first | exact Or.inl rfl | exact Or.inr ⟨rfl, rfl⟩)) rfl ?_
  refine zb_go (zg_aload_n rfl) rfl ?_
  refine zb_go (zg_iconst 1 (by decide)) rfl ?_
  refine zb_go (zg_putfield fX2_21 (by first | assumption | decide | omega) (by repeat (first | assumption | exact z_up_self _ _ _ | refine (z_up_ne (by first | decide | omega)).trans ?_)) (by exact Nat.le_of_ble_eq_true rfl) (by rfl) (by rfl) (by first | exact Or.inl rfl | exact Or.inr ⟨rfl, rfl⟩)) rfl ?_
  refine zb_go (zg_aload_n rfl) rfl ?_
  refine zb_go (zg_iconst 0 (by decide)) rfl ?_
  refine zb_go (zg_putfield fX2_24 (by first | assumption | decide | omega) (by repeat (first | assumption | exact z_up_self _ _ _ | refine (z_up_ne (by first | decide | omega)).trans ?_)) (by exact Nat.le_of_ble_eq_true rfl) (by rfl) (by rfl) (by first | exact Or.inl rfl | exact Or.inr ⟨rfl, rfl⟩)) rfl ?_
  refine zb_end (zg_return rfl ?_) rfl
  rw [z_up_up, z_up_up, z_up_up, z_up_up]
  refine hQ _ _ ⟨rfl, ⟨z_up_self _ _ _, ⟨f1, (z_up_ne (by omega)).trans a2, fun i hi => absurd hi (Nat.not_lt_zero _)⟩, ⟨f2, (z_up_ne (by omega)).trans a3, fun i hi => absurd hi (Nat.not_lt_zero _)⟩, ⟨f3, (z_up_ne (by omega)).trans a4, fun i hi => absurd hi (Nat.not_lt_zero _)⟩, ⟨f4, (z_up_ne (by omega)).trans a5, fun i hi => absurd hi (Nat.not_lt_zero _)⟩, ⟨f5, (z_up_ne (by omega)).trans a6, fun i hi => absurd hi (Nat.not_lt_zero _)⟩⟩, zSame.rf.up (by omega) (by omega)⟩
def zupd (f : Nat → Nat) (k v : Nat) : Nat → Nat := fun j => if j = k then v else f j
def pAddH (P : zP) (w : Nat) : zP := (pH P + 1, pR P, pTw P, pTi P, pRe P, zupd (pW P) (pH P) w, pHo P, pBe P, pBu P, pIl P)
theorem z_updI {f : Nat → Int32} {F : Nat → Nat} {N w : Nat} (hf : ∀ i, i < N → f i = nI (F i)) : ∀ i, i < N + 1 → upd f N (nI w) i = nI (zupd F N w i) := by
  intro i hi
  by_cases q : i = N
  · rw [q, pk_us, zupd, if_pos rfl]
  · rw [pk_un q, zupd, if_neg q, hf i (by omega)]
theorem r_X2_addHour {w : Nat} (hP : isPar h p P) (hp : p + 5 < n) (hH : pH P < 4) : zRex K l 0 mX2_addHour [.ref p, .int (nI w)] n h (fun v h' => v = none ∧ isPar h' p (pAddH P w) ∧ zSame p (p + 5) h h') := by
  refine zRex.of (by decide) (Nat.le_of_ble_eq_true rfl) (fun Q hQ => ?_)
  obtain ⟨h1, ⟨f1, a2, b2⟩, ⟨f2, a3, b3⟩, ⟨f3, a4, b4⟩, ⟨f4, a5, b5⟩, ⟨f5, a6, b6⟩⟩ := id hP
  refine kX2_addHour_0 ?_
  refine zb_go (zg_aload_n rfl) rfl ?_
  refine zb_go (zg_getfield fX2_9 (by first | assumption | decide | omega) (by repeat (first | assumption | exact z_up_self _ _ _ | refine (z_up_ne (by first | decide | omega)).trans ?_)) (by rfl)) rfl ?_
  refine zb_go (zg_iconst 4 (by decide)) rfl ?_
  refine zb_br (zg_icmp_ge (tgt := 28) (by decide)) rfl (fun c => ?_) (fun c => ?_)
  · exact absurd c (nI_ge hH (by decide))
  · refine zb_go (zg_aload_n rfl) rfl ?_
    refine zb_go (zg_getfield fX2_27 (by first | assumption | decide | omega) (by repeat (first | assumption | exact z_up_self _ _ _ | refine (z_up_ne (by first | decide | omega)).trans ?_)) (by rfl)) rfl ?_
    refine zb_go (zg_aload_n rfl) rfl ?_
    refine zb_go (zg_getfield fX2_9 (by first | assumption | decide | omega) (by repeat (first | assumption | exact z_up_self _ _ _ | refine (z_up_ne (by first | decide | omega)).trans ?_)) (by rfl)) rfl ?_
    refine zb_go (zg_iload_n rfl) rfl ?_
    refine zb_go (zi_iastore (by first | assumption | decide | omega) (by repeat (first | assumption | exact z_up_self _ _ _ | refine (z_up_ne (by first | decide | omega)).trans ?_)) (by first | assumption | exact zIx.nI (by omega) (by decide) | exact ⟨by decide, by decide⟩)) rfl ?_
    refine zb_go (zg_aload_n rfl) rfl ?_
    refine zb_go (zg_dup rfl) rfl ?_
    refine zb_go (zg_getfield fX2_9 (by first | assumption | decide | omega) (by repeat (first | assumption | exact z_up_self _ _ _ | refine (z_up_ne (by first | decide | omega)).trans ?_)) (by rfl)) rfl ?_
    refine zb_go (zg_iconst 1 (by decide)) rfl ?_
    refine zb_go zg_iadd rfl ?_
    refine zb_go (zg_putfield fX2_9 (by first | assumption | decide | omega) (by repeat (first | assumption | exact z_up_self _ _ _ | refine (z_up_ne (by first | decide | omega)).trans ?_)) (by exact Nat.le_of_ble_eq_true rfl) (by rfl) (by rfl) (by first | exact Or.inl rfl | exact Or.inr ⟨rfl, rfl⟩)) rfl ?_
    refine zb_out ?_
    refine kX2_addHour_28 ?_
    refine zb_end (zg_return rfl ?_) rfl
    rw [nI_1]
    refine hQ _ _ ⟨rfl, ⟨z_up_self _ _ _, ⟨_, (z_up_ne (by omega)).trans (z_up_self _ _ _), z_updI b2⟩, ⟨f2, (z_up_ne (by omega)).trans ((z_up_ne (by omega)).trans a3), b3⟩, ⟨f3, (z_up_ne (by omega)).trans ((z_up_ne (by omega)).trans a4), b4⟩, ⟨f4, (z_up_ne (by omega)).trans ((z_up_ne (by omega)).trans a5), b5⟩, ⟨f5, (z_up_ne (by omega)).trans ((z_up_ne (by omega)).trans a6), b6⟩⟩, (zSame.rf.up (by omega) (by omega)).up (by omega) (by omega)⟩
def pAddR (P : zP) (a b u i : Nat) : zP := (pH P, pR P + 1, pTw P, pTi P, pRe P, pW P, zupd (pHo P) (pR P) a, zupd (pBe P) (pR P) b, zupd (pBu P) (pR P) u, zupd (pIl P) (pR P) i)
theorem r_X2_addRinger {a b u i : Nat} (hP : isPar h p P) (hp : p + 5 < n) (hR : pR P < 6) : zRex K l 0 mX2_addRinger [.ref p, .int (nI a), .int (nI b), .int (nI u), .int (nI i)] n h (fun v h' => v = none ∧ isPar h' p (pAddR P a b u i) ∧ zSame p (p + 5) h h') := by
  refine zRex.of (by decide) (Nat.le_of_ble_eq_true rfl) (fun Q hQ => ?_)
  obtain ⟨h1, ⟨f1, a2, b2⟩, ⟨f2, a3, b3⟩, ⟨f3, a4, b4⟩, ⟨f4, a5, b5⟩, ⟨f5, a6, b6⟩⟩ := id hP
  refine kX2_addRinger_0 ?_
  refine zb_go (zg_aload_n rfl) rfl ?_
  refine zb_go (zg_getfield fX2_15 (by first | assumption | decide | omega) (by repeat (first | assumption | exact z_up_self _ _ _ | refine (z_up_ne (by first | decide | omega)).trans ?_)) (by rfl)) rfl ?_
  refine zb_go (zg_bipush 6 (by decide)) rfl ?_
  refine zb_br (zg_icmp_ge (tgt := 60) (by decide)) rfl (fun c => ?_) (fun c => ?_)
  · exact absurd c (nI_ge hR (by decide))
  · refine zb_go (zg_aload_n rfl) rfl ?_
    refine zb_go (zg_getfield fX2_31 (by first | assumption | decide | omega) (by repeat (first | assumption | exact z_up_self _ _ _ | refine (z_up_ne (by first | decide | omega)).trans ?_)) (by rfl)) rfl ?_
    refine zb_go (zg_aload_n rfl) rfl ?_
    refine zb_go (zg_getfield fX2_15 (by first | assumption | decide | omega) (by repeat (first | assumption | exact z_up_self _ _ _ | refine (z_up_ne (by first | decide | omega)).trans ?_)) (by rfl)) rfl ?_
    refine zb_go (zg_iload_n rfl) rfl ?_
    refine zb_go (zi_iastore (by first | assumption | decide | omega) (by repeat (first | assumption | exact z_up_self _ _ _ | refine (z_up_ne (by first | decide | omega)).trans ?_)) (by first | assumption | exact zIx.nI (by omega) (by decide) | exact ⟨by decide, by decide⟩)) rfl ?_
    refine zb_go (zg_aload_n rfl) rfl ?_
    refine zb_go (zg_getfield fX2_34 (by first | assumption | decide | omega) (by repeat (first | assumption | exact z_up_self _ _ _ | refine (z_up_ne (by first | decide | omega)).trans ?_)) (by rfl)) rfl ?_
    refine zb_go (zg_aload_n rfl) rfl ?_
    refine zb_go (zg_getfield fX2_15 (by first | assumption | decide | omega) (by repeat (first | assumption | exact z_up_self _ _ _ | refine (z_up_ne (by first | decide | omega)).trans ?_)) (by rfl)) rfl ?_
    refine zb_go (zg_iload_n rfl) rfl ?_
    refine zb_go (zi_iastore (by first | assumption | decide | omega) (by repeat (first | assumption | exact z_up_self _ _ _ | refine (z_up_ne (by first | decide | omega)).trans ?_)) (by first | assumption | exact zIx.nI (by omega) (by decide) | exact ⟨by decide, by decide⟩)) rfl ?_
    refine zb_go (zg_aload_n rfl) rfl ?_
    refine zb_go (zg_getfield fX2_37 (by first | assumption | decide | omega) (by repeat (first | assumption | exact z_up_self _ _ _ | refine (z_up_ne (by first | decide | omega)).trans ?_)) (by rfl)) rfl ?_
    refine zb_go (zg_aload_n rfl) rfl ?_
    refine zb_go (zg_getfield fX2_15 (by first | assumption | decide | omega) (by repeat (first | assumption | exact z_up_self _ _ _ | refine (z_up_ne (by first | decide | omega)).trans ?_)) (by rfl)) rfl ?_
    refine zb_go (zg_iload_n rfl) rfl ?_
    refine zb_go (zi_iastore (by first | assumption | decide | omega) (by repeat (first | assumption | exact z_up_self _ _ _ | refine (z_up_ne (by first | decide | omega)).trans ?_)) (by first | assumption | exact zIx.nI (by omega) (by decide) | exact ⟨by decide, by decide⟩)) rfl ?_
    refine zb_go (zg_aload_n rfl) rfl ?_
    refine zb_go (zg_getfield fX2_40 (by first | assumption | decide | omega) (by repeat (first | assumption | exact z_up_self _ _ _ | refine (z_up_ne (by first | decide | omega)).trans ?_)) (by rfl)) rfl ?_
    refine zb_go (zg_aload_n rfl) rfl ?_
    refine zb_go (zg_getfield fX2_15 (by first | assumption | decide | omega) (by repeat (first | assumption | exact z_up_self _ _ _ | refine (z_up_ne (by first | decide | omega)).trans ?_)) (by rfl)) rfl ?_
    refine zb_go (zg_iload rfl) rfl ?_
    refine zb_go (zi_iastore (by first | assumption | decide | omega) (by repeat (first | assumption | exact z_up_self _ _ _ | refine (z_up_ne (by first | decide | omega)).trans ?_)) (by first | assumption | exact zIx.nI (by omega) (by decide) | exact ⟨by decide, by decide⟩)) rfl ?_
    refine zb_go (zg_aload_n rfl) rfl ?_
    refine zb_go (zg_dup rfl) rfl ?_
    refine zb_go (zg_getfield fX2_15 (by first | assumption | decide | omega) (by repeat (first | assumption | exact z_up_self _ _ _ | refine (z_up_ne (by first | decide | omega)).trans ?_)) (by rfl)) rfl ?_
    refine zb_go (zg_iconst 1 (by decide)) rfl ?_
    refine zb_go zg_iadd rfl ?_
    refine zb_go (zg_putfield fX2_15 (by first | assumption | decide | omega) (by repeat (first | assumption | exact z_up_self _ _ _ | refine (z_up_ne (by first | decide | omega)).trans ?_)) (by exact Nat.le_of_ble_eq_true rfl) (by rfl) (by rfl) (by first | exact Or.inl rfl | exact Or.inr ⟨rfl, rfl⟩)) rfl ?_
    refine zb_out ?_
    refine kX2_addRinger_60 ?_
    refine zb_end (zg_return rfl ?_) rfl
    rw [nI_1]
    have e1 : ∀ {x : zH} {k j : Nat} {e e' : va_E}, j ≠ k → x j = e' → z_up x k e j = e' := fun hj hy => (z_up_ne hj).trans hy
    refine hQ _ _ ⟨rfl, ⟨z_up_self _ _ _, ⟨f1, e1 (by omega) (e1 (by omega) (e1 (by omega) (e1 (by omega) (e1 (by omega) a2)))), b2⟩, ⟨_, e1 (by omega) (e1 (by omega) (e1 (by omega) (e1 (by omega) (z_up_self _ _ _)))), z_updI b3⟩, ⟨_, e1 (by omega) (e1 (by omega) (e1 (by omega) (z_up_self _ _ _))), z_updI b4⟩, ⟨_, e1 (by omega) (e1 (by omega) (z_up_self _ _ _)), z_updI b5⟩, ⟨_, e1 (by omega) (z_up_self _ _ _), z_updI b6⟩⟩, ((((zSame.rf.up (by omega) (by omega)).up (by omega) (by omega)).up (by omega) (by omega)).up (by omega) (by omega)).up (by omega) (by omega)⟩
end
end
section
/-! ROTA, the rest -/
theorem isRota.same {lo hi : Nat} {h h1 : zH} {a : Nat} {tu tw : Int32} {S B : Nat → Int32} (hR : isRota h a tu tw S B) (s : zSame lo hi h h1) (hp : a + 2 < lo ∨ hi < a) : isRota h1 a tu tw S B :=
  ⟨(s _ (by omega)).trans hR.1, (s _ (by omega)).trans hR.2.1, (s _ (by omega)).trans hR.2.2⟩
/-- a set out of its members -/
def zbits (p : Nat → Bool) : Nat → Nat
  | 0 => 0
  | k + 1 => zbits p k ||| (if p k then 1 <<< k else 0)
theorem zbits_bit (p : Nat → Bool) (k i : Nat) : (zbits p k).testBit i = (decide (i < k) && p i) := by
  induction k with
  | zero => simp [zbits]
  | succ k ih =>
    rw [zbits, Nat.testBit_or, ih]
    by_cases hk : p k
    · rw [if_pos hk, Nat.testBit_shiftLeft]
      by_cases q : i = k
      · subst q; simp [hk]
      · by_cases q2 : i < k
        · simp [q2, Nat.lt_succ_of_lt q2, Nat.not_le.mpr q2]
        · have q3 : ¬ i < k + 1 := by omega
          have q4 : (1 : Nat).testBit (i - k) = false := Nat.testBit_lt_two_pow (Nat.one_lt_two_pow (by omega))
          simp [q2, q3, q4]
    · rw [if_neg hk]
      by_cases q : i = k
      · subst q; simp [hk]
      · have q5 : (i < k + 1) ↔ i < k := by omega
        simp [q5]
theorem zbits_lt (p : Nat → Bool) (k : Nat) : zbits p k < 2 ^ k := Nat.lt_pow_two_of_testBit _ (fun i hi => by
  rw [zbits_bit, decide_eq_false (Nat.not_lt.mpr hi)]; rfl)
section
variable {K : zK} {l : Launch} {n a r g p : Nat} {h : zH} {tu tw x y : Int32} {S B : Nat → Int32} {P : zP}
theorem r_X3_ringerAt (hR : isRota h a tu tw S B) (ha : a + 2 < n) (hg : g < 4) : zRex K l 2 mX3_ringerAt [.ref a, .int (nI g), .int y] n h (fun v h' => h' = h ∧ ((∃ r, r < 6 ∧ B (4 * r + g) = y ∧ (∀ q, q < r → B (4 * q + g) ≠ y) ∧ v = some (.int (nI r))) ∨ ((∀ q, q < 6 → B (4 * q + g) ≠ y) ∧ v = some (.int (-9))))) := by
  refine zRex.of (by decide) (Nat.le_of_ble_eq_true rfl) (fun Q hQ => ?_)
  have h1 := hR.1
  have lp : ∀ k, k ≤ 6 → (∀ q, q < k → B (4 * q + g) ≠ y) → zGo K l 2 mX3_ringerAt 2 [(0, .ref a), (1, .int (nI g)), (2, .int y), (3, .int (nI k))] [] n h 0 0 Q := by
    refine z_down 6 (fun k hk ih hn => ?_)
    refine kX3_ringerAt_2 ?_
    refine zb_go (zg_iload_n rfl) rfl ?_
    refine zb_go (zg_bipush 6 (by decide)) rfl ?_
    refine zb_br (zg_icmp_ge (tgt := 26) (by decide)) rfl (fun c => ?_) (fun c => ?_)
    · have e : k = 6 := by
        have := (nI_leI (a := 6) (b := k) (by decide) (by omega)).mp c
        omega
      subst e
      refine kX3_ringerAt_26 ?_
      refine zb_go (zg_bipush (-9) (by decide)) rfl ?_
      refine zb_end (zg_ireturn rfl (by rfl) ?_) rfl
      exact hQ _ _ ⟨rfl, Or.inr ⟨hn, rfl⟩⟩
    · have hk4 : k < 6 := Nat.not_le.mp (fun q => c (nI_le q (by omega)))
      refine zb_go (zg_aload_n rfl) rfl ?_
      refine zb_go (zg_iload_n rfl) rfl ?_
      refine zb_go (zg_iload_n rfl) rfl ?_
      refine zb_callv (r_X3_bellOf hR ha hk4 hg) lX3_38 (by repeat (first | assumption | exact z_up_self _ _ _ | refine (z_up_ne (by first | decide | omega)).trans ?_)) rfl rfl (by first | assumption | decide | omega) (by decide) rfl (Nat.le_of_ble_eq_true rfl) rfl ?_
      refine zb_go (zg_iload_n rfl) rfl ?_
      refine zb_br (zg_icmp_ne (tgt := 20) (by decide)) rfl (fun c1 => ?_) (fun c1 => ?_)
      · refine kX3_ringerAt_20 ?_
        refine zb_go (zg_iinc 1 (by decide) rfl (by decide)) rfl ?_
        refine zb_end (zg_goto (tgt := 2) (by decide) ?_) rfl
        rw [nI_1]
        refine ih hk4 (fun q hq => ?_)
        rcases Nat.lt_or_ge q k with z | z
        · exact hn q z
        · rw [show q = k by omega]; exact c1
      · refine zb_go (zg_iload_n rfl) rfl ?_
        refine zb_end (zg_ireturn rfl (by rfl) ?_) rfl
        exact hQ _ _ ⟨rfl, Or.inl ⟨k, hk4, c1, hn, rfl⟩⟩
  refine kX3_ringerAt_0 ?_
  refine zb_go (zg_iconst 0 (by decide)) rfl ?_
  refine zb_go (zg_istore_n (by decide)) rfl ?_
  refine zb_out ?_
  exact lp 0 (by omega) (fun q hq => absurd hq (Nat.not_lt_zero _))
theorem rT_le (B : Nat → Int32) (r : Nat) : rT B r 4 ≤ 4 := zcnt_le _ _
/-- a truth value as an answer -/
def zIf (p : Prop) (v : Option Value) : Prop := (p ∧ v = some (.int 1)) ∨ (¬ p ∧ v = some (.int 0))
def rHasRoom (P : zP) (B : Nat → Int32) (r g b : Nat) : Prop := (∀ q, q < 6 → B (4 * q + g) ≠ nI b) ∧ rT B r 4 < pTi P ∧ ∀ q, q < 4 → B (4 * r + q) ≠ -9 → pRe P < zdist g q
theorem r_X3_hasRoom {b : Nat} (hR : isRota h a tu tw S B) (ha : a + 2 < n) (hP : isPar h p P) (hp : p + 5 < n) (ok : okP P) (hr : r < 6) (hg : g < 4) : zRex K l 4 mX3_hasRoom [.ref a, .ref p, .int (nI r), .int (nI g), .int (nI b)] n h (fun v h' => h' = h ∧ zIf (rHasRoom P B r g b) v) := by
  refine zRex.of (by decide) (Nat.le_of_ble_eq_true rfl) (fun Q hQ => ?_)
  have h1 := hR.1
  have h2 := hP.1
  have k1 := ok.2.2.2.1
  have k2 := ok.2.2.2.2.1
  have k3 := rT_le B r
  have lp : rT B r 4 < pTi P → (∀ q, q < 6 → B (4 * q + g) ≠ nI b) → ∀ k, k ≤ 4 → (∀ q, q < k → B (4 * r + q) ≠ -9 → pRe P < zdist g q) → zGo K l 4 mX3_hasRoom 29 [(0, .ref a), (1, .ref p), (2, .int (nI r)), (3, .int (nI g)), (4, .int (nI b)), (5, .int (nI k))] [] n h 0 0 Q := by
    intro hti hno
    refine z_down 4 (fun k hk ih hn => ?_)
    refine kX3_hasRoom_29 ?_
    refine zb_go (zg_iload rfl) rfl ?_
    refine zb_go (zg_iconst 4 (by decide)) rfl ?_
    refine zb_br (zg_icmp_ge (tgt := 67) (by decide)) rfl (fun c => ?_) (fun c => ?_)
    · have e : k = 4 := by
        have := (nI_leI (a := 4) (b := k) (by decide) (by omega)).mp c
        omega
      subst e
      refine kX3_hasRoom_67 ?_
      refine zb_go (zg_iconst 1 (by decide)) rfl ?_
      refine zb_end (zg_ireturn rfl (by rfl) ?_) rfl
      exact hQ _ _ ⟨rfl, Or.inl ⟨⟨hno, hti, hn⟩, rfl⟩⟩
    · have hk4 : k < 4 := Nat.not_le.mp (fun q => c (nI_le q (by omega)))
      have nx : (B (4 * r + k) ≠ -9 → pRe P < zdist g k) → ∀ q, q < k + 1 → B (4 * r + q) ≠ -9 → pRe P < zdist g q := by
        intro hz q hq
        rcases Nat.lt_or_ge q k with z | z
        · exact hn q z
        · rw [show q = k by omega]; exact hz
      refine zb_go (zg_aload_n rfl) rfl ?_
      refine zb_go (zg_iload_n rfl) rfl ?_
      refine zb_go (zg_iload rfl) rfl ?_
      refine zb_callv (r_X3_hasTurn hR ha hr hk4) lX3_42 (by repeat (first | assumption | exact z_up_self _ _ _ | refine (z_up_ne (by first | decide | omega)).trans ?_)) rfl rfl (by first | assumption | decide | omega) (by decide) rfl (Nat.le_of_ble_eq_true rfl) rfl ?_
      refine zb_br (zg_if_eq (tgt := 61) (by decide)) rfl (fun c1 => ?_) (fun c1 => ?_)
      · have c1 := zb_0.mp c1
        refine kX3_hasRoom_61 ?_
        refine zb_go (zg_iinc 1 (by decide) rfl (by decide)) rfl ?_
        refine zb_end (zg_goto (tgt := 29) (by decide) ?_) rfl
        rw [nI_1]
        exact ih hk4 (nx (fun q => absurd q c1))
      · have c1 := zb_n.mp c1
        refine zb_go (zg_iload_n rfl) rfl ?_
        refine zb_go (zg_iload rfl) rfl ?_
        refine zb_go zg_isub rfl ?_
        refine zb_go (zg_mabs wlX3_57 (by decide) (Nat.le_of_ble_eq_true rfl)) rfl ?_
        rw [z_absd (by omega) (by omega)]
        have hd : zdist g k < 8 := by unfold zdist; split <;> omega
        refine zb_go (zg_aload_n rfl) rfl ?_
        refine zb_go (zg_getfield fX3_62 (by first | assumption | decide | omega) (by repeat (first | assumption | exact z_up_self _ _ _ | refine (z_up_ne (by first | decide | omega)).trans ?_)) (by rfl)) rfl ?_
        refine zb_br (zg_icmp_gt (tgt := 61) (by decide)) rfl (fun c2 => ?_) (fun c2 => ?_)
        · have c2 := (nI_ltI (by omega) (by omega)).mp c2
          refine kX3_hasRoom_61 ?_
          refine zb_go (zg_iinc 1 (by decide) rfl (by decide)) rfl ?_
          refine zb_end (zg_goto (tgt := 29) (by decide) ?_) rfl
          rw [nI_1]
          exact ih hk4 (nx (fun _ => c2))
        · have c2 : ¬ pRe P < zdist g k := fun q => c2 (nI_lt q (by omega))
          refine zb_go (zg_iconst 0 (by decide)) rfl ?_
          refine zb_end (zg_ireturn rfl (by rfl) ?_) rfl
          exact hQ _ _ ⟨rfl, Or.inr ⟨fun q => c2 (q.2.2 k hk4 c1), rfl⟩⟩
  refine kX3_hasRoom_0 ?_
  refine zb_go (zg_aload_n rfl) rfl ?_
  refine zb_go (zg_iload_n rfl) rfl ?_
  refine zb_go (zg_iload rfl) rfl ?_
  refine zb_callvx (r_X3_ringerAt hR ha hg) lX3_45 (by repeat (first | assumption | exact z_up_self _ _ _ | refine (z_up_ne (by first | decide | omega)).trans ?_)) rfl rfl (by first | assumption | decide | omega) (by decide) rfl (Nat.le_of_ble_eq_true rfl) rfl ?_
  rintro v h' ⟨rfl, hv⟩
  rcases hv with ⟨r', hr', hb', -, rfl⟩ | ⟨hno, rfl⟩
  · refine zb_go (zg_bipush (-9) (by decide)) rfl ?_
    refine zb_br (zg_icmp_ne (tgt := 24) (by decide)) rfl (fun c0 => ?_) (fun c0 => ?_)
    · refine kX3_hasRoom_24 ?_
      refine zb_go (zg_iconst 0 (by decide)) rfl ?_
      refine zb_end (zg_ireturn rfl (by rfl) ?_) rfl
      exact hQ _ _ ⟨rfl, Or.inr ⟨fun q => q.1 r' hr' hb', rfl⟩⟩
    · exact absurd (c0 : nI r' = -9) (fun q => nI_pos (n := r') (by omega) (by rw [q]; decide))
  · refine zb_go (zg_bipush (-9) (by decide)) rfl ?_
    refine zb_br (zg_icmp_ne (tgt := 24) (by decide)) rfl (fun c0 => ?_) (fun c0 => ?_)
    · exact absurd rfl c0
    · refine zb_go (zg_aload_n rfl) rfl ?_
      refine zb_go (zg_iload_n rfl) rfl ?_
      refine zb_callv (r_X3_timesOf hR ha hr) lX3_48 (by repeat (first | assumption | exact z_up_self _ _ _ | refine (z_up_ne (by first | decide | omega)).trans ?_)) rfl rfl (by first | assumption | decide | omega) (by decide) rfl (Nat.le_of_ble_eq_true rfl) rfl ?_
      refine zb_go (zg_aload_n rfl) rfl ?_
      refine zb_go (zg_getfield fX3_52 (by first | assumption | decide | omega) (by repeat (first | assumption | exact z_up_self _ _ _ | refine (z_up_ne (by first | decide | omega)).trans ?_)) (by rfl)) rfl ?_
      refine zb_br (zg_icmp_lt (tgt := 26) (by decide)) rfl (fun c1 => ?_) (fun c1 => ?_)
      · have c1 := (nI_ltI (by omega) (by omega)).mp c1
        refine kX3_hasRoom_26 ?_
        refine zb_go (zg_iconst 0 (by decide)) rfl ?_
        refine zb_go (zg_istore (by decide)) rfl ?_
        refine zb_out ?_
        exact lp c1 hno 0 (by omega) (fun q hq => absurd hq (Nat.not_lt_zero _))
      · refine zb_out ?_
        refine kX3_hasRoom_24 ?_
        refine zb_go (zg_iconst 0 (by decide)) rfl ?_
        refine zb_end (zg_ireturn rfl (by rfl) ?_) rfl
        exact hQ _ _ ⟨rfl, Or.inr ⟨fun q => c1 (nI_lt q.2.1 (by omega)), rfl⟩⟩
/-- who rings in an hour, as a set -/
def rIn (B : Nat → Int32) (g k : Nat) : Nat := zbits (fun r => decide (B (4 * r + g) ≠ -9)) k
theorem rIn_lt (B : Nat → Int32) (g : Nat) : rIn B g 6 < 64 := zbits_lt _ _
theorem r_X3_ringersIn (hR : isRota h a tu tw S B) (ha : a + 2 < n) (hg : g < 4) : zRet K l 3 mX3_ringersIn [.ref a, .int (nI g)] n h (some (.int (nI (rIn B g 6)))) h := by
  refine zRet.of (by decide) (Nat.le_of_ble_eq_true rfl) (fun Q hQ => ?_)
  have h1 := hR.1
  have lp : ∀ k, k ≤ 6 → zGo K l 3 mX3_ringersIn 4 [(0, .ref a), (1, .int (nI g)), (2, .int (nI (rIn B g k))), (3, .int (nI k))] [] n h 0 0 Q := by
    refine z_down 6 (fun k hk ih => ?_)
    refine kX3_ringersIn_4 ?_
    refine zb_go (zg_iload_n rfl) rfl ?_
    refine zb_go (zg_bipush 6 (by decide)) rfl ?_
    refine zb_br (zg_icmp_ge (tgt := 31) (by decide)) rfl (fun c => ?_) (fun c => ?_)
    · have e : k = 6 := by
        have := (nI_leI (a := 6) (b := k) (by decide) (by omega)).mp c
        omega
      subst e
      refine kX3_ringersIn_31 ?_
      refine zb_go (zg_iload_n rfl) rfl ?_
      refine zb_end (zg_ireturn rfl (by rfl) ?_) rfl
      exact hQ
    · have hk4 : k < 6 := Nat.not_le.mp (fun q => c (nI_le q (by omega)))
      refine zb_go (zg_aload_n rfl) rfl ?_
      refine zb_go (zg_iload_n rfl) rfl ?_
      refine zb_go (zg_iload_n rfl) rfl ?_
      refine zb_callv (r_X3_hasTurn hR ha hk4 hg) lX3_42 (by repeat (first | assumption | exact z_up_self _ _ _ | refine (z_up_ne (by first | decide | omega)).trans ?_)) rfl rfl (by first | assumption | decide | omega) (by decide) rfl (Nat.le_of_ble_eq_true rfl) rfl ?_
      refine zb_br (zg_if_eq (tgt := 25) (by decide)) rfl (fun c1 => ?_) (fun c1 => ?_)
      · have e : rIn B g (k + 1) = rIn B g k := by
          have q := zb_0.mp c1
          simp only [rIn, zbits, decide_eq_true_eq, if_neg q, Nat.or_zero]
        refine kX3_ringersIn_25 ?_
        refine zb_go (zg_iinc 1 (by decide) rfl (by decide)) rfl ?_
        refine zb_end (zg_goto (tgt := 4) (by decide) ?_) rfl
        rw [nI_1, ← e]
        exact ih hk4
      · have e : rIn B g (k + 1) = rIn B g k ||| 1 <<< k := by
          have q := zb_n.mp c1
          simp only [rIn, zbits, decide_eq_true_eq, if_pos q]
        refine zb_go (zg_iload_n rfl) rfl ?_
        refine zb_go (zg_iconst 1 (by decide)) rfl ?_
        refine zb_go (zg_iload_n rfl) rfl ?_
        refine zb_go zg_ishl rfl ?_
        refine zb_go zg_ior rfl ?_
        refine zb_go (zg_istore_n (by decide)) rfl ?_
        refine zb_out ?_
        refine kX3_ringersIn_25 ?_
        refine zb_go (zg_iinc 1 (by decide) rfl (by decide)) rfl ?_
        refine zb_end (zg_goto (tgt := 4) (by decide) ?_) rfl
        rw [nI_1, show (1 : Int32) = nI 1 from rfl, z_shl (by omega), z_or, ← e]
        exact ih hk4
  refine kX3_ringersIn_0 ?_
  refine zb_go (zg_iconst 0 (by decide)) rfl ?_
  refine zb_go (zg_istore_n (by decide)) rfl ?_
  refine zb_go (zg_iconst 0 (by decide)) rfl ?_
  refine zb_go (zg_istore_n (by decide)) rfl ?_
  refine zb_out ?_
  exact lp 0 (by omega)
def zor (f : Nat → Nat) : Nat → Nat
  | 0 => 0
  | k + 1 => zor f k ||| f k
theorem zor_bit (f : Nat → Nat) (k i : Nat) : (zor f k).testBit i = decide (∃ j, j < k ∧ (f j).testBit i = true) := by
  induction k with
  | zero => simp [zor]
  | succ k ih =>
    rw [zor, Nat.testBit_or, ih]
    by_cases q : (f k).testBit i = true
    · rw [q, Bool.or_true]
      exact (decide_eq_true ⟨k, by omega, q⟩).symm
    · have q' : (f k).testBit i = false := by simpa using q
      rw [q', Bool.or_false]
      refine decide_eq_decide.mpr ⟨fun ⟨j, hj, hf⟩ => ⟨j, by omega, hf⟩, fun ⟨j, hj, hf⟩ => ⟨j, ?_, hf⟩⟩
      rcases Nat.lt_or_ge j k with z | z
      · exact z
      · exact absurd (by rw [show k = j by omega]; exact hf) q
theorem zor_lt {f : Nat → Nat} {m : Nat} (k : Nat) (h : ∀ j, f j < 2 ^ m) : zor f k < 2 ^ m := by
  induction k with
  | zero => exact Nat.two_pow_pos m
  | succ k ih => exact Nat.or_lt_two_pow ih (h k)
theorem r_X3_ringersAtAll (hR : isRota h a tu tw S B) (ha : a + 2 < n) : zRet K l 4 mX3_ringersAtAll [.ref a] n h (some (.int (nI (zor (fun g => rIn B g 6) 4)))) h := by
  refine zRet.of (by decide) (Nat.le_of_ble_eq_true rfl) (fun Q hQ => ?_)
  have h1 := hR.1
  have lp : ∀ k, k ≤ 4 → zGo K l 4 mX3_ringersAtAll 4 [(0, .ref a), (1, .int (nI (zor (fun g => rIn B g 6) k))), (2, .int (nI k))] [] n h 0 0 Q := by
    refine z_down 4 (fun k hk ih => ?_)
    refine kX3_ringersAtAll_4 ?_
    refine zb_go (zg_iload_n rfl) rfl ?_
    refine zb_go (zg_iconst 4 (by decide)) rfl ?_
    refine zb_br (zg_icmp_ge (tgt := 23) (by decide)) rfl (fun c => ?_) (fun c => ?_)
    · have e : k = 4 := by
        have := (nI_leI (a := 4) (b := k) (by decide) (by omega)).mp c
        omega
      subst e
      refine kX3_ringersAtAll_23 ?_
      refine zb_go (zg_iload_n rfl) rfl ?_
      refine zb_end (zg_ireturn rfl (by rfl) ?_) rfl
      exact hQ
    · have hk4 : k < 4 := Nat.not_le.mp (fun q => c (nI_le q (by omega)))
      refine zb_go (zg_iload_n rfl) rfl ?_
      refine zb_go (zg_aload_n rfl) rfl ?_
      refine zb_go (zg_iload_n rfl) rfl ?_
      refine zb_callv (r_X3_ringersIn hR ha hk4) lX3_65 (by repeat (first | assumption | exact z_up_self _ _ _ | refine (z_up_ne (by first | decide | omega)).trans ?_)) rfl rfl (by first | assumption | decide | omega) (by decide) rfl (Nat.le_of_ble_eq_true rfl) rfl ?_
      refine zb_go zg_ior rfl ?_
      refine zb_go (zg_istore_n (by decide)) rfl ?_
      refine zb_go (zg_iinc 1 (by decide) rfl (by decide)) rfl ?_
      refine zb_end (zg_goto (tgt := 4) (by decide) ?_) rfl
      rw [nI_1, z_or]
      exact ih hk4
  refine kX3_ringersAtAll_0 ?_
  refine zb_go (zg_iconst 0 (by decide)) rfl ?_
  refine zb_go (zg_istore_n (by decide)) rfl ?_
  refine zb_go (zg_iconst 0 (by decide)) rfl ?_
  refine zb_go (zg_istore_n (by decide)) rfl ?_
  refine zb_out ?_
  exact lp 0 (by omega)
theorem zpop_lt (s : Nat) : zpop s < 2 ^ 31 := by have := zpop_le s; omega
theorem zdif_lt {a b : Nat} (ha : a < 64) : zdif a b < 64 := Nat.lt_pow_two_of_testBit (n := 6) _ (fun i hi => by
  rw [zdif_bit, Nat.testBit_lt_two_pow (Nat.lt_of_lt_of_le ha (Nat.pow_le_pow_right (by decide) hi : 2 ^ 6 ≤ 2 ^ i))]; rfl)
theorem r_X3_soundsWithout {s : Nat} (hR : isRota h a tu tw S B) (ha : a + 2 < n) : zRex K l 4 mX3_soundsWithout [.ref a, .int (nI s)] n h (fun v h' => h' = h ∧ zIf (∀ q, q < 4 → S q = -9 ∨ S q = nI (zpop (zdif (rIn B q 6) s))) v) := by
  refine zRex.of (by decide) (Nat.le_of_ble_eq_true rfl) (fun Q hQ => ?_)
  obtain ⟨h1, h2, h3⟩ := id hR
  have lp : ∀ k, k ≤ 4 → (∀ q, q < k → S q = -9 ∨ S q = nI (zpop (zdif (rIn B q 6) s))) → zGo K l 4 mX3_soundsWithout 2 [(0, .ref a), (1, .int (nI s)), (2, .int (nI k))] [] n h 0 0 Q := by
    refine z_down 4 (fun k hk ih hn => ?_)
    refine kX3_soundsWithout_2 ?_
    refine zb_go (zg_iload_n rfl) rfl ?_
    refine zb_go (zg_iconst 4 (by decide)) rfl ?_
    refine zb_br (zg_icmp_ge (tgt := 47) (by decide)) rfl (fun c => ?_) (fun c => ?_)
    · have e : k = 4 := by
        have := (nI_leI (a := 4) (b := k) (by decide) (by omega)).mp c
        omega
      subst e
      refine kX3_soundsWithout_47 ?_
      refine zb_go (zg_iconst 1 (by decide)) rfl ?_
      refine zb_end (zg_ireturn rfl (by rfl) ?_) rfl
      exact hQ _ _ ⟨rfl, Or.inl ⟨hn, rfl⟩⟩
    · have hk4 : k < 4 := Nat.not_le.mp (fun q => c (nI_le q (by omega)))
      have nx : (S k = -9 ∨ S k = nI (zpop (zdif (rIn B k 6) s))) → ∀ q, q < k + 1 → S q = -9 ∨ S q = nI (zpop (zdif (rIn B q 6) s)) := by
        intro hz q hq
        rcases Nat.lt_or_ge q k with z | z
        · exact hn q z
        · rw [show q = k by omega]; exact hz
      refine zb_go (zg_aload_n rfl) rfl ?_
      refine zb_go (zg_getfield fX3_18 (by first | assumption | decide | omega) (by repeat (first | assumption | exact z_up_self _ _ _ | refine (z_up_ne (by first | decide | omega)).trans ?_)) (by rfl)) rfl ?_
      refine zb_go (zg_iload_n rfl) rfl ?_
      refine zb_go (zi_iaload (by first | assumption | decide | omega) (by repeat (first | assumption | exact z_up_self _ _ _ | refine (z_up_ne (by first | decide | omega)).trans ?_)) (by first | assumption | exact zIx.nI (by omega) (by decide) | exact ⟨by decide, by decide⟩)) rfl ?_
      refine zb_go (zg_bipush (-9) (by decide)) rfl ?_
      refine zb_br (zg_icmp_eq (tgt := 41) (by decide)) rfl (fun c1 => ?_) (fun c1 => ?_)
      · refine kX3_soundsWithout_41 ?_
        refine zb_go (zg_iinc 1 (by decide) rfl (by decide)) rfl ?_
        refine zb_end (zg_goto (tgt := 2) (by decide) ?_) rfl
        rw [nI_1]
        exact ih hk4 (nx (Or.inl c1))
      · refine zb_go (zg_aload_n rfl) rfl ?_
        refine zb_go (zg_getfield fX3_18 (by first | assumption | decide | omega) (by repeat (first | assumption | exact z_up_self _ _ _ | refine (z_up_ne (by first | decide | omega)).trans ?_)) (by rfl)) rfl ?_
        refine zb_go (zg_iload_n rfl) rfl ?_
        refine zb_go (zi_iaload (by first | assumption | decide | omega) (by repeat (first | assumption | exact z_up_self _ _ _ | refine (z_up_ne (by first | decide | omega)).trans ?_)) (by first | assumption | exact zIx.nI (by omega) (by decide) | exact ⟨by decide, by decide⟩)) rfl ?_
        refine zb_go (zg_aload_n rfl) rfl ?_
        refine zb_go (zg_iload_n rfl) rfl ?_
        refine zb_callv (r_X3_ringersIn hR ha hk4) lX3_65 (by repeat (first | assumption | exact z_up_self _ _ _ | refine (z_up_ne (by first | decide | omega)).trans ?_)) rfl rfl (by first | assumption | decide | omega) (by decide) rfl (Nat.le_of_ble_eq_true rfl) rfl ?_
        refine zb_go (zg_iload_n rfl) rfl ?_
        refine zb_go (zg_iconst (-1) (by decide)) rfl ?_
        refine zb_go zg_ixor rfl ?_
        refine zb_go zg_iand rfl ?_
        rw [z_andn]
        refine zb_calls (r_bitCount (zdif_lt (rIn_lt B k))) lX3_68 rfl (by decide) rfl (Nat.le_of_ble_eq_true rfl) rfl ?_
        refine zb_br (zg_icmp_eq (tgt := 41) (by decide)) rfl (fun c2 => ?_) (fun c2 => ?_)
        · refine kX3_soundsWithout_41 ?_
          refine zb_go (zg_iinc 1 (by decide) rfl (by decide)) rfl ?_
          refine zb_end (zg_goto (tgt := 2) (by decide) ?_) rfl
          rw [nI_1]
          exact ih hk4 (nx (Or.inr c2))
        · refine zb_go (zg_iconst 0 (by decide)) rfl ?_
          refine zb_end (zg_ireturn rfl (by rfl) ?_) rfl
          exact hQ _ _ ⟨rfl, Or.inr ⟨fun q => (q k hk4).elim c1 c2, rfl⟩⟩
  refine kX3_soundsWithout_0 ?_
  refine zb_go (zg_iconst 0 (by decide)) rfl ?_
  refine zb_go (zg_istore_n (by decide)) rfl ?_
  refine zb_out ?_
  exact lp 0 (by omega) (fun q hq => absurd hq (Nat.not_lt_zero _))
def rWalk (P : zP) (B : Nat → Int32) (w : Nat) : Nat → Nat := zsum (fun r => rT B r 4 * 2 * zdist (pHo P r) w)
theorem r_X3_walk {w : Nat} (hR : isRota h a tu tw S B) (ha : a + 2 < n) (hP : isPar h p P) (hp : p + 5 < n) (ok : okP P) (hw : w < 2 ^ 30) : zRet K l 4 mX3_walk [.ref a, .ref p, .int (nI w)] n h (some (.int (nI (rWalk P B w (pR P))))) h := by
  refine zRet.of (by decide) (Nat.le_of_ble_eq_true rfl) (fun Q hQ => ?_)
  have h1 := hR.1
  have h2 := hP.1
  have k2 := ok.2.1
  have lp : ∀ k, k ≤ pR P → zGo K l 4 mX3_walk 5 [(0, .ref a), (1, .ref p), (2, .int (nI w)), (3, .int (nI (rWalk P B w k))), (4, .int (nI k))] [] n h 0 0 Q := by
    refine z_down _ (fun k hk ih => ?_)
    refine kX3_walk_5 ?_
    refine zb_go (zg_iload rfl) rfl ?_
    refine zb_go (zg_aload_n rfl) rfl ?_
    refine zb_go (zg_getfield fX3_73 (by first | assumption | decide | omega) (by repeat (first | assumption | exact z_up_self _ _ _ | refine (z_up_ne (by first | decide | omega)).trans ?_)) (by rfl)) rfl ?_
    refine zb_br (zg_icmp_ge (tgt := 39) (by decide)) rfl (fun c => ?_) (fun c => ?_)
    · have e : k = pR P := by
        have := (nI_leI (by omega) (by omega)).mp c
        omega
      subst e
      refine kX3_walk_39 ?_
      refine zb_go (zg_iload_n rfl) rfl ?_
      refine zb_end (zg_ireturn rfl (by rfl) ?_) rfl
      exact hQ
    · have hk4 : k < pR P := Nat.not_le.mp (fun q => c (nI_le q (by omega)))
      refine zb_go (zg_iload_n rfl) rfl ?_
      refine zb_go (zg_aload_n rfl) rfl ?_
      refine zb_go (zg_iload rfl) rfl ?_
      refine zb_callv (r_X3_timesOf hR ha (by omega)) lX3_48 (by repeat (first | assumption | exact z_up_self _ _ _ | refine (z_up_ne (by first | decide | omega)).trans ?_)) rfl rfl (by first | assumption | decide | omega) (by decide) rfl (Nat.le_of_ble_eq_true rfl) rfl ?_
      refine zb_go (zg_iconst 2 (by decide)) rfl ?_
      refine zb_go zg_imul rfl ?_
      refine zb_go (zg_aload_n rfl) rfl ?_
      refine zb_go (zg_iload rfl) rfl ?_
      refine zb_go (zg_iload_n rfl) rfl ?_
      refine zb_callv (r_X2_way hP hp ok hk4 hw) lX3_76 (by repeat (first | assumption | exact z_up_self _ _ _ | refine (z_up_ne (by first | decide | omega)).trans ?_)) rfl rfl (by first | assumption | decide | omega) (by decide) rfl (Nat.le_of_ble_eq_true rfl) rfl ?_
      refine zb_go zg_imul rfl ?_
      refine zb_go zg_iadd rfl ?_
      refine zb_go (zg_istore_n (by decide)) rfl ?_
      refine zb_go (zg_iinc 1 (by decide) rfl (by decide)) rfl ?_
      refine zb_end (zg_goto (tgt := 5) (by decide) ?_) rfl
      rw [nI_1, show (2 : Int32) = nI 2 from rfl, pk_mul, pk_mul, nI_add]
      exact ih hk4
  refine kX3_walk_0 ?_
  refine zb_go (zg_iconst 0 (by decide)) rfl ?_
  refine zb_go (zg_istore_n (by decide)) rfl ?_
  refine zb_go (zg_iconst 0 (by decide)) rfl ?_
  refine zb_go (zg_istore (by decide)) rfl ?_
  refine zb_out ?_
  exact lp 0 (by omega)
end
end
section
/-! ROTA, what changes it -/
theorem zg_keep {K : zK} {l : Launch} {d : Nat} {M : zM} {pc : Nat} {ls : List (Nat × Value)} {st : List Value} {n : Nat} {h : zH} {mc ms : Nat} {Q : zQ} (ks : List Nat) (k : zGo K l d M pc (ls.filter (fun q => ks.contains q.1)) st n h mc ms Q) : zGo K l d M pc ls st n h mc ms Q := zg_sub _ (fun _ hq => (List.mem_filter.mp hq).1) k
section
variable {K : zK} {l : Launch} {n a a' r g q p : Nat} {h : zH} {tu tw tu' tw' x y : Int32} {S B S' B' : Nat → Int32} {P : zP}
theorem r_X3_give (hR : isRota h a tu tw S B) (ha : a + 2 < n) (hr : r < 6) (hg : g < 4) (hB : B (4 * r + g) = -9) : zRex K l 3 mX3_give [.ref a, .int (nI r), .int (nI g), .int y] n h (fun v h' => v = none ∧ isRota h' a (tu + 1) tw S (upd B (4 * r + g) y) ∧ zSame a (a + 2) h h') := by
  refine zRex.of (by decide) (Nat.le_of_ble_eq_true rfl) (fun Q hQ => ?_)
  obtain ⟨h1, h2, h3⟩ := id hR
  refine kX3_give_0 ?_
  refine zb_go (zg_iload_n rfl) rfl ?_
  refine zb_go (zg_iload_n rfl) rfl ?_
  refine zb_calls (r_X3_isTurn hr hg) lX3_34 rfl (by decide) rfl (Nat.le_of_ble_eq_true rfl) rfl ?_
  refine zb_br (zg_if_eq (tgt := 38) (by decide)) rfl (fun c0 => ?_) (fun c0 => ?_)
  · exact absurd c0 (by decide)
  · refine zb_go (zg_aload_n rfl) rfl ?_
    refine zb_go (zg_iload_n rfl) rfl ?_
    refine zb_go (zg_iload_n rfl) rfl ?_
    refine zb_callv (r_X3_hasTurn hR ha hr hg) lX3_42 (by repeat (first | assumption | exact z_up_self _ _ _ | refine (z_up_ne (by first | decide | omega)).trans ?_)) rfl rfl (by first | assumption | decide | omega) (by decide) rfl (Nat.le_of_ble_eq_true rfl) rfl ?_
    refine zb_br (zg_if_ne (tgt := 38) (by decide)) rfl (fun c1 => ?_) (fun c1 => ?_)
    · exact absurd hB (zb_n.mp c1)
    · refine zb_go (zg_aload_n rfl) rfl ?_
      refine zb_go (zg_getfield fX3_22 (by first | assumption | decide | omega) (by repeat (first | assumption | exact z_up_self _ _ _ | refine (z_up_ne (by first | decide | omega)).trans ?_)) (by rfl)) rfl ?_
      refine zb_go (zg_iload_n rfl) rfl ?_
      refine zb_go (zg_iconst 4 (by decide)) rfl ?_
      refine zb_go zg_imul rfl ?_
      refine zb_go (zg_iload_n rfl) rfl ?_
      refine zb_go zg_iadd rfl ?_
      refine zb_go (zg_iload_n rfl) rfl ?_
      refine zb_go (zi_iastore (by first | assumption | decide | omega) (by repeat (first | assumption | exact z_up_self _ _ _ | refine (z_up_ne (by first | decide | omega)).trans ?_)) (z_ix4 hr hg)) rfl ?_
      refine zb_go (zg_aload_n rfl) rfl ?_
      refine zb_go (zg_dup rfl) rfl ?_
      refine zb_go (zg_getfield fX3_9 (by first | assumption | decide | omega) (by repeat (first | assumption | exact z_up_self _ _ _ | refine (z_up_ne (by first | decide | omega)).trans ?_)) (by rfl)) rfl ?_
      refine zb_go (zg_iconst 1 (by decide)) rfl ?_
      refine zb_go zg_iadd rfl ?_
      refine zb_go (zg_putfield fX3_9 (by first | assumption | decide | omega) (by repeat (first | assumption | exact z_up_self _ _ _ | refine (z_up_ne (by first | decide | omega)).trans ?_)) (by exact Nat.le_of_ble_eq_true rfl) (by rfl) (by rfl) (by first | exact Or.inl rfl | exact Or.inr ⟨rfl, rfl⟩)) rfl ?_
      refine zb_out ?_
      refine kX3_give_38 ?_
      refine zb_end (zg_return rfl ?_) rfl
      exact hQ _ _ ⟨rfl, ⟨z_up_self _ _ _, (z_up_ne (by omega)).trans ((z_up_ne (by omega)).trans h2), (z_up_ne (by omega)).trans (z_up_self _ _ _)⟩, (zSame.rf.up (by omega) (by omega)).up (by omega) (by omega)⟩
theorem r_X3_free (hR : isRota h a tu tw S B) (ha : a + 2 < n) (hr : r < 6) (hg : g < 4) (hB : B (4 * r + g) ≠ -9) : zRex K l 3 mX3_free [.ref a, .int (nI r), .int (nI g)] n h (fun v h' => v = none ∧ isRota h' a (tu - 1) tw S (upd B (4 * r + g) (-9)) ∧ zSame a (a + 2) h h') := by
  refine zRex.of (by decide) (Nat.le_of_ble_eq_true rfl) (fun Q hQ => ?_)
  obtain ⟨h1, h2, h3⟩ := id hR
  refine kX3_free_0 ?_
  refine zb_go (zg_aload_n rfl) rfl ?_
  refine zb_go (zg_iload_n rfl) rfl ?_
  refine zb_go (zg_iload_n rfl) rfl ?_
  refine zb_callv (r_X3_hasTurn hR ha hr hg) lX3_42 (by repeat (first | assumption | exact z_up_self _ _ _ | refine (z_up_ne (by first | decide | omega)).trans ?_)) rfl rfl (by first | assumption | decide | omega) (by decide) rfl (Nat.le_of_ble_eq_true rfl) rfl ?_
  refine zb_br (zg_if_eq (tgt := 31) (by decide)) rfl (fun c1 => ?_) (fun c1 => ?_)
  · exact absurd hB (zb_0.mp c1)
  · refine zb_go (zg_aload_n rfl) rfl ?_
    refine zb_go (zg_getfield fX3_22 (by first | assumption | decide | omega) (by repeat (first | assumption | exact z_up_self _ _ _ | refine (z_up_ne (by first | decide | omega)).trans ?_)) (by rfl)) rfl ?_
    refine zb_go (zg_iload_n rfl) rfl ?_
    refine zb_go (zg_iconst 4 (by decide)) rfl ?_
    refine zb_go zg_imul rfl ?_
    refine zb_go (zg_iload_n rfl) rfl ?_
    refine zb_go zg_iadd rfl ?_
    refine zb_go (zg_bipush (-9) (by decide)) rfl ?_
    refine zb_go (zi_iastore (by first | assumption | decide | omega) (by repeat (first | assumption | exact z_up_self _ _ _ | refine (z_up_ne (by first | decide | omega)).trans ?_)) (z_ix4 hr hg)) rfl ?_
    refine zb_go (zg_aload_n rfl) rfl ?_
    refine zb_go (zg_dup rfl) rfl ?_
    refine zb_go (zg_getfield fX3_9 (by first | assumption | decide | omega) (by repeat (first | assumption | exact z_up_self _ _ _ | refine (z_up_ne (by first | decide | omega)).trans ?_)) (by rfl)) rfl ?_
    refine zb_go (zg_iconst 1 (by decide)) rfl ?_
    refine zb_go zg_isub rfl ?_
    refine zb_go (zg_putfield fX3_9 (by first | assumption | decide | omega) (by repeat (first | assumption | exact z_up_self _ _ _ | refine (z_up_ne (by first | decide | omega)).trans ?_)) (by exact Nat.le_of_ble_eq_true rfl) (by rfl) (by rfl) (by first | exact Or.inl rfl | exact Or.inr ⟨rfl, rfl⟩)) rfl ?_
    refine zb_out ?_
    refine kX3_free_31 ?_
    refine zb_end (zg_return rfl ?_) rfl
    exact hQ _ _ ⟨rfl, ⟨z_up_self _ _ _, (z_up_ne (by omega)).trans ((z_up_ne (by omega)).trans h2), (z_up_ne (by omega)).trans (z_up_self _ _ _)⟩, (zSame.rf.up (by omega) (by omega)).up (by omega) (by omega)⟩
/-- the first k hours of r and q exchanged -/
def swB (B : Nat → Int32) (r q k : Nat) : Nat → Int32 := fun j => if j / 4 = r ∧ j % 4 < k then B (4 * q + j % 4) else if j / 4 = q ∧ j % 4 < k then B (4 * r + j % 4) else B j
theorem swB_0 (B : Nat → Int32) (r q : Nat) : swB B r q 0 = B := by
  funext j
  simp [swB]
theorem swB_step (B : Nat → Int32) {r q k : Nat} (hk : k < 4) (hrq : r ≠ q) : upd (upd (swB B r q k) (4 * r + k) (swB B r q k (4 * q + k))) (4 * q + k) (swB B r q k (4 * r + k)) = swB B r q (k + 1) := by
  funext j
  have d1 : (4 * r + k) / 4 = r := by omega
  have d2 : (4 * r + k) % 4 = k := by omega
  have d3 : (4 * q + k) / 4 = q := by omega
  have d4 : (4 * q + k) % 4 = k := by omega
  by_cases e1 : j = 4 * q + k
  · subst e1
    rw [pk_us]
    simp [swB, d1, d2, d3, d4, Ne.symm hrq]
  · rw [pk_un e1]
    by_cases e2 : j = 4 * r + k
    · subst e2
      rw [pk_us]
      simp [swB, d1, d2, d3, d4]
    · rw [pk_un e2]
      have f1 : (j / 4 = r ∧ j % 4 < k + 1) ↔ (j / 4 = r ∧ j % 4 < k) := by omega
      have f2 : (j / 4 = q ∧ j % 4 < k + 1) ↔ (j / 4 = q ∧ j % 4 < k) := by omega
      simp only [swB, f1, f2]
theorem r_X3_swap (hR : isRota h a tu tw S B) (ha : a + 2 < n) (hr : r < 6) (hq : q < 6) (hrq : r ≠ q) : zRex K l 1 mX3_swap [.ref a, .int (nI r), .int (nI q)] n h (fun v h' => v = none ∧ isRota h' a tu tw S (swB B r q 4) ∧ zSame a (a + 2) h h') := by
  refine zRex.of (by decide) (Nat.le_of_ble_eq_true rfl) (fun Q hQ => ?_)
  have lp : ∀ k, k ≤ 4 → ∀ h0, isRota h0 a tu tw S (swB B r q k) → zSame a (a + 2) h h0 → zGo K l 1 mX3_swap 2 [(0, .ref a), (1, .int (nI r)), (2, .int (nI q)), (3, .int (nI k))] [] n h0 0 0 Q := by
    refine z_down 4 (fun k hk ih h0 hR0 hs => ?_)
    obtain ⟨h1, h2, h3⟩ := id hR0
    refine kX3_swap_2 ?_
    refine zb_go (zg_iload_n rfl) rfl ?_
    refine zb_go (zg_iconst 4 (by decide)) rfl ?_
    refine zb_br (zg_icmp_ge (tgt := 73) (by decide)) rfl (fun c => ?_) (fun c => ?_)
    · have e : k = 4 := by
        have := (nI_leI (a := 4) (b := k) (by decide) (by omega)).mp c
        omega
      subst e
      refine kX3_swap_73 ?_
      refine zb_end (zg_return rfl ?_) rfl
      exact hQ _ _ ⟨rfl, hR0, hs⟩
    · have hk4 : k < 4 := Nat.not_le.mp (fun q => c (nI_le q (by omega)))
      refine zb_go (zg_iload_n rfl) rfl ?_
      refine zb_go (zg_iload_n rfl) rfl ?_
      refine zb_calls (r_X3_isTurn hr hk4) lX3_34 rfl (by decide) rfl (Nat.le_of_ble_eq_true rfl) rfl ?_
      refine zb_br (zg_if_eq (tgt := 73) (by decide)) rfl (fun c0 => ?_) (fun c0 => ?_)
      · exact absurd c0 (by decide)
      · refine zb_go (zg_iload_n rfl) rfl ?_
        refine zb_go (zg_iload_n rfl) rfl ?_
        refine zb_calls (r_X3_isTurn hq hk4) lX3_34 rfl (by decide) rfl (Nat.le_of_ble_eq_true rfl) rfl ?_
        refine zb_br (zg_if_eq (tgt := 73) (by decide)) rfl (fun c1 => ?_) (fun c1 => ?_)
        · exact absurd c1 (by decide)
        · refine zb_go (zg_aload_n rfl) rfl ?_
          refine zb_go (zg_getfield fX3_22 (by first | assumption | decide | omega) (by repeat (first | assumption | exact z_up_self _ _ _ | refine (z_up_ne (by first | decide | omega)).trans ?_)) (by rfl)) rfl ?_
          refine zb_go (zg_iload_n rfl) rfl ?_
          refine zb_go (zg_iconst 4 (by decide)) rfl ?_
          refine zb_go zg_imul rfl ?_
          refine zb_go (zg_iload_n rfl) rfl ?_
          refine zb_go zg_iadd rfl ?_
          refine zb_go (zi_iaload (by first | assumption | decide | omega) (by repeat (first | assumption | exact z_up_self _ _ _ | refine (z_up_ne (by first | decide | omega)).trans ?_)) (z_ix4 hr hk4)) rfl ?_
          refine zb_go (zg_istore (by decide)) rfl ?_
          refine zb_go (zg_aload_n rfl) rfl ?_
          refine zb_go (zg_getfield fX3_22 (by first | assumption | decide | omega) (by repeat (first | assumption | exact z_up_self _ _ _ | refine (z_up_ne (by first | decide | omega)).trans ?_)) (by rfl)) rfl ?_
          refine zb_go (zg_iload_n rfl) rfl ?_
          refine zb_go (zg_iconst 4 (by decide)) rfl ?_
          refine zb_go zg_imul rfl ?_
          refine zb_go (zg_iload_n rfl) rfl ?_
          refine zb_go zg_iadd rfl ?_
          refine zb_go (zg_aload_n rfl) rfl ?_
          refine zb_go (zg_getfield fX3_22 (by first | assumption | decide | omega) (by repeat (first | assumption | exact z_up_self _ _ _ | refine (z_up_ne (by first | decide | omega)).trans ?_)) (by rfl)) rfl ?_
          refine zb_go (zg_iload_n rfl) rfl ?_
          refine zb_go (zg_iconst 4 (by decide)) rfl ?_
          refine zb_go zg_imul rfl ?_
          refine zb_go (zg_iload_n rfl) rfl ?_
          refine zb_go zg_iadd rfl ?_
          refine zb_go (zi_iaload (by first | assumption | decide | omega) (by repeat (first | assumption | exact z_up_self _ _ _ | refine (z_up_ne (by first | decide | omega)).trans ?_)) (z_ix4 hq hk4)) rfl ?_
          refine zb_go (zi_iastore (by first | assumption | decide | omega) (by repeat (first | assumption | exact z_up_self _ _ _ | refine (z_up_ne (by first | decide | omega)).trans ?_)) (z_ix4 hr hk4)) rfl ?_
          refine zb_go (zg_aload_n rfl) rfl ?_
          refine zb_go (zg_getfield fX3_22 (by first | assumption | decide | omega) (by repeat (first | assumption | exact z_up_self _ _ _ | refine (z_up_ne (by first | decide | omega)).trans ?_)) (by rfl)) rfl ?_
          refine zb_go (zg_iload_n rfl) rfl ?_
          refine zb_go (zg_iconst 4 (by decide)) rfl ?_
          refine zb_go zg_imul rfl ?_
          refine zb_go (zg_iload_n rfl) rfl ?_
          refine zb_go zg_iadd rfl ?_
          refine zb_go (zg_iload rfl) rfl ?_
          refine zb_go (zi_iastore (by first | assumption | decide | omega) (by repeat (first | assumption | exact z_up_self _ _ _ | refine (z_up_ne (by first | decide | omega)).trans ?_)) (z_ix4 hq hk4)) rfl ?_
          refine zb_go (zg_iinc 1 (by decide) rfl (by decide)) rfl ?_
          refine zb_end (zg_goto (tgt := 2) (by decide) ?_) rfl
          rw [nI_1, z_up_up, swB_step B hk4 hrq]
          refine zg_keep [0, 1, 2, 3] ?_
          exact ih hk4 _ ⟨(z_up_ne (by omega)).trans h1, (z_up_ne (by omega)).trans h2, z_up_self _ _ _⟩ (hs.up (by omega) (by omega))
  refine kX3_swap_0 ?_
  refine zb_go (zg_iconst 0 (by decide)) rfl ?_
  refine zb_go (zg_istore_n (by decide)) rfl ?_
  refine zb_out ?_
  exact lp 0 (by omega) h (by rw [swB_0]; exact hR) zSame.rf
/-- all turns and strokes taken away -/
def isNone (S : Nat → Int32) (N : Nat) : Prop := ∀ j, j < N → S j = -9
theorem r_X3_clean (hR : isRota h a tu tw S B) (ha : a + 2 < n) : zRex K l 0 mX3_clean [.ref a] n h (fun v h' => v = none ∧ (∃ S' B', isRota h' a 0 tw S' B' ∧ isNone S' 4 ∧ isNone B' 24) ∧ zSame a (a + 2) h h') := by
  refine zRex.of (by decide) (Nat.le_of_ble_eq_true rfl) (fun Q hQ => ?_)
  have nx : ∀ {f : Nat → Int32} {k : Nat}, isNone f k → isNone (upd f k (-9)) (k + 1) := by
    intro f k hf j hj
    by_cases e : j = k
    · rw [e, pk_us]
    · rw [pk_un e]; exact hf j (by omega)
  have lp2 : ∀ S', isNone S' 4 → ∀ k, k ≤ 24 → ∀ h0 B', isRota h0 a 0 tw S' B' → isNone B' k → zSame a (a + 2) h h0 → zGo K l 0 mX3_clean 28 [(0, .ref a), (1, .int (nI k))] [] n h0 0 0 Q := by
    intro S' hS'
    refine z_down 24 (fun k hk ih h0 B' hR0 hB0 hs => ?_)
    obtain ⟨h1, h2, h3⟩ := id hR0
    refine kX3_clean_28 ?_
    refine zb_go (zg_iload_n rfl) rfl ?_
    refine zb_go (zg_aload_n rfl) rfl ?_
    refine zb_go (zg_getfield fX3_22 (by first | assumption | decide | omega) (by repeat (first | assumption | exact z_up_self _ _ _ | refine (z_up_ne (by first | decide | omega)).trans ?_)) (by rfl)) rfl ?_
    refine zb_go (zg_arraylength (by first | assumption | decide | omega) (by repeat (first | assumption | exact z_up_self _ _ _ | refine (z_up_ne (by first | decide | omega)).trans ?_)) (by decide)) rfl ?_
    refine zb_br (zg_icmp_ge (tgt := 51) (by decide)) rfl (fun c => ?_) (fun c => ?_)
    · have e : k = 24 := by
        have := (nI_leI (a := 24) (b := k) (by decide) (by omega)).mp c
        omega
      subst e
      refine kX3_clean_51 ?_
      refine zb_end (zg_return rfl ?_) rfl
      exact hQ _ _ ⟨rfl, ⟨S', B', hR0, hS', hB0⟩, hs⟩
    · have hk4 : k < 24 := Nat.not_le.mp (fun q => c (nI_le q (by omega)))
      refine zb_go (zg_aload_n rfl) rfl ?_
      refine zb_go (zg_getfield fX3_22 (by first | assumption | decide | omega) (by repeat (first | assumption | exact z_up_self _ _ _ | refine (z_up_ne (by first | decide | omega)).trans ?_)) (by rfl)) rfl ?_
      refine zb_go (zg_iload_n rfl) rfl ?_
      refine zb_go (zg_bipush (-9) (by decide)) rfl ?_
      refine zb_go (zi_iastore (by first | assumption | decide | omega) (by repeat (first | assumption | exact z_up_self _ _ _ | refine (z_up_ne (by first | decide | omega)).trans ?_)) (by first | assumption | exact zIx.nI (by omega) (by decide) | exact ⟨by decide, by decide⟩)) rfl ?_
      refine zb_go (zg_iinc 1 (by decide) rfl (by decide)) rfl ?_
      refine zb_end (zg_goto (tgt := 28) (by decide) ?_) rfl
      rw [nI_1]
      exact ih hk4 _ _ ⟨(z_up_ne (by omega)).trans h1, (z_up_ne (by omega)).trans h2, z_up_self _ _ _⟩ (nx hB0) (hs.up (by omega) (by omega))
  have lp1 : ∀ k, k ≤ 4 → ∀ h0 S', isRota h0 a 0 tw S' B → isNone S' k → zSame a (a + 2) h h0 → zGo K l 0 mX3_clean 7 [(0, .ref a), (1, .int (nI k))] [] n h0 0 0 Q := by
    refine z_down 4 (fun k hk ih h0 S' hR0 hS0 hs => ?_)
    obtain ⟨h1, h2, h3⟩ := id hR0
    refine kX3_clean_7 ?_
    refine zb_go (zg_iload_n rfl) rfl ?_
    refine zb_go (zg_iconst 4 (by decide)) rfl ?_
    refine zb_br (zg_icmp_ge (tgt := 26) (by decide)) rfl (fun c => ?_) (fun c => ?_)
    · have e : k = 4 := by
        have := (nI_leI (a := 4) (b := k) (by decide) (by omega)).mp c
        omega
      subst e
      refine kX3_clean_26 ?_
      refine zb_go (zg_iconst 0 (by decide)) rfl ?_
      refine zb_go (zg_istore_n (by decide)) rfl ?_
      refine zb_out ?_
      exact lp2 S' hS0 0 (by omega) h0 B hR0 (fun j hj => absurd hj (Nat.not_lt_zero _)) hs
    · have hk4 : k < 4 := Nat.not_le.mp (fun q => c (nI_le q (by omega)))
      refine zb_go (zg_aload_n rfl) rfl ?_
      refine zb_go (zg_getfield fX3_18 (by first | assumption | decide | omega) (by repeat (first | assumption | exact z_up_self _ _ _ | refine (z_up_ne (by first | decide | omega)).trans ?_)) (by rfl)) rfl ?_
      refine zb_go (zg_iload_n rfl) rfl ?_
      refine zb_go (zg_bipush (-9) (by decide)) rfl ?_
      refine zb_go (zi_iastore (by first | assumption | decide | omega) (by repeat (first | assumption | exact z_up_self _ _ _ | refine (z_up_ne (by first | decide | omega)).trans ?_)) (by first | assumption | exact zIx.nI (by omega) (by decide) | exact ⟨by decide, by decide⟩)) rfl ?_
      refine zb_go (zg_iinc 1 (by decide) rfl (by decide)) rfl ?_
      refine zb_end (zg_goto (tgt := 7) (by decide) ?_) rfl
      rw [nI_1]
      exact ih hk4 _ _ ⟨(z_up_ne (by omega)).trans h1, z_up_self _ _ _, (z_up_ne (by omega)).trans h3⟩ (nx hS0) (hs.up (by omega) (by omega))
  obtain ⟨h1, h2, h3⟩ := id hR
  refine kX3_clean_0 ?_
  refine zb_go (zg_aload_n rfl) rfl ?_
  refine zb_go (zg_iconst 0 (by decide)) rfl ?_
  refine zb_go (zg_putfield fX3_9 (by first | assumption | decide | omega) (by repeat (first | assumption | exact z_up_self _ _ _ | refine (z_up_ne (by first | decide | omega)).trans ?_)) (by exact Nat.le_of_ble_eq_true rfl) (by rfl) (by rfl) (by first | exact Or.inl rfl | exact Or.inr ⟨rfl, rfl⟩)) rfl ?_
  refine zb_go (zg_iconst 0 (by decide)) rfl ?_
  refine zb_go (zg_istore_n (by decide)) rfl ?_
  refine zb_out ?_
  exact lp1 0 (by omega) _ S ⟨z_up_self _ _ _, (z_up_ne (by omega)).trans h2, (z_up_ne (by omega)).trans h3⟩ (fun j hj => absurd hj (Nat.not_lt_zero _)) (zSame.rf.up (by omega) (by omega))
theorem r_X3_empty (hR : isRota h a tu tw S B) (ha : a + 2 < n) : zRex K l 1 mX3_empty [.ref a, .int x] n h (fun v h' => v = none ∧ (∃ S' B', isRota h' a 0 x S' B' ∧ isNone S' 4 ∧ isNone B' 24) ∧ zSame a (a + 2) h h') := by
  refine zRex.of (by decide) (Nat.le_of_ble_eq_true rfl) (fun Q hQ => ?_)
  have h1 := hR.1
  refine kX3_empty_0 ?_
  refine zb_go (zg_aload_n rfl) rfl ?_
  refine zb_callvx (r_X3_clean hR ha) lX3_25 (by repeat (first | assumption | exact z_up_self _ _ _ | refine (z_up_ne (by first | decide | omega)).trans ?_)) rfl rfl (by first | assumption | decide | omega) (by decide) rfl (Nat.le_of_ble_eq_true rfl) rfl ?_
  rintro v h' ⟨rfl, ⟨S', B', hR', hS', hB'⟩, hs⟩
  obtain ⟨g1, g2, g3⟩ := id hR'
  refine zb_go (zg_aload_n rfl) rfl ?_
  refine zb_go (zg_iload_n rfl) rfl ?_
  refine zb_go (zg_putfield fX3_15 (by first | assumption | decide | omega) (by repeat (first | assumption | exact z_up_self _ _ _ | refine (z_up_ne (by first | decide | omega)).trans ?_)) (by exact Nat.le_of_ble_eq_true rfl) (by rfl) (by rfl) (by first | exact Or.inl rfl | exact Or.inr ⟨rfl, rfl⟩)) rfl ?_
  refine zb_end (zg_return rfl ?_) rfl
  exact hQ _ _ ⟨rfl, ⟨S', B', ⟨z_up_self _ _ _, (z_up_ne (by omega)).trans g2, (z_up_ne (by omega)).trans g3⟩, hS', hB'⟩, hs.up (by omega) (by omega)⟩
theorem z_cpy0 {f g : Nat → Int32} {N j : Nat} (hj : j < N) : va_cpy f g 0 0 N j = f j := by
  rw [pk_cpy_in (Nat.zero_le _) (by omega)]
  congr 1
  omega
theorem wcp1 : Cond.methodLink RX3 28 arraycopyName ∈ z_all := z_in (List.mem_of_getElem? (i := 777) (by decide +kernel)) (by decide +kernel)
theorem wcp2 : Cond.static arraycopyName ∈ z_all := z_in (List.mem_of_getElem? (i := 778) (by decide +kernel)) (by decide +kernel)
theorem wcp3 : Cond.native arraycopyName ∈ z_all := z_in (List.mem_of_getElem? (i := 779) (by decide +kernel)) (by decide +kernel)
theorem wcp4 : Cond.initialized "java/lang/System" ∈ z_all := z_in (List.mem_of_getElem? (i := 73) (by decide +kernel)) (by decide +kernel)
theorem r_X3_copy (hR : isRota h a tu tw S B) (ha : a + 2 < n) (hR' : isRota h a' tu' tw' S' B') (ha' : a' + 2 < n) (hap : a + 2 < a' ∨ a' + 2 < a) : zRex K l 1 mX3_copy [.ref a, .ref a'] n h (fun v h' => v = none ∧ (∃ S2 B2, isRota h' a tu' tw' S2 B2 ∧ (∀ j, j < 4 → S2 j = S' j) ∧ ∀ j, j < 24 → B2 j = B' j) ∧ zSame a (a + 2) h h') := by
  refine zRex.of (by decide) (Nat.le_of_ble_eq_true rfl) (fun Q hQ => ?_)
  obtain ⟨h1, h2, h3⟩ := id hR
  obtain ⟨g1, g2, g3⟩ := id hR'
  refine kX3_copy_0 ?_
  refine zb_go (zg_aload_n rfl) rfl ?_
  refine zb_go (zg_aload_n rfl) rfl ?_
  refine zb_go (zg_getfield fX3_9 (by first | assumption | decide | omega) (by repeat (first | assumption | exact z_up_self _ _ _ | refine (z_up_ne (by first | decide | omega)).trans ?_)) (by rfl)) rfl ?_
  refine zb_go (zg_putfield fX3_9 (by first | assumption | decide | omega) (by repeat (first | assumption | exact z_up_self _ _ _ | refine (z_up_ne (by first | decide | omega)).trans ?_)) (by exact Nat.le_of_ble_eq_true rfl) (by rfl) (by rfl) (by first | exact Or.inl rfl | exact Or.inr ⟨rfl, rfl⟩)) rfl ?_
  refine zb_go (zg_aload_n rfl) rfl ?_
  refine zb_go (zg_aload_n rfl) rfl ?_
  refine zb_go (zg_getfield fX3_15 (by first | assumption | decide | omega) (by repeat (first | assumption | exact z_up_self _ _ _ | refine (z_up_ne (by first | decide | omega)).trans ?_)) (by rfl)) rfl ?_
  refine zb_go (zg_putfield fX3_15 (by first | assumption | decide | omega) (by repeat (first | assumption | exact z_up_self _ _ _ | refine (z_up_ne (by first | decide | omega)).trans ?_)) (by exact Nat.le_of_ble_eq_true rfl) (by rfl) (by rfl) (by first | exact Or.inl rfl | exact Or.inr ⟨rfl, rfl⟩)) rfl ?_
  refine zb_go (zg_aload_n rfl) rfl ?_
  refine zb_go (zg_getfield fX3_18 (by first | assumption | decide | omega) (by repeat (first | assumption | exact z_up_self _ _ _ | refine (z_up_ne (by first | decide | omega)).trans ?_)) (by rfl)) rfl ?_
  refine zb_go (zg_iconst 0 (by decide)) rfl ?_
  refine zb_go (zg_aload_n rfl) rfl ?_
  refine zb_go (zg_getfield fX3_18 (by first | assumption | decide | omega) (by repeat (first | assumption | exact z_up_self _ _ _ | refine (z_up_ne (by first | decide | omega)).trans ?_)) (by rfl)) rfl ?_
  refine zb_go (zg_iconst 0 (by decide)) rfl ?_
  refine zb_go (zg_iconst 4 (by decide)) rfl ?_
  refine zb_go (zg_copyi wcp1 wcp3 wcp2 wcp4 (by omega) (by omega) (by repeat (first | assumption | exact z_up_self _ _ _ | refine (z_up_ne (by first | decide | omega)).trans ?_)) (by repeat (first | assumption | exact z_up_self _ _ _ | refine (z_up_ne (by first | decide | omega)).trans ?_)) (by decide) (by decide) (by decide) (by decide) (by decide) (by decide) (Nat.le_of_ble_eq_true rfl) z_natF) rfl ?_
  refine zb_go (zg_aload_n rfl) rfl ?_
  refine zb_go (zg_getfield fX3_22 (by first | assumption | decide | omega) (by repeat (first | assumption | exact z_up_self _ _ _ | refine (z_up_ne (by first | decide | omega)).trans ?_)) (by rfl)) rfl ?_
  refine zb_go (zg_iconst 0 (by decide)) rfl ?_
  refine zb_go (zg_aload_n rfl) rfl ?_
  refine zb_go (zg_getfield fX3_22 (by first | assumption | decide | omega) (by repeat (first | assumption | exact z_up_self _ _ _ | refine (z_up_ne (by first | decide | omega)).trans ?_)) (by rfl)) rfl ?_
  refine zb_go (zg_iconst 0 (by decide)) rfl ?_
  refine zb_go (zg_aload_n rfl) rfl ?_
  refine zb_go (zg_getfield fX3_22 (by first | assumption | decide | omega) (by repeat (first | assumption | exact z_up_self _ _ _ | refine (z_up_ne (by first | decide | omega)).trans ?_)) (by rfl)) rfl ?_
  refine zb_go (zg_arraylength (by first | assumption | decide | omega) (by repeat (first | assumption | exact z_up_self _ _ _ | refine (z_up_ne (by first | decide | omega)).trans ?_)) (by decide)) rfl ?_
  refine zb_go (zg_copyi wcp1 wcp3 wcp2 wcp4 (by omega) (by omega) (by repeat (first | assumption | exact z_up_self _ _ _ | refine (z_up_ne (by first | decide | omega)).trans ?_)) (by repeat (first | assumption | exact z_up_self _ _ _ | refine (z_up_ne (by first | decide | omega)).trans ?_)) (by decide) (by decide) (by decide) (by decide) (by decide) (by decide) (Nat.le_of_ble_eq_true rfl) z_natF) rfl ?_
  refine zb_end (zg_return rfl ?_) rfl
  rw [z_up_up]
  exact hQ _ _ ⟨rfl, ⟨_, _, ⟨(z_up_ne (by omega)).trans ((z_up_ne (by omega)).trans (z_up_self _ _ _)), (z_up_ne (by omega)).trans (z_up_self _ _ _), z_up_self _ _ _⟩, fun j hj => z_cpy0 hj, fun j hj => z_cpy0 hj⟩, ((zSame.rf.up (by omega) (by omega)).up (by omega) (by omega)).up (by omega) (by omega)⟩
end
end
section
/-! CREWS, and common divisors -/
def sLost (P : zP) (g am s : Nat) : Nat := zpop s - sAble P g am s (pR P)
def zmx (f : Nat → Nat) : Nat → Nat
  | 0 => 0
  | k + 1 => max (zmx f k) (f k)
theorem zmx_le {f : Nat → Nat} {m k : Nat} (h : ∀ i, i < k → f i ≤ m) : zmx f k ≤ m := by
  induction k with
  | zero => exact Nat.zero_le _
  | succ k ih => exact Nat.max_le.mpr ⟨ih (fun i hi => h i (by omega)), h k (by omega)⟩
theorem le_zmx {f : Nat → Nat} {k i : Nat} (h : i < k) : f i ≤ zmx f k := by
  induction k with
  | zero => omega
  | succ k ih =>
    simp only [zmx]
    rcases Nat.lt_or_ge i k with q | q
    · exact Nat.le_trans (ih q) (Nat.le_max_left _ _)
    · rw [show i = k by omega]; exact Nat.le_max_right _ _
def zall (p : Nat → Bool) : Nat → Bool
  | 0 => true
  | k + 1 => zall p k && p k
theorem zall_iff {p : Nat → Bool} {k : Nat} : zall p k = true ↔ ∀ i, i < k → p i = true := by
  induction k with
  | zero => simp [zall]
  | succ k ih =>
    rw [zall, Bool.and_eq_true, ih]
    constructor
    · intro h i hi
      rcases Nat.lt_or_ge i k with q | q
      · exact h.1 i q
      · rw [show i = k by omega]; exact h.2
    · intro h
      exact ⟨fun i hi => h i (by omega), h k (by omega)⟩
section
variable {K : zK} {l : Launch} {n p r g am s : Nat} {h : zH} {x y : Int32} {P : zP}
theorem sAble_le (P : zP) (g am s : Nat) (ok : okP P) : sAble P g am s (pR P) ≤ 6 := Nat.le_trans (zcnt_le _ _) ok.2.1
theorem r_X0_lostIn (hP : isPar h p P) (hp : p + 5 < n) (ok : okP P) (hg : g < 2 ^ 31) (ha : am < 2 ^ 31) (hs : s < 64) : zRet K l 3 mX0_lostIn [.ref p, .int (nI g), .int (nI am), .int (nI s)] n h (some (.int (nI (zpop s) - nI (sAble P g am s (pR P))))) h := by
  refine zRet.of (by decide) (Nat.le_of_ble_eq_true rfl) (fun Q hQ => ?_)
  have h1 := hP.1
  refine kX0_lostIn_0 ?_
  refine zb_go (zg_iload_n rfl) rfl ?_
  refine zb_calls (r_bitCount hs) lX0_27 rfl (by decide) rfl (Nat.le_of_ble_eq_true rfl) rfl ?_
  refine zb_go (zg_aload_n rfl) rfl ?_
  refine zb_go (zg_iload_n rfl) rfl ?_
  refine zb_go (zg_iload_n rfl) rfl ?_
  refine zb_go (zg_iload_n rfl) rfl ?_
  refine zb_callv (r_X2_ableOf hP hp ok hg ha (by omega)) lX0_33 (by repeat (first | assumption | exact z_up_self _ _ _ | refine (z_up_ne (by first | decide | omega)).trans ?_)) rfl rfl (by first | assumption | decide | omega) (by decide) rfl (Nat.le_of_ble_eq_true rfl) rfl ?_
  refine zb_go zg_isub rfl ?_
  refine zb_end (zg_ireturn rfl (by rfl) ?_) rfl
  exact hQ
theorem z_lost1 {a b c : Nat} (ha : a < 2 ^ 30) (hb : b < 2 ^ 30) (hc : c < 2 ^ 30) : (if nI c < nI a - nI b then nI a - nI b else nI c) = nI (max c (a - b)) := by
  rcases Nat.lt_or_ge a b with q | q
  · have h1 := pk_sneg hb q
    have h2 : ¬ nI c < nI a - nI b := fun z => absurd (Int32.lt_trans z h1) (nI_pos (by omega))
    rw [if_neg h2, show a - b = 0 by omega, Nat.max_eq_left (Nat.zero_le _)]
  · rw [pk_sub q]
    rcases Nat.lt_or_ge c (a - b) with z | z
    · rw [if_pos (nI_lt z (by omega)), Nat.max_eq_right (by omega)]
    · rw [if_neg (nI_nlt z (by omega)), Nat.max_eq_left z]
theorem z_lost2 {a b : Nat} (ha : a < 2 ^ 30) (hb : b < 2 ^ 30) : nI a - nI b ≤ 0 ↔ a - b = 0 := by
  rcases Nat.lt_or_ge a b with q | q
  · have h1 := pk_sneg hb q
    exact ⟨fun _ => by omega, fun _ => Int32.le_of_lt h1⟩
  · rw [pk_sub q]
    exact ⟨fun z => by
      have := (nI_leI (b := 0) (by omega) (by omega)).mp z
      omega, fun z => by rw [z]; exact Int32.le_refl _⟩
theorem pW_pow (ok : okP P) (hg : g < pH P) : 2 ^ pW P g ≤ 8 := Nat.pow_le_pow_right (by decide) (ok.2.2.2.2.2.1 g hg).2
theorem r_X0_most (hP : isPar h p P) (hp : p + 5 < n) (ok : okP P) (hg : g < pH P) : zRet K l 4 mX0_most [.ref p, .int (nI g)] n h (some (.int (nI (pW P g) - nI (zmx (sLost P g 63) (2 ^ pW P g))))) h := by
  refine zRet.of (by decide) (Nat.le_of_ble_eq_true rfl) (fun Q hQ => ?_)
  obtain ⟨h1, ⟨f, h2, hf⟩, -⟩ := id hP
  have k1 := ok.1
  have hw := ok.2.2.2.2.2.1 g hg
  have hp2 := pW_pow ok hg
  have hz : ∀ k, zmx (sLost P g 63) k ≤ 6 := fun k => zmx_le (fun i _ => Nat.le_trans (Nat.sub_le _ _) (zpop_le i))
  have lp : ∀ k, k ≤ 2 ^ pW P g → 1 ≤ k → zGo K l 4 mX0_most 4 [(0, .ref p), (1, .int (nI g)), (2, .int (nI (zmx (sLost P g 63) k))), (3, .int (nI k))] [] n h 0 0 Q := by
    refine z_down _ (fun k hk ih h1k => ?_)
    refine kX0_most_4 ?_
    refine zb_go (zg_iload_n rfl) rfl ?_
    refine zb_go (zg_iconst 1 (by decide)) rfl ?_
    refine zb_go (zg_aload_n rfl) rfl ?_
    refine zb_go (zg_getfield fX0_9 (by first | assumption | decide | omega) (by repeat (first | assumption | exact z_up_self _ _ _ | refine (z_up_ne (by first | decide | omega)).trans ?_)) (by rfl)) rfl ?_
    refine zb_go (zg_iload_n rfl) rfl ?_
    refine zb_go (zi_iaload (by first | assumption | decide | omega) (by repeat (first | assumption | exact z_up_self _ _ _ | refine (z_up_ne (by first | decide | omega)).trans ?_)) (by first | assumption | exact zIx.nI (by omega) (by decide) | exact ⟨by decide, by decide⟩)) rfl ?_
    refine zb_go zg_ishl rfl ?_
    rw [hf g hg, show (1 : Int32) = nI 1 from rfl, z_shl (by omega), Nat.shiftLeft_eq, Nat.one_mul]
    refine zb_br (zg_icmp_ge (tgt := 35) (by decide)) rfl (fun c => ?_) (fun c => ?_)
    · have e : k = 2 ^ pW P g := by
        have := (nI_leI (by omega) (by omega)).mp c
        omega
      subst e
      refine kX0_most_35 ?_
      refine zb_go (zg_aload_n rfl) rfl ?_
      refine zb_go (zg_getfield fX0_9 (by first | assumption | decide | omega) (by repeat (first | assumption | exact z_up_self _ _ _ | refine (z_up_ne (by first | decide | omega)).trans ?_)) (by rfl)) rfl ?_
      refine zb_go (zg_iload_n rfl) rfl ?_
      refine zb_go (zi_iaload (by first | assumption | decide | omega) (by repeat (first | assumption | exact z_up_self _ _ _ | refine (z_up_ne (by first | decide | omega)).trans ?_)) (by first | assumption | exact zIx.nI (by omega) (by decide) | exact ⟨by decide, by decide⟩)) rfl ?_
      refine zb_go (zg_iload_n rfl) rfl ?_
      refine zb_go zg_isub rfl ?_
      refine zb_end (zg_ireturn rfl (by rfl) ?_) rfl
      rw [hf g hg]
      exact hQ
    · have hk4 : k < 2 ^ pW P g := Nat.not_le.mp (fun q => c (nI_le q (by omega)))
      have hz1 := hz k
      refine zb_go (zg_iload_n rfl) rfl ?_
      refine zb_go (zg_aload_n rfl) rfl ?_
      refine zb_go (zg_iload_n rfl) rfl ?_
      refine zb_go (zg_bipush 63 (by decide)) rfl ?_
      refine zb_go (zg_iload_n rfl) rfl ?_
      refine zb_calls (r_X0_lostIn (am := 63) hP hp ok (by omega) (by omega) (by omega)) lX0_15 rfl (by decide) rfl (Nat.le_of_ble_eq_true rfl) rfl ?_
      refine zb_go (zg_mmax wlX0_21 (by decide) (Nat.le_of_ble_eq_true rfl)) rfl ?_
      refine zb_go (zg_istore_n (by decide)) rfl ?_
      refine zb_go (zg_iinc 1 (by decide) rfl (by decide)) rfl ?_
      refine zb_end (zg_goto (tgt := 4) (by decide) ?_) rfl
      rw [nI_1, z_lost1 (by have := zpop_le k; omega) (by have := sAble_le P g 63 k ok; omega) (by omega)]
      exact ih hk4 (by omega)
  refine kX0_most_0 ?_
  refine zb_go (zg_iconst 0 (by decide)) rfl ?_
  refine zb_go (zg_istore_n (by decide)) rfl ?_
  refine zb_go (zg_iconst 1 (by decide)) rfl ?_
  refine zb_go (zg_istore_n (by decide)) rfl ?_
  refine zb_out ?_
  have e1 : (0 : Int32) = nI (zmx (sLost P g 63) 1) := by
    have : zmx (sLost P g 63) 1 = 0 := by
      have : zpop 0 = 0 := by decide
      simp [zmx, sLost, this]
    rw [this]; rfl
  rw [e1]
  exact lp 1 (Nat.one_le_two_pow) (by omega)
theorem r_X0_firstBar (hP : isPar h p P) (hp : p + 5 < n) (ok : okP P) (hg : g < pH P) (ha : am < 2 ^ 31) : zRex K l 4 mX0_firstBar [.ref p, .int (nI g), .int (nI am)] n h (fun v h' => h' = h ∧ ((∃ s, 1 ≤ s ∧ s < 2 ^ pW P g ∧ sLost P g am s ≠ 0 ∧ (∀ t, t < s → sLost P g am t = 0) ∧ v = some (.int (nI s))) ∨ ((∀ t, t < 2 ^ pW P g → sLost P g am t = 0) ∧ v = some (.int (-9))))) := by
  refine zRex.of (by decide) (Nat.le_of_ble_eq_true rfl) (fun Q hQ => ?_)
  obtain ⟨h1, ⟨f, h2, hf⟩, -⟩ := id hP
  have k1 := ok.1
  have hw := ok.2.2.2.2.2.1 g hg
  have hp2 := pW_pow ok hg
  have lp : ∀ k, k ≤ 2 ^ pW P g → 1 ≤ k → (∀ t, t < k → sLost P g am t = 0) → zGo K l 4 mX0_firstBar 2 [(0, .ref p), (1, .int (nI g)), (2, .int (nI am)), (3, .int (nI k))] [] n h 0 0 Q := by
    refine z_down _ (fun k hk ih h1k hn => ?_)
    refine kX0_firstBar_2 ?_
    refine zb_go (zg_iload_n rfl) rfl ?_
    refine zb_go (zg_iconst 1 (by decide)) rfl ?_
    refine zb_go (zg_aload_n rfl) rfl ?_
    refine zb_go (zg_getfield fX0_9 (by first | assumption | decide | omega) (by repeat (first | assumption | exact z_up_self _ _ _ | refine (z_up_ne (by first | decide | omega)).trans ?_)) (by rfl)) rfl ?_
    refine zb_go (zg_iload_n rfl) rfl ?_
    refine zb_go (zi_iaload (by first | assumption | decide | omega) (by repeat (first | assumption | exact z_up_self _ _ _ | refine (z_up_ne (by first | decide | omega)).trans ?_)) (by first | assumption | exact zIx.nI (by omega) (by decide) | exact ⟨by decide, by decide⟩)) rfl ?_
    refine zb_go zg_ishl rfl ?_
    rw [hf g hg, show (1 : Int32) = nI 1 from rfl, z_shl (by omega), Nat.shiftLeft_eq, Nat.one_mul]
    refine zb_br (zg_icmp_ge (tgt := 32) (by decide)) rfl (fun c => ?_) (fun c => ?_)
    · have e : k = 2 ^ pW P g := by
        have := (nI_leI (by omega) (by omega)).mp c
        omega
      subst e
      refine kX0_firstBar_32 ?_
      refine zb_go (zg_bipush (-9) (by decide)) rfl ?_
      refine zb_end (zg_ireturn rfl (by rfl) ?_) rfl
      exact hQ _ _ ⟨rfl, Or.inr ⟨hn, rfl⟩⟩
    · have hk4 : k < 2 ^ pW P g := Nat.not_le.mp (fun q => c (nI_le q (by omega)))
      have z2 := z_lost2 (a := zpop k) (b := sAble P g am k (pR P)) (by have := zpop_le k; omega) (by have := sAble_le P g am k ok; omega)
      refine zb_go (zg_aload_n rfl) rfl ?_
      refine zb_go (zg_iload_n rfl) rfl ?_
      refine zb_go (zg_iload_n rfl) rfl ?_
      refine zb_go (zg_iload_n rfl) rfl ?_
      refine zb_calls (r_X0_lostIn (am := am) hP hp ok (by omega) ha (by omega)) lX0_15 rfl (by decide) rfl (Nat.le_of_ble_eq_true rfl) rfl ?_
      refine zb_br (zg_if_le (tgt := 26) (by decide)) rfl (fun c1 => ?_) (fun c1 => ?_)
      · have c1 := z2.mp c1
        refine kX0_firstBar_26 ?_
        refine zb_go (zg_iinc 1 (by decide) rfl (by decide)) rfl ?_
        refine zb_end (zg_goto (tgt := 2) (by decide) ?_) rfl
        rw [nI_1]
        refine ih hk4 (by omega) (fun t ht => ?_)
        rcases Nat.lt_or_ge t k with q | q
        · exact hn t q
        · rw [show t = k by omega]; exact c1
      · refine zb_go (zg_iload_n rfl) rfl ?_
        refine zb_end (zg_ireturn rfl (by rfl) ?_) rfl
        exact hQ _ _ ⟨rfl, Or.inl ⟨k, h1k, hk4, fun q => c1 (z2.mpr q), hn, rfl⟩⟩
  refine kX0_firstBar_0 ?_
  refine zb_go (zg_iconst 1 (by decide)) rfl ?_
  refine zb_go (zg_istore_n (by decide)) rfl ?_
  refine zb_out ?_
  refine lp 1 (Nat.one_le_two_pow) (by omega) (fun t ht => ?_)
  have : zpop 0 = 0 := by decide
  rw [show t = 0 by omega]
  simp [sLost, this]
/-- whether all bells of an hour can be rung by these ringers, by its bars -/
def sFull (P : zP) (g w : Nat) : Bool := zall (fun s => decide (sLost P g w s = 0)) (2 ^ pW P g)
def sOdds (P : zP) (g : Nat) : Nat → Nat := zsum (fun w => if sFull P g w then sWt P w (pR P) else 0)
theorem zprod_le {f : Nat → Nat} {m : Nat} : ∀ {k : Nat}, (∀ i, i < k → f i ≤ m) → zprod f k ≤ m ^ k
  | 0, _ => by simp [zprod]
  | k + 1, h => by
    rw [zprod, Nat.pow_succ]
    exact Nat.mul_le_mul (zprod_le (fun i hi => h i (by omega))) (h k (by omega))
theorem sWt_le (ok : okP P) (w : Nat) {k : Nat} (hk : k ≤ pR P) : sWt P w k ≤ 10 ^ k := zprod_le (fun i hi => by
  have := (ok.2.2.2.2.2.2 i (by omega)).2.2.2
  split <;> omega)
theorem r_X0_fullWeight (hP : isPar h p P) (hp : p + 5 < n) (ok : okP P) (hg : g < pH P) : zRet K l 5 mX0_fullWeight [.ref p, .int (nI g)] n h (some (.int (nI (sOdds P g (2 ^ pR P))))) h := by
  refine zRet.of (by decide) (Nat.le_of_ble_eq_true rfl) (fun Q hQ => ?_)
  obtain ⟨h1, -⟩ := id hP
  have k1 := ok.1
  have k2 := ok.2.1
  have hw := ok.2.2.2.2.2.1 g hg
  have hp2 : 2 ^ pR P ≤ 64 := Nat.pow_le_pow_right (by decide) k2
  have lp : ∀ k, k ≤ 2 ^ pR P → zGo K l 5 mX0_fullWeight 4 [(0, .ref p), (1, .int (nI g)), (2, .int (nI (sOdds P g k))), (3, .int (nI k))] [] n h 0 0 Q := by
    refine z_down _ (fun k hk ih => ?_)
    refine kX0_fullWeight_4 ?_
    refine zb_go (zg_iload_n rfl) rfl ?_
    refine zb_go (zg_iconst 1 (by decide)) rfl ?_
    refine zb_go (zg_aload_n rfl) rfl ?_
    refine zb_go (zg_getfield fX0_37 (by first | assumption | decide | omega) (by repeat (first | assumption | exact z_up_self _ _ _ | refine (z_up_ne (by first | decide | omega)).trans ?_)) (by rfl)) rfl ?_
    refine zb_go zg_ishl rfl ?_
    rw [show (1 : Int32) = nI 1 from rfl, z_shl (by omega), Nat.shiftLeft_eq, Nat.one_mul]
    refine zb_br (zg_icmp_ge (tgt := 48) (by decide)) rfl (fun c => ?_) (fun c => ?_)
    · have e : k = 2 ^ pR P := by
        have := (nI_leI (by omega) (by omega)).mp c
        omega
      subst e
      refine kX0_fullWeight_48 ?_
      refine zb_go (zg_iload_n rfl) rfl ?_
      refine zb_end (zg_ireturn rfl (by rfl) ?_) rfl
      exact hQ
    · have hk4 : k < 2 ^ pR P := Nat.not_le.mp (fun q => c (nI_le q (by omega)))
      have hwt : sWt P k (pR P) ≤ 1000000 := Nat.le_trans (sWt_le ok k (Nat.le_refl _)) (Nat.pow_le_pow_right (by decide) k2 : 10 ^ pR P ≤ 10 ^ 6)
      refine zb_go (zg_aload_n rfl) rfl ?_
      refine zb_go (zg_iload_n rfl) rfl ?_
      refine zb_callv (r_X2_weightOf hP hp ok (by omega)) lX0_41 (by repeat (first | assumption | exact z_up_self _ _ _ | refine (z_up_ne (by first | decide | omega)).trans ?_)) rfl rfl (by first | assumption | decide | omega) (by decide) rfl (Nat.le_of_ble_eq_true rfl) rfl ?_
      refine zb_go (zg_istore (by decide)) rfl ?_
      refine zb_go (zg_iload rfl) rfl ?_
      refine zb_br (zg_if_le (tgt := 42) (by decide)) rfl (fun c1 => ?_) (fun c1 => ?_)
      · have c1 := (nI_leI (b := 0) (by omega) (by omega)).mp c1
        have e : sOdds P g (k + 1) = sOdds P g k := by
          simp only [sOdds, zsum]
          split <;> omega
        refine kX0_fullWeight_42 ?_
        refine zb_go (zg_iinc 1 (by decide) rfl (by decide)) rfl ?_
        refine zb_end (zg_goto (tgt := 4) (by decide) ?_) rfl
        rw [nI_1]
        rw [← e]
        refine zg_keep [0, 1, 2, 3] ?_
        exact ih hk4
      · refine zb_go (zg_aload_n rfl) rfl ?_
        refine zb_go (zg_iload_n rfl) rfl ?_
        refine zb_go (zg_iload_n rfl) rfl ?_
        refine zb_callsx (r_X0_firstBar (am := k) hP hp ok hg (by omega)) lX0_44 rfl (by decide) rfl (Nat.le_of_ble_eq_true rfl) rfl ?_
        rintro v h' ⟨rfl, hv⟩
        rcases hv with ⟨s, hs1, hs2, hs3, -, rfl⟩ | ⟨hn, rfl⟩
        · have hp3 := pW_pow ok hg
          refine zb_go (zg_bipush (-9) (by decide)) rfl ?_
          refine zb_br (zg_icmp_ne (tgt := 42) (by decide)) rfl (fun c2 => ?_) (fun c2 => ?_)
          · have hf : sFull P g k = false := by
              cases q : sFull P g k with
              | false => rfl
              | true => exact absurd (of_decide_eq_true (zall_iff.mp q s hs2)) hs3
            have e : sOdds P g (k + 1) = sOdds P g k := by
              simp only [sOdds, zsum, hf]
              simp
            refine kX0_fullWeight_42 ?_
            refine zb_go (zg_iinc 1 (by decide) rfl (by decide)) rfl ?_
            refine zb_end (zg_goto (tgt := 4) (by decide) ?_) rfl
            rw [nI_1]
            rw [← e]
            refine zg_keep [0, 1, 2, 3] ?_
            exact ih hk4
          · exact absurd (c2 : nI s = -9) (fun q => nI_pos (n := s) (by omega) (by rw [q]; decide))
        · refine zb_go (zg_bipush (-9) (by decide)) rfl ?_
          refine zb_br (zg_icmp_ne (tgt := 42) (by decide)) rfl (fun c2 => ?_) (fun c2 => ?_)
          · exact absurd rfl c2
          · have hf : sFull P g k = true := zall_iff.mpr (fun i hi => decide_eq_true (hn i hi))
            have e : sOdds P g (k + 1) = sOdds P g k + sWt P k (pR P) := by
              simp only [sOdds, zsum, hf]
              simp
            refine zb_go (zg_iload_n rfl) rfl ?_
            refine zb_go (zg_iload rfl) rfl ?_
            refine zb_go zg_iadd rfl ?_
            refine zb_go (zg_istore_n (by decide)) rfl ?_
            refine zb_out ?_
            refine kX0_fullWeight_42 ?_
            refine zb_go (zg_iinc 1 (by decide) rfl (by decide)) rfl ?_
            refine zb_end (zg_goto (tgt := 4) (by decide) ?_) rfl
            rw [nI_1, nI_add, ← e]
            refine zg_keep [0, 1, 2, 3] ?_
            exact ih hk4
  refine kX0_fullWeight_0 ?_
  refine zb_go (zg_iconst 0 (by decide)) rfl ?_
  refine zb_go (zg_istore_n (by decide)) rfl ?_
  refine zb_go (zg_iconst 0 (by decide)) rfl ?_
  refine zb_go (zg_istore_n (by decide)) rfl ?_
  refine zb_out ?_
  exact lp 0 (Nat.zero_le _)
theorem z_remN {a b : Nat} (ha : a < 2 ^ 31) (h0 : 0 < b) (hb : b < 2 ^ 31) : nI a - nI a / nI b * nI b = nI (a % b) := pk_rem ha h0 hb
theorem z_half {a b : Nat} (hb : 0 < b) (hab : b ≤ a) : 2 * (a % b) < a := by
  have h1 := Nat.mod_lt a hb
  have h2 := Nat.div_add_mod a b
  have h3 : 1 ≤ a / b := (Nat.one_le_div_iff hb).mpr hab
  have h4 : b * 1 ≤ b * (a / b) := Nat.mul_le_mul_left b h3
  omega
theorem r_X5_commonDivisor {a b : Nat} (ha : a ≤ 100000000) (hb : 0 < b) (hb2 : b ≤ 100000000) : zRet K l 0 mX5_commonDivisor [.int (nI a), .int (nI b)] n h (some (.int (nI (Nat.gcd a b)))) h := by
  refine zRet.of (by decide) (Nat.le_of_ble_eq_true rfl) (fun Q hQ => ?_)
  have lp : ∀ k, k ≤ 64 → ∀ u v, u ≤ 100000000 → v ≤ 100000000 → 0 < u + v → Nat.gcd u v = Nat.gcd a b → (k = 0 ∨ (v ≤ u ∧ u * v * 2 ^ (k - 1) ≤ 100000000 * 100000000)) → zGo K l 0 mX5_commonDivisor 7 [(0, .int (nI a)), (1, .int (nI b)), (2, .int (nI u)), (3, .int (nI v)), (4, .int (nI k))] [] n h 0 0 Q := by
    refine z_down 64 (fun k hk ih u v hu hv huv hg hinv => ?_)
    have fin : v = 0 → zGo K l 0 mX5_commonDivisor 34 [(0, .int (nI a)), (1, .int (nI b)), (2, .int (nI u)), (3, .int (nI v)), (4, .int (nI k))] [] n h 0 0 Q := by
      intro hv0
      rw [hv0, Nat.gcd_zero_right] at hg
      rw [← hg] at hQ
      refine kX5_commonDivisor_34 ?_
      refine zb_go (zg_iload_n rfl) rfl ?_
      refine zb_end (zg_ireturn rfl (by rfl) ?_) rfl
      exact hQ
    refine kX5_commonDivisor_7 ?_
    refine zb_go (zg_iload rfl) rfl ?_
    refine zb_go (zg_bipush 64 (by decide)) rfl ?_
    refine zb_br (zg_icmp_ge (tgt := 34) (by decide)) rfl (fun c => ?_) (fun c => ?_)
    · have e : k = 64 := by
        have := (nI_leI (a := 64) (b := k) (by decide) (by omega)).mp c
        omega
      subst e
      refine fin ?_
      rcases hinv with q | ⟨q1, q2⟩
      · omega
      · rcases Nat.eq_zero_or_pos v with z | z
        · exact z
        · exfalso
          have : 1 * 1 ≤ u * v := Nat.mul_le_mul (by omega) z
          have h3 : 1 * 2 ^ 63 ≤ u * v * 2 ^ 63 := Nat.mul_le_mul_right _ (by omega)
          have h4 : u * v * 2 ^ 63 ≤ 100000000 * 100000000 := q2
          omega
    · have hk4 : k < 64 := Nat.not_le.mp (fun q => c (nI_le q (by omega)))
      refine zb_go (zg_iload_n rfl) rfl ?_
      refine zb_br (zg_if_eq (tgt := 34) (by decide)) rfl (fun c1 => ?_) (fun c1 => ?_)
      · exact fin ((nI_eq (b := 0) (by omega) (by omega)).mp c1)
      · have c1 : ¬ v = 0 := fun q => c1 (by rw [q]; rfl)
        refine zb_go (zg_iload_n rfl) rfl ?_
        refine zb_go (zg_iload_n rfl) rfl ?_
        refine zb_go (zg_irem (nI_ne0 (by omega) (by omega))) rfl ?_
        refine zb_go (zg_istore (by decide)) rfl ?_
        refine zb_go (zg_iload_n rfl) rfl ?_
        refine zb_go (zg_istore_n (by decide)) rfl ?_
        refine zb_go (zg_iload rfl) rfl ?_
        refine zb_go (zg_istore_n (by decide)) rfl ?_
        refine zb_go (zg_iinc 1 (by decide) rfl (by decide)) rfl ?_
        refine zb_end (zg_goto (tgt := 7) (by decide) ?_) rfl
        rw [z_remN (by omega) (by omega) (by omega), nI_1]
        refine zg_keep [0, 1, 2, 3, 4] ?_
        have h5 := Nat.mod_lt u (show 0 < v by omega)
        refine ih hk4 v (u % v) hv (by omega) (by omega) (by rw [Nat.gcd_comm, ← Nat.gcd_rec, Nat.gcd_comm]; exact hg) (Or.inr ⟨by omega, ?_⟩)
        rcases hinv with q | ⟨q1, q2⟩
        · subst q
          show v * (u % v) * 1 ≤ _
          rw [Nat.mul_one]
          exact Nat.mul_le_mul hv (by omega)
        · rw [Nat.add_sub_cancel]
          rcases Nat.eq_zero_or_pos k with z | z
          · subst z
            show v * (u % v) * 1 ≤ _
            rw [Nat.mul_one]
            exact Nat.mul_le_mul hv (by omega)
          · have h6 := z_half (show 0 < v by omega) q1
            have h7 : 2 ^ k = 2 * 2 ^ (k - 1) := by rw [← Nat.pow_succ']; congr 1; omega
            rw [h7]
            refine Nat.le_trans ?_ q2
            have h8 : v * (2 * (u % v)) ≤ v * u := Nat.mul_le_mul_left v (by omega)
            calc v * (u % v) * (2 * 2 ^ (k - 1)) = v * (2 * (u % v)) * 2 ^ (k - 1) := by
                  rw [← Nat.mul_assoc, Nat.mul_assoc v (u % v) 2, Nat.mul_comm (u % v) 2]
              _ ≤ v * u * 2 ^ (k - 1) := Nat.mul_le_mul_right _ h8
              _ = u * v * 2 ^ (k - 1) := by rw [Nat.mul_comm v u]
  refine kX5_commonDivisor_0 ?_
  refine zb_go (zg_iload_n rfl) rfl ?_
  refine zb_go (zg_istore_n (by decide)) rfl ?_
  refine zb_go (zg_iload_n rfl) rfl ?_
  refine zb_go (zg_istore_n (by decide)) rfl ?_
  refine zb_go (zg_iconst 0 (by decide)) rfl ?_
  refine zb_go (zg_istore (by decide)) rfl ?_
  refine zb_out ?_
  exact lp 0 (by omega) a b ha hb2 (by omega) rfl (Or.inl rfl)
end
end
section
/-! WHAT A STATE IS: the parish, NOW (who rings what: 0 none, else the bell and one; the tower's place; what was heard: 0 none, else the strokes and one), images, the text, the trace -/
abbrev zT : Type := (Nat → Nat → Nat) × Nat × (Nat → Nat)
abbrev zS : Type := Nat × (Nat → Int32) × zP × zT × (Nat → Bool) × (Nat → zT) × Int64
def gLen (G : zS) : Nat := G.1
def gTx (G : zS) : Nat → Int32 := G.2.1
def gP (G : zS) : zP := G.2.2.1
def gT (G : zS) : zT := G.2.2.2.1
def gK (G : zS) : Nat → Bool := G.2.2.2.2.1
def gI (G : zS) : Nat → zT := G.2.2.2.2.2.1
def gTr (G : zS) : Int64 := G.2.2.2.2.2.2
def wT (G : zS) (T : zT) : zS := (G.1, G.2.1, G.2.2.1, T, G.2.2.2.2.1, G.2.2.2.2.2.1, G.2.2.2.2.2.2)
def wTr (G : zS) (t : Int64) : zS := (G.1, G.2.1, G.2.2.1, G.2.2.2.1, G.2.2.2.2.1, G.2.2.2.2.2.1, t)
def wTx (G : zS) (n : Nat) (f : Nat → Int32) : zS := (n, f, G.2.2.1, G.2.2.2.1, G.2.2.2.2.1, G.2.2.2.2.2.1, G.2.2.2.2.2.2)
/-- how often r rings; how many turns -/
def tN (T : zT) (r : Nat) : Nat := zcnt (fun g => decide (T.1 r g ≠ 0)) 4
def tAll (T : zT) : Nat := zsum (tN T) 6
/-- who rings in an hour -/
def tIn (T : zT) (g : Nat) : Nat := zbits (fun r => decide (T.1 r g ≠ 0)) 6
/-- a rota that the document allows -/
def okT (P : zP) (T : zT) : Prop :=
  (∀ r g, r < 6 → g < 4 → T.1 r g ≠ 0 → r < pR P ∧ g < pH P ∧ T.1 r g ≤ pW P g ∧ (sBells P r g).testBit (T.1 r g - 1) = true) ∧
  (∀ r q g, r < 6 → q < 6 → g < 4 → T.1 r g ≠ 0 → T.1 r g = T.1 q g → r = q) ∧ (∀ r, r < 6 → tN T r ≤ pTi P) ∧
  (∀ r g k, r < 6 → g < 4 → k < 4 → g ≠ k → T.1 r g ≠ 0 → T.1 r k ≠ 0 → pRe P < zdist g k) ∧ T.2.1 ≤ 60 ∧ ∀ g, g < 4 → T.2.2 g ≤ 4
def okS (G : zS) : Prop := okP (gP G) ∧ okT (gP G) (gT G) ∧ (∀ i, i < 2 → gK G i = true → okT (gP G) (gI G i)) ∧ gLen G ≤ 200
/-- a choice by a proposition -/
noncomputable def zite {α : Type} (p : Prop) (a b : α) : α := @ite α p (Classical.propDecidable p) a b
theorem zite_t {α : Type} {p : Prop} {a b : α} (h : p) : zite p a b = a := @if_pos p (Classical.propDecidable p) h α a b
theorem zite_f {α : Type} {p : Prop} {a b : α} (h : ¬ p) : zite p a b = b := @if_neg p (Classical.propDecidable p) h α a b
/-! nights: a code of four sets of ringers -/
def nS (c g : Nat) : Nat := (c >>> (6 * g)) % 64
/-- the first way to seat a set's ringers from 6 - j on: a code of two bits a ringer -/
def zseat (P : zP) (g s : Nat) : Nat → Nat → Option Nat
  | 0, _ => some 0
  | j + 1, tk =>
    if s.testBit (5 - j) then
      let o := zdif (sBells P (5 - j) g) tk
      match if o.testBit 0 then zseat P g s j (tk ||| 1) else none with
      | some x => some (x + 1 * 4 ^ (5 - j))
      | none => match if o.testBit 1 then zseat P g s j (tk ||| 2) else none with
        | some x => some (x + 2 * 4 ^ (5 - j))
        | none => match if o.testBit 2 then zseat P g s j (tk ||| 4) else none with
          | some x => some (x + 3 * 4 ^ (5 - j))
          | none => none
    else zseat P g s j tk
/-- the row of a crew: none, where it can't ring -/
def zrow (P : zP) (g s : Nat) : Option Nat := if g < pH P then (if zpop s ≤ pW P g then zseat P g s 6 0 else none) else (if s = 0 then some 0 else none)
def nLaw (P : zP) (wo ti c : Nat) : Bool :=
  zall (fun g => (zrow P g (nS c g)).isSome && decide (nS c g &&& wo = 0)) 4 && zall (fun g => zall (fun k => decide (pRe P < g - k) || decide (nS c g &&& nS c k = 0)) g) 4 && zall (fun r => decide (zcnt (fun g => (nS c g).testBit r) 4 ≤ ti)) 6
def nRung (c : Nat) : Nat := zsum (fun g => zpop (nS c g)) 4
def pWalk (P : zP) (tw s : Nat) : Nat := zsum (fun r => if s.testBit r then 2 * zdist (pHo P r) tw else 0) (pR P)
def nWalk (P : zP) (tw c : Nat) : Nat := zsum (fun g => pWalk P tw (nS c g)) 4
/-- a row's code, as it stands in a price -/
def zspread (g x : Nat) : Nat := zsum (fun r => x / 4 ^ r % 4 * 4 ^ (23 - (4 * r + g))) 6
def nCode (P : zP) (c : Nat) : Nat := zsum (fun g => zspread g ((zrow P g (nS c g)).getD 0)) 4
def pAll (P : zP) : Nat := zsum (pW P) (pH P)
def nKey (P : zP) (tw c : Nat) : Nat := (pAll P - nRung c) * 2 ^ 59 + nWalk P tw c * 2 ^ 48 + nCode P c
def zmn (p : Nat → Bool) (f : Nat → Nat) : Nat → Nat
  | 0 => 2 ^ 63 - 1
  | k + 1 => if p k then min (zmn p f k) (f k) else zmn p f k
def nMost (P : zP) (wo : Nat) : Nat := zmx (fun c => if nLaw P wo (pTi P) c then nRung c else 0) (2 ^ 24)
def nBest (P : zP) (tw : Nat) : Nat := zmn (nLaw P 0 (pTi P)) (nKey P tw) (2 ^ 24)
def nOr (c : Nat) : Nat := zor (nS c) 4
def nTop (c : Nat) : Nat := zmx (fun r => zcnt (fun g => (nS c g).testBit r) 4) 6
def nTopLaw (P : zP) (c : Nat) : Bool := nLaw P 0 (pTi P) c && decide (nRung c = nMost P 0)
def nFew (P : zP) : Nat := zmn (nTopLaw P) (fun c => zpop (nOr c)) (2 ^ 24)
def nEven (P : zP) : Nat := zmn (nTopLaw P) nTop (2 ^ 24)
def nNeed (P : zP) : Nat := zbits (fun r => decide (nMost P (1 <<< r) < nMost P 0)) (pR P)
/-! the class's cells -/
def rB (B : Nat → Int32) (T : zT) : Prop := ∀ r g, r < 6 → g < 4 → B (4 * r + g) = if T.1 r g = 0 then -9 else nI (T.1 r g - 1)
def rS (S : Nat → Int32) (T : zT) : Prop := ∀ g, g < 4 → S g = if T.2.2 g = 0 then -9 else nI (T.2.2 g - 1)
def cRota (h : zH) (a : Nat) (T : zT) : Prop := ∃ S B, isRota h a (nI (tAll T)) (nI T.2.1) S B ∧ rB B T ∧ rS S T
abbrev zN : Type := Int32 × Int32 × Int32 × Int32 × Int64 × Int32 × Int32 × Int32 × (Nat → Int32) × (Nat → Int32) × (Nat → Int64) × (Nat → Int64) × Int32 × Int32 × Int64 × Int64 × (Nat → Int32)
def isNights (h : zH) (N : zN) : Prop := match N with
  | (se, ri, ti, re, ch, fe, ev, mi, sets, sin, pr, lw, am, tn, co, fo, pi) =>
    h 22 = .inr (0, [.int se, .int ri, .int ti, .int re, .long ch, .int fe, .int ev, .int mi, .ref 23, .ref 24, .ref 25, .ref 26, .int am, .int tn, .long co, .long fo, .ref 27]) ∧
    h 23 = .inl (0, 256, .inl sets) ∧ h 24 = .inl (0, 4, .inl sin) ∧ h 25 = .inl (2, 256, .inr (.inl pr)) ∧ h 26 = .inl (2, 256, .inr (.inl lw)) ∧ h 27 = .inl (0, 4, .inl pi)
/-- a set's price: none, where it can't ring -/
def nPrice (P : zP) (tw g s : Nat) : Option Nat := (zrow P g s).map (fun x => ((if g < pH P then pW P g else 0) - zpop s) * 2 ^ 59 + pWalk P tw s * 2 ^ 48 + zspread g x)
/-- what the prices of all sets are, when they are settled; what is known of the rest -/
def nSet (P : zP) (tw : Nat) (N : zN) : Prop := match N with
  | (_, ri, ti, re, _, _, _, _, sets, sin, pr, lw, _) =>
    ri = nI (pR P) ∧ ti = nI (pTi P) ∧ re = nI (pRe P) ∧
    ∀ g, g < 4 → ∃ L : List Nat, sin g = nI L.length ∧ L.length ≤ 64 ∧ (∀ i, i < L.length → sets (64 * g + i) = nI (L.getD i 0)) ∧ (∀ s, s ∈ L ↔ s < 64 ∧ (nPrice P tw g s).isSome = true) ∧
      (∀ i j, i ≤ j → j < L.length → (nPrice P tw g (L.getD i 0)).getD 0 ≤ (nPrice P tw g (L.getD j 0)).getD 0) ∧
      (∀ s, s < 64 → pr (64 * g + s) = lN ((nPrice P tw g s).getD (2 ^ 63 - 1))) ∧
      ∀ s, s < 64 → lw (64 * g + s) = lN (zmn (fun t => decide (t &&& s = t)) (fun t => (nPrice P tw g t).getD (2 ^ 63 - 1)) 64)
def nOK (P : zP) (tw : Nat) (N : zN) : Prop := match N with
  | (se, _, _, _, ch, fe, ev, mi, _) =>
    (se = 0 ∨ (se = 1 ∧ ch = lN (nBest P tw) ∧ nSet P tw N)) ∧ (fe = -1 ∨ fe = nI (nFew P)) ∧ (ev = -1 ∨ ev = nI (nEven P)) ∧ (mi = -1 ∨ mi = nI (nNeed P))
def isScript (h : zH) (ln pl fa : Int32) (tx nu to : Nat → Int32) : Prop := h 1 = .inr (3, [.int ln, .ref 2, .int pl, .int fa, .ref 3, .ref 4]) ∧ h 2 = .inl (1, 200, .inl tx) ∧ h 3 = .inl (0, 4, .inl nu) ∧ h 4 = .inl (3, 5, .inl to)
def cScript (h : zH) (G : zS) : Prop := ∃ pl fa tx nu to, isScript h (nI (gLen G)) pl fa tx nu to ∧ ∀ i, i < gLen G → tx i = gTx G i
def cImg (h : zH) (G : zS) (i a : Nat) : Prop := (∃ tu tw S B, isRota h a tu tw S B) ∧ (gK G i = true → cRota h a (gI G i))
def cAt (h : zH) (p q : Nat) (tr : Int64) : Prop := h 0 = .inr (4, [.ref 1, .ref p, .ref q, .ref 17, .ref 20, .ref 21, .ref 22, .long tr])
def cRel (h : zH) (G : zS) : Prop := ∃ p q P' N kf, ((p = 5 ∧ q = 11) ∨ (p = 11 ∧ q = 5)) ∧ cAt h p q (gTr G) ∧ cScript h G ∧ isPar h p (gP G) ∧ isPar h q P' ∧ cRota h 17 (gT G) ∧
  (∃ fi, h 20 = .inl (4, 2, .inr (.inr (.inr (.inr fi)))) ∧ fi 0 = some 28 ∧ fi 1 = some 31) ∧ h 21 = .inl (3, 2, .inl kf) ∧ (∀ i, i < 2 → kf i = if gK G i then 1 else 0) ∧ isNights h N ∧ nOK (gP G) (gT G).2.1 N ∧ cImg h G 0 28 ∧ cImg h G 1 31
theorem nI_ne9 {k : Nat} (hk : k < 2 ^ 31) : nI k ≠ -9 := fun z => nI_pos hk (by rw [z]; decide)
theorem okT.le {P : zP} {T : zT} (okp : okP P) (ok : okT P T) {r g : Nat} (hr : r < 6) (hg : g < 4) : T.1 r g ≤ 3 := by
  by_cases q : T.1 r g = 0
  · omega
  · obtain ⟨h1, h2, h3, -⟩ := ok.1 r g hr hg q
    have := (okp.2.2.2.2.2.1 g h2).2
    omega
theorem rB_ne {P : zP} {B : Nat → Int32} {T : zT} (okp : okP P) (ok : okT P T) (h : rB B T) {r g : Nat} (hr : r < 6) (hg : g < 4) : B (4 * r + g) ≠ -9 ↔ T.1 r g ≠ 0 := by
  rw [h r g hr hg]
  have := ok.le okp hr hg
  by_cases q : T.1 r g = 0
  · simp [q]
  · rw [if_neg q]
    exact ⟨fun _ => q, fun _ => nI_ne9 (by omega)⟩
theorem zcnt_congr {p q : Nat → Bool} {n : Nat} (h : ∀ i, i < n → p i = q i) : zcnt p n = zcnt q n := by
  induction n with
  | zero => rfl
  | succ n ih => rw [zcnt, zcnt, ih (fun i hi => h i (by omega)), h n (by omega)]
theorem zbits_congr {p q : Nat → Bool} {n : Nat} (h : ∀ i, i < n → p i = q i) : zbits p n = zbits q n := by
  induction n with
  | zero => rfl
  | succ n ih => rw [zbits, zbits, ih (fun i hi => h i (by omega)), h n (by omega)]
theorem zsum_congr {p q : Nat → Nat} {n : Nat} (h : ∀ i, i < n → p i = q i) : zsum p n = zsum q n := by
  induction n with
  | zero => rfl
  | succ n ih => rw [zsum, zsum, ih (fun i hi => h i (by omega)), h n (by omega)]
theorem zor_congr {p q : Nat → Nat} {n : Nat} (h : ∀ i, i < n → p i = q i) : zor p n = zor q n := by
  induction n with
  | zero => rfl
  | succ n ih => rw [zor, zor, ih (fun i hi => h i (by omega)), h n (by omega)]
theorem rT_eq {P : zP} {B : Nat → Int32} {T : zT} (okp : okP P) (ok : okT P T) (h : rB B T) {r : Nat} (hr : r < 6) : rT B r 4 = tN T r :=
  zcnt_congr (fun g hg => decide_eq_decide.mpr (rB_ne okp ok h hr hg))
theorem rIn_eq {P : zP} {B : Nat → Int32} {T : zT} (okp : okP P) (ok : okT P T) (h : rB B T) {g : Nat} (hg : g < 4) : rIn B g 6 = tIn T g :=
  zbits_congr (fun r hr => decide_eq_decide.mpr (rB_ne okp ok h hr hg))
def tWalk (P : zP) (T : zT) (w : Nat) : Nat := zsum (fun r => tN T r * 2 * zdist (pHo P r) w) (pR P)
theorem rWalk_eq {P : zP} {B : Nat → Int32} {T : zT} (okp : okP P) (ok : okT P T) (h : rB B T) (w : Nat) : rWalk P B w (pR P) = tWalk P T w :=
  zsum_congr (fun r hr => by
    have := okp.2.1
    simp only [rT_eq okp ok h (show r < 6 by omega)])
def tOr (T : zT) : Nat := zor (tIn T) 4
theorem tIn_lt (T : zT) (g : Nat) : tIn T g < 64 := zbits_lt _ _
theorem tOr_lt (T : zT) : tOr T < 64 := zor_lt (m := 6) 4 (fun j => tIn_lt T j)
theorem tN_le (T : zT) (r : Nat) : tN T r ≤ 4 := zcnt_le _ _
theorem tAll_le (T : zT) : tAll T ≤ 24 := zsum_le (m := 4) (fun i _ => tN_le T i)
/-- 0 .. N, or beyond -/
theorem z_swi (x : Int32) (N : Nat) (hN : N < 2 ^ 31) : (∃ k, k ≤ N ∧ x = nI k) ∨ (x.toInt < 0 ∨ (N : Int) < x.toInt) := by
  by_cases h1 : x < 0
  · exact Or.inr (Or.inl (by simpa using Int32.lt_iff_toInt_lt.mp h1))
  · obtain ⟨j, hj, rfl⟩ := nI_of h1
    rcases Nat.lt_or_ge N j with q | q
    · exact Or.inr (Or.inr (by rw [nI_toInt hj]; omega))
    · exact Or.inl ⟨j, q, rfl⟩
end
section
/-! THE CLASS: what its calls answer (1) -/
def sRinger (G : zS) (x w : Int32) : Int32 :=
  if 0 ≤ x ∧ x < nI (pR (gP G)) then (if w = 0 then nI (pHo (gP G) x.toNatClampNeg) else if w = 1 then nI (pBe (gP G) x.toNatClampNeg) else if w = 2 then nI (pBu (gP G) x.toNatClampNeg) else if w = 3 then nI (pIl (gP G) x.toNatClampNeg) else if w = 4 then nI (tN (gT G) x.toNatClampNeg) else -1) else -1
def heardI (T : zT) (g : Nat) : Int32 := if T.2.2 g = 0 then -9 else nI (T.2.2 g - 1)
def sHour (G : zS) (x w : Int32) : Int32 :=
  if 0 ≤ x ∧ x < nI (pH (gP G)) then (if w = 0 then nI (pW (gP G) x.toNatClampNeg) else if w = 1 then nI (pW (gP G) x.toNatClampNeg) - nI (zpop (tIn (gT G) x.toNatClampNeg)) else if w = 2 then heardI (gT G) x.toNatClampNeg else -1) else -1
theorem z_out {x : Int32} {N k : Nat} (h : x.toInt < 0 ∨ (N : Int) < x.toInt) (hk : k ≤ N) (hN : N < 2 ^ 31) : x ≠ nI k := by
  rintro rfl
  rw [nI_toInt (by omega)] at h
  omega
section
variable {K : zK} {l : Launch} {n p q r g : Nat} {h : zH} {x y z : Int32} {G : zS}
theorem r_X5_ringer (hC : cRel h G) (ok : okS G) : zRet K l 4 mX5_ringer [.ref 0, .int x, .int y] 59 h (some (.int (sRinger G x y))) h := by
  refine zRet.of (by decide) (Nat.le_of_ble_eq_true rfl) (fun Q hQ => ?_)
  obtain ⟨p, q, P', N, kf, hpq, hat, hsc, hp, hq, ⟨S, B, hR, hB, hS⟩, -⟩ := hC
  have okp := ok.1
  have hpn : p + 5 < 59 := by omega
  have hat' : h 0 = _ := hat
  unfold sRinger at hQ
  have h17 := hR.1
  obtain ⟨p1, ⟨f1, p2, e2⟩, ⟨f2, p3, e3⟩, ⟨f3, p4, e4⟩, ⟨f4, p5, e5⟩, ⟨f5, p6, e6⟩⟩ := id hp
  have k2 := okp.2.1
  refine kX5_ringer_0 ?_
  refine zb_go (zg_aload_n rfl) rfl ?_
  refine zb_go (zg_getfield fX5_19 (by first | assumption | decide | omega) (by repeat (first | assumption | exact z_up_self _ _ _ | refine (z_up_ne (by first | decide | omega)).trans ?_)) (by rfl)) rfl ?_
  refine zb_go (zg_iload_n rfl) rfl ?_
  refine zb_callv (r_X2_hasRinger hp hpn) lX5_76 (by repeat (first | assumption | exact z_up_self _ _ _ | refine (z_up_ne (by first | decide | omega)).trans ?_)) rfl rfl (by first | assumption | decide | omega) (by decide) rfl (Nat.le_of_ble_eq_true rfl) rfl ?_
  refine zb_br (zg_if_ne (tgt := 13) (by decide)) rfl (fun c => ?_) (fun c => ?_)
  · have c := zb_n.mp c
    rw [if_pos c] at hQ
    obtain ⟨r, hr, rfl⟩ := z_isIx (by omega) c
    rw [nI_clamp (by omega)] at hQ
    refine kX5_ringer_13 ?_
    refine zb_go (zg_iload_n rfl) rfl ?_
    rcases z_swi y 4 (by decide) with ⟨k, hk, rfl⟩ | ho
    · rcases (show k = 0 ∨ k = 1 ∨ k = 2 ∨ k = 3 ∨ k = 4 by omega) with rfl | rfl | rfl | rfl | rfl
      · rw [if_pos (by decide)] at hQ
        refine zb_end (len := 34) (zg_tableIn 34 48 (by decide) (by decide) (by rfl) (by decide) ?_) rfl
        refine kX5_ringer_48 ?_
        refine zb_go (zg_aload_n rfl) rfl ?_
        refine zb_go (zg_getfield fX5_19 (by first | assumption | decide | omega) (by repeat (first | assumption | exact z_up_self _ _ _ | refine (z_up_ne (by first | decide | omega)).trans ?_)) (by rfl)) rfl ?_
        refine zb_go (zg_getfield fX5_80 (by first | assumption | decide | omega) (by repeat (first | assumption | exact z_up_self _ _ _ | refine (z_up_ne (by first | decide | omega)).trans ?_)) (by rfl)) rfl ?_
        refine zb_go (zg_iload_n rfl) rfl ?_
        refine zb_go (zi_iaload (by first | assumption | decide | omega) (by repeat (first | assumption | exact z_up_self _ _ _ | refine (z_up_ne (by first | decide | omega)).trans ?_)) (by first | assumption | exact zIx.nI (by omega) (by decide) | exact ⟨by decide, by decide⟩)) rfl ?_
        refine zb_end (zg_ireturn rfl (by rfl) ?_) rfl
        rw [e3 r hr]; exact hQ
      · rw [if_neg (by decide), if_pos (by decide)] at hQ
        refine zb_end (len := 34) (zg_tableIn 44 58 (by decide) (by decide) (by rfl) (by decide) ?_) rfl
        refine kX5_ringer_58 ?_
        refine zb_go (zg_aload_n rfl) rfl ?_
        refine zb_go (zg_getfield fX5_19 (by first | assumption | decide | omega) (by repeat (first | assumption | exact z_up_self _ _ _ | refine (z_up_ne (by first | decide | omega)).trans ?_)) (by rfl)) rfl ?_
        refine zb_go (zg_getfield fX5_84 (by first | assumption | decide | omega) (by repeat (first | assumption | exact z_up_self _ _ _ | refine (z_up_ne (by first | decide | omega)).trans ?_)) (by rfl)) rfl ?_
        refine zb_go (zg_iload_n rfl) rfl ?_
        refine zb_go (zi_iaload (by first | assumption | decide | omega) (by repeat (first | assumption | exact z_up_self _ _ _ | refine (z_up_ne (by first | decide | omega)).trans ?_)) (by first | assumption | exact zIx.nI (by omega) (by decide) | exact ⟨by decide, by decide⟩)) rfl ?_
        refine zb_end (zg_ireturn rfl (by rfl) ?_) rfl
        rw [e4 r hr]; exact hQ
      · rw [if_neg (by decide), if_neg (by decide), if_pos (by decide)] at hQ
        refine zb_end (len := 34) (zg_tableIn 54 68 (by decide) (by decide) (by rfl) (by decide) ?_) rfl
        refine kX5_ringer_68 ?_
        refine zb_go (zg_aload_n rfl) rfl ?_
        refine zb_go (zg_getfield fX5_19 (by first | assumption | decide | omega) (by repeat (first | assumption | exact z_up_self _ _ _ | refine (z_up_ne (by first | decide | omega)).trans ?_)) (by rfl)) rfl ?_
        refine zb_go (zg_getfield fX5_87 (by first | assumption | decide | omega) (by repeat (first | assumption | exact z_up_self _ _ _ | refine (z_up_ne (by first | decide | omega)).trans ?_)) (by rfl)) rfl ?_
        refine zb_go (zg_iload_n rfl) rfl ?_
        refine zb_go (zi_iaload (by first | assumption | decide | omega) (by repeat (first | assumption | exact z_up_self _ _ _ | refine (z_up_ne (by first | decide | omega)).trans ?_)) (by first | assumption | exact zIx.nI (by omega) (by decide) | exact ⟨by decide, by decide⟩)) rfl ?_
        refine zb_end (zg_ireturn rfl (by rfl) ?_) rfl
        rw [e5 r hr]; exact hQ
      · rw [if_neg (by decide), if_neg (by decide), if_neg (by decide), if_pos (by decide)] at hQ
        refine zb_end (len := 34) (zg_tableIn 64 78 (by decide) (by decide) (by rfl) (by decide) ?_) rfl
        refine kX5_ringer_78 ?_
        refine zb_go (zg_aload_n rfl) rfl ?_
        refine zb_go (zg_getfield fX5_19 (by first | assumption | decide | omega) (by repeat (first | assumption | exact z_up_self _ _ _ | refine (z_up_ne (by first | decide | omega)).trans ?_)) (by rfl)) rfl ?_
        refine zb_go (zg_getfield fX5_90 (by first | assumption | decide | omega) (by repeat (first | assumption | exact z_up_self _ _ _ | refine (z_up_ne (by first | decide | omega)).trans ?_)) (by rfl)) rfl ?_
        refine zb_go (zg_iload_n rfl) rfl ?_
        refine zb_go (zi_iaload (by first | assumption | decide | omega) (by repeat (first | assumption | exact z_up_self _ _ _ | refine (z_up_ne (by first | decide | omega)).trans ?_)) (by first | assumption | exact zIx.nI (by omega) (by decide) | exact ⟨by decide, by decide⟩)) rfl ?_
        refine zb_end (zg_ireturn rfl (by rfl) ?_) rfl
        rw [e6 r hr]; exact hQ
      · rw [if_neg (by decide), if_neg (by decide), if_neg (by decide), if_neg (by decide), if_pos (by decide)] at hQ
        rw [← rT_eq okp ok.2.1 hB (by omega)] at hQ
        refine zb_end (len := 34) (zg_tableIn 74 88 (by decide) (by decide) (by rfl) (by decide) ?_) rfl
        refine kX5_ringer_88 ?_
        refine zb_go (zg_aload_n rfl) rfl ?_
        refine zb_go (zg_getfield fX5_29 (by first | assumption | decide | omega) (by repeat (first | assumption | exact z_up_self _ _ _ | refine (z_up_ne (by first | decide | omega)).trans ?_)) (by rfl)) rfl ?_
        refine zb_go (zg_iload_n rfl) rfl ?_
        refine zb_callv (r_X3_timesOf hR (by decide) (by omega)) lX5_93 (by repeat (first | assumption | exact z_up_self _ _ _ | refine (z_up_ne (by first | decide | omega)).trans ?_)) rfl rfl (by first | assumption | decide | omega) (by decide) rfl (Nat.le_of_ble_eq_true rfl) rfl ?_
        refine zb_end (zg_ireturn rfl (by rfl) ?_) rfl
        exact hQ
    · rw [if_neg (show ¬ y = 0 from z_out (k := 0) ho (by decide) (by decide)), if_neg (show ¬ y = 1 from z_out (k := 1) ho (by decide) (by decide)), if_neg (show ¬ y = 2 from z_out (k := 2) ho (by decide) (by decide)), if_neg (show ¬ y = 3 from z_out (k := 3) ho (by decide) (by decide)), if_neg (show ¬ y = 4 from z_out (k := 4) ho (by decide) (by decide))] at hQ
      refine zb_end (len := 34) (zg_tableOut 97 ho (by decide) ?_) rfl
      refine kX5_ringer_97 ?_
      refine zb_go (zg_iconst (-1) (by decide)) rfl ?_
      refine zb_end (zg_ireturn rfl (by rfl) ?_) rfl
      exact hQ
  · rw [if_neg (zb_0.mp c)] at hQ
    refine zb_go (zg_iconst (-1) (by decide)) rfl ?_
    refine zb_end (zg_ireturn rfl (by rfl) ?_) rfl
    exact hQ
end
end
section
/-! THE CLASS (2): the rota's calls -/
theorem isNights.same {lo hi : Nat} {h h1 : zH} {N : zN} (hN : isNights h N) (s : zSame lo hi h h1) (hp : 27 < lo ∨ hi < 22) : isNights h1 N := by
  obtain ⟨a1, a2, a3, a4, a5, a6⟩ := hN
  exact ⟨(s _ (by omega)).trans a1, (s _ (by omega)).trans a2, (s _ (by omega)).trans a3, (s _ (by omega)).trans a4, (s _ (by omega)).trans a5, (s _ (by omega)).trans a6⟩
theorem cScript.same {lo hi : Nat} {h h1 : zH} {G : zS} (hN : cScript h G) (s : zSame lo hi h h1) (hp : 4 < lo ∨ hi < 1) : cScript h1 G := by
  obtain ⟨pl, fa, tx, nu, to, ⟨a1, a2, a3, a4⟩, e⟩ := hN
  exact ⟨pl, fa, tx, nu, to, ⟨(s _ (by omega)).trans a1, (s _ (by omega)).trans a2, (s _ (by omega)).trans a3, (s _ (by omega)).trans a4⟩, e⟩
theorem cRota.same {lo hi : Nat} {h h1 : zH} {a : Nat} {T : zT} (hN : cRota h a T) (s : zSame lo hi h h1) (hp : a + 2 < lo ∨ hi < a) : cRota h1 a T := by
  obtain ⟨S, B, h1, h2⟩ := hN
  exact ⟨S, B, h1.same s hp, h2⟩
theorem cImg.same {lo hi : Nat} {h h1 : zH} {G : zS} {i a : Nat} (hN : cImg h G i a) (s : zSame lo hi h h1) (hp : a + 2 < lo ∨ hi < a) : cImg h1 G i a := by
  obtain ⟨⟨tu, tw, S, B, h2⟩, h3⟩ := hN
  exact ⟨⟨tu, tw, S, B, h2.same s hp⟩, fun q => (h3 q).same s hp⟩
theorem cRel.rota {h h1 : zH} {G : zS} {T : zT} (hC : cRel h G) (s : zSame 17 19 h h1) (hR : cRota h1 17 T) (ht : T.2.1 = (gT G).2.1) : cRel h1 (wT G T) := by
  obtain ⟨p, q, P', N, kf, hpq, hat, hsc, hp, hq, hR0, ⟨fi, hfi, hfi2⟩, hkf, hk2, hN, hNo, hi0, hi1⟩ := hC
  exact ⟨p, q, P', N, kf, hpq, (s 0 (by omega)).trans hat, hsc.same s (by omega), hp.same s (by omega), hq.same s (by omega), hR, ⟨fi, (s 20 (by omega)).trans hfi, hfi2⟩, (s 21 (by omega)).trans hkf, hk2, hN.same s (by omega), by rw [show (gT (wT G T)).2.1 = (gT G).2.1 from ht]; exact hNo, hi0.same s (by omega), hi1.same s (by omega)⟩
theorem zsum_upd {f f' : Nat → Nat} {n r : Nat} (hr : r < n) (h : ∀ i, i ≠ r → f' i = f i) (h1 : f' r = f r + 1) : zsum f' n = zsum f n + 1 := by
  induction n with
  | zero => omega
  | succ n ih =>
    simp only [zsum]
    by_cases q : r = n
    · subst q
      rw [zsum_congr (q := f) (fun i hi => h i (by omega)), h1]; omega
    · rw [ih (by omega), h n (by omega)]; omega
theorem zcnt_upd {f f' : Nat → Bool} {n r : Nat} (hr : r < n) (h : ∀ i, i ≠ r → f' i = f i) (h0 : f r = false) (h1 : f' r = true) : zcnt f' n = zcnt f n + 1 := by
  induction n with
  | zero => omega
  | succ n ih =>
    simp only [zcnt]
    by_cases q : r = n
    · subst q
      rw [zcnt_congr (q := f) (fun i hi => h i (by omega)), h0, h1]; simp
    · rw [ih (by omega), h n (by omega)]; omega
def tSet (T : zT) (r g v : Nat) : zT := (fun a b => if a = r ∧ b = g then v else T.1 a b, T.2.1, T.2.2)
theorem tSet_at (T : zT) (r g v : Nat) : (tSet T r g v).1 r g = v := if_pos ⟨rfl, rfl⟩
theorem tSet_ne {T : zT} {r g v a b : Nat} (h : ¬ (a = r ∧ b = g)) : (tSet T r g v).1 a b = T.1 a b := if_neg h
theorem tN_ne {T : zT} {r g v a : Nat} (h : a ≠ r) : tN (tSet T r g v) a = tN T a := zcnt_congr (fun b _ => by rw [tSet_ne (fun q => h q.1)])
theorem tN_put {T : zT} {r g v : Nat} (hg : g < 4) (h0 : T.1 r g = 0) (hv : v ≠ 0) : tN (tSet T r g v) r = tN T r + 1 :=
  zcnt_upd hg (fun i hi => by rw [tSet_ne (fun q => hi q.2)]) (by simp [h0]) (by rw [tSet_at]; simp [hv])
theorem tAll_put {T : zT} {r g v : Nat} (hr : r < 6) (hg : g < 4) (h0 : T.1 r g = 0) (hv : v ≠ 0) : tAll (tSet T r g v) = tAll T + 1 :=
  zsum_upd hr (fun _ hi => tN_ne hi) (tN_put hg h0 hv)
theorem tSet_back {T : zT} {r g v : Nat} (h : T.1 r g = v) : tSet (tSet T r g 0) r g v = T := by
  unfold tSet
  have : (fun a b => if a = r ∧ b = g then v else if a = r ∧ b = g then 0 else T.1 a b) = T.1 := by
    funext a b
    by_cases q : a = r ∧ b = g
    · rw [if_pos q, q.1, q.2, h]
    · rw [if_neg q, if_neg q]
  simp only [this]
theorem tAll_take {T : zT} {r g : Nat} (hr : r < 6) (hg : g < 4) (h0 : T.1 r g ≠ 0) : tAll T = tAll (tSet T r g 0) + 1 := by
  have h := tAll_put (T := tSet T r g 0) hr hg (tSet_at T r g 0) h0
  rw [tSet_back rfl] at h
  exact h
theorem rB_set {B : Nat → Int32} {T : zT} {r g v : Nat} {x : Int32} (h : rB B T) (hr : r < 6) (hg : g < 4) (hx : x = if v = 0 then -9 else nI (v - 1)) : rB (upd B (4 * r + g) x) (tSet T r g v) := by
  intro a b ha hb
  by_cases q : a = r ∧ b = g
  · rw [q.1, q.2, pk_us, tSet_at]; exact hx
  · rw [pk_un (by omega), tSet_ne q]; exact h a b ha hb
/-- whether one can be put there -/
def canPut (P : zP) (T : zT) (r g b : Nat) : Prop := (sBells P r g).testBit b = true ∧ (∀ q, q < 6 → T.1 q g ≠ b + 1) ∧ tN T r < pTi P ∧ ∀ q, q < 4 → T.1 r q ≠ 0 → pRe P < zdist g q
theorem zdist_comm (a b : Nat) : zdist a b = zdist b a := by unfold zdist; split <;> split <;> omega
theorem tN_le_of {T : zT} {r g v : Nat} (hg : g < 4) : tN (tSet T r g v) r ≤ tN T r + 1 := by
  by_cases h0 : T.1 r g = 0
  · by_cases hv : v = 0
    · rw [hv, ← h0]
      have e : tN (tSet T r g (T.1 r g)) r = tN T r := zcnt_congr (fun b _ => by
        by_cases q : b = g
        · rw [q, tSet_at]
        · rw [tSet_ne (fun z => q z.2)])
      omega
    · rw [tN_put hg h0 hv]; omega
  · by_cases hv : v = 0
    · have h := tN_put (T := tSet T r g 0) hg (tSet_at T r g 0) h0
      rw [tSet_back rfl] at h
      rw [hv]; omega
    · have e : tN (tSet T r g v) r = tN T r := zcnt_congr (fun b _ => by
        by_cases q : b = g
        · rw [q, tSet_at]; simp [h0, hv]
        · rw [tSet_ne (fun z => q z.2)])
      omega
theorem okT.put {P : zP} {T : zT} {r g b : Nat} (ok : okT P T) (hr : r < pR P) (hg : g < pH P) (hb : b < pW P g) (hr6 : r < 6) (hg4 : g < 4) (h : canPut P T r g b) : okT P (tSet T r g (b + 1)) := by
  obtain ⟨o1, o2, o3, o4, o5, o6⟩ := ok
  obtain ⟨c1, c2, c3, c4⟩ := h
  refine ⟨fun a k ha hk h0 => ?_, fun a e k ha he hk h0 hae => ?_, fun a ha => ?_, fun a k j ha hk hj hne h1 h2 => ?_, o5, o6⟩
  · by_cases q : a = r ∧ k = g
    · rw [q.1, q.2, tSet_at]
      exact ⟨hr, hg, hb, by rw [Nat.add_sub_cancel]; exact c1⟩
    · rw [tSet_ne q] at h0 ⊢
      exact o1 a k ha hk h0
  · by_cases q1 : a = r ∧ k = g
    · by_cases q2 : e = r ∧ k = g
      · rw [q1.1, q2.1]
      · rw [q1.1, q1.2, tSet_at, tSet_ne (by rw [q1.2] at q2; exact q2)] at hae
        exact absurd hae.symm (c2 e he)
    · by_cases q2 : e = r ∧ k = g
      · rw [q2.1, q2.2, tSet_at, tSet_ne (by rw [q2.2] at q1; exact q1)] at hae
        exact absurd hae (c2 a ha)
      · rw [tSet_ne q1] at h0 hae
        rw [tSet_ne q2] at hae
        exact o2 a e k ha he hk h0 hae
  · by_cases q : a = r
    · rw [q]
      have := tN_le_of (T := T) (r := r) (v := b + 1) hg4
      omega
    · rw [tN_ne q]; exact o3 a ha
  · by_cases q1 : a = r ∧ k = g
    · by_cases q2 : a = r ∧ j = g
      · exact absurd (q1.2.trans q2.2.symm) hne
      · rw [tSet_ne q2] at h2
        rw [q1.2]
        exact c4 j hj (by rw [← q1.1]; exact h2)
    · rw [tSet_ne q1] at h1
      by_cases q2 : a = r ∧ j = g
      · rw [q2.2, zdist_comm]
        exact c4 k hk (by rw [← q2.1]; exact h1)
      · rw [tSet_ne q2] at h2
        exact o4 a k j ha hk hj hne h1 h2
theorem okT.take {P : zP} {T : zT} {r g : Nat} (ok : okT P T) (hg4 : g < 4) : okT P (tSet T r g 0) := by
  obtain ⟨o1, o2, o3, o4, o5, o6⟩ := ok
  have e : ∀ {a k}, (tSet T r g 0).1 a k ≠ 0 → (tSet T r g 0).1 a k = T.1 a k := by
    intro a k h
    by_cases q : a = r ∧ k = g
    · rw [q.1, q.2, tSet_at] at h; exact absurd rfl h
    · exact tSet_ne q
  have le : ∀ a, tN (tSet T r g 0) a ≤ tN T a := by
    intro a
    by_cases q : a = r
    · rw [q]
      by_cases h0 : T.1 r g = 0
      · have e : tN (tSet T r g 0) r = tN T r := zcnt_congr (fun b _ => by
          by_cases q : b = g
          · rw [q, tSet_at, h0]
          · rw [tSet_ne (fun z => q z.2)])
        omega
      · have h := tN_put (T := tSet T r g 0) hg4 (tSet_at T r g 0) h0
        rw [tSet_back rfl] at h
        omega
    · rw [tN_ne q]; exact Nat.le_refl _
  refine ⟨fun a k ha hk h0 => ?_, fun a c k ha he hk h0 hae => ?_, fun a ha => Nat.le_trans (le a) (o3 a ha), fun a k j ha hk hj hne h1 h2 => ?_, o5, o6⟩
  · have := e h0
    rw [this] at h0 ⊢
    exact o1 a k ha hk h0
  · have e1 := e h0
    have e2 := e (by rw [← hae]; exact h0)
    rw [e1] at h0
    rw [e1, e2] at hae
    exact o2 a c k ha he hk h0 hae
  · have e1 := e h1
    have e2 := e h2
    rw [e1] at h1
    rw [e2] at h2
    exact o4 a k j ha hk hj hne h1 h2
theorem okS.wT {G : zS} {T : zT} (ok : okS G) (h : okT (gP G) T) : okS (wT G T) := ⟨ok.1, h, ok.2.2.1, ok.2.2.2⟩
end
section
/-! THE CLASS (3): hour, rings, put, take, now, crew, bars, odds, stands -/
def zfst (p : Nat → Bool) : Nat → Option Nat
  | 0 => none
  | k + 1 => match zfst p k with
    | some i => some i
    | none => if p k then some k else none
theorem zfst_none {p : Nat → Bool} {n : Nat} (h : ∀ i, i < n → p i = false) : zfst p n = none := by
  induction n with
  | zero => rfl
  | succ n ih => simp only [zfst, ih (fun i hi => h i (by omega)), h n (by omega)]; rfl
theorem zfst_some {p : Nat → Bool} {n r : Nat} (hr : r < n) (h : p r = true) (hn : ∀ i, i < r → p i = false) : zfst p n = some r := by
  induction n with
  | zero => omega
  | succ n ih =>
    by_cases q : r = n
    · subst q
      simp only [zfst, zfst_none hn, h]; rfl
    · simp only [zfst, ih (by omega)]
def oI (o : Option Nat) : Int32 := match o with
  | some k => nI k
  | none => -9
def iR (G : zS) (x : Int32) : Prop := 0 ≤ x ∧ x < nI (pR (gP G))
def iH (G : zS) (x : Int32) : Prop := 0 ≤ x ∧ x < nI (pH (gP G))
def iB (G : zS) (y z : Int32) : Prop := (0 ≤ y ∧ y < nI (pH (gP G))) ∧ 0 ≤ z ∧ z < nI (pW (gP G) y.toNatClampNeg)
noncomputable def sRings (G : zS) (y z : Int32) : Int32 := zite (iB G y z) (oI (zfst (fun r => decide ((gT G).1 r y.toNatClampNeg = z.toNatClampNeg + 1)) 6)) (-1)
noncomputable def sPut (G : zS) (x y z : Int32) : Int32 × zS := zite (iR G x ∧ iB G y z) (zite (canPut (gP G) (gT G) x.toNatClampNeg y.toNatClampNeg z.toNatClampNeg) (nI (tAll (gT G) + 1), wT G (tSet (gT G) x.toNatClampNeg y.toNatClampNeg (z.toNatClampNeg + 1))) (-2, G)) (-1, G)
noncomputable def sTake (G : zS) (x y : Int32) : Int32 × zS := zite (iR G x ∧ iH G y) (zite ((gT G).1 x.toNatClampNeg y.toNatClampNeg = 0) (-2, G) (nI ((gT G).1 x.toNatClampNeg y.toNatClampNeg - 1), wT G (tSet (gT G) x.toNatClampNeg y.toNatClampNeg 0))) (-1, G)
theorem iB_of {G : zS} {y z : Int32} (ok : okP (gP G)) (h : iB G y z) : ∃ g b, g < pH (gP G) ∧ b < pW (gP G) g ∧ y = nI g ∧ z = nI b ∧ g < 4 ∧ b < 3 := by
  have k1 := ok.1
  obtain ⟨g, hg, rfl⟩ := z_isIx (by omega) h.1
  have hw := ok.2.2.2.2.2.1 g hg
  have h2 := h.2
  rw [nI_clamp (by omega)] at h2
  obtain ⟨b, hb, rfl⟩ := z_isIx (by omega) h2
  exact ⟨g, b, hg, hb, rfl, rfl, by omega, by omega⟩
theorem rB_bell {P : zP} {B : Nat → Int32} {T : zT} (okp : okP P) (ok : okT P T) (h : rB B T) {r g b : Nat} (hr : r < 6) (hg : g < 4) (hb : b < 3) : B (4 * r + g) = nI b ↔ T.1 r g = b + 1 := by
  rw [h r g hr hg]
  have := ok.le okp hr hg
  by_cases q : T.1 r g = 0
  · rw [if_pos q, q]
    exact ⟨fun z => absurd z.symm (nI_ne9 (by omega)), fun z => by omega⟩
  · rw [if_neg q]
    exact ⟨fun z => by have := (nI_eq (by omega) (by omega)).mp z; omega, fun z => by rw [z]; rfl⟩
section
variable {K : zK} {l : Launch} {n p q r g : Nat} {h : zH} {x y z : Int32} {G : zS}
theorem r_X5_hour (hC : cRel h G) (ok : okS G) : zRet K l 4 mX5_hour [.ref 0, .int x, .int y] 59 h (some (.int (sHour G x y))) h := by
  refine zRet.of (by decide) (Nat.le_of_ble_eq_true rfl) (fun Q hQ => ?_)
  obtain ⟨p, q, P', N, kf, hpq, hat, hsc, hp, hq, ⟨S, B, hR, hB, hS⟩, hfi, hkf, hk2, hN, hNo, hi0, hi1⟩ := id hC
  have okp := ok.1
  have okt := ok.2.1
  have hpn : p + 5 < 59 := by omega
  have hat' : h 0 = _ := hat
  have h17 := hR.1
  have kH := okp.1
  have kR := okp.2.1
  have hp1 := hp.1
  unfold sHour at hQ
  obtain ⟨p1, ⟨f1, p2, e2⟩, -⟩ := id hp
  have h18 := hR.2.1
  refine kX5_hour_0 ?_
  refine zb_go (zg_aload_n rfl) rfl ?_
  refine zb_go (zg_getfield fX5_19 (by first | assumption | decide | omega) (by repeat (first | assumption | exact z_up_self _ _ _ | refine (z_up_ne (by first | decide | omega)).trans ?_)) (by rfl)) rfl ?_
  refine zb_go (zg_iload_n rfl) rfl ?_
  refine zb_callv (r_X2_hasHour hp hpn) lX5_97 (by repeat (first | assumption | exact z_up_self _ _ _ | refine (z_up_ne (by first | decide | omega)).trans ?_)) rfl rfl (by first | assumption | decide | omega) (by decide) rfl (Nat.le_of_ble_eq_true rfl) rfl ?_
  refine zb_br (zg_if_ne (tgt := 13) (by decide)) rfl (fun c => ?_) (fun c => ?_)
  · have c := zb_n.mp c
    rw [if_pos c] at hQ
    obtain ⟨g, hg, rfl⟩ := z_isIx (by omega) c
    rw [nI_clamp (by omega)] at hQ
    refine kX5_hour_13 ?_
    refine zb_go (zg_iload_n rfl) rfl ?_
    rcases z_swi y 2 (by decide) with ⟨k, hk, rfl⟩ | ho
    · rcases (show k = 0 ∨ k = 1 ∨ k = 2 by omega) with rfl | rfl | rfl
      · rw [if_pos (by decide)] at hQ
        refine zb_end (len := 26) (zg_tableIn 26 40 (by decide) (by decide) (by rfl) (by decide) ?_) rfl
        refine kX5_hour_40 ?_
        refine zb_go (zg_aload_n rfl) rfl ?_
        refine zb_go (zg_getfield fX5_19 (by first | assumption | decide | omega) (by repeat (first | assumption | exact z_up_self _ _ _ | refine (z_up_ne (by first | decide | omega)).trans ?_)) (by rfl)) rfl ?_
        refine zb_go (zg_getfield fX5_100 (by first | assumption | decide | omega) (by repeat (first | assumption | exact z_up_self _ _ _ | refine (z_up_ne (by first | decide | omega)).trans ?_)) (by rfl)) rfl ?_
        refine zb_go (zg_iload_n rfl) rfl ?_
        refine zb_go (zi_iaload (by first | assumption | decide | omega) (by repeat (first | assumption | exact z_up_self _ _ _ | refine (z_up_ne (by first | decide | omega)).trans ?_)) (by first | assumption | exact zIx.nI (by omega) (by decide) | exact ⟨by decide, by decide⟩)) rfl ?_
        refine zb_end (zg_ireturn rfl (by rfl) ?_) rfl
        rw [e2 g hg]; exact hQ
      · rw [if_neg (by decide), if_pos (by decide)] at hQ
        rw [← rIn_eq okp okt hB (by omega), ← e2 g hg] at hQ
        refine zb_end (len := 26) (zg_tableIn 36 50 (by decide) (by decide) (by rfl) (by decide) ?_) rfl
        refine kX5_hour_50 ?_
        refine zb_go (zg_aload_n rfl) rfl ?_
        refine zb_go (zg_getfield fX5_19 (by first | assumption | decide | omega) (by repeat (first | assumption | exact z_up_self _ _ _ | refine (z_up_ne (by first | decide | omega)).trans ?_)) (by rfl)) rfl ?_
        refine zb_go (zg_getfield fX5_100 (by first | assumption | decide | omega) (by repeat (first | assumption | exact z_up_self _ _ _ | refine (z_up_ne (by first | decide | omega)).trans ?_)) (by rfl)) rfl ?_
        refine zb_go (zg_iload_n rfl) rfl ?_
        refine zb_go (zi_iaload (by first | assumption | decide | omega) (by repeat (first | assumption | exact z_up_self _ _ _ | refine (z_up_ne (by first | decide | omega)).trans ?_)) (by first | assumption | exact zIx.nI (by omega) (by decide) | exact ⟨by decide, by decide⟩)) rfl ?_
        refine zb_go (zg_aload_n rfl) rfl ?_
        refine zb_go (zg_getfield fX5_29 (by first | assumption | decide | omega) (by repeat (first | assumption | exact z_up_self _ _ _ | refine (z_up_ne (by first | decide | omega)).trans ?_)) (by rfl)) rfl ?_
        refine zb_go (zg_iload_n rfl) rfl ?_
        refine zb_callv (r_X3_ringersIn hR (by decide) (by omega)) lX5_103 (by repeat (first | assumption | exact z_up_self _ _ _ | refine (z_up_ne (by first | decide | omega)).trans ?_)) rfl rfl (by first | assumption | decide | omega) (by decide) rfl (Nat.le_of_ble_eq_true rfl) rfl ?_
        refine zb_calls (r_bitCount (rIn_lt B g)) lX5_106 rfl (by decide) rfl (Nat.le_of_ble_eq_true rfl) rfl ?_
        refine zb_go zg_isub rfl ?_
        refine zb_end (zg_ireturn rfl (by rfl) ?_) rfl
        exact hQ
      · rw [if_neg (by decide), if_neg (by decide), if_pos (by decide)] at hQ
        refine zb_end (len := 26) (zg_tableIn 58 72 (by decide) (by decide) (by rfl) (by decide) ?_) rfl
        refine kX5_hour_72 ?_
        refine zb_go (zg_aload_n rfl) rfl ?_
        refine zb_go (zg_getfield fX5_29 (by first | assumption | decide | omega) (by repeat (first | assumption | exact z_up_self _ _ _ | refine (z_up_ne (by first | decide | omega)).trans ?_)) (by rfl)) rfl ?_
        refine zb_go (zg_getfield fX5_111 (by first | assumption | decide | omega) (by repeat (first | assumption | exact z_up_self _ _ _ | refine (z_up_ne (by first | decide | omega)).trans ?_)) (by rfl)) rfl ?_
        refine zb_go (zg_iload_n rfl) rfl ?_
        refine zb_go (zi_iaload (by first | assumption | decide | omega) (by repeat (first | assumption | exact z_up_self _ _ _ | refine (z_up_ne (by first | decide | omega)).trans ?_)) (by first | assumption | exact zIx.nI (by omega) (by decide) | exact ⟨by decide, by decide⟩)) rfl ?_
        refine zb_end (zg_ireturn rfl (by rfl) ?_) rfl
        rw [hS g (by omega)]; exact hQ
    · rw [if_neg (show ¬ y = 0 from z_out (k := 0) ho (by decide) (by decide)), if_neg (show ¬ y = 1 from z_out (k := 1) ho (by decide) (by decide)), if_neg (show ¬ y = 2 from z_out (k := 2) ho (by decide) (by decide))] at hQ
      refine zb_end (len := 26) (zg_tableOut 82 ho (by decide) ?_) rfl
      refine kX5_hour_82 ?_
      refine zb_go (zg_iconst (-1) (by decide)) rfl ?_
      refine zb_end (zg_ireturn rfl (by rfl) ?_) rfl
      exact hQ
  · rw [if_neg (zb_0.mp c)] at hQ
    refine zb_go (zg_iconst (-1) (by decide)) rfl ?_
    refine zb_end (zg_ireturn rfl (by rfl) ?_) rfl
    exact hQ
theorem r_X5_rings (hC : cRel h G) (ok : okS G) : zRet K l 3 mX5_rings [.ref 0, .int y, .int z] 59 h (some (.int (sRings G y z))) h := by
  refine zRet.of (by decide) (Nat.le_of_ble_eq_true rfl) (fun Q hQ => ?_)
  obtain ⟨p, q, P', N, kf, hpq, hat, hsc, hp, hq, ⟨S, B, hR, hB, hS⟩, hfi, hkf, hk2, hN, hNo, hi0, hi1⟩ := id hC
  have okp := ok.1
  have okt := ok.2.1
  have hpn : p + 5 < 59 := by omega
  have hat' : h 0 = _ := hat
  have h17 := hR.1
  have kH := okp.1
  have kR := okp.2.1
  have hp1 := hp.1
  unfold sRings at hQ
  refine kX5_rings_0 ?_
  refine zb_go (zg_aload_n rfl) rfl ?_
  refine zb_go (zg_getfield fX5_19 (by first | assumption | decide | omega) (by repeat (first | assumption | exact z_up_self _ _ _ | refine (z_up_ne (by first | decide | omega)).trans ?_)) (by rfl)) rfl ?_
  refine zb_go (zg_iload_n rfl) rfl ?_
  refine zb_go (zg_iload_n rfl) rfl ?_
  refine zb_callv (r_X2_hasBell hp hpn okp) lX5_114 (by repeat (first | assumption | exact z_up_self _ _ _ | refine (z_up_ne (by first | decide | omega)).trans ?_)) rfl rfl (by first | assumption | decide | omega) (by decide) rfl (Nat.le_of_ble_eq_true rfl) rfl ?_
  refine zb_br (zg_if_ne (tgt := 14) (by decide)) rfl (fun c => ?_) (fun c => ?_)
  · have c' := zb_n.mp c
    have c : iB G y z := c'
    rw [zite_t c] at hQ
    obtain ⟨g, b, hg, hb, rfl, rfl, hg4, hb3⟩ := iB_of okp c
    rw [nI_clamp (by omega), nI_clamp (by omega)] at hQ
    refine kX5_rings_14 ?_
    refine zb_go (zg_aload_n rfl) rfl ?_
    refine zb_go (zg_getfield fX5_29 (by first | assumption | decide | omega) (by repeat (first | assumption | exact z_up_self _ _ _ | refine (z_up_ne (by first | decide | omega)).trans ?_)) (by rfl)) rfl ?_
    refine zb_go (zg_iload_n rfl) rfl ?_
    refine zb_go (zg_iload_n rfl) rfl ?_
    refine zb_callvx (r_X3_ringerAt hR (by decide) hg4) lX5_133 (by repeat (first | assumption | exact z_up_self _ _ _ | refine (z_up_ne (by first | decide | omega)).trans ?_)) rfl rfl (by first | assumption | decide | omega) (by decide) rfl (Nat.le_of_ble_eq_true rfl) rfl ?_
    rintro v h' ⟨rfl, hv⟩
    rcases hv with ⟨r, hr, h1, h2, rfl⟩ | ⟨h2, rfl⟩
    · rw [zfst_some hr (decide_eq_true ((rB_bell okp okt hB hr hg4 hb3).mp h1)) (fun i hi => decide_eq_false (fun q => h2 i hi ((rB_bell okp okt hB (by omega) hg4 hb3).mpr q)))] at hQ
      refine zb_end (zg_ireturn rfl (by rfl) ?_) rfl
      exact hQ
    · rw [zfst_none (fun i hi => decide_eq_false (fun q => h2 i hi ((rB_bell okp okt hB hi hg4 hb3).mpr q)))] at hQ
      refine zb_end (zg_ireturn rfl (by rfl) ?_) rfl
      exact hQ
  · have c' := zb_0.mp c
    rw [zite_f (show ¬ iB G y z from c')] at hQ
    refine zb_go (zg_iconst (-1) (by decide)) rfl ?_
    refine zb_end (zg_ireturn rfl (by rfl) ?_) rfl
    exact hQ
theorem canPut_iff {P : zP} {B : Nat → Int32} {T : zT} {b : Nat} (okp : okP P) (ok : okT P T) (hB : rB B T) (hr : r < 6) (hg : g < 4) (hb : b < 3) : rHasRoom P B r g b ↔ (∀ q, q < 6 → T.1 q g ≠ b + 1) ∧ tN T r < pTi P ∧ ∀ q, q < 4 → T.1 r q ≠ 0 → pRe P < zdist g q := by
  unfold rHasRoom
  rw [rT_eq okp ok hB hr]
  constructor
  · intro ⟨h1, h2, h3⟩
    exact ⟨fun q hq z => h1 q hq ((rB_bell okp ok hB hq hg hb).mpr z), h2, fun q hq z => h3 q hq ((rB_ne okp ok hB hr hq).mpr z)⟩
  · intro ⟨h1, h2, h3⟩
    exact ⟨fun q hq z => h1 q hq ((rB_bell okp ok hB hq hg hb).mp z), h2, fun q hq z => h3 q hq ((rB_ne okp ok hB hr hq).mp z)⟩
theorem r_X5_put (hC : cRel h G) (ok : okS G) : zRex K l 5 mX5_put [.ref 0, .int x, .int y, .int z] 59 h (fun v h' => v = some (.int (sPut G x y z).1) ∧ cRel h' (sPut G x y z).2 ∧ okS (sPut G x y z).2 ∧ zSame 0 33 h h') := by
  refine zRex.of (by decide) (Nat.le_of_ble_eq_true rfl) (fun Q hQ => ?_)
  obtain ⟨p, q, P', N, kf, hpq, hat, hsc, hp, hq, ⟨S, B, hR, hB, hS⟩, hfi, hkf, hk2, hN, hNo, hi0, hi1⟩ := id hC
  have okp := ok.1
  have okt := ok.2.1
  have hpn : p + 5 < 59 := by omega
  have hat' : h 0 = _ := hat
  have h17 := hR.1
  have kH := okp.1
  have kR := okp.2.1
  have hp1 := hp.1
  have bad : ¬ (iR G x ∧ iB G y z) → zGo K l 5 mX5_put 23 (lv_args 0 [.ref 0, .int x, .int y, .int z]) [] 59 h 0 0 Q := by
    intro hn
    refine kX5_put_23 ?_
    refine zb_go (zg_iconst (-1) (by decide)) rfl ?_
    refine zb_end (zg_ireturn rfl (by rfl) ?_) rfl
    rw [sPut, zite_f hn] at hQ
    exact hQ _ _ ⟨rfl, hC, ok, zSame.rf⟩
  refine kX5_put_0 ?_
  refine zb_go (zg_aload_n rfl) rfl ?_
  refine zb_go (zg_getfield fX5_19 (by first | assumption | decide | omega) (by repeat (first | assumption | exact z_up_self _ _ _ | refine (z_up_ne (by first | decide | omega)).trans ?_)) (by rfl)) rfl ?_
  refine zb_go (zg_iload_n rfl) rfl ?_
  refine zb_callv (r_X2_hasRinger hp hpn) lX5_76 (by repeat (first | assumption | exact z_up_self _ _ _ | refine (z_up_ne (by first | decide | omega)).trans ?_)) rfl rfl (by first | assumption | decide | omega) (by decide) rfl (Nat.le_of_ble_eq_true rfl) rfl ?_
  refine zb_br (zg_if_eq (tgt := 23) (by decide)) rfl (fun c0 => ?_) (fun c0 => ?_)
  · exact bad (fun q => zb_0.mp c0 q.1)
  · have c0 := zb_n.mp c0
    refine zb_go (zg_aload_n rfl) rfl ?_
    refine zb_go (zg_getfield fX5_19 (by first | assumption | decide | omega) (by repeat (first | assumption | exact z_up_self _ _ _ | refine (z_up_ne (by first | decide | omega)).trans ?_)) (by rfl)) rfl ?_
    refine zb_go (zg_iload_n rfl) rfl ?_
    refine zb_go (zg_iload_n rfl) rfl ?_
    refine zb_callv (r_X2_hasBell hp hpn okp) lX5_114 (by repeat (first | assumption | exact z_up_self _ _ _ | refine (z_up_ne (by first | decide | omega)).trans ?_)) rfl rfl (by first | assumption | decide | omega) (by decide) rfl (Nat.le_of_ble_eq_true rfl) rfl ?_
    refine zb_br (zg_if_ne (tgt := 25) (by decide)) rfl (fun c1 => ?_) (fun c1 => ?_)
    · have c1 := zb_n.mp c1
      rw [sPut, zite_t ⟨c0, c1⟩] at hQ
      obtain ⟨r, hr, rfl⟩ := z_isIx (by omega) c0
      obtain ⟨g, b, hg, hb, rfl, rfl, hg4, hb3⟩ := iB_of okp c1
      rw [nI_clamp (by omega), nI_clamp (by omega), nI_clamp (by omega)] at hQ
      have no : ¬ canPut (gP G) (gT G) r g b → zGo K l 5 mX5_put 55 (lv_args 0 [.ref 0, .int (nI r), .int (nI g), .int (nI b)]) [] 59 h 0 0 Q := by
        intro hn
        refine kX5_put_55 ?_
        refine zb_go (zg_bipush (-2) (by decide)) rfl ?_
        refine zb_end (zg_ireturn rfl (by rfl) ?_) rfl
        rw [zite_f hn] at hQ
        exact hQ _ _ ⟨rfl, hC, ok, zSame.rf⟩
      refine kX5_put_25 ?_
      refine zb_go (zg_aload_n rfl) rfl ?_
      refine zb_go (zg_getfield fX5_19 (by first | assumption | decide | omega) (by repeat (first | assumption | exact z_up_self _ _ _ | refine (z_up_ne (by first | decide | omega)).trans ?_)) (by rfl)) rfl ?_
      refine zb_go (zg_iload_n rfl) rfl ?_
      refine zb_go (zg_iload_n rfl) rfl ?_
      refine zb_go (zg_iload_n rfl) rfl ?_
      refine zb_callv (r_X2_canRing hp hpn okp (by omega) (by omega) (by omega)) lX5_118 (by repeat (first | assumption | exact z_up_self _ _ _ | refine (z_up_ne (by first | decide | omega)).trans ?_)) rfl rfl (by first | assumption | decide | omega) (by decide) rfl (Nat.le_of_ble_eq_true rfl) rfl ?_
      refine zb_br (zg_if_eq (tgt := 55) (by decide)) rfl (fun c2 => ?_) (fun c2 => ?_)
      · exact no (fun q => zb_0.mp c2 ⟨⟨hg, hb⟩, q.1⟩)
      · have c2 := (zb_n.mp c2).2
        refine zb_go (zg_aload_n rfl) rfl ?_
        refine zb_go (zg_getfield fX5_29 (by first | assumption | decide | omega) (by repeat (first | assumption | exact z_up_self _ _ _ | refine (z_up_ne (by first | decide | omega)).trans ?_)) (by rfl)) rfl ?_
        refine zb_go (zg_aload_n rfl) rfl ?_
        refine zb_go (zg_getfield fX5_19 (by first | assumption | decide | omega) (by repeat (first | assumption | exact z_up_self _ _ _ | refine (z_up_ne (by first | decide | omega)).trans ?_)) (by rfl)) rfl ?_
        refine zb_go (zg_iload_n rfl) rfl ?_
        refine zb_go (zg_iload_n rfl) rfl ?_
        refine zb_go (zg_iload_n rfl) rfl ?_
        refine zb_callvx (r_X3_hasRoom (b := b) hR (by decide) hp hpn okp (by omega) hg4) lX5_122 (by repeat (first | assumption | exact z_up_self _ _ _ | refine (z_up_ne (by first | decide | omega)).trans ?_)) rfl rfl (by first | assumption | decide | omega) (by decide) rfl (Nat.le_of_ble_eq_true rfl) rfl ?_
        rintro v h' ⟨rfl, hv⟩
        rw [zIf, canPut_iff okp okt hB (by omega) hg4 hb3] at hv
        rcases hv with ⟨hv, rfl⟩ | ⟨hv, rfl⟩
        · refine zb_br (zg_if_ne (tgt := 58) (by decide)) rfl (fun c3 => ?_) (fun c3 => ?_)
          · have hcan : canPut (gP G) (gT G) r g b := ⟨c2, hv⟩
            rw [zite_t hcan] at hQ
            have h0 : (gT G).1 r g = 0 := by
              rcases Nat.eq_zero_or_pos ((gT G).1 r g) with q | q
              · exact q
              · have := hv.2.2 g hg4 (by omega)
                unfold zdist at this
                rw [if_pos (Nat.le_refl _)] at this
                omega
            have hb9 : B (4 * r + g) = -9 := by rw [hB r g (by omega) hg4, if_pos h0]
            refine kX5_put_58 ?_
            refine zb_go (zg_aload_n rfl) rfl ?_
            refine zb_go (zg_getfield fX5_29 (by first | assumption | decide | omega) (by repeat (first | assumption | exact z_up_self _ _ _ | refine (z_up_ne (by first | decide | omega)).trans ?_)) (by rfl)) rfl ?_
            refine zb_go (zg_iload_n rfl) rfl ?_
            refine zb_go (zg_iload_n rfl) rfl ?_
            refine zb_go (zg_iload_n rfl) rfl ?_
            refine zb_callvx (r_X3_give hR (by decide) (by omega) hg4 hb9) lX5_126 (by repeat (first | assumption | exact z_up_self _ _ _ | refine (z_up_ne (by first | decide | omega)).trans ?_)) rfl rfl (by first | assumption | decide | omega) (by decide) rfl (Nat.le_of_ble_eq_true rfl) rfl ?_
            rintro v h1 ⟨rfl, hR1, hs⟩
            have g17 := hR1.1
            have gat : h1 0 = _ := (hs 0 (by omega)).trans hat'
            refine zb_go (zg_aload_n rfl) rfl ?_
            refine zb_go (zg_getfield fX5_29 (by first | assumption | decide | omega) (by repeat (first | assumption | exact z_up_self _ _ _ | refine (z_up_ne (by first | decide | omega)).trans ?_)) (by rfl)) rfl ?_
            refine zb_go (zg_getfield fX5_130 (by first | assumption | decide | omega) (by repeat (first | assumption | exact z_up_self _ _ _ | refine (z_up_ne (by first | decide | omega)).trans ?_)) (by rfl)) rfl ?_
            refine zb_end (zg_ireturn rfl (by rfl) ?_) rfl
            rw [nI_1]
            refine hQ _ _ ⟨rfl, ?_, ok.wT (okt.put hr hg hb (by omega) hg4 hcan), hs.wide (by omega) (by omega)⟩
            exact hC.rota hs ⟨S, _, by rw [tAll_put (by omega) hg4 h0 (by omega), ← nI_1]; exact hR1, rB_set hB (by omega) hg4 (by rw [if_neg (by omega), Nat.add_sub_cancel]), hS⟩ rfl
          · exact absurd c3 (by decide)
        · refine zb_br (zg_if_ne (tgt := 58) (by decide)) rfl (fun c3 => ?_) (fun c3 => ?_)
          · exact absurd rfl c3
          · refine zb_out ?_
            refine kX5_put_55 ?_
            refine zb_go (zg_bipush (-2) (by decide)) rfl ?_
            refine zb_end (zg_ireturn rfl (by rfl) ?_) rfl
            rw [zite_f (fun q => hv q.2)] at hQ
            exact hQ _ _ ⟨rfl, hC, ok, zSame.rf⟩
    · refine zb_out ?_
      refine kX5_put_23 ?_
      refine zb_go (zg_iconst (-1) (by decide)) rfl ?_
      refine zb_end (zg_ireturn rfl (by rfl) ?_) rfl
      rw [sPut, zite_f (fun q => zb_0.mp c1 q.2)] at hQ
      exact hQ _ _ ⟨rfl, hC, ok, zSame.rf⟩
theorem r_X5_take (hC : cRel h G) (ok : okS G) : zRex K l 4 mX5_take [.ref 0, .int x, .int y] 59 h (fun v h' => v = some (.int (sTake G x y).1) ∧ cRel h' (sTake G x y).2 ∧ okS (sTake G x y).2 ∧ zSame 0 33 h h') := by
  refine zRex.of (by decide) (Nat.le_of_ble_eq_true rfl) (fun Q hQ => ?_)
  obtain ⟨p, q, P', N, kf, hpq, hat, hsc, hp, hq, ⟨S, B, hR, hB, hS⟩, hfi, hkf, hk2, hN, hNo, hi0, hi1⟩ := id hC
  have okp := ok.1
  have okt := ok.2.1
  have hpn : p + 5 < 59 := by omega
  have hat' : h 0 = _ := hat
  have h17 := hR.1
  have kH := okp.1
  have kR := okp.2.1
  have hp1 := hp.1
  refine kX5_take_0 ?_
  refine zb_go (zg_aload_n rfl) rfl ?_
  refine zb_go (zg_getfield fX5_19 (by first | assumption | decide | omega) (by repeat (first | assumption | exact z_up_self _ _ _ | refine (z_up_ne (by first | decide | omega)).trans ?_)) (by rfl)) rfl ?_
  refine zb_go (zg_iload_n rfl) rfl ?_
  refine zb_callv (r_X2_hasRinger hp hpn) lX5_76 (by repeat (first | assumption | exact z_up_self _ _ _ | refine (z_up_ne (by first | decide | omega)).trans ?_)) rfl rfl (by first | assumption | decide | omega) (by decide) rfl (Nat.le_of_ble_eq_true rfl) rfl ?_
  refine zb_br (zg_if_eq (tgt := 22) (by decide)) rfl (fun c0 => ?_) (fun c0 => ?_)
  · refine kX5_take_22 ?_
    refine zb_go (zg_iconst (-1) (by decide)) rfl ?_
    refine zb_end (zg_ireturn rfl (by rfl) ?_) rfl
    rw [sTake, zite_f (fun q => zb_0.mp c0 q.1)] at hQ
    exact hQ _ _ ⟨rfl, hC, ok, zSame.rf⟩
  · have c0 := zb_n.mp c0
    refine zb_go (zg_aload_n rfl) rfl ?_
    refine zb_go (zg_getfield fX5_19 (by first | assumption | decide | omega) (by repeat (first | assumption | exact z_up_self _ _ _ | refine (z_up_ne (by first | decide | omega)).trans ?_)) (by rfl)) rfl ?_
    refine zb_go (zg_iload_n rfl) rfl ?_
    refine zb_callv (r_X2_hasHour hp hpn) lX5_97 (by repeat (first | assumption | exact z_up_self _ _ _ | refine (z_up_ne (by first | decide | omega)).trans ?_)) rfl rfl (by first | assumption | decide | omega) (by decide) rfl (Nat.le_of_ble_eq_true rfl) rfl ?_
    refine zb_br (zg_if_ne (tgt := 24) (by decide)) rfl (fun c1 => ?_) (fun c1 => ?_)
    · have c1 := zb_n.mp c1
      rw [sTake, zite_t ⟨c0, c1⟩] at hQ
      obtain ⟨r, hr, rfl⟩ := z_isIx (by omega) c0
      obtain ⟨g, hg, rfl⟩ := z_isIx (by omega) c1
      rw [nI_clamp (by omega), nI_clamp (by omega)] at hQ
      refine kX5_take_24 ?_
      refine zb_go (zg_aload_n rfl) rfl ?_
      refine zb_go (zg_getfield fX5_29 (by first | assumption | decide | omega) (by repeat (first | assumption | exact z_up_self _ _ _ | refine (z_up_ne (by first | decide | omega)).trans ?_)) (by rfl)) rfl ?_
      refine zb_go (zg_iload_n rfl) rfl ?_
      refine zb_go (zg_iload_n rfl) rfl ?_
      refine zb_callv (r_X3_bellOf hR (by decide) (by omega) (by omega)) lX5_137 (by repeat (first | assumption | exact z_up_self _ _ _ | refine (z_up_ne (by first | decide | omega)).trans ?_)) rfl rfl (by first | assumption | decide | omega) (by decide) rfl (Nat.le_of_ble_eq_true rfl) rfl ?_
      refine zb_go (zg_istore_n (by decide)) rfl ?_
      refine zb_go (zg_iload_n rfl) rfl ?_
      refine zb_go (zg_bipush (-9) (by decide)) rfl ?_
      refine zb_br (zg_icmp_ne (tgt := 43) (by decide)) rfl (fun c2 => ?_) (fun c2 => ?_)
      · have hne := (rB_ne okp okt hB (r := r) (g := g) (by omega) (by omega)).mp c2
        rw [zite_f hne] at hQ
        have eB : B (4 * r + g) = nI ((gT G).1 r g - 1) := by rw [hB r g (by omega) (by omega), if_neg hne]
        refine kX5_take_43 ?_
        refine zb_go (zg_aload_n rfl) rfl ?_
        refine zb_go (zg_getfield fX5_29 (by first | assumption | decide | omega) (by repeat (first | assumption | exact z_up_self _ _ _ | refine (z_up_ne (by first | decide | omega)).trans ?_)) (by rfl)) rfl ?_
        refine zb_go (zg_iload_n rfl) rfl ?_
        refine zb_go (zg_iload_n rfl) rfl ?_
        refine zb_callvx (r_X3_free hR (by decide) (by omega) (by omega) c2) lX5_140 (by repeat (first | assumption | exact z_up_self _ _ _ | refine (z_up_ne (by first | decide | omega)).trans ?_)) rfl rfl (by first | assumption | decide | omega) (by decide) rfl (Nat.le_of_ble_eq_true rfl) rfl ?_
        rintro v h1 ⟨rfl, hR1, hs⟩
        refine zb_go (zg_iload_n rfl) rfl ?_
        refine zb_end (zg_ireturn rfl (by rfl) ?_) rfl
        refine hQ _ _ ⟨by rw [eB], ?_, ok.wT (okt.take (by omega)), hs.wide (by omega) (by omega)⟩
        refine hC.rota hs ⟨S, _, ?_, rB_set hB (by omega) (by omega) rfl, hS⟩ rfl
        have e := tAll_take (T := gT G) (r := r) (g := g) (by omega) (by omega) hne
        rw [e, nI_pred] at hR1
        exact hR1
      · have h0 : (gT G).1 r g = 0 := by
          rcases Nat.eq_zero_or_pos ((gT G).1 r g) with q | q
          · exact q
          · exact absurd c2 ((rB_ne okp okt hB (by omega) (by omega)).mpr (by omega))
        rw [zite_t h0] at hQ
        refine zb_go (zg_bipush (-2) (by decide)) rfl ?_
        refine zb_end (zg_ireturn rfl (by rfl) ?_) rfl
        exact hQ _ _ ⟨rfl, hC, ok, zSame.rf⟩
    · refine zb_out ?_
      refine kX5_take_22 ?_
      refine zb_go (zg_iconst (-1) (by decide)) rfl ?_
      refine zb_end (zg_ireturn rfl (by rfl) ?_) rfl
      rw [sTake, zite_f (fun q => zb_0.mp c1 q.2)] at hQ
      exact hQ _ _ ⟨rfl, hC, ok, zSame.rf⟩
end
end
section
/-! THE CLASS (4): what changes nothing -/
def sNow (G : zS) (x : Int32) : Int32 := if x = 0 then nI (pAll (gP G)) - nI (tAll (gT G)) else if x = 1 then nI (tWalk (gP G) (gT G) (gT G).2.1) else if x = 2 then nI (tAll (gT G)) else if x = 3 then nI (gT G).2.1 else -1
def sCount (G : zS) (x : Int32) : Int32 := if x = 0 then nI (pH (gP G)) else if x = 1 then nI (pR (gP G)) else if x = 2 then nI (pTi (gP G)) else if x = 3 then nI (pRe (gP G)) else if x = 4 then nI (gLen G) else -1
noncomputable def sCrew (G : zS) (x : Int32) : Int32 := zite (iH G x) (nI (pW (gP G) x.toNatClampNeg) - nI (zmx (sLost (gP G) x.toNatClampNeg 63) (2 ^ pW (gP G) x.toNatClampNeg))) (-1)
noncomputable def sBars (G : zS) (x : Int32) : Int32 := zite (iH G x) (oI (zfst (fun s => decide (sLost (gP G) x.toNatClampNeg 63 s ≠ 0)) (2 ^ pW (gP G) x.toNatClampNeg))) (-1)
def sOddN (P : zP) (g : Nat) : Nat := sOdds P g (2 ^ pR P)
noncomputable def sOdd (G : zS) (x y : Int32) : Int32 := zite (iH G x ∧ 0 ≤ y ∧ y ≤ 1) (if y = 0 then nI (sOddN (gP G) x.toNatClampNeg / Nat.gcd (sOddN (gP G) x.toNatClampNeg) (10 ^ pR (gP G))) else nI (10 ^ pR (gP G) / Nat.gcd (sOddN (gP G) x.toNatClampNeg) (10 ^ pR (gP G)))) (-1)
/-- the first place up to k where f is least -/
def zarg (f : Nat → Nat) : Nat → Nat
  | 0 => 0
  | k + 1 => if f (k + 1) < f (zarg f k) then k + 1 else zarg f k
theorem zarg_le (f : Nat → Nat) (k : Nat) : zarg f k ≤ k := by
  induction k with
  | zero => exact Nat.le_refl _
  | succ k ih => simp only [zarg]; split <;> omega
noncomputable def sStands (G : zS) (x : Int32) : Int32 := zite (0 ≤ x ∧ x ≤ 1) (if x = 0 then nI (zarg (tWalk (gP G) (gT G)) 60) else nI (tWalk (gP G) (gT G) (zarg (tWalk (gP G) (gT G)) 60))) (-1)
theorem tWalk_le {P : zP} {T : zT} {w : Nat} (ok : okP P) (hw : w ≤ 60) : tWalk P T w ≤ 10000 := by
  have h := zsum_le (f := fun r => tN T r * 2 * zdist (pHo P r) w) (m := 480) (k := pR P) (fun i hi => by
    have h1 := tN_le T i
    have h2 := (ok.2.2.2.2.2.2 i hi).1
    have h3 : zdist (pHo P i) w ≤ 60 := by unfold zdist; split <;> omega
    calc tN T i * 2 * zdist (pHo P i) w ≤ 4 * 2 * 60 := Nat.mul_le_mul (Nat.mul_le_mul_right 2 h1) h3
      _ = 480 := rfl)
  have := ok.2.1
  have h4 : pR P * 480 ≤ 6 * 480 := Nat.mul_le_mul_right _ this
  exact Nat.le_trans h (by omega)
theorem pAll_le {P : zP} (ok : okP P) : pAll P ≤ 12 := by
  have h := zsum_le (f := pW P) (m := 3) (k := pH P) (fun i hi => (ok.2.2.2.2.2.1 i hi).2)
  have := ok.1
  exact Nat.le_trans h (by omega)
theorem sOdds_le {P : zP} {g : Nat} (ok : okP P) : ∀ k, sOdds P g k ≤ k * 10 ^ pR P := fun k => zsum_le (fun i _ => by
  split
  · exact sWt_le ok i (Nat.le_refl _)
  · exact Nat.zero_le _)
section
variable {K : zK} {l : Launch} {n p q r g : Nat} {h : zH} {x y z : Int32} {G : zS}
theorem r_X5_trace (hC : cRel h G) : zRet K l 0 mX5_trace [.ref 0] 59 h (some (.long (gTr G))) h := by
  refine zRet.of (by decide) (Nat.le_of_ble_eq_true rfl) (fun Q hQ => ?_)
  obtain ⟨p, q, P', N, kf, hpq, hat, -⟩ := hC
  have hat' : h 0 = _ := hat
  refine kX5_trace_0 ?_
  refine zb_go (zg_aload_n rfl) rfl ?_
  refine zb_go (zg_getfield fX5_48 (by first | assumption | decide | omega) (by repeat (first | assumption | exact z_up_self _ _ _ | refine (z_up_ne (by first | decide | omega)).trans ?_)) (by rfl)) rfl ?_
  refine zb_end (zg_lreturn rfl ?_) rfl
  exact hQ
theorem r_X5_count (hC : cRel h G) : zRet K l 0 mX5_count [.ref 0, .int x] 59 h (some (.int (sCount G x))) h := by
  refine zRet.of (by decide) (Nat.le_of_ble_eq_true rfl) (fun Q hQ => ?_)
  obtain ⟨p, q, P', N, kf, hpq, hat, ⟨pl, fa, tx, nu, to, ⟨s1, -⟩, -⟩, hp, -⟩ := hC
  have hat' : h 0 = _ := hat
  have hp1 := hp.1
  have hpn : p + 5 < 59 := by omega
  unfold sCount at hQ
  refine kX5_count_0 ?_
  refine zb_go (zg_iload_n rfl) rfl ?_
  rcases z_swi x 4 (by decide) with ⟨k, hk, rfl⟩ | ho
  · rcases (show k = 0 ∨ k = 1 ∨ k = 2 ∨ k = 3 ∨ k = 4 by omega) with rfl | rfl | rfl | rfl | rfl
    · rw [if_pos (by decide)] at hQ
      refine zb_end (len := 35) (zg_tableIn 35 36 (by decide) (by decide) (by rfl) (by decide) ?_) rfl
      refine kX5_count_36 ?_
      refine zb_go (zg_aload_n rfl) rfl ?_
      refine zb_go (zg_getfield fX5_19 (by first | assumption | decide | omega) (by repeat (first | assumption | exact z_up_self _ _ _ | refine (z_up_ne (by first | decide | omega)).trans ?_)) (by rfl)) rfl ?_
      refine zb_go (zg_getfield fX5_150 (by first | assumption | decide | omega) (by repeat (first | assumption | exact z_up_self _ _ _ | refine (z_up_ne (by first | decide | omega)).trans ?_)) (by rfl)) rfl ?_
      refine zb_end (zg_ireturn rfl (by rfl) ?_) rfl
      exact hQ
    · rw [if_neg (by decide), if_pos (by decide)] at hQ
      refine zb_end (len := 35) (zg_tableIn 43 44 (by decide) (by decide) (by rfl) (by decide) ?_) rfl
      refine kX5_count_44 ?_
      refine zb_go (zg_aload_n rfl) rfl ?_
      refine zb_go (zg_getfield fX5_19 (by first | assumption | decide | omega) (by repeat (first | assumption | exact z_up_self _ _ _ | refine (z_up_ne (by first | decide | omega)).trans ?_)) (by rfl)) rfl ?_
      refine zb_go (zg_getfield fX5_250 (by first | assumption | decide | omega) (by repeat (first | assumption | exact z_up_self _ _ _ | refine (z_up_ne (by first | decide | omega)).trans ?_)) (by rfl)) rfl ?_
      refine zb_end (zg_ireturn rfl (by rfl) ?_) rfl
      exact hQ
    · rw [if_neg (by decide), if_neg (by decide), if_pos (by decide)] at hQ
      refine zb_end (len := 35) (zg_tableIn 51 52 (by decide) (by decide) (by rfl) (by decide) ?_) rfl
      refine kX5_count_52 ?_
      refine zb_go (zg_aload_n rfl) rfl ?_
      refine zb_go (zg_getfield fX5_19 (by first | assumption | decide | omega) (by repeat (first | assumption | exact z_up_self _ _ _ | refine (z_up_ne (by first | decide | omega)).trans ?_)) (by rfl)) rfl ?_
      refine zb_go (zg_getfield fX5_253 (by first | assumption | decide | omega) (by repeat (first | assumption | exact z_up_self _ _ _ | refine (z_up_ne (by first | decide | omega)).trans ?_)) (by rfl)) rfl ?_
      refine zb_end (zg_ireturn rfl (by rfl) ?_) rfl
      exact hQ
    · rw [if_neg (by decide), if_neg (by decide), if_neg (by decide), if_pos (by decide)] at hQ
      refine zb_end (len := 35) (zg_tableIn 59 60 (by decide) (by decide) (by rfl) (by decide) ?_) rfl
      refine kX5_count_60 ?_
      refine zb_go (zg_aload_n rfl) rfl ?_
      refine zb_go (zg_getfield fX5_19 (by first | assumption | decide | omega) (by repeat (first | assumption | exact z_up_self _ _ _ | refine (z_up_ne (by first | decide | omega)).trans ?_)) (by rfl)) rfl ?_
      refine zb_go (zg_getfield fX5_256 (by first | assumption | decide | omega) (by repeat (first | assumption | exact z_up_self _ _ _ | refine (z_up_ne (by first | decide | omega)).trans ?_)) (by rfl)) rfl ?_
      refine zb_end (zg_ireturn rfl (by rfl) ?_) rfl
      exact hQ
    · rw [if_neg (by decide), if_neg (by decide), if_neg (by decide), if_neg (by decide), if_pos (by decide)] at hQ
      refine zb_end (len := 35) (zg_tableIn 67 68 (by decide) (by decide) (by rfl) (by decide) ?_) rfl
      refine kX5_count_68 ?_
      refine zb_go (zg_aload_n rfl) rfl ?_
      refine zb_go (zg_getfield fX5_10 (by first | assumption | decide | omega) (by repeat (first | assumption | exact z_up_self _ _ _ | refine (z_up_ne (by first | decide | omega)).trans ?_)) (by rfl)) rfl ?_
      refine zb_go (zg_getfield fX5_52 (by first | assumption | decide | omega) (by repeat (first | assumption | exact z_up_self _ _ _ | refine (z_up_ne (by first | decide | omega)).trans ?_)) (by rfl)) rfl ?_
      refine zb_end (zg_ireturn rfl (by rfl) ?_) rfl
      exact hQ
  · rw [if_neg (show ¬ x = 0 from z_out (k := 0) ho (by decide) (by decide)), if_neg (show ¬ x = 1 from z_out (k := 1) ho (by decide) (by decide)), if_neg (show ¬ x = 2 from z_out (k := 2) ho (by decide) (by decide)), if_neg (show ¬ x = 3 from z_out (k := 3) ho (by decide) (by decide)), if_neg (show ¬ x = 4 from z_out (k := 4) ho (by decide) (by decide))] at hQ
    refine zb_end (len := 35) (zg_tableOut 76 ho (by decide) ?_) rfl
    refine kX5_count_76 ?_
    refine zb_go (zg_iconst (-1) (by decide)) rfl ?_
    refine zb_end (zg_ireturn rfl (by rfl) ?_) rfl
    exact hQ
theorem r_X5_now (hC : cRel h G) (ok : okS G) : zRet K l 5 mX5_now [.ref 0, .int x] 59 h (some (.int (sNow G x))) h := by
  refine zRet.of (by decide) (Nat.le_of_ble_eq_true rfl) (fun Q hQ => ?_)
  obtain ⟨p, q, P', N, kf, hpq, hat, hsc, hp, hq, ⟨S, B, hR, hB, hS⟩, hfi, hkf, hk2, hN, hNo, hi0, hi1⟩ := id hC
  have okp := ok.1
  have okt := ok.2.1
  have hpn : p + 5 < 59 := by omega
  have hat' : h 0 = _ := hat
  have h17 := hR.1
  have kH := okp.1
  have kR := okp.2.1
  have hp1 := hp.1
  unfold sNow at hQ
  have kpl := okt.2.2.2.2.1
  refine kX5_now_0 ?_
  refine zb_go (zg_iload_n rfl) rfl ?_
  rcases z_swi x 3 (by decide) with ⟨k, hk, rfl⟩ | ho
  · rcases (show k = 0 ∨ k = 1 ∨ k = 2 ∨ k = 3 by omega) with rfl | rfl | rfl | rfl
    · rw [if_pos (by decide)] at hQ
      refine zb_end (len := 31) (zg_tableIn 31 32 (by decide) (by decide) (by rfl) (by decide) ?_) rfl
      refine kX5_now_32 ?_
      refine zb_go (zg_aload_n rfl) rfl ?_
      refine zb_go (zg_getfield fX5_19 (by first | assumption | decide | omega) (by repeat (first | assumption | exact z_up_self _ _ _ | refine (z_up_ne (by first | decide | omega)).trans ?_)) (by rfl)) rfl ?_
      refine zb_callv (r_X2_wantedInAll hp hpn okp) lX5_153 (by repeat (first | assumption | exact z_up_self _ _ _ | refine (z_up_ne (by first | decide | omega)).trans ?_)) rfl rfl (by first | assumption | decide | omega) (by decide) rfl (Nat.le_of_ble_eq_true rfl) rfl ?_
      refine zb_go (zg_aload_n rfl) rfl ?_
      refine zb_go (zg_getfield fX5_29 (by first | assumption | decide | omega) (by repeat (first | assumption | exact z_up_self _ _ _ | refine (z_up_ne (by first | decide | omega)).trans ?_)) (by rfl)) rfl ?_
      refine zb_go (zg_getfield fX5_130 (by first | assumption | decide | omega) (by repeat (first | assumption | exact z_up_self _ _ _ | refine (z_up_ne (by first | decide | omega)).trans ?_)) (by rfl)) rfl ?_
      refine zb_go zg_isub rfl ?_
      refine zb_end (zg_ireturn rfl (by rfl) ?_) rfl
      exact hQ
    · rw [if_neg (by decide), if_pos (by decide)] at hQ
      rw [← rWalk_eq okp okt hB] at hQ
      refine zb_end (len := 31) (zg_tableIn 47 48 (by decide) (by decide) (by rfl) (by decide) ?_) rfl
      refine kX5_now_48 ?_
      refine zb_go (zg_aload_n rfl) rfl ?_
      refine zb_go (zg_getfield fX5_29 (by first | assumption | decide | omega) (by repeat (first | assumption | exact z_up_self _ _ _ | refine (z_up_ne (by first | decide | omega)).trans ?_)) (by rfl)) rfl ?_
      refine zb_go (zg_aload_n rfl) rfl ?_
      refine zb_go (zg_getfield fX5_19 (by first | assumption | decide | omega) (by repeat (first | assumption | exact z_up_self _ _ _ | refine (z_up_ne (by first | decide | omega)).trans ?_)) (by rfl)) rfl ?_
      refine zb_go (zg_aload_n rfl) rfl ?_
      refine zb_go (zg_getfield fX5_29 (by first | assumption | decide | omega) (by repeat (first | assumption | exact z_up_self _ _ _ | refine (z_up_ne (by first | decide | omega)).trans ?_)) (by rfl)) rfl ?_
      refine zb_go (zg_getfield fX5_157 (by first | assumption | decide | omega) (by repeat (first | assumption | exact z_up_self _ _ _ | refine (z_up_ne (by first | decide | omega)).trans ?_)) (by rfl)) rfl ?_
      refine zb_callv (r_X3_walk hR (by decide) hp hpn okp (by omega)) lX5_158 (by repeat (first | assumption | exact z_up_self _ _ _ | refine (z_up_ne (by first | decide | omega)).trans ?_)) rfl rfl (by first | assumption | decide | omega) (by decide) rfl (Nat.le_of_ble_eq_true rfl) rfl ?_
      refine zb_end (zg_ireturn rfl (by rfl) ?_) rfl
      exact hQ
    · rw [if_neg (by decide), if_neg (by decide), if_pos (by decide)] at hQ
      refine zb_end (len := 31) (zg_tableIn 66 67 (by decide) (by decide) (by rfl) (by decide) ?_) rfl
      refine kX5_now_67 ?_
      refine zb_go (zg_aload_n rfl) rfl ?_
      refine zb_go (zg_getfield fX5_29 (by first | assumption | decide | omega) (by repeat (first | assumption | exact z_up_self _ _ _ | refine (z_up_ne (by first | decide | omega)).trans ?_)) (by rfl)) rfl ?_
      refine zb_go (zg_getfield fX5_130 (by first | assumption | decide | omega) (by repeat (first | assumption | exact z_up_self _ _ _ | refine (z_up_ne (by first | decide | omega)).trans ?_)) (by rfl)) rfl ?_
      refine zb_end (zg_ireturn rfl (by rfl) ?_) rfl
      exact hQ
    · rw [if_neg (by decide), if_neg (by decide), if_neg (by decide), if_pos (by decide)] at hQ
      refine zb_end (len := 31) (zg_tableIn 74 75 (by decide) (by decide) (by rfl) (by decide) ?_) rfl
      refine kX5_now_75 ?_
      refine zb_go (zg_aload_n rfl) rfl ?_
      refine zb_go (zg_getfield fX5_29 (by first | assumption | decide | omega) (by repeat (first | assumption | exact z_up_self _ _ _ | refine (z_up_ne (by first | decide | omega)).trans ?_)) (by rfl)) rfl ?_
      refine zb_go (zg_getfield fX5_157 (by first | assumption | decide | omega) (by repeat (first | assumption | exact z_up_self _ _ _ | refine (z_up_ne (by first | decide | omega)).trans ?_)) (by rfl)) rfl ?_
      refine zb_end (zg_ireturn rfl (by rfl) ?_) rfl
      exact hQ
  · rw [if_neg (show ¬ x = 0 from z_out (k := 0) ho (by decide) (by decide)), if_neg (show ¬ x = 1 from z_out (k := 1) ho (by decide) (by decide)), if_neg (show ¬ x = 2 from z_out (k := 2) ho (by decide) (by decide)), if_neg (show ¬ x = 3 from z_out (k := 3) ho (by decide) (by decide))] at hQ
    refine zb_end (len := 31) (zg_tableOut 83 ho (by decide) ?_) rfl
    refine kX5_now_83 ?_
    refine zb_go (zg_iconst (-1) (by decide)) rfl ?_
    refine zb_end (zg_ireturn rfl (by rfl) ?_) rfl
    exact hQ
theorem r_X5_crew (hC : cRel h G) (ok : okS G) : zRet K l 5 mX5_crew [.ref 0, .int x] 59 h (some (.int (sCrew G x))) h := by
  refine zRet.of (by decide) (Nat.le_of_ble_eq_true rfl) (fun Q hQ => ?_)
  obtain ⟨p, q, P', N, kf, hpq, hat, hsc, hp, hq, ⟨S, B, hR, hB, hS⟩, hfi, hkf, hk2, hN, hNo, hi0, hi1⟩ := id hC
  have okp := ok.1
  have okt := ok.2.1
  have hpn : p + 5 < 59 := by omega
  have hat' : h 0 = _ := hat
  have h17 := hR.1
  have kH := okp.1
  have kR := okp.2.1
  have hp1 := hp.1
  unfold sCrew at hQ
  refine kX5_crew_0 ?_
  refine zb_go (zg_aload_n rfl) rfl ?_
  refine zb_go (zg_getfield fX5_19 (by first | assumption | decide | omega) (by repeat (first | assumption | exact z_up_self _ _ _ | refine (z_up_ne (by first | decide | omega)).trans ?_)) (by rfl)) rfl ?_
  refine zb_go (zg_iload_n rfl) rfl ?_
  refine zb_callv (r_X2_hasHour hp hpn) lX5_97 (by repeat (first | assumption | exact z_up_self _ _ _ | refine (z_up_ne (by first | decide | omega)).trans ?_)) rfl rfl (by first | assumption | decide | omega) (by decide) rfl (Nat.le_of_ble_eq_true rfl) rfl ?_
  refine zb_br (zg_if_ne (tgt := 13) (by decide)) rfl (fun c => ?_) (fun c => ?_)
  · have c' := zb_n.mp c
    have c : iH G x := c'
    rw [zite_t c] at hQ
    obtain ⟨g, hg, rfl⟩ := z_isIx (by omega) c
    rw [nI_clamp (by omega)] at hQ
    refine kX5_crew_13 ?_
    refine zb_go (zg_aload_n rfl) rfl ?_
    refine zb_go (zg_getfield fX5_19 (by first | assumption | decide | omega) (by repeat (first | assumption | exact z_up_self _ _ _ | refine (z_up_ne (by first | decide | omega)).trans ?_)) (by rfl)) rfl ?_
    refine zb_go (zg_iload_n rfl) rfl ?_
    refine zb_calls (r_X0_most hp hpn okp hg) lX5_165 rfl (by decide) rfl (Nat.le_of_ble_eq_true rfl) rfl ?_
    refine zb_end (zg_ireturn rfl (by rfl) ?_) rfl
    exact hQ
  · have c' := zb_0.mp c
    rw [zite_f (show ¬ iH G x from c')] at hQ
    refine zb_go (zg_iconst (-1) (by decide)) rfl ?_
    refine zb_end (zg_ireturn rfl (by rfl) ?_) rfl
    exact hQ
theorem r_X5_bars (hC : cRel h G) (ok : okS G) : zRet K l 5 mX5_bars [.ref 0, .int x] 59 h (some (.int (sBars G x))) h := by
  refine zRet.of (by decide) (Nat.le_of_ble_eq_true rfl) (fun Q hQ => ?_)
  obtain ⟨p, q, P', N, kf, hpq, hat, hsc, hp, hq, ⟨S, B, hR, hB, hS⟩, hfi, hkf, hk2, hN, hNo, hi0, hi1⟩ := id hC
  have okp := ok.1
  have okt := ok.2.1
  have hpn : p + 5 < 59 := by omega
  have hat' : h 0 = _ := hat
  have h17 := hR.1
  have kH := okp.1
  have kR := okp.2.1
  have hp1 := hp.1
  unfold sBars at hQ
  refine kX5_bars_0 ?_
  refine zb_go (zg_aload_n rfl) rfl ?_
  refine zb_go (zg_getfield fX5_19 (by first | assumption | decide | omega) (by repeat (first | assumption | exact z_up_self _ _ _ | refine (z_up_ne (by first | decide | omega)).trans ?_)) (by rfl)) rfl ?_
  refine zb_go (zg_iload_n rfl) rfl ?_
  refine zb_callv (r_X2_hasHour hp hpn) lX5_97 (by repeat (first | assumption | exact z_up_self _ _ _ | refine (z_up_ne (by first | decide | omega)).trans ?_)) rfl rfl (by first | assumption | decide | omega) (by decide) rfl (Nat.le_of_ble_eq_true rfl) rfl ?_
  refine zb_br (zg_if_ne (tgt := 13) (by decide)) rfl (fun c => ?_) (fun c => ?_)
  · have c' := zb_n.mp c
    have c : iH G x := c'
    rw [zite_t c] at hQ
    obtain ⟨g, hg, rfl⟩ := z_isIx (by omega) c
    rw [nI_clamp (by omega)] at hQ
    refine kX5_bars_13 ?_
    refine zb_go (zg_aload_n rfl) rfl ?_
    refine zb_go (zg_getfield fX5_19 (by first | assumption | decide | omega) (by repeat (first | assumption | exact z_up_self _ _ _ | refine (z_up_ne (by first | decide | omega)).trans ?_)) (by rfl)) rfl ?_
    refine zb_go (zg_iload_n rfl) rfl ?_
    refine zb_go (zg_bipush 63 (by decide)) rfl ?_
    refine zb_callsx (r_X0_firstBar (am := 63) hp hpn okp hg (by decide)) lX5_170 rfl (by decide) rfl (Nat.le_of_ble_eq_true rfl) rfl ?_
    rintro v h' ⟨rfl, hv⟩
    rcases hv with ⟨s, h1, h2, h3, h4, rfl⟩ | ⟨h4, rfl⟩
    · rw [zfst_some (p := fun s => decide (sLost (gP G) g 63 s ≠ 0)) h2 (decide_eq_true h3) (fun i hi => decide_eq_false (fun z => z (h4 i hi)))] at hQ
      refine zb_end (zg_ireturn rfl (by rfl) ?_) rfl
      exact hQ
    · rw [zfst_none (p := fun s => decide (sLost (gP G) g 63 s ≠ 0)) (fun i hi => decide_eq_false (fun z => z (h4 i hi)))] at hQ
      refine zb_end (zg_ireturn rfl (by rfl) ?_) rfl
      exact hQ
  · have c' := zb_0.mp c
    rw [zite_f (show ¬ iH G x from c')] at hQ
    refine zb_go (zg_iconst (-1) (by decide)) rfl ?_
    refine zb_end (zg_ireturn rfl (by rfl) ?_) rfl
    exact hQ
theorem r_X5_odds (hC : cRel h G) (ok : okS G) : zRet K l 6 mX5_odds [.ref 0, .int x, .int y] 59 h (some (.int (sOdd G x y))) h := by
  refine zRet.of (by decide) (Nat.le_of_ble_eq_true rfl) (fun Q hQ => ?_)
  obtain ⟨p, q, P', N, kf, hpq, hat, hsc, hp, hq, ⟨S, B, hR, hB, hS⟩, hfi, hkf, hk2, hN, hNo, hi0, hi1⟩ := id hC
  have okp := ok.1
  have okt := ok.2.1
  have hpn : p + 5 < 59 := by omega
  have hat' : h 0 = _ := hat
  have h17 := hR.1
  have kH := okp.1
  have kR := okp.2.1
  have hp1 := hp.1
  unfold sOdd at hQ
  have bad : ¬ (iH G x ∧ 0 ≤ y ∧ y ≤ 1) → zGo K l 6 mX5_odds 20 (lv_args 0 [.ref 0, .int x, .int y]) [] 59 h 0 0 Q := by
    intro hn
    rw [zite_f hn] at hQ
    refine kX5_odds_20 ?_
    refine zb_go (zg_iconst (-1) (by decide)) rfl ?_
    refine zb_end (zg_ireturn rfl (by rfl) ?_) rfl
    exact hQ
  refine kX5_odds_0 ?_
  refine zb_go (zg_aload_n rfl) rfl ?_
  refine zb_go (zg_getfield fX5_19 (by first | assumption | decide | omega) (by repeat (first | assumption | exact z_up_self _ _ _ | refine (z_up_ne (by first | decide | omega)).trans ?_)) (by rfl)) rfl ?_
  refine zb_go (zg_iload_n rfl) rfl ?_
  refine zb_callv (r_X2_hasHour hp hpn) lX5_97 (by repeat (first | assumption | exact z_up_self _ _ _ | refine (z_up_ne (by first | decide | omega)).trans ?_)) rfl rfl (by first | assumption | decide | omega) (by decide) rfl (Nat.le_of_ble_eq_true rfl) rfl ?_
  refine zb_br (zg_if_eq (tgt := 20) (by decide)) rfl (fun c0 => ?_) (fun c0 => ?_)
  · have c0 := zb_0.mp c0
    exact bad (fun q => c0 q.1)
  · have c0' := zb_n.mp c0
    have c0 : iH G x := c0'
    refine zb_go (zg_iload_n rfl) rfl ?_
    refine zb_br (zg_if_lt (tgt := 20) (by decide)) rfl (fun c1 => ?_) (fun c1 => ?_)
    · exact bad (fun q => Int32.not_le.mpr c1 q.2.1)
    · refine zb_go (zg_iload_n rfl) rfl ?_
      refine zb_go (zg_iconst 1 (by decide)) rfl ?_
      refine zb_br (zg_icmp_le (tgt := 22) (by decide)) rfl (fun c2 => ?_) (fun c2 => ?_)
      · rw [zite_t ⟨c0, Int32.not_lt.mp c1, c2⟩] at hQ
        obtain ⟨g, hg, rfl⟩ := z_isIx (by omega) c0
        rw [nI_clamp (by omega)] at hQ
        have hup : sOddN (gP G) g ≤ 64 * 10 ^ pR (gP G) := Nat.le_trans (sOdds_le okp _) (Nat.mul_le_mul_right _ (Nat.pow_le_pow_right (by decide) kR : 2 ^ pR (gP G) ≤ 2 ^ 6))
        have h10 : 10 ^ pR (gP G) ≤ 10 ^ 6 := Nat.pow_le_pow_right (by decide) kR
        have h1 : 0 < 10 ^ pR (gP G) := Nat.pow_pos (by decide)
        have hc0 : 0 < Nat.gcd (sOddN (gP G) g) (10 ^ pR (gP G)) := Nat.gcd_pos_of_pos_right _ h1
        have hc1 : Nat.gcd (sOddN (gP G) g) (10 ^ pR (gP G)) ≤ 10 ^ pR (gP G) := Nat.gcd_le_right _ h1
        refine kX5_odds_22 ?_
        refine zb_go (zg_aload_n rfl) rfl ?_
        refine zb_go (zg_getfield fX5_19 (by first | assumption | decide | omega) (by repeat (first | assumption | exact z_up_self _ _ _ | refine (z_up_ne (by first | decide | omega)).trans ?_)) (by rfl)) rfl ?_
        refine zb_go (zg_iload_n rfl) rfl ?_
        refine zb_calls (r_X0_fullWeight hp hpn okp hg) lX5_196 rfl (by decide) rfl (Nat.le_of_ble_eq_true rfl) rfl ?_
        refine zb_go (zg_istore_n (by decide)) rfl ?_
        refine zb_go (zg_aload_n rfl) rfl ?_
        refine zb_go (zg_getfield fX5_19 (by first | assumption | decide | omega) (by repeat (first | assumption | exact z_up_self _ _ _ | refine (z_up_ne (by first | decide | omega)).trans ?_)) (by rfl)) rfl ?_
        refine zb_callv (r_X2_weightInAll hp hpn okp) lX5_199 (by repeat (first | assumption | exact z_up_self _ _ _ | refine (z_up_ne (by first | decide | omega)).trans ?_)) rfl rfl (by first | assumption | decide | omega) (by decide) rfl (Nat.le_of_ble_eq_true rfl) rfl ?_
        refine zb_go (zg_istore (by decide)) rfl ?_
        refine zb_go (zg_iload_n rfl) rfl ?_
        refine zb_go (zg_iload rfl) rfl ?_
        refine zb_calls (r_X5_commonDivisor (a := sOddN (gP G) g) (by omega) h1 (by omega)) lX5_202 rfl (by decide) rfl (Nat.le_of_ble_eq_true rfl) rfl ?_
        refine zb_go (zg_istore (by decide)) rfl ?_
        refine zb_go (zg_iload rfl) rfl ?_
        refine zb_go (zg_iconst 1 (by decide)) rfl ?_
        refine zb_br (zg_icmp_ge (tgt := 56) (by decide)) rfl (fun c3 => ?_) (fun c3 => ?_)
        · refine kX5_odds_56 ?_
          refine zb_go (zg_iload_n rfl) rfl ?_
          refine zb_br (zg_if_ne (tgt := 67) (by decide)) rfl (fun c4 => ?_) (fun c4 => ?_)
          · rw [if_neg c4, ← pk_div (by omega) hc0 (by omega)] at hQ
            refine kX5_odds_67 ?_
            refine zb_go (zg_iload rfl) rfl ?_
            refine zb_go (zg_iload rfl) rfl ?_
            refine zb_go (zg_idiv (nI_ne0 hc0 (by omega))) rfl ?_
            refine zb_out ?_
            refine kX5_odds_72 ?_
            refine zb_end (zg_ireturn rfl (by rfl) ?_) rfl
            exact hQ
          · rw [if_pos c4, ← pk_div (by omega) hc0 (by omega)] at hQ
            refine zb_go (zg_iload_n rfl) rfl ?_
            refine zb_go (zg_iload rfl) rfl ?_
            refine zb_go (zg_idiv (nI_ne0 hc0 (by omega))) rfl ?_
            refine zb_end (zg_goto (tgt := 72) (by decide) ?_) rfl
            refine kX5_odds_72 ?_
            refine zb_end (zg_ireturn rfl (by rfl) ?_) rfl
            exact hQ
        · exact absurd (nI_le (show 1 ≤ Nat.gcd (sOddN (gP G) g) (10 ^ pR (gP G)) from hc0) (by omega)) c3
      · refine zb_out ?_
        refine kX5_odds_20 ?_
        refine zb_go (zg_iconst (-1) (by decide)) rfl ?_
        refine zb_end (zg_ireturn rfl (by rfl) ?_) rfl
        rw [zite_f (fun q => c2 q.2.2)] at hQ
        exact hQ
theorem r_X5_stands (hC : cRel h G) (ok : okS G) : zRet K l 5 mX5_stands [.ref 0, .int x] 59 h (some (.int (sStands G x))) h := by
  refine zRet.of (by decide) (Nat.le_of_ble_eq_true rfl) (fun Q hQ => ?_)
  obtain ⟨p, q, P', N, kf, hpq, hat, hsc, hp, hq, ⟨S, B, hR, hB, hS⟩, hfi, hkf, hk2, hN, hNo, hi0, hi1⟩ := id hC
  have okp := ok.1
  have okt := ok.2.1
  have hpn : p + 5 < 59 := by omega
  have hat' : h 0 = _ := hat
  have h17 := hR.1
  have kH := okp.1
  have kR := okp.2.1
  have hp1 := hp.1
  unfold sStands at hQ
  refine kX5_stands_0 ?_
  refine zb_go (zg_iload_n rfl) rfl ?_
  refine zb_br (zg_if_lt (tgt := 9) (by decide)) rfl (fun c0 => ?_) (fun c0 => ?_)
  · rw [zite_f (fun q => Int32.not_le.mpr c0 q.1)] at hQ
    refine kX5_stands_9 ?_
    refine zb_go (zg_iconst (-1) (by decide)) rfl ?_
    refine zb_end (zg_ireturn rfl (by rfl) ?_) rfl
    exact hQ
  · refine zb_go (zg_iload_n rfl) rfl ?_
    refine zb_go (zg_iconst 1 (by decide)) rfl ?_
    refine zb_br (zg_icmp_le (tgt := 11) (by decide)) rfl (fun c1 => ?_) (fun c1 => ?_)
    · rw [zite_t ⟨Int32.not_lt.mp c0, c1⟩] at hQ
      have ew := rWalk_eq okp okt hB
      have lp : ∀ k, k ≤ 61 → 1 ≤ k → zGo K l 5 mX5_stands 29 [(0, .ref 0), (1, .int x), (2, .int (nI (zarg (tWalk (gP G) (gT G)) (k - 1)))), (3, .int (nI (tWalk (gP G) (gT G) (zarg (tWalk (gP G) (gT G)) (k - 1))))), (4, .int (nI k))] [] 59 h 0 0 Q := by
        refine z_down 61 (fun k hk ih h1k => ?_)
        have za := zarg_le (tWalk (gP G) (gT G)) (k - 1)
        have zw := tWalk_le (T := gT G) (w := zarg (tWalk (gP G) (gT G)) (k - 1)) okp (by omega)
        refine kX5_stands_29 ?_
        refine zb_go (zg_iload rfl) rfl ?_
        refine zb_go (zg_bipush 60 (by decide)) rfl ?_
        refine zb_br (zg_icmp_gt (tgt := 69) (by decide)) rfl (fun c2 => ?_) (fun c2 => ?_)
        · have e : k = 61 := by
            have := (nI_ltI (a := 60) (b := k) (by decide) (by omega)).mp c2
            omega
          subst e
          refine kX5_stands_69 ?_
          refine zb_go (zg_iload_n rfl) rfl ?_
          refine zb_br (zg_if_ne (tgt := 77) (by decide)) rfl (fun c3 => ?_) (fun c3 => ?_)
          · rw [if_neg c3] at hQ
            refine kX5_stands_77 ?_
            refine zb_go (zg_iload_n rfl) rfl ?_
            refine zb_out ?_
            refine kX5_stands_78 ?_
            refine zb_end (zg_ireturn rfl (by rfl) ?_) rfl
            exact hQ
          · rw [if_pos c3] at hQ
            refine zb_go (zg_iload_n rfl) rfl ?_
            refine zb_end (zg_goto (tgt := 78) (by decide) ?_) rfl
            refine kX5_stands_78 ?_
            refine zb_end (zg_ireturn rfl (by rfl) ?_) rfl
            exact hQ
        · have hk4 : k < 61 := by
            rcases Nat.lt_or_ge k 61 with q | q
            · exact q
            · exact absurd (nI_lt (show 60 < k by omega) (by omega)) c2
          have zw2 := tWalk_le (T := gT G) (w := k) okp (by omega)
          have ez : zarg (tWalk (gP G) (gT G)) k = if tWalk (gP G) (gT G) k < tWalk (gP G) (gT G) (zarg (tWalk (gP G) (gT G)) (k - 1)) then k else zarg (tWalk (gP G) (gT G)) (k - 1) := by
            obtain ⟨j, rfl⟩ : ∃ j, k = j + 1 := ⟨k - 1, by omega⟩
            rfl
          refine zb_go (zg_aload_n rfl) rfl ?_
          refine zb_go (zg_getfield fX5_29 (by first | assumption | decide | omega) (by repeat (first | assumption | exact z_up_self _ _ _ | refine (z_up_ne (by first | decide | omega)).trans ?_)) (by rfl)) rfl ?_
          refine zb_go (zg_aload_n rfl) rfl ?_
          refine zb_go (zg_getfield fX5_19 (by first | assumption | decide | omega) (by repeat (first | assumption | exact z_up_self _ _ _ | refine (z_up_ne (by first | decide | omega)).trans ?_)) (by rfl)) rfl ?_
          refine zb_go (zg_iload rfl) rfl ?_
          refine zb_callv (r_X3_walk hR (by decide) hp hpn okp (show k < 2 ^ 30 by omega)) lX5_158 (by repeat (first | assumption | exact z_up_self _ _ _ | refine (z_up_ne (by first | decide | omega)).trans ?_)) rfl rfl (by first | assumption | decide | omega) (by decide) rfl (Nat.le_of_ble_eq_true rfl) rfl ?_
          rw [ew]
          refine zb_go (zg_istore (by decide)) rfl ?_
          refine zb_go (zg_iload rfl) rfl ?_
          refine zb_go (zg_iload_n rfl) rfl ?_
          refine zb_br (zg_icmp_ge (tgt := 63) (by decide)) rfl (fun c3 => ?_) (fun c3 => ?_)
          · have c3 := (nI_leI (by omega) (by omega)).mp c3
            rw [if_neg (by omega)] at ez
            refine kX5_stands_63 ?_
            refine zb_go (zg_iinc 1 (by decide) rfl (by decide)) rfl ?_
            refine zb_end (zg_goto (tgt := 29) (by decide) ?_) rfl
            rw [nI_1]
            refine zg_keep [0, 1, 2, 3, 4] ?_
            have := ih hk4 (by omega)
            rw [Nat.add_sub_cancel, ez] at this
            exact this
          · have c3 : tWalk (gP G) (gT G) k < tWalk (gP G) (gT G) (zarg (tWalk (gP G) (gT G)) (k - 1)) := by
              rcases Nat.lt_or_ge (tWalk (gP G) (gT G) k) (tWalk (gP G) (gT G) (zarg (tWalk (gP G) (gT G)) (k - 1))) with q | q
              · exact q
              · exact absurd (nI_le q (by omega)) c3
            rw [if_pos c3] at ez
            refine zb_go (zg_iload rfl) rfl ?_
            refine zb_go (zg_istore_n (by decide)) rfl ?_
            refine zb_go (zg_iload rfl) rfl ?_
            refine zb_go (zg_istore_n (by decide)) rfl ?_
            refine zb_out ?_
            refine kX5_stands_63 ?_
            refine zb_go (zg_iinc 1 (by decide) rfl (by decide)) rfl ?_
            refine zb_end (zg_goto (tgt := 29) (by decide) ?_) rfl
            rw [nI_1]
            refine zg_keep [0, 1, 2, 3, 4] ?_
            have := ih hk4 (by omega)
            rw [Nat.add_sub_cancel, ez] at this
            exact this
      refine kX5_stands_11 ?_
      refine zb_go (zg_iconst 0 (by decide)) rfl ?_
      refine zb_go (zg_istore_n (by decide)) rfl ?_
      refine zb_go (zg_aload_n rfl) rfl ?_
      refine zb_go (zg_getfield fX5_29 (by first | assumption | decide | omega) (by repeat (first | assumption | exact z_up_self _ _ _ | refine (z_up_ne (by first | decide | omega)).trans ?_)) (by rfl)) rfl ?_
      refine zb_go (zg_aload_n rfl) rfl ?_
      refine zb_go (zg_getfield fX5_19 (by first | assumption | decide | omega) (by repeat (first | assumption | exact z_up_self _ _ _ | refine (z_up_ne (by first | decide | omega)).trans ?_)) (by rfl)) rfl ?_
      refine zb_go (zg_iconst 0 (by decide)) rfl ?_
      refine zb_callv (r_X3_walk (w := 0) hR (by decide) hp hpn okp (by omega)) lX5_158 (by repeat (first | assumption | exact z_up_self _ _ _ | refine (z_up_ne (by first | decide | omega)).trans ?_)) rfl rfl (by first | assumption | decide | omega) (by decide) rfl (Nat.le_of_ble_eq_true rfl) rfl ?_
      rw [ew]
      refine zb_go (zg_istore_n (by decide)) rfl ?_
      refine zb_go (zg_iconst 1 (by decide)) rfl ?_
      refine zb_go (zg_istore (by decide)) rfl ?_
      refine zb_out ?_
      exact lp 1 (by omega) (by omega)
    · rw [zite_f (fun q => c1 q.2)] at hQ
      refine zb_out ?_
      refine kX5_stands_9 ?_
      refine zb_go (zg_iconst (-1) (by decide)) rfl ?_
      refine zb_end (zg_ireturn rfl (by rfl) ?_) rfl
      exact hQ
end
end
section
/-! THE CLASS (5): moves, heard, forget, away, exchange -/
def tPlace (T : zT) (w : Nat) : zT := (T.1, w, T.2.2)
def tHear (T : zT) (g v : Nat) : zT := (T.1, T.2.1, zupd T.2.2 g v)
def tDeaf (T : zT) : zT := (T.1, T.2.1, fun _ => 0)
noncomputable def sMoves (G : zS) (x : Int32) : Int32 × zS := zite (0 ≤ x ∧ x ≤ 60) (nI (gT G).2.1, wT G (tPlace (gT G) x.toNatClampNeg)) (-1, G)
noncomputable def sHeard (G : zS) (x y : Int32) : Int32 × zS := zite (iH G x ∧ 0 ≤ y ∧ y ≤ 3) (heardI (gT G) x.toNatClampNeg, wT G (tHear (gT G) x.toNatClampNeg (y.toNatClampNeg + 1))) (-1, G)
def sForget (G : zS) : Int32 × zS := (nI (zcnt (fun g => decide ((gT G).2.2 g ≠ 0)) 4), wT G (tDeaf (gT G)))
theorem okT.place {P : zP} {T : zT} {w : Nat} (ok : okT P T) (hw : w ≤ 60) : okT P (tPlace T w) := ⟨ok.1, ok.2.1, ok.2.2.1, ok.2.2.2.1, hw, ok.2.2.2.2.2⟩
theorem okT.hear {P : zP} {T : zT} {g v : Nat} (ok : okT P T) (hv : v ≤ 4) : okT P (tHear T g v) := ⟨ok.1, ok.2.1, ok.2.2.1, ok.2.2.2.1, ok.2.2.2.2.1, fun k hk => by
  show zupd T.2.2 g v k ≤ 4
  unfold zupd
  split
  · exact hv
  · exact ok.2.2.2.2.2 k hk⟩
theorem okT.deaf {P : zP} {T : zT} (ok : okT P T) : okT P (tDeaf T) := ⟨ok.1, ok.2.1, ok.2.2.1, ok.2.2.2.1, ok.2.2.2.2.1, fun _ _ => Nat.zero_le _⟩
def nUn (N : zN) : zN := (0, N.2)
theorem nOK.un {P : zP} {tw : Nat} {N : zN} (h : nOK P tw N) (tw' : Nat) : nOK P tw' (nUn N) := by
  obtain ⟨se, ri, ti, re, ch, fe, ev, mi, r⟩ := N
  exact ⟨Or.inl rfl, h.2⟩
/-- whether these ringers can have stayed away -/
def aFit (T : zT) (s : Nat) : Bool := decide (zdif s (tOr T) = 0) && zall (fun q => decide (T.2.2 q = 0) || decide (T.2.2 q = zpop (zdif (tIn T q) s) + 1)) 4
def aWays (T : zT) : Nat → Nat := zcnt (aFit T)
def aSure (T : zT) : Nat → Nat
  | 0 => tOr T
  | k + 1 => if aFit T k then aSure T k &&& k else aSure T k
def aEver (T : zT) : Nat → Nat
  | 0 => 0
  | k + 1 => if aFit T k then aEver T k ||| k else aEver T k
noncomputable def sAway (G : zS) (x : Int32) : Int32 := zite (0 ≤ x ∧ x ≤ 2) (if x = 0 then nI (aWays (gT G) 64) else if x = 1 then (if aWays (gT G) 64 = 0 then 0 else nI (aSure (gT G) 64)) else nI (zdif (tOr (gT G)) (aEver (gT G) 64))) (-1)
theorem rS_fit {S : Nat → Int32} {T : zT} {P : zP} (okt : okT P T) (hS : rS S T) {q m : Nat} (hq : q < 4) (hm : m ≤ 6) : (S q = -9 ∨ S q = nI m) ↔ (T.2.2 q = 0 ∨ T.2.2 q = m + 1) := by
  rw [hS q hq]
  have := okt.2.2.2.2.2 q hq
  by_cases h : T.2.2 q = 0
  · rw [if_pos h]; exact ⟨fun _ => Or.inl h, fun _ => Or.inl rfl⟩
  · rw [if_neg h]
    constructor
    · rintro (z | z)
      · exact absurd z (nI_ne9 (by omega))
      · have := (nI_eq (by omega) (by omega)).mp z
        exact Or.inr (by omega)
    · rintro (z | z)
      · exact absurd z h
      · rw [z]; exact Or.inr rfl
section
variable {K : zK} {l : Launch} {n p q r g : Nat} {h : zH} {x y z : Int32} {G : zS}
theorem r_X1_forTower {N : zN} (hN : isNights h N) : zRex K l 0 mX1_forTower [.ref 22] 59 h (fun v h' => v = none ∧ isNights h' (nUn N) ∧ zSame 22 22 h h') := by
  refine zRex.of (by decide) (Nat.le_of_ble_eq_true rfl) (fun Q hQ => ?_)
  obtain ⟨se, ri, ti, re, ch, fe, ev, mi, sets, sin, pr, lw, am, tn, co, fo, pi⟩ := N
  obtain ⟨h1, h2, h3, h4, h5, h6⟩ := hN
  refine kX1_forTower_0 ?_
  refine zb_go (zg_aload_n rfl) rfl ?_
  refine zb_go (zg_iconst 0 (by decide)) rfl ?_
  refine zb_go (zg_putfield fX1_11 (by first | assumption | decide | omega) (by repeat (first | assumption | exact z_up_self _ _ _ | refine (z_up_ne (by first | decide | omega)).trans ?_)) (by exact Nat.le_of_ble_eq_true rfl) (by rfl) (by rfl) (by first | exact Or.inl rfl | exact Or.inr ⟨rfl, rfl⟩)) rfl ?_
  refine zb_end (zg_return rfl ?_) rfl
  exact hQ _ _ ⟨rfl, ⟨z_up_self _ _ _, (z_up_ne (by decide)).trans h2, (z_up_ne (by decide)).trans h3, (z_up_ne (by decide)).trans h4, (z_up_ne (by decide)).trans h5, (z_up_ne (by decide)).trans h6⟩, zSame.rf.up (by omega) (by omega)⟩
theorem isNights.cell {N : zN} (hN : isNights h N) : h 22 = .inr (0, [.int N.1, .int N.2.1, .int N.2.2.1, .int N.2.2.2.1, .long N.2.2.2.2.1, .int N.2.2.2.2.2.1, .int N.2.2.2.2.2.2.1, .int N.2.2.2.2.2.2.2.1, .ref 23, .ref 24, .ref 25, .ref 26, .int N.2.2.2.2.2.2.2.2.2.2.2.2.1, .int N.2.2.2.2.2.2.2.2.2.2.2.2.2.1, .long N.2.2.2.2.2.2.2.2.2.2.2.2.2.2.1, .long N.2.2.2.2.2.2.2.2.2.2.2.2.2.2.2.1, .ref 27]) := by
  obtain ⟨se, ri, ti, re, ch, fe, ev, mi, sets, sin, pr, lw, am, tn, co, fo, pi⟩ := N
  exact hN.1
theorem isNights.inj {N N' : zN} (hN : isNights h N) (hN' : isNights h N') : N = N' := by
  obtain ⟨se, ri, ti, re, ch, fe, ev, mi, sets, sin, pr, lw, am, tn, co, fo, pi⟩ := N
  obtain ⟨se', ri', ti', re', ch', fe', ev', mi', sets', sin', pr', lw', am', tn', co', fo', pi'⟩ := N'
  obtain ⟨a1, a2, a3, a4, a5, a6⟩ := hN
  obtain ⟨b1, b2, b3, b4, b5, b6⟩ := hN'
  have c1 := a1.symm.trans b1
  have c2 := a2.symm.trans b2
  have c3 := a3.symm.trans b3
  have c4 := a4.symm.trans b4
  have c5 := a5.symm.trans b5
  have c6 := a6.symm.trans b6
  simp only [Sum.inr.injEq, Sum.inl.injEq, Prod.mk.injEq, List.cons.injEq, Value.int.injEq, Value.long.injEq, true_and, and_true] at c1 c2 c3 c4 c5 c6
  obtain ⟨rfl, rfl, rfl, rfl, rfl, rfl, rfl, rfl, rfl, rfl, rfl, rfl⟩ := c1
  subst c2 c3 c4 c5 c6
  rfl
/-- NOW changed, nights unsettled -/
theorem cRel.moved {h h1 h2 : zH} {G : zS} {T : zT} (hC : cRel h G) (s : zSame 17 19 h h1) (hR : cRota h1 17 T) (s2 : zSame 22 22 h1 h2) (hN2 : ∀ N, isNights h1 N → isNights h2 (nUn N)) : cRel h2 (wT G T) := by
  obtain ⟨p, q, P', N, kf, hpq, hat, hsc, hp, hq, hR0, ⟨fi, hfi, hfi2⟩, hkf, hk2, hN, hNo, hi0, hi1⟩ := hC
  exact ⟨p, q, P', nUn N, kf, hpq, (s2 0 (by omega)).trans ((s 0 (by omega)).trans hat), (hsc.same s (by omega)).same s2 (by omega), (hp.same s (by omega)).same s2 (by omega), (hq.same s (by omega)).same s2 (by omega), hR.same s2 (by omega), ⟨fi, (s2 20 (by omega)).trans ((s 20 (by omega)).trans hfi), hfi2⟩, (s2 21 (by omega)).trans ((s 21 (by omega)).trans hkf), hk2, hN2 N (hN.same s (by omega)), hNo.un _, (hi0.same s (by omega)).same s2 (by omega), (hi1.same s (by omega)).same s2 (by omega)⟩
theorem z_le60 (h : 0 ≤ x ∧ x ≤ 60) : ∃ k, k ≤ 60 ∧ x = nI k := by
  obtain ⟨j, hj, rfl⟩ := nI_of (Int32.not_lt.mpr h.1)
  exact ⟨j, (nI_leI (b := 60) hj (by decide)).mp h.2, rfl⟩
theorem z_leN {N : Nat} (hN : N < 2 ^ 31) (h : 0 ≤ x ∧ x ≤ nI N) : ∃ k, k ≤ N ∧ x = nI k := by
  obtain ⟨j, hj, rfl⟩ := nI_of (Int32.not_lt.mpr h.1)
  exact ⟨j, (nI_leI (b := N) hj (by omega)).mp h.2, rfl⟩
theorem r_X5_moves (hC : cRel h G) (ok : okS G) : zRex K l 1 mX5_moves [.ref 0, .int x] 59 h (fun v h' => v = some (.int (sMoves G x).1) ∧ cRel h' (sMoves G x).2 ∧ okS (sMoves G x).2 ∧ zSame 0 33 h h') := by
  refine zRex.of (by decide) (Nat.le_of_ble_eq_true rfl) (fun Q hQ => ?_)
  obtain ⟨p, q, P', N, kf, hpq, hat, hsc, hp, hq, ⟨S, B, hR, hB, hS⟩, hfi, hkf, hk2, hN, hNo, hi0, hi1⟩ := id hC
  have okp := ok.1
  have okt := ok.2.1
  have hpn : p + 5 < 59 := by omega
  have hat' : h 0 = _ := hat
  have h17 := hR.1
  have kH := okp.1
  have kR := okp.2.1
  have hp1 := hp.1
  unfold sMoves at hQ
  refine kX5_moves_0 ?_
  refine zb_go (zg_iload_n rfl) rfl ?_
  refine zb_br (zg_if_lt (tgt := 10) (by decide)) rfl (fun c0 => ?_) (fun c0 => ?_)
  · rw [zite_f (fun q => Int32.not_le.mpr c0 q.1)] at hQ
    refine kX5_moves_10 ?_
    refine zb_go (zg_iconst (-1) (by decide)) rfl ?_
    refine zb_end (zg_ireturn rfl (by rfl) ?_) rfl
    exact hQ _ _ ⟨rfl, hC, ok, zSame.rf⟩
  · refine zb_go (zg_iload_n rfl) rfl ?_
    refine zb_go (zg_bipush 60 (by decide)) rfl ?_
    refine zb_br (zg_icmp_le (tgt := 12) (by decide)) rfl (fun c1 => ?_) (fun c1 => ?_)
    · have c2 : 0 ≤ x ∧ x ≤ 60 := ⟨Int32.not_lt.mp c0, c1⟩
      rw [zite_t c2] at hQ
      obtain ⟨k, hk, rfl⟩ := z_le60 c2
      rw [nI_clamp (by omega)] at hQ
      have gN : isNights (z_up h 17 (.inr (2, [.int (nI (tAll (gT G))), .int (nI k), .ref (17 + 1), .ref (17 + 2)]))) N := hN.same (lo := 17) (hi := 17) (zSame.rf.up (by omega) (by omega)) (by omega)
      have h22 := hN.cell
      refine kX5_moves_12 ?_
      refine zb_go (zg_aload_n rfl) rfl ?_
      refine zb_go (zg_getfield fX5_29 (by first | assumption | decide | omega) (by repeat (first | assumption | exact z_up_self _ _ _ | refine (z_up_ne (by first | decide | omega)).trans ?_)) (by rfl)) rfl ?_
      refine zb_go (zg_getfield fX5_157 (by first | assumption | decide | omega) (by repeat (first | assumption | exact z_up_self _ _ _ | refine (z_up_ne (by first | decide | omega)).trans ?_)) (by rfl)) rfl ?_
      refine zb_go (zg_istore_n (by decide)) rfl ?_
      refine zb_go (zg_aload_n rfl) rfl ?_
      refine zb_go (zg_getfield fX5_29 (by first | assumption | decide | omega) (by repeat (first | assumption | exact z_up_self _ _ _ | refine (z_up_ne (by first | decide | omega)).trans ?_)) (by rfl)) rfl ?_
      refine zb_go (zg_iload_n rfl) rfl ?_
      refine zb_go (zg_putfield fX5_157 (by first | assumption | decide | omega) (by repeat (first | assumption | exact z_up_self _ _ _ | refine (z_up_ne (by first | decide | omega)).trans ?_)) (by exact Nat.le_of_ble_eq_true rfl) (by rfl) (by rfl) (by first | exact Or.inl rfl | exact Or.inr ⟨rfl, rfl⟩)) rfl ?_
      refine zb_go (zg_aload_n rfl) rfl ?_
      refine zb_go (zg_getfield fX5_44 (by first | assumption | decide | omega) (by repeat (first | assumption | exact z_up_self _ _ _ | refine (z_up_ne (by first | decide | omega)).trans ?_)) (by rfl)) rfl ?_
      refine zb_callvx (r_X1_forTower gN) lX5_162 (by repeat (first | assumption | exact z_up_self _ _ _ | refine (z_up_ne (by first | decide | omega)).trans ?_)) rfl rfl (by first | assumption | decide | omega) (by decide) rfl (Nat.le_of_ble_eq_true rfl) rfl ?_
      rintro v h1 ⟨rfl, hN1, hs⟩
      refine zb_go (zg_iload_n rfl) rfl ?_
      refine zb_end (zg_ireturn rfl (by rfl) ?_) rfl
      have s1 : zSame 17 19 h (z_up h 17 (.inr (2, [.int (nI (tAll (gT G))), .int (nI k), .ref (17 + 1), .ref (17 + 2)]))) := zSame.rf.up (by omega) (by omega)
      refine hQ _ _ ⟨rfl, ?_, ok.wT (okt.place hk), (s1.wide (by omega) (by omega)).trans (hs.wide (by omega) (by omega))⟩
      exact hC.moved s1 ⟨S, B, ⟨z_up_self _ _ _, (z_up_ne (by decide)).trans hR.2.1, (z_up_ne (by decide)).trans hR.2.2⟩, hB, hS⟩ hs (fun N' hN' => by rw [hN'.inj gN]; exact hN1)
    · refine zb_out ?_
      refine kX5_moves_10 ?_
      refine zb_go (zg_iconst (-1) (by decide)) rfl ?_
      refine zb_end (zg_ireturn rfl (by rfl) ?_) rfl
      rw [zite_f (fun q => c1 q.2)] at hQ
      exact hQ _ _ ⟨rfl, hC, ok, zSame.rf⟩
theorem z_ixN {N k : Nat} (hk : k < N) (hN : N < 2 ^ 31) : zIx (nI k) N k := zIx.nI hk hN
theorem rS_hear {S : Nat → Int32} {T : zT} {g k : Nat} (hS : rS S T) : rS (upd S g (nI k)) (tHear T g (k + 1)) := by
  intro j hj
  show upd S g (nI k) j = if zupd T.2.2 g (k + 1) j = 0 then -9 else nI (zupd T.2.2 g (k + 1) j - 1)
  by_cases q : j = g
  · rw [q, pk_us, zupd, if_pos rfl, if_neg (by omega), Nat.add_sub_cancel]
  · rw [pk_un q, zupd, if_neg q]
    exact hS j hj
theorem r_X5_heard (hC : cRel h G) (ok : okS G) : zRex K l 1 mX5_heard [.ref 0, .int x, .int y] 59 h (fun v h' => v = some (.int (sHeard G x y).1) ∧ cRel h' (sHeard G x y).2 ∧ okS (sHeard G x y).2 ∧ zSame 0 33 h h') := by
  refine zRex.of (by decide) (Nat.le_of_ble_eq_true rfl) (fun Q hQ => ?_)
  obtain ⟨p, q, P', N, kf, hpq, hat, hsc, hp, hq, ⟨S, B, hR, hB, hS⟩, hfi, hkf, hk2, hN, hNo, hi0, hi1⟩ := id hC
  have okp := ok.1
  have okt := ok.2.1
  have hpn : p + 5 < 59 := by omega
  have hat' : h 0 = _ := hat
  have h17 := hR.1
  have kH := okp.1
  have kR := okp.2.1
  have hp1 := hp.1
  obtain ⟨-, h18, h19⟩ := id hR
  unfold sHeard at hQ
  have bad : ¬ (iH G x ∧ 0 ≤ y ∧ y ≤ 3) → zGo K l 1 mX5_heard 20 (lv_args 0 [.ref 0, .int x, .int y]) [] 59 h 0 0 Q := by
    intro hn
    rw [zite_f hn] at hQ
    refine kX5_heard_20 ?_
    refine zb_go (zg_iconst (-1) (by decide)) rfl ?_
    refine zb_end (zg_ireturn rfl (by rfl) ?_) rfl
    exact hQ _ _ ⟨rfl, hC, ok, zSame.rf⟩
  refine kX5_heard_0 ?_
  refine zb_go (zg_aload_n rfl) rfl ?_
  refine zb_go (zg_getfield fX5_19 (by first | assumption | decide | omega) (by repeat (first | assumption | exact z_up_self _ _ _ | refine (z_up_ne (by first | decide | omega)).trans ?_)) (by rfl)) rfl ?_
  refine zb_go (zg_iload_n rfl) rfl ?_
  refine zb_callv (r_X2_hasHour hp hpn) lX5_97 (by repeat (first | assumption | exact z_up_self _ _ _ | refine (z_up_ne (by first | decide | omega)).trans ?_)) rfl rfl (by first | assumption | decide | omega) (by decide) rfl (Nat.le_of_ble_eq_true rfl) rfl ?_
  refine zb_br (zg_if_eq (tgt := 20) (by decide)) rfl (fun c0 => ?_) (fun c0 => ?_)
  · have c0 := zb_0.mp c0
    exact bad (fun q => c0 q.1)
  · have c0' := zb_n.mp c0
    have c0 : iH G x := c0'
    refine zb_go (zg_iload_n rfl) rfl ?_
    refine zb_br (zg_if_lt (tgt := 20) (by decide)) rfl (fun c1 => ?_) (fun c1 => ?_)
    · exact bad (fun q => Int32.not_le.mpr c1 q.2.1)
    · refine zb_go (zg_iload_n rfl) rfl ?_
      refine zb_go (zg_iconst 3 (by decide)) rfl ?_
      refine zb_br (zg_icmp_le (tgt := 22) (by decide)) rfl (fun c2 => ?_) (fun c2 => ?_)
      · have c3 : 0 ≤ y ∧ y ≤ nI 3 := ⟨Int32.not_lt.mp c1, c2⟩
        rw [zite_t ⟨c0, c3⟩] at hQ
        obtain ⟨g, hg, rfl⟩ := z_isIx (by omega) c0
        obtain ⟨k, hk, rfl⟩ := z_leN (by decide) c3
        rw [nI_clamp (by omega), nI_clamp (by omega)] at hQ
        refine kX5_heard_22 ?_
        refine zb_go (zg_aload_n rfl) rfl ?_
        refine zb_go (zg_getfield fX5_29 (by first | assumption | decide | omega) (by repeat (first | assumption | exact z_up_self _ _ _ | refine (z_up_ne (by first | decide | omega)).trans ?_)) (by rfl)) rfl ?_
        refine zb_go (zg_getfield fX5_111 (by first | assumption | decide | omega) (by repeat (first | assumption | exact z_up_self _ _ _ | refine (z_up_ne (by first | decide | omega)).trans ?_)) (by rfl)) rfl ?_
        refine zb_go (zg_iload_n rfl) rfl ?_
        refine zb_go (zi_iaload (by first | assumption | decide | omega) (by repeat (first | assumption | exact z_up_self _ _ _ | refine (z_up_ne (by first | decide | omega)).trans ?_)) (by first | assumption | exact zIx.nI (by omega) (by decide) | exact ⟨by decide, by decide⟩)) rfl ?_
        refine zb_go (zg_istore_n (by decide)) rfl ?_
        refine zb_go (zg_aload_n rfl) rfl ?_
        refine zb_go (zg_getfield fX5_29 (by first | assumption | decide | omega) (by repeat (first | assumption | exact z_up_self _ _ _ | refine (z_up_ne (by first | decide | omega)).trans ?_)) (by rfl)) rfl ?_
        refine zb_go (zg_getfield fX5_111 (by first | assumption | decide | omega) (by repeat (first | assumption | exact z_up_self _ _ _ | refine (z_up_ne (by first | decide | omega)).trans ?_)) (by rfl)) rfl ?_
        refine zb_go (zg_iload_n rfl) rfl ?_
        refine zb_go (zg_iload_n rfl) rfl ?_
        refine zb_go (zi_iastore (by first | assumption | decide | omega) (by repeat (first | assumption | exact z_up_self _ _ _ | refine (z_up_ne (by first | decide | omega)).trans ?_)) (by first | assumption | exact zIx.nI (by omega) (by decide) | exact ⟨by decide, by decide⟩)) rfl ?_
        refine zb_go (zg_iload_n rfl) rfl ?_
        refine zb_end (zg_ireturn rfl (by rfl) ?_) rfl
        rw [hS g (by omega)]
        have s1 : zSame 17 19 h (z_up h (17 + 1) (.inl (0, 4, .inl (upd S g (nI k))))) := zSame.rf.up (by omega) (by omega)
        refine hQ _ _ ⟨rfl, hC.rota s1 ⟨upd S g (nI k), B, ⟨(z_up_ne (by decide)).trans hR.1, z_up_self _ _ _, (z_up_ne (by decide)).trans hR.2.2⟩, hB, rS_hear hS⟩ rfl, ok.wT (okt.hear (by omega)), s1.wide (by omega) (by omega)⟩
      · refine zb_out ?_
        refine kX5_heard_20 ?_
        refine zb_go (zg_iconst (-1) (by decide)) rfl ?_
        refine zb_end (zg_ireturn rfl (by rfl) ?_) rfl
        rw [zite_f (fun q => c2 q.2.2)] at hQ
        exact hQ _ _ ⟨rfl, hC, ok, zSame.rf⟩
theorem r_X5_forget (hC : cRel h G) (ok : okS G) : zRex K l 0 mX5_forget [.ref 0] 59 h (fun v h' => v = some (.int (sForget G).1) ∧ cRel h' (sForget G).2 ∧ okS (sForget G).2 ∧ zSame 0 33 h h') := by
  refine zRex.of (by decide) (Nat.le_of_ble_eq_true rfl) (fun Q hQ => ?_)
  obtain ⟨p, q, P', N, kf, hpq, hat, hsc, hp, hq, ⟨S, B, hR, hB, hS⟩, hfi, hkf, hk2, hN, hNo, hi0, hi1⟩ := id hC
  have okp := ok.1
  have okt := ok.2.1
  have hpn : p + 5 < 59 := by omega
  have hat' : h 0 = _ := hat
  have h17 := hR.1
  have kH := okp.1
  have kR := okp.2.1
  have hp1 := hp.1
  have lp : ∀ k, k ≤ 4 → ∀ h0 S', isRota h0 17 (nI (tAll (gT G))) (nI (gT G).2.1) S' B → (∀ j, j < k → S' j = -9) → (∀ j, k ≤ j → j < 4 → S' j = S j) → zSame 17 19 h h0 → zGo K l 0 mX5_forget 4 [(0, .ref 0), (1, .int (nI (zcnt (fun g => decide ((gT G).2.2 g ≠ 0)) k))), (2, .int (nI k))] [] 59 h0 0 0 Q := by
    refine z_down 4 (fun k hk ih h0 S' hR0 hS1 hS2 hs => ?_)
    obtain ⟨g1, g2, g3⟩ := id hR0
    have gat : h0 0 = _ := (hs 0 (by omega)).trans hat'
    refine kX5_forget_4 ?_
    refine zb_go (zg_iload_n rfl) rfl ?_
    refine zb_go (zg_iconst 4 (by decide)) rfl ?_
    refine zb_br (zg_icmp_ge (tgt := 43) (by decide)) rfl (fun c => ?_) (fun c => ?_)
    · have e : k = 4 := by
        have := (nI_leI (a := 4) (b := k) (by decide) (by omega)).mp c
        omega
      subst e
      refine kX5_forget_43 ?_
      refine zb_go (zg_iload_n rfl) rfl ?_
      refine zb_end (zg_ireturn rfl (by rfl) ?_) rfl
      exact hQ _ _ ⟨rfl, hC.rota hs ⟨S', B, hR0, hB, fun j hj => by rw [hS1 j hj]; rfl⟩ rfl, ok.wT okt.deaf, hs.wide (by omega) (by omega)⟩
    · have hk4 : k < 4 := Nat.not_le.mp (fun q => c (nI_le q (by omega)))
      have e9 : S' k = -9 ↔ (gT G).2.2 k = 0 := by
        rw [hS2 k (Nat.le_refl _) hk4, hS k hk4]
        have := okt.2.2.2.2.2 k hk4
        by_cases q : (gT G).2.2 k = 0
        · rw [if_pos q]; exact ⟨fun _ => q, fun _ => rfl⟩
        · rw [if_neg q]; exact ⟨fun z => absurd z (nI_ne9 (by omega)), fun z => absurd z q⟩
      refine zb_go (zg_aload_n rfl) rfl ?_
      refine zb_go (zg_getfield fX5_29 (by first | assumption | decide | omega) (by repeat (first | assumption | exact z_up_self _ _ _ | refine (z_up_ne (by first | decide | omega)).trans ?_)) (by rfl)) rfl ?_
      refine zb_go (zg_getfield fX5_111 (by first | assumption | decide | omega) (by repeat (first | assumption | exact z_up_self _ _ _ | refine (z_up_ne (by first | decide | omega)).trans ?_)) (by rfl)) rfl ?_
      refine zb_go (zg_iload_n rfl) rfl ?_
      refine zb_go (zi_iaload (by first | assumption | decide | omega) (by repeat (first | assumption | exact z_up_self _ _ _ | refine (z_up_ne (by first | decide | omega)).trans ?_)) (by first | assumption | exact zIx.nI (by omega) (by decide) | exact ⟨by decide, by decide⟩)) rfl ?_
      refine zb_go (zg_bipush (-9) (by decide)) rfl ?_
      refine zb_br (zg_icmp_eq (tgt := 37) (by decide)) rfl (fun c1 => ?_) (fun c1 => ?_)
      · have z0 := e9.mp c1
        have e : zcnt (fun g => decide ((gT G).2.2 g ≠ 0)) (k + 1) = zcnt (fun g => decide ((gT G).2.2 g ≠ 0)) k := by simp [zcnt, z0]
        refine kX5_forget_37 ?_
        refine zb_go (zg_iinc 1 (by decide) rfl (by decide)) rfl ?_
        refine zb_end (zg_goto (tgt := 4) (by decide) ?_) rfl
        rw [nI_1, ← e]
        refine ih hk4 h0 S' hR0 (fun j hj => ?_) (fun j h1 h2 => hS2 j (by omega) h2) hs
        rcases Nat.lt_or_ge j k with q | q
        · exact hS1 j q
        · rw [show j = k by omega]; exact c1
      · have z0 : (gT G).2.2 k ≠ 0 := fun q => c1 (e9.mpr q)
        have e : zcnt (fun g => decide ((gT G).2.2 g ≠ 0)) (k + 1) = zcnt (fun g => decide ((gT G).2.2 g ≠ 0)) k + 1 := by simp [zcnt, z0]
        refine zb_go (zg_iinc 1 (by decide) rfl (by decide)) rfl ?_
        refine zb_go (zg_aload_n rfl) rfl ?_
        refine zb_go (zg_getfield fX5_29 (by first | assumption | decide | omega) (by repeat (first | assumption | exact z_up_self _ _ _ | refine (z_up_ne (by first | decide | omega)).trans ?_)) (by rfl)) rfl ?_
        refine zb_go (zg_getfield fX5_111 (by first | assumption | decide | omega) (by repeat (first | assumption | exact z_up_self _ _ _ | refine (z_up_ne (by first | decide | omega)).trans ?_)) (by rfl)) rfl ?_
        refine zb_go (zg_iload_n rfl) rfl ?_
        refine zb_go (zg_bipush (-9) (by decide)) rfl ?_
        refine zb_go (zi_iastore (by first | assumption | decide | omega) (by repeat (first | assumption | exact z_up_self _ _ _ | refine (z_up_ne (by first | decide | omega)).trans ?_)) (by first | assumption | exact zIx.nI (by omega) (by decide) | exact ⟨by decide, by decide⟩)) rfl ?_
        refine zb_out ?_
        refine kX5_forget_37 ?_
        refine zb_go (zg_iinc 1 (by decide) rfl (by decide)) rfl ?_
        refine zb_end (zg_goto (tgt := 4) (by decide) ?_) rfl
        rw [nI_1, nI_1, ← e]
        refine ih hk4 _ (upd S' k (-9)) ⟨(z_up_ne (by decide)).trans g1, z_up_self _ _ _, (z_up_ne (by decide)).trans g3⟩ (fun j hj => ?_) (fun j h1 h2 => by rw [pk_un (by omega)]; exact hS2 j (by omega) h2) (hs.up (by omega) (by omega))
        rcases Nat.lt_or_ge j k with q | q
        · rw [pk_un (by omega)]; exact hS1 j q
        · rw [show j = k by omega, pk_us]
  refine kX5_forget_0 ?_
  refine zb_go (zg_iconst 0 (by decide)) rfl ?_
  refine zb_go (zg_istore_n (by decide)) rfl ?_
  refine zb_go (zg_iconst 0 (by decide)) rfl ?_
  refine zb_go (zg_istore_n (by decide)) rfl ?_
  refine zb_out ?_
  exact lp 0 (by omega) h S hR (fun j hj => absurd hj (Nat.not_lt_zero _)) (fun _ _ _ => rfl) zSame.rf
theorem aSure_lt (T : zT) (k : Nat) : aSure T k < 64 := by
  induction k with
  | zero => exact tOr_lt T
  | succ k ih =>
    simp only [aSure]
    split
    · exact Nat.lt_of_le_of_lt Nat.and_le_left ih
    · exact ih
theorem r_X5_away (hC : cRel h G) (ok : okS G) : zRet K l 5 mX5_away [.ref 0, .int x] 59 h (some (.int (sAway G x))) h := by
  refine zRet.of (by decide) (Nat.le_of_ble_eq_true rfl) (fun Q hQ => ?_)
  obtain ⟨p, q, P', N, kf, hpq, hat, hsc, hp, hq, ⟨S, B, hR, hB, hS⟩, hfi, hkf, hk2, hN, hNo, hi0, hi1⟩ := id hC
  have okp := ok.1
  have okt := ok.2.1
  have hpn : p + 5 < 59 := by omega
  have hat' : h 0 = _ := hat
  have h17 := hR.1
  have kH := okp.1
  have kR := okp.2.1
  have hp1 := hp.1
  unfold sAway at hQ
  have eAll : zor (fun g => rIn B g 6) 4 = tOr (gT G) := zor_congr (fun g hg => rIn_eq okp okt hB hg)
  have eFit : ∀ s, s < 64 → (zdif s (tOr (gT G)) = 0 → ((∀ q, q < 4 → S q = -9 ∨ S q = nI (zpop (zdif (rIn B q 6) s))) ↔ aFit (gT G) s = true)) := by
    intro s hs h0
    unfold aFit
    rw [decide_eq_true h0, Bool.true_and, zall_iff]
    constructor
    · intro hh q hq
      have := (rS_fit okt hS hq (zpop_le _)).mp (hh q hq)
      rw [rIn_eq okp okt hB hq] at this
      rcases this with z | z
      · rw [decide_eq_true z]; rfl
      · rw [decide_eq_true z, Bool.or_true]
    · intro hh q hq
      have := hh q hq
      simp only [Bool.or_eq_true, decide_eq_true_eq] at this
      rw [← rIn_eq okp okt hB hq] at this
      exact (rS_fit okt hS hq (zpop_le _)).mpr this
  refine kX5_away_0 ?_
  refine zb_go (zg_iload_n rfl) rfl ?_
  refine zb_br (zg_if_lt (tgt := 9) (by decide)) rfl (fun c0 => ?_) (fun c0 => ?_)
  · rw [zite_f (fun q => Int32.not_le.mpr c0 q.1)] at hQ
    refine kX5_away_9 ?_
    refine zb_go (zg_iconst (-1) (by decide)) rfl ?_
    refine zb_end (zg_ireturn rfl (by rfl) ?_) rfl
    exact hQ
  · refine zb_go (zg_iload_n rfl) rfl ?_
    refine zb_go (zg_iconst 2 (by decide)) rfl ?_
    refine zb_br (zg_icmp_le (tgt := 11) (by decide)) rfl (fun c1 => ?_) (fun c1 => ?_)
    · have c2 : 0 ≤ x ∧ x ≤ 2 := ⟨Int32.not_lt.mp c0, c1⟩
      rw [zite_t c2] at hQ
      have lp : ∀ k, k ≤ 64 → zGo K l 5 mX5_away 30 [(0, .ref 0), (1, .int x), (2, .int (nI (tOr (gT G)))), (3, .int (nI (aWays (gT G) k))), (4, .int (nI (aSure (gT G) k))), (5, .int (nI (aEver (gT G) k))), (6, .int (nI k))] [] 59 h 0 0 Q := by
        refine z_down 64 (fun k hk ih => ?_)
        refine kX5_away_30 ?_
        refine zb_go (zg_iload rfl) rfl ?_
        refine zb_go (zg_bipush 64 (by decide)) rfl ?_
        refine zb_br (zg_icmp_ge (tgt := 81) (by decide)) rfl (fun c => ?_) (fun c => ?_)
        · have e : k = 64 := by
            have := (nI_leI (a := 64) (b := k) (by decide) (by omega)).mp c
            omega
          subst e
          refine kX5_away_81 ?_
          refine zb_go (zg_iload_n rfl) rfl ?_
          refine zb_br (zg_if_ne (tgt := 87) (by decide)) rfl (fun c3 => ?_) (fun c3 => ?_)
          · rw [if_neg c3] at hQ
            refine kX5_away_87 ?_
            refine zb_go (zg_iload_n rfl) rfl ?_
            refine zb_go (zg_iconst 1 (by decide)) rfl ?_
            refine zb_br (zg_icmp_ne (tgt := 103) (by decide)) rfl (fun c4 => ?_) (fun c4 => ?_)
            · rw [if_neg c4] at hQ
              refine kX5_away_103 ?_
              refine zb_go (zg_iload_n rfl) rfl ?_
              refine zb_go (zg_iload rfl) rfl ?_
              refine zb_go (zg_iconst (-1) (by decide)) rfl ?_
              refine zb_go zg_ixor rfl ?_
              refine zb_go zg_iand rfl ?_
              refine zb_end (zg_ireturn rfl (by rfl) ?_) rfl
              rw [z_andn]
              exact hQ
            · rw [if_pos c4] at hQ
              have hcl : aWays (gT G) 64 ≤ 64 := zcnt_le _ _
              refine zb_go (zg_iload_n rfl) rfl ?_
              refine zb_br (zg_if_ne (tgt := 100) (by decide)) rfl (fun c5 => ?_) (fun c5 => ?_)
              · rw [if_neg (fun q => c5 (by rw [q]; rfl))] at hQ
                refine kX5_away_100 ?_
                refine zb_go (zg_iload rfl) rfl ?_
                refine zb_out ?_
                refine kX5_away_102 ?_
                refine zb_end (zg_ireturn rfl (by rfl) ?_) rfl
                exact hQ
              · rw [if_pos ((nI_eq (b := 0) (by omega) (by omega)).mp c5)] at hQ
                refine zb_go (zg_iconst 0 (by decide)) rfl ?_
                refine zb_end (zg_goto (tgt := 102) (by decide) ?_) rfl
                refine kX5_away_102 ?_
                refine zb_end (zg_ireturn rfl (by rfl) ?_) rfl
                exact hQ
          · rw [if_pos c3] at hQ
            refine zb_go (zg_iload_n rfl) rfl ?_
            refine zb_end (zg_ireturn rfl (by rfl) ?_) rfl
            exact hQ
        · have hk4 : k < 64 := Nat.not_le.mp (fun q => c (nI_le q (by omega)))
          refine zb_go (zg_iload rfl) rfl ?_
          refine zb_go (zg_iload_n rfl) rfl ?_
          refine zb_go (zg_iconst (-1) (by decide)) rfl ?_
          refine zb_go zg_ixor rfl ?_
          refine zb_go zg_iand rfl ?_
          rw [z_andn]
          have skip : aFit (gT G) k = false → zGo K l 5 mX5_away 75 [(0, .ref 0), (1, .int x), (2, .int (nI (tOr (gT G)))), (3, .int (nI (aWays (gT G) k))), (4, .int (nI (aSure (gT G) k))), (5, .int (nI (aEver (gT G) k))), (6, .int (nI k))] [] 59 h 0 0 Q := by
            intro hf
            refine kX5_away_75 ?_
            refine zb_go (zg_iinc 1 (by decide) rfl (by decide)) rfl ?_
            refine zb_end (zg_goto (tgt := 30) (by decide) ?_) rfl
            rw [nI_1]
            have e1 : aWays (gT G) (k + 1) = aWays (gT G) k := by simp [aWays, zcnt, hf]
            have e2 : aSure (gT G) (k + 1) = aSure (gT G) k := by simp [aSure, hf]
            have e3 : aEver (gT G) (k + 1) = aEver (gT G) k := by simp [aEver, hf]
            rw [← e1, ← e2, ← e3]
            exact ih hk4
          refine zb_br (zg_if_ne (tgt := 75) (by decide)) rfl (fun c3 => ?_) (fun c3 => ?_)
          · refine skip ?_
            have h9 : zdif k (tOr (gT G)) ≠ 0 := fun q => c3 (by rw [q]; rfl)
            unfold aFit
            rw [decide_eq_false h9]; rfl
          · have h9 : zdif k (tOr (gT G)) = 0 := (nI_eq (b := 0) (by have := zdif_lt (b := tOr (gT G)) hk4; omega) (by omega)).mp c3
            refine zb_go (zg_aload_n rfl) rfl ?_
            refine zb_go (zg_getfield fX5_29 (by first | assumption | decide | omega) (by repeat (first | assumption | exact z_up_self _ _ _ | refine (z_up_ne (by first | decide | omega)).trans ?_)) (by rfl)) rfl ?_
            refine zb_go (zg_iload rfl) rfl ?_
            refine zb_callvx (r_X3_soundsWithout (s := k) hR (by decide)) lX5_208 (by repeat (first | assumption | exact z_up_self _ _ _ | refine (z_up_ne (by first | decide | omega)).trans ?_)) rfl rfl (by first | assumption | decide | omega) (by decide) rfl (Nat.le_of_ble_eq_true rfl) rfl ?_
            rintro v h' ⟨rfl, hv⟩
            rw [zIf, eFit k hk4 h9] at hv
            rcases hv with ⟨hv, rfl⟩ | ⟨hv, rfl⟩
            · refine zb_br (zg_if_eq (tgt := 75) (by decide)) rfl (fun c4 => ?_) (fun c4 => ?_)
              · exact absurd c4 (by decide)
              · refine zb_go (zg_iinc 1 (by decide) rfl (by decide)) rfl ?_
                refine zb_go (zg_iload rfl) rfl ?_
                refine zb_go (zg_iload rfl) rfl ?_
                refine zb_go zg_iand rfl ?_
                refine zb_go (zg_istore (by decide)) rfl ?_
                refine zb_go (zg_iload rfl) rfl ?_
                refine zb_go (zg_iload rfl) rfl ?_
                refine zb_go zg_ior rfl ?_
                refine zb_go (zg_istore (by decide)) rfl ?_
                refine zb_out ?_
                refine kX5_away_75 ?_
                refine zb_go (zg_iinc 1 (by decide) rfl (by decide)) rfl ?_
                refine zb_end (zg_goto (tgt := 30) (by decide) ?_) rfl
                rw [nI_1, nI_1, z_and, z_or]
                have e1 : aWays (gT G) (k + 1) = aWays (gT G) k + 1 := by simp [aWays, zcnt, hv]
                have e2 : aSure (gT G) (k + 1) = aSure (gT G) k &&& k := by simp [aSure, hv]
                have e3 : aEver (gT G) (k + 1) = aEver (gT G) k ||| k := by simp [aEver, hv]
                rw [← e1, ← e2, ← e3]
                exact ih hk4
            · refine zb_br (zg_if_eq (tgt := 75) (by decide)) rfl (fun c4 => ?_) (fun c4 => ?_)
              · exact skip (by simpa using hv)
              · exact absurd rfl c4
      refine kX5_away_11 ?_
      refine zb_go (zg_aload_n rfl) rfl ?_
      refine zb_go (zg_getfield fX5_29 (by first | assumption | decide | omega) (by repeat (first | assumption | exact z_up_self _ _ _ | refine (z_up_ne (by first | decide | omega)).trans ?_)) (by rfl)) rfl ?_
      refine zb_callv (r_X3_ringersAtAll hR (by decide)) lX5_205 (by repeat (first | assumption | exact z_up_self _ _ _ | refine (z_up_ne (by first | decide | omega)).trans ?_)) rfl rfl (by first | assumption | decide | omega) (by decide) rfl (Nat.le_of_ble_eq_true rfl) rfl ?_
      rw [eAll]
      refine zb_go (zg_istore_n (by decide)) rfl ?_
      refine zb_go (zg_iconst 0 (by decide)) rfl ?_
      refine zb_go (zg_istore_n (by decide)) rfl ?_
      refine zb_go (zg_iload_n rfl) rfl ?_
      refine zb_go (zg_istore (by decide)) rfl ?_
      refine zb_go (zg_iconst 0 (by decide)) rfl ?_
      refine zb_go (zg_istore (by decide)) rfl ?_
      refine zb_go (zg_iconst 0 (by decide)) rfl ?_
      refine zb_go (zg_istore (by decide)) rfl ?_
      refine zb_out ?_
      exact lp 0 (Nat.zero_le _)
    · refine zb_out ?_
      refine kX5_away_9 ?_
      refine zb_go (zg_iconst (-1) (by decide)) rfl ?_
      refine zb_end (zg_ireturn rfl (by rfl) ?_) rfl
      rw [zite_f (fun q => c1 q.2)] at hQ
      exact hQ
end
end
section
/-! THE CLASS (6): exchange, keep, back, mark -/
def canTake (P : zP) (T : zT) (r q : Nat) : Prop := ∀ g, g < pH P → T.1 q g ≠ 0 → (sBells P r g).testBit (T.1 q g - 1) = true
def tSwap (T : zT) (r q : Nat) : zT := (fun a b => if a = r then T.1 q b else if a = q then T.1 r b else T.1 a b, T.2.1, T.2.2)
noncomputable def sExch (G : zS) (x y : Int32) : Int32 × zS := zite ((iR G x ∧ iR G y) ∧ x ≠ y) (zite (canTake (gP G) (gT G) x.toNatClampNeg y.toNatClampNeg ∧ canTake (gP G) (gT G) y.toNatClampNeg x.toNatClampNeg) (nI (tN (gT G) y.toNatClampNeg + tN (gT G) x.toNatClampNeg), wT G (tSwap (gT G) x.toNatClampNeg y.toNatClampNeg)) (-2, G)) (-1, G)
theorem zsum_set (f : Nat → Nat) (v : Nat) {n r : Nat} (hr : r < n) : zsum (fun i => if i = r then v else f i) n + f r = zsum f n + v := by
  induction n with
  | zero => omega
  | succ n ih =>
    simp only [zsum]
    by_cases q : r = n
    · subst q
      rw [zsum_congr (q := f) (fun i hi => if_neg (by omega)), if_pos rfl]; omega
    · have := ih (by omega)
      rw [if_neg (Ne.symm q)]; omega
theorem tN_swap_r (T : zT) (r q : Nat) : tN (tSwap T r q) r = tN T q := zcnt_congr (fun b _ => by simp [tSwap])
theorem tN_swap_q {T : zT} {r q : Nat} (h : r ≠ q) : tN (tSwap T r q) q = tN T r := zcnt_congr (fun b _ => by simp [tSwap, Ne.symm h])
theorem tN_swap_o {T : zT} {r q a : Nat} (h1 : a ≠ r) (h2 : a ≠ q) : tN (tSwap T r q) a = tN T a := zcnt_congr (fun b _ => by simp [tSwap, h1, h2])
theorem tAll_swap {T : zT} {r q : Nat} (hr : r < 6) (hq : q < 6) (h : r ≠ q) : tAll (tSwap T r q) = tAll T := by
  have e : tAll (tSwap T r q) = zsum (fun i => if i = q then tN T r else if i = r then tN T q else tN T i) 6 := zsum_congr (fun i _ => by
    by_cases h1 : i = q
    · rw [if_pos h1, h1, tN_swap_q h]
    · rw [if_neg h1]
      by_cases h2 : i = r
      · simp only [h2, if_true, tN_swap_r]
      · simp only [h2, if_false, tN_swap_o h2 h1])
  have e1 := zsum_set (fun i => if i = r then tN T q else tN T i) (tN T r) hq
  have e2 := zsum_set (tN T) (tN T q) hr
  simp only [if_neg (Ne.symm h)] at e1
  rw [e]
  unfold tAll
  omega
theorem swap_eq (T : zT) (r q : Nat) (a b : Nat) : (tSwap T r q).1 a b = T.1 (if a = r then q else if a = q then r else a) b := by
  simp only [tSwap]
  split
  · rfl
  · split <;> rfl
theorem okT.swap {P : zP} {T : zT} {r q : Nat} (ok : okT P T) (hr : r < pR P) (hq : q < pR P) (hr6 : r < 6) (hq6 : q < 6) (h1 : canTake P T r q) (h2 : canTake P T q r) : okT P (tSwap T r q) := by
  obtain ⟨o1, o2, o3, o4, o5, o6⟩ := ok
  have e6 : ∀ a, a < 6 → (if a = r then q else if a = q then r else a) < 6 := by
    intro a ha; split
    · exact hq6
    · split
      · exact hr6
      · exact ha
  have einj : ∀ a b, (if a = r then q else if a = q then r else a) = (if b = r then q else if b = q then r else b) → a = b := by
    intro a b h
    split at h <;> split at h <;> (try split at h) <;> (try split at h) <;> omega
  refine ⟨fun a k ha hk h0 => ?_, fun a e k ha he hk h0 hae => ?_, fun a ha => ?_, fun a k j ha hk hj hne z1 z2 => ?_, o5, o6⟩
  · rw [swap_eq] at h0 ⊢
    obtain ⟨p1, p2, p3, p4⟩ := o1 _ k (e6 a ha) hk h0
    by_cases c1 : a = r
    · rw [if_pos c1] at h0 p3 ⊢
      rw [c1]
      exact ⟨hr, p2, p3, h1 k p2 h0⟩
    · rw [if_neg c1] at h0 p1 p3 p4 ⊢
      by_cases c2 : a = q
      · rw [if_pos c2] at h0 p3 ⊢
        rw [c2]
        exact ⟨hq, p2, p3, h2 k p2 h0⟩
      · rw [if_neg c2] at p1 p3 p4 ⊢
        exact ⟨p1, p2, p3, p4⟩
  · rw [swap_eq] at h0 hae
    rw [swap_eq] at hae
    exact einj a e (o2 _ _ k (e6 a ha) (e6 e he) hk h0 hae)
  · by_cases c1 : a = r
    · rw [c1, tN_swap_r]; exact o3 q hq6
    · by_cases c2 : a = q
      · rw [c2, tN_swap_q (fun z => c1 (c2.trans z.symm))]; exact o3 r hr6
      · rw [tN_swap_o c1 c2]; exact o3 a ha
  · rw [swap_eq] at z1 z2
    exact o4 _ k j (e6 a ha) hk hj hne z1 z2
theorem rB_swap {B : Nat → Int32} {T : zT} {r q : Nat} (hr : r < 6) (hq : q < 6) (h : rB B T) : rB (swB B r q 4) (tSwap T r q) := by
  intro a b ha hb
  have d1 : (4 * a + b) / 4 = a := by omega
  have d2 : (4 * a + b) % 4 = b := by omega
  rw [swap_eq]
  simp only [swB, d1, d2, hb, and_true]
  by_cases c1 : a = r
  · rw [if_pos c1, if_pos c1]; exact h q b hq hb
  · rw [if_neg c1, if_neg c1]
    by_cases c2 : a = q
    · rw [if_pos c2, if_pos c2]; exact h r b hr hb
    · rw [if_neg c2, if_neg c2]; exact h a b ha hb
section
variable {K : zK} {l : Launch} {n p q r g : Nat} {h : zH} {x y z : Int32} {G : zS}
theorem r_X5_canTakeOver (hC : cRel h G) (ok : okS G) (hr : r < 6) (hq : q < 6) : zRex K l 3 mX5_canTakeOver [.ref 0, .int (nI r), .int (nI q)] 59 h (fun v h' => h' = h ∧ zIf (canTake (gP G) (gT G) r q) v) := by
  have hqq := hq
  have hrr := hr
  revert hqq hrr
  generalize hqe : q = q0
  intro hrr hqq
  clear hqe
  refine zRex.of (by decide) (Nat.le_of_ble_eq_true rfl) (fun Q hQ => ?_)
  obtain ⟨p, q, P', N, kf, hpq, hat, hsc, hp, hq, ⟨S, B, hR, hB, hS⟩, hfi, hkf, hk2, hN, hNo, hi0, hi1⟩ := id hC
  have okp := ok.1
  have okt := ok.2.1
  have hpn : p + 5 < 59 := by omega
  have hat' : h 0 = _ := hat
  have h17 := hR.1
  have kH := okp.1
  have kR := okp.2.1
  have hp1 := hp.1
  have lp : ∀ k, k ≤ pH (gP G) → (∀ g, g < k → (gT G).1 q0 g ≠ 0 → (sBells (gP G) r g).testBit ((gT G).1 q0 g - 1) = true) → zGo K l 3 mX5_canTakeOver 2 [(0, .ref 0), (1, .int (nI r)), (2, .int (nI q0)), (3, .int (nI k))] [] 59 h 0 0 Q := by
    refine z_down _ (fun k hk ih hn => ?_)
    refine kX5_canTakeOver_2 ?_
    refine zb_go (zg_iload_n rfl) rfl ?_
    refine zb_go (zg_aload_n rfl) rfl ?_
    refine zb_go (zg_getfield fX5_19 (by first | assumption | decide | omega) (by repeat (first | assumption | exact z_up_self _ _ _ | refine (z_up_ne (by first | decide | omega)).trans ?_)) (by rfl)) rfl ?_
    refine zb_go (zg_getfield fX5_150 (by first | assumption | decide | omega) (by repeat (first | assumption | exact z_up_self _ _ _ | refine (z_up_ne (by first | decide | omega)).trans ?_)) (by rfl)) rfl ?_
    refine zb_br (zg_icmp_ge (tgt := 53) (by decide)) rfl (fun c => ?_) (fun c => ?_)
    · have e : k = pH (gP G) := by
        have := (nI_leI (by omega) (by omega)).mp c
        omega
      subst e
      refine kX5_canTakeOver_53 ?_
      refine zb_go (zg_iconst 1 (by decide)) rfl ?_
      refine zb_end (zg_ireturn rfl (by rfl) ?_) rfl
      exact hQ _ _ ⟨rfl, Or.inl ⟨hn, rfl⟩⟩
    · have hk4 : k < pH (gP G) := Nat.not_le.mp (fun q => c (nI_le q (by omega)))
      have le3 := okt.le okp (r := q0) (g := k) (by omega) (by omega)
      have nx : ((gT G).1 q0 k ≠ 0 → (sBells (gP G) r k).testBit ((gT G).1 q0 k - 1) = true) → ∀ g, g < k + 1 → (gT G).1 q0 g ≠ 0 → (sBells (gP G) r g).testBit ((gT G).1 q0 g - 1) = true := by
        intro hz g hg
        rcases Nat.lt_or_ge g k with z | z
        · exact hn g z
        · rw [show g = k by omega]; exact hz
      refine zb_go (zg_aload_n rfl) rfl ?_
      refine zb_go (zg_getfield fX5_29 (by first | assumption | decide | omega) (by repeat (first | assumption | exact z_up_self _ _ _ | refine (z_up_ne (by first | decide | omega)).trans ?_)) (by rfl)) rfl ?_
      refine zb_go (zg_iload_n rfl) rfl ?_
      refine zb_go (zg_iload_n rfl) rfl ?_
      refine zb_callv (r_X3_bellOf hR (by decide) (show q0 < 6 by omega) (show k < 4 by omega)) lX5_137 (by repeat (first | assumption | exact z_up_self _ _ _ | refine (z_up_ne (by first | decide | omega)).trans ?_)) rfl rfl (by first | assumption | decide | omega) (by decide) rfl (Nat.le_of_ble_eq_true rfl) rfl ?_
      refine zb_go (zg_istore (by decide)) rfl ?_
      refine zb_go (zg_iload rfl) rfl ?_
      refine zb_go (zg_bipush (-9) (by decide)) rfl ?_
      refine zb_br (zg_icmp_eq (tgt := 47) (by decide)) rfl (fun c1 => ?_) (fun c1 => ?_)
      · have h0 : (gT G).1 q0 k = 0 := by
          rcases Nat.eq_zero_or_pos ((gT G).1 q0 k) with z | z
          · exact z
          · exact absurd c1 ((rB_ne okp okt hB (by omega) (by omega)).mpr (by omega))
        refine kX5_canTakeOver_47 ?_
        refine zb_go (zg_iinc 1 (by decide) rfl (by decide)) rfl ?_
        refine zb_end (zg_goto (tgt := 2) (by decide) ?_) rfl
        rw [nI_1]
        refine zg_keep [0, 1, 2, 3] ?_
        exact ih hk4 (nx (fun z => absurd h0 z))
      · have h0 := (rB_ne okp okt hB (r := q0) (g := k) (by omega) (by omega)).mp c1
        have eB : B (4 * q0 + k) = nI ((gT G).1 q0 k - 1) := by rw [hB q0 k (by omega) (by omega), if_neg h0]
        have hw := (okt.1 q0 k (by omega) (by omega) h0).2.2.1
        rw [eB]
        refine zb_go (zg_aload_n rfl) rfl ?_
        refine zb_go (zg_getfield fX5_19 (by first | assumption | decide | omega) (by repeat (first | assumption | exact z_up_self _ _ _ | refine (z_up_ne (by first | decide | omega)).trans ?_)) (by rfl)) rfl ?_
        refine zb_go (zg_iload_n rfl) rfl ?_
        refine zb_go (zg_iload_n rfl) rfl ?_
        refine zb_go (zg_iload rfl) rfl ?_
        refine zb_callv (r_X2_canRing (r := r) (g := k) (b := (gT G).1 q0 k - 1) hp hpn okp (by omega) (by omega) (by omega)) lX5_118 (by repeat (first | assumption | exact z_up_self _ _ _ | refine (z_up_ne (by first | decide | omega)).trans ?_)) rfl rfl (by first | assumption | decide | omega) (by decide) rfl (Nat.le_of_ble_eq_true rfl) rfl ?_
        refine zb_br (zg_if_ne (tgt := 47) (by decide)) rfl (fun c2 => ?_) (fun c2 => ?_)
        · refine kX5_canTakeOver_47 ?_
          refine zb_go (zg_iinc 1 (by decide) rfl (by decide)) rfl ?_
          refine zb_end (zg_goto (tgt := 2) (by decide) ?_) rfl
          rw [nI_1]
          refine zg_keep [0, 1, 2, 3] ?_
          exact ih hk4 (nx (fun _ => (zb_n.mp c2).2))
        · refine zb_go (zg_iconst 0 (by decide)) rfl ?_
          refine zb_end (zg_ireturn rfl (by rfl) ?_) rfl
          exact hQ _ _ ⟨rfl, Or.inr ⟨fun z => zb_0.mp c2 ⟨⟨hk4, by omega⟩, z k hk4 h0⟩, rfl⟩⟩
  refine kX5_canTakeOver_0 ?_
  refine zb_go (zg_iconst 0 (by decide)) rfl ?_
  refine zb_go (zg_istore_n (by decide)) rfl ?_
  refine zb_out ?_
  exact lp 0 (Nat.zero_le _) (fun g hg => absurd hg (Nat.not_lt_zero _))
theorem r_X5_exchange (hC : cRel h G) (ok : okS G) : zRex K l 4 mX5_exchange [.ref 0, .int x, .int y] 59 h (fun v h' => v = some (.int (sExch G x y).1) ∧ cRel h' (sExch G x y).2 ∧ okS (sExch G x y).2 ∧ zSame 0 33 h h') := by
  refine zRex.of (by decide) (Nat.le_of_ble_eq_true rfl) (fun Q hQ => ?_)
  obtain ⟨p, q, P', N, kf, hpq, hat, hsc, hp, hq, ⟨S, B, hR, hB, hS⟩, hfi, hkf, hk2, hN, hNo, hi0, hi1⟩ := id hC
  have okp := ok.1
  have okt := ok.2.1
  have hpn : p + 5 < 59 := by omega
  have hat' : h 0 = _ := hat
  have h17 := hR.1
  have kH := okp.1
  have kR := okp.2.1
  have hp1 := hp.1
  unfold sExch at hQ
  have bad : ¬ ((iR G x ∧ iR G y) ∧ x ≠ y) → zGo K l 4 mX5_exchange 27 (lv_args 0 [.ref 0, .int x, .int y]) [] 59 h 0 0 Q := by
    intro hn
    rw [zite_f hn] at hQ
    refine kX5_exchange_27 ?_
    refine zb_go (zg_iconst (-1) (by decide)) rfl ?_
    refine zb_end (zg_ireturn rfl (by rfl) ?_) rfl
    exact hQ _ _ ⟨rfl, hC, ok, zSame.rf⟩
  refine kX5_exchange_0 ?_
  refine zb_go (zg_aload_n rfl) rfl ?_
  refine zb_go (zg_getfield fX5_19 (by first | assumption | decide | omega) (by repeat (first | assumption | exact z_up_self _ _ _ | refine (z_up_ne (by first | decide | omega)).trans ?_)) (by rfl)) rfl ?_
  refine zb_go (zg_iload_n rfl) rfl ?_
  refine zb_callv (r_X2_hasRinger hp hpn) lX5_76 (by repeat (first | assumption | exact z_up_self _ _ _ | refine (z_up_ne (by first | decide | omega)).trans ?_)) rfl rfl (by first | assumption | decide | omega) (by decide) rfl (Nat.le_of_ble_eq_true rfl) rfl ?_
  refine zb_br (zg_if_eq (tgt := 27) (by decide)) rfl (fun c0 => ?_) (fun c0 => ?_)
  · have c0 := zb_0.mp c0
    exact bad (fun q => c0 q.1.1)
  · have c0' := zb_n.mp c0
    have c0 : iR G x := c0'
    refine zb_go (zg_aload_n rfl) rfl ?_
    refine zb_go (zg_getfield fX5_19 (by first | assumption | decide | omega) (by repeat (first | assumption | exact z_up_self _ _ _ | refine (z_up_ne (by first | decide | omega)).trans ?_)) (by rfl)) rfl ?_
    refine zb_go (zg_iload_n rfl) rfl ?_
    refine zb_callv (r_X2_hasRinger hp hpn) lX5_76 (by repeat (first | assumption | exact z_up_self _ _ _ | refine (z_up_ne (by first | decide | omega)).trans ?_)) rfl rfl (by first | assumption | decide | omega) (by decide) rfl (Nat.le_of_ble_eq_true rfl) rfl ?_
    refine zb_br (zg_if_eq (tgt := 27) (by decide)) rfl (fun c1 => ?_) (fun c1 => ?_)
    · have c1 := zb_0.mp c1
      exact bad (fun q => c1 q.1.2)
    · have c1' := zb_n.mp c1
      have c1 : iR G y := c1'
      refine zb_go (zg_iload_n rfl) rfl ?_
      refine zb_go (zg_iload_n rfl) rfl ?_
      refine zb_br (zg_icmp_ne (tgt := 29) (by decide)) rfl (fun c2 => ?_) (fun c2 => ?_)
      · rw [zite_t ⟨⟨c0, c1⟩, c2⟩] at hQ
        obtain ⟨r, hr, rfl⟩ := z_isIx (by omega) c0
        obtain ⟨e, he, rfl⟩ := z_isIx (by omega) c1
        rw [nI_clamp (by omega), nI_clamp (by omega)] at hQ
        have hre : r ≠ e := fun z => c2 (by rw [z])
        have no : ¬ (canTake (gP G) (gT G) r e ∧ canTake (gP G) (gT G) e r) → zGo K l 4 mX5_exchange 47 (lv_args 0 [.ref 0, .int (nI r), .int (nI e)]) [] 59 h 0 0 Q := by
          intro hn
          rw [zite_f hn] at hQ
          refine kX5_exchange_47 ?_
          refine zb_go (zg_bipush (-2) (by decide)) rfl ?_
          refine zb_end (zg_ireturn rfl (by rfl) ?_) rfl
          exact hQ _ _ ⟨rfl, hC, ok, zSame.rf⟩
        refine kX5_exchange_29 ?_
        refine zb_go (zg_aload_n rfl) rfl ?_
        refine zb_go (zg_iload_n rfl) rfl ?_
        refine zb_go (zg_iload_n rfl) rfl ?_
        refine zb_callvx (r_X5_canTakeOver (r := r) (q := e) hC ok (by omega) (by omega)) lX5_144 (by repeat (first | assumption | exact z_up_self _ _ _ | refine (z_up_ne (by first | decide | omega)).trans ?_)) rfl rfl (by first | assumption | decide | omega) (by decide) rfl (Nat.le_of_ble_eq_true rfl) rfl ?_
        rintro v h' ⟨rfl, ⟨t1, rfl⟩ | ⟨t1, rfl⟩⟩
        · refine zb_br (zg_if_eq (tgt := 47) (by decide)) rfl (fun c3 => ?_) (fun c3 => ?_)
          · exact absurd c3 (by decide)
          · refine zb_go (zg_aload_n rfl) rfl ?_
            refine zb_go (zg_iload_n rfl) rfl ?_
            refine zb_go (zg_iload_n rfl) rfl ?_
            refine zb_callvx (r_X5_canTakeOver (r := e) (q := r) hC ok (by omega) (by omega)) lX5_144 (by repeat (first | assumption | exact z_up_self _ _ _ | refine (z_up_ne (by first | decide | omega)).trans ?_)) rfl rfl (by first | assumption | decide | omega) (by decide) rfl (Nat.le_of_ble_eq_true rfl) rfl ?_
            rintro v h' ⟨rfl, ⟨t2, rfl⟩ | ⟨t2, rfl⟩⟩
            · refine zb_br (zg_if_ne (tgt := 50) (by decide)) rfl (fun c4 => ?_) (fun c4 => ?_)
              · rw [zite_t ⟨t1, t2⟩] at hQ
                refine kX5_exchange_50 ?_
                refine zb_go (zg_aload_n rfl) rfl ?_
                refine zb_go (zg_getfield fX5_29 (by first | assumption | decide | omega) (by repeat (first | assumption | exact z_up_self _ _ _ | refine (z_up_ne (by first | decide | omega)).trans ?_)) (by rfl)) rfl ?_
                refine zb_go (zg_iload_n rfl) rfl ?_
                refine zb_go (zg_iload_n rfl) rfl ?_
                refine zb_callvx (r_X3_swap hR (by decide) (show r < 6 by omega) (show e < 6 by omega) hre) lX5_147 (by repeat (first | assumption | exact z_up_self _ _ _ | refine (z_up_ne (by first | decide | omega)).trans ?_)) rfl rfl (by first | assumption | decide | omega) (by decide) rfl (Nat.le_of_ble_eq_true rfl) rfl ?_
                rintro v h1 ⟨rfl, hR1, hs⟩
                have gat : h1 0 = _ := (hs 0 (by omega)).trans hat'
                have g17 := hR1.1
                have okT' := okt.swap hr he (by omega) (by omega) t1 t2
                have hB' := rB_swap (show r < 6 by omega) (show e < 6 by omega) hB
                refine zb_go (zg_aload_n rfl) rfl ?_
                refine zb_go (zg_getfield fX5_29 (by first | assumption | decide | omega) (by repeat (first | assumption | exact z_up_self _ _ _ | refine (z_up_ne (by first | decide | omega)).trans ?_)) (by rfl)) rfl ?_
                refine zb_go (zg_iload_n rfl) rfl ?_
                refine zb_callv (r_X3_timesOf hR1 (by decide) (show r < 6 by omega)) lX5_93 (by repeat (first | assumption | exact z_up_self _ _ _ | refine (z_up_ne (by first | decide | omega)).trans ?_)) rfl rfl (by first | assumption | decide | omega) (by decide) rfl (Nat.le_of_ble_eq_true rfl) rfl ?_
                refine zb_go (zg_aload_n rfl) rfl ?_
                refine zb_go (zg_getfield fX5_29 (by first | assumption | decide | omega) (by repeat (first | assumption | exact z_up_self _ _ _ | refine (z_up_ne (by first | decide | omega)).trans ?_)) (by rfl)) rfl ?_
                refine zb_go (zg_iload_n rfl) rfl ?_
                refine zb_callv (r_X3_timesOf hR1 (by decide) (show e < 6 by omega)) lX5_93 (by repeat (first | assumption | exact z_up_self _ _ _ | refine (z_up_ne (by first | decide | omega)).trans ?_)) rfl rfl (by first | assumption | decide | omega) (by decide) rfl (Nat.le_of_ble_eq_true rfl) rfl ?_
                refine zb_go zg_iadd rfl ?_
                refine zb_end (zg_ireturn rfl (by rfl) ?_) rfl
                rw [rT_eq okp okT' hB' (by omega), rT_eq okp okT' hB' (by omega), tN_swap_r, tN_swap_q hre, nI_add]
                refine hQ _ _ ⟨rfl, hC.rota hs ⟨S, _, by rw [tAll_swap (by omega) (by omega) hre]; exact hR1, hB', hS⟩ rfl, ok.wT okT', hs.wide (by omega) (by omega)⟩
              · exact absurd c4 (by decide)
            · refine zb_br (zg_if_ne (tgt := 50) (by decide)) rfl (fun c4 => ?_) (fun c4 => ?_)
              · exact absurd rfl c4
              · refine zb_out ?_
                refine kX5_exchange_47 ?_
                refine zb_go (zg_bipush (-2) (by decide)) rfl ?_
                refine zb_end (zg_ireturn rfl (by rfl) ?_) rfl
                rw [zite_f (fun q => t2 q.2)] at hQ
                exact hQ _ _ ⟨rfl, hC, ok, zSame.rf⟩
        · refine zb_br (zg_if_eq (tgt := 47) (by decide)) rfl (fun c3 => ?_) (fun c3 => ?_)
          · exact no (fun q => t1 q.1)
          · exact absurd rfl c3
      · refine zb_out ?_
        refine kX5_exchange_27 ?_
        refine zb_go (zg_iconst (-1) (by decide)) rfl ?_
        refine zb_end (zg_ireturn rfl (by rfl) ?_) rfl
        rw [zite_f (fun q => q.2 c2)] at hQ
        exact hQ _ _ ⟨rfl, hC, ok, zSame.rf⟩
end
end
section
/-! THE CLASS (7): mark, keep, back, clear, type -/
noncomputable def sMark (G : zS) (x y : Int32) : Int32 × zS :=
  zite (iR G y) (
    if x = 0 then (nI (tN (gT G) y.toNatClampNeg), wTr G (gTr G + 1))
    else if x = 1 then (nI (tN (gT G) y.toNatClampNeg) + nI (zpop (pBe (gP G) y.toNatClampNeg)), wTr G (gTr G + 11))
    else if x = 2 then (nI (tN (gT G) y.toNatClampNeg) - nI (zpop (pBu (gP G) y.toNatClampNeg &&& (2 ^ pH (gP G) - 1))), wTr G (gTr G + 101))
    else if x = 3 then ((nI (tN (gT G) y.toNatClampNeg) + nI (zpop (pBe (gP G) y.toNatClampNeg))) * 2, wTr G (gTr G + 1011))
    else if x = 4 then (nI (tN (gT G) y.toNatClampNeg) - nI (zpop (pBu (gP G) y.toNatClampNeg &&& (2 ^ pH (gP G) - 1))) + y, wTr G (gTr G + 10101))
    else if x = 5 then (nI (tN (gT G) y.toNatClampNeg) + nI (zdist (pHo (gP G) y.toNatClampNeg) (gT G).2.1), wTr G (gTr G + 100001))
    else (-1000000, G)) (-1000000, G)
def bupd (f : Nat → Bool) (k : Nat) : Nat → Bool := fun i => if i = k then true else f i
def tupd (f : Nat → zT) (k : Nat) (T : zT) : Nat → zT := fun i => if i = k then T else f i
def wKeep (G : zS) (i : Nat) : zS := (G.1, G.2.1, G.2.2.1, G.2.2.2.1, bupd G.2.2.2.2.1 i, tupd G.2.2.2.2.2.1 i G.2.2.2.1, G.2.2.2.2.2.2)
noncomputable def sKeep (G : zS) (x : Int32) : Int32 × zS := zite (0 ≤ x ∧ x < 2) (nI (tAll (gT G)), wKeep G x.toNatClampNeg) (-1, G)
noncomputable def sBack (G : zS) (x : Int32) : Int32 × zS := zite (0 ≤ x ∧ x < 2) (if gK G x.toNatClampNeg then (nI (tAll (gI G x.toNatClampNeg)), wT G (gI G x.toNatClampNeg)) else (-2, G)) (-1, G)
theorem okS.keep {G : zS} {i : Nat} (ok : okS G) : okS (wKeep G i) := by
  refine ⟨ok.1, ok.2.1, fun j hj hk => ?_, ok.2.2.2⟩
  have hk : bupd (gK G) i j = true := hk
  show okT (gP G) (tupd (gI G) i (gT G) j)
  by_cases q : j = i
  · simp only [tupd, if_pos q]; exact ok.2.1
  · simp only [tupd, if_neg q]
    simp only [bupd, if_neg q] at hk
    exact ok.2.2.1 j hj hk
theorem cRel.trace {h : zH} {G : zS} {p q : Nat} {tr : Int64} (hC : cRel h G) (hat : cAt h p q tr) (t : Int64) : cRel (z_up h 0 (.inr (4, [.ref 1, .ref p, .ref q, .ref 17, .ref 20, .ref 21, .ref 22, .long t]))) (wTr G t) := by
  obtain ⟨p', q', P', N, kf, hpq, hat', hsc, hp, hq, hR0, ⟨fi, hfi, hfi2⟩, hkf, hk2, hN, hNo, hi0, hi1⟩ := hC
  have e := hat.symm.trans hat'
  simp only [Sum.inr.injEq, Prod.mk.injEq, List.cons.injEq, Value.ref.injEq, true_and, and_true] at e
  obtain ⟨rfl, rfl, -⟩ := e
  have s : zSame 0 0 h (z_up h 0 (.inr (4, [.ref 1, .ref p, .ref q, .ref 17, .ref 20, .ref 21, .ref 22, .long t]))) := zSame.rf.up (Nat.le_refl _) (Nat.le_refl _)
  exact ⟨p, q, P', N, kf, hpq, z_up_self _ _ _, hsc.same s (by omega), hp.same s (by omega), hq.same s (by omega), hR0.same s (by omega), ⟨fi, (s 20 (by omega)).trans hfi, hfi2⟩, (s 21 (by omega)).trans hkf, hk2, hN.same s (by omega), hNo, hi0.same s (by omega), hi1.same s (by omega)⟩
theorem okS.tr {G : zS} {t : Int64} (ok : okS G) : okS (wTr G t) := ok
section
variable {K : zK} {l : Launch} {n p q r g : Nat} {h : zH} {x y z : Int32} {G : zS}
theorem r_X5_markRinger (hC : cRel h G) (ok : okS G) (hr : r < pR (gP G)) : zRex K l 4 mX5_markRinger [.ref 0, .int (nI r)] 59 h (fun v h' => v = some (.int (nI (tN (gT G) r))) ∧ cRel h' (wTr G (gTr G + 1)) ∧ zSame 0 33 h h') := by
  refine zRex.of (by decide) (Nat.le_of_ble_eq_true rfl) (fun Q hQ => ?_)
  obtain ⟨p, q, P', N, kf, hpq, hat, hsc, hp, hq, ⟨S, B, hR, hB, hS⟩, hfi, hkf, hk2, hN, hNo, hi0, hi1⟩ := id hC
  have okp := ok.1
  have okt := ok.2.1
  have hpn : p + 5 < 59 := by omega
  have hat' : h 0 = _ := hat
  have h17 := hR.1
  have kH := okp.1
  have kR := okp.2.1
  have hp1 := hp.1
  have hC1 := hC.trace hat (gTr G + 1)
  have s1 : zSame 0 33 h (z_up h 0 (.inr (4, [.ref 1, .ref p, .ref q, .ref 17, .ref 20, .ref 21, .ref 22, .long (gTr G + 1)]))) := zSame.rf.up (by omega) (by omega)
  have hR1 : isRota (z_up h 0 (.inr (4, [.ref 1, .ref p, .ref q, .ref 17, .ref 20, .ref 21, .ref 22, .long (gTr G + 1)]))) 17 (nI (tAll (gT G))) (nI (gT G).2.1) S B := hR.same (lo := 0) (hi := 0) (zSame.rf.up (by omega) (by omega)) (by omega)
  refine kX5_markRinger_0 ?_
  refine zb_go (zg_aload_n rfl) rfl ?_
  refine zb_go (zg_dup rfl) rfl ?_
  refine zb_go (zg_getfield fX5_48 (by first | assumption | decide | omega) (by repeat (first | assumption | exact z_up_self _ _ _ | refine (z_up_ne (by first | decide | omega)).trans ?_)) (by rfl)) rfl ?_
  refine zb_go (zg_lconst 1 (by decide)) rfl ?_
  refine zb_go zg_ladd rfl ?_
  refine zb_go (zg_putfield fX5_48 (by first | assumption | decide | omega) (by repeat (first | assumption | exact z_up_self _ _ _ | refine (z_up_ne (by first | decide | omega)).trans ?_)) (by exact Nat.le_of_ble_eq_true rfl) (by rfl) (by rfl) (by first | exact Or.inl rfl | exact Or.inr ⟨rfl, rfl⟩)) rfl ?_
  refine zb_go (zg_aload_n rfl) rfl ?_
  refine zb_go (zg_getfield fX5_29 (by first | assumption | decide | omega) (by repeat (first | assumption | exact z_up_self _ _ _ | refine (z_up_ne (by first | decide | omega)).trans ?_)) (by rfl)) rfl ?_
  refine zb_go (zg_iload_n rfl) rfl ?_
  refine zb_callv (r_X3_timesOf hR1 (by decide) (by omega)) lX5_93 (by repeat (first | assumption | exact z_up_self _ _ _ | refine (z_up_ne (by first | decide | omega)).trans ?_)) rfl rfl (by first | assumption | decide | omega) (by decide) rfl (Nat.le_of_ble_eq_true rfl) rfl ?_
  refine zb_end (zg_ireturn rfl (by rfl) ?_) rfl
  rw [rT_eq okp okt hB (by omega)]
  exact hQ _ _ ⟨rfl, hC1, s1⟩
theorem r_X5_markSexton (hC : cRel h G) (ok : okS G) (hr : r < pR (gP G)) : zRex K l 5 mX5_markSexton [.ref 0, .int (nI r)] 59 h (fun v h' => v = some (.int (nI (tN (gT G) r) + nI (zpop (pBe (gP G) r)))) ∧ cRel h' (wTr G (gTr G + 10 + 1)) ∧ zSame 0 33 h h') := by
  refine zRex.of (by decide) (Nat.le_of_ble_eq_true rfl) (fun Q hQ => ?_)
  have hat0 := hC
  obtain ⟨p, q, P', N, kf, hpq, hat, -⟩ := hat0
  have hat' : h 0 = _ := hat
  obtain ⟨t, ht⟩ : ∃ t : Int64, gTr G + 10 = t := ⟨_, rfl⟩
  have hC1 := hC.trace hat t
  have s1 : zSame 0 33 h (z_up h 0 (.inr (4, [.ref 1, .ref p, .ref q, .ref 17, .ref 20, .ref 21, .ref 22, .long t]))) := zSame.rf.up (by omega) (by omega)
  refine kX5_markSexton_0 ?_
  refine zb_go (zg_aload_n rfl) rfl ?_
  refine zb_go (zg_dup rfl) rfl ?_
  refine zb_go (zg_getfield fX5_48 (by first | assumption | decide | omega) (by repeat (first | assumption | exact z_up_self _ _ _ | refine (z_up_ne (by first | decide | omega)).trans ?_)) (by rfl)) rfl ?_
  refine zb_go (zg_ldc2_w cX5_230) rfl ?_
  refine zb_go zg_ladd rfl ?_
  refine zb_go (zg_putfield fX5_48 (by first | assumption | decide | omega) (by repeat (first | assumption | exact z_up_self _ _ _ | refine (z_up_ne (by first | decide | omega)).trans ?_)) (by exact Nat.le_of_ble_eq_true rfl) (by rfl) (by rfl) (by first | exact Or.inl rfl | exact Or.inr ⟨rfl, rfl⟩)) rfl ?_
  refine zb_go (zg_aload_n rfl) rfl ?_
  refine zb_go (zg_iload_n rfl) rfl ?_
  rw [ht]
  refine zb_callvx (r_X5_markRinger hC1 ok.tr hr) lX5_212 (by repeat (first | assumption | exact z_up_self _ _ _ | refine (z_up_ne (by first | decide | omega)).trans ?_)) rfl rfl (by first | assumption | decide | omega) (by decide) rfl (Nat.le_of_ble_eq_true rfl) rfl ?_
  rintro v h1 ⟨rfl, hC2, hs⟩
  obtain ⟨p', q', P2, N2, kf2, hpq2, hat2, hsc2, hp2, -⟩ := id hC2
  have gat : h1 0 = _ := hat2
  have kR := ok.1.2.1
  obtain ⟨b1, -, -, ⟨f4, b4, e4⟩, -⟩ := id hp2
  have hb7 := (ok.1.2.2.2.2.2.2 r hr).2.1
  refine zb_go (zg_aload_n rfl) rfl ?_
  refine zb_go (zg_getfield fX5_19 (by first | assumption | decide | omega) (by repeat (first | assumption | exact z_up_self _ _ _ | refine (z_up_ne (by first | decide | omega)).trans ?_)) (by rfl)) rfl ?_
  refine zb_go (zg_getfield fX5_84 (by first | assumption | decide | omega) (by repeat (first | assumption | exact z_up_self _ _ _ | refine (z_up_ne (by first | decide | omega)).trans ?_)) (by rfl)) rfl ?_
  refine zb_go (zg_iload_n rfl) rfl ?_
  refine zb_go (zi_iaload (by first | assumption | decide | omega) (by repeat (first | assumption | exact z_up_self _ _ _ | refine (z_up_ne (by first | decide | omega)).trans ?_)) (by first | assumption | exact zIx.nI (by omega) (by decide) | exact ⟨by decide, by decide⟩)) rfl ?_
  rw [e4 r hr]
  refine zb_calls (r_bitCount (show pBe (gP G) r < 64 by omega)) lX5_106 rfl (by decide) rfl (Nat.le_of_ble_eq_true rfl) rfl ?_
  refine zb_go zg_iadd rfl ?_
  refine zb_end (zg_ireturn rfl (by rfl) ?_) rfl
  rw [ht] at hQ
  exact hQ _ _ ⟨rfl, hC2, s1.trans hs⟩
theorem r_X5_markChild (hC : cRel h G) (ok : okS G) (hr : r < pR (gP G)) : zRex K l 5 mX5_markChild [.ref 0, .int (nI r)] 59 h (fun v h' => v = some (.int (nI (tN (gT G) r) - nI (zpop (pBu (gP G) r &&& (2 ^ pH (gP G) - 1))))) ∧ cRel h' (wTr G (gTr G + 100 + 1)) ∧ zSame 0 33 h h') := by
  refine zRex.of (by decide) (Nat.le_of_ble_eq_true rfl) (fun Q hQ => ?_)
  have hat0 := hC
  obtain ⟨p, q, P', N, kf, hpq, hat, -⟩ := hat0
  have hat' : h 0 = _ := hat
  obtain ⟨t, ht⟩ : ∃ t : Int64, gTr G + 100 = t := ⟨_, rfl⟩
  have hC1 := hC.trace hat t
  have s1 : zSame 0 33 h (z_up h 0 (.inr (4, [.ref 1, .ref p, .ref q, .ref 17, .ref 20, .ref 21, .ref 22, .long t]))) := zSame.rf.up (by omega) (by omega)
  refine kX5_markChild_0 ?_
  refine zb_go (zg_aload_n rfl) rfl ?_
  refine zb_go (zg_dup rfl) rfl ?_
  refine zb_go (zg_getfield fX5_48 (by first | assumption | decide | omega) (by repeat (first | assumption | exact z_up_self _ _ _ | refine (z_up_ne (by first | decide | omega)).trans ?_)) (by rfl)) rfl ?_
  refine zb_go (zg_ldc2_w cX5_232) rfl ?_
  refine zb_go zg_ladd rfl ?_
  refine zb_go (zg_putfield fX5_48 (by first | assumption | decide | omega) (by repeat (first | assumption | exact z_up_self _ _ _ | refine (z_up_ne (by first | decide | omega)).trans ?_)) (by exact Nat.le_of_ble_eq_true rfl) (by rfl) (by rfl) (by first | exact Or.inl rfl | exact Or.inr ⟨rfl, rfl⟩)) rfl ?_
  refine zb_go (zg_aload_n rfl) rfl ?_
  refine zb_go (zg_iload_n rfl) rfl ?_
  rw [ht]
  refine zb_callvx (r_X5_markRinger hC1 ok.tr hr) lX5_212 (by repeat (first | assumption | exact z_up_self _ _ _ | refine (z_up_ne (by first | decide | omega)).trans ?_)) rfl rfl (by first | assumption | decide | omega) (by decide) rfl (Nat.le_of_ble_eq_true rfl) rfl ?_
  rintro v h1 ⟨rfl, hC2, hs⟩
  obtain ⟨p', q', P2, N2, kf2, hpq2, hat2, hsc2, hp2, -⟩ := id hC2
  have gat : h1 0 = _ := hat2
  have b1 := hp2.1
  have hpn : p' + 5 < 59 := by omega
  refine zb_go (zg_aload_n rfl) rfl ?_
  refine zb_go (zg_getfield fX5_19 (by first | assumption | decide | omega) (by repeat (first | assumption | exact z_up_self _ _ _ | refine (z_up_ne (by first | decide | omega)).trans ?_)) (by rfl)) rfl ?_
  refine zb_go (zg_iload_n rfl) rfl ?_
  refine zb_callv (r_X2_busyHours hp2 hpn ok.1 hr) lX5_234 (by repeat (first | assumption | exact z_up_self _ _ _ | refine (z_up_ne (by first | decide | omega)).trans ?_)) rfl rfl (by first | assumption | decide | omega) (by decide) rfl (Nat.le_of_ble_eq_true rfl) rfl ?_
  refine zb_go zg_isub rfl ?_
  refine zb_end (zg_ireturn rfl (by rfl) ?_) rfl
  rw [ht] at hQ
  exact hQ _ _ ⟨rfl, hC2, s1.trans hs⟩
theorem r_X5_markWarden (hC : cRel h G) (ok : okS G) (hr : r < pR (gP G)) : zRex K l 6 mX5_markWarden [.ref 0, .int (nI r)] 59 h (fun v h' => v = some (.int ((nI (tN (gT G) r) + nI (zpop (pBe (gP G) r))) * 2)) ∧ cRel h' (wTr G (gTr G + 1000 + 10 + 1)) ∧ zSame 0 33 h h') := by
  refine zRex.of (by decide) (Nat.le_of_ble_eq_true rfl) (fun Q hQ => ?_)
  have hat0 := hC
  obtain ⟨p, q, P', N, kf, hpq, hat, -⟩ := hat0
  have hat' : h 0 = _ := hat
  obtain ⟨t, ht⟩ : ∃ t : Int64, gTr G + 1000 = t := ⟨_, rfl⟩
  have hC1 := hC.trace hat t
  have s1 : zSame 0 33 h (z_up h 0 (.inr (4, [.ref 1, .ref p, .ref q, .ref 17, .ref 20, .ref 21, .ref 22, .long t]))) := zSame.rf.up (by omega) (by omega)
  refine kX5_markWarden_0 ?_
  refine zb_go (zg_aload_n rfl) rfl ?_
  refine zb_go (zg_dup rfl) rfl ?_
  refine zb_go (zg_getfield fX5_48 (by first | assumption | decide | omega) (by repeat (first | assumption | exact z_up_self _ _ _ | refine (z_up_ne (by first | decide | omega)).trans ?_)) (by rfl)) rfl ?_
  refine zb_go (zg_ldc2_w cX5_237) rfl ?_
  refine zb_go zg_ladd rfl ?_
  refine zb_go (zg_putfield fX5_48 (by first | assumption | decide | omega) (by repeat (first | assumption | exact z_up_self _ _ _ | refine (z_up_ne (by first | decide | omega)).trans ?_)) (by exact Nat.le_of_ble_eq_true rfl) (by rfl) (by rfl) (by first | exact Or.inl rfl | exact Or.inr ⟨rfl, rfl⟩)) rfl ?_
  refine zb_go (zg_aload_n rfl) rfl ?_
  refine zb_go (zg_iload_n rfl) rfl ?_
  rw [ht]
  refine zb_callvx (r_X5_markSexton hC1 ok.tr hr) lX5_215 (by repeat (first | assumption | exact z_up_self _ _ _ | refine (z_up_ne (by first | decide | omega)).trans ?_)) rfl rfl (by first | assumption | decide | omega) (by decide) rfl (Nat.le_of_ble_eq_true rfl) rfl ?_
  rintro v h1 ⟨rfl, hC2, hs⟩
  refine zb_go (zg_iconst 2 (by decide)) rfl ?_
  refine zb_go zg_imul rfl ?_
  refine zb_end (zg_ireturn rfl (by rfl) ?_) rfl
  rw [ht] at hQ
  exact hQ _ _ ⟨rfl, hC2, s1.trans hs⟩
theorem r_X5_markNovice (hC : cRel h G) (ok : okS G) (hr : r < pR (gP G)) : zRex K l 6 mX5_markNovice [.ref 0, .int (nI r)] 59 h (fun v h' => v = some (.int (nI (tN (gT G) r) - nI (zpop (pBu (gP G) r &&& (2 ^ pH (gP G) - 1))) + nI r)) ∧ cRel h' (wTr G (gTr G + 10000 + 100 + 1)) ∧ zSame 0 33 h h') := by
  refine zRex.of (by decide) (Nat.le_of_ble_eq_true rfl) (fun Q hQ => ?_)
  have hat0 := hC
  obtain ⟨p, q, P', N, kf, hpq, hat, -⟩ := hat0
  have hat' : h 0 = _ := hat
  obtain ⟨t, ht⟩ : ∃ t : Int64, gTr G + 10000 = t := ⟨_, rfl⟩
  have hC1 := hC.trace hat t
  have s1 : zSame 0 33 h (z_up h 0 (.inr (4, [.ref 1, .ref p, .ref q, .ref 17, .ref 20, .ref 21, .ref 22, .long t]))) := zSame.rf.up (by omega) (by omega)
  refine kX5_markNovice_0 ?_
  refine zb_go (zg_aload_n rfl) rfl ?_
  refine zb_go (zg_dup rfl) rfl ?_
  refine zb_go (zg_getfield fX5_48 (by first | assumption | decide | omega) (by repeat (first | assumption | exact z_up_self _ _ _ | refine (z_up_ne (by first | decide | omega)).trans ?_)) (by rfl)) rfl ?_
  refine zb_go (zg_ldc2_w cX5_239) rfl ?_
  refine zb_go zg_ladd rfl ?_
  refine zb_go (zg_putfield fX5_48 (by first | assumption | decide | omega) (by repeat (first | assumption | exact z_up_self _ _ _ | refine (z_up_ne (by first | decide | omega)).trans ?_)) (by exact Nat.le_of_ble_eq_true rfl) (by rfl) (by rfl) (by first | exact Or.inl rfl | exact Or.inr ⟨rfl, rfl⟩)) rfl ?_
  refine zb_go (zg_aload_n rfl) rfl ?_
  refine zb_go (zg_iload_n rfl) rfl ?_
  rw [ht]
  refine zb_callvx (r_X5_markChild hC1 ok.tr hr) lX5_218 (by repeat (first | assumption | exact z_up_self _ _ _ | refine (z_up_ne (by first | decide | omega)).trans ?_)) rfl rfl (by first | assumption | decide | omega) (by decide) rfl (Nat.le_of_ble_eq_true rfl) rfl ?_
  rintro v h1 ⟨rfl, hC2, hs⟩
  refine zb_go (zg_iload_n rfl) rfl ?_
  refine zb_go zg_iadd rfl ?_
  refine zb_end (zg_ireturn rfl (by rfl) ?_) rfl
  rw [ht] at hQ
  exact hQ _ _ ⟨rfl, hC2, s1.trans hs⟩
theorem r_X5_markStranger (hC : cRel h G) (ok : okS G) (hr : r < pR (gP G)) : zRex K l 5 mX5_markStranger [.ref 0, .int (nI r)] 59 h (fun v h' => v = some (.int (nI (tN (gT G) r) + nI (zdist (pHo (gP G) r) (gT G).2.1))) ∧ cRel h' (wTr G (gTr G + 100000 + 1)) ∧ zSame 0 33 h h') := by
  refine zRex.of (by decide) (Nat.le_of_ble_eq_true rfl) (fun Q hQ => ?_)
  have hat0 := hC
  obtain ⟨p, q, P', N, kf, hpq, hat, -⟩ := hat0
  have hat' : h 0 = _ := hat
  obtain ⟨t, ht⟩ : ∃ t : Int64, gTr G + 100000 = t := ⟨_, rfl⟩
  have hC1 := hC.trace hat t
  have s1 : zSame 0 33 h (z_up h 0 (.inr (4, [.ref 1, .ref p, .ref q, .ref 17, .ref 20, .ref 21, .ref 22, .long t]))) := zSame.rf.up (by omega) (by omega)
  refine kX5_markStranger_0 ?_
  refine zb_go (zg_aload_n rfl) rfl ?_
  refine zb_go (zg_dup rfl) rfl ?_
  refine zb_go (zg_getfield fX5_48 (by first | assumption | decide | omega) (by repeat (first | assumption | exact z_up_self _ _ _ | refine (z_up_ne (by first | decide | omega)).trans ?_)) (by rfl)) rfl ?_
  refine zb_go (zg_ldc2_w cX5_241) rfl ?_
  refine zb_go zg_ladd rfl ?_
  refine zb_go (zg_putfield fX5_48 (by first | assumption | decide | omega) (by repeat (first | assumption | exact z_up_self _ _ _ | refine (z_up_ne (by first | decide | omega)).trans ?_)) (by exact Nat.le_of_ble_eq_true rfl) (by rfl) (by rfl) (by first | exact Or.inl rfl | exact Or.inr ⟨rfl, rfl⟩)) rfl ?_
  refine zb_go (zg_aload_n rfl) rfl ?_
  refine zb_go (zg_iload_n rfl) rfl ?_
  rw [ht]
  refine zb_callvx (r_X5_markRinger hC1 ok.tr hr) lX5_212 (by repeat (first | assumption | exact z_up_self _ _ _ | refine (z_up_ne (by first | decide | omega)).trans ?_)) rfl rfl (by first | assumption | decide | omega) (by decide) rfl (Nat.le_of_ble_eq_true rfl) rfl ?_
  rintro v h1 ⟨rfl, hC2, hs⟩
  obtain ⟨p', q', P2, N2, kf2, hpq2, hat2, hsc2, hp2, -, ⟨S2, B2, hR2, -⟩, -⟩ := id hC2
  have gat : h1 0 = _ := hat2
  have b1 := hp2.1
  have g17 := hR2.1
  have hpn : p' + 5 < 59 := by omega
  have kpl := ok.2.1.2.2.2.2.1
  refine zb_go (zg_aload_n rfl) rfl ?_
  refine zb_go (zg_getfield fX5_19 (by first | assumption | decide | omega) (by repeat (first | assumption | exact z_up_self _ _ _ | refine (z_up_ne (by first | decide | omega)).trans ?_)) (by rfl)) rfl ?_
  refine zb_go (zg_iload_n rfl) rfl ?_
  refine zb_go (zg_aload_n rfl) rfl ?_
  refine zb_go (zg_getfield fX5_29 (by first | assumption | decide | omega) (by repeat (first | assumption | exact z_up_self _ _ _ | refine (z_up_ne (by first | decide | omega)).trans ?_)) (by rfl)) rfl ?_
  refine zb_go (zg_getfield fX5_157 (by first | assumption | decide | omega) (by repeat (first | assumption | exact z_up_self _ _ _ | refine (z_up_ne (by first | decide | omega)).trans ?_)) (by rfl)) rfl ?_
  refine zb_callv (r_X2_way (w := (gT G).2.1) hp2 hpn ok.1 hr (by omega)) lX5_243 (by repeat (first | assumption | exact z_up_self _ _ _ | refine (z_up_ne (by first | decide | omega)).trans ?_)) rfl rfl (by first | assumption | decide | omega) (by decide) rfl (Nat.le_of_ble_eq_true rfl) rfl ?_
  refine zb_go zg_iadd rfl ?_
  refine zb_end (zg_ireturn rfl (by rfl) ?_) rfl
  rw [ht] at hQ
  exact hQ _ _ ⟨rfl, hC2, s1.trans hs⟩
theorem r_X5_mark (hC : cRel h G) (ok : okS G) : zRex K l 7 mX5_mark [.ref 0, .int x, .int y] 59 h (fun v h' => v = some (.int (sMark G x y).1) ∧ cRel h' (sMark G x y).2 ∧ okS (sMark G x y).2 ∧ zSame 0 33 h h') := by
  refine zRex.of (by decide) (Nat.le_of_ble_eq_true rfl) (fun Q hQ => ?_)
  obtain ⟨p, q, P', N, kf, hpq, hat, hsc, hp, hq, ⟨S, B, hR, hB, hS⟩, hfi, hkf, hk2, hN, hNo, hi0, hi1⟩ := id hC
  have okp := ok.1
  have okt := ok.2.1
  have hpn : p + 5 < 59 := by omega
  have hat' : h 0 = _ := hat
  have h17 := hR.1
  have kH := okp.1
  have kR := okp.2.1
  have hp1 := hp.1
  unfold sMark at hQ
  have a1 : gTr G + 10 + 1 = gTr G + 11 := by rw [Int64.add_assoc]; exact congrArg (fun t => gTr G + t) (by decide +kernel)
  have a2 : gTr G + 100 + 1 = gTr G + 101 := by rw [Int64.add_assoc]; exact congrArg (fun t => gTr G + t) (by decide +kernel)
  have a3 : gTr G + 1000 + 10 + 1 = gTr G + 1011 := by rw [Int64.add_assoc, Int64.add_assoc]; exact congrArg (fun t => gTr G + t) (by decide +kernel)
  have a4 : gTr G + 10000 + 100 + 1 = gTr G + 10101 := by rw [Int64.add_assoc, Int64.add_assoc]; exact congrArg (fun t => gTr G + t) (by decide +kernel)
  have a5 : gTr G + 100000 + 1 = gTr G + 100001 := by rw [Int64.add_assoc]; exact congrArg (fun t => gTr G + t) (by decide +kernel)
  refine kX5_mark_0 ?_
  refine zb_go (zg_aload_n rfl) rfl ?_
  refine zb_go (zg_getfield fX5_19 (by first | assumption | decide | omega) (by repeat (first | assumption | exact z_up_self _ _ _ | refine (z_up_ne (by first | decide | omega)).trans ?_)) (by rfl)) rfl ?_
  refine zb_go (zg_iload_n rfl) rfl ?_
  refine zb_callv (r_X2_hasRinger hp hpn) lX5_76 (by repeat (first | assumption | exact z_up_self _ _ _ | refine (z_up_ne (by first | decide | omega)).trans ?_)) rfl rfl (by first | assumption | decide | omega) (by decide) rfl (Nat.le_of_ble_eq_true rfl) rfl ?_
  refine zb_br (zg_if_ne (tgt := 14) (by decide)) rfl (fun c0 => ?_) (fun c0 => ?_)
  · have c0' := zb_n.mp c0
    have c0 : iR G y := c0'
    rw [zite_t c0] at hQ
    obtain ⟨r, hr, rfl⟩ := z_isIx (by omega) c0
    rw [nI_clamp (by omega)] at hQ
    refine kX5_mark_14 ?_
    refine zb_go (zg_iload_n rfl) rfl ?_
    rcases z_swi x 5 (by decide) with ⟨k, hk, rfl⟩ | ho
    · rcases (show k = 0 ∨ k = 1 ∨ k = 2 ∨ k = 3 ∨ k = 4 ∨ k = 5 by omega) with rfl | rfl | rfl | rfl | rfl | rfl
      · rw [if_pos (by decide)] at hQ
        refine zb_end (len := 37) (zg_tableIn 37 52 (by decide) (by decide) (by rfl) (by decide) ?_) rfl
        refine kX5_mark_52 ?_
        refine zb_go (zg_aload_n rfl) rfl ?_
        refine zb_go (zg_iload_n rfl) rfl ?_
        refine zb_callvx (r_X5_markRinger hC ok hr) lX5_212 (by repeat (first | assumption | exact z_up_self _ _ _ | refine (z_up_ne (by first | decide | omega)).trans ?_)) rfl rfl (by first | assumption | decide | omega) (by decide) rfl (Nat.le_of_ble_eq_true rfl) rfl ?_
        rintro v h1 ⟨rfl, hC2, hs⟩
        refine zb_end (zg_ireturn rfl (by rfl) ?_) rfl
        exact hQ _ _ ⟨rfl, hC2, ok.tr, hs⟩
      · rw [if_neg (by decide), if_pos (by decide)] at hQ
        refine zb_end (len := 37) (zg_tableIn 43 58 (by decide) (by decide) (by rfl) (by decide) ?_) rfl
        refine kX5_mark_58 ?_
        refine zb_go (zg_aload_n rfl) rfl ?_
        refine zb_go (zg_iload_n rfl) rfl ?_
        refine zb_callvx (r_X5_markSexton hC ok hr) lX5_215 (by repeat (first | assumption | exact z_up_self _ _ _ | refine (z_up_ne (by first | decide | omega)).trans ?_)) rfl rfl (by first | assumption | decide | omega) (by decide) rfl (Nat.le_of_ble_eq_true rfl) rfl ?_
        rintro v h1 ⟨rfl, hC2, hs⟩
        rw [a1] at hC2
        refine zb_end (zg_ireturn rfl (by rfl) ?_) rfl
        exact hQ _ _ ⟨rfl, hC2, ok.tr, hs⟩
      · rw [if_neg (by decide), if_neg (by decide), if_pos (by decide)] at hQ
        refine zb_end (len := 37) (zg_tableIn 49 64 (by decide) (by decide) (by rfl) (by decide) ?_) rfl
        refine kX5_mark_64 ?_
        refine zb_go (zg_aload_n rfl) rfl ?_
        refine zb_go (zg_iload_n rfl) rfl ?_
        refine zb_callvx (r_X5_markChild hC ok hr) lX5_218 (by repeat (first | assumption | exact z_up_self _ _ _ | refine (z_up_ne (by first | decide | omega)).trans ?_)) rfl rfl (by first | assumption | decide | omega) (by decide) rfl (Nat.le_of_ble_eq_true rfl) rfl ?_
        rintro v h1 ⟨rfl, hC2, hs⟩
        rw [a2] at hC2
        refine zb_end (zg_ireturn rfl (by rfl) ?_) rfl
        exact hQ _ _ ⟨rfl, hC2, ok.tr, hs⟩
      · rw [if_neg (by decide), if_neg (by decide), if_neg (by decide), if_pos (by decide)] at hQ
        refine zb_end (len := 37) (zg_tableIn 55 70 (by decide) (by decide) (by rfl) (by decide) ?_) rfl
        refine kX5_mark_70 ?_
        refine zb_go (zg_aload_n rfl) rfl ?_
        refine zb_go (zg_iload_n rfl) rfl ?_
        refine zb_callvx (r_X5_markWarden hC ok hr) lX5_221 (by repeat (first | assumption | exact z_up_self _ _ _ | refine (z_up_ne (by first | decide | omega)).trans ?_)) rfl rfl (by first | assumption | decide | omega) (by decide) rfl (Nat.le_of_ble_eq_true rfl) rfl ?_
        rintro v h1 ⟨rfl, hC2, hs⟩
        rw [a3] at hC2
        refine zb_end (zg_ireturn rfl (by rfl) ?_) rfl
        exact hQ _ _ ⟨rfl, hC2, ok.tr, hs⟩
      · rw [if_neg (by decide), if_neg (by decide), if_neg (by decide), if_neg (by decide), if_pos (by decide)] at hQ
        refine zb_end (len := 37) (zg_tableIn 61 76 (by decide) (by decide) (by rfl) (by decide) ?_) rfl
        refine kX5_mark_76 ?_
        refine zb_go (zg_aload_n rfl) rfl ?_
        refine zb_go (zg_iload_n rfl) rfl ?_
        refine zb_callvx (r_X5_markNovice hC ok hr) lX5_224 (by repeat (first | assumption | exact z_up_self _ _ _ | refine (z_up_ne (by first | decide | omega)).trans ?_)) rfl rfl (by first | assumption | decide | omega) (by decide) rfl (Nat.le_of_ble_eq_true rfl) rfl ?_
        rintro v h1 ⟨rfl, hC2, hs⟩
        rw [a4] at hC2
        refine zb_end (zg_ireturn rfl (by rfl) ?_) rfl
        exact hQ _ _ ⟨rfl, hC2, ok.tr, hs⟩
      · rw [if_neg (by decide), if_neg (by decide), if_neg (by decide), if_neg (by decide), if_neg (by decide), if_pos (by decide)] at hQ
        refine zb_end (len := 37) (zg_tableIn 67 82 (by decide) (by decide) (by rfl) (by decide) ?_) rfl
        refine kX5_mark_82 ?_
        refine zb_go (zg_aload_n rfl) rfl ?_
        refine zb_go (zg_iload_n rfl) rfl ?_
        refine zb_callvx (r_X5_markStranger hC ok hr) lX5_227 (by repeat (first | assumption | exact z_up_self _ _ _ | refine (z_up_ne (by first | decide | omega)).trans ?_)) rfl rfl (by first | assumption | decide | omega) (by decide) rfl (Nat.le_of_ble_eq_true rfl) rfl ?_
        rintro v h1 ⟨rfl, hC2, hs⟩
        rw [a5] at hC2
        refine zb_end (zg_ireturn rfl (by rfl) ?_) rfl
        exact hQ _ _ ⟨rfl, hC2, ok.tr, hs⟩
    · rw [if_neg (show ¬ x = 0 from z_out (k := 0) ho (by decide) (by decide)), if_neg (show ¬ x = 1 from z_out (k := 1) ho (by decide) (by decide)), if_neg (show ¬ x = 2 from z_out (k := 2) ho (by decide) (by decide)), if_neg (show ¬ x = 3 from z_out (k := 3) ho (by decide) (by decide)), if_neg (show ¬ x = 4 from z_out (k := 4) ho (by decide) (by decide)), if_neg (show ¬ x = 5 from z_out (k := 5) ho (by decide) (by decide))] at hQ
      refine zb_end (len := 37) (zg_tableOut 88 ho (by decide) ?_) rfl
      refine kX5_mark_88 ?_
      refine zb_go (zg_ldc cX5_211) rfl ?_
      refine zb_end (zg_ireturn rfl (by rfl) ?_) rfl
      exact hQ _ _ ⟨rfl, hC, ok, zSame.rf⟩
  · have c0' := zb_0.mp c0
    rw [zite_f (show ¬ iR G y from c0')] at hQ
    refine zb_go (zg_ldc cX5_211) rfl ?_
    refine zb_end (zg_ireturn rfl (by rfl) ?_) rfl
    exact hQ _ _ ⟨rfl, hC, ok, zSame.rf⟩
end
end
