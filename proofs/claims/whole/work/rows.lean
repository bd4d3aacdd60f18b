section
-- ===== PART A: goes FIRST, ahead of the names: the tables' words, and 'selects' of the private methods out of them =====
/-- a private method of a class that the tables say can be made, by its rows of tables_1 -/
def lw_okq (q : MethodName × Nat) : Prop := (q.1.cls ≠ "java/lang/invoke/MethodHandle" ∧ q.1.cls ≠ "java/lang/invoke/VarHandle") ∧ Cond.instantiable q.1.cls q.2 ∈ tables_1 ∧ Cond.privateMethod q.1 ∈ tables_1 ∧ Cond.instanceMethod q.1 ∈ tables_1
theorem lw_p0 : lw_okq (⟨"NineNoons$Tape", "readVillage", "(LNineNoons$Valley;)V"⟩, 4) := ⟨⟨by decide +kernel, by decide +kernel⟩, List.mem_of_getElem? (i := 118) (by decide +kernel), List.mem_of_getElem? (i := 283) (by decide +kernel), List.mem_of_getElem? (i := 284) (by decide +kernel)⟩
theorem lw_p1 : lw_okq (⟨"NineNoons$Tape", "readKind", "()I"⟩, 4) := ⟨⟨by decide +kernel, by decide +kernel⟩, List.mem_of_getElem? (i := 118) (by decide +kernel), List.mem_of_getElem? (i := 287) (by decide +kernel), List.mem_of_getElem? (i := 288) (by decide +kernel)⟩
theorem lw_p2 : lw_okq (⟨"NineNoons$Tape", "takes", "(C)Z"⟩, 4) := ⟨⟨by decide +kernel, by decide +kernel⟩, List.mem_of_getElem? (i := 118) (by decide +kernel), List.mem_of_getElem? (i := 291) (by decide +kernel), List.mem_of_getElem? (i := 292) (by decide +kernel)⟩
theorem lw_p3 : lw_okq (⟨"NineNoons$Tape", "comingLetter", "()C"⟩, 4) := ⟨⟨by decide +kernel, by decide +kernel⟩, List.mem_of_getElem? (i := 118) (by decide +kernel), List.mem_of_getElem? (i := 295) (by decide +kernel), List.mem_of_getElem? (i := 296) (by decide +kernel)⟩
theorem lw_p4 : lw_okq (⟨"NineNoons$Tape", "faultAt", "(I)V"⟩, 4) := ⟨⟨by decide +kernel, by decide +kernel⟩, List.mem_of_getElem? (i := 118) (by decide +kernel), List.mem_of_getElem? (i := 299) (by decide +kernel), List.mem_of_getElem? (i := 300) (by decide +kernel)⟩
theorem lw_p5 : lw_okq (⟨"NineNoons$Tape", "readNumber", "(I)I"⟩, 4) := ⟨⟨by decide +kernel, by decide +kernel⟩, List.mem_of_getElem? (i := 118) (by decide +kernel), List.mem_of_getElem? (i := 303) (by decide +kernel), List.mem_of_getElem? (i := 304) (by decide +kernel)⟩
theorem lw_p6 : lw_okq (⟨"NineNoons$Tape", "takeDigit", "()I"⟩, 4) := ⟨⟨by decide +kernel, by decide +kernel⟩, List.mem_of_getElem? (i := 118) (by decide +kernel), List.mem_of_getElem? (i := 310) (by decide +kernel), List.mem_of_getElem? (i := 311) (by decide +kernel)⟩
theorem lw_p7 : lw_okq (⟨"NineNoons$Tape", "readDrift", "()I"⟩, 4) := ⟨⟨by decide +kernel, by decide +kernel⟩, List.mem_of_getElem? (i := 118) (by decide +kernel), List.mem_of_getElem? (i := 314) (by decide +kernel), List.mem_of_getElem? (i := 315) (by decide +kernel)⟩
theorem lw_p8 : lw_okq (⟨"NineNoons", "passDays", "(IZ)I"⟩, 10) := ⟨⟨by decide +kernel, by decide +kernel⟩, List.mem_of_getElem? (i := 14) (by decide +kernel), List.mem_of_getElem? (i := 344) (by decide +kernel), List.mem_of_getElem? (i := 345) (by decide +kernel)⟩
theorem lw_p9 : lw_okq (⟨"NineNoons", "foretell", "(I)V"⟩, 10) := ⟨⟨by decide +kernel, by decide +kernel⟩, List.mem_of_getElem? (i := 14) (by decide +kernel), List.mem_of_getElem? (i := 404) (by decide +kernel), List.mem_of_getElem? (i := 405) (by decide +kernel)⟩
theorem lw_p10 : lw_okq (⟨"NineNoons$Setter", "settle", "(LNineNoons$Valley;III)Z"⟩, 1) := ⟨⟨by decide +kernel, by decide +kernel⟩, List.mem_of_getElem? (i := 86) (by decide +kernel), List.mem_of_getElem? (i := 434) (by decide +kernel), List.mem_of_getElem? (i := 435) (by decide +kernel)⟩
theorem lw_p11 : lw_okq (⟨"NineNoons$Setter", "settleBy", "(LNineNoons$Valley;IIII)Z"⟩, 1) := ⟨⟨by decide +kernel, by decide +kernel⟩, List.mem_of_getElem? (i := 86) (by decide +kernel), List.mem_of_getElem? (i := 438) (by decide +kernel), List.mem_of_getElem? (i := 439) (by decide +kernel)⟩
theorem lw_p12 : lw_okq (⟨"NineNoons$Setter", "isClearOfEarlier", "(LNineNoons$Valley;II)Z"⟩, 1) := ⟨⟨by decide +kernel, by decide +kernel⟩, List.mem_of_getElem? (i := 86) (by decide +kernel), List.mem_of_getElem? (i := 443) (by decide +kernel), List.mem_of_getElem? (i := 444) (by decide +kernel)⟩
theorem lw_p13 : lw_okq (⟨"NineNoons$Setter", "minuteThen", "(LNineNoons$Valley;I)I"⟩, 1) := ⟨⟨by decide +kernel, by decide +kernel⟩, List.mem_of_getElem? (i := 86) (by decide +kernel), List.mem_of_getElem? (i := 447) (by decide +kernel), List.mem_of_getElem? (i := 448) (by decide +kernel)⟩
theorem lw_p14 : lw_okq (⟨"NineNoons", "freeMinutes", "(I)J"⟩, 10) := ⟨⟨by decide +kernel, by decide +kernel⟩, List.mem_of_getElem? (i := 14) (by decide +kernel), List.mem_of_getElem? (i := 458) (by decide +kernel), List.mem_of_getElem? (i := 459) (by decide +kernel)⟩
theorem lw_p15 : lw_okq (⟨"NineNoons$Carrier", "hearRest", "(LNineNoons$Valley;IIII)V"⟩, 4) := ⟨⟨by decide +kernel, by decide +kernel⟩, List.mem_of_getElem? (i := 97) (by decide +kernel), List.mem_of_getElem? (i := 488) (by decide +kernel), List.mem_of_getElem? (i := 489) (by decide +kernel)⟩
def lw_privs_1 : List (MethodName × Nat) := [(⟨"NineNoons$Tape", "readVillage", "(LNineNoons$Valley;)V"⟩, 4), (⟨"NineNoons$Tape", "readKind", "()I"⟩, 4), (⟨"NineNoons$Tape", "takes", "(C)Z"⟩, 4), (⟨"NineNoons$Tape", "comingLetter", "()C"⟩, 4), (⟨"NineNoons$Tape", "faultAt", "(I)V"⟩, 4), (⟨"NineNoons$Tape", "readNumber", "(I)I"⟩, 4), (⟨"NineNoons$Tape", "takeDigit", "()I"⟩, 4), (⟨"NineNoons$Tape", "readDrift", "()I"⟩, 4), (⟨"NineNoons", "passDays", "(IZ)I"⟩, 10), (⟨"NineNoons", "foretell", "(I)V"⟩, 10), (⟨"NineNoons$Setter", "settle", "(LNineNoons$Valley;III)Z"⟩, 1), (⟨"NineNoons$Setter", "settleBy", "(LNineNoons$Valley;IIII)Z"⟩, 1), (⟨"NineNoons$Setter", "isClearOfEarlier", "(LNineNoons$Valley;II)Z"⟩, 1), (⟨"NineNoons$Setter", "minuteThen", "(LNineNoons$Valley;I)I"⟩, 1), (⟨"NineNoons", "freeMinutes", "(I)J"⟩, 10), (⟨"NineNoons$Carrier", "hearRest", "(LNineNoons$Valley;IIII)V"⟩, 4)]
theorem lw_r1 : ∀ q ∈ lw_privs_1, lw_okq q := List.forall_mem_cons.mpr ⟨lw_p0, List.forall_mem_cons.mpr ⟨lw_p1, List.forall_mem_cons.mpr ⟨lw_p2, List.forall_mem_cons.mpr ⟨lw_p3, List.forall_mem_cons.mpr ⟨lw_p4, List.forall_mem_cons.mpr ⟨lw_p5, List.forall_mem_cons.mpr ⟨lw_p6, List.forall_mem_cons.mpr ⟨lw_p7, List.forall_mem_cons.mpr ⟨lw_p8, List.forall_mem_cons.mpr ⟨lw_p9, List.forall_mem_cons.mpr ⟨lw_p10, List.forall_mem_cons.mpr ⟨lw_p11, List.forall_mem_cons.mpr ⟨lw_p12, List.forall_mem_cons.mpr ⟨lw_p13, List.forall_mem_cons.mpr ⟨lw_p14, List.forall_mem_cons.mpr ⟨lw_p15, fun _ h => absurd h List.not_mem_nil⟩⟩⟩⟩⟩⟩⟩⟩⟩⟩⟩⟩⟩⟩⟩⟩
theorem lw_p16 : lw_okq (⟨"NineNoons$Carrier", "hearFirst", "(LNineNoons$Valley;IIII)V"⟩, 4) := ⟨⟨by decide +kernel, by decide +kernel⟩, List.mem_of_getElem? (i := 97) (by decide +kernel), List.mem_of_getElem? (i := 497) (by decide +kernel), List.mem_of_getElem? (i := 498) (by decide +kernel)⟩
theorem lw_p17 : lw_okq (⟨"NineNoons", "togetherWithoutDriftOf", "(I)I"⟩, 10) := ⟨⟨by decide +kernel, by decide +kernel⟩, List.mem_of_getElem? (i := 14) (by decide +kernel), List.mem_of_getElem? (i := 514) (by decide +kernel), List.mem_of_getElem? (i := 515) (by decide +kernel)⟩
theorem lw_p18 : lw_okq (⟨"NineNoons", "fogWaysApart", "(I)I"⟩, 10) := ⟨⟨by decide +kernel, by decide +kernel⟩, List.mem_of_getElem? (i := 14) (by decide +kernel), List.mem_of_getElem? (i := 522) (by decide +kernel), List.mem_of_getElem? (i := 523) (by decide +kernel)⟩
theorem lw_p19 : lw_okq (⟨"NineNoons", "kindsHeard", "(ILNineNoons$Sheet;II)I"⟩, 10) := ⟨⟨by decide +kernel, by decide +kernel⟩, List.mem_of_getElem? (i := 14) (by decide +kernel), List.mem_of_getElem? (i := 569) (by decide +kernel), List.mem_of_getElem? (i := 570) (by decide +kernel)⟩
theorem lw_p20 : lw_okq (⟨"NineNoons", "trialRingsAs", "(ILNineNoons$Sheet;II)Z"⟩, 10) := ⟨⟨by decide +kernel, by decide +kernel⟩, List.mem_of_getElem? (i := 14) (by decide +kernel), List.mem_of_getElem? (i := 573) (by decide +kernel), List.mem_of_getElem? (i := 574) (by decide +kernel)⟩
theorem lw_p21 : lw_okq (⟨"NineNoons", "driftsHeard", "(ILNineNoons$Sheet;II)I"⟩, 10) := ⟨⟨by decide +kernel, by decide +kernel⟩, List.mem_of_getElem? (i := 14) (by decide +kernel), List.mem_of_getElem? (i := 577) (by decide +kernel), List.mem_of_getElem? (i := 578) (by decide +kernel)⟩
theorem lw_p22 : lw_okq (⟨"NineNoonsModel", "villageComes", "(IIII)V"⟩, 21) := ⟨⟨by decide +kernel, by decide +kernel⟩, List.mem_of_getElem? (i := 616) (by decide +kernel), List.mem_of_getElem? (i := 697) (by decide +kernel), List.mem_of_getElem? (i := 698) (by decide +kernel)⟩
theorem lw_p23 : lw_okq (⟨"NineNoonsModel", "tells", "(III)V"⟩, 21) := ⟨⟨by decide +kernel, by decide +kernel⟩, List.mem_of_getElem? (i := 616) (by decide +kernel), List.mem_of_getElem? (i := 701) (by decide +kernel), List.mem_of_getElem? (i := 702) (by decide +kernel)⟩
theorem lw_p24 : lw_okq (⟨"NineNoonsModel", "isVillage", "(I)Z"⟩, 21) := ⟨⟨by decide +kernel, by decide +kernel⟩, List.mem_of_getElem? (i := 616) (by decide +kernel), List.mem_of_getElem? (i := 709) (by decide +kernel), List.mem_of_getElem? (i := 710) (by decide +kernel)⟩
theorem lw_p25 : lw_okq (⟨"NineNoonsModel", "told", "(II)I"⟩, 21) := ⟨⟨by decide +kernel, by decide +kernel⟩, List.mem_of_getElem? (i := 616) (by decide +kernel), List.mem_of_getElem? (i := 713) (by decide +kernel), List.mem_of_getElem? (i := 714) (by decide +kernel)⟩
theorem lw_p26 : lw_okq (⟨"NineNoonsModel", "laterBy", "(I)I"⟩, 21) := ⟨⟨by decide +kernel, by decide +kernel⟩, List.mem_of_getElem? (i := 616) (by decide +kernel), List.mem_of_getElem? (i := 717) (by decide +kernel), List.mem_of_getElem? (i := 718) (by decide +kernel)⟩
theorem lw_p27 : lw_okq (⟨"NineNoonsModel", "hearsAnother", "(I)Z"⟩, 21) := ⟨⟨by decide +kernel, by decide +kernel⟩, List.mem_of_getElem? (i := 616) (by decide +kernel), List.mem_of_getElem? (i := 721) (by decide +kernel), List.mem_of_getElem? (i := 722) (by decide +kernel)⟩
theorem lw_p28 : lw_okq (⟨"NineNoonsModel", "minuteOf", "(I)I"⟩, 21) := ⟨⟨by decide +kernel, by decide +kernel⟩, List.mem_of_getElem? (i := 616) (by decide +kernel), List.mem_of_getElem? (i := 725) (by decide +kernel), List.mem_of_getElem? (i := 726) (by decide +kernel)⟩
theorem lw_p29 : lw_okq (⟨"NineNoonsModel", "milesBetween", "(II)I"⟩, 21) := ⟨⟨by decide +kernel, by decide +kernel⟩, List.mem_of_getElem? (i := 616) (by decide +kernel), List.mem_of_getElem? (i := 735) (by decide +kernel), List.mem_of_getElem? (i := 736) (by decide +kernel)⟩
theorem lw_p30 : lw_okq (⟨"NineNoonsModel", "alike", "(I)I"⟩, 21) := ⟨⟨by decide +kernel, by decide +kernel⟩, List.mem_of_getElem? (i := 616) (by decide +kernel), List.mem_of_getElem? (i := 739) (by decide +kernel), List.mem_of_getElem? (i := 740) (by decide +kernel)⟩
theorem lw_p31 : lw_okq (⟨"NineNoonsModel", "areTwo", "(II)Z"⟩, 21) := ⟨⟨by decide +kernel, by decide +kernel⟩, List.mem_of_getElem? (i := 616) (by decide +kernel), List.mem_of_getElem? (i := 747) (by decide +kernel), List.mem_of_getElem? (i := 748) (by decide +kernel)⟩
def lw_privs_2 : List (MethodName × Nat) := [(⟨"NineNoons$Carrier", "hearFirst", "(LNineNoons$Valley;IIII)V"⟩, 4), (⟨"NineNoons", "togetherWithoutDriftOf", "(I)I"⟩, 10), (⟨"NineNoons", "fogWaysApart", "(I)I"⟩, 10), (⟨"NineNoons", "kindsHeard", "(ILNineNoons$Sheet;II)I"⟩, 10), (⟨"NineNoons", "trialRingsAs", "(ILNineNoons$Sheet;II)Z"⟩, 10), (⟨"NineNoons", "driftsHeard", "(ILNineNoons$Sheet;II)I"⟩, 10), (⟨"NineNoonsModel", "villageComes", "(IIII)V"⟩, 21), (⟨"NineNoonsModel", "tells", "(III)V"⟩, 21), (⟨"NineNoonsModel", "isVillage", "(I)Z"⟩, 21), (⟨"NineNoonsModel", "told", "(II)I"⟩, 21), (⟨"NineNoonsModel", "laterBy", "(I)I"⟩, 21), (⟨"NineNoonsModel", "hearsAnother", "(I)Z"⟩, 21), (⟨"NineNoonsModel", "minuteOf", "(I)I"⟩, 21), (⟨"NineNoonsModel", "milesBetween", "(II)I"⟩, 21), (⟨"NineNoonsModel", "alike", "(I)I"⟩, 21), (⟨"NineNoonsModel", "areTwo", "(II)Z"⟩, 21)]
theorem lw_r2 : ∀ q ∈ lw_privs_2, lw_okq q := List.forall_mem_cons.mpr ⟨lw_p16, List.forall_mem_cons.mpr ⟨lw_p17, List.forall_mem_cons.mpr ⟨lw_p18, List.forall_mem_cons.mpr ⟨lw_p19, List.forall_mem_cons.mpr ⟨lw_p20, List.forall_mem_cons.mpr ⟨lw_p21, List.forall_mem_cons.mpr ⟨lw_p22, List.forall_mem_cons.mpr ⟨lw_p23, List.forall_mem_cons.mpr ⟨lw_p24, List.forall_mem_cons.mpr ⟨lw_p25, List.forall_mem_cons.mpr ⟨lw_p26, List.forall_mem_cons.mpr ⟨lw_p27, List.forall_mem_cons.mpr ⟨lw_p28, List.forall_mem_cons.mpr ⟨lw_p29, List.forall_mem_cons.mpr ⟨lw_p30, List.forall_mem_cons.mpr ⟨lw_p31, fun _ h => absurd h List.not_mem_nil⟩⟩⟩⟩⟩⟩⟩⟩⟩⟩⟩⟩⟩⟩⟩⟩
theorem lw_p32 : lw_okq (⟨"NineNoonsModel", "leastGap", "()I"⟩, 21) := ⟨⟨by decide +kernel, by decide +kernel⟩, List.mem_of_getElem? (i := 616) (by decide +kernel), List.mem_of_getElem? (i := 755) (by decide +kernel), List.mem_of_getElem? (i := 756) (by decide +kernel)⟩
theorem lw_p33 : lw_okq (⟨"NineNoonsModel", "allAlike", "()I"⟩, 21) := ⟨⟨by decide +kernel, by decide +kernel⟩, List.mem_of_getElem? (i := 616) (by decide +kernel), List.mem_of_getElem? (i := 759) (by decide +kernel), List.mem_of_getElem? (i := 760) (by decide +kernel)⟩
theorem lw_p34 : lw_okq (⟨"NineNoonsModel", "sumOf", "(I)I"⟩, 21) := ⟨⟨by decide +kernel, by decide +kernel⟩, List.mem_of_getElem? (i := 616) (by decide +kernel), List.mem_of_getElem? (i := 763) (by decide +kernel), List.mem_of_getElem? (i := 764) (by decide +kernel)⟩
theorem lw_p35 : lw_okq (⟨"NineNoonsModel", "villagesRead", "()I"⟩, 21) := ⟨⟨by decide +kernel, by decide +kernel⟩, List.mem_of_getElem? (i := 616) (by decide +kernel), List.mem_of_getElem? (i := 777) (by decide +kernel), List.mem_of_getElem? (i := 778) (by decide +kernel)⟩
theorem lw_p36 : lw_okq (⟨"NineNoonsModel", "here", "()I"⟩, 21) := ⟨⟨by decide +kernel, by decide +kernel⟩, List.mem_of_getElem? (i := 616) (by decide +kernel), List.mem_of_getElem? (i := 781) (by decide +kernel), List.mem_of_getElem? (i := 782) (by decide +kernel)⟩
theorem lw_p37 : lw_okq (⟨"NineNoonsModel", "must", "(Z)V"⟩, 21) := ⟨⟨by decide +kernel, by decide +kernel⟩, List.mem_of_getElem? (i := 616) (by decide +kernel), List.mem_of_getElem? (i := 785) (by decide +kernel), List.mem_of_getElem? (i := 786) (by decide +kernel)⟩
theorem lw_p38 : lw_okq (⟨"NineNoonsModel", "number", "(I)I"⟩, 21) := ⟨⟨by decide +kernel, by decide +kernel⟩, List.mem_of_getElem? (i := 616) (by decide +kernel), List.mem_of_getElem? (i := 789) (by decide +kernel), List.mem_of_getElem? (i := 790) (by decide +kernel)⟩
theorem lw_p39 : lw_okq (⟨"NineNoonsModel", "notes", "()V"⟩, 21) := ⟨⟨by decide +kernel, by decide +kernel⟩, List.mem_of_getElem? (i := 616) (by decide +kernel), List.mem_of_getElem? (i := 800) (by decide +kernel), List.mem_of_getElem? (i := 801) (by decide +kernel)⟩
theorem lw_p40 : lw_okq (⟨"NineNoonsModel", "goesBy", "()V"⟩, 21) := ⟨⟨by decide +kernel, by decide +kernel⟩, List.mem_of_getElem? (i := 616) (by decide +kernel), List.mem_of_getElem? (i := 804) (by decide +kernel), List.mem_of_getElem? (i := 805) (by decide +kernel)⟩
theorem lw_p41 : lw_okq (⟨"NineNoonsModel", "becomes", "(IIIII)I"⟩, 21) := ⟨⟨by decide +kernel, by decide +kernel⟩, List.mem_of_getElem? (i := 616) (by decide +kernel), List.mem_of_getElem? (i := 812) (by decide +kernel), List.mem_of_getElem? (i := 813) (by decide +kernel)⟩
theorem lw_p42 : lw_okq (⟨"NineNoonsModel", "asides", "()V"⟩, 21) := ⟨⟨by decide +kernel, by decide +kernel⟩, List.mem_of_getElem? (i := 616) (by decide +kernel), List.mem_of_getElem? (i := 846) (by decide +kernel), List.mem_of_getElem? (i := 847) (by decide +kernel)⟩
theorem lw_p43 : lw_okq (⟨"NineNoonsModel", "goesOn", "(I)V"⟩, 21) := ⟨⟨by decide +kernel, by decide +kernel⟩, List.mem_of_getElem? (i := 616) (by decide +kernel), List.mem_of_getElem? (i := 850) (by decide +kernel), List.mem_of_getElem? (i := 851) (by decide +kernel)⟩
theorem lw_p44 : lw_okq (⟨"NineNoonsModel", "backs", "()V"⟩, 21) := ⟨⟨by decide +kernel, by decide +kernel⟩, List.mem_of_getElem? (i := 616) (by decide +kernel), List.mem_of_getElem? (i := 854) (by decide +kernel), List.mem_of_getElem? (i := 855) (by decide +kernel)⟩
theorem lw_p45 : lw_okq (⟨"NineNoonsModel", "whenTogether", "()I"⟩, 21) := ⟨⟨by decide +kernel, by decide +kernel⟩, List.mem_of_getElem? (i := 616) (by decide +kernel), List.mem_of_getElem? (i := 870) (by decide +kernel), List.mem_of_getElem? (i := 871) (by decide +kernel)⟩
theorem lw_p46 : lw_okq (⟨"NineNoonsModel", "setsIn", "(II)I"⟩, 21) := ⟨⟨by decide +kernel, by decide +kernel⟩, List.mem_of_getElem? (i := 616) (by decide +kernel), List.mem_of_getElem? (i := 880) (by decide +kernel), List.mem_of_getElem? (i := 881) (by decide +kernel)⟩
theorem lw_p47 : lw_okq (⟨"NineNoonsModel", "isOrder", "(I)Z"⟩, 21) := ⟨⟨by decide +kernel, by decide +kernel⟩, List.mem_of_getElem? (i := 616) (by decide +kernel), List.mem_of_getElem? (i := 895) (by decide +kernel), List.mem_of_getElem? (i := 896) (by decide +kernel)⟩
def lw_privs_3 : List (MethodName × Nat) := [(⟨"NineNoonsModel", "leastGap", "()I"⟩, 21), (⟨"NineNoonsModel", "allAlike", "()I"⟩, 21), (⟨"NineNoonsModel", "sumOf", "(I)I"⟩, 21), (⟨"NineNoonsModel", "villagesRead", "()I"⟩, 21), (⟨"NineNoonsModel", "here", "()I"⟩, 21), (⟨"NineNoonsModel", "must", "(Z)V"⟩, 21), (⟨"NineNoonsModel", "number", "(I)I"⟩, 21), (⟨"NineNoonsModel", "notes", "()V"⟩, 21), (⟨"NineNoonsModel", "goesBy", "()V"⟩, 21), (⟨"NineNoonsModel", "becomes", "(IIIII)I"⟩, 21), (⟨"NineNoonsModel", "asides", "()V"⟩, 21), (⟨"NineNoonsModel", "goesOn", "(I)V"⟩, 21), (⟨"NineNoonsModel", "backs", "()V"⟩, 21), (⟨"NineNoonsModel", "whenTogether", "()I"⟩, 21), (⟨"NineNoonsModel", "setsIn", "(II)I"⟩, 21), (⟨"NineNoonsModel", "isOrder", "(I)Z"⟩, 21)]
theorem lw_r3 : ∀ q ∈ lw_privs_3, lw_okq q := List.forall_mem_cons.mpr ⟨lw_p32, List.forall_mem_cons.mpr ⟨lw_p33, List.forall_mem_cons.mpr ⟨lw_p34, List.forall_mem_cons.mpr ⟨lw_p35, List.forall_mem_cons.mpr ⟨lw_p36, List.forall_mem_cons.mpr ⟨lw_p37, List.forall_mem_cons.mpr ⟨lw_p38, List.forall_mem_cons.mpr ⟨lw_p39, List.forall_mem_cons.mpr ⟨lw_p40, List.forall_mem_cons.mpr ⟨lw_p41, List.forall_mem_cons.mpr ⟨lw_p42, List.forall_mem_cons.mpr ⟨lw_p43, List.forall_mem_cons.mpr ⟨lw_p44, List.forall_mem_cons.mpr ⟨lw_p45, List.forall_mem_cons.mpr ⟨lw_p46, List.forall_mem_cons.mpr ⟨lw_p47, fun _ h => absurd h List.not_mem_nil⟩⟩⟩⟩⟩⟩⟩⟩⟩⟩⟩⟩⟩⟩⟩⟩
theorem lw_p48 : lw_okq (⟨"NineNoonsModel", "hears", "(III)I"⟩, 21) := ⟨⟨by decide +kernel, by decide +kernel⟩, List.mem_of_getElem? (i := 616) (by decide +kernel), List.mem_of_getElem? (i := 899) (by decide +kernel), List.mem_of_getElem? (i := 900) (by decide +kernel)⟩
theorem lw_p49 : lw_okq (⟨"NineNoonsModel", "isAsAside", "()Z"⟩, 21) := ⟨⟨by decide +kernel, by decide +kernel⟩, List.mem_of_getElem? (i := 616) (by decide +kernel), List.mem_of_getElem? (i := 907) (by decide +kernel), List.mem_of_getElem? (i := 908) (by decide +kernel)⟩
theorem lw_p50 : lw_okq (⟨"NineNoonsModel", "why", "(IIII)I"⟩, 21) := ⟨⟨by decide +kernel, by decide +kernel⟩, List.mem_of_getElem? (i := 616) (by decide +kernel), List.mem_of_getElem? (i := 940) (by decide +kernel), List.mem_of_getElem? (i := 941) (by decide +kernel)⟩
theorem lw_p51 : lw_okq (⟨"NineNoonsModel", "isSo", "(III)Z"⟩, 21) := ⟨⟨by decide +kernel, by decide +kernel⟩, List.mem_of_getElem? (i := 616) (by decide +kernel), List.mem_of_getElem? (i := 944) (by decide +kernel), List.mem_of_getElem? (i := 945) (by decide +kernel)⟩
def lw_privs_4 : List (MethodName × Nat) := [(⟨"NineNoonsModel", "hears", "(III)I"⟩, 21), (⟨"NineNoonsModel", "isAsAside", "()Z"⟩, 21), (⟨"NineNoonsModel", "why", "(IIII)I"⟩, 21), (⟨"NineNoonsModel", "isSo", "(III)Z"⟩, 21)]
theorem lw_r4 : ∀ q ∈ lw_privs_4, lw_okq q := List.forall_mem_cons.mpr ⟨lw_p48, List.forall_mem_cons.mpr ⟨lw_p49, List.forall_mem_cons.mpr ⟨lw_p50, List.forall_mem_cons.mpr ⟨lw_p51, fun _ h => absurd h List.not_mem_nil⟩⟩⟩⟩
def lw_privs : List (MethodName × Nat) := lw_privs_1 ++ (lw_privs_2 ++ (lw_privs_3 ++ (lw_privs_4)))
def lw_tbl : List Cond := k2_sels lw_privs ++ tables_1
theorem lw_privs_ok : ∀ q ∈ lw_privs, lw_okq q := by
  show ∀ q ∈ lw_privs_1 ++ (lw_privs_2 ++ (lw_privs_3 ++ (lw_privs_4))), lw_okq q
  exact List.forall_mem_append.mpr ⟨lw_r1, List.forall_mem_append.mpr ⟨lw_r2, List.forall_mem_append.mpr ⟨lw_r3, lw_r4⟩⟩⟩
end
section
def RX0 : String := "NineNoons$Carrier"
def TX0 : u_T := fun k => match k with
  | 0 => ("NineNoons$Carrier", "order", "[I", true)
  | 1 => ("NineNoons$Carrier", "bestOrder", "[I", true)
  | 2 => ("NineNoons$Carrier", "bestTime", "I", false)
  | _ => ("NineNoons$Carrier", "minutesAMile", "I", false)
def tyX0 : Nat → FieldType := fun k => match k with
  | 0 => .array .int
  | 1 => .array .int
  | 2 => .int
  | _ => .int
abbrev wsX00 : List Cond := u_ws RX0 TX0 4
theorem nmX0 : ∀ a, a < 4 → ∀ b, b < 4 → a ≠ b → (TX0 a).2.1 ≠ (TX0 b).2.1 := by decide +kernel
theorem tyX0_ok : ∀ k, k < 4 → parseFieldDescriptor (TX0 k).2.2.1 = some (tyX0 k) := by decide +kernel
abbrev cX0_init : ByteArray := prog_2_method_1_code
def yX0_init : MethodName := ⟨RX0, "<init>", "()V"⟩
abbrev cX0_soonest : ByteArray := prog_2_method_2_code
def yX0_soonest : MethodName := ⟨RX0, "soonest", "(LNineNoons$Valley;III)I"⟩
abbrev cX0_hearRest : ByteArray := prog_2_method_3_code
def yX0_hearRest : MethodName := ⟨RX0, "hearRest", "(LNineNoons$Valley;IIII)V"⟩
abbrev cX0_hearFirst : ByteArray := prog_2_method_4_code
def yX0_hearFirst : MethodName := ⟨RX0, "hearFirst", "(LNineNoons$Valley;IIII)V"⟩
def RX1 : String := "NineNoons$History"
def TX1 : u_T := fun k => match k with
  | 0 => ("NineNoons$History", "past", "[LNineNoons$Valley;", true)
  | 1 => ("NineNoons$History", "next", "I", false)
  | _ => ("NineNoons$History", "known", "I", false)
def tyX1 : Nat → FieldType := fun k => match k with
  | 0 => .array (.object "NineNoons$Valley")
  | 1 => .int
  | _ => .int
abbrev wsX10 : List Cond := u_ws RX1 TX1 3
theorem nmX1 : ∀ a, a < 3 → ∀ b, b < 3 → a ≠ b → (TX1 a).2.1 ≠ (TX1 b).2.1 := by decide +kernel
theorem tyX1_ok : ∀ k, k < 3 → parseFieldDescriptor (TX1 k).2.2.1 = some (tyX1 k) := by decide +kernel
abbrev cX1_init : ByteArray := prog_3_method_1_code
def yX1_init : MethodName := ⟨RX1, "<init>", "()V"⟩
abbrev cX1_forget : ByteArray := prog_3_method_2_code
def yX1_forget : MethodName := ⟨RX1, "forget", "()V"⟩
abbrev cX1_remember : ByteArray := prog_3_method_3_code
def yX1_remember : MethodName := ⟨RX1, "remember", "(LNineNoons$Valley;)V"⟩
abbrev cX1_takeBack : ByteArray := prog_3_method_4_code
def yX1_takeBack : MethodName := ⟨RX1, "takeBack", "(LNineNoons$Valley;)Z"⟩
abbrev cX1_becomeLike : ByteArray := prog_3_method_5_code
def yX1_becomeLike : MethodName := ⟨RX1, "becomeLike", "(LNineNoons$History;)V"⟩
def RX2 : String := "NineNoons$Setter"
def TX2 : u_T := fun k => match k with
  | _ => ("NineNoons$Setter", "shifts", "[I", true)
def tyX2 : Nat → FieldType := fun k => match k with
  | _ => .array .int
abbrev wsX20 : List Cond := u_ws RX2 TX2 1
theorem nmX2 : ∀ a, a < 1 → ∀ b, b < 1 → a ≠ b → (TX2 a).2.1 ≠ (TX2 b).2.1 := by decide +kernel
theorem tyX2_ok : ∀ k, k < 1 → parseFieldDescriptor (TX2 k).2.2.1 = some (tyX2 k) := by decide +kernel
abbrev cX2_init : ByteArray := prog_4_method_1_code
def yX2_init : MethodName := ⟨RX2, "<init>", "()V"⟩
abbrev cX2_leastTotal : ByteArray := prog_4_method_2_code
def yX2_leastTotal : MethodName := ⟨RX2, "leastTotal", "(LNineNoons$Valley;I)I"⟩
abbrev cX2_settle : ByteArray := prog_4_method_3_code
def yX2_settle : MethodName := ⟨RX2, "settle", "(LNineNoons$Valley;III)Z"⟩
abbrev cX2_settleBy : ByteArray := prog_4_method_4_code
def yX2_settleBy : MethodName := ⟨RX2, "settleBy", "(LNineNoons$Valley;IIII)Z"⟩
abbrev cX2_isClearOfEarlier : ByteArray := prog_4_method_5_code
def yX2_isClearOfEarlier : MethodName := ⟨RX2, "isClearOfEarlier", "(LNineNoons$Valley;II)Z"⟩
abbrev cX2_minuteThen : ByteArray := prog_4_method_6_code
def yX2_minuteThen : MethodName := ⟨RX2, "minuteThen", "(LNineNoons$Valley;I)I"⟩
def RX3 : String := "NineNoons$Sheet"
def TX3 : u_T := fun k => match k with
  | 0 => ("NineNoons$Sheet", "items", "[J", true)
  | 1 => ("NineNoons$Sheet", "lane", "I", false)
  | _ => ("NineNoons$Sheet", "length", "I", false)
def tyX3 : Nat → FieldType := fun k => match k with
  | 0 => .array .long
  | 1 => .int
  | _ => .int
abbrev wsX30 : List Cond := u_ws RX3 TX3 3
theorem nmX3 : ∀ a, a < 3 → ∀ b, b < 3 → a ≠ b → (TX3 a).2.1 ≠ (TX3 b).2.1 := by decide +kernel
theorem tyX3_ok : ∀ k, k < 3 → parseFieldDescriptor (TX3 k).2.2.1 = some (tyX3 k) := by decide +kernel
abbrev cX3_init : ByteArray := prog_5_method_1_code
def yX3_init : MethodName := ⟨RX3, "<init>", "()V"⟩
abbrev cX3_renew : ByteArray := prog_5_method_2_code
def yX3_renew : MethodName := ⟨RX3, "renew", "(II)V"⟩
abbrev cX3_remove : ByteArray := prog_5_method_3_code
def yX3_remove : MethodName := ⟨RX3, "remove", "()V"⟩
abbrev cX3_isMissing : ByteArray := prog_5_method_4_code
def yX3_isMissing : MethodName := ⟨RX3, "isMissing", "()Z"⟩
abbrev cX3_reaches : ByteArray := prog_5_method_5_code
def yX3_reaches : MethodName := ⟨RX3, "reaches", "(II)Z"⟩
abbrev cX3_refusal : ByteArray := prog_5_method_6_code
def yX3_refusal : MethodName := ⟨RX3, "refusal", "(III)I"⟩
abbrev cX3_put : ByteArray := prog_5_method_7_code
def yX3_put : MethodName := ⟨RX3, "put", "(IJ)V"⟩
def RX4 : String := "NineNoons$Tape"
def TX4 : u_T := fun k => match k with
  | 0 => ("NineNoons$Tape", "letters", "[C", true)
  | 1 => ("NineNoons$Tape", "length", "I", false)
  | 2 => ("NineNoons$Tape", "place", "I", false)
  | _ => ("NineNoons$Tape", "fault", "I", false)
def tyX4 : Nat → FieldType := fun k => match k with
  | 0 => .array .char
  | 1 => .int
  | 2 => .int
  | _ => .int
abbrev wsX40 : List Cond := u_ws RX4 TX4 4
theorem nmX4 : ∀ a, a < 4 → ∀ b, b < 4 → a ≠ b → (TX4 a).2.1 ≠ (TX4 b).2.1 := by decide +kernel
theorem tyX4_ok : ∀ k, k < 4 → parseFieldDescriptor (TX4 k).2.2.1 = some (tyX4 k) := by decide +kernel
abbrev cX4_init : ByteArray := prog_6_method_1_code
def yX4_init : MethodName := ⟨RX4, "<init>", "()V"⟩
abbrev cX4_put : ByteArray := prog_6_method_2_code
def yX4_put : MethodName := ⟨RX4, "put", "(C)Z"⟩
abbrev cX4_readInto : ByteArray := prog_6_method_3_code
def yX4_readInto : MethodName := ⟨RX4, "readInto", "(LNineNoons$Valley;)I"⟩
abbrev cX4_readVillage : ByteArray := prog_6_method_4_code
def yX4_readVillage : MethodName := ⟨RX4, "readVillage", "(LNineNoons$Valley;)V"⟩
abbrev cX4_readKind : ByteArray := prog_6_method_5_code
def yX4_readKind : MethodName := ⟨RX4, "readKind", "()I"⟩
abbrev cX4_readDrift : ByteArray := prog_6_method_6_code
def yX4_readDrift : MethodName := ⟨RX4, "readDrift", "()I"⟩
abbrev cX4_readNumber : ByteArray := prog_6_method_7_code
def yX4_readNumber : MethodName := ⟨RX4, "readNumber", "(I)I"⟩
abbrev cX4_takeDigit : ByteArray := prog_6_method_8_code
def yX4_takeDigit : MethodName := ⟨RX4, "takeDigit", "()I"⟩
abbrev cX4_takes : ByteArray := prog_6_method_9_code
def yX4_takes : MethodName := ⟨RX4, "takes", "(C)Z"⟩
abbrev cX4_comingLetter : ByteArray := prog_6_method_10_code
def yX4_comingLetter : MethodName := ⟨RX4, "comingLetter", "()C"⟩
abbrev cX4_faultAt : ByteArray := prog_6_method_11_code
def yX4_faultAt : MethodName := ⟨RX4, "faultAt", "(I)V"⟩
abbrev cX4_isDigit : ByteArray := prog_6_method_12_code
def yX4_isDigit : MethodName := ⟨RX4, "isDigit", "(C)Z"⟩
def RX5 : String := "NineNoons$Valley"
def TX5 : u_T := fun k => match k with
  | 0 => ("NineNoons$Valley", "kinds", "[I", true)
  | 1 => ("NineNoons$Valley", "minutes", "[I", true)
  | 2 => ("NineNoons$Valley", "drifts", "[I", true)
  | 3 => ("NineNoons$Valley", "miles", "[I", true)
  | 4 => ("NineNoons$Valley", "shifts", "[I", true)
  | 5 => ("NineNoons$Valley", "villages", "I", false)
  | 6 => ("NineNoons$Valley", "day", "I", false)
  | _ => ("NineNoons$Valley", "draw", "I", false)
def tyX5 : Nat → FieldType := fun k => match k with
  | 0 => .array .int
  | 1 => .array .int
  | 2 => .array .int
  | 3 => .array .int
  | 4 => .array .int
  | 5 => .int
  | 6 => .int
  | _ => .int
abbrev wsX50 : List Cond := u_ws RX5 TX5 8
theorem nmX5 : ∀ a, a < 8 → ∀ b, b < 8 → a ≠ b → (TX5 a).2.1 ≠ (TX5 b).2.1 := by decide +kernel
theorem tyX5_ok : ∀ k, k < 8 → parseFieldDescriptor (TX5 k).2.2.1 = some (tyX5 k) := by decide +kernel
abbrev cX5_init : ByteArray := prog_7_method_1_code
def yX5_init : MethodName := ⟨RX5, "<init>", "()V"⟩
abbrev cX5_becomeLike : ByteArray := prog_7_method_2_code
def yX5_becomeLike : MethodName := ⟨RX5, "becomeLike", "(LNineNoons$Valley;)V"⟩
abbrev cX5_clear : ByteArray := prog_7_method_3_code
def yX5_clear : MethodName := ⟨RX5, "clear", "()V"⟩
abbrev cX5_build : ByteArray := prog_7_method_4_code
def yX5_build : MethodName := ⟨RX5, "build", "(IIII)V"⟩
abbrev cX5_has : ByteArray := prog_7_method_5_code
def yX5_has : MethodName := ⟨RX5, "has", "(I)Z"⟩
abbrev cX5_hasBoth : ByteArray := prog_7_method_6_code
def yX5_hasBoth : MethodName := ⟨RX5, "hasBoth", "(II)Z"⟩
abbrev cX5_gapBetween : ByteArray := prog_7_method_7_code
def yX5_gapBetween : MethodName := ⟨RX5, "gapBetween", "(II)I"⟩
abbrev cX5_leastGap : ByteArray := prog_7_method_8_code
def yX5_leastGap : MethodName := ⟨RX5, "leastGap", "()I"⟩
abbrev cX5_ringersWith : ByteArray := prog_7_method_9_code
def yX5_ringersWith : MethodName := ⟨RX5, "ringersWith", "(I)I"⟩
abbrev cX5_ringers : ByteArray := prog_7_method_10_code
def yX5_ringers : MethodName := ⟨RX5, "ringers", "()I"⟩
abbrev cX5_sumOf : ByteArray := prog_7_method_11_code
def yX5_sumOf : MethodName := ⟨RX5, "sumOf", "([I)I"⟩
abbrev cX5_isFree : ByteArray := prog_7_method_12_code
def yX5_isFree : MethodName := ⟨RX5, "isFree", "(II)Z"⟩
abbrev cX5_isApartWith : ByteArray := prog_7_method_13_code
def yX5_isApartWith : MethodName := ⟨RX5, "isApartWith", "(I)Z"⟩
abbrev cX5_ringsLike : ByteArray := prog_7_method_14_code
def yX5_ringsLike : MethodName := ⟨RX5, "ringsLike", "(LNineNoons$Valley;)Z"⟩
abbrev cX5_laterBy : ByteArray := prog_7_method_15_code
def yX5_laterBy : MethodName := ⟨RX5, "laterBy", "(I)I"⟩
abbrev cX5_slowShift : ByteArray := prog_7_method_16_code
def yX5_slowShift : MethodName := ⟨RX5, "slowShift", "(I)I"⟩
abbrev cX5_hearerShift : ByteArray := prog_7_method_17_code
def yX5_hearerShift : MethodName := ⟨RX5, "hearerShift", "(I)I"⟩
abbrev cX5_isByTheOneBefore : ByteArray := prog_7_method_18_code
def yX5_isByTheOneBefore : MethodName := ⟨RX5, "isByTheOneBefore", "(I)Z"⟩
abbrev cX5_passDay : ByteArray := prog_7_method_19_code
def yX5_passDay : MethodName := ⟨RX5, "passDay", "()V"⟩
abbrev cX5_drawRinger : ByteArray := prog_7_method_20_code
def yX5_drawRinger : MethodName := ⟨RX5, "drawRinger", "()V"⟩
abbrev cX5_passDaysUntilTogether : ByteArray := prog_7_method_21_code
def yX5_passDaysUntilTogether : MethodName := ⟨RX5, "passDaysUntilTogether", "()I"⟩
def RX6 : String := "NineNoons"
def TX6 : u_T := fun k => match k with
  | 0 => ("NineNoons", "now", "LNineNoons$Valley;", true)
  | 1 => ("NineNoons", "history", "LNineNoons$History;", true)
  | 2 => ("NineNoons", "keptValley", "LNineNoons$Valley;", true)
  | 3 => ("NineNoons", "keptHistory", "LNineNoons$History;", true)
  | 4 => ("NineNoons", "imageKept", "Z", false)
  | 5 => ("NineNoons", "trial", "LNineNoons$Valley;", true)
  | 6 => ("NineNoons", "setter", "LNineNoons$Setter;", true)
  | 7 => ("NineNoons", "carrier", "LNineNoons$Carrier;", true)
  | 8 => ("NineNoons", "tape", "LNineNoons$Tape;", true)
  | _ => ("NineNoons", "sheets", "[LNineNoons$Sheet;", true)
def tyX6 : Nat → FieldType := fun k => match k with
  | 0 => .object "NineNoons$Valley"
  | 1 => .object "NineNoons$History"
  | 2 => .object "NineNoons$Valley"
  | 3 => .object "NineNoons$History"
  | 4 => .boolean
  | 5 => .object "NineNoons$Valley"
  | 6 => .object "NineNoons$Setter"
  | 7 => .object "NineNoons$Carrier"
  | 8 => .object "NineNoons$Tape"
  | _ => .array (.object "NineNoons$Sheet")
abbrev wsX60 : List Cond := u_ws RX6 TX6 10
theorem nmX6 : ∀ a, a < 10 → ∀ b, b < 10 → a ≠ b → (TX6 a).2.1 ≠ (TX6 b).2.1 := by decide +kernel
theorem tyX6_ok : ∀ k, k < 10 → parseFieldDescriptor (TX6 k).2.2.1 = some (tyX6 k) := by decide +kernel
abbrev cX6_init : ByteArray := prog_1_method_1_code
def yX6_init : MethodName := ⟨RX6, "<init>", "()V"⟩
abbrev cX6_village : ByteArray := prog_1_method_2_code
def yX6_village : MethodName := ⟨RX6, "village", "(III)I"⟩
abbrev cX6_of : ByteArray := prog_1_method_3_code
def yX6_of : MethodName := ⟨RX6, "of", "(II)I"⟩
abbrev cX6_gap : ByteArray := prog_1_method_4_code
def yX6_gap : MethodName := ⟨RX6, "gap", "(II)I"⟩
abbrev cX6_type : ByteArray := prog_1_method_5_code
def yX6_type : MethodName := ⟨RX6, "type", "(I)I"⟩
abbrev cX6_valley : ByteArray := prog_1_method_6_code
def yX6_valley : MethodName := ⟨RX6, "valley", "()I"⟩
abbrev cX6_count : ByteArray := prog_1_method_7_code
def yX6_count : MethodName := ⟨RX6, "count", "(I)I"⟩
abbrev cX6_days : ByteArray := prog_1_method_8_code
def yX6_days : MethodName := ⟨RX6, "days", "(I)I"⟩
abbrev cX6_set : ByteArray := prog_1_method_9_code
def yX6_set : MethodName := ⟨RX6, "set", "(II)I"⟩
abbrev cX6_move : ByteArray := prog_1_method_10_code
def yX6_move : MethodName := ⟨RX6, "move", "(II)I"⟩
abbrev cX6_tune : ByteArray := prog_1_method_11_code
def yX6_tune : MethodName := ⟨RX6, "tune", "(II)I"⟩
abbrev cX6_storm : ByteArray := prog_1_method_12_code
def yX6_storm : MethodName := ⟨RX6, "storm", "(I)I"⟩
abbrev cX6_undo : ByteArray := prog_1_method_13_code
def yX6_undo : MethodName := ⟨RX6, "undo", "()I"⟩
abbrev cX6_seed : ByteArray := prog_1_method_14_code
def yX6_seed : MethodName := ⟨RX6, "seed", "(I)I"⟩
abbrev cX6_passDays : ByteArray := prog_1_method_15_code
def yX6_passDays : MethodName := ⟨RX6, "passDays", "(IZ)I"⟩
abbrev cX6_ahead : ByteArray := prog_1_method_16_code
def yX6_ahead : MethodName := ⟨RX6, "ahead", "(II)I"⟩
abbrev cX6_near : ByteArray := prog_1_method_17_code
def yX6_near : MethodName := ⟨RX6, "near", "(I)I"⟩
abbrev cX6_meet : ByteArray := prog_1_method_18_code
def yX6_meet : MethodName := ⟨RX6, "meet", "(II)I"⟩
abbrev cX6_together : ByteArray := prog_1_method_19_code
def yX6_together : MethodName := ⟨RX6, "together", "(I)I"⟩
abbrev cX6_fix : ByteArray := prog_1_method_20_code
def yX6_fix : MethodName := ⟨RX6, "fix", "(II)I"⟩
abbrev cX6_free : ByteArray := prog_1_method_21_code
def yX6_free : MethodName := ⟨RX6, "free", "(II)J"⟩
abbrev cX6_hear : ByteArray := prog_1_method_22_code
def yX6_hear : MethodName := ⟨RX6, "hear", "(IIII)I"⟩
abbrev cX6_again : ByteArray := prog_1_method_23_code
def yX6_again : MethodName := ⟨RX6, "again", "()I"⟩
abbrev cX6_worst : ByteArray := prog_1_method_24_code
def yX6_worst : MethodName := ⟨RX6, "worst", "(I)I"⟩
abbrev cX6_fog : ByteArray := prog_1_method_25_code
def yX6_fog : MethodName := ⟨RX6, "fog", "(II)I"⟩
abbrev cX6_image : ByteArray := prog_1_method_26_code
def yX6_image : MethodName := ⟨RX6, "image", "()I"⟩
abbrev cX6_restore : ByteArray := prog_1_method_27_code
def yX6_restore : MethodName := ⟨RX6, "restore", "()I"⟩
abbrev cX6_foretell : ByteArray := prog_1_method_28_code
def yX6_foretell : MethodName := ⟨RX6, "foretell", "(I)V"⟩
abbrev cX6_freeMinutes : ByteArray := prog_1_method_29_code
def yX6_freeMinutes : MethodName := ⟨RX6, "freeMinutes", "(I)J"⟩
abbrev cX6_togetherWithoutDriftOf : ByteArray := prog_1_method_30_code
def yX6_togetherWithoutDriftOf : MethodName := ⟨RX6, "togetherWithoutDriftOf", "(I)I"⟩
abbrev cX6_fogWaysApart : ByteArray := prog_1_method_31_code
def yX6_fogWaysApart : MethodName := ⟨RX6, "fogWaysApart", "(I)I"⟩
abbrev cX6_heard : ByteArray := prog_1_method_32_code
def yX6_heard : MethodName := ⟨RX6, "heard", "(IIIIII)I"⟩
abbrev cX6_film : ByteArray := prog_1_method_33_code
def yX6_film : MethodName := ⟨RX6, "film", "(IIIII)I"⟩
abbrev cX6_sheet : ByteArray := prog_1_method_34_code
def yX6_sheet : MethodName := ⟨RX6, "sheet", "(III)I"⟩
abbrev cX6_drop : ByteArray := prog_1_method_35_code
def yX6_drop : MethodName := ⟨RX6, "drop", "(I)I"⟩
abbrev cX6_item : ByteArray := prog_1_method_36_code
def yX6_item : MethodName := ⟨RX6, "item", "(IIIJ)I"⟩
abbrev cX6_copy : ByteArray := prog_1_method_37_code
def yX6_copy : MethodName := ⟨RX6, "copy", "(IIIII)I"⟩
abbrev cX6_kindsHeard : ByteArray := prog_1_method_38_code
def yX6_kindsHeard : MethodName := ⟨RX6, "kindsHeard", "(ILNineNoons$Sheet;II)I"⟩
abbrev cX6_driftsHeard : ByteArray := prog_1_method_39_code
def yX6_driftsHeard : MethodName := ⟨RX6, "driftsHeard", "(ILNineNoons$Sheet;II)I"⟩
abbrev cX6_trialRingsAs : ByteArray := prog_1_method_40_code
def yX6_trialRingsAs : MethodName := ⟨RX6, "trialRingsAs", "(ILNineNoons$Sheet;II)Z"⟩
abbrev cX6_within : ByteArray := prog_1_method_41_code
def yX6_within : MethodName := ⟨RX6, "within", "(III)Z"⟩
abbrev cX6_isMinute : ByteArray := prog_1_method_42_code
def yX6_isMinute : MethodName := ⟨RX6, "isMinute", "(I)Z"⟩
abbrev cX6_isSheetAndLane : ByteArray := prog_1_method_43_code
def yX6_isSheetAndLane : MethodName := ⟨RX6, "isSheetAndLane", "(II)Z"⟩
abbrev cX6_isIn : ByteArray := prog_1_method_44_code
def yX6_isIn : MethodName := ⟨RX6, "isIn", "(II)Z"⟩
abbrev cX6_roundTheHour : ByteArray := prog_1_method_45_code
def yX6_roundTheHour : MethodName := ⟨RX6, "roundTheHour", "(I)I"⟩
abbrev cX6_shorterWay : ByteArray := prog_1_method_46_code
def yX6_shorterWay : MethodName := ⟨RX6, "shorterWay", "(II)I"⟩
abbrev cX6_greatestDivisor : ByteArray := prog_1_method_47_code
def yX6_greatestDivisor : MethodName := ⟨RX6, "greatestDivisor", "(II)I"⟩
def RX7 : String := "NineNoonsModel"
def TX7 : u_T := fun k => match k with
  | 0 => ("NineNoonsModel", "now", "[I", true)
  | 1 => ("NineNoonsModel", "later", "[I", true)
  | 2 => ("NineNoonsModel", "tape", "[I", true)
  | 3 => ("NineNoonsModel", "typed", "I", false)
  | 4 => ("NineNoonsModel", "place", "I", false)
  | 5 => ("NineNoonsModel", "isFault", "Z", false)
  | 6 => ("NineNoonsModel", "read", "[I", true)
  | 7 => ("NineNoonsModel", "undone", "[I", true)
  | 8 => ("NineNoonsModel", "undos", "I", false)
  | 9 => ("NineNoonsModel", "aside", "[I", true)
  | 10 => ("NineNoonsModel", "together", "I", false)
  | 11 => ("NineNoonsModel", "by", "[I", true)
  | 12 => ("NineNoonsModel", "best", "[I", true)
  | 13 => ("NineNoonsModel", "order", "[I", true)
  | 14 => ("NineNoonsModel", "kept", "[I", true)
  | 15 => ("NineNoonsModel", "keptUndos", "I", false)
  | 16 => ("NineNoonsModel", "isKept", "Z", false)
  | 17 => ("NineNoonsModel", "lanes", "[I", true)
  | 18 => ("NineNoonsModel", "sizes", "[I", true)
  | 19 => ("NineNoonsModel", "items", "[J", true)
  | _ => ("NineNoonsModel", "moved", "[J", true)
def tyX7 : Nat → FieldType := fun k => match k with
  | 0 => .array .int
  | 1 => .array .int
  | 2 => .array .int
  | 3 => .int
  | 4 => .int
  | 5 => .boolean
  | 6 => .array .int
  | 7 => .array .int
  | 8 => .int
  | 9 => .array .int
  | 10 => .int
  | 11 => .array .int
  | 12 => .array .int
  | 13 => .array .int
  | 14 => .array .int
  | 15 => .int
  | 16 => .boolean
  | 17 => .array .int
  | 18 => .array .int
  | 19 => .array .long
  | _ => .array .long
abbrev wsX70 : List Cond := u_ws RX7 TX7 21
theorem nmX7 : ∀ a, a < 21 → ∀ b, b < 21 → a ≠ b → (TX7 a).2.1 ≠ (TX7 b).2.1 := by decide +kernel
theorem tyX7_ok : ∀ k, k < 21 → parseFieldDescriptor (TX7 k).2.2.1 = some (tyX7 k) := by decide +kernel
abbrev cX7_in : ByteArray := prog_9_method_2_code
def yX7_in : MethodName := ⟨RX7, "in", "(JJJ)Z"⟩
abbrev cX7_init : ByteArray := prog_9_method_3_code
def yX7_init : MethodName := ⟨RX7, "<init>", "()V"⟩
abbrev cX7_isVillage : ByteArray := prog_9_method_4_code
def yX7_isVillage : MethodName := ⟨RX7, "isVillage", "(I)Z"⟩
abbrev cX7_told : ByteArray := prog_9_method_5_code
def yX7_told : MethodName := ⟨RX7, "told", "(II)I"⟩
abbrev cX7_tells : ByteArray := prog_9_method_6_code
def yX7_tells : MethodName := ⟨RX7, "tells", "(III)V"⟩
abbrev cX7_minuteOf : ByteArray := prog_9_method_7_code
def yX7_minuteOf : MethodName := ⟨RX7, "minuteOf", "(I)I"⟩
abbrev cX7_round : ByteArray := prog_9_method_8_code
def yX7_round : MethodName := ⟨RX7, "round", "(I)I"⟩
abbrev cX7_between : ByteArray := prog_9_method_9_code
def yX7_between : MethodName := ⟨RX7, "between", "(II)I"⟩
abbrev cX7_milesBetween : ByteArray := prog_9_method_10_code
def yX7_milesBetween : MethodName := ⟨RX7, "milesBetween", "(II)I"⟩
abbrev cX7_hearsAnother : ByteArray := prog_9_method_11_code
def yX7_hearsAnother : MethodName := ⟨RX7, "hearsAnother", "(I)Z"⟩
abbrev cX7_laterBy : ByteArray := prog_9_method_12_code
def yX7_laterBy : MethodName := ⟨RX7, "laterBy", "(I)I"⟩
abbrev cX7_goesBy : ByteArray := prog_9_method_13_code
def yX7_goesBy : MethodName := ⟨RX7, "goesBy", "()V"⟩
abbrev cX7_goesOn : ByteArray := prog_9_method_14_code
def yX7_goesOn : MethodName := ⟨RX7, "goesOn", "(I)V"⟩
abbrev cX7_leastGap : ByteArray := prog_9_method_15_code
def yX7_leastGap : MethodName := ⟨RX7, "leastGap", "()I"⟩
abbrev cX7_alike : ByteArray := prog_9_method_16_code
def yX7_alike : MethodName := ⟨RX7, "alike", "(I)I"⟩
abbrev cX7_allAlike : ByteArray := prog_9_method_17_code
def yX7_allAlike : MethodName := ⟨RX7, "allAlike", "()I"⟩
abbrev cX7_villageComes : ByteArray := prog_9_method_18_code
def yX7_villageComes : MethodName := ⟨RX7, "villageComes", "(IIII)V"⟩
abbrev cX7_village : ByteArray := prog_9_method_19_code
def yX7_village : MethodName := ⟨RX7, "village", "(III)I"⟩
abbrev cX7_of : ByteArray := prog_9_method_20_code
def yX7_of : MethodName := ⟨RX7, "of", "(II)I"⟩
abbrev cX7_areTwo : ByteArray := prog_9_method_21_code
def yX7_areTwo : MethodName := ⟨RX7, "areTwo", "(II)Z"⟩
abbrev cX7_gap : ByteArray := prog_9_method_22_code
def yX7_gap : MethodName := ⟨RX7, "gap", "(II)I"⟩
abbrev cX7_sumOf : ByteArray := prog_9_method_23_code
def yX7_sumOf : MethodName := ⟨RX7, "sumOf", "(I)I"⟩
abbrev cX7_count : ByteArray := prog_9_method_24_code
def yX7_count : MethodName := ⟨RX7, "count", "(I)I"⟩
abbrev cX7_type : ByteArray := prog_9_method_25_code
def yX7_type : MethodName := ⟨RX7, "type", "(I)I"⟩
abbrev cX7_here : ByteArray := prog_9_method_26_code
def yX7_here : MethodName := ⟨RX7, "here", "()I"⟩
abbrev cX7_must : ByteArray := prog_9_method_27_code
def yX7_must : MethodName := ⟨RX7, "must", "(Z)V"⟩
abbrev cX7_number : ByteArray := prog_9_method_28_code
def yX7_number : MethodName := ⟨RX7, "number", "(I)I"⟩
abbrev cX7_villagesRead : ByteArray := prog_9_method_29_code
def yX7_villagesRead : MethodName := ⟨RX7, "villagesRead", "()I"⟩
abbrev cX7_valley : ByteArray := prog_9_method_30_code
def yX7_valley : MethodName := ⟨RX7, "valley", "()I"⟩
abbrev cX7_notes : ByteArray := prog_9_method_31_code
def yX7_notes : MethodName := ⟨RX7, "notes", "()V"⟩
abbrev cX7_days : ByteArray := prog_9_method_32_code
def yX7_days : MethodName := ⟨RX7, "days", "(I)I"⟩
abbrev cX7_becomes : ByteArray := prog_9_method_33_code
def yX7_becomes : MethodName := ⟨RX7, "becomes", "(IIIII)I"⟩
abbrev cX7_set : ByteArray := prog_9_method_34_code
def yX7_set : MethodName := ⟨RX7, "set", "(II)I"⟩
abbrev cX7_move : ByteArray := prog_9_method_35_code
def yX7_move : MethodName := ⟨RX7, "move", "(II)I"⟩
abbrev cX7_tune : ByteArray := prog_9_method_36_code
def yX7_tune : MethodName := ⟨RX7, "tune", "(II)I"⟩
abbrev cX7_storm : ByteArray := prog_9_method_37_code
def yX7_storm : MethodName := ⟨RX7, "storm", "(I)I"⟩
abbrev cX7_undo : ByteArray := prog_9_method_38_code
def yX7_undo : MethodName := ⟨RX7, "undo", "()I"⟩
abbrev cX7_seed : ByteArray := prog_9_method_39_code
def yX7_seed : MethodName := ⟨RX7, "seed", "(I)I"⟩
abbrev cX7_asides : ByteArray := prog_9_method_40_code
def yX7_asides : MethodName := ⟨RX7, "asides", "()V"⟩
abbrev cX7_backs : ByteArray := prog_9_method_41_code
def yX7_backs : MethodName := ⟨RX7, "backs", "()V"⟩
abbrev cX7_ahead : ByteArray := prog_9_method_42_code
def yX7_ahead : MethodName := ⟨RX7, "ahead", "(II)I"⟩
abbrev cX7_near : ByteArray := prog_9_method_43_code
def yX7_near : MethodName := ⟨RX7, "near", "(I)I"⟩
abbrev cX7_meet : ByteArray := prog_9_method_44_code
def yX7_meet : MethodName := ⟨RX7, "meet", "(II)I"⟩
abbrev cX7_whenTogether : ByteArray := prog_9_method_45_code
def yX7_whenTogether : MethodName := ⟨RX7, "whenTogether", "()I"⟩
abbrev cX7_together : ByteArray := prog_9_method_46_code
def yX7_together : MethodName := ⟨RX7, "together", "(I)I"⟩
abbrev cX7_setsIn : ByteArray := prog_9_method_47_code
def yX7_setsIn : MethodName := ⟨RX7, "setsIn", "(II)I"⟩
abbrev cX7_fix : ByteArray := prog_9_method_48_code
def yX7_fix : MethodName := ⟨RX7, "fix", "(II)I"⟩
abbrev cX7_free : ByteArray := prog_9_method_49_code
def yX7_free : MethodName := ⟨RX7, "free", "(II)J"⟩
abbrev cX7_isOrder : ByteArray := prog_9_method_50_code
def yX7_isOrder : MethodName := ⟨RX7, "isOrder", "(I)Z"⟩
abbrev cX7_hears : ByteArray := prog_9_method_51_code
def yX7_hears : MethodName := ⟨RX7, "hears", "(III)I"⟩
abbrev cX7_hear : ByteArray := prog_9_method_52_code
def yX7_hear : MethodName := ⟨RX7, "hear", "(IIII)I"⟩
abbrev cX7_isAsAside : ByteArray := prog_9_method_53_code
def yX7_isAsAside : MethodName := ⟨RX7, "isAsAside", "()Z"⟩
abbrev cX7_again : ByteArray := prog_9_method_54_code
def yX7_again : MethodName := ⟨RX7, "again", "()I"⟩
abbrev cX7_worst : ByteArray := prog_9_method_55_code
def yX7_worst : MethodName := ⟨RX7, "worst", "(I)I"⟩
abbrev cX7_fog : ByteArray := prog_9_method_56_code
def yX7_fog : MethodName := ⟨RX7, "fog", "(II)I"⟩
abbrev cX7_image : ByteArray := prog_9_method_57_code
def yX7_image : MethodName := ⟨RX7, "image", "()I"⟩
abbrev cX7_restore : ByteArray := prog_9_method_58_code
def yX7_restore : MethodName := ⟨RX7, "restore", "()I"⟩
abbrev cX7_isSheet : ByteArray := prog_9_method_59_code
def yX7_isSheet : MethodName := ⟨RX7, "isSheet", "(I)Z"⟩
abbrev cX7_isLane : ByteArray := prog_9_method_60_code
def yX7_isLane : MethodName := ⟨RX7, "isLane", "(I)Z"⟩
abbrev cX7_why : ByteArray := prog_9_method_61_code
def yX7_why : MethodName := ⟨RX7, "why", "(IIII)I"⟩
abbrev cX7_isSo : ByteArray := prog_9_method_62_code
def yX7_isSo : MethodName := ⟨RX7, "isSo", "(III)Z"⟩
abbrev cX7_heard : ByteArray := prog_9_method_63_code
def yX7_heard : MethodName := ⟨RX7, "heard", "(IIIIII)I"⟩
abbrev cX7_film : ByteArray := prog_9_method_64_code
def yX7_film : MethodName := ⟨RX7, "film", "(IIIII)I"⟩
abbrev cX7_sheet : ByteArray := prog_9_method_65_code
def yX7_sheet : MethodName := ⟨RX7, "sheet", "(III)I"⟩
abbrev cX7_drop : ByteArray := prog_9_method_66_code
def yX7_drop : MethodName := ⟨RX7, "drop", "(I)I"⟩
abbrev cX7_item : ByteArray := prog_9_method_67_code
def yX7_item : MethodName := ⟨RX7, "item", "(IIIJ)I"⟩
abbrev cX7_copy : ByteArray := prog_9_method_68_code
def yX7_copy : MethodName := ⟨RX7, "copy", "(IIIII)I"⟩
def RJ6 : String := "java/lang/Integer"
def TJ6 : u_T := fun k => match k with
  | _ => ("", "", "", false)
def tyJ6 : Nat → FieldType := fun k => match k with
  | _ => .int
abbrev wsJ60 : List Cond := u_ws RJ6 TJ6 0
theorem nmJ6 : ∀ a, a < 0 → ∀ b, b < 0 → a ≠ b → (TJ6 a).2.1 ≠ (TJ6 b).2.1 := by decide +kernel
theorem tyJ6_ok : ∀ k, k < 0 → parseFieldDescriptor (TJ6 k).2.2.1 = some (tyJ6 k) := by decide +kernel
abbrev cJ6_numberOfTrailingZeros_0f7a4 : ByteArray := prog_10_method_48_code
def yJ6_numberOfTrailingZeros_0f7a4 : MethodName := ⟨RJ6, "numberOfTrailingZeros", "(I)I"⟩
def RJ13 : String := "java/lang/Long"
def TJ13 : u_T := fun k => match k with
  | _ => ("", "", "", false)
def tyJ13 : Nat → FieldType := fun k => match k with
  | _ => .int
abbrev wsJ130 : List Cond := u_ws RJ13 TJ13 0
theorem nmJ13 : ∀ a, a < 0 → ∀ b, b < 0 → a ≠ b → (TJ13 a).2.1 ≠ (TJ13 b).2.1 := by decide +kernel
theorem tyJ13_ok : ∀ k, k < 0 → parseFieldDescriptor (TJ13 k).2.2.1 = some (tyJ13 k) := by decide +kernel
abbrev cJ13_numberOfTrailingZeros_95d88 : ByteArray := prog_11_method_49_code
def yJ13_numberOfTrailingZeros_95d88 : MethodName := ⟨RJ13, "numberOfTrailingZeros", "(J)I"⟩
abbrev cJ13_bitCount_95d88 : ByteArray := prog_11_method_50_code
def yJ13_bitCount_95d88 : MethodName := ⟨RJ13, "bitCount", "(J)I"⟩
def RJ9 : String := "java/lang/Math"
def TJ9 : u_T := fun k => match k with
  | _ => ("", "", "", false)
def tyJ9 : Nat → FieldType := fun k => match k with
  | _ => .int
abbrev wsJ90 : List Cond := u_ws RJ9 TJ9 0
theorem nmJ9 : ∀ a, a < 0 → ∀ b, b < 0 → a ≠ b → (TJ9 a).2.1 ≠ (TJ9 b).2.1 := by decide +kernel
theorem tyJ9_ok : ∀ k, k < 0 → parseFieldDescriptor (TJ9 k).2.2.1 = some (tyJ9 k) := by decide +kernel
abbrev cJ9_floorMod_7cf53 : ByteArray := prog_12_method_50_code
def yJ9_floorMod_7cf53 : MethodName := ⟨RJ9, "floorMod", "(II)I"⟩
abbrev cJ9_abs_0f7a4 : ByteArray := prog_12_method_59_code
def yJ9_abs_0f7a4 : MethodName := ⟨RJ9, "abs", "(I)I"⟩
abbrev cJ9_max_7cf53 : ByteArray := prog_12_method_65_code
def yJ9_max_7cf53 : MethodName := ⟨RJ9, "max", "(II)I"⟩
abbrev cJ9_min_7cf53 : ByteArray := prog_12_method_69_code
def yJ9_min_7cf53 : MethodName := ⟨RJ9, "min", "(II)I"⟩
def RJ10 : String := "java/lang/System"
def TJ10 : u_T := fun k => match k with
  | _ => ("", "", "", false)
def tyJ10 : Nat → FieldType := fun k => match k with
  | _ => .int
abbrev wsJ100 : List Cond := u_ws RJ10 TJ10 0
theorem nmJ10 : ∀ a, a < 0 → ∀ b, b < 0 → a ≠ b → (TJ10 a).2.1 ≠ (TJ10 b).2.1 := by decide +kernel
theorem tyJ10_ok : ∀ k, k < 0 → parseFieldDescriptor (TJ10 k).2.2.1 = some (tyJ10 k) := by decide +kernel
def RL : String := "NineNoonsLaw"
abbrev cL_law : ByteArray := code
def yL_law : MethodName := ⟨RL, "law", "([I)Z"⟩
abbrev vwCl : List vw_C := [(RX0, TX0, 4), (RX1, TX1, 3), (RX2, TX2, 1), (RX3, TX3, 3), (RX4, TX4, 4), (RX5, TX5, 8), (RX6, TX6, 10), (RX7, TX7, 21)]
end
section
def nn_B : List Cond := lw_tbl.filter goodWord
theorem nn_mT {w : Cond} (h : w ∈ tables_1) (g : goodWord w = true) : w ∈ nn_B := List.mem_filter.mpr ⟨List.mem_append_right _ h, g⟩
theorem nn_mS {w : Cond} (h : w ∈ k2_sels lw_privs) (g : goodWord w = true) : w ∈ nn_B := List.mem_filter.mpr ⟨List.mem_append_left _ h, g⟩
theorem nn_m1 {k : Nat} {w : Cond} (h : tables_1_1[k]? = some w) (g : goodWord w = true) : w ∈ nn_B := nn_mT (List.mem_append_left _ (List.mem_of_getElem? h)) g
theorem nn_q1 {k : Nat} {w : Cond} (h : tables_1_1[k]? = some w) : w ∈ lw_tbl := List.mem_append_right _ (List.mem_append_left _ (List.mem_of_getElem? h))
theorem nn_m2 {k : Nat} {w : Cond} (h : tables_1_2[k]? = some w) (g : goodWord w = true) : w ∈ nn_B := nn_mT (List.mem_append_right _ (List.mem_append_left _ (List.mem_of_getElem? h))) g
theorem nn_q2 {k : Nat} {w : Cond} (h : tables_1_2[k]? = some w) : w ∈ lw_tbl := List.mem_append_right _ (List.mem_append_right _ (List.mem_append_left _ (List.mem_of_getElem? h)))
theorem nn_m3 {k : Nat} {w : Cond} (h : tables_1_3[k]? = some w) (g : goodWord w = true) : w ∈ nn_B := nn_mT (List.mem_append_right _ (List.mem_append_right _ (List.mem_append_left _ (List.mem_of_getElem? h)))) g
theorem nn_q3 {k : Nat} {w : Cond} (h : tables_1_3[k]? = some w) : w ∈ lw_tbl := List.mem_append_right _ (List.mem_append_right _ (List.mem_append_right _ (List.mem_append_left _ (List.mem_of_getElem? h))))
theorem nn_m4 {k : Nat} {w : Cond} (h : tables_1_4[k]? = some w) (g : goodWord w = true) : w ∈ nn_B := nn_mT (List.mem_append_right _ (List.mem_append_right _ (List.mem_append_right _ (List.mem_append_left _ (List.mem_of_getElem? h))))) g
theorem nn_q4 {k : Nat} {w : Cond} (h : tables_1_4[k]? = some w) : w ∈ lw_tbl := List.mem_append_right _ (List.mem_append_right _ (List.mem_append_right _ (List.mem_append_right _ (List.mem_append_left _ (List.mem_of_getElem? h)))))
theorem nn_m5 {k : Nat} {w : Cond} (h : tables_1_5[k]? = some w) (g : goodWord w = true) : w ∈ nn_B := nn_mT (List.mem_append_right _ (List.mem_append_right _ (List.mem_append_right _ (List.mem_append_right _ (List.mem_of_getElem? h))))) g
theorem nn_q5 {k : Nat} {w : Cond} (h : tables_1_5[k]? = some w) : w ∈ lw_tbl := List.mem_append_right _ (List.mem_append_right _ (List.mem_append_right _ (List.mem_append_right _ (List.mem_append_right _ (List.mem_of_getElem? h)))))
theorem nn_s1 {k : Nat} {q : MethodName × Nat} (h : lw_privs_1[k]? = some q) : Cond.selects q.1.cls q.1 q.1 ∈ nn_B := nn_mS (List.mem_map.mpr ⟨q, List.mem_append_left _ (List.mem_of_getElem? h), rfl⟩) rfl
theorem nn_s2 {k : Nat} {q : MethodName × Nat} (h : lw_privs_2[k]? = some q) : Cond.selects q.1.cls q.1 q.1 ∈ nn_B := nn_mS (List.mem_map.mpr ⟨q, List.mem_append_right _ (List.mem_append_left _ (List.mem_of_getElem? h)), rfl⟩) rfl
theorem nn_s3 {k : Nat} {q : MethodName × Nat} (h : lw_privs_3[k]? = some q) : Cond.selects q.1.cls q.1 q.1 ∈ nn_B := nn_mS (List.mem_map.mpr ⟨q, List.mem_append_right _ (List.mem_append_right _ (List.mem_append_left _ (List.mem_of_getElem? h))), rfl⟩) rfl
theorem nn_s4 {k : Nat} {q : MethodName × Nat} (h : lw_privs_4[k]? = some q) : Cond.selects q.1.cls q.1 q.1 ∈ nn_B := nn_mS (List.mem_map.mpr ⟨q, List.mem_append_right _ (List.mem_append_right _ (List.mem_append_right _ (List.mem_of_getElem? h))), rfl⟩) rfl
theorem tb_1_0 : (Jvm.Cond.initialized "NineNoonsLaw") ∈ nn_B := nn_m1 (k := 0) rfl rfl
theorem tb_1_1 : (Jvm.Cond.initialized "NineNoons") ∈ nn_B := nn_m1 (k := 1) rfl rfl
theorem tb_1_2 : (Jvm.Cond.initialized "NineNoons$Valley") ∈ nn_B := nn_m1 (k := 2) rfl rfl
theorem tb_1_3 : (Jvm.Cond.initialized "NineNoons$History") ∈ nn_B := nn_m1 (k := 3) rfl rfl
theorem tb_1_4 : (Jvm.Cond.initialized "NineNoons$Setter") ∈ nn_B := nn_m1 (k := 4) rfl rfl
theorem tb_1_5 : (Jvm.Cond.initialized "NineNoons$Carrier") ∈ nn_B := nn_m1 (k := 5) rfl rfl
theorem tb_1_6 : (Jvm.Cond.initialized "NineNoons$Tape") ∈ nn_B := nn_m1 (k := 6) rfl rfl
theorem tb_1_7 : (Jvm.Cond.initialized "NineNoons$Sheet") ∈ nn_B := nn_m1 (k := 7) rfl rfl
theorem tb_1_8 : (Jvm.Cond.initialized "NineNoonsModel") ∈ nn_B := nn_m1 (k := 8) rfl rfl
theorem tb_1_9 : (Jvm.Cond.initialized "java/lang/Math") ∈ nn_B := nn_m1 (k := 9) rfl rfl
theorem tb_1_10 : (Jvm.Cond.initialized "java/lang/System") ∈ nn_B := nn_m1 (k := 10) rfl rfl
theorem tb_1_11 : (Jvm.Cond.initialized "java/lang/Long") ∈ nn_B := nn_m1 (k := 11) rfl rfl
theorem tb_1_12 : (Jvm.Cond.initialized "java/lang/Integer") ∈ nn_B := nn_m1 (k := 12) rfl rfl
theorem tb_1_13 : (Jvm.Cond.classLink "NineNoonsLaw" (7 : Nat) "NineNoons") ∈ nn_B := nn_m1 (k := 13) rfl rfl
theorem tb_1_14 : (Jvm.Cond.instantiable "NineNoons" (10 : Nat)) ∈ nn_B := nn_m1 (k := 14) rfl rfl
theorem tb_1_15 : (Jvm.Cond.methodLink "NineNoonsLaw" (9 : Nat) yX6_init) ∈ nn_B := nn_m1 (k := 15) rfl rfl
theorem tb_1_16 : (Jvm.Cond.instanceMethod yX6_init) ∈ nn_B := nn_m1 (k := 16) rfl rfl
theorem tb_1_17 : (Jvm.Cond.code yX6_init prog_1_method_1_code (1 : Nat) (Option.none : Option Jvm.ClassFile.FieldType)) ∈ nn_B := nn_m1 (k := 17) rfl rfl
theorem tb_1_18 : (Jvm.Cond.methodLink "NineNoons" (3 : Nat) objectInit) ∈ nn_B := nn_m1 (k := 18) rfl rfl
theorem tb_1_19 : (Jvm.Cond.instanceMethod objectInit) ∈ nn_B := nn_m1 (k := 19) rfl rfl
theorem tb_1_20 : (Jvm.Cond.code objectInit object_method_1_code (1 : Nat) (Option.none : Option Jvm.ClassFile.FieldType)) ∈ nn_B := nn_m1 (k := 20) rfl rfl
theorem tb_1_21 : (Jvm.Cond.classLink "NineNoons" (9 : Nat) "NineNoons$Valley") ∈ nn_B := nn_m1 (k := 21) rfl rfl
theorem tb_1_22 : (Jvm.Cond.instantiable "NineNoons$Valley" (8 : Nat)) ∈ nn_B := nn_m1 (k := 22) rfl rfl
theorem tb_1_23 : (Jvm.Cond.methodLinkNest "NineNoons" (11 : Nat) yX5_init "NineNoons") ∈ lw_tbl := nn_q1 (k := 23) rfl
theorem tb_1_24 : (Jvm.Cond.instanceMethod yX5_init) ∈ nn_B := nn_m1 (k := 24) rfl rfl
theorem tb_1_25 : (Jvm.Cond.code yX5_init prog_7_method_1_code (1 : Nat) (Option.none : Option Jvm.ClassFile.FieldType)) ∈ nn_B := nn_m1 (k := 25) rfl rfl
theorem tb_1_26 : (Jvm.Cond.methodLink "NineNoons$Valley" (3 : Nat) objectInit) ∈ nn_B := nn_m1 (k := 26) rfl rfl
theorem tb_1_27 : (Jvm.Cond.fieldLink "NineNoons$Valley" (9 : Nat) "NineNoons$Valley" "kinds" "[I") ∈ nn_B := nn_m1 (k := 27) rfl rfl
theorem tb_1_28 : (Jvm.Cond.fieldLink "NineNoons" (82 : Nat) "NineNoons$Valley" "kinds" "[I") ∈ nn_B := nn_m1 (k := 28) rfl rfl
theorem tb_1_29 : (Jvm.Cond.fieldLink "NineNoons$Valley" (15 : Nat) "NineNoons$Valley" "minutes" "[I") ∈ nn_B := nn_m1 (k := 29) rfl rfl
theorem tb_1_30 : (Jvm.Cond.fieldLink "NineNoons" (86 : Nat) "NineNoons$Valley" "minutes" "[I") ∈ nn_B := nn_m1 (k := 30) rfl rfl
theorem tb_1_31 : (Jvm.Cond.fieldLink "NineNoons$Carrier" (57 : Nat) "NineNoons$Valley" "minutes" "[I") ∈ nn_B := nn_m1 (k := 31) rfl rfl
theorem tb_1_32 : (Jvm.Cond.fieldLink "NineNoons$Setter" (47 : Nat) "NineNoons$Valley" "minutes" "[I") ∈ nn_B := nn_m1 (k := 32) rfl rfl
theorem tb_1_33 : (Jvm.Cond.fieldLink "NineNoons$Valley" (18 : Nat) "NineNoons$Valley" "drifts" "[I") ∈ nn_B := nn_m1 (k := 33) rfl rfl
theorem tb_1_34 : (Jvm.Cond.fieldLink "NineNoons" (89 : Nat) "NineNoons$Valley" "drifts" "[I") ∈ nn_B := nn_m1 (k := 34) rfl rfl
theorem tb_1_35 : (Jvm.Cond.fieldLink "NineNoons$Valley" (21 : Nat) "NineNoons$Valley" "miles" "[I") ∈ nn_B := nn_m1 (k := 35) rfl rfl
theorem tb_1_36 : (Jvm.Cond.fieldLink "NineNoons$Carrier" (26 : Nat) "NineNoons$Valley" "miles" "[I") ∈ nn_B := nn_m1 (k := 36) rfl rfl
theorem tb_1_37 : (Jvm.Cond.fieldLink "NineNoons" (92 : Nat) "NineNoons$Valley" "miles" "[I") ∈ nn_B := nn_m1 (k := 37) rfl rfl
theorem tb_1_38 : (Jvm.Cond.fieldLink "NineNoons$Valley" (24 : Nat) "NineNoons$Valley" "shifts" "[I") ∈ nn_B := nn_m1 (k := 38) rfl rfl
theorem tb_1_39 : (Jvm.Cond.fieldLink "NineNoons$Valley" (27 : Nat) "NineNoons$Valley" "villages" "I") ∈ nn_B := nn_m1 (k := 39) rfl rfl
theorem tb_1_40 : (Jvm.Cond.fieldLink "NineNoons$Setter" (15 : Nat) "NineNoons$Valley" "villages" "I") ∈ nn_B := nn_m1 (k := 40) rfl rfl
theorem tb_1_41 : (Jvm.Cond.fieldLink "NineNoons" (68 : Nat) "NineNoons$Valley" "villages" "I") ∈ nn_B := nn_m1 (k := 41) rfl rfl
theorem tb_1_42 : (Jvm.Cond.fieldLink "NineNoons$Carrier" (35 : Nat) "NineNoons$Valley" "villages" "I") ∈ nn_B := nn_m1 (k := 42) rfl rfl
theorem tb_1_43 : (Jvm.Cond.fieldLink "NineNoons$Valley" (31 : Nat) "NineNoons$Valley" "day" "I") ∈ nn_B := nn_m1 (k := 43) rfl rfl
theorem tb_1_44 : (Jvm.Cond.fieldLink "NineNoons" (125 : Nat) "NineNoons$Valley" "day" "I") ∈ nn_B := nn_m1 (k := 44) rfl rfl
theorem tb_1_45 : (Jvm.Cond.fieldLink "NineNoons$Valley" (34 : Nat) "NineNoons$Valley" "draw" "I") ∈ nn_B := nn_m1 (k := 45) rfl rfl
theorem tb_1_46 : (Jvm.Cond.fieldLink "NineNoons" (153 : Nat) "NineNoons$Valley" "draw" "I") ∈ nn_B := nn_m1 (k := 46) rfl rfl
theorem tb_1_64 : (Jvm.Cond.arrayClass Jvm.ClassFile.FieldType.int) ∈ nn_B := nn_m1 (k := 64) rfl rfl
theorem tb_1_65 : (Jvm.Cond.classLink "NineNoons" (16 : Nat) "NineNoons$History") ∈ nn_B := nn_m1 (k := 65) rfl rfl
theorem tb_1_66 : (Jvm.Cond.instantiable "NineNoons$History" (3 : Nat)) ∈ nn_B := nn_m1 (k := 66) rfl rfl
theorem tb_1_67 : (Jvm.Cond.methodLinkNest "NineNoons" (18 : Nat) yX1_init "NineNoons") ∈ lw_tbl := nn_q1 (k := 67) rfl
theorem tb_1_68 : (Jvm.Cond.instanceMethod yX1_init) ∈ nn_B := nn_m1 (k := 68) rfl rfl
theorem tb_1_69 : (Jvm.Cond.code yX1_init prog_3_method_1_code (1 : Nat) (Option.none : Option Jvm.ClassFile.FieldType)) ∈ nn_B := nn_m1 (k := 69) rfl rfl
theorem tb_1_70 : (Jvm.Cond.methodLink "NineNoons$History" (3 : Nat) objectInit) ∈ nn_B := nn_m1 (k := 70) rfl rfl
theorem tb_1_71 : (Jvm.Cond.classLink "NineNoons$History" (9 : Nat) "NineNoons$Valley") ∈ nn_B := nn_m1 (k := 71) rfl rfl
theorem tb_1_72 : (Jvm.Cond.arrayOver (Jvm.ClassFile.FieldType.object "NineNoons$Valley")) ∈ lw_tbl := nn_q1 (k := 72) rfl
theorem tb_1_73 : (Jvm.Cond.methodLinkNest "NineNoons$History" (11 : Nat) yX5_init "NineNoons") ∈ lw_tbl := nn_q1 (k := 73) rfl
theorem tb_1_74 : (Jvm.Cond.fieldLink "NineNoons$History" (12 : Nat) "NineNoons$History" "past" "[LNineNoons$Valley;") ∈ nn_B := nn_m1 (k := 74) rfl rfl
theorem tb_1_75 : (Jvm.Cond.fieldLink "NineNoons$History" (18 : Nat) "NineNoons$History" "next" "I") ∈ nn_B := nn_m1 (k := 75) rfl rfl
theorem tb_1_76 : (Jvm.Cond.fieldLink "NineNoons$History" (22 : Nat) "NineNoons$History" "known" "I") ∈ nn_B := nn_m1 (k := 76) rfl rfl
theorem tb_1_77 : (Jvm.Cond.fieldLink "NineNoons" (139 : Nat) "NineNoons$History" "known" "I") ∈ nn_B := nn_m1 (k := 77) rfl rfl
theorem tb_1_85 : (Jvm.Cond.classLink "NineNoons" (32 : Nat) "NineNoons$Setter") ∈ nn_B := nn_m1 (k := 85) rfl rfl
theorem tb_1_86 : (Jvm.Cond.instantiable "NineNoons$Setter" (1 : Nat)) ∈ nn_B := nn_m1 (k := 86) rfl rfl
theorem tb_1_87 : (Jvm.Cond.methodLinkNest "NineNoons" (34 : Nat) yX2_init "NineNoons") ∈ lw_tbl := nn_q1 (k := 87) rfl
theorem tb_1_88 : (Jvm.Cond.instanceMethod yX2_init) ∈ nn_B := nn_m1 (k := 88) rfl rfl
theorem tb_1_89 : (Jvm.Cond.code yX2_init prog_4_method_1_code (1 : Nat) (Option.none : Option Jvm.ClassFile.FieldType)) ∈ nn_B := nn_m1 (k := 89) rfl rfl
theorem tb_1_90 : (Jvm.Cond.methodLink "NineNoons$Setter" (3 : Nat) objectInit) ∈ nn_B := nn_m1 (k := 90) rfl rfl
theorem tb_1_91 : (Jvm.Cond.fieldLink "NineNoons$Setter" (9 : Nat) "NineNoons$Setter" "shifts" "[I") ∈ nn_B := nn_m1 (k := 91) rfl rfl
theorem tb_1_92 : (Jvm.Cond.fieldLink "NineNoons" (173 : Nat) "NineNoons$Setter" "shifts" "[I") ∈ nn_B := nn_m1 (k := 92) rfl rfl
theorem tb_1_96 : (Jvm.Cond.classLink "NineNoons" (39 : Nat) "NineNoons$Carrier") ∈ nn_B := nn_m1 (k := 96) rfl rfl
theorem tb_1_97 : (Jvm.Cond.instantiable "NineNoons$Carrier" (4 : Nat)) ∈ nn_B := nn_m1 (k := 97) rfl rfl
theorem tb_1_98 : (Jvm.Cond.methodLinkNest "NineNoons" (41 : Nat) yX0_init "NineNoons") ∈ lw_tbl := nn_q1 (k := 98) rfl
theorem tb_1_99 : (Jvm.Cond.instanceMethod yX0_init) ∈ nn_B := nn_m1 (k := 99) rfl rfl
theorem tb_1_100 : (Jvm.Cond.code yX0_init prog_2_method_1_code (1 : Nat) (Option.none : Option Jvm.ClassFile.FieldType)) ∈ nn_B := nn_m1 (k := 100) rfl rfl
theorem tb_1_101 : (Jvm.Cond.methodLink "NineNoons$Carrier" (3 : Nat) objectInit) ∈ nn_B := nn_m1 (k := 101) rfl rfl
theorem tb_1_102 : (Jvm.Cond.constant "NineNoons$Carrier" (18 : Nat) (1000000 : Int32)) ∈ nn_B := nn_m1 (k := 102) rfl rfl
theorem tb_1_103 : (Jvm.Cond.fieldLink "NineNoons$Carrier" (9 : Nat) "NineNoons$Carrier" "order" "[I") ∈ nn_B := nn_m1 (k := 103) rfl rfl
theorem tb_1_104 : (Jvm.Cond.fieldLink "NineNoons$Carrier" (15 : Nat) "NineNoons$Carrier" "bestOrder" "[I") ∈ nn_B := nn_m1 (k := 104) rfl rfl
theorem tb_1_105 : (Jvm.Cond.fieldLink "NineNoons" (197 : Nat) "NineNoons$Carrier" "bestOrder" "[I") ∈ nn_B := nn_m1 (k := 105) rfl rfl
theorem tb_1_106 : (Jvm.Cond.fieldLink "NineNoons$Carrier" (19 : Nat) "NineNoons$Carrier" "bestTime" "I") ∈ nn_B := nn_m1 (k := 106) rfl rfl
theorem tb_1_107 : (Jvm.Cond.fieldLink "NineNoons$Carrier" (23 : Nat) "NineNoons$Carrier" "minutesAMile" "I") ∈ nn_B := nn_m1 (k := 107) rfl rfl
theorem tb_1_117 : (Jvm.Cond.classLink "NineNoons" (46 : Nat) "NineNoons$Tape") ∈ nn_B := nn_m1 (k := 117) rfl rfl
theorem tb_1_118 : (Jvm.Cond.instantiable "NineNoons$Tape" (4 : Nat)) ∈ nn_B := nn_m1 (k := 118) rfl rfl
theorem tb_1_119 : (Jvm.Cond.methodLinkNest "NineNoons" (48 : Nat) yX4_init "NineNoons") ∈ lw_tbl := nn_q1 (k := 119) rfl
theorem tb_1_120 : (Jvm.Cond.instanceMethod yX4_init) ∈ nn_B := nn_m1 (k := 120) rfl rfl
theorem tb_1_121 : (Jvm.Cond.code yX4_init prog_6_method_1_code (1 : Nat) (Option.none : Option Jvm.ClassFile.FieldType)) ∈ nn_B := nn_m1 (k := 121) rfl rfl
theorem tb_1_122 : (Jvm.Cond.methodLink "NineNoons$Tape" (3 : Nat) objectInit) ∈ nn_B := nn_m1 (k := 122) rfl rfl
theorem tb_1_123 : (Jvm.Cond.fieldLink "NineNoons$Tape" (9 : Nat) "NineNoons$Tape" "letters" "[C") ∈ nn_B := nn_m1 (k := 123) rfl rfl
theorem tb_1_124 : (Jvm.Cond.fieldLink "NineNoons$Tape" (15 : Nat) "NineNoons$Tape" "length" "I") ∈ nn_B := nn_m1 (k := 124) rfl rfl
theorem tb_1_125 : (Jvm.Cond.fieldLink "NineNoons" (114 : Nat) "NineNoons$Tape" "length" "I") ∈ nn_B := nn_m1 (k := 125) rfl rfl
theorem tb_1_126 : (Jvm.Cond.fieldLink "NineNoons$Tape" (19 : Nat) "NineNoons$Tape" "place" "I") ∈ nn_B := nn_m1 (k := 126) rfl rfl
theorem tb_1_127 : (Jvm.Cond.fieldLink "NineNoons$Tape" (22 : Nat) "NineNoons$Tape" "fault" "I") ∈ nn_B := nn_m1 (k := 127) rfl rfl
theorem tb_1_137 : (Jvm.Cond.arrayClass Jvm.ClassFile.FieldType.char) ∈ nn_B := nn_m1 (k := 137) rfl rfl
theorem tb_1_138 : (Jvm.Cond.classLink "NineNoons" (53 : Nat) "NineNoons$Sheet") ∈ nn_B := nn_m1 (k := 138) rfl rfl
theorem tb_1_139 : (Jvm.Cond.arrayOver (Jvm.ClassFile.FieldType.object "NineNoons$Sheet")) ∈ lw_tbl := nn_q1 (k := 139) rfl
theorem tb_1_140 : (Jvm.Cond.instantiable "NineNoons$Sheet" (3 : Nat)) ∈ nn_B := nn_m1 (k := 140) rfl rfl
theorem tb_1_141 : (Jvm.Cond.methodLinkNest "NineNoons" (55 : Nat) yX3_init "NineNoons") ∈ lw_tbl := nn_q1 (k := 141) rfl
theorem tb_1_142 : (Jvm.Cond.instanceMethod yX3_init) ∈ nn_B := nn_m1 (k := 142) rfl rfl
theorem tb_1_143 : (Jvm.Cond.code yX3_init prog_5_method_1_code (1 : Nat) (Option.none : Option Jvm.ClassFile.FieldType)) ∈ nn_B := nn_m1 (k := 143) rfl rfl
theorem tb_1_144 : (Jvm.Cond.methodLink "NineNoons$Sheet" (3 : Nat) objectInit) ∈ nn_B := nn_m1 (k := 144) rfl rfl
theorem tb_1_145 : (Jvm.Cond.fieldLink "NineNoons$Sheet" (9 : Nat) "NineNoons$Sheet" "items" "[J") ∈ nn_B := nn_m1 (k := 145) rfl rfl
theorem tb_1_146 : (Jvm.Cond.fieldLink "NineNoons" (268 : Nat) "NineNoons$Sheet" "items" "[J") ∈ nn_B := nn_m1 (k := 146) rfl rfl
theorem tb_1_147 : (Jvm.Cond.fieldLink "NineNoons$Sheet" (15 : Nat) "NineNoons$Sheet" "lane" "I") ∈ nn_B := nn_m1 (k := 147) rfl rfl
theorem tb_1_148 : (Jvm.Cond.fieldLink "NineNoons" (262 : Nat) "NineNoons$Sheet" "lane" "I") ∈ nn_B := nn_m1 (k := 148) rfl rfl
theorem tb_1_149 : (Jvm.Cond.fieldLink "NineNoons$Sheet" (19 : Nat) "NineNoons$Sheet" "length" "I") ∈ nn_B := nn_m1 (k := 149) rfl rfl
theorem tb_1_150 : (Jvm.Cond.fieldLink "NineNoons" (258 : Nat) "NineNoons$Sheet" "length" "I") ∈ nn_B := nn_m1 (k := 150) rfl rfl
theorem tb_1_158 : (Jvm.Cond.arrayClass Jvm.ClassFile.FieldType.long) ∈ nn_B := nn_m1 (k := 158) rfl rfl
theorem tb_1_159 : (Jvm.Cond.fieldLink "NineNoons" (12 : Nat) "NineNoons" "now" "LNineNoons$Valley;") ∈ nn_B := nn_m1 (k := 159) rfl rfl
theorem tb_1_160 : (Jvm.Cond.fieldLink "NineNoons" (19 : Nat) "NineNoons" "history" "LNineNoons$History;") ∈ nn_B := nn_m1 (k := 160) rfl rfl
theorem tb_1_161 : (Jvm.Cond.fieldLink "NineNoons" (23 : Nat) "NineNoons" "keptValley" "LNineNoons$Valley;") ∈ nn_B := nn_m1 (k := 161) rfl rfl
theorem tb_1_162 : (Jvm.Cond.fieldLink "NineNoons" (26 : Nat) "NineNoons" "keptHistory" "LNineNoons$History;") ∈ nn_B := nn_m1 (k := 162) rfl rfl
theorem tb_1_163 : (Jvm.Cond.fieldLink "NineNoons" (220 : Nat) "NineNoons" "imageKept" "Z") ∈ nn_B := nn_m1 (k := 163) rfl rfl
theorem tb_1_164 : (Jvm.Cond.fieldLink "NineNoons" (29 : Nat) "NineNoons" "trial" "LNineNoons$Valley;") ∈ nn_B := nn_m1 (k := 164) rfl rfl
theorem tb_1_165 : (Jvm.Cond.fieldLink "NineNoons" (35 : Nat) "NineNoons" "setter" "LNineNoons$Setter;") ∈ nn_B := nn_m1 (k := 165) rfl rfl
theorem tb_1_166 : (Jvm.Cond.fieldLink "NineNoons" (42 : Nat) "NineNoons" "carrier" "LNineNoons$Carrier;") ∈ nn_B := nn_m1 (k := 166) rfl rfl
theorem tb_1_167 : (Jvm.Cond.fieldLink "NineNoons" (49 : Nat) "NineNoons" "tape" "LNineNoons$Tape;") ∈ nn_B := nn_m1 (k := 167) rfl rfl
theorem tb_1_168 : (Jvm.Cond.fieldLink "NineNoons" (56 : Nat) "NineNoons" "sheets" "[LNineNoons$Sheet;") ∈ nn_B := nn_m1 (k := 168) rfl rfl
theorem tb_1_190 : (Jvm.Cond.methodLink "NineNoonsLaw" (13 : Nat) yX6_village) ∈ nn_B := nn_m1 (k := 190) rfl rfl
theorem tb_1_191 : (Jvm.Cond.instanceMethod yX6_village) ∈ nn_B := nn_m1 (k := 191) rfl rfl
theorem tb_1_192 : (Jvm.Cond.selects "NineNoons" yX6_village yX6_village) ∈ nn_B := nn_m1 (k := 192) rfl rfl
theorem tb_1_193 : (Jvm.Cond.code yX6_village prog_1_method_2_code (4 : Nat) (Option.some Jvm.ClassFile.FieldType.int)) ∈ nn_B := nn_m1 (k := 193) rfl rfl
theorem tb_1_194 : (Jvm.Cond.methodLink "NineNoons" (60 : Nat) yX6_within) ∈ nn_B := nn_m1 (k := 194) rfl rfl
theorem tb_1_195 : (Jvm.Cond.static yX6_within) ∈ nn_B := nn_m1 (k := 195) rfl rfl
theorem tb_1_196 : (Jvm.Cond.code yX6_within prog_1_method_41_code (3 : Nat) (Option.some Jvm.ClassFile.FieldType.boolean)) ∈ nn_B := nn_m1 (k := 196) rfl rfl
theorem tb_1_197 : (Jvm.Cond.methodLink "NineNoons" (64 : Nat) yX6_isMinute) ∈ nn_B := nn_m1 (k := 197) rfl rfl
theorem tb_1_198 : (Jvm.Cond.static yX6_isMinute) ∈ nn_B := nn_m1 (k := 198) rfl rfl
theorem tb_1_199 : (Jvm.Cond.code yX6_isMinute prog_1_method_42_code (1 : Nat) (Option.some Jvm.ClassFile.FieldType.boolean)) ∈ nn_B := nn_m1 (k := 199) rfl rfl
theorem tb_1_200 : (Jvm.Cond.methodLink "NineNoons" (72 : Nat) yX5_build) ∈ nn_B := nn_m1 (k := 200) rfl rfl
theorem tb_1_201 : (Jvm.Cond.instanceMethod yX5_build) ∈ nn_B := nn_m1 (k := 201) rfl rfl
theorem tb_1_202 : (Jvm.Cond.selects "NineNoons$Valley" yX5_build yX5_build) ∈ nn_B := nn_m1 (k := 202) rfl rfl
theorem tb_1_203 : (Jvm.Cond.code yX5_build prog_7_method_4_code (5 : Nat) (Option.none : Option Jvm.ClassFile.FieldType)) ∈ nn_B := nn_m1 (k := 203) rfl rfl
theorem tb_1_204 : (Jvm.Cond.methodLink "NineNoons" (76 : Nat) yX1_forget) ∈ nn_B := nn_m1 (k := 204) rfl rfl
theorem tb_1_205 : (Jvm.Cond.instanceMethod yX1_forget) ∈ nn_B := nn_m1 (k := 205) rfl rfl
theorem tb_1_206 : (Jvm.Cond.selects "NineNoons$History" yX1_forget yX1_forget) ∈ nn_B := nn_m1 (k := 206) rfl rfl
theorem tb_1_207 : (Jvm.Cond.code yX1_forget prog_3_method_2_code (1 : Nat) (Option.none : Option Jvm.ClassFile.FieldType)) ∈ nn_B := nn_m1 (k := 207) rfl rfl
theorem tb_1_208 : (Jvm.Cond.methodLink "NineNoonsLaw" (18 : Nat) yX6_of) ∈ nn_B := nn_m1 (k := 208) rfl rfl
theorem tb_1_209 : (Jvm.Cond.instanceMethod yX6_of) ∈ nn_B := nn_m1 (k := 209) rfl rfl
theorem tb_1_210 : (Jvm.Cond.selects "NineNoons" yX6_of yX6_of) ∈ nn_B := nn_m1 (k := 210) rfl rfl
theorem tb_1_211 : (Jvm.Cond.code yX6_of prog_1_method_3_code (3 : Nat) (Option.some Jvm.ClassFile.FieldType.int)) ∈ nn_B := nn_m1 (k := 211) rfl rfl
theorem tb_1_212 : (Jvm.Cond.methodLink "NineNoons" (79 : Nat) yX5_has) ∈ nn_B := nn_m1 (k := 212) rfl rfl
theorem tb_1_213 : (Jvm.Cond.instanceMethod yX5_has) ∈ nn_B := nn_m1 (k := 213) rfl rfl
theorem tb_1_214 : (Jvm.Cond.selects "NineNoons$Valley" yX5_has yX5_has) ∈ nn_B := nn_m1 (k := 214) rfl rfl
theorem tb_1_215 : (Jvm.Cond.code yX5_has prog_7_method_5_code (2 : Nat) (Option.some Jvm.ClassFile.FieldType.boolean)) ∈ nn_B := nn_m1 (k := 215) rfl rfl
theorem tb_1_216 : (Jvm.Cond.methodLink "NineNoons" (95 : Nat) yX5_laterBy) ∈ nn_B := nn_m1 (k := 216) rfl rfl
theorem tb_1_217 : (Jvm.Cond.instanceMethod yX5_laterBy) ∈ nn_B := nn_m1 (k := 217) rfl rfl
theorem tb_1_218 : (Jvm.Cond.selects "NineNoons$Valley" yX5_laterBy yX5_laterBy) ∈ nn_B := nn_m1 (k := 218) rfl rfl
theorem tb_1_219 : (Jvm.Cond.code yX5_laterBy prog_7_method_15_code (2 : Nat) (Option.some Jvm.ClassFile.FieldType.int)) ∈ nn_B := nn_m1 (k := 219) rfl rfl
theorem tb_1_220 : (Jvm.Cond.methodLink "NineNoons$Valley" (70 : Nat) yX5_slowShift) ∈ nn_B := nn_m1 (k := 220) rfl rfl
theorem tb_1_221 : (Jvm.Cond.instanceMethod yX5_slowShift) ∈ nn_B := nn_m1 (k := 221) rfl rfl
theorem tb_1_222 : (Jvm.Cond.selects "NineNoons$Valley" yX5_slowShift yX5_slowShift) ∈ nn_B := nn_m1 (k := 222) rfl rfl
theorem tb_1_223 : (Jvm.Cond.code yX5_slowShift prog_7_method_16_code (2 : Nat) (Option.some Jvm.ClassFile.FieldType.int)) ∈ nn_B := nn_m1 (k := 223) rfl rfl
theorem tb_1_224 : (Jvm.Cond.methodLink "NineNoons$Valley" (73 : Nat) yX5_hearerShift) ∈ nn_B := nn_m1 (k := 224) rfl rfl
theorem tb_1_225 : (Jvm.Cond.instanceMethod yX5_hearerShift) ∈ nn_B := nn_m1 (k := 225) rfl rfl
theorem tb_1_226 : (Jvm.Cond.selects "NineNoons$Valley" yX5_hearerShift yX5_hearerShift) ∈ nn_B := nn_m1 (k := 226) rfl rfl
theorem tb_1_227 : (Jvm.Cond.code yX5_hearerShift prog_7_method_17_code (3 : Nat) (Option.some Jvm.ClassFile.FieldType.int)) ∈ nn_B := nn_m1 (k := 227) rfl rfl
theorem tb_1_228 : (Jvm.Cond.methodLinkNest "NineNoons$Valley" (47 : Nat) yX6_shorterWay "NineNoons") ∈ lw_tbl := nn_q1 (k := 228) rfl
theorem tb_1_229 : (Jvm.Cond.static yX6_shorterWay) ∈ nn_B := nn_m1 (k := 229) rfl rfl
theorem tb_1_230 : (Jvm.Cond.code yX6_shorterWay prog_1_method_46_code (3 : Nat) (Option.some Jvm.ClassFile.FieldType.int)) ∈ nn_B := nn_m1 (k := 230) rfl rfl
theorem tb_1_231 : (Jvm.Cond.methodLink "NineNoons$Valley" (76 : Nat) yX5_isByTheOneBefore) ∈ nn_B := nn_m1 (k := 231) rfl rfl
theorem tb_1_232 : (Jvm.Cond.instanceMethod yX5_isByTheOneBefore) ∈ nn_B := nn_m1 (k := 232) rfl rfl
theorem tb_1_233 : (Jvm.Cond.selects "NineNoons$Valley" yX5_isByTheOneBefore yX5_isByTheOneBefore) ∈ nn_B := nn_m1 (k := 233) rfl rfl
theorem tb_1_234 : (Jvm.Cond.code yX5_isByTheOneBefore prog_7_method_18_code (3 : Nat) (Option.some Jvm.ClassFile.FieldType.boolean)) ∈ nn_B := nn_m1 (k := 234) rfl rfl
theorem tb_1_235 : (Jvm.Cond.methodLink "NineNoons$Valley" (79 : Nat) yJ9_abs_0f7a4) ∈ nn_B := nn_m1 (k := 235) rfl rfl
theorem tb_1_236 : (Jvm.Cond.static yJ9_abs_0f7a4) ∈ nn_B := nn_m1 (k := 236) rfl rfl
theorem tb_1_237 : (Jvm.Cond.code yJ9_abs_0f7a4 prog_12_method_59_code (1 : Nat) (Option.some Jvm.ClassFile.FieldType.int)) ∈ nn_B := nn_m1 (k := 237) rfl rfl
theorem tb_1_238 : (Jvm.Cond.methodLink "NineNoons" (99 : Nat) yX5_ringersWith) ∈ nn_B := nn_m1 (k := 238) rfl rfl
theorem tb_1_239 : (Jvm.Cond.instanceMethod yX5_ringersWith) ∈ nn_B := nn_m1 (k := 239) rfl rfl
theorem tb_2_0 : (Jvm.Cond.selects "NineNoons$Valley" yX5_ringersWith yX5_ringersWith) ∈ nn_B := nn_m2 (k := 0) rfl rfl
theorem tb_2_1 : (Jvm.Cond.code yX5_ringersWith prog_7_method_9_code (4 : Nat) (Option.some Jvm.ClassFile.FieldType.int)) ∈ nn_B := nn_m2 (k := 1) rfl rfl
theorem tb_2_2 : (Jvm.Cond.methodLink "NineNoonsLaw" (23 : Nat) yX6_gap) ∈ nn_B := nn_m2 (k := 2) rfl rfl
theorem tb_2_3 : (Jvm.Cond.instanceMethod yX6_gap) ∈ nn_B := nn_m2 (k := 3) rfl rfl
theorem tb_2_4 : (Jvm.Cond.selects "NineNoons" yX6_gap yX6_gap) ∈ nn_B := nn_m2 (k := 4) rfl rfl
theorem tb_2_5 : (Jvm.Cond.code yX6_gap prog_1_method_4_code (3 : Nat) (Option.some Jvm.ClassFile.FieldType.int)) ∈ nn_B := nn_m2 (k := 5) rfl rfl
theorem tb_2_6 : (Jvm.Cond.methodLink "NineNoons" (102 : Nat) yX5_hasBoth) ∈ nn_B := nn_m2 (k := 6) rfl rfl
theorem tb_2_7 : (Jvm.Cond.instanceMethod yX5_hasBoth) ∈ nn_B := nn_m2 (k := 7) rfl rfl
theorem tb_2_8 : (Jvm.Cond.selects "NineNoons$Valley" yX5_hasBoth yX5_hasBoth) ∈ nn_B := nn_m2 (k := 8) rfl rfl
theorem tb_2_9 : (Jvm.Cond.code yX5_hasBoth prog_7_method_6_code (3 : Nat) (Option.some Jvm.ClassFile.FieldType.boolean)) ∈ nn_B := nn_m2 (k := 9) rfl rfl
theorem tb_2_10 : (Jvm.Cond.methodLink "NineNoons$Valley" (43 : Nat) yX5_has) ∈ nn_B := nn_m2 (k := 10) rfl rfl
theorem tb_2_11 : (Jvm.Cond.methodLink "NineNoons" (106 : Nat) yX5_gapBetween) ∈ nn_B := nn_m2 (k := 11) rfl rfl
theorem tb_2_12 : (Jvm.Cond.instanceMethod yX5_gapBetween) ∈ nn_B := nn_m2 (k := 12) rfl rfl
theorem tb_2_13 : (Jvm.Cond.selects "NineNoons$Valley" yX5_gapBetween yX5_gapBetween) ∈ nn_B := nn_m2 (k := 13) rfl rfl
theorem tb_2_14 : (Jvm.Cond.code yX5_gapBetween prog_7_method_7_code (3 : Nat) (Option.some Jvm.ClassFile.FieldType.int)) ∈ nn_B := nn_m2 (k := 14) rfl rfl
theorem tb_2_15 : (Jvm.Cond.methodLink "NineNoonsLaw" (27 : Nat) yX6_type) ∈ nn_B := nn_m2 (k := 15) rfl rfl
theorem tb_2_16 : (Jvm.Cond.instanceMethod yX6_type) ∈ nn_B := nn_m2 (k := 16) rfl rfl
theorem tb_2_17 : (Jvm.Cond.selects "NineNoons" yX6_type yX6_type) ∈ nn_B := nn_m2 (k := 17) rfl rfl
theorem tb_2_18 : (Jvm.Cond.code yX6_type prog_1_method_5_code (2 : Nat) (Option.some Jvm.ClassFile.FieldType.int)) ∈ nn_B := nn_m2 (k := 18) rfl rfl
theorem tb_2_19 : (Jvm.Cond.methodLink "NineNoons" (110 : Nat) yX4_put) ∈ nn_B := nn_m2 (k := 19) rfl rfl
theorem tb_2_20 : (Jvm.Cond.instanceMethod yX4_put) ∈ nn_B := nn_m2 (k := 20) rfl rfl
theorem tb_2_21 : (Jvm.Cond.selects "NineNoons$Tape" yX4_put yX4_put) ∈ nn_B := nn_m2 (k := 21) rfl rfl
theorem tb_2_22 : (Jvm.Cond.code yX4_put prog_6_method_2_code (2 : Nat) (Option.some Jvm.ClassFile.FieldType.boolean)) ∈ nn_B := nn_m2 (k := 22) rfl rfl
theorem tb_2_23 : (Jvm.Cond.methodLink "NineNoonsLaw" (32 : Nat) yX6_valley) ∈ nn_B := nn_m2 (k := 23) rfl rfl
theorem tb_2_24 : (Jvm.Cond.instanceMethod yX6_valley) ∈ nn_B := nn_m2 (k := 24) rfl rfl
theorem tb_2_25 : (Jvm.Cond.selects "NineNoons" yX6_valley yX6_valley) ∈ nn_B := nn_m2 (k := 25) rfl rfl
theorem tb_2_26 : (Jvm.Cond.code yX6_valley prog_1_method_6_code (2 : Nat) (Option.some Jvm.ClassFile.FieldType.int)) ∈ nn_B := nn_m2 (k := 26) rfl rfl
theorem tb_2_27 : (Jvm.Cond.methodLink "NineNoons" (117 : Nat) yX5_becomeLike) ∈ nn_B := nn_m2 (k := 27) rfl rfl
theorem tb_2_28 : (Jvm.Cond.instanceMethod yX5_becomeLike) ∈ nn_B := nn_m2 (k := 28) rfl rfl
theorem tb_2_29 : (Jvm.Cond.selects "NineNoons$Valley" yX5_becomeLike yX5_becomeLike) ∈ nn_B := nn_m2 (k := 29) rfl rfl
theorem tb_2_30 : (Jvm.Cond.code yX5_becomeLike prog_7_method_2_code (2 : Nat) (Option.none : Option Jvm.ClassFile.FieldType)) ∈ nn_B := nn_m2 (k := 30) rfl rfl
theorem tb_2_31 : (Jvm.Cond.methodLink "NineNoons$Valley" (37 : Nat) arraycopyName) ∈ nn_B := nn_m2 (k := 31) rfl rfl
theorem tb_2_32 : (Jvm.Cond.static arraycopyName) ∈ nn_B := nn_m2 (k := 32) rfl rfl
theorem tb_2_33 : (Jvm.Cond.native arraycopyName) ∈ nn_B := nn_m2 (k := 33) rfl rfl
theorem tb_2_34 : (Jvm.Cond.methodLink "NineNoons" (121 : Nat) yX4_readInto) ∈ nn_B := nn_m2 (k := 34) rfl rfl
theorem tb_2_35 : (Jvm.Cond.instanceMethod yX4_readInto) ∈ nn_B := nn_m2 (k := 35) rfl rfl
theorem tb_2_36 : (Jvm.Cond.selects "NineNoons$Tape" yX4_readInto yX4_readInto) ∈ nn_B := nn_m2 (k := 36) rfl rfl
theorem tb_2_37 : (Jvm.Cond.code yX4_readInto prog_6_method_3_code (4 : Nat) (Option.some Jvm.ClassFile.FieldType.int)) ∈ nn_B := nn_m2 (k := 37) rfl rfl
theorem tb_2_38 : (Jvm.Cond.methodLink "NineNoons$Tape" (25 : Nat) yX5_clear) ∈ nn_B := nn_m2 (k := 38) rfl rfl
theorem tb_2_39 : (Jvm.Cond.instanceMethod yX5_clear) ∈ nn_B := nn_m2 (k := 39) rfl rfl
theorem tb_2_40 : (Jvm.Cond.selects "NineNoons$Valley" yX5_clear yX5_clear) ∈ nn_B := nn_m2 (k := 40) rfl rfl
theorem tb_2_41 : (Jvm.Cond.code yX5_clear prog_7_method_3_code (1 : Nat) (Option.none : Option Jvm.ClassFile.FieldType)) ∈ nn_B := nn_m2 (k := 41) rfl rfl
theorem tb_2_42 : (Jvm.Cond.methodLink "NineNoons$Tape" (30 : Nat) yX4_readVillage) ∈ nn_B := nn_m2 (k := 42) rfl rfl
theorem tb_2_44 : (Jvm.Cond.instanceMethod yX4_readVillage) ∈ nn_B := nn_m2 (k := 44) rfl rfl
theorem tb_2_45 : (Jvm.Cond.code yX4_readVillage prog_6_method_4_code (6 : Nat) (Option.none : Option Jvm.ClassFile.FieldType)) ∈ nn_B := nn_m2 (k := 45) rfl rfl
theorem tb_2_46 : (Jvm.Cond.methodLink "NineNoons$Tape" (46 : Nat) yX4_readKind) ∈ nn_B := nn_m2 (k := 46) rfl rfl
theorem tb_2_48 : (Jvm.Cond.instanceMethod yX4_readKind) ∈ nn_B := nn_m2 (k := 48) rfl rfl
theorem tb_2_49 : (Jvm.Cond.code yX4_readKind prog_6_method_5_code (1 : Nat) (Option.some Jvm.ClassFile.FieldType.int)) ∈ nn_B := nn_m2 (k := 49) rfl rfl
theorem tb_2_50 : (Jvm.Cond.methodLink "NineNoons$Tape" (34 : Nat) yX4_takes) ∈ nn_B := nn_m2 (k := 50) rfl rfl
theorem tb_2_52 : (Jvm.Cond.instanceMethod yX4_takes) ∈ nn_B := nn_m2 (k := 52) rfl rfl
theorem tb_2_53 : (Jvm.Cond.code yX4_takes prog_6_method_9_code (2 : Nat) (Option.some Jvm.ClassFile.FieldType.boolean)) ∈ nn_B := nn_m2 (k := 53) rfl rfl
theorem tb_2_54 : (Jvm.Cond.methodLink "NineNoons$Tape" (38 : Nat) yX4_comingLetter) ∈ nn_B := nn_m2 (k := 54) rfl rfl
theorem tb_2_56 : (Jvm.Cond.instanceMethod yX4_comingLetter) ∈ nn_B := nn_m2 (k := 56) rfl rfl
theorem tb_2_57 : (Jvm.Cond.code yX4_comingLetter prog_6_method_10_code (1 : Nat) (Option.some Jvm.ClassFile.FieldType.char)) ∈ nn_B := nn_m2 (k := 57) rfl rfl
theorem tb_2_58 : (Jvm.Cond.methodLink "NineNoons$Tape" (42 : Nat) yX4_faultAt) ∈ nn_B := nn_m2 (k := 58) rfl rfl
theorem tb_2_60 : (Jvm.Cond.instanceMethod yX4_faultAt) ∈ nn_B := nn_m2 (k := 60) rfl rfl
theorem tb_2_61 : (Jvm.Cond.code yX4_faultAt prog_6_method_11_code (2 : Nat) (Option.none : Option Jvm.ClassFile.FieldType)) ∈ nn_B := nn_m2 (k := 61) rfl rfl
theorem tb_2_62 : (Jvm.Cond.methodLink "NineNoons$Tape" (50 : Nat) yX4_readNumber) ∈ nn_B := nn_m2 (k := 62) rfl rfl
theorem tb_2_64 : (Jvm.Cond.instanceMethod yX4_readNumber) ∈ nn_B := nn_m2 (k := 64) rfl rfl
theorem tb_2_65 : (Jvm.Cond.code yX4_readNumber prog_6_method_7_code (4 : Nat) (Option.some Jvm.ClassFile.FieldType.int)) ∈ nn_B := nn_m2 (k := 65) rfl rfl
theorem tb_2_66 : (Jvm.Cond.methodLink "NineNoons$Tape" (61 : Nat) yX4_isDigit) ∈ nn_B := nn_m2 (k := 66) rfl rfl
theorem tb_2_67 : (Jvm.Cond.static yX4_isDigit) ∈ nn_B := nn_m2 (k := 67) rfl rfl
theorem tb_2_68 : (Jvm.Cond.code yX4_isDigit prog_6_method_12_code (1 : Nat) (Option.some Jvm.ClassFile.FieldType.boolean)) ∈ nn_B := nn_m2 (k := 68) rfl rfl
theorem tb_2_69 : (Jvm.Cond.methodLink "NineNoons$Tape" (64 : Nat) yX4_takeDigit) ∈ nn_B := nn_m2 (k := 69) rfl rfl
theorem tb_2_71 : (Jvm.Cond.instanceMethod yX4_takeDigit) ∈ nn_B := nn_m2 (k := 71) rfl rfl
theorem tb_2_72 : (Jvm.Cond.code yX4_takeDigit prog_6_method_8_code (2 : Nat) (Option.some Jvm.ClassFile.FieldType.int)) ∈ nn_B := nn_m2 (k := 72) rfl rfl
theorem tb_2_73 : (Jvm.Cond.methodLink "NineNoons$Tape" (54 : Nat) yX4_readDrift) ∈ nn_B := nn_m2 (k := 73) rfl rfl
theorem tb_2_75 : (Jvm.Cond.instanceMethod yX4_readDrift) ∈ nn_B := nn_m2 (k := 75) rfl rfl
theorem tb_2_76 : (Jvm.Cond.code yX4_readDrift prog_6_method_6_code (2 : Nat) (Option.some Jvm.ClassFile.FieldType.int)) ∈ nn_B := nn_m2 (k := 76) rfl rfl
theorem tb_2_77 : (Jvm.Cond.methodLink "NineNoons$Tape" (57 : Nat) yX5_build) ∈ nn_B := nn_m2 (k := 77) rfl rfl
theorem tb_2_78 : (Jvm.Cond.methodLink "NineNoonsLaw" (37 : Nat) yX6_count) ∈ nn_B := nn_m2 (k := 78) rfl rfl
theorem tb_2_79 : (Jvm.Cond.instanceMethod yX6_count) ∈ nn_B := nn_m2 (k := 79) rfl rfl
theorem tb_2_80 : (Jvm.Cond.selects "NineNoons" yX6_count yX6_count) ∈ nn_B := nn_m2 (k := 80) rfl rfl
theorem tb_2_81 : (Jvm.Cond.code yX6_count prog_1_method_7_code (2 : Nat) (Option.some Jvm.ClassFile.FieldType.int)) ∈ nn_B := nn_m2 (k := 81) rfl rfl
theorem tb_2_82 : (Jvm.Cond.methodLink "NineNoons" (128 : Nat) yX5_leastGap) ∈ nn_B := nn_m2 (k := 82) rfl rfl
theorem tb_2_83 : (Jvm.Cond.instanceMethod yX5_leastGap) ∈ nn_B := nn_m2 (k := 83) rfl rfl
theorem tb_2_84 : (Jvm.Cond.selects "NineNoons$Valley" yX5_leastGap yX5_leastGap) ∈ nn_B := nn_m2 (k := 84) rfl rfl
theorem tb_2_85 : (Jvm.Cond.code yX5_leastGap prog_7_method_8_code (4 : Nat) (Option.some Jvm.ClassFile.FieldType.int)) ∈ nn_B := nn_m2 (k := 85) rfl rfl
theorem tb_2_86 : (Jvm.Cond.methodLink "NineNoons$Valley" (51 : Nat) yX5_gapBetween) ∈ nn_B := nn_m2 (k := 86) rfl rfl
theorem tb_2_87 : (Jvm.Cond.methodLink "NineNoons$Valley" (54 : Nat) yJ9_min_7cf53) ∈ nn_B := nn_m2 (k := 87) rfl rfl
theorem tb_2_88 : (Jvm.Cond.static yJ9_min_7cf53) ∈ nn_B := nn_m2 (k := 88) rfl rfl
theorem tb_2_89 : (Jvm.Cond.code yJ9_min_7cf53 prog_12_method_69_code (2 : Nat) (Option.some Jvm.ClassFile.FieldType.int)) ∈ nn_B := nn_m2 (k := 89) rfl rfl
theorem tb_2_90 : (Jvm.Cond.methodLink "NineNoons" (132 : Nat) yX5_ringers) ∈ nn_B := nn_m2 (k := 90) rfl rfl
theorem tb_2_91 : (Jvm.Cond.instanceMethod yX5_ringers) ∈ nn_B := nn_m2 (k := 91) rfl rfl
theorem tb_2_92 : (Jvm.Cond.selects "NineNoons$Valley" yX5_ringers yX5_ringers) ∈ nn_B := nn_m2 (k := 92) rfl rfl
theorem tb_2_93 : (Jvm.Cond.code yX5_ringers prog_7_method_10_code (3 : Nat) (Option.some Jvm.ClassFile.FieldType.int)) ∈ nn_B := nn_m2 (k := 93) rfl rfl
theorem tb_2_94 : (Jvm.Cond.methodLink "NineNoons$Valley" (59 : Nat) yX5_ringersWith) ∈ nn_B := nn_m2 (k := 94) rfl rfl
theorem tb_2_95 : (Jvm.Cond.methodLink "NineNoons" (135 : Nat) yX5_sumOf) ∈ nn_B := nn_m2 (k := 95) rfl rfl
theorem tb_2_96 : (Jvm.Cond.instanceMethod yX5_sumOf) ∈ nn_B := nn_m2 (k := 96) rfl rfl
theorem tb_2_97 : (Jvm.Cond.selects "NineNoons$Valley" yX5_sumOf yX5_sumOf) ∈ nn_B := nn_m2 (k := 97) rfl rfl
theorem tb_2_98 : (Jvm.Cond.code yX5_sumOf prog_7_method_11_code (4 : Nat) (Option.some Jvm.ClassFile.FieldType.int)) ∈ nn_B := nn_m2 (k := 98) rfl rfl
theorem tb_2_99 : (Jvm.Cond.methodLink "NineNoonsLaw" (41 : Nat) yX6_days) ∈ nn_B := nn_m2 (k := 99) rfl rfl
theorem tb_2_100 : (Jvm.Cond.instanceMethod yX6_days) ∈ nn_B := nn_m2 (k := 100) rfl rfl
theorem tb_2_101 : (Jvm.Cond.selects "NineNoons" yX6_days yX6_days) ∈ nn_B := nn_m2 (k := 101) rfl rfl
theorem tb_2_102 : (Jvm.Cond.code yX6_days prog_1_method_8_code (2 : Nat) (Option.some Jvm.ClassFile.FieldType.int)) ∈ nn_B := nn_m2 (k := 102) rfl rfl
theorem tb_2_103 : (Jvm.Cond.methodLink "NineNoons" (142 : Nat) yX6_passDays) ∈ nn_B := nn_m2 (k := 103) rfl rfl
theorem tb_2_105 : (Jvm.Cond.instanceMethod yX6_passDays) ∈ nn_B := nn_m2 (k := 105) rfl rfl
theorem tb_2_106 : (Jvm.Cond.code yX6_passDays prog_1_method_15_code (4 : Nat) (Option.some Jvm.ClassFile.FieldType.int)) ∈ nn_B := nn_m2 (k := 106) rfl rfl
theorem tb_2_107 : (Jvm.Cond.methodLink "NineNoons" (146 : Nat) yX1_remember) ∈ nn_B := nn_m2 (k := 107) rfl rfl
theorem tb_2_108 : (Jvm.Cond.instanceMethod yX1_remember) ∈ nn_B := nn_m2 (k := 108) rfl rfl
theorem tb_2_109 : (Jvm.Cond.selects "NineNoons$History" yX1_remember yX1_remember) ∈ nn_B := nn_m2 (k := 109) rfl rfl
theorem tb_2_110 : (Jvm.Cond.code yX1_remember prog_3_method_3_code (2 : Nat) (Option.none : Option Jvm.ClassFile.FieldType)) ∈ nn_B := nn_m2 (k := 110) rfl rfl
theorem tb_2_111 : (Jvm.Cond.methodLink "NineNoons$History" (25 : Nat) yX5_becomeLike) ∈ nn_B := nn_m2 (k := 111) rfl rfl
theorem tb_2_112 : (Jvm.Cond.methodLink "NineNoons$History" (29 : Nat) yJ9_min_7cf53) ∈ nn_B := nn_m2 (k := 112) rfl rfl
theorem tb_2_113 : (Jvm.Cond.methodLink "NineNoons" (156 : Nat) yX5_drawRinger) ∈ nn_B := nn_m2 (k := 113) rfl rfl
theorem tb_2_114 : (Jvm.Cond.instanceMethod yX5_drawRinger) ∈ nn_B := nn_m2 (k := 114) rfl rfl
theorem tb_2_115 : (Jvm.Cond.selects "NineNoons$Valley" yX5_drawRinger yX5_drawRinger) ∈ nn_B := nn_m2 (k := 115) rfl rfl
theorem tb_2_116 : (Jvm.Cond.code yX5_drawRinger prog_7_method_20_code (2 : Nat) (Option.none : Option Jvm.ClassFile.FieldType)) ∈ nn_B := nn_m2 (k := 116) rfl rfl
theorem tb_2_117 : (Jvm.Cond.constant "NineNoons$Valley" (85 : Nat) (1103515245 : Int32)) ∈ nn_B := nn_m2 (k := 117) rfl rfl
theorem tb_2_118 : (Jvm.Cond.constant "NineNoons$Valley" (86 : Nat) (2147483647 : Int32)) ∈ nn_B := nn_m2 (k := 118) rfl rfl
theorem tb_2_119 : (Jvm.Cond.constant "NineNoons$Valley" (87 : Nat) (65536 : Int32)) ∈ nn_B := nn_m2 (k := 119) rfl rfl
theorem tb_2_120 : (Jvm.Cond.methodLinkNest "NineNoons$Valley" (67 : Nat) yX6_roundTheHour "NineNoons") ∈ lw_tbl := nn_q2 (k := 120) rfl
theorem tb_2_121 : (Jvm.Cond.static yX6_roundTheHour) ∈ nn_B := nn_m2 (k := 121) rfl rfl
theorem tb_2_122 : (Jvm.Cond.code yX6_roundTheHour prog_1_method_45_code (1 : Nat) (Option.some Jvm.ClassFile.FieldType.int)) ∈ nn_B := nn_m2 (k := 122) rfl rfl
theorem tb_2_123 : (Jvm.Cond.methodLink "NineNoons" (282 : Nat) yJ9_floorMod_7cf53) ∈ nn_B := nn_m2 (k := 123) rfl rfl
theorem tb_2_124 : (Jvm.Cond.static yJ9_floorMod_7cf53) ∈ nn_B := nn_m2 (k := 124) rfl rfl
theorem tb_2_125 : (Jvm.Cond.code yJ9_floorMod_7cf53 prog_12_method_50_code (3 : Nat) (Option.some Jvm.ClassFile.FieldType.int)) ∈ nn_B := nn_m2 (k := 125) rfl rfl
theorem tb_2_126 : (Jvm.Cond.methodLink "NineNoons" (159 : Nat) yX5_passDay) ∈ nn_B := nn_m2 (k := 126) rfl rfl
theorem tb_2_127 : (Jvm.Cond.instanceMethod yX5_passDay) ∈ nn_B := nn_m2 (k := 127) rfl rfl
theorem tb_2_128 : (Jvm.Cond.selects "NineNoons$Valley" yX5_passDay yX5_passDay) ∈ nn_B := nn_m2 (k := 128) rfl rfl
theorem tb_2_129 : (Jvm.Cond.code yX5_passDay prog_7_method_19_code (2 : Nat) (Option.none : Option Jvm.ClassFile.FieldType)) ∈ nn_B := nn_m2 (k := 129) rfl rfl
theorem tb_2_130 : (Jvm.Cond.methodLink "NineNoons$Valley" (82 : Nat) yX5_laterBy) ∈ nn_B := nn_m2 (k := 130) rfl rfl
theorem tb_2_131 : (Jvm.Cond.methodLink "NineNoonsLaw" (45 : Nat) yX6_set) ∈ nn_B := nn_m2 (k := 131) rfl rfl
theorem tb_2_132 : (Jvm.Cond.instanceMethod yX6_set) ∈ nn_B := nn_m2 (k := 132) rfl rfl
theorem tb_2_133 : (Jvm.Cond.selects "NineNoons" yX6_set yX6_set) ∈ nn_B := nn_m2 (k := 133) rfl rfl
theorem tb_2_134 : (Jvm.Cond.code yX6_set prog_1_method_9_code (4 : Nat) (Option.some Jvm.ClassFile.FieldType.int)) ∈ nn_B := nn_m2 (k := 134) rfl rfl
theorem tb_2_135 : (Jvm.Cond.methodLink "NineNoonsLaw" (49 : Nat) yX6_move) ∈ nn_B := nn_m2 (k := 135) rfl rfl
theorem tb_2_136 : (Jvm.Cond.instanceMethod yX6_move) ∈ nn_B := nn_m2 (k := 136) rfl rfl
theorem tb_2_137 : (Jvm.Cond.selects "NineNoons" yX6_move yX6_move) ∈ nn_B := nn_m2 (k := 137) rfl rfl
theorem tb_2_138 : (Jvm.Cond.code yX6_move prog_1_method_10_code (4 : Nat) (Option.some Jvm.ClassFile.FieldType.int)) ∈ nn_B := nn_m2 (k := 138) rfl rfl
theorem tb_2_139 : (Jvm.Cond.methodLink "NineNoonsLaw" (53 : Nat) yX6_tune) ∈ nn_B := nn_m2 (k := 139) rfl rfl
theorem tb_2_140 : (Jvm.Cond.instanceMethod yX6_tune) ∈ nn_B := nn_m2 (k := 140) rfl rfl
theorem tb_2_141 : (Jvm.Cond.selects "NineNoons" yX6_tune yX6_tune) ∈ nn_B := nn_m2 (k := 141) rfl rfl
theorem tb_2_142 : (Jvm.Cond.code yX6_tune prog_1_method_11_code (4 : Nat) (Option.some Jvm.ClassFile.FieldType.int)) ∈ nn_B := nn_m2 (k := 142) rfl rfl
theorem tb_2_143 : (Jvm.Cond.methodLink "NineNoonsLaw" (57 : Nat) yX6_storm) ∈ nn_B := nn_m2 (k := 143) rfl rfl
theorem tb_2_144 : (Jvm.Cond.instanceMethod yX6_storm) ∈ nn_B := nn_m2 (k := 144) rfl rfl
theorem tb_2_145 : (Jvm.Cond.selects "NineNoons" yX6_storm yX6_storm) ∈ nn_B := nn_m2 (k := 145) rfl rfl
theorem tb_2_146 : (Jvm.Cond.code yX6_storm prog_1_method_12_code (2 : Nat) (Option.some Jvm.ClassFile.FieldType.int)) ∈ nn_B := nn_m2 (k := 146) rfl rfl
theorem tb_2_147 : (Jvm.Cond.methodLink "NineNoonsLaw" (61 : Nat) yX6_undo) ∈ nn_B := nn_m2 (k := 147) rfl rfl
theorem tb_2_148 : (Jvm.Cond.instanceMethod yX6_undo) ∈ nn_B := nn_m2 (k := 148) rfl rfl
theorem tb_2_149 : (Jvm.Cond.selects "NineNoons" yX6_undo yX6_undo) ∈ nn_B := nn_m2 (k := 149) rfl rfl
theorem tb_2_150 : (Jvm.Cond.code yX6_undo prog_1_method_13_code (1 : Nat) (Option.some Jvm.ClassFile.FieldType.int)) ∈ nn_B := nn_m2 (k := 150) rfl rfl
theorem tb_2_151 : (Jvm.Cond.methodLink "NineNoons" (149 : Nat) yX1_takeBack) ∈ nn_B := nn_m2 (k := 151) rfl rfl
theorem tb_2_152 : (Jvm.Cond.instanceMethod yX1_takeBack) ∈ nn_B := nn_m2 (k := 152) rfl rfl
theorem tb_2_153 : (Jvm.Cond.selects "NineNoons$History" yX1_takeBack yX1_takeBack) ∈ nn_B := nn_m2 (k := 153) rfl rfl
theorem tb_2_154 : (Jvm.Cond.code yX1_takeBack prog_3_method_4_code (2 : Nat) (Option.some Jvm.ClassFile.FieldType.boolean)) ∈ nn_B := nn_m2 (k := 154) rfl rfl
theorem tb_2_155 : (Jvm.Cond.methodLink "NineNoonsLaw" (65 : Nat) yX6_seed) ∈ nn_B := nn_m2 (k := 155) rfl rfl
theorem tb_2_156 : (Jvm.Cond.instanceMethod yX6_seed) ∈ nn_B := nn_m2 (k := 156) rfl rfl
theorem tb_2_157 : (Jvm.Cond.selects "NineNoons" yX6_seed yX6_seed) ∈ nn_B := nn_m2 (k := 157) rfl rfl
theorem tb_2_158 : (Jvm.Cond.code yX6_seed prog_1_method_14_code (3 : Nat) (Option.some Jvm.ClassFile.FieldType.int)) ∈ nn_B := nn_m2 (k := 158) rfl rfl
theorem tb_2_159 : (Jvm.Cond.methodLink "NineNoonsLaw" (69 : Nat) yX6_ahead) ∈ nn_B := nn_m2 (k := 159) rfl rfl
theorem tb_2_160 : (Jvm.Cond.instanceMethod yX6_ahead) ∈ nn_B := nn_m2 (k := 160) rfl rfl
theorem tb_2_161 : (Jvm.Cond.selects "NineNoons" yX6_ahead yX6_ahead) ∈ nn_B := nn_m2 (k := 161) rfl rfl
theorem tb_2_162 : (Jvm.Cond.code yX6_ahead prog_1_method_16_code (3 : Nat) (Option.some Jvm.ClassFile.FieldType.int)) ∈ nn_B := nn_m2 (k := 162) rfl rfl
theorem tb_2_163 : (Jvm.Cond.methodLink "NineNoons" (162 : Nat) yX6_foretell) ∈ nn_B := nn_m2 (k := 163) rfl rfl
theorem tb_2_165 : (Jvm.Cond.instanceMethod yX6_foretell) ∈ nn_B := nn_m2 (k := 165) rfl rfl
theorem tb_2_166 : (Jvm.Cond.code yX6_foretell prog_1_method_28_code (3 : Nat) (Option.none : Option Jvm.ClassFile.FieldType)) ∈ nn_B := nn_m2 (k := 166) rfl rfl
theorem tb_2_167 : (Jvm.Cond.methodLink "NineNoonsLaw" (73 : Nat) yX6_near) ∈ nn_B := nn_m2 (k := 167) rfl rfl
theorem tb_2_168 : (Jvm.Cond.instanceMethod yX6_near) ∈ nn_B := nn_m2 (k := 168) rfl rfl
theorem tb_2_169 : (Jvm.Cond.selects "NineNoons" yX6_near yX6_near) ∈ nn_B := nn_m2 (k := 169) rfl rfl
theorem tb_2_170 : (Jvm.Cond.code yX6_near prog_1_method_17_code (2 : Nat) (Option.some Jvm.ClassFile.FieldType.int)) ∈ nn_B := nn_m2 (k := 170) rfl rfl
theorem tb_2_171 : (Jvm.Cond.methodLink "NineNoonsLaw" (77 : Nat) yX6_meet) ∈ nn_B := nn_m2 (k := 171) rfl rfl
theorem tb_2_172 : (Jvm.Cond.instanceMethod yX6_meet) ∈ nn_B := nn_m2 (k := 172) rfl rfl
theorem tb_2_173 : (Jvm.Cond.selects "NineNoons" yX6_meet yX6_meet) ∈ nn_B := nn_m2 (k := 173) rfl rfl
theorem tb_2_174 : (Jvm.Cond.code yX6_meet prog_1_method_18_code (4 : Nat) (Option.some Jvm.ClassFile.FieldType.int)) ∈ nn_B := nn_m2 (k := 174) rfl rfl
theorem tb_2_175 : (Jvm.Cond.methodLink "NineNoonsLaw" (81 : Nat) yX6_together) ∈ nn_B := nn_m2 (k := 175) rfl rfl
theorem tb_2_176 : (Jvm.Cond.instanceMethod yX6_together) ∈ nn_B := nn_m2 (k := 176) rfl rfl
theorem tb_2_177 : (Jvm.Cond.selects "NineNoons" yX6_together yX6_together) ∈ nn_B := nn_m2 (k := 177) rfl rfl
theorem tb_2_178 : (Jvm.Cond.code yX6_together prog_1_method_19_code (3 : Nat) (Option.some Jvm.ClassFile.FieldType.int)) ∈ nn_B := nn_m2 (k := 178) rfl rfl
theorem tb_2_179 : (Jvm.Cond.methodLink "NineNoons" (166 : Nat) yX5_passDaysUntilTogether) ∈ nn_B := nn_m2 (k := 179) rfl rfl
theorem tb_2_180 : (Jvm.Cond.instanceMethod yX5_passDaysUntilTogether) ∈ nn_B := nn_m2 (k := 180) rfl rfl
theorem tb_2_181 : (Jvm.Cond.selects "NineNoons$Valley" yX5_passDaysUntilTogether yX5_passDaysUntilTogether) ∈ nn_B := nn_m2 (k := 181) rfl rfl
theorem tb_2_182 : (Jvm.Cond.code yX5_passDaysUntilTogether prog_7_method_21_code (2 : Nat) (Option.some Jvm.ClassFile.FieldType.int)) ∈ nn_B := nn_m2 (k := 182) rfl rfl
theorem tb_2_183 : (Jvm.Cond.methodLink "NineNoons$Valley" (88 : Nat) yX5_ringers) ∈ nn_B := nn_m2 (k := 183) rfl rfl
theorem tb_2_184 : (Jvm.Cond.methodLink "NineNoons$Valley" (92 : Nat) yX5_passDay) ∈ nn_B := nn_m2 (k := 184) rfl rfl
theorem tb_2_185 : (Jvm.Cond.methodLink "NineNoonsLaw" (85 : Nat) yX6_fix) ∈ nn_B := nn_m2 (k := 185) rfl rfl
theorem tb_2_186 : (Jvm.Cond.instanceMethod yX6_fix) ∈ nn_B := nn_m2 (k := 186) rfl rfl
theorem tb_2_187 : (Jvm.Cond.selects "NineNoons" yX6_fix yX6_fix) ∈ nn_B := nn_m2 (k := 187) rfl rfl
theorem tb_2_188 : (Jvm.Cond.code yX6_fix prog_1_method_20_code (4 : Nat) (Option.some Jvm.ClassFile.FieldType.int)) ∈ nn_B := nn_m2 (k := 188) rfl rfl
theorem tb_2_189 : (Jvm.Cond.methodLink "NineNoons" (169 : Nat) yX2_leastTotal) ∈ nn_B := nn_m2 (k := 189) rfl rfl
theorem tb_2_190 : (Jvm.Cond.instanceMethod yX2_leastTotal) ∈ nn_B := nn_m2 (k := 190) rfl rfl
theorem tb_2_191 : (Jvm.Cond.selects "NineNoons$Setter" yX2_leastTotal yX2_leastTotal) ∈ nn_B := nn_m2 (k := 191) rfl rfl
theorem tb_2_192 : (Jvm.Cond.code yX2_leastTotal prog_4_method_2_code (5 : Nat) (Option.some Jvm.ClassFile.FieldType.int)) ∈ nn_B := nn_m2 (k := 192) rfl rfl
theorem tb_2_193 : (Jvm.Cond.methodLink "NineNoons$Setter" (21 : Nat) yX2_settle) ∈ nn_B := nn_m2 (k := 193) rfl rfl
theorem tb_2_195 : (Jvm.Cond.instanceMethod yX2_settle) ∈ nn_B := nn_m2 (k := 195) rfl rfl
theorem tb_2_196 : (Jvm.Cond.code yX2_settle prog_4_method_3_code (6 : Nat) (Option.some Jvm.ClassFile.FieldType.boolean)) ∈ nn_B := nn_m2 (k := 196) rfl rfl
theorem tb_2_197 : (Jvm.Cond.methodLink "NineNoons$Setter" (25 : Nat) yX2_settleBy) ∈ nn_B := nn_m2 (k := 197) rfl rfl
theorem tb_2_199 : (Jvm.Cond.instanceMethod yX2_settleBy) ∈ nn_B := nn_m2 (k := 199) rfl rfl
theorem tb_2_200 : (Jvm.Cond.code yX2_settleBy prog_4_method_4_code (8 : Nat) (Option.some Jvm.ClassFile.FieldType.boolean)) ∈ nn_B := nn_m2 (k := 200) rfl rfl
theorem tb_2_201 : (Jvm.Cond.methodLink "NineNoons$Setter" (29 : Nat) yJ9_abs_0f7a4) ∈ nn_B := nn_m2 (k := 201) rfl rfl
theorem tb_2_202 : (Jvm.Cond.methodLink "NineNoons$Setter" (35 : Nat) yX2_isClearOfEarlier) ∈ nn_B := nn_m2 (k := 202) rfl rfl
theorem tb_2_204 : (Jvm.Cond.instanceMethod yX2_isClearOfEarlier) ∈ nn_B := nn_m2 (k := 204) rfl rfl
theorem tb_2_205 : (Jvm.Cond.code yX2_isClearOfEarlier prog_4_method_5_code (6 : Nat) (Option.some Jvm.ClassFile.FieldType.boolean)) ∈ nn_B := nn_m2 (k := 205) rfl rfl
theorem tb_2_206 : (Jvm.Cond.methodLink "NineNoons$Setter" (39 : Nat) yX2_minuteThen) ∈ nn_B := nn_m2 (k := 206) rfl rfl
theorem tb_2_208 : (Jvm.Cond.instanceMethod yX2_minuteThen) ∈ nn_B := nn_m2 (k := 208) rfl rfl
theorem tb_2_209 : (Jvm.Cond.code yX2_minuteThen prog_4_method_6_code (3 : Nat) (Option.some Jvm.ClassFile.FieldType.int)) ∈ nn_B := nn_m2 (k := 209) rfl rfl
theorem tb_2_210 : (Jvm.Cond.methodLinkNest "NineNoons$Setter" (50 : Nat) yX6_roundTheHour "NineNoons") ∈ lw_tbl := nn_q2 (k := 210) rfl
theorem tb_2_211 : (Jvm.Cond.methodLinkNest "NineNoons$Setter" (43 : Nat) yX6_shorterWay "NineNoons") ∈ lw_tbl := nn_q2 (k := 211) rfl
theorem tb_2_212 : (Jvm.Cond.methodLink "NineNoonsLaw" (89 : Nat) yX6_free) ∈ nn_B := nn_m2 (k := 212) rfl rfl
theorem tb_2_213 : (Jvm.Cond.instanceMethod yX6_free) ∈ nn_B := nn_m2 (k := 213) rfl rfl
theorem tb_2_214 : (Jvm.Cond.selects "NineNoons" yX6_free yX6_free) ∈ nn_B := nn_m2 (k := 214) rfl rfl
theorem tb_2_215 : (Jvm.Cond.code yX6_free prog_1_method_21_code (5 : Nat) (Option.some Jvm.ClassFile.FieldType.long)) ∈ nn_B := nn_m2 (k := 215) rfl rfl
theorem tb_2_216 : (Jvm.Cond.constantLong "NineNoons" (176 : Nat) (-1 : Int64)) ∈ nn_B := nn_m2 (k := 216) rfl rfl
theorem tb_2_217 : (Jvm.Cond.methodLink "NineNoons" (178 : Nat) yX6_freeMinutes) ∈ nn_B := nn_m2 (k := 217) rfl rfl
theorem tb_2_219 : (Jvm.Cond.instanceMethod yX6_freeMinutes) ∈ nn_B := nn_m2 (k := 219) rfl rfl
theorem tb_2_220 : (Jvm.Cond.code yX6_freeMinutes prog_1_method_29_code (5 : Nat) (Option.some Jvm.ClassFile.FieldType.long)) ∈ nn_B := nn_m2 (k := 220) rfl rfl
theorem tb_2_221 : (Jvm.Cond.methodLink "NineNoons" (224 : Nat) yX5_isFree) ∈ nn_B := nn_m2 (k := 221) rfl rfl
theorem tb_2_222 : (Jvm.Cond.instanceMethod yX5_isFree) ∈ nn_B := nn_m2 (k := 222) rfl rfl
theorem tb_2_223 : (Jvm.Cond.selects "NineNoons$Valley" yX5_isFree yX5_isFree) ∈ nn_B := nn_m2 (k := 223) rfl rfl
theorem tb_2_224 : (Jvm.Cond.code yX5_isFree prog_7_method_12_code (4 : Nat) (Option.some Jvm.ClassFile.FieldType.boolean)) ∈ nn_B := nn_m2 (k := 224) rfl rfl
theorem tb_2_225 : (Jvm.Cond.methodLink "NineNoons" (182 : Nat) yJ13_bitCount_95d88) ∈ nn_B := nn_m2 (k := 225) rfl rfl
theorem tb_2_226 : (Jvm.Cond.static yJ13_bitCount_95d88) ∈ nn_B := nn_m2 (k := 226) rfl rfl
theorem tb_2_227 : (Jvm.Cond.code yJ13_bitCount_95d88 prog_11_method_50_code (2 : Nat) (Option.some Jvm.ClassFile.FieldType.int)) ∈ nn_B := nn_m2 (k := 227) rfl rfl
theorem tb_2_228 : (Jvm.Cond.constantLong "java/lang/Long" (314 : Nat) (6148914691236517205 : Int64)) ∈ nn_B := nn_m2 (k := 228) rfl rfl
theorem tb_2_229 : (Jvm.Cond.constantLong "java/lang/Long" (316 : Nat) (3689348814741910323 : Int64)) ∈ nn_B := nn_m2 (k := 229) rfl rfl
theorem tb_2_230 : (Jvm.Cond.constantLong "java/lang/Long" (318 : Nat) (1085102592571150095 : Int64)) ∈ nn_B := nn_m2 (k := 230) rfl rfl
theorem tb_2_231 : (Jvm.Cond.constantLong "NineNoons" (188 : Nat) (-4 : Int64)) ∈ nn_B := nn_m2 (k := 231) rfl rfl
theorem tb_2_232 : (Jvm.Cond.methodLink "NineNoons" (190 : Nat) yJ13_numberOfTrailingZeros_95d88) ∈ nn_B := nn_m2 (k := 232) rfl rfl
theorem tb_2_233 : (Jvm.Cond.static yJ13_numberOfTrailingZeros_95d88) ∈ nn_B := nn_m2 (k := 233) rfl rfl
theorem tb_2_234 : (Jvm.Cond.code yJ13_numberOfTrailingZeros_95d88 prog_11_method_49_code (3 : Nat) (Option.some Jvm.ClassFile.FieldType.int)) ∈ nn_B := nn_m2 (k := 234) rfl rfl
theorem tb_2_235 : (Jvm.Cond.methodLink "java/lang/Long" (311 : Nat) yJ6_numberOfTrailingZeros_0f7a4) ∈ nn_B := nn_m2 (k := 235) rfl rfl
theorem tb_2_236 : (Jvm.Cond.static yJ6_numberOfTrailingZeros_0f7a4) ∈ nn_B := nn_m2 (k := 236) rfl rfl
theorem tb_2_237 : (Jvm.Cond.code yJ6_numberOfTrailingZeros_0f7a4 prog_10_method_48_code (2 : Nat) (Option.some Jvm.ClassFile.FieldType.int)) ∈ nn_B := nn_m2 (k := 237) rfl rfl
theorem tb_2_238 : (Jvm.Cond.constant "java/lang/Integer" (264 : Nat) (65536 : Int32)) ∈ nn_B := nn_m2 (k := 238) rfl rfl
theorem tb_2_239 : (Jvm.Cond.methodLink "NineNoonsLaw" (94 : Nat) yX6_hear) ∈ nn_B := nn_m2 (k := 239) rfl rfl
theorem tb_3_0 : (Jvm.Cond.instanceMethod yX6_hear) ∈ nn_B := nn_m3 (k := 0) rfl rfl
theorem tb_3_1 : (Jvm.Cond.selects "NineNoons" yX6_hear yX6_hear) ∈ nn_B := nn_m3 (k := 1) rfl rfl
theorem tb_3_2 : (Jvm.Cond.code yX6_hear prog_1_method_22_code (6 : Nat) (Option.some Jvm.ClassFile.FieldType.int)) ∈ nn_B := nn_m3 (k := 2) rfl rfl
theorem tb_3_3 : (Jvm.Cond.methodLink "NineNoons" (193 : Nat) yX0_soonest) ∈ nn_B := nn_m3 (k := 3) rfl rfl
theorem tb_3_4 : (Jvm.Cond.instanceMethod yX0_soonest) ∈ nn_B := nn_m3 (k := 4) rfl rfl
theorem tb_3_5 : (Jvm.Cond.selects "NineNoons$Carrier" yX0_soonest yX0_soonest) ∈ nn_B := nn_m3 (k := 5) rfl rfl
theorem tb_3_6 : (Jvm.Cond.code yX0_soonest prog_2_method_2_code (5 : Nat) (Option.some Jvm.ClassFile.FieldType.int)) ∈ nn_B := nn_m3 (k := 6) rfl rfl
theorem tb_3_7 : (Jvm.Cond.methodLink "NineNoons$Carrier" (31 : Nat) yX0_hearRest) ∈ nn_B := nn_m3 (k := 7) rfl rfl
theorem tb_3_9 : (Jvm.Cond.instanceMethod yX0_hearRest) ∈ nn_B := nn_m3 (k := 9) rfl rfl
theorem tb_3_10 : (Jvm.Cond.code yX0_hearRest prog_2_method_3_code (8 : Nat) (Option.none : Option Jvm.ClassFile.FieldType)) ∈ nn_B := nn_m3 (k := 10) rfl rfl
theorem tb_3_11 : (Jvm.Cond.methodLink "NineNoons$Carrier" (38 : Nat) arraycopyName) ∈ nn_B := nn_m3 (k := 11) rfl rfl
theorem tb_3_12 : (Jvm.Cond.methodLinkNest "NineNoons$Carrier" (44 : Nat) yX6_isIn "NineNoons") ∈ lw_tbl := nn_q3 (k := 12) rfl
theorem tb_3_13 : (Jvm.Cond.static yX6_isIn) ∈ nn_B := nn_m3 (k := 13) rfl rfl
theorem tb_3_14 : (Jvm.Cond.code yX6_isIn prog_1_method_44_code (2 : Nat) (Option.some Jvm.ClassFile.FieldType.boolean)) ∈ nn_B := nn_m3 (k := 14) rfl rfl
theorem tb_3_15 : (Jvm.Cond.methodLink "NineNoons$Carrier" (48 : Nat) yJ9_abs_0f7a4) ∈ nn_B := nn_m3 (k := 15) rfl rfl
theorem tb_3_16 : (Jvm.Cond.methodLink "NineNoons$Carrier" (54 : Nat) yX0_hearFirst) ∈ nn_B := nn_m3 (k := 16) rfl rfl
theorem tb_3_18 : (Jvm.Cond.instanceMethod yX0_hearFirst) ∈ nn_B := nn_m3 (k := 18) rfl rfl
theorem tb_3_19 : (Jvm.Cond.code yX0_hearFirst prog_2_method_4_code (7 : Nat) (Option.none : Option Jvm.ClassFile.FieldType)) ∈ nn_B := nn_m3 (k := 19) rfl rfl
theorem tb_3_20 : (Jvm.Cond.methodLinkNest "NineNoons$Carrier" (60 : Nat) yX6_roundTheHour "NineNoons") ∈ lw_tbl := nn_q3 (k := 20) rfl
theorem tb_3_21 : (Jvm.Cond.methodLink "NineNoonsLaw" (99 : Nat) yX6_again) ∈ nn_B := nn_m3 (k := 21) rfl rfl
theorem tb_3_22 : (Jvm.Cond.instanceMethod yX6_again) ∈ nn_B := nn_m3 (k := 22) rfl rfl
theorem tb_3_23 : (Jvm.Cond.selects "NineNoons" yX6_again yX6_again) ∈ nn_B := nn_m3 (k := 23) rfl rfl
theorem tb_3_24 : (Jvm.Cond.code yX6_again prog_1_method_23_code (2 : Nat) (Option.some Jvm.ClassFile.FieldType.int)) ∈ nn_B := nn_m3 (k := 24) rfl rfl
theorem tb_3_25 : (Jvm.Cond.methodLink "NineNoons" (200 : Nat) yX5_ringsLike) ∈ nn_B := nn_m3 (k := 25) rfl rfl
theorem tb_3_26 : (Jvm.Cond.instanceMethod yX5_ringsLike) ∈ nn_B := nn_m3 (k := 26) rfl rfl
theorem tb_3_27 : (Jvm.Cond.selects "NineNoons$Valley" yX5_ringsLike yX5_ringsLike) ∈ nn_B := nn_m3 (k := 27) rfl rfl
theorem tb_3_28 : (Jvm.Cond.code yX5_ringsLike prog_7_method_14_code (3 : Nat) (Option.some Jvm.ClassFile.FieldType.boolean)) ∈ nn_B := nn_m3 (k := 28) rfl rfl
theorem tb_3_29 : (Jvm.Cond.methodLink "NineNoonsLaw" (103 : Nat) yX6_worst) ∈ nn_B := nn_m3 (k := 29) rfl rfl
theorem tb_3_30 : (Jvm.Cond.instanceMethod yX6_worst) ∈ nn_B := nn_m3 (k := 30) rfl rfl
theorem tb_3_31 : (Jvm.Cond.selects "NineNoons" yX6_worst yX6_worst) ∈ nn_B := nn_m3 (k := 31) rfl rfl
theorem tb_3_32 : (Jvm.Cond.code yX6_worst prog_1_method_24_code (6 : Nat) (Option.some Jvm.ClassFile.FieldType.int)) ∈ nn_B := nn_m3 (k := 32) rfl rfl
theorem tb_3_33 : (Jvm.Cond.methodLink "NineNoons" (203 : Nat) yX6_togetherWithoutDriftOf) ∈ nn_B := nn_m3 (k := 33) rfl rfl
theorem tb_3_35 : (Jvm.Cond.instanceMethod yX6_togetherWithoutDriftOf) ∈ nn_B := nn_m3 (k := 35) rfl rfl
theorem tb_3_36 : (Jvm.Cond.code yX6_togetherWithoutDriftOf prog_1_method_30_code (2 : Nat) (Option.some Jvm.ClassFile.FieldType.int)) ∈ nn_B := nn_m3 (k := 36) rfl rfl
theorem tb_3_37 : (Jvm.Cond.methodLink "NineNoonsLaw" (107 : Nat) yX6_fog) ∈ nn_B := nn_m3 (k := 37) rfl rfl
theorem tb_3_38 : (Jvm.Cond.instanceMethod yX6_fog) ∈ nn_B := nn_m3 (k := 38) rfl rfl
theorem tb_3_39 : (Jvm.Cond.selects "NineNoons" yX6_fog yX6_fog) ∈ nn_B := nn_m3 (k := 39) rfl rfl
theorem tb_3_40 : (Jvm.Cond.code yX6_fog prog_1_method_25_code (6 : Nat) (Option.some Jvm.ClassFile.FieldType.int)) ∈ nn_B := nn_m3 (k := 40) rfl rfl
theorem tb_3_41 : (Jvm.Cond.methodLink "NineNoons" (206 : Nat) yX6_fogWaysApart) ∈ nn_B := nn_m3 (k := 41) rfl rfl
theorem tb_3_43 : (Jvm.Cond.instanceMethod yX6_fogWaysApart) ∈ nn_B := nn_m3 (k := 43) rfl rfl
theorem tb_3_44 : (Jvm.Cond.code yX6_fogWaysApart prog_1_method_31_code (7 : Nat) (Option.some Jvm.ClassFile.FieldType.int)) ∈ nn_B := nn_m3 (k := 44) rfl rfl
theorem tb_3_45 : (Jvm.Cond.methodLink "NineNoons" (227 : Nat) yX5_isApartWith) ∈ nn_B := nn_m3 (k := 45) rfl rfl
theorem tb_3_46 : (Jvm.Cond.instanceMethod yX5_isApartWith) ∈ nn_B := nn_m3 (k := 46) rfl rfl
theorem tb_3_47 : (Jvm.Cond.selects "NineNoons$Valley" yX5_isApartWith yX5_isApartWith) ∈ nn_B := nn_m3 (k := 47) rfl rfl
theorem tb_3_48 : (Jvm.Cond.code yX5_isApartWith prog_7_method_13_code (6 : Nat) (Option.some Jvm.ClassFile.FieldType.boolean)) ∈ nn_B := nn_m3 (k := 48) rfl rfl
theorem tb_3_49 : (Jvm.Cond.methodLinkNest "NineNoons$Valley" (63 : Nat) yX6_isIn "NineNoons") ∈ lw_tbl := nn_q3 (k := 49) rfl
theorem tb_3_50 : (Jvm.Cond.methodLink "NineNoons" (230 : Nat) yX6_isIn) ∈ nn_B := nn_m3 (k := 50) rfl rfl
theorem tb_3_51 : (Jvm.Cond.methodLink "NineNoons" (209 : Nat) yX6_greatestDivisor) ∈ nn_B := nn_m3 (k := 51) rfl rfl
theorem tb_3_52 : (Jvm.Cond.static yX6_greatestDivisor) ∈ nn_B := nn_m3 (k := 52) rfl rfl
theorem tb_3_53 : (Jvm.Cond.code yX6_greatestDivisor prog_1_method_47_code (6 : Nat) (Option.some Jvm.ClassFile.FieldType.int)) ∈ nn_B := nn_m3 (k := 53) rfl rfl
theorem tb_3_54 : (Jvm.Cond.methodLink "NineNoons" (212 : Nat) yJ9_max_7cf53) ∈ nn_B := nn_m3 (k := 54) rfl rfl
theorem tb_3_55 : (Jvm.Cond.static yJ9_max_7cf53) ∈ nn_B := nn_m3 (k := 55) rfl rfl
theorem tb_3_56 : (Jvm.Cond.code yJ9_max_7cf53 prog_12_method_65_code (2 : Nat) (Option.some Jvm.ClassFile.FieldType.int)) ∈ nn_B := nn_m3 (k := 56) rfl rfl
theorem tb_3_57 : (Jvm.Cond.methodLink "NineNoonsLaw" (111 : Nat) yX6_image) ∈ nn_B := nn_m3 (k := 57) rfl rfl
theorem tb_3_58 : (Jvm.Cond.instanceMethod yX6_image) ∈ nn_B := nn_m3 (k := 58) rfl rfl
theorem tb_3_59 : (Jvm.Cond.selects "NineNoons" yX6_image yX6_image) ∈ nn_B := nn_m3 (k := 59) rfl rfl
theorem tb_3_60 : (Jvm.Cond.code yX6_image prog_1_method_26_code (1 : Nat) (Option.some Jvm.ClassFile.FieldType.int)) ∈ nn_B := nn_m3 (k := 60) rfl rfl
theorem tb_3_61 : (Jvm.Cond.methodLink "NineNoons" (217 : Nat) yX1_becomeLike) ∈ nn_B := nn_m3 (k := 61) rfl rfl
theorem tb_3_62 : (Jvm.Cond.instanceMethod yX1_becomeLike) ∈ nn_B := nn_m3 (k := 62) rfl rfl
theorem tb_3_63 : (Jvm.Cond.selects "NineNoons$History" yX1_becomeLike yX1_becomeLike) ∈ nn_B := nn_m3 (k := 63) rfl rfl
theorem tb_3_64 : (Jvm.Cond.code yX1_becomeLike prog_3_method_5_code (3 : Nat) (Option.none : Option Jvm.ClassFile.FieldType)) ∈ nn_B := nn_m3 (k := 64) rfl rfl
theorem tb_3_65 : (Jvm.Cond.methodLink "NineNoonsLaw" (115 : Nat) yX6_restore) ∈ nn_B := nn_m3 (k := 65) rfl rfl
theorem tb_3_66 : (Jvm.Cond.instanceMethod yX6_restore) ∈ nn_B := nn_m3 (k := 66) rfl rfl
theorem tb_3_67 : (Jvm.Cond.selects "NineNoons" yX6_restore yX6_restore) ∈ nn_B := nn_m3 (k := 67) rfl rfl
theorem tb_3_68 : (Jvm.Cond.code yX6_restore prog_1_method_27_code (1 : Nat) (Option.some Jvm.ClassFile.FieldType.int)) ∈ nn_B := nn_m3 (k := 68) rfl rfl
theorem tb_3_69 : (Jvm.Cond.methodLink "NineNoonsLaw" (119 : Nat) yX6_heard) ∈ nn_B := nn_m3 (k := 69) rfl rfl
theorem tb_3_70 : (Jvm.Cond.instanceMethod yX6_heard) ∈ nn_B := nn_m3 (k := 70) rfl rfl
theorem tb_3_71 : (Jvm.Cond.selects "NineNoons" yX6_heard yX6_heard) ∈ nn_B := nn_m3 (k := 71) rfl rfl
theorem tb_3_72 : (Jvm.Cond.code yX6_heard prog_1_method_32_code (8 : Nat) (Option.some Jvm.ClassFile.FieldType.int)) ∈ nn_B := nn_m3 (k := 72) rfl rfl
theorem tb_3_73 : (Jvm.Cond.methodLink "NineNoons" (233 : Nat) yX6_isSheetAndLane) ∈ nn_B := nn_m3 (k := 73) rfl rfl
theorem tb_3_74 : (Jvm.Cond.static yX6_isSheetAndLane) ∈ nn_B := nn_m3 (k := 74) rfl rfl
theorem tb_3_75 : (Jvm.Cond.code yX6_isSheetAndLane prog_1_method_43_code (2 : Nat) (Option.some Jvm.ClassFile.FieldType.boolean)) ∈ nn_B := nn_m3 (k := 75) rfl rfl
theorem tb_3_76 : (Jvm.Cond.methodLink "NineNoons" (236 : Nat) yX3_refusal) ∈ nn_B := nn_m3 (k := 76) rfl rfl
theorem tb_3_77 : (Jvm.Cond.instanceMethod yX3_refusal) ∈ nn_B := nn_m3 (k := 77) rfl rfl
theorem tb_3_78 : (Jvm.Cond.selects "NineNoons$Sheet" yX3_refusal yX3_refusal) ∈ nn_B := nn_m3 (k := 78) rfl rfl
theorem tb_3_79 : (Jvm.Cond.code yX3_refusal prog_5_method_6_code (4 : Nat) (Option.some Jvm.ClassFile.FieldType.int)) ∈ nn_B := nn_m3 (k := 79) rfl rfl
theorem tb_3_80 : (Jvm.Cond.methodLink "NineNoons$Sheet" (22 : Nat) yX3_isMissing) ∈ nn_B := nn_m3 (k := 80) rfl rfl
theorem tb_3_81 : (Jvm.Cond.instanceMethod yX3_isMissing) ∈ nn_B := nn_m3 (k := 81) rfl rfl
theorem tb_3_82 : (Jvm.Cond.selects "NineNoons$Sheet" yX3_isMissing yX3_isMissing) ∈ nn_B := nn_m3 (k := 82) rfl rfl
theorem tb_3_83 : (Jvm.Cond.code yX3_isMissing prog_5_method_4_code (1 : Nat) (Option.some Jvm.ClassFile.FieldType.boolean)) ∈ nn_B := nn_m3 (k := 83) rfl rfl
theorem tb_3_84 : (Jvm.Cond.methodLink "NineNoons$Sheet" (26 : Nat) yX3_reaches) ∈ nn_B := nn_m3 (k := 84) rfl rfl
theorem tb_3_85 : (Jvm.Cond.instanceMethod yX3_reaches) ∈ nn_B := nn_m3 (k := 85) rfl rfl
theorem tb_3_86 : (Jvm.Cond.selects "NineNoons$Sheet" yX3_reaches yX3_reaches) ∈ nn_B := nn_m3 (k := 86) rfl rfl
theorem tb_3_87 : (Jvm.Cond.code yX3_reaches prog_5_method_5_code (3 : Nat) (Option.some Jvm.ClassFile.FieldType.boolean)) ∈ nn_B := nn_m3 (k := 87) rfl rfl
theorem tb_3_88 : (Jvm.Cond.methodLink "NineNoons" (240 : Nat) yX6_kindsHeard) ∈ nn_B := nn_m3 (k := 88) rfl rfl
theorem tb_3_90 : (Jvm.Cond.instanceMethod yX6_kindsHeard) ∈ nn_B := nn_m3 (k := 90) rfl rfl
theorem tb_3_91 : (Jvm.Cond.code yX6_kindsHeard prog_1_method_38_code (7 : Nat) (Option.some Jvm.ClassFile.FieldType.int)) ∈ nn_B := nn_m3 (k := 91) rfl rfl
theorem tb_3_92 : (Jvm.Cond.methodLink "NineNoons" (278 : Nat) yX6_trialRingsAs) ∈ nn_B := nn_m3 (k := 92) rfl rfl
theorem tb_3_94 : (Jvm.Cond.instanceMethod yX6_trialRingsAs) ∈ nn_B := nn_m3 (k := 94) rfl rfl
theorem tb_3_95 : (Jvm.Cond.code yX6_trialRingsAs prog_1_method_40_code (6 : Nat) (Option.some Jvm.ClassFile.FieldType.boolean)) ∈ nn_B := nn_m3 (k := 95) rfl rfl
theorem tb_3_96 : (Jvm.Cond.methodLink "NineNoons" (244 : Nat) yX6_driftsHeard) ∈ nn_B := nn_m3 (k := 96) rfl rfl
theorem tb_3_98 : (Jvm.Cond.instanceMethod yX6_driftsHeard) ∈ nn_B := nn_m3 (k := 98) rfl rfl
theorem tb_3_99 : (Jvm.Cond.code yX6_driftsHeard prog_1_method_39_code (7 : Nat) (Option.some Jvm.ClassFile.FieldType.int)) ∈ nn_B := nn_m3 (k := 99) rfl rfl
theorem tb_3_100 : (Jvm.Cond.methodLink "NineNoonsLaw" (124 : Nat) yX6_film) ∈ nn_B := nn_m3 (k := 100) rfl rfl
theorem tb_3_101 : (Jvm.Cond.instanceMethod yX6_film) ∈ nn_B := nn_m3 (k := 101) rfl rfl
theorem tb_3_102 : (Jvm.Cond.selects "NineNoons" yX6_film yX6_film) ∈ nn_B := nn_m3 (k := 102) rfl rfl
theorem tb_3_103 : (Jvm.Cond.code yX6_film prog_1_method_33_code (8 : Nat) (Option.some Jvm.ClassFile.FieldType.int)) ∈ nn_B := nn_m3 (k := 103) rfl rfl
theorem tb_3_104 : (Jvm.Cond.methodLink "NineNoons" (247 : Nat) yX3_put) ∈ nn_B := nn_m3 (k := 104) rfl rfl
theorem tb_3_105 : (Jvm.Cond.instanceMethod yX3_put) ∈ nn_B := nn_m3 (k := 105) rfl rfl
theorem tb_3_106 : (Jvm.Cond.selects "NineNoons$Sheet" yX3_put yX3_put) ∈ nn_B := nn_m3 (k := 106) rfl rfl
theorem tb_3_107 : (Jvm.Cond.code yX3_put prog_5_method_7_code (4 : Nat) (Option.none : Option Jvm.ClassFile.FieldType)) ∈ nn_B := nn_m3 (k := 107) rfl rfl
theorem tb_3_108 : (Jvm.Cond.methodLink "NineNoonsLaw" (129 : Nat) yX6_sheet) ∈ nn_B := nn_m3 (k := 108) rfl rfl
theorem tb_3_109 : (Jvm.Cond.instanceMethod yX6_sheet) ∈ nn_B := nn_m3 (k := 109) rfl rfl
theorem tb_3_110 : (Jvm.Cond.selects "NineNoons" yX6_sheet yX6_sheet) ∈ nn_B := nn_m3 (k := 110) rfl rfl
theorem tb_3_111 : (Jvm.Cond.code yX6_sheet prog_1_method_34_code (4 : Nat) (Option.some Jvm.ClassFile.FieldType.int)) ∈ nn_B := nn_m3 (k := 111) rfl rfl
theorem tb_3_112 : (Jvm.Cond.methodLink "NineNoons" (250 : Nat) yX3_renew) ∈ nn_B := nn_m3 (k := 112) rfl rfl
theorem tb_3_113 : (Jvm.Cond.instanceMethod yX3_renew) ∈ nn_B := nn_m3 (k := 113) rfl rfl
theorem tb_3_114 : (Jvm.Cond.selects "NineNoons$Sheet" yX3_renew yX3_renew) ∈ nn_B := nn_m3 (k := 114) rfl rfl
theorem tb_3_115 : (Jvm.Cond.code yX3_renew prog_5_method_2_code (4 : Nat) (Option.none : Option Jvm.ClassFile.FieldType)) ∈ nn_B := nn_m3 (k := 115) rfl rfl
theorem tb_3_116 : (Jvm.Cond.methodLink "NineNoonsLaw" (133 : Nat) yX6_drop) ∈ nn_B := nn_m3 (k := 116) rfl rfl
theorem tb_3_117 : (Jvm.Cond.instanceMethod yX6_drop) ∈ nn_B := nn_m3 (k := 117) rfl rfl
theorem tb_3_118 : (Jvm.Cond.selects "NineNoons" yX6_drop yX6_drop) ∈ nn_B := nn_m3 (k := 118) rfl rfl
theorem tb_3_119 : (Jvm.Cond.code yX6_drop prog_1_method_35_code (3 : Nat) (Option.some Jvm.ClassFile.FieldType.int)) ∈ nn_B := nn_m3 (k := 119) rfl rfl
theorem tb_3_120 : (Jvm.Cond.methodLink "NineNoons" (254 : Nat) yX3_isMissing) ∈ nn_B := nn_m3 (k := 120) rfl rfl
theorem tb_3_121 : (Jvm.Cond.methodLink "NineNoons" (259 : Nat) yX3_remove) ∈ nn_B := nn_m3 (k := 121) rfl rfl
theorem tb_3_122 : (Jvm.Cond.instanceMethod yX3_remove) ∈ nn_B := nn_m3 (k := 122) rfl rfl
theorem tb_3_123 : (Jvm.Cond.selects "NineNoons$Sheet" yX3_remove yX3_remove) ∈ nn_B := nn_m3 (k := 123) rfl rfl
theorem tb_3_124 : (Jvm.Cond.code yX3_remove prog_5_method_3_code (1 : Nat) (Option.none : Option Jvm.ClassFile.FieldType)) ∈ nn_B := nn_m3 (k := 124) rfl rfl
theorem tb_3_125 : (Jvm.Cond.methodLink "NineNoonsLaw" (139 : Nat) yX6_item) ∈ nn_B := nn_m3 (k := 125) rfl rfl
theorem tb_3_126 : (Jvm.Cond.instanceMethod yX6_item) ∈ nn_B := nn_m3 (k := 126) rfl rfl
theorem tb_3_127 : (Jvm.Cond.selects "NineNoons" yX6_item yX6_item) ∈ nn_B := nn_m3 (k := 127) rfl rfl
theorem tb_3_128 : (Jvm.Cond.code yX6_item prog_1_method_36_code (7 : Nat) (Option.some Jvm.ClassFile.FieldType.int)) ∈ nn_B := nn_m3 (k := 128) rfl rfl
theorem tb_3_129 : (Jvm.Cond.methodLink "NineNoonsLaw" (144 : Nat) yX6_copy) ∈ nn_B := nn_m3 (k := 129) rfl rfl
theorem tb_3_130 : (Jvm.Cond.instanceMethod yX6_copy) ∈ nn_B := nn_m3 (k := 130) rfl rfl
theorem tb_3_131 : (Jvm.Cond.selects "NineNoons" yX6_copy yX6_copy) ∈ nn_B := nn_m3 (k := 131) rfl rfl
theorem tb_3_132 : (Jvm.Cond.code yX6_copy prog_1_method_37_code (8 : Nat) (Option.some Jvm.ClassFile.FieldType.int)) ∈ nn_B := nn_m3 (k := 132) rfl rfl
theorem tb_3_133 : (Jvm.Cond.methodLink "NineNoons" (265 : Nat) yX3_reaches) ∈ nn_B := nn_m3 (k := 133) rfl rfl
theorem tb_3_134 : (Jvm.Cond.methodLink "NineNoons" (272 : Nat) arraycopyName) ∈ nn_B := nn_m3 (k := 134) rfl rfl
theorem tb_3_135 : (Jvm.Cond.classLink "NineNoonsLaw" (10 : Nat) "NineNoonsModel") ∈ nn_B := nn_m3 (k := 135) rfl rfl
theorem tb_3_136 : (Jvm.Cond.instantiable "NineNoonsModel" (21 : Nat)) ∈ nn_B := nn_m3 (k := 136) rfl rfl
theorem tb_3_137 : (Jvm.Cond.methodLink "NineNoonsLaw" (12 : Nat) yX7_init) ∈ nn_B := nn_m3 (k := 137) rfl rfl
theorem tb_3_138 : (Jvm.Cond.instanceMethod yX7_init) ∈ nn_B := nn_m3 (k := 138) rfl rfl
theorem tb_3_139 : (Jvm.Cond.code yX7_init prog_9_method_3_code (2 : Nat) (Option.none : Option Jvm.ClassFile.FieldType)) ∈ nn_B := nn_m3 (k := 139) rfl rfl
theorem tb_3_140 : (Jvm.Cond.methodLink "NineNoonsModel" (1 : Nat) objectInit) ∈ nn_B := nn_m3 (k := 140) rfl rfl
theorem tb_3_141 : (Jvm.Cond.fieldLink "NineNoonsModel" (7 : Nat) "NineNoonsModel" "now" "[I") ∈ nn_B := nn_m3 (k := 141) rfl rfl
theorem tb_3_142 : (Jvm.Cond.fieldLink "NineNoonsModel" (13 : Nat) "NineNoonsModel" "later" "[I") ∈ nn_B := nn_m3 (k := 142) rfl rfl
theorem tb_3_143 : (Jvm.Cond.fieldLink "NineNoonsModel" (16 : Nat) "NineNoonsModel" "tape" "[I") ∈ nn_B := nn_m3 (k := 143) rfl rfl
theorem tb_3_144 : (Jvm.Cond.fieldLink "NineNoonsModel" (128 : Nat) "NineNoonsModel" "typed" "I") ∈ nn_B := nn_m3 (k := 144) rfl rfl
theorem tb_3_145 : (Jvm.Cond.fieldLink "NineNoonsModel" (131 : Nat) "NineNoonsModel" "place" "I") ∈ nn_B := nn_m3 (k := 145) rfl rfl
theorem tb_3_146 : (Jvm.Cond.fieldLink "NineNoonsModel" (134 : Nat) "NineNoonsModel" "isFault" "Z") ∈ nn_B := nn_m3 (k := 146) rfl rfl
theorem tb_3_147 : (Jvm.Cond.fieldLink "NineNoonsModel" (19 : Nat) "NineNoonsModel" "read" "[I") ∈ nn_B := nn_m3 (k := 147) rfl rfl
theorem tb_3_148 : (Jvm.Cond.fieldLink "NineNoonsModel" (22 : Nat) "NineNoonsModel" "undone" "[I") ∈ nn_B := nn_m3 (k := 148) rfl rfl
theorem tb_3_149 : (Jvm.Cond.fieldLink "NineNoonsModel" (91 : Nat) "NineNoonsModel" "undos" "I") ∈ nn_B := nn_m3 (k := 149) rfl rfl
theorem tb_3_150 : (Jvm.Cond.fieldLink "NineNoonsModel" (25 : Nat) "NineNoonsModel" "aside" "[I") ∈ nn_B := nn_m3 (k := 150) rfl rfl
theorem tb_3_151 : (Jvm.Cond.fieldLink "NineNoonsModel" (185 : Nat) "NineNoonsModel" "together" "I") ∈ nn_B := nn_m3 (k := 151) rfl rfl
theorem tb_3_152 : (Jvm.Cond.fieldLink "NineNoonsModel" (28 : Nat) "NineNoonsModel" "by" "[I") ∈ nn_B := nn_m3 (k := 152) rfl rfl
theorem tb_3_153 : (Jvm.Cond.fieldLink "NineNoonsModel" (31 : Nat) "NineNoonsModel" "best" "[I") ∈ nn_B := nn_m3 (k := 153) rfl rfl
theorem tb_3_154 : (Jvm.Cond.fieldLink "NineNoonsModel" (34 : Nat) "NineNoonsModel" "order" "[I") ∈ nn_B := nn_m3 (k := 154) rfl rfl
theorem tb_3_155 : (Jvm.Cond.fieldLink "NineNoonsModel" (37 : Nat) "NineNoonsModel" "kept" "[I") ∈ nn_B := nn_m3 (k := 155) rfl rfl
theorem tb_3_156 : (Jvm.Cond.fieldLink "NineNoonsModel" (217 : Nat) "NineNoonsModel" "keptUndos" "I") ∈ nn_B := nn_m3 (k := 156) rfl rfl
theorem tb_3_157 : (Jvm.Cond.fieldLink "NineNoonsModel" (220 : Nat) "NineNoonsModel" "isKept" "Z") ∈ nn_B := nn_m3 (k := 157) rfl rfl
theorem tb_3_158 : (Jvm.Cond.fieldLink "NineNoonsModel" (40 : Nat) "NineNoonsModel" "lanes" "[I") ∈ nn_B := nn_m3 (k := 158) rfl rfl
theorem tb_3_159 : (Jvm.Cond.fieldLink "NineNoonsModel" (43 : Nat) "NineNoonsModel" "sizes" "[I") ∈ nn_B := nn_m3 (k := 159) rfl rfl
theorem tb_3_160 : (Jvm.Cond.fieldLink "NineNoonsModel" (46 : Nat) "NineNoonsModel" "items" "[J") ∈ nn_B := nn_m3 (k := 160) rfl rfl
theorem tb_3_161 : (Jvm.Cond.fieldLink "NineNoonsModel" (50 : Nat) "NineNoonsModel" "moved" "[J") ∈ nn_B := nn_m3 (k := 161) rfl rfl
theorem tb_3_205 : (Jvm.Cond.methodLink "NineNoonsLaw" (17 : Nat) yX7_village) ∈ nn_B := nn_m3 (k := 205) rfl rfl
theorem tb_3_206 : (Jvm.Cond.instanceMethod yX7_village) ∈ nn_B := nn_m3 (k := 206) rfl rfl
theorem tb_3_207 : (Jvm.Cond.selects "NineNoonsModel" yX7_village yX7_village) ∈ nn_B := nn_m3 (k := 207) rfl rfl
theorem tb_3_208 : (Jvm.Cond.code yX7_village prog_9_method_19_code (4 : Nat) (Option.some Jvm.ClassFile.FieldType.int)) ∈ nn_B := nn_m3 (k := 208) rfl rfl
theorem tb_3_209 : (Jvm.Cond.constantLong "NineNoonsModel" (95 : Nat) (4 : Int64)) ∈ nn_B := nn_m3 (k := 209) rfl rfl
theorem tb_3_210 : (Jvm.Cond.methodLink "NineNoonsModel" (53 : Nat) yX7_in) ∈ nn_B := nn_m3 (k := 210) rfl rfl
theorem tb_3_211 : (Jvm.Cond.static yX7_in) ∈ nn_B := nn_m3 (k := 211) rfl rfl
theorem tb_3_212 : (Jvm.Cond.code yX7_in prog_9_method_2_code (6 : Nat) (Option.some Jvm.ClassFile.FieldType.boolean)) ∈ nn_B := nn_m3 (k := 212) rfl rfl
theorem tb_3_213 : (Jvm.Cond.constantLong "NineNoonsModel" (97 : Nat) (59 : Int64)) ∈ nn_B := nn_m3 (k := 213) rfl rfl
theorem tb_3_214 : (Jvm.Cond.constantLong "NineNoonsModel" (99 : Nat) (-9 : Int64)) ∈ nn_B := nn_m3 (k := 214) rfl rfl
theorem tb_3_215 : (Jvm.Cond.constantLong "NineNoonsModel" (101 : Nat) (9 : Int64)) ∈ nn_B := nn_m3 (k := 215) rfl rfl
theorem tb_3_216 : (Jvm.Cond.methodLink "NineNoonsModel" (103 : Nat) yX7_villageComes) ∈ nn_B := nn_m3 (k := 216) rfl rfl
theorem tb_3_218 : (Jvm.Cond.instanceMethod yX7_villageComes) ∈ nn_B := nn_m3 (k := 218) rfl rfl
theorem tb_3_219 : (Jvm.Cond.code yX7_villageComes prog_9_method_18_code (6 : Nat) (Option.none : Option Jvm.ClassFile.FieldType)) ∈ nn_B := nn_m3 (k := 219) rfl rfl
theorem tb_3_220 : (Jvm.Cond.methodLink "NineNoonsModel" (81 : Nat) yX7_tells) ∈ nn_B := nn_m3 (k := 220) rfl rfl
theorem tb_3_222 : (Jvm.Cond.instanceMethod yX7_tells) ∈ nn_B := nn_m3 (k := 222) rfl rfl
theorem tb_3_223 : (Jvm.Cond.code yX7_tells prog_9_method_6_code (4 : Nat) (Option.none : Option Jvm.ClassFile.FieldType)) ∈ nn_B := nn_m3 (k := 223) rfl rfl
theorem tb_3_224 : (Jvm.Cond.methodLink "NineNoonsLaw" (22 : Nat) yX7_of) ∈ nn_B := nn_m3 (k := 224) rfl rfl
theorem tb_3_225 : (Jvm.Cond.instanceMethod yX7_of) ∈ nn_B := nn_m3 (k := 225) rfl rfl
theorem tb_3_226 : (Jvm.Cond.selects "NineNoonsModel" yX7_of yX7_of) ∈ nn_B := nn_m3 (k := 226) rfl rfl
theorem tb_3_227 : (Jvm.Cond.code yX7_of prog_9_method_20_code (3 : Nat) (Option.some Jvm.ClassFile.FieldType.int)) ∈ nn_B := nn_m3 (k := 227) rfl rfl
theorem tb_3_228 : (Jvm.Cond.methodLink "NineNoonsModel" (107 : Nat) yX7_isVillage) ∈ nn_B := nn_m3 (k := 228) rfl rfl
theorem tb_3_230 : (Jvm.Cond.instanceMethod yX7_isVillage) ∈ nn_B := nn_m3 (k := 230) rfl rfl
theorem tb_3_231 : (Jvm.Cond.code yX7_isVillage prog_9_method_4_code (2 : Nat) (Option.some Jvm.ClassFile.FieldType.boolean)) ∈ nn_B := nn_m3 (k := 231) rfl rfl
theorem tb_3_232 : (Jvm.Cond.methodLink "NineNoonsModel" (57 : Nat) yX7_told) ∈ nn_B := nn_m3 (k := 232) rfl rfl
theorem tb_3_234 : (Jvm.Cond.instanceMethod yX7_told) ∈ nn_B := nn_m3 (k := 234) rfl rfl
theorem tb_3_235 : (Jvm.Cond.code yX7_told prog_9_method_5_code (3 : Nat) (Option.some Jvm.ClassFile.FieldType.int)) ∈ nn_B := nn_m3 (k := 235) rfl rfl
theorem tb_3_236 : (Jvm.Cond.methodLink "NineNoonsModel" (78 : Nat) yX7_laterBy) ∈ nn_B := nn_m3 (k := 236) rfl rfl
theorem tb_3_238 : (Jvm.Cond.instanceMethod yX7_laterBy) ∈ nn_B := nn_m3 (k := 238) rfl rfl
theorem tb_3_239 : (Jvm.Cond.code yX7_laterBy prog_9_method_12_code (5 : Nat) (Option.some Jvm.ClassFile.FieldType.int)) ∈ nn_B := nn_m3 (k := 239) rfl rfl
theorem tb_4_0 : (Jvm.Cond.methodLink "NineNoonsModel" (71 : Nat) yX7_hearsAnother) ∈ nn_B := nn_m4 (k := 0) rfl rfl
theorem tb_4_2 : (Jvm.Cond.instanceMethod yX7_hearsAnother) ∈ nn_B := nn_m4 (k := 2) rfl rfl
theorem tb_4_3 : (Jvm.Cond.code yX7_hearsAnother prog_9_method_11_code (4 : Nat) (Option.some Jvm.ClassFile.FieldType.boolean)) ∈ nn_B := nn_m4 (k := 3) rfl rfl
theorem tb_4_4 : (Jvm.Cond.methodLink "NineNoonsModel" (65 : Nat) yX7_minuteOf) ∈ nn_B := nn_m4 (k := 4) rfl rfl
theorem tb_4_6 : (Jvm.Cond.instanceMethod yX7_minuteOf) ∈ nn_B := nn_m4 (k := 6) rfl rfl
theorem tb_4_7 : (Jvm.Cond.code yX7_minuteOf prog_9_method_7_code (2 : Nat) (Option.some Jvm.ClassFile.FieldType.int)) ∈ nn_B := nn_m4 (k := 7) rfl rfl
theorem tb_4_8 : (Jvm.Cond.methodLink "NineNoonsModel" (68 : Nat) yX7_between) ∈ nn_B := nn_m4 (k := 8) rfl rfl
theorem tb_4_9 : (Jvm.Cond.static yX7_between) ∈ nn_B := nn_m4 (k := 9) rfl rfl
theorem tb_4_10 : (Jvm.Cond.code yX7_between prog_9_method_9_code (3 : Nat) (Option.some Jvm.ClassFile.FieldType.int)) ∈ nn_B := nn_m4 (k := 10) rfl rfl
theorem tb_4_11 : (Jvm.Cond.methodLink "NineNoonsModel" (61 : Nat) yX7_round) ∈ nn_B := nn_m4 (k := 11) rfl rfl
theorem tb_4_12 : (Jvm.Cond.static yX7_round) ∈ nn_B := nn_m4 (k := 12) rfl rfl
theorem tb_4_13 : (Jvm.Cond.code yX7_round prog_9_method_8_code (1 : Nat) (Option.some Jvm.ClassFile.FieldType.int)) ∈ nn_B := nn_m4 (k := 13) rfl rfl
theorem tb_4_14 : (Jvm.Cond.methodLink "NineNoonsModel" (75 : Nat) yX7_milesBetween) ∈ nn_B := nn_m4 (k := 14) rfl rfl
theorem tb_4_16 : (Jvm.Cond.instanceMethod yX7_milesBetween) ∈ nn_B := nn_m4 (k := 16) rfl rfl
theorem tb_4_17 : (Jvm.Cond.code yX7_milesBetween prog_9_method_10_code (4 : Nat) (Option.some Jvm.ClassFile.FieldType.int)) ∈ nn_B := nn_m4 (k := 17) rfl rfl
theorem tb_4_18 : (Jvm.Cond.methodLink "NineNoonsModel" (88 : Nat) yX7_alike) ∈ nn_B := nn_m4 (k := 18) rfl rfl
theorem tb_4_20 : (Jvm.Cond.instanceMethod yX7_alike) ∈ nn_B := nn_m4 (k := 20) rfl rfl
theorem tb_4_21 : (Jvm.Cond.code yX7_alike prog_9_method_16_code (4 : Nat) (Option.some Jvm.ClassFile.FieldType.int)) ∈ nn_B := nn_m4 (k := 21) rfl rfl
theorem tb_4_22 : (Jvm.Cond.methodLink "NineNoonsLaw" (26 : Nat) yX7_gap) ∈ nn_B := nn_m4 (k := 22) rfl rfl
theorem tb_4_23 : (Jvm.Cond.instanceMethod yX7_gap) ∈ nn_B := nn_m4 (k := 23) rfl rfl
theorem tb_4_24 : (Jvm.Cond.selects "NineNoonsModel" yX7_gap yX7_gap) ∈ nn_B := nn_m4 (k := 24) rfl rfl
theorem tb_4_25 : (Jvm.Cond.code yX7_gap prog_9_method_22_code (3 : Nat) (Option.some Jvm.ClassFile.FieldType.int)) ∈ nn_B := nn_m4 (k := 25) rfl rfl
theorem tb_4_26 : (Jvm.Cond.methodLink "NineNoonsModel" (110 : Nat) yX7_areTwo) ∈ nn_B := nn_m4 (k := 26) rfl rfl
theorem tb_4_28 : (Jvm.Cond.instanceMethod yX7_areTwo) ∈ nn_B := nn_m4 (k := 28) rfl rfl
theorem tb_4_29 : (Jvm.Cond.code yX7_areTwo prog_9_method_21_code (3 : Nat) (Option.some Jvm.ClassFile.FieldType.boolean)) ∈ nn_B := nn_m4 (k := 29) rfl rfl
theorem tb_4_30 : (Jvm.Cond.methodLink "NineNoonsLaw" (40 : Nat) yX7_count) ∈ nn_B := nn_m4 (k := 30) rfl rfl
theorem tb_4_31 : (Jvm.Cond.instanceMethod yX7_count) ∈ nn_B := nn_m4 (k := 31) rfl rfl
theorem tb_4_32 : (Jvm.Cond.selects "NineNoonsModel" yX7_count yX7_count) ∈ nn_B := nn_m4 (k := 32) rfl rfl
theorem tb_4_33 : (Jvm.Cond.code yX7_count prog_9_method_24_code (2 : Nat) (Option.some Jvm.ClassFile.FieldType.int)) ∈ nn_B := nn_m4 (k := 33) rfl rfl
theorem tb_4_34 : (Jvm.Cond.methodLink "NineNoonsModel" (114 : Nat) yX7_leastGap) ∈ nn_B := nn_m4 (k := 34) rfl rfl
theorem tb_4_36 : (Jvm.Cond.instanceMethod yX7_leastGap) ∈ nn_B := nn_m4 (k := 36) rfl rfl
theorem tb_4_37 : (Jvm.Cond.code yX7_leastGap prog_9_method_15_code (5 : Nat) (Option.some Jvm.ClassFile.FieldType.int)) ∈ nn_B := nn_m4 (k := 37) rfl rfl
theorem tb_4_38 : (Jvm.Cond.methodLink "NineNoonsModel" (118 : Nat) yX7_allAlike) ∈ nn_B := nn_m4 (k := 38) rfl rfl
theorem tb_4_40 : (Jvm.Cond.instanceMethod yX7_allAlike) ∈ nn_B := nn_m4 (k := 40) rfl rfl
theorem tb_4_41 : (Jvm.Cond.code yX7_allAlike prog_9_method_17_code (3 : Nat) (Option.some Jvm.ClassFile.FieldType.int)) ∈ nn_B := nn_m4 (k := 41) rfl rfl
theorem tb_4_42 : (Jvm.Cond.methodLink "NineNoonsModel" (121 : Nat) yX7_sumOf) ∈ nn_B := nn_m4 (k := 42) rfl rfl
theorem tb_4_44 : (Jvm.Cond.instanceMethod yX7_sumOf) ∈ nn_B := nn_m4 (k := 44) rfl rfl
theorem tb_4_45 : (Jvm.Cond.code yX7_sumOf prog_9_method_23_code (4 : Nat) (Option.some Jvm.ClassFile.FieldType.int)) ∈ nn_B := nn_m4 (k := 45) rfl rfl
theorem tb_4_46 : (Jvm.Cond.methodLink "NineNoonsLaw" (31 : Nat) yX7_type) ∈ nn_B := nn_m4 (k := 46) rfl rfl
theorem tb_4_47 : (Jvm.Cond.instanceMethod yX7_type) ∈ nn_B := nn_m4 (k := 47) rfl rfl
theorem tb_4_48 : (Jvm.Cond.selects "NineNoonsModel" yX7_type yX7_type) ∈ nn_B := nn_m4 (k := 48) rfl rfl
theorem tb_4_49 : (Jvm.Cond.code yX7_type prog_9_method_25_code (2 : Nat) (Option.some Jvm.ClassFile.FieldType.int)) ∈ nn_B := nn_m4 (k := 49) rfl rfl
theorem tb_4_50 : (Jvm.Cond.constantLong "NineNoonsModel" (124 : Nat) (32 : Int64)) ∈ nn_B := nn_m4 (k := 50) rfl rfl
theorem tb_4_51 : (Jvm.Cond.constantLong "NineNoonsModel" (126 : Nat) (126 : Int64)) ∈ nn_B := nn_m4 (k := 51) rfl rfl
theorem tb_4_52 : (Jvm.Cond.methodLink "NineNoonsLaw" (36 : Nat) yX7_valley) ∈ nn_B := nn_m4 (k := 52) rfl rfl
theorem tb_4_53 : (Jvm.Cond.instanceMethod yX7_valley) ∈ nn_B := nn_m4 (k := 53) rfl rfl
theorem tb_4_54 : (Jvm.Cond.selects "NineNoonsModel" yX7_valley yX7_valley) ∈ nn_B := nn_m4 (k := 54) rfl rfl
theorem tb_4_55 : (Jvm.Cond.code yX7_valley prog_9_method_30_code (3 : Nat) (Option.some Jvm.ClassFile.FieldType.int)) ∈ nn_B := nn_m4 (k := 55) rfl rfl
theorem tb_4_56 : (Jvm.Cond.methodLink "NineNoonsModel" (152 : Nat) yX7_villagesRead) ∈ nn_B := nn_m4 (k := 56) rfl rfl
theorem tb_4_58 : (Jvm.Cond.instanceMethod yX7_villagesRead) ∈ nn_B := nn_m4 (k := 58) rfl rfl
theorem tb_4_59 : (Jvm.Cond.code yX7_villagesRead prog_9_method_29_code (8 : Nat) (Option.some Jvm.ClassFile.FieldType.int)) ∈ nn_B := nn_m4 (k := 59) rfl rfl
theorem tb_4_60 : (Jvm.Cond.methodLink "NineNoonsModel" (138 : Nat) yX7_here) ∈ nn_B := nn_m4 (k := 60) rfl rfl
theorem tb_4_62 : (Jvm.Cond.instanceMethod yX7_here) ∈ nn_B := nn_m4 (k := 62) rfl rfl
theorem tb_4_63 : (Jvm.Cond.code yX7_here prog_9_method_26_code (1 : Nat) (Option.some Jvm.ClassFile.FieldType.int)) ∈ nn_B := nn_m4 (k := 63) rfl rfl
theorem tb_4_64 : (Jvm.Cond.methodLink "NineNoonsModel" (145 : Nat) yX7_must) ∈ nn_B := nn_m4 (k := 64) rfl rfl
theorem tb_4_66 : (Jvm.Cond.instanceMethod yX7_must) ∈ nn_B := nn_m4 (k := 66) rfl rfl
theorem tb_4_67 : (Jvm.Cond.code yX7_must prog_9_method_27_code (2 : Nat) (Option.none : Option Jvm.ClassFile.FieldType)) ∈ nn_B := nn_m4 (k := 67) rfl rfl
theorem tb_4_68 : (Jvm.Cond.methodLink "NineNoonsModel" (149 : Nat) yX7_number) ∈ nn_B := nn_m4 (k := 68) rfl rfl
theorem tb_4_70 : (Jvm.Cond.instanceMethod yX7_number) ∈ nn_B := nn_m4 (k := 70) rfl rfl
theorem tb_4_71 : (Jvm.Cond.code yX7_number prog_9_method_28_code (5 : Nat) (Option.some Jvm.ClassFile.FieldType.int)) ∈ nn_B := nn_m4 (k := 71) rfl rfl
theorem tb_4_72 : (Jvm.Cond.constantLong "NineNoonsModel" (141 : Nat) (48 : Int64)) ∈ nn_B := nn_m4 (k := 72) rfl rfl
theorem tb_4_73 : (Jvm.Cond.constantLong "NineNoonsModel" (143 : Nat) (57 : Int64)) ∈ nn_B := nn_m4 (k := 73) rfl rfl
theorem tb_4_74 : (Jvm.Cond.methodLink "NineNoonsLaw" (44 : Nat) yX7_days) ∈ nn_B := nn_m4 (k := 74) rfl rfl
theorem tb_4_75 : (Jvm.Cond.instanceMethod yX7_days) ∈ nn_B := nn_m4 (k := 75) rfl rfl
theorem tb_4_76 : (Jvm.Cond.selects "NineNoonsModel" yX7_days yX7_days) ∈ nn_B := nn_m4 (k := 76) rfl rfl
theorem tb_4_77 : (Jvm.Cond.code yX7_days prog_9_method_32_code (3 : Nat) (Option.some Jvm.ClassFile.FieldType.int)) ∈ nn_B := nn_m4 (k := 77) rfl rfl
theorem tb_4_78 : (Jvm.Cond.constantLong "NineNoonsModel" (155 : Nat) (40 : Int64)) ∈ nn_B := nn_m4 (k := 78) rfl rfl
theorem tb_4_79 : (Jvm.Cond.methodLink "NineNoonsModel" (157 : Nat) yX7_notes) ∈ nn_B := nn_m4 (k := 79) rfl rfl
theorem tb_4_81 : (Jvm.Cond.instanceMethod yX7_notes) ∈ nn_B := nn_m4 (k := 81) rfl rfl
theorem tb_4_82 : (Jvm.Cond.code yX7_notes prog_9_method_31_code (2 : Nat) (Option.none : Option Jvm.ClassFile.FieldType)) ∈ nn_B := nn_m4 (k := 82) rfl rfl
theorem tb_4_83 : (Jvm.Cond.methodLink "NineNoonsModel" (85 : Nat) yX7_goesBy) ∈ nn_B := nn_m4 (k := 83) rfl rfl
theorem tb_4_85 : (Jvm.Cond.instanceMethod yX7_goesBy) ∈ nn_B := nn_m4 (k := 85) rfl rfl
theorem tb_4_86 : (Jvm.Cond.code yX7_goesBy prog_9_method_13_code (2 : Nat) (Option.none : Option Jvm.ClassFile.FieldType)) ∈ nn_B := nn_m4 (k := 86) rfl rfl
theorem tb_4_87 : (Jvm.Cond.methodLink "NineNoonsLaw" (48 : Nat) yX7_set) ∈ nn_B := nn_m4 (k := 87) rfl rfl
theorem tb_4_88 : (Jvm.Cond.instanceMethod yX7_set) ∈ nn_B := nn_m4 (k := 88) rfl rfl
theorem tb_4_89 : (Jvm.Cond.selects "NineNoonsModel" yX7_set yX7_set) ∈ nn_B := nn_m4 (k := 89) rfl rfl
theorem tb_4_90 : (Jvm.Cond.code yX7_set prog_9_method_34_code (3 : Nat) (Option.some Jvm.ClassFile.FieldType.int)) ∈ nn_B := nn_m4 (k := 90) rfl rfl
theorem tb_4_91 : (Jvm.Cond.methodLink "NineNoonsModel" (160 : Nat) yX7_becomes) ∈ nn_B := nn_m4 (k := 91) rfl rfl
theorem tb_4_93 : (Jvm.Cond.instanceMethod yX7_becomes) ∈ nn_B := nn_m4 (k := 93) rfl rfl
theorem tb_4_94 : (Jvm.Cond.code yX7_becomes prog_9_method_33_code (7 : Nat) (Option.some Jvm.ClassFile.FieldType.int)) ∈ nn_B := nn_m4 (k := 94) rfl rfl
theorem tb_4_95 : (Jvm.Cond.methodLink "NineNoonsLaw" (52 : Nat) yX7_move) ∈ nn_B := nn_m4 (k := 95) rfl rfl
theorem tb_4_96 : (Jvm.Cond.instanceMethod yX7_move) ∈ nn_B := nn_m4 (k := 96) rfl rfl
theorem tb_4_97 : (Jvm.Cond.selects "NineNoonsModel" yX7_move yX7_move) ∈ nn_B := nn_m4 (k := 97) rfl rfl
theorem tb_4_98 : (Jvm.Cond.code yX7_move prog_9_method_35_code (3 : Nat) (Option.some Jvm.ClassFile.FieldType.int)) ∈ nn_B := nn_m4 (k := 98) rfl rfl
theorem tb_4_99 : (Jvm.Cond.methodLink "NineNoonsLaw" (56 : Nat) yX7_tune) ∈ nn_B := nn_m4 (k := 99) rfl rfl
theorem tb_4_100 : (Jvm.Cond.instanceMethod yX7_tune) ∈ nn_B := nn_m4 (k := 100) rfl rfl
theorem tb_4_101 : (Jvm.Cond.selects "NineNoonsModel" yX7_tune yX7_tune) ∈ nn_B := nn_m4 (k := 101) rfl rfl
theorem tb_4_102 : (Jvm.Cond.code yX7_tune prog_9_method_36_code (4 : Nat) (Option.some Jvm.ClassFile.FieldType.int)) ∈ nn_B := nn_m4 (k := 102) rfl rfl
theorem tb_4_103 : (Jvm.Cond.constantLong "NineNoonsModel" (164 : Nat) (18 : Int64)) ∈ nn_B := nn_m4 (k := 103) rfl rfl
theorem tb_4_104 : (Jvm.Cond.methodLink "NineNoonsLaw" (60 : Nat) yX7_storm) ∈ nn_B := nn_m4 (k := 104) rfl rfl
theorem tb_4_105 : (Jvm.Cond.instanceMethod yX7_storm) ∈ nn_B := nn_m4 (k := 105) rfl rfl
theorem tb_4_106 : (Jvm.Cond.selects "NineNoonsModel" yX7_storm yX7_storm) ∈ nn_B := nn_m4 (k := 106) rfl rfl
theorem tb_4_107 : (Jvm.Cond.code yX7_storm prog_9_method_37_code (4 : Nat) (Option.some Jvm.ClassFile.FieldType.int)) ∈ nn_B := nn_m4 (k := 107) rfl rfl
theorem tb_4_108 : (Jvm.Cond.constantLong "NineNoonsModel" (166 : Nat) (1103515245 : Int64)) ∈ nn_B := nn_m4 (k := 108) rfl rfl
theorem tb_4_109 : (Jvm.Cond.constantLong "NineNoonsModel" (168 : Nat) (12345 : Int64)) ∈ nn_B := nn_m4 (k := 109) rfl rfl
theorem tb_4_110 : (Jvm.Cond.constantLong "NineNoonsModel" (170 : Nat) (2147483647 : Int64)) ∈ nn_B := nn_m4 (k := 110) rfl rfl
theorem tb_4_111 : (Jvm.Cond.constant "NineNoonsModel" (172 : Nat) (65536 : Int32)) ∈ nn_B := nn_m4 (k := 111) rfl rfl
theorem tb_4_112 : (Jvm.Cond.methodLink "NineNoonsLaw" (64 : Nat) yX7_undo) ∈ nn_B := nn_m4 (k := 112) rfl rfl
theorem tb_4_113 : (Jvm.Cond.instanceMethod yX7_undo) ∈ nn_B := nn_m4 (k := 113) rfl rfl
theorem tb_4_114 : (Jvm.Cond.selects "NineNoonsModel" yX7_undo yX7_undo) ∈ nn_B := nn_m4 (k := 114) rfl rfl
theorem tb_4_115 : (Jvm.Cond.code yX7_undo prog_9_method_38_code (2 : Nat) (Option.some Jvm.ClassFile.FieldType.int)) ∈ nn_B := nn_m4 (k := 115) rfl rfl
theorem tb_4_116 : (Jvm.Cond.methodLink "NineNoonsLaw" (68 : Nat) yX7_seed) ∈ nn_B := nn_m4 (k := 116) rfl rfl
theorem tb_4_117 : (Jvm.Cond.instanceMethod yX7_seed) ∈ nn_B := nn_m4 (k := 117) rfl rfl
theorem tb_4_118 : (Jvm.Cond.selects "NineNoonsModel" yX7_seed yX7_seed) ∈ nn_B := nn_m4 (k := 118) rfl rfl
theorem tb_4_119 : (Jvm.Cond.code yX7_seed prog_9_method_39_code (3 : Nat) (Option.some Jvm.ClassFile.FieldType.int)) ∈ nn_B := nn_m4 (k := 119) rfl rfl
theorem tb_4_120 : (Jvm.Cond.methodLink "NineNoonsLaw" (72 : Nat) yX7_ahead) ∈ nn_B := nn_m4 (k := 120) rfl rfl
theorem tb_4_121 : (Jvm.Cond.instanceMethod yX7_ahead) ∈ nn_B := nn_m4 (k := 121) rfl rfl
theorem tb_4_122 : (Jvm.Cond.selects "NineNoonsModel" yX7_ahead yX7_ahead) ∈ nn_B := nn_m4 (k := 122) rfl rfl
theorem tb_4_123 : (Jvm.Cond.code yX7_ahead prog_9_method_42_code (4 : Nat) (Option.some Jvm.ClassFile.FieldType.int)) ∈ nn_B := nn_m4 (k := 123) rfl rfl
theorem tb_4_124 : (Jvm.Cond.constantLong "NineNoonsModel" (173 : Nat) (60 : Int64)) ∈ nn_B := nn_m4 (k := 124) rfl rfl
theorem tb_4_125 : (Jvm.Cond.methodLink "NineNoonsModel" (175 : Nat) yX7_asides) ∈ nn_B := nn_m4 (k := 125) rfl rfl
theorem tb_4_127 : (Jvm.Cond.instanceMethod yX7_asides) ∈ nn_B := nn_m4 (k := 127) rfl rfl
theorem tb_4_128 : (Jvm.Cond.code yX7_asides prog_9_method_40_code (2 : Nat) (Option.none : Option Jvm.ClassFile.FieldType)) ∈ nn_B := nn_m4 (k := 128) rfl rfl
theorem tb_4_129 : (Jvm.Cond.methodLink "NineNoonsModel" (178 : Nat) yX7_goesOn) ∈ nn_B := nn_m4 (k := 129) rfl rfl
theorem tb_4_131 : (Jvm.Cond.instanceMethod yX7_goesOn) ∈ nn_B := nn_m4 (k := 131) rfl rfl
theorem tb_4_132 : (Jvm.Cond.code yX7_goesOn prog_9_method_14_code (3 : Nat) (Option.none : Option Jvm.ClassFile.FieldType)) ∈ nn_B := nn_m4 (k := 132) rfl rfl
theorem tb_4_133 : (Jvm.Cond.methodLink "NineNoonsModel" (182 : Nat) yX7_backs) ∈ nn_B := nn_m4 (k := 133) rfl rfl
theorem tb_4_135 : (Jvm.Cond.instanceMethod yX7_backs) ∈ nn_B := nn_m4 (k := 135) rfl rfl
theorem tb_4_136 : (Jvm.Cond.code yX7_backs prog_9_method_41_code (2 : Nat) (Option.none : Option Jvm.ClassFile.FieldType)) ∈ nn_B := nn_m4 (k := 136) rfl rfl
theorem tb_4_137 : (Jvm.Cond.methodLink "NineNoonsLaw" (76 : Nat) yX7_near) ∈ nn_B := nn_m4 (k := 137) rfl rfl
theorem tb_4_138 : (Jvm.Cond.instanceMethod yX7_near) ∈ nn_B := nn_m4 (k := 138) rfl rfl
theorem tb_4_139 : (Jvm.Cond.selects "NineNoonsModel" yX7_near yX7_near) ∈ nn_B := nn_m4 (k := 139) rfl rfl
theorem tb_4_140 : (Jvm.Cond.code yX7_near prog_9_method_43_code (3 : Nat) (Option.some Jvm.ClassFile.FieldType.int)) ∈ nn_B := nn_m4 (k := 140) rfl rfl
theorem tb_4_141 : (Jvm.Cond.methodLink "NineNoonsLaw" (80 : Nat) yX7_meet) ∈ nn_B := nn_m4 (k := 141) rfl rfl
theorem tb_4_142 : (Jvm.Cond.instanceMethod yX7_meet) ∈ nn_B := nn_m4 (k := 142) rfl rfl
theorem tb_4_143 : (Jvm.Cond.selects "NineNoonsModel" yX7_meet yX7_meet) ∈ nn_B := nn_m4 (k := 143) rfl rfl
theorem tb_4_144 : (Jvm.Cond.code yX7_meet prog_9_method_44_code (4 : Nat) (Option.some Jvm.ClassFile.FieldType.int)) ∈ nn_B := nn_m4 (k := 144) rfl rfl
theorem tb_4_145 : (Jvm.Cond.methodLink "NineNoonsLaw" (84 : Nat) yX7_together) ∈ nn_B := nn_m4 (k := 145) rfl rfl
theorem tb_4_146 : (Jvm.Cond.instanceMethod yX7_together) ∈ nn_B := nn_m4 (k := 146) rfl rfl
theorem tb_4_147 : (Jvm.Cond.selects "NineNoonsModel" yX7_together yX7_together) ∈ nn_B := nn_m4 (k := 147) rfl rfl
theorem tb_4_148 : (Jvm.Cond.code yX7_together prog_9_method_46_code (3 : Nat) (Option.some Jvm.ClassFile.FieldType.int)) ∈ nn_B := nn_m4 (k := 148) rfl rfl
theorem tb_4_149 : (Jvm.Cond.methodLink "NineNoonsModel" (188 : Nat) yX7_whenTogether) ∈ nn_B := nn_m4 (k := 149) rfl rfl
theorem tb_4_151 : (Jvm.Cond.instanceMethod yX7_whenTogether) ∈ nn_B := nn_m4 (k := 151) rfl rfl
theorem tb_4_152 : (Jvm.Cond.code yX7_whenTogether prog_9_method_45_code (2 : Nat) (Option.some Jvm.ClassFile.FieldType.int)) ∈ nn_B := nn_m4 (k := 152) rfl rfl
theorem tb_4_153 : (Jvm.Cond.methodLink "NineNoonsLaw" (88 : Nat) yX7_fix) ∈ nn_B := nn_m4 (k := 153) rfl rfl
theorem tb_4_154 : (Jvm.Cond.instanceMethod yX7_fix) ∈ nn_B := nn_m4 (k := 154) rfl rfl
theorem tb_4_155 : (Jvm.Cond.selects "NineNoonsModel" yX7_fix yX7_fix) ∈ nn_B := nn_m4 (k := 155) rfl rfl
theorem tb_4_156 : (Jvm.Cond.code yX7_fix prog_9_method_48_code (8 : Nat) (Option.some Jvm.ClassFile.FieldType.int)) ∈ nn_B := nn_m4 (k := 156) rfl rfl
theorem tb_4_157 : (Jvm.Cond.constantLong "NineNoonsModel" (191 : Nat) (12 : Int64)) ∈ nn_B := nn_m4 (k := 157) rfl rfl
theorem tb_4_158 : (Jvm.Cond.constantLong "NineNoonsModel" (193 : Nat) (-1 : Int64)) ∈ nn_B := nn_m4 (k := 158) rfl rfl
theorem tb_4_159 : (Jvm.Cond.methodLink "NineNoonsModel" (195 : Nat) yX7_setsIn) ∈ nn_B := nn_m4 (k := 159) rfl rfl
theorem tb_4_161 : (Jvm.Cond.instanceMethod yX7_setsIn) ∈ nn_B := nn_m4 (k := 161) rfl rfl
theorem tb_4_162 : (Jvm.Cond.code yX7_setsIn prog_9_method_47_code (7 : Nat) (Option.some Jvm.ClassFile.FieldType.int)) ∈ nn_B := nn_m4 (k := 162) rfl rfl
theorem tb_4_163 : (Jvm.Cond.methodLink "NineNoonsLaw" (93 : Nat) yX7_free) ∈ nn_B := nn_m4 (k := 163) rfl rfl
theorem tb_4_164 : (Jvm.Cond.instanceMethod yX7_free) ∈ nn_B := nn_m4 (k := 164) rfl rfl
theorem tb_4_165 : (Jvm.Cond.selects "NineNoonsModel" yX7_free yX7_free) ∈ nn_B := nn_m4 (k := 165) rfl rfl
theorem tb_4_166 : (Jvm.Cond.code yX7_free prog_9_method_49_code (12 : Nat) (Option.some Jvm.ClassFile.FieldType.long)) ∈ nn_B := nn_m4 (k := 166) rfl rfl
theorem tb_4_167 : (Jvm.Cond.constantLong "NineNoonsModel" (198 : Nat) (30 : Int64)) ∈ nn_B := nn_m4 (k := 167) rfl rfl
theorem tb_4_168 : (Jvm.Cond.constantLong "NineNoonsModel" (200 : Nat) (2 : Int64)) ∈ nn_B := nn_m4 (k := 168) rfl rfl
theorem tb_4_169 : (Jvm.Cond.constantLong "NineNoonsModel" (202 : Nat) (-4 : Int64)) ∈ nn_B := nn_m4 (k := 169) rfl rfl
theorem tb_4_170 : (Jvm.Cond.methodLink "NineNoonsLaw" (98 : Nat) yX7_hear) ∈ nn_B := nn_m4 (k := 170) rfl rfl
theorem tb_4_171 : (Jvm.Cond.instanceMethod yX7_hear) ∈ nn_B := nn_m4 (k := 171) rfl rfl
theorem tb_4_172 : (Jvm.Cond.selects "NineNoonsModel" yX7_hear yX7_hear) ∈ nn_B := nn_m4 (k := 172) rfl rfl
theorem tb_4_173 : (Jvm.Cond.code yX7_hear prog_9_method_52_code (10 : Nat) (Option.some Jvm.ClassFile.FieldType.int)) ∈ nn_B := nn_m4 (k := 173) rfl rfl
theorem tb_4_174 : (Jvm.Cond.methodLink "NineNoonsModel" (204 : Nat) yX7_isOrder) ∈ nn_B := nn_m4 (k := 174) rfl rfl
theorem tb_4_176 : (Jvm.Cond.instanceMethod yX7_isOrder) ∈ nn_B := nn_m4 (k := 176) rfl rfl
theorem tb_4_177 : (Jvm.Cond.code yX7_isOrder prog_9_method_50_code (5 : Nat) (Option.some Jvm.ClassFile.FieldType.boolean)) ∈ nn_B := nn_m4 (k := 177) rfl rfl
theorem tb_4_178 : (Jvm.Cond.methodLink "NineNoonsModel" (207 : Nat) yX7_hears) ∈ nn_B := nn_m4 (k := 178) rfl rfl
theorem tb_4_180 : (Jvm.Cond.instanceMethod yX7_hears) ∈ nn_B := nn_m4 (k := 180) rfl rfl
theorem tb_4_181 : (Jvm.Cond.code yX7_hears prog_9_method_51_code (8 : Nat) (Option.some Jvm.ClassFile.FieldType.int)) ∈ nn_B := nn_m4 (k := 181) rfl rfl
theorem tb_4_182 : (Jvm.Cond.methodLink "NineNoonsLaw" (102 : Nat) yX7_again) ∈ nn_B := nn_m4 (k := 182) rfl rfl
theorem tb_4_183 : (Jvm.Cond.instanceMethod yX7_again) ∈ nn_B := nn_m4 (k := 183) rfl rfl
theorem tb_4_184 : (Jvm.Cond.selects "NineNoonsModel" yX7_again yX7_again) ∈ nn_B := nn_m4 (k := 184) rfl rfl
theorem tb_4_185 : (Jvm.Cond.code yX7_again prog_9_method_54_code (3 : Nat) (Option.some Jvm.ClassFile.FieldType.int)) ∈ nn_B := nn_m4 (k := 185) rfl rfl
theorem tb_4_186 : (Jvm.Cond.methodLink "NineNoonsModel" (211 : Nat) yX7_isAsAside) ∈ nn_B := nn_m4 (k := 186) rfl rfl
theorem tb_4_188 : (Jvm.Cond.instanceMethod yX7_isAsAside) ∈ nn_B := nn_m4 (k := 188) rfl rfl
theorem tb_4_189 : (Jvm.Cond.code yX7_isAsAside prog_9_method_53_code (3 : Nat) (Option.some Jvm.ClassFile.FieldType.boolean)) ∈ nn_B := nn_m4 (k := 189) rfl rfl
theorem tb_4_190 : (Jvm.Cond.methodLink "NineNoonsLaw" (106 : Nat) yX7_worst) ∈ nn_B := nn_m4 (k := 190) rfl rfl
theorem tb_4_191 : (Jvm.Cond.instanceMethod yX7_worst) ∈ nn_B := nn_m4 (k := 191) rfl rfl
theorem tb_4_192 : (Jvm.Cond.selects "NineNoonsModel" yX7_worst yX7_worst) ∈ nn_B := nn_m4 (k := 192) rfl rfl
theorem tb_4_193 : (Jvm.Cond.code yX7_worst prog_9_method_55_code (6 : Nat) (Option.some Jvm.ClassFile.FieldType.int)) ∈ nn_B := nn_m4 (k := 193) rfl rfl
theorem tb_4_194 : (Jvm.Cond.methodLink "NineNoonsLaw" (110 : Nat) yX7_fog) ∈ nn_B := nn_m4 (k := 194) rfl rfl
theorem tb_4_195 : (Jvm.Cond.instanceMethod yX7_fog) ∈ nn_B := nn_m4 (k := 195) rfl rfl
theorem tb_4_196 : (Jvm.Cond.selects "NineNoonsModel" yX7_fog yX7_fog) ∈ nn_B := nn_m4 (k := 196) rfl rfl
theorem tb_4_197 : (Jvm.Cond.code yX7_fog prog_9_method_56_code (9 : Nat) (Option.some Jvm.ClassFile.FieldType.int)) ∈ nn_B := nn_m4 (k := 197) rfl rfl
theorem tb_4_198 : (Jvm.Cond.constantLong "NineNoonsModel" (215 : Nat) (10 : Int64)) ∈ nn_B := nn_m4 (k := 198) rfl rfl
theorem tb_4_199 : (Jvm.Cond.methodLink "NineNoonsLaw" (114 : Nat) yX7_image) ∈ nn_B := nn_m4 (k := 199) rfl rfl
theorem tb_4_200 : (Jvm.Cond.instanceMethod yX7_image) ∈ nn_B := nn_m4 (k := 200) rfl rfl
theorem tb_4_201 : (Jvm.Cond.selects "NineNoonsModel" yX7_image yX7_image) ∈ nn_B := nn_m4 (k := 201) rfl rfl
theorem tb_4_202 : (Jvm.Cond.code yX7_image prog_9_method_57_code (2 : Nat) (Option.some Jvm.ClassFile.FieldType.int)) ∈ nn_B := nn_m4 (k := 202) rfl rfl
theorem tb_4_203 : (Jvm.Cond.methodLink "NineNoonsLaw" (118 : Nat) yX7_restore) ∈ nn_B := nn_m4 (k := 203) rfl rfl
theorem tb_4_204 : (Jvm.Cond.instanceMethod yX7_restore) ∈ nn_B := nn_m4 (k := 204) rfl rfl
theorem tb_4_205 : (Jvm.Cond.selects "NineNoonsModel" yX7_restore yX7_restore) ∈ nn_B := nn_m4 (k := 205) rfl rfl
theorem tb_4_206 : (Jvm.Cond.code yX7_restore prog_9_method_58_code (2 : Nat) (Option.some Jvm.ClassFile.FieldType.int)) ∈ nn_B := nn_m4 (k := 206) rfl rfl
theorem tb_4_207 : (Jvm.Cond.methodLink "NineNoonsLaw" (123 : Nat) yX7_heard) ∈ nn_B := nn_m4 (k := 207) rfl rfl
theorem tb_4_208 : (Jvm.Cond.instanceMethod yX7_heard) ∈ nn_B := nn_m4 (k := 208) rfl rfl
theorem tb_4_209 : (Jvm.Cond.selects "NineNoonsModel" yX7_heard yX7_heard) ∈ nn_B := nn_m4 (k := 209) rfl rfl
theorem tb_4_210 : (Jvm.Cond.code yX7_heard prog_9_method_63_code (10 : Nat) (Option.some Jvm.ClassFile.FieldType.int)) ∈ nn_B := nn_m4 (k := 210) rfl rfl
theorem tb_4_211 : (Jvm.Cond.methodLink "NineNoonsModel" (225 : Nat) yX7_isSheet) ∈ nn_B := nn_m4 (k := 211) rfl rfl
theorem tb_4_212 : (Jvm.Cond.static yX7_isSheet) ∈ nn_B := nn_m4 (k := 212) rfl rfl
theorem tb_4_213 : (Jvm.Cond.code yX7_isSheet prog_9_method_59_code (1 : Nat) (Option.some Jvm.ClassFile.FieldType.boolean)) ∈ nn_B := nn_m4 (k := 213) rfl rfl
theorem tb_4_214 : (Jvm.Cond.constantLong "NineNoonsModel" (223 : Nat) (3 : Int64)) ∈ nn_B := nn_m4 (k := 214) rfl rfl
theorem tb_4_215 : (Jvm.Cond.methodLink "NineNoonsModel" (228 : Nat) yX7_isLane) ∈ nn_B := nn_m4 (k := 215) rfl rfl
theorem tb_4_216 : (Jvm.Cond.static yX7_isLane) ∈ nn_B := nn_m4 (k := 216) rfl rfl
theorem tb_4_217 : (Jvm.Cond.code yX7_isLane prog_9_method_60_code (1 : Nat) (Option.some Jvm.ClassFile.FieldType.boolean)) ∈ nn_B := nn_m4 (k := 217) rfl rfl
theorem tb_4_218 : (Jvm.Cond.constantLong "NineNoonsModel" (231 : Nat) (8 : Int64)) ∈ nn_B := nn_m4 (k := 218) rfl rfl
theorem tb_4_219 : (Jvm.Cond.methodLink "NineNoonsModel" (233 : Nat) yX7_why) ∈ nn_B := nn_m4 (k := 219) rfl rfl
theorem tb_4_221 : (Jvm.Cond.instanceMethod yX7_why) ∈ nn_B := nn_m4 (k := 221) rfl rfl
theorem tb_4_222 : (Jvm.Cond.code yX7_why prog_9_method_61_code (5 : Nat) (Option.some Jvm.ClassFile.FieldType.int)) ∈ nn_B := nn_m4 (k := 222) rfl rfl
theorem tb_4_223 : (Jvm.Cond.methodLink "NineNoonsModel" (237 : Nat) yX7_isSo) ∈ nn_B := nn_m4 (k := 223) rfl rfl
theorem tb_4_225 : (Jvm.Cond.instanceMethod yX7_isSo) ∈ nn_B := nn_m4 (k := 225) rfl rfl
theorem tb_4_226 : (Jvm.Cond.code yX7_isSo prog_9_method_62_code (6 : Nat) (Option.some Jvm.ClassFile.FieldType.boolean)) ∈ nn_B := nn_m4 (k := 226) rfl rfl
theorem tb_4_227 : (Jvm.Cond.methodLink "NineNoonsLaw" (128 : Nat) yX7_film) ∈ nn_B := nn_m4 (k := 227) rfl rfl
theorem tb_4_228 : (Jvm.Cond.instanceMethod yX7_film) ∈ nn_B := nn_m4 (k := 228) rfl rfl
theorem tb_4_229 : (Jvm.Cond.selects "NineNoonsModel" yX7_film yX7_film) ∈ nn_B := nn_m4 (k := 229) rfl rfl
theorem tb_4_230 : (Jvm.Cond.code yX7_film prog_9_method_64_code (8 : Nat) (Option.some Jvm.ClassFile.FieldType.int)) ∈ nn_B := nn_m4 (k := 230) rfl rfl
theorem tb_4_231 : (Jvm.Cond.constantLong "NineNoonsModel" (241 : Nat) (24 : Int64)) ∈ nn_B := nn_m4 (k := 231) rfl rfl
theorem tb_4_232 : (Jvm.Cond.methodLink "NineNoonsLaw" (132 : Nat) yX7_sheet) ∈ nn_B := nn_m4 (k := 232) rfl rfl
theorem tb_4_233 : (Jvm.Cond.instanceMethod yX7_sheet) ∈ nn_B := nn_m4 (k := 233) rfl rfl
theorem tb_4_234 : (Jvm.Cond.selects "NineNoonsModel" yX7_sheet yX7_sheet) ∈ nn_B := nn_m4 (k := 234) rfl rfl
theorem tb_4_235 : (Jvm.Cond.code yX7_sheet prog_9_method_65_code (5 : Nat) (Option.some Jvm.ClassFile.FieldType.int)) ∈ nn_B := nn_m4 (k := 235) rfl rfl
theorem tb_4_236 : (Jvm.Cond.methodLink "NineNoonsLaw" (136 : Nat) yX7_drop) ∈ nn_B := nn_m4 (k := 236) rfl rfl
theorem tb_4_237 : (Jvm.Cond.instanceMethod yX7_drop) ∈ nn_B := nn_m4 (k := 237) rfl rfl
theorem tb_4_238 : (Jvm.Cond.selects "NineNoonsModel" yX7_drop yX7_drop) ∈ nn_B := nn_m4 (k := 238) rfl rfl
theorem tb_4_239 : (Jvm.Cond.code yX7_drop prog_9_method_66_code (2 : Nat) (Option.some Jvm.ClassFile.FieldType.int)) ∈ nn_B := nn_m4 (k := 239) rfl rfl
theorem tb_5_0 : (Jvm.Cond.methodLink "NineNoonsLaw" (143 : Nat) yX7_item) ∈ nn_B := nn_m5 (k := 0) rfl rfl
theorem tb_5_1 : (Jvm.Cond.instanceMethod yX7_item) ∈ nn_B := nn_m5 (k := 1) rfl rfl
theorem tb_5_2 : (Jvm.Cond.selects "NineNoonsModel" yX7_item yX7_item) ∈ nn_B := nn_m5 (k := 2) rfl rfl
theorem tb_5_3 : (Jvm.Cond.code yX7_item prog_9_method_67_code (7 : Nat) (Option.some Jvm.ClassFile.FieldType.int)) ∈ nn_B := nn_m5 (k := 3) rfl rfl
theorem tb_5_4 : (Jvm.Cond.methodLink "NineNoonsLaw" (147 : Nat) yX7_copy) ∈ nn_B := nn_m5 (k := 4) rfl rfl
theorem tb_5_5 : (Jvm.Cond.instanceMethod yX7_copy) ∈ nn_B := nn_m5 (k := 5) rfl rfl
theorem tb_5_6 : (Jvm.Cond.selects "NineNoonsModel" yX7_copy yX7_copy) ∈ nn_B := nn_m5 (k := 6) rfl rfl
theorem tb_5_7 : (Jvm.Cond.code yX7_copy prog_9_method_68_code (8 : Nat) (Option.some Jvm.ClassFile.FieldType.int)) ∈ nn_B := nn_m5 (k := 7) rfl rfl
theorem tb_5_8 : (Jvm.Cond.constantLong "NineNoonsLaw" (137 : Nat) (4294967295 : Int64)) ∈ nn_B := nn_m5 (k := 8) rfl rfl
theorem ts_1_0 : Cond.selects "NineNoons$Tape" yX4_readVillage yX4_readVillage ∈ nn_B := nn_s1 (k := 0) rfl
theorem ts_1_1 : Cond.selects "NineNoons$Tape" yX4_readKind yX4_readKind ∈ nn_B := nn_s1 (k := 1) rfl
theorem ts_1_2 : Cond.selects "NineNoons$Tape" yX4_takes yX4_takes ∈ nn_B := nn_s1 (k := 2) rfl
theorem ts_1_3 : Cond.selects "NineNoons$Tape" yX4_comingLetter yX4_comingLetter ∈ nn_B := nn_s1 (k := 3) rfl
theorem ts_1_4 : Cond.selects "NineNoons$Tape" yX4_faultAt yX4_faultAt ∈ nn_B := nn_s1 (k := 4) rfl
theorem ts_1_5 : Cond.selects "NineNoons$Tape" yX4_readNumber yX4_readNumber ∈ nn_B := nn_s1 (k := 5) rfl
theorem ts_1_6 : Cond.selects "NineNoons$Tape" yX4_takeDigit yX4_takeDigit ∈ nn_B := nn_s1 (k := 6) rfl
theorem ts_1_7 : Cond.selects "NineNoons$Tape" yX4_readDrift yX4_readDrift ∈ nn_B := nn_s1 (k := 7) rfl
theorem ts_1_8 : Cond.selects "NineNoons" yX6_passDays yX6_passDays ∈ nn_B := nn_s1 (k := 8) rfl
theorem ts_1_9 : Cond.selects "NineNoons" yX6_foretell yX6_foretell ∈ nn_B := nn_s1 (k := 9) rfl
theorem ts_1_10 : Cond.selects "NineNoons$Setter" yX2_settle yX2_settle ∈ nn_B := nn_s1 (k := 10) rfl
theorem ts_1_11 : Cond.selects "NineNoons$Setter" yX2_settleBy yX2_settleBy ∈ nn_B := nn_s1 (k := 11) rfl
theorem ts_1_12 : Cond.selects "NineNoons$Setter" yX2_isClearOfEarlier yX2_isClearOfEarlier ∈ nn_B := nn_s1 (k := 12) rfl
theorem ts_1_13 : Cond.selects "NineNoons$Setter" yX2_minuteThen yX2_minuteThen ∈ nn_B := nn_s1 (k := 13) rfl
theorem ts_1_14 : Cond.selects "NineNoons" yX6_freeMinutes yX6_freeMinutes ∈ nn_B := nn_s1 (k := 14) rfl
theorem ts_1_15 : Cond.selects "NineNoons$Carrier" yX0_hearRest yX0_hearRest ∈ nn_B := nn_s1 (k := 15) rfl
theorem ts_2_0 : Cond.selects "NineNoons$Carrier" yX0_hearFirst yX0_hearFirst ∈ nn_B := nn_s2 (k := 0) rfl
theorem ts_2_1 : Cond.selects "NineNoons" yX6_togetherWithoutDriftOf yX6_togetherWithoutDriftOf ∈ nn_B := nn_s2 (k := 1) rfl
theorem ts_2_2 : Cond.selects "NineNoons" yX6_fogWaysApart yX6_fogWaysApart ∈ nn_B := nn_s2 (k := 2) rfl
theorem ts_2_3 : Cond.selects "NineNoons" yX6_kindsHeard yX6_kindsHeard ∈ nn_B := nn_s2 (k := 3) rfl
theorem ts_2_4 : Cond.selects "NineNoons" yX6_trialRingsAs yX6_trialRingsAs ∈ nn_B := nn_s2 (k := 4) rfl
theorem ts_2_5 : Cond.selects "NineNoons" yX6_driftsHeard yX6_driftsHeard ∈ nn_B := nn_s2 (k := 5) rfl
theorem ts_2_6 : Cond.selects "NineNoonsModel" yX7_villageComes yX7_villageComes ∈ nn_B := nn_s2 (k := 6) rfl
theorem ts_2_7 : Cond.selects "NineNoonsModel" yX7_tells yX7_tells ∈ nn_B := nn_s2 (k := 7) rfl
theorem ts_2_8 : Cond.selects "NineNoonsModel" yX7_isVillage yX7_isVillage ∈ nn_B := nn_s2 (k := 8) rfl
theorem ts_2_9 : Cond.selects "NineNoonsModel" yX7_told yX7_told ∈ nn_B := nn_s2 (k := 9) rfl
theorem ts_2_10 : Cond.selects "NineNoonsModel" yX7_laterBy yX7_laterBy ∈ nn_B := nn_s2 (k := 10) rfl
theorem ts_2_11 : Cond.selects "NineNoonsModel" yX7_hearsAnother yX7_hearsAnother ∈ nn_B := nn_s2 (k := 11) rfl
theorem ts_2_12 : Cond.selects "NineNoonsModel" yX7_minuteOf yX7_minuteOf ∈ nn_B := nn_s2 (k := 12) rfl
theorem ts_2_13 : Cond.selects "NineNoonsModel" yX7_milesBetween yX7_milesBetween ∈ nn_B := nn_s2 (k := 13) rfl
theorem ts_2_14 : Cond.selects "NineNoonsModel" yX7_alike yX7_alike ∈ nn_B := nn_s2 (k := 14) rfl
theorem ts_2_15 : Cond.selects "NineNoonsModel" yX7_areTwo yX7_areTwo ∈ nn_B := nn_s2 (k := 15) rfl
theorem ts_3_0 : Cond.selects "NineNoonsModel" yX7_leastGap yX7_leastGap ∈ nn_B := nn_s3 (k := 0) rfl
theorem ts_3_1 : Cond.selects "NineNoonsModel" yX7_allAlike yX7_allAlike ∈ nn_B := nn_s3 (k := 1) rfl
theorem ts_3_2 : Cond.selects "NineNoonsModel" yX7_sumOf yX7_sumOf ∈ nn_B := nn_s3 (k := 2) rfl
theorem ts_3_3 : Cond.selects "NineNoonsModel" yX7_villagesRead yX7_villagesRead ∈ nn_B := nn_s3 (k := 3) rfl
theorem ts_3_4 : Cond.selects "NineNoonsModel" yX7_here yX7_here ∈ nn_B := nn_s3 (k := 4) rfl
theorem ts_3_5 : Cond.selects "NineNoonsModel" yX7_must yX7_must ∈ nn_B := nn_s3 (k := 5) rfl
theorem ts_3_6 : Cond.selects "NineNoonsModel" yX7_number yX7_number ∈ nn_B := nn_s3 (k := 6) rfl
theorem ts_3_7 : Cond.selects "NineNoonsModel" yX7_notes yX7_notes ∈ nn_B := nn_s3 (k := 7) rfl
theorem ts_3_8 : Cond.selects "NineNoonsModel" yX7_goesBy yX7_goesBy ∈ nn_B := nn_s3 (k := 8) rfl
theorem ts_3_9 : Cond.selects "NineNoonsModel" yX7_becomes yX7_becomes ∈ nn_B := nn_s3 (k := 9) rfl
theorem ts_3_10 : Cond.selects "NineNoonsModel" yX7_asides yX7_asides ∈ nn_B := nn_s3 (k := 10) rfl
theorem ts_3_11 : Cond.selects "NineNoonsModel" yX7_goesOn yX7_goesOn ∈ nn_B := nn_s3 (k := 11) rfl
theorem ts_3_12 : Cond.selects "NineNoonsModel" yX7_backs yX7_backs ∈ nn_B := nn_s3 (k := 12) rfl
theorem ts_3_13 : Cond.selects "NineNoonsModel" yX7_whenTogether yX7_whenTogether ∈ nn_B := nn_s3 (k := 13) rfl
theorem ts_3_14 : Cond.selects "NineNoonsModel" yX7_setsIn yX7_setsIn ∈ nn_B := nn_s3 (k := 14) rfl
theorem ts_3_15 : Cond.selects "NineNoonsModel" yX7_isOrder yX7_isOrder ∈ nn_B := nn_s3 (k := 15) rfl
theorem ts_4_0 : Cond.selects "NineNoonsModel" yX7_hears yX7_hears ∈ nn_B := nn_s4 (k := 0) rfl
theorem ts_4_1 : Cond.selects "NineNoonsModel" yX7_isAsAside yX7_isAsAside ∈ nn_B := nn_s4 (k := 1) rfl
theorem ts_4_2 : Cond.selects "NineNoonsModel" yX7_why yX7_why ∈ nn_B := nn_s4 (k := 2) rfl
theorem ts_4_3 : Cond.selects "NineNoonsModel" yX7_isSo yX7_isSo ∈ nn_B := nn_s4 (k := 3) rfl
theorem nnin0 : ∀ w ∈ wsX00, w ∈ nn_B := fun w h => List.mem_filter.mpr ((by decide +kernel : ∀ w ∈ wsX00, w ∈ lw_tbl ∧ goodWord w = true) w h)
theorem nnin1 : ∀ w ∈ wsX10, w ∈ nn_B := fun w h => List.mem_filter.mpr ((by decide +kernel : ∀ w ∈ wsX10, w ∈ lw_tbl ∧ goodWord w = true) w h)
theorem nnin2 : ∀ w ∈ wsX20, w ∈ nn_B := fun w h => List.mem_filter.mpr ((by decide +kernel : ∀ w ∈ wsX20, w ∈ lw_tbl ∧ goodWord w = true) w h)
theorem nnin3 : ∀ w ∈ wsX30, w ∈ nn_B := fun w h => List.mem_filter.mpr ((by decide +kernel : ∀ w ∈ wsX30, w ∈ lw_tbl ∧ goodWord w = true) w h)
theorem nnin4 : ∀ w ∈ wsX40, w ∈ nn_B := fun w h => List.mem_filter.mpr ((by decide +kernel : ∀ w ∈ wsX40, w ∈ lw_tbl ∧ goodWord w = true) w h)
theorem nnin5 : ∀ w ∈ wsX50, w ∈ nn_B := fun w h => List.mem_filter.mpr ((by decide +kernel : ∀ w ∈ wsX50, w ∈ lw_tbl ∧ goodWord w = true) w h)
theorem nnin6 : ∀ w ∈ wsX60, w ∈ nn_B := fun w h => List.mem_filter.mpr ((by decide +kernel : ∀ w ∈ wsX60, w ∈ lw_tbl ∧ goodWord w = true) w h)
theorem nnin7 : ∀ w ∈ wsX70, w ∈ nn_B := fun w h => List.mem_filter.mpr ((by decide +kernel : ∀ w ∈ wsX70, w ∈ lw_tbl ∧ goodWord w = true) w h)
end
section
theorem dX0_init_0 : decode cX0_init 0 = .ok (.aload_n 0, 1) := by decide +kernel
theorem dX0_init_1 : decode cX0_init 1 = .ok (.invokespecial 3, 3) := by decide +kernel
theorem dX0_init_4 : decode cX0_init 4 = .ok (.aload_n 0, 1) := by decide +kernel
theorem dX0_init_5 : decode cX0_init 5 = .ok (.bipush 6, 2) := by decide +kernel
theorem dX0_init_7 : decode cX0_init 7 = .ok (.newarray .int, 2) := by decide +kernel
theorem dX0_init_9 : decode cX0_init 9 = .ok (.putfield 9, 3) := by decide +kernel
theorem dX0_init_12 : decode cX0_init 12 = .ok (.aload_n 0, 1) := by decide +kernel
theorem dX0_init_13 : decode cX0_init 13 = .ok (.bipush 6, 2) := by decide +kernel
theorem dX0_init_15 : decode cX0_init 15 = .ok (.newarray .int, 2) := by decide +kernel
theorem dX0_init_17 : decode cX0_init 17 = .ok (.putfield 15, 3) := by decide +kernel
theorem dX0_init_20 : decode cX0_init 20 = .ok (.aload_n 0, 1) := by decide +kernel
theorem dX0_init_21 : decode cX0_init 21 = .ok (.ldc 18, 2) := by decide +kernel
theorem dX0_init_23 : decode cX0_init 23 = .ok (.putfield 19, 3) := by decide +kernel
theorem dX0_init_26 : decode cX0_init 26 = .ok (.aload_n 0, 1) := by decide +kernel
theorem dX0_init_27 : decode cX0_init 27 = .ok (.iconst 1, 1) := by decide +kernel
theorem dX0_init_28 : decode cX0_init 28 = .ok (.putfield 23, 3) := by decide +kernel
theorem dX0_init_31 : decode cX0_init 31 = .ok (.return_, 1) := by decide +kernel
theorem dX0_soonest_0 : decode cX0_soonest 0 = .ok (.aload_n 0, 1) := by decide +kernel
theorem dX0_soonest_1 : decode cX0_soonest 1 = .ok (.ldc 18, 2) := by decide +kernel
theorem dX0_soonest_3 : decode cX0_soonest 3 = .ok (.putfield 19, 3) := by decide +kernel
theorem dX0_soonest_6 : decode cX0_soonest 6 = .ok (.aload_n 0, 1) := by decide +kernel
theorem dX0_soonest_7 : decode cX0_soonest 7 = .ok (.iload 4, 2) := by decide +kernel
theorem dX0_soonest_9 : decode cX0_soonest 9 = .ok (.putfield 23, 3) := by decide +kernel
theorem dX0_soonest_12 : decode cX0_soonest 12 = .ok (.aload_n 0, 1) := by decide +kernel
theorem dX0_soonest_13 : decode cX0_soonest 13 = .ok (.aload_n 1, 1) := by decide +kernel
theorem dX0_soonest_14 : decode cX0_soonest 14 = .ok (.aload_n 1, 1) := by decide +kernel
theorem dX0_soonest_15 : decode cX0_soonest 15 = .ok (.getfield 26, 3) := by decide +kernel
theorem dX0_soonest_18 : decode cX0_soonest 18 = .ok (.iload_n 2, 1) := by decide +kernel
theorem dX0_soonest_19 : decode cX0_soonest 19 = .ok (.iaload, 1) := by decide +kernel
theorem dX0_soonest_20 : decode cX0_soonest 20 = .ok (.iload_n 3, 1) := by decide +kernel
theorem dX0_soonest_21 : decode cX0_soonest 21 = .ok (.iconst 0, 1) := by decide +kernel
theorem dX0_soonest_22 : decode cX0_soonest 22 = .ok (.iconst 0, 1) := by decide +kernel
theorem dX0_soonest_23 : decode cX0_soonest 23 = .ok (.invokevirtual 31, 3) := by decide +kernel
theorem dX0_soonest_26 : decode cX0_soonest 26 = .ok (.aload_n 0, 1) := by decide +kernel
theorem dX0_soonest_27 : decode cX0_soonest 27 = .ok (.getfield 19, 3) := by decide +kernel
theorem dX0_soonest_30 : decode cX0_soonest 30 = .ok (.iload_n 3, 1) := by decide +kernel
theorem dX0_soonest_31 : decode cX0_soonest 31 = .ok (.isub, 1) := by decide +kernel
theorem dX0_soonest_32 : decode cX0_soonest 32 = .ok (.ireturn, 1) := by decide +kernel
theorem dX0_hearRest_0 : decode cX0_hearRest 0 = .ok (.iload 5, 2) := by decide +kernel
theorem dX0_hearRest_2 : decode cX0_hearRest 2 = .ok (.aload_n 1, 1) := by decide +kernel
theorem dX0_hearRest_3 : decode cX0_hearRest 3 = .ok (.getfield 35, 3) := by decide +kernel
theorem dX0_hearRest_6 : decode cX0_hearRest 6 = .ok (.if_icmp .lt 24, 3) := by decide +kernel
theorem dX0_hearRest_9 : decode cX0_hearRest 9 = .ok (.aload_n 0, 1) := by decide +kernel
theorem dX0_hearRest_10 : decode cX0_hearRest 10 = .ok (.iload_n 3, 1) := by decide +kernel
theorem dX0_hearRest_11 : decode cX0_hearRest 11 = .ok (.putfield 19, 3) := by decide +kernel
theorem dX0_hearRest_14 : decode cX0_hearRest 14 = .ok (.aload_n 0, 1) := by decide +kernel
theorem dX0_hearRest_15 : decode cX0_hearRest 15 = .ok (.getfield 9, 3) := by decide +kernel
theorem dX0_hearRest_18 : decode cX0_hearRest 18 = .ok (.iconst 0, 1) := by decide +kernel
theorem dX0_hearRest_19 : decode cX0_hearRest 19 = .ok (.aload_n 0, 1) := by decide +kernel
theorem dX0_hearRest_20 : decode cX0_hearRest 20 = .ok (.getfield 15, 3) := by decide +kernel
theorem dX0_hearRest_23 : decode cX0_hearRest 23 = .ok (.iconst 0, 1) := by decide +kernel
theorem dX0_hearRest_24 : decode cX0_hearRest 24 = .ok (.bipush 6, 2) := by decide +kernel
theorem dX0_hearRest_26 : decode cX0_hearRest 26 = .ok (.invokestatic 38, 3) := by decide +kernel
theorem dX0_hearRest_29 : decode cX0_hearRest 29 = .ok (.return_, 1) := by decide +kernel
theorem dX0_hearRest_30 : decode cX0_hearRest 30 = .ok (.iconst 0, 1) := by decide +kernel
theorem dX0_hearRest_31 : decode cX0_hearRest 31 = .ok (.istore 6, 2) := by decide +kernel
theorem dX0_hearRest_33 : decode cX0_hearRest 33 = .ok (.iload 6, 2) := by decide +kernel
theorem dX0_hearRest_35 : decode cX0_hearRest 35 = .ok (.aload_n 1, 1) := by decide +kernel
theorem dX0_hearRest_36 : decode cX0_hearRest 36 = .ok (.getfield 35, 3) := by decide +kernel
theorem dX0_hearRest_39 : decode cX0_hearRest 39 = .ok (.if_icmp .ge 53, 3) := by decide +kernel
theorem dX0_hearRest_42 : decode cX0_hearRest 42 = .ok (.iload 4, 2) := by decide +kernel
theorem dX0_hearRest_44 : decode cX0_hearRest 44 = .ok (.iload 6, 2) := by decide +kernel
theorem dX0_hearRest_46 : decode cX0_hearRest 46 = .ok (.invokestatic 44, 3) := by decide +kernel
theorem dX0_hearRest_49 : decode cX0_hearRest 49 = .ok (.ifCond .ne 37, 3) := by decide +kernel
theorem dX0_hearRest_52 : decode cX0_hearRest 52 = .ok (.iload_n 3, 1) := by decide +kernel
theorem dX0_hearRest_53 : decode cX0_hearRest 53 = .ok (.aload_n 1, 1) := by decide +kernel
theorem dX0_hearRest_54 : decode cX0_hearRest 54 = .ok (.getfield 26, 3) := by decide +kernel
theorem dX0_hearRest_57 : decode cX0_hearRest 57 = .ok (.iload 6, 2) := by decide +kernel
theorem dX0_hearRest_59 : decode cX0_hearRest 59 = .ok (.iaload, 1) := by decide +kernel
theorem dX0_hearRest_60 : decode cX0_hearRest 60 = .ok (.iload_n 2, 1) := by decide +kernel
theorem dX0_hearRest_61 : decode cX0_hearRest 61 = .ok (.isub, 1) := by decide +kernel
theorem dX0_hearRest_62 : decode cX0_hearRest 62 = .ok (.invokestatic 48, 3) := by decide +kernel
theorem dX0_hearRest_65 : decode cX0_hearRest 65 = .ok (.aload_n 0, 1) := by decide +kernel
theorem dX0_hearRest_66 : decode cX0_hearRest 66 = .ok (.getfield 23, 3) := by decide +kernel
theorem dX0_hearRest_69 : decode cX0_hearRest 69 = .ok (.imul, 1) := by decide +kernel
theorem dX0_hearRest_70 : decode cX0_hearRest 70 = .ok (.iadd, 1) := by decide +kernel
theorem dX0_hearRest_71 : decode cX0_hearRest 71 = .ok (.istore 7, 2) := by decide +kernel
theorem dX0_hearRest_73 : decode cX0_hearRest 73 = .ok (.aload_n 0, 1) := by decide +kernel
theorem dX0_hearRest_74 : decode cX0_hearRest 74 = .ok (.aload_n 1, 1) := by decide +kernel
theorem dX0_hearRest_75 : decode cX0_hearRest 75 = .ok (.iload 6, 2) := by decide +kernel
theorem dX0_hearRest_77 : decode cX0_hearRest 77 = .ok (.iload 7, 2) := by decide +kernel
theorem dX0_hearRest_79 : decode cX0_hearRest 79 = .ok (.iload 4, 2) := by decide +kernel
theorem dX0_hearRest_81 : decode cX0_hearRest 81 = .ok (.iload 5, 2) := by decide +kernel
theorem dX0_hearRest_83 : decode cX0_hearRest 83 = .ok (.invokevirtual 54, 3) := by decide +kernel
theorem dX0_hearRest_86 : decode cX0_hearRest 86 = .ok (.iinc 6 1, 3) := by decide +kernel
theorem dX0_hearRest_89 : decode cX0_hearRest 89 = .ok (.goto (-56), 3) := by decide +kernel
theorem dX0_hearRest_92 : decode cX0_hearRest 92 = .ok (.return_, 1) := by decide +kernel
theorem dX0_hearFirst_0 : decode cX0_hearFirst 0 = .ok (.iload_n 3, 1) := by decide +kernel
theorem dX0_hearFirst_1 : decode cX0_hearFirst 1 = .ok (.aload_n 1, 1) := by decide +kernel
theorem dX0_hearFirst_2 : decode cX0_hearFirst 2 = .ok (.getfield 57, 3) := by decide +kernel
theorem dX0_hearFirst_5 : decode cX0_hearFirst 5 = .ok (.iload_n 2, 1) := by decide +kernel
theorem dX0_hearFirst_6 : decode cX0_hearFirst 6 = .ok (.iaload, 1) := by decide +kernel
theorem dX0_hearFirst_7 : decode cX0_hearFirst 7 = .ok (.iload_n 3, 1) := by decide +kernel
theorem dX0_hearFirst_8 : decode cX0_hearFirst 8 = .ok (.isub, 1) := by decide +kernel
theorem dX0_hearFirst_9 : decode cX0_hearFirst 9 = .ok (.invokestatic 60, 3) := by decide +kernel
theorem dX0_hearFirst_12 : decode cX0_hearFirst 12 = .ok (.iadd, 1) := by decide +kernel
theorem dX0_hearFirst_13 : decode cX0_hearFirst 13 = .ok (.istore 6, 2) := by decide +kernel
theorem dX0_hearFirst_15 : decode cX0_hearFirst 15 = .ok (.iload 6, 2) := by decide +kernel
theorem dX0_hearFirst_17 : decode cX0_hearFirst 17 = .ok (.aload_n 0, 1) := by decide +kernel
theorem dX0_hearFirst_18 : decode cX0_hearFirst 18 = .ok (.getfield 19, 3) := by decide +kernel
theorem dX0_hearFirst_21 : decode cX0_hearFirst 21 = .ok (.if_icmp .ge 34, 3) := by decide +kernel
theorem dX0_hearFirst_24 : decode cX0_hearFirst 24 = .ok (.aload_n 0, 1) := by decide +kernel
theorem dX0_hearFirst_25 : decode cX0_hearFirst 25 = .ok (.getfield 9, 3) := by decide +kernel
theorem dX0_hearFirst_28 : decode cX0_hearFirst 28 = .ok (.iload 5, 2) := by decide +kernel
theorem dX0_hearFirst_30 : decode cX0_hearFirst 30 = .ok (.iload_n 2, 1) := by decide +kernel
theorem dX0_hearFirst_31 : decode cX0_hearFirst 31 = .ok (.iastore, 1) := by decide +kernel
theorem dX0_hearFirst_32 : decode cX0_hearFirst 32 = .ok (.aload_n 0, 1) := by decide +kernel
theorem dX0_hearFirst_33 : decode cX0_hearFirst 33 = .ok (.aload_n 1, 1) := by decide +kernel
theorem dX0_hearFirst_34 : decode cX0_hearFirst 34 = .ok (.aload_n 1, 1) := by decide +kernel
theorem dX0_hearFirst_35 : decode cX0_hearFirst 35 = .ok (.getfield 26, 3) := by decide +kernel
theorem dX0_hearFirst_38 : decode cX0_hearFirst 38 = .ok (.iload_n 2, 1) := by decide +kernel
theorem dX0_hearFirst_39 : decode cX0_hearFirst 39 = .ok (.iaload, 1) := by decide +kernel
theorem dX0_hearFirst_40 : decode cX0_hearFirst 40 = .ok (.iload 6, 2) := by decide +kernel
theorem dX0_hearFirst_42 : decode cX0_hearFirst 42 = .ok (.iload 4, 2) := by decide +kernel
theorem dX0_hearFirst_44 : decode cX0_hearFirst 44 = .ok (.iconst 1, 1) := by decide +kernel
theorem dX0_hearFirst_45 : decode cX0_hearFirst 45 = .ok (.iload_n 2, 1) := by decide +kernel
theorem dX0_hearFirst_46 : decode cX0_hearFirst 46 = .ok (.ishl, 1) := by decide +kernel
theorem dX0_hearFirst_47 : decode cX0_hearFirst 47 = .ok (.ior, 1) := by decide +kernel
theorem dX0_hearFirst_48 : decode cX0_hearFirst 48 = .ok (.iload 5, 2) := by decide +kernel
theorem dX0_hearFirst_50 : decode cX0_hearFirst 50 = .ok (.iconst 1, 1) := by decide +kernel
theorem dX0_hearFirst_51 : decode cX0_hearFirst 51 = .ok (.iadd, 1) := by decide +kernel
theorem dX0_hearFirst_52 : decode cX0_hearFirst 52 = .ok (.invokevirtual 31, 3) := by decide +kernel
theorem dX0_hearFirst_55 : decode cX0_hearFirst 55 = .ok (.return_, 1) := by decide +kernel
theorem dX1_init_0 : decode cX1_init 0 = .ok (.aload_n 0, 1) := by decide +kernel
theorem dX1_init_1 : decode cX1_init 1 = .ok (.invokespecial 3, 3) := by decide +kernel
theorem dX1_init_4 : decode cX1_init 4 = .ok (.aload_n 0, 1) := by decide +kernel
theorem dX1_init_5 : decode cX1_init 5 = .ok (.bipush 8, 2) := by decide +kernel
theorem dX1_init_7 : decode cX1_init 7 = .ok (.anewarray 9, 3) := by decide +kernel
theorem dX1_init_10 : decode cX1_init 10 = .ok (.dup, 1) := by decide +kernel
theorem dX1_init_11 : decode cX1_init 11 = .ok (.iconst 0, 1) := by decide +kernel
theorem dX1_init_12 : decode cX1_init 12 = .ok (.new 9, 3) := by decide +kernel
theorem dX1_init_15 : decode cX1_init 15 = .ok (.dup, 1) := by decide +kernel
theorem dX1_init_16 : decode cX1_init 16 = .ok (.invokespecial 11, 3) := by decide +kernel
theorem dX1_init_19 : decode cX1_init 19 = .ok (.aastore, 1) := by decide +kernel
theorem dX1_init_20 : decode cX1_init 20 = .ok (.dup, 1) := by decide +kernel
theorem dX1_init_21 : decode cX1_init 21 = .ok (.iconst 1, 1) := by decide +kernel
theorem dX1_init_22 : decode cX1_init 22 = .ok (.new 9, 3) := by decide +kernel
theorem dX1_init_25 : decode cX1_init 25 = .ok (.dup, 1) := by decide +kernel
theorem dX1_init_26 : decode cX1_init 26 = .ok (.invokespecial 11, 3) := by decide +kernel
theorem dX1_init_29 : decode cX1_init 29 = .ok (.aastore, 1) := by decide +kernel
theorem dX1_init_30 : decode cX1_init 30 = .ok (.dup, 1) := by decide +kernel
theorem dX1_init_31 : decode cX1_init 31 = .ok (.iconst 2, 1) := by decide +kernel
theorem dX1_init_32 : decode cX1_init 32 = .ok (.new 9, 3) := by decide +kernel
theorem dX1_init_35 : decode cX1_init 35 = .ok (.dup, 1) := by decide +kernel
theorem dX1_init_36 : decode cX1_init 36 = .ok (.invokespecial 11, 3) := by decide +kernel
theorem dX1_init_39 : decode cX1_init 39 = .ok (.aastore, 1) := by decide +kernel
theorem dX1_init_40 : decode cX1_init 40 = .ok (.dup, 1) := by decide +kernel
theorem dX1_init_41 : decode cX1_init 41 = .ok (.iconst 3, 1) := by decide +kernel
theorem dX1_init_42 : decode cX1_init 42 = .ok (.new 9, 3) := by decide +kernel
theorem dX1_init_45 : decode cX1_init 45 = .ok (.dup, 1) := by decide +kernel
theorem dX1_init_46 : decode cX1_init 46 = .ok (.invokespecial 11, 3) := by decide +kernel
theorem dX1_init_49 : decode cX1_init 49 = .ok (.aastore, 1) := by decide +kernel
theorem dX1_init_50 : decode cX1_init 50 = .ok (.dup, 1) := by decide +kernel
theorem dX1_init_51 : decode cX1_init 51 = .ok (.iconst 4, 1) := by decide +kernel
theorem dX1_init_52 : decode cX1_init 52 = .ok (.new 9, 3) := by decide +kernel
theorem dX1_init_55 : decode cX1_init 55 = .ok (.dup, 1) := by decide +kernel
theorem dX1_init_56 : decode cX1_init 56 = .ok (.invokespecial 11, 3) := by decide +kernel
theorem dX1_init_59 : decode cX1_init 59 = .ok (.aastore, 1) := by decide +kernel
theorem dX1_init_60 : decode cX1_init 60 = .ok (.dup, 1) := by decide +kernel
theorem dX1_init_61 : decode cX1_init 61 = .ok (.iconst 5, 1) := by decide +kernel
theorem dX1_init_62 : decode cX1_init 62 = .ok (.new 9, 3) := by decide +kernel
theorem dX1_init_65 : decode cX1_init 65 = .ok (.dup, 1) := by decide +kernel
theorem dX1_init_66 : decode cX1_init 66 = .ok (.invokespecial 11, 3) := by decide +kernel
theorem dX1_init_69 : decode cX1_init 69 = .ok (.aastore, 1) := by decide +kernel
theorem dX1_init_70 : decode cX1_init 70 = .ok (.dup, 1) := by decide +kernel
theorem dX1_init_71 : decode cX1_init 71 = .ok (.bipush 6, 2) := by decide +kernel
theorem dX1_init_73 : decode cX1_init 73 = .ok (.new 9, 3) := by decide +kernel
theorem dX1_init_76 : decode cX1_init 76 = .ok (.dup, 1) := by decide +kernel
theorem dX1_init_77 : decode cX1_init 77 = .ok (.invokespecial 11, 3) := by decide +kernel
theorem dX1_init_80 : decode cX1_init 80 = .ok (.aastore, 1) := by decide +kernel
theorem dX1_init_81 : decode cX1_init 81 = .ok (.dup, 1) := by decide +kernel
theorem dX1_init_82 : decode cX1_init 82 = .ok (.bipush 7, 2) := by decide +kernel
theorem dX1_init_84 : decode cX1_init 84 = .ok (.new 9, 3) := by decide +kernel
theorem dX1_init_87 : decode cX1_init 87 = .ok (.dup, 1) := by decide +kernel
theorem dX1_init_88 : decode cX1_init 88 = .ok (.invokespecial 11, 3) := by decide +kernel
theorem dX1_init_91 : decode cX1_init 91 = .ok (.aastore, 1) := by decide +kernel
theorem dX1_init_92 : decode cX1_init 92 = .ok (.putfield 12, 3) := by decide +kernel
theorem dX1_init_95 : decode cX1_init 95 = .ok (.aload_n 0, 1) := by decide +kernel
theorem dX1_init_96 : decode cX1_init 96 = .ok (.iconst 0, 1) := by decide +kernel
theorem dX1_init_97 : decode cX1_init 97 = .ok (.putfield 18, 3) := by decide +kernel
theorem dX1_init_100 : decode cX1_init 100 = .ok (.aload_n 0, 1) := by decide +kernel
theorem dX1_init_101 : decode cX1_init 101 = .ok (.iconst 0, 1) := by decide +kernel
theorem dX1_init_102 : decode cX1_init 102 = .ok (.putfield 22, 3) := by decide +kernel
theorem dX1_init_105 : decode cX1_init 105 = .ok (.return_, 1) := by decide +kernel
theorem dX1_forget_0 : decode cX1_forget 0 = .ok (.aload_n 0, 1) := by decide +kernel
theorem dX1_forget_1 : decode cX1_forget 1 = .ok (.iconst 0, 1) := by decide +kernel
theorem dX1_forget_2 : decode cX1_forget 2 = .ok (.putfield 22, 3) := by decide +kernel
theorem dX1_forget_5 : decode cX1_forget 5 = .ok (.return_, 1) := by decide +kernel
theorem dX1_remember_0 : decode cX1_remember 0 = .ok (.aload_n 0, 1) := by decide +kernel
theorem dX1_remember_1 : decode cX1_remember 1 = .ok (.getfield 12, 3) := by decide +kernel
theorem dX1_remember_4 : decode cX1_remember 4 = .ok (.aload_n 0, 1) := by decide +kernel
theorem dX1_remember_5 : decode cX1_remember 5 = .ok (.getfield 18, 3) := by decide +kernel
theorem dX1_remember_8 : decode cX1_remember 8 = .ok (.aaload, 1) := by decide +kernel
theorem dX1_remember_9 : decode cX1_remember 9 = .ok (.aload_n 1, 1) := by decide +kernel
theorem dX1_remember_10 : decode cX1_remember 10 = .ok (.invokevirtual 25, 3) := by decide +kernel
theorem dX1_remember_13 : decode cX1_remember 13 = .ok (.aload_n 0, 1) := by decide +kernel
theorem dX1_remember_14 : decode cX1_remember 14 = .ok (.aload_n 0, 1) := by decide +kernel
theorem dX1_remember_15 : decode cX1_remember 15 = .ok (.getfield 18, 3) := by decide +kernel
theorem dX1_remember_18 : decode cX1_remember 18 = .ok (.iconst 1, 1) := by decide +kernel
theorem dX1_remember_19 : decode cX1_remember 19 = .ok (.iadd, 1) := by decide +kernel
theorem dX1_remember_20 : decode cX1_remember 20 = .ok (.bipush 8, 2) := by decide +kernel
theorem dX1_remember_22 : decode cX1_remember 22 = .ok (.irem, 1) := by decide +kernel
theorem dX1_remember_23 : decode cX1_remember 23 = .ok (.putfield 18, 3) := by decide +kernel
theorem dX1_remember_26 : decode cX1_remember 26 = .ok (.aload_n 0, 1) := by decide +kernel
theorem dX1_remember_27 : decode cX1_remember 27 = .ok (.aload_n 0, 1) := by decide +kernel
theorem dX1_remember_28 : decode cX1_remember 28 = .ok (.getfield 22, 3) := by decide +kernel
theorem dX1_remember_31 : decode cX1_remember 31 = .ok (.iconst 1, 1) := by decide +kernel
theorem dX1_remember_32 : decode cX1_remember 32 = .ok (.iadd, 1) := by decide +kernel
theorem dX1_remember_33 : decode cX1_remember 33 = .ok (.bipush 8, 2) := by decide +kernel
theorem dX1_remember_35 : decode cX1_remember 35 = .ok (.invokestatic 29, 3) := by decide +kernel
theorem dX1_remember_38 : decode cX1_remember 38 = .ok (.putfield 22, 3) := by decide +kernel
theorem dX1_remember_41 : decode cX1_remember 41 = .ok (.return_, 1) := by decide +kernel
theorem dX1_takeBack_0 : decode cX1_takeBack 0 = .ok (.aload_n 0, 1) := by decide +kernel
theorem dX1_takeBack_1 : decode cX1_takeBack 1 = .ok (.getfield 22, 3) := by decide +kernel
theorem dX1_takeBack_4 : decode cX1_takeBack 4 = .ok (.ifCond .ne 5, 3) := by decide +kernel
theorem dX1_takeBack_7 : decode cX1_takeBack 7 = .ok (.iconst 0, 1) := by decide +kernel
theorem dX1_takeBack_8 : decode cX1_takeBack 8 = .ok (.ireturn, 1) := by decide +kernel
theorem dX1_takeBack_9 : decode cX1_takeBack 9 = .ok (.aload_n 0, 1) := by decide +kernel
theorem dX1_takeBack_10 : decode cX1_takeBack 10 = .ok (.aload_n 0, 1) := by decide +kernel
theorem dX1_takeBack_11 : decode cX1_takeBack 11 = .ok (.getfield 18, 3) := by decide +kernel
theorem dX1_takeBack_14 : decode cX1_takeBack 14 = .ok (.bipush 8, 2) := by decide +kernel
theorem dX1_takeBack_16 : decode cX1_takeBack 16 = .ok (.iadd, 1) := by decide +kernel
theorem dX1_takeBack_17 : decode cX1_takeBack 17 = .ok (.iconst 1, 1) := by decide +kernel
theorem dX1_takeBack_18 : decode cX1_takeBack 18 = .ok (.isub, 1) := by decide +kernel
theorem dX1_takeBack_19 : decode cX1_takeBack 19 = .ok (.bipush 8, 2) := by decide +kernel
theorem dX1_takeBack_21 : decode cX1_takeBack 21 = .ok (.irem, 1) := by decide +kernel
theorem dX1_takeBack_22 : decode cX1_takeBack 22 = .ok (.putfield 18, 3) := by decide +kernel
theorem dX1_takeBack_25 : decode cX1_takeBack 25 = .ok (.aload_n 0, 1) := by decide +kernel
theorem dX1_takeBack_26 : decode cX1_takeBack 26 = .ok (.dup, 1) := by decide +kernel
theorem dX1_takeBack_27 : decode cX1_takeBack 27 = .ok (.getfield 22, 3) := by decide +kernel
theorem dX1_takeBack_30 : decode cX1_takeBack 30 = .ok (.iconst 1, 1) := by decide +kernel
theorem dX1_takeBack_31 : decode cX1_takeBack 31 = .ok (.isub, 1) := by decide +kernel
theorem dX1_takeBack_32 : decode cX1_takeBack 32 = .ok (.putfield 22, 3) := by decide +kernel
theorem dX1_takeBack_35 : decode cX1_takeBack 35 = .ok (.aload_n 1, 1) := by decide +kernel
theorem dX1_takeBack_36 : decode cX1_takeBack 36 = .ok (.aload_n 0, 1) := by decide +kernel
theorem dX1_takeBack_37 : decode cX1_takeBack 37 = .ok (.getfield 12, 3) := by decide +kernel
theorem dX1_takeBack_40 : decode cX1_takeBack 40 = .ok (.aload_n 0, 1) := by decide +kernel
theorem dX1_takeBack_41 : decode cX1_takeBack 41 = .ok (.getfield 18, 3) := by decide +kernel
theorem dX1_takeBack_44 : decode cX1_takeBack 44 = .ok (.aaload, 1) := by decide +kernel
theorem dX1_takeBack_45 : decode cX1_takeBack 45 = .ok (.invokevirtual 25, 3) := by decide +kernel
theorem dX1_takeBack_48 : decode cX1_takeBack 48 = .ok (.iconst 1, 1) := by decide +kernel
theorem dX1_takeBack_49 : decode cX1_takeBack 49 = .ok (.ireturn, 1) := by decide +kernel
theorem dX1_becomeLike_0 : decode cX1_becomeLike 0 = .ok (.iconst 0, 1) := by decide +kernel
theorem dX1_becomeLike_1 : decode cX1_becomeLike 1 = .ok (.istore_n 2, 1) := by decide +kernel
theorem dX1_becomeLike_2 : decode cX1_becomeLike 2 = .ok (.iload_n 2, 1) := by decide +kernel
theorem dX1_becomeLike_3 : decode cX1_becomeLike 3 = .ok (.bipush 8, 2) := by decide +kernel
theorem dX1_becomeLike_5 : decode cX1_becomeLike 5 = .ok (.if_icmp .ge 24, 3) := by decide +kernel
theorem dX1_becomeLike_8 : decode cX1_becomeLike 8 = .ok (.aload_n 0, 1) := by decide +kernel
theorem dX1_becomeLike_9 : decode cX1_becomeLike 9 = .ok (.getfield 12, 3) := by decide +kernel
theorem dX1_becomeLike_12 : decode cX1_becomeLike 12 = .ok (.iload_n 2, 1) := by decide +kernel
theorem dX1_becomeLike_13 : decode cX1_becomeLike 13 = .ok (.aaload, 1) := by decide +kernel
theorem dX1_becomeLike_14 : decode cX1_becomeLike 14 = .ok (.aload_n 1, 1) := by decide +kernel
theorem dX1_becomeLike_15 : decode cX1_becomeLike 15 = .ok (.getfield 12, 3) := by decide +kernel
theorem dX1_becomeLike_18 : decode cX1_becomeLike 18 = .ok (.iload_n 2, 1) := by decide +kernel
theorem dX1_becomeLike_19 : decode cX1_becomeLike 19 = .ok (.aaload, 1) := by decide +kernel
theorem dX1_becomeLike_20 : decode cX1_becomeLike 20 = .ok (.invokevirtual 25, 3) := by decide +kernel
theorem dX1_becomeLike_23 : decode cX1_becomeLike 23 = .ok (.iinc 2 1, 3) := by decide +kernel
theorem dX1_becomeLike_26 : decode cX1_becomeLike 26 = .ok (.goto (-24), 3) := by decide +kernel
theorem dX1_becomeLike_29 : decode cX1_becomeLike 29 = .ok (.aload_n 0, 1) := by decide +kernel
theorem dX1_becomeLike_30 : decode cX1_becomeLike 30 = .ok (.aload_n 1, 1) := by decide +kernel
theorem dX1_becomeLike_31 : decode cX1_becomeLike 31 = .ok (.getfield 18, 3) := by decide +kernel
theorem dX1_becomeLike_34 : decode cX1_becomeLike 34 = .ok (.putfield 18, 3) := by decide +kernel
theorem dX1_becomeLike_37 : decode cX1_becomeLike 37 = .ok (.aload_n 0, 1) := by decide +kernel
theorem dX1_becomeLike_38 : decode cX1_becomeLike 38 = .ok (.aload_n 1, 1) := by decide +kernel
theorem dX1_becomeLike_39 : decode cX1_becomeLike 39 = .ok (.getfield 22, 3) := by decide +kernel
theorem dX1_becomeLike_42 : decode cX1_becomeLike 42 = .ok (.putfield 22, 3) := by decide +kernel
theorem dX1_becomeLike_45 : decode cX1_becomeLike 45 = .ok (.return_, 1) := by decide +kernel
theorem dX2_init_0 : decode cX2_init 0 = .ok (.aload_n 0, 1) := by decide +kernel
theorem dX2_init_1 : decode cX2_init 1 = .ok (.invokespecial 3, 3) := by decide +kernel
theorem dX2_init_4 : decode cX2_init 4 = .ok (.aload_n 0, 1) := by decide +kernel
theorem dX2_init_5 : decode cX2_init 5 = .ok (.bipush 6, 2) := by decide +kernel
theorem dX2_init_7 : decode cX2_init 7 = .ok (.newarray .int, 2) := by decide +kernel
theorem dX2_init_9 : decode cX2_init 9 = .ok (.putfield 9, 3) := by decide +kernel
theorem dX2_init_12 : decode cX2_init 12 = .ok (.return_, 1) := by decide +kernel
theorem dX2_leastTotal_0 : decode cX2_leastTotal 0 = .ok (.iconst 2, 1) := by decide +kernel
theorem dX2_leastTotal_1 : decode cX2_leastTotal 1 = .ok (.aload_n 1, 1) := by decide +kernel
theorem dX2_leastTotal_2 : decode cX2_leastTotal 2 = .ok (.getfield 15, 3) := by decide +kernel
theorem dX2_leastTotal_5 : decode cX2_leastTotal 5 = .ok (.imul, 1) := by decide +kernel
theorem dX2_leastTotal_6 : decode cX2_leastTotal 6 = .ok (.istore_n 3, 1) := by decide +kernel
theorem dX2_leastTotal_7 : decode cX2_leastTotal 7 = .ok (.iconst 0, 1) := by decide +kernel
theorem dX2_leastTotal_8 : decode cX2_leastTotal 8 = .ok (.istore 4, 2) := by decide +kernel
theorem dX2_leastTotal_10 : decode cX2_leastTotal 10 = .ok (.iload 4, 2) := by decide +kernel
theorem dX2_leastTotal_12 : decode cX2_leastTotal 12 = .ok (.iload_n 3, 1) := by decide +kernel
theorem dX2_leastTotal_13 : decode cX2_leastTotal 13 = .ok (.if_icmp .gt 24, 3) := by decide +kernel
theorem dX2_leastTotal_16 : decode cX2_leastTotal 16 = .ok (.aload_n 0, 1) := by decide +kernel
theorem dX2_leastTotal_17 : decode cX2_leastTotal 17 = .ok (.aload_n 1, 1) := by decide +kernel
theorem dX2_leastTotal_18 : decode cX2_leastTotal 18 = .ok (.iload_n 2, 1) := by decide +kernel
theorem dX2_leastTotal_19 : decode cX2_leastTotal 19 = .ok (.iconst 0, 1) := by decide +kernel
theorem dX2_leastTotal_20 : decode cX2_leastTotal 20 = .ok (.iload 4, 2) := by decide +kernel
theorem dX2_leastTotal_22 : decode cX2_leastTotal 22 = .ok (.invokevirtual 21, 3) := by decide +kernel
theorem dX2_leastTotal_25 : decode cX2_leastTotal 25 = .ok (.ifCond .eq 6, 3) := by decide +kernel
theorem dX2_leastTotal_28 : decode cX2_leastTotal 28 = .ok (.iload 4, 2) := by decide +kernel
theorem dX2_leastTotal_30 : decode cX2_leastTotal 30 = .ok (.ireturn, 1) := by decide +kernel
theorem dX2_leastTotal_31 : decode cX2_leastTotal 31 = .ok (.iinc 4 1, 3) := by decide +kernel
theorem dX2_leastTotal_34 : decode cX2_leastTotal 34 = .ok (.goto (-24), 3) := by decide +kernel
theorem dX2_leastTotal_37 : decode cX2_leastTotal 37 = .ok (.bipush (-4), 2) := by decide +kernel
theorem dX2_leastTotal_39 : decode cX2_leastTotal 39 = .ok (.ireturn, 1) := by decide +kernel
theorem dX2_settle_0 : decode cX2_settle 0 = .ok (.iload_n 3, 1) := by decide +kernel
theorem dX2_settle_1 : decode cX2_settle 1 = .ok (.aload_n 1, 1) := by decide +kernel
theorem dX2_settle_2 : decode cX2_settle 2 = .ok (.getfield 15, 3) := by decide +kernel
theorem dX2_settle_5 : decode cX2_settle 5 = .ok (.if_icmp .lt 14, 3) := by decide +kernel
theorem dX2_settle_8 : decode cX2_settle 8 = .ok (.iload 4, 2) := by decide +kernel
theorem dX2_settle_10 : decode cX2_settle 10 = .ok (.ifCond .ne 7, 3) := by decide +kernel
theorem dX2_settle_13 : decode cX2_settle 13 = .ok (.iconst 1, 1) := by decide +kernel
theorem dX2_settle_14 : decode cX2_settle 14 = .ok (.goto 4, 3) := by decide +kernel
theorem dX2_settle_17 : decode cX2_settle 17 = .ok (.iconst 0, 1) := by decide +kernel
theorem dX2_settle_18 : decode cX2_settle 18 = .ok (.ireturn, 1) := by decide +kernel
theorem dX2_settle_19 : decode cX2_settle 19 = .ok (.bipush (-2), 2) := by decide +kernel
theorem dX2_settle_21 : decode cX2_settle 21 = .ok (.istore 5, 2) := by decide +kernel
theorem dX2_settle_23 : decode cX2_settle 23 = .ok (.iload 5, 2) := by decide +kernel
theorem dX2_settle_25 : decode cX2_settle 25 = .ok (.iconst 2, 1) := by decide +kernel
theorem dX2_settle_26 : decode cX2_settle 26 = .ok (.if_icmp .gt 25, 3) := by decide +kernel
theorem dX2_settle_29 : decode cX2_settle 29 = .ok (.aload_n 0, 1) := by decide +kernel
theorem dX2_settle_30 : decode cX2_settle 30 = .ok (.aload_n 1, 1) := by decide +kernel
theorem dX2_settle_31 : decode cX2_settle 31 = .ok (.iload_n 2, 1) := by decide +kernel
theorem dX2_settle_32 : decode cX2_settle 32 = .ok (.iload_n 3, 1) := by decide +kernel
theorem dX2_settle_33 : decode cX2_settle 33 = .ok (.iload 5, 2) := by decide +kernel
theorem dX2_settle_35 : decode cX2_settle 35 = .ok (.iload 4, 2) := by decide +kernel
theorem dX2_settle_37 : decode cX2_settle 37 = .ok (.invokevirtual 25, 3) := by decide +kernel
theorem dX2_settle_40 : decode cX2_settle 40 = .ok (.ifCond .eq 5, 3) := by decide +kernel
theorem dX2_settle_43 : decode cX2_settle 43 = .ok (.iconst 1, 1) := by decide +kernel
theorem dX2_settle_44 : decode cX2_settle 44 = .ok (.ireturn, 1) := by decide +kernel
theorem dX2_settle_45 : decode cX2_settle 45 = .ok (.iinc 5 1, 3) := by decide +kernel
theorem dX2_settle_48 : decode cX2_settle 48 = .ok (.goto (-25), 3) := by decide +kernel
theorem dX2_settle_51 : decode cX2_settle 51 = .ok (.iconst 0, 1) := by decide +kernel
theorem dX2_settle_52 : decode cX2_settle 52 = .ok (.ireturn, 1) := by decide +kernel
theorem dX2_settleBy_0 : decode cX2_settleBy 0 = .ok (.iload 5, 2) := by decide +kernel
theorem dX2_settleBy_2 : decode cX2_settleBy 2 = .ok (.iload 4, 2) := by decide +kernel
theorem dX2_settleBy_4 : decode cX2_settleBy 4 = .ok (.invokestatic 29, 3) := by decide +kernel
theorem dX2_settleBy_7 : decode cX2_settleBy 7 = .ok (.isub, 1) := by decide +kernel
theorem dX2_settleBy_8 : decode cX2_settleBy 8 = .ok (.istore 6, 2) := by decide +kernel
theorem dX2_settleBy_10 : decode cX2_settleBy 10 = .ok (.iconst 2, 1) := by decide +kernel
theorem dX2_settleBy_11 : decode cX2_settleBy 11 = .ok (.aload_n 1, 1) := by decide +kernel
theorem dX2_settleBy_12 : decode cX2_settleBy 12 = .ok (.getfield 15, 3) := by decide +kernel
theorem dX2_settleBy_15 : decode cX2_settleBy 15 = .ok (.iload_n 3, 1) := by decide +kernel
theorem dX2_settleBy_16 : decode cX2_settleBy 16 = .ok (.isub, 1) := by decide +kernel
theorem dX2_settleBy_17 : decode cX2_settleBy 17 = .ok (.iconst 1, 1) := by decide +kernel
theorem dX2_settleBy_18 : decode cX2_settleBy 18 = .ok (.isub, 1) := by decide +kernel
theorem dX2_settleBy_19 : decode cX2_settleBy 19 = .ok (.imul, 1) := by decide +kernel
theorem dX2_settleBy_20 : decode cX2_settleBy 20 = .ok (.istore 7, 2) := by decide +kernel
theorem dX2_settleBy_22 : decode cX2_settleBy 22 = .ok (.iload 6, 2) := by decide +kernel
theorem dX2_settleBy_24 : decode cX2_settleBy 24 = .ok (.ifCond .lt 10, 3) := by decide +kernel
theorem dX2_settleBy_27 : decode cX2_settleBy 27 = .ok (.iload 6, 2) := by decide +kernel
theorem dX2_settleBy_29 : decode cX2_settleBy 29 = .ok (.iload 7, 2) := by decide +kernel
theorem dX2_settleBy_31 : decode cX2_settleBy 31 = .ok (.if_icmp .le 5, 3) := by decide +kernel
theorem dX2_settleBy_34 : decode cX2_settleBy 34 = .ok (.iconst 0, 1) := by decide +kernel
theorem dX2_settleBy_35 : decode cX2_settleBy 35 = .ok (.ireturn, 1) := by decide +kernel
theorem dX2_settleBy_36 : decode cX2_settleBy 36 = .ok (.aload_n 0, 1) := by decide +kernel
theorem dX2_settleBy_37 : decode cX2_settleBy 37 = .ok (.getfield 9, 3) := by decide +kernel
theorem dX2_settleBy_40 : decode cX2_settleBy 40 = .ok (.iload_n 3, 1) := by decide +kernel
theorem dX2_settleBy_41 : decode cX2_settleBy 41 = .ok (.iload 4, 2) := by decide +kernel
theorem dX2_settleBy_43 : decode cX2_settleBy 43 = .ok (.iastore, 1) := by decide +kernel
theorem dX2_settleBy_44 : decode cX2_settleBy 44 = .ok (.aload_n 0, 1) := by decide +kernel
theorem dX2_settleBy_45 : decode cX2_settleBy 45 = .ok (.aload_n 1, 1) := by decide +kernel
theorem dX2_settleBy_46 : decode cX2_settleBy 46 = .ok (.iload_n 2, 1) := by decide +kernel
theorem dX2_settleBy_47 : decode cX2_settleBy 47 = .ok (.iload_n 3, 1) := by decide +kernel
theorem dX2_settleBy_48 : decode cX2_settleBy 48 = .ok (.invokevirtual 35, 3) := by decide +kernel
theorem dX2_settleBy_51 : decode cX2_settleBy 51 = .ok (.ifCond .eq 21, 3) := by decide +kernel
theorem dX2_settleBy_54 : decode cX2_settleBy 54 = .ok (.aload_n 0, 1) := by decide +kernel
theorem dX2_settleBy_55 : decode cX2_settleBy 55 = .ok (.aload_n 1, 1) := by decide +kernel
theorem dX2_settleBy_56 : decode cX2_settleBy 56 = .ok (.iload_n 2, 1) := by decide +kernel
theorem dX2_settleBy_57 : decode cX2_settleBy 57 = .ok (.iload_n 3, 1) := by decide +kernel
theorem dX2_settleBy_58 : decode cX2_settleBy 58 = .ok (.iconst 1, 1) := by decide +kernel
theorem dX2_settleBy_59 : decode cX2_settleBy 59 = .ok (.iadd, 1) := by decide +kernel
theorem dX2_settleBy_60 : decode cX2_settleBy 60 = .ok (.iload 6, 2) := by decide +kernel
theorem dX2_settleBy_62 : decode cX2_settleBy 62 = .ok (.invokevirtual 21, 3) := by decide +kernel
theorem dX2_settleBy_65 : decode cX2_settleBy 65 = .ok (.ifCond .eq 7, 3) := by decide +kernel
theorem dX2_settleBy_68 : decode cX2_settleBy 68 = .ok (.iconst 1, 1) := by decide +kernel
theorem dX2_settleBy_69 : decode cX2_settleBy 69 = .ok (.goto 4, 3) := by decide +kernel
theorem dX2_settleBy_72 : decode cX2_settleBy 72 = .ok (.iconst 0, 1) := by decide +kernel
theorem dX2_settleBy_73 : decode cX2_settleBy 73 = .ok (.ireturn, 1) := by decide +kernel
theorem dX2_isClearOfEarlier_0 : decode cX2_isClearOfEarlier 0 = .ok (.aload_n 0, 1) := by decide +kernel
theorem dX2_isClearOfEarlier_1 : decode cX2_isClearOfEarlier 1 = .ok (.aload_n 1, 1) := by decide +kernel
theorem dX2_isClearOfEarlier_2 : decode cX2_isClearOfEarlier 2 = .ok (.iload_n 3, 1) := by decide +kernel
theorem dX2_isClearOfEarlier_3 : decode cX2_isClearOfEarlier 3 = .ok (.invokevirtual 39, 3) := by decide +kernel
theorem dX2_isClearOfEarlier_6 : decode cX2_isClearOfEarlier 6 = .ok (.istore 4, 2) := by decide +kernel
theorem dX2_isClearOfEarlier_8 : decode cX2_isClearOfEarlier 8 = .ok (.iconst 0, 1) := by decide +kernel
theorem dX2_isClearOfEarlier_9 : decode cX2_isClearOfEarlier 9 = .ok (.istore 5, 2) := by decide +kernel
theorem dX2_isClearOfEarlier_11 : decode cX2_isClearOfEarlier 11 = .ok (.iload 5, 2) := by decide +kernel
theorem dX2_isClearOfEarlier_13 : decode cX2_isClearOfEarlier 13 = .ok (.iload_n 3, 1) := by decide +kernel
theorem dX2_isClearOfEarlier_14 : decode cX2_isClearOfEarlier 14 = .ok (.if_icmp .ge 27, 3) := by decide +kernel
theorem dX2_isClearOfEarlier_17 : decode cX2_isClearOfEarlier 17 = .ok (.iload 4, 2) := by decide +kernel
theorem dX2_isClearOfEarlier_19 : decode cX2_isClearOfEarlier 19 = .ok (.aload_n 0, 1) := by decide +kernel
theorem dX2_isClearOfEarlier_20 : decode cX2_isClearOfEarlier 20 = .ok (.aload_n 1, 1) := by decide +kernel
theorem dX2_isClearOfEarlier_21 : decode cX2_isClearOfEarlier 21 = .ok (.iload 5, 2) := by decide +kernel
theorem dX2_isClearOfEarlier_23 : decode cX2_isClearOfEarlier 23 = .ok (.invokevirtual 39, 3) := by decide +kernel
theorem dX2_isClearOfEarlier_26 : decode cX2_isClearOfEarlier 26 = .ok (.invokestatic 43, 3) := by decide +kernel
theorem dX2_isClearOfEarlier_29 : decode cX2_isClearOfEarlier 29 = .ok (.iload_n 2, 1) := by decide +kernel
theorem dX2_isClearOfEarlier_30 : decode cX2_isClearOfEarlier 30 = .ok (.if_icmp .ge 5, 3) := by decide +kernel
theorem dX2_isClearOfEarlier_33 : decode cX2_isClearOfEarlier 33 = .ok (.iconst 0, 1) := by decide +kernel
theorem dX2_isClearOfEarlier_34 : decode cX2_isClearOfEarlier 34 = .ok (.ireturn, 1) := by decide +kernel
theorem dX2_isClearOfEarlier_35 : decode cX2_isClearOfEarlier 35 = .ok (.iinc 5 1, 3) := by decide +kernel
theorem dX2_isClearOfEarlier_38 : decode cX2_isClearOfEarlier 38 = .ok (.goto (-27), 3) := by decide +kernel
theorem dX2_isClearOfEarlier_41 : decode cX2_isClearOfEarlier 41 = .ok (.iconst 1, 1) := by decide +kernel
theorem dX2_isClearOfEarlier_42 : decode cX2_isClearOfEarlier 42 = .ok (.ireturn, 1) := by decide +kernel
theorem dX2_minuteThen_0 : decode cX2_minuteThen 0 = .ok (.aload_n 1, 1) := by decide +kernel
theorem dX2_minuteThen_1 : decode cX2_minuteThen 1 = .ok (.getfield 47, 3) := by decide +kernel
theorem dX2_minuteThen_4 : decode cX2_minuteThen 4 = .ok (.iload_n 2, 1) := by decide +kernel
theorem dX2_minuteThen_5 : decode cX2_minuteThen 5 = .ok (.iaload, 1) := by decide +kernel
theorem dX2_minuteThen_6 : decode cX2_minuteThen 6 = .ok (.aload_n 0, 1) := by decide +kernel
theorem dX2_minuteThen_7 : decode cX2_minuteThen 7 = .ok (.getfield 9, 3) := by decide +kernel
theorem dX2_minuteThen_10 : decode cX2_minuteThen 10 = .ok (.iload_n 2, 1) := by decide +kernel
theorem dX2_minuteThen_11 : decode cX2_minuteThen 11 = .ok (.iaload, 1) := by decide +kernel
theorem dX2_minuteThen_12 : decode cX2_minuteThen 12 = .ok (.iadd, 1) := by decide +kernel
theorem dX2_minuteThen_13 : decode cX2_minuteThen 13 = .ok (.invokestatic 50, 3) := by decide +kernel
theorem dX2_minuteThen_16 : decode cX2_minuteThen 16 = .ok (.ireturn, 1) := by decide +kernel
theorem dX3_init_0 : decode cX3_init 0 = .ok (.aload_n 0, 1) := by decide +kernel
theorem dX3_init_1 : decode cX3_init 1 = .ok (.invokespecial 3, 3) := by decide +kernel
theorem dX3_init_4 : decode cX3_init 4 = .ok (.aload_n 0, 1) := by decide +kernel
theorem dX3_init_5 : decode cX3_init 5 = .ok (.bipush 24, 2) := by decide +kernel
theorem dX3_init_7 : decode cX3_init 7 = .ok (.newarray .long, 2) := by decide +kernel
theorem dX3_init_9 : decode cX3_init 9 = .ok (.putfield 9, 3) := by decide +kernel
theorem dX3_init_12 : decode cX3_init 12 = .ok (.aload_n 0, 1) := by decide +kernel
theorem dX3_init_13 : decode cX3_init 13 = .ok (.iconst (-1), 1) := by decide +kernel
theorem dX3_init_14 : decode cX3_init 14 = .ok (.putfield 15, 3) := by decide +kernel
theorem dX3_init_17 : decode cX3_init 17 = .ok (.aload_n 0, 1) := by decide +kernel
theorem dX3_init_18 : decode cX3_init 18 = .ok (.iconst 0, 1) := by decide +kernel
theorem dX3_init_19 : decode cX3_init 19 = .ok (.putfield 19, 3) := by decide +kernel
theorem dX3_init_22 : decode cX3_init 22 = .ok (.return_, 1) := by decide +kernel
theorem dX3_renew_0 : decode cX3_renew 0 = .ok (.iconst 0, 1) := by decide +kernel
theorem dX3_renew_1 : decode cX3_renew 1 = .ok (.istore_n 3, 1) := by decide +kernel
theorem dX3_renew_2 : decode cX3_renew 2 = .ok (.iload_n 3, 1) := by decide +kernel
theorem dX3_renew_3 : decode cX3_renew 3 = .ok (.bipush 24, 2) := by decide +kernel
theorem dX3_renew_5 : decode cX3_renew 5 = .ok (.if_icmp .ge 16, 3) := by decide +kernel
theorem dX3_renew_8 : decode cX3_renew 8 = .ok (.aload_n 0, 1) := by decide +kernel
theorem dX3_renew_9 : decode cX3_renew 9 = .ok (.getfield 9, 3) := by decide +kernel
theorem dX3_renew_12 : decode cX3_renew 12 = .ok (.iload_n 3, 1) := by decide +kernel
theorem dX3_renew_13 : decode cX3_renew 13 = .ok (.lconst 0, 1) := by decide +kernel
theorem dX3_renew_14 : decode cX3_renew 14 = .ok (.lastore, 1) := by decide +kernel
theorem dX3_renew_15 : decode cX3_renew 15 = .ok (.iinc 3 1, 3) := by decide +kernel
theorem dX3_renew_18 : decode cX3_renew 18 = .ok (.goto (-16), 3) := by decide +kernel
theorem dX3_renew_21 : decode cX3_renew 21 = .ok (.aload_n 0, 1) := by decide +kernel
theorem dX3_renew_22 : decode cX3_renew 22 = .ok (.iload_n 1, 1) := by decide +kernel
theorem dX3_renew_23 : decode cX3_renew 23 = .ok (.putfield 15, 3) := by decide +kernel
theorem dX3_renew_26 : decode cX3_renew 26 = .ok (.aload_n 0, 1) := by decide +kernel
theorem dX3_renew_27 : decode cX3_renew 27 = .ok (.iload_n 2, 1) := by decide +kernel
theorem dX3_renew_28 : decode cX3_renew 28 = .ok (.putfield 19, 3) := by decide +kernel
theorem dX3_renew_31 : decode cX3_renew 31 = .ok (.return_, 1) := by decide +kernel
theorem dX3_remove_0 : decode cX3_remove 0 = .ok (.aload_n 0, 1) := by decide +kernel
theorem dX3_remove_1 : decode cX3_remove 1 = .ok (.iconst (-1), 1) := by decide +kernel
theorem dX3_remove_2 : decode cX3_remove 2 = .ok (.putfield 15, 3) := by decide +kernel
theorem dX3_remove_5 : decode cX3_remove 5 = .ok (.aload_n 0, 1) := by decide +kernel
theorem dX3_remove_6 : decode cX3_remove 6 = .ok (.iconst 0, 1) := by decide +kernel
theorem dX3_remove_7 : decode cX3_remove 7 = .ok (.putfield 19, 3) := by decide +kernel
theorem dX3_remove_10 : decode cX3_remove 10 = .ok (.return_, 1) := by decide +kernel
theorem dX3_isMissing_0 : decode cX3_isMissing 0 = .ok (.aload_n 0, 1) := by decide +kernel
theorem dX3_isMissing_1 : decode cX3_isMissing 1 = .ok (.getfield 15, 3) := by decide +kernel
theorem dX3_isMissing_4 : decode cX3_isMissing 4 = .ok (.iconst (-1), 1) := by decide +kernel
theorem dX3_isMissing_5 : decode cX3_isMissing 5 = .ok (.if_icmp .ne 7, 3) := by decide +kernel
theorem dX3_isMissing_8 : decode cX3_isMissing 8 = .ok (.iconst 1, 1) := by decide +kernel
theorem dX3_isMissing_9 : decode cX3_isMissing 9 = .ok (.goto 4, 3) := by decide +kernel
theorem dX3_isMissing_12 : decode cX3_isMissing 12 = .ok (.iconst 0, 1) := by decide +kernel
theorem dX3_isMissing_13 : decode cX3_isMissing 13 = .ok (.ireturn, 1) := by decide +kernel
theorem dX3_reaches_0 : decode cX3_reaches 0 = .ok (.iload_n 1, 1) := by decide +kernel
theorem dX3_reaches_1 : decode cX3_reaches 1 = .ok (.ifCond .lt 29, 3) := by decide +kernel
theorem dX3_reaches_4 : decode cX3_reaches 4 = .ok (.iload_n 2, 1) := by decide +kernel
theorem dX3_reaches_5 : decode cX3_reaches 5 = .ok (.ifCond .lt 25, 3) := by decide +kernel
theorem dX3_reaches_8 : decode cX3_reaches 8 = .ok (.iload_n 2, 1) := by decide +kernel
theorem dX3_reaches_9 : decode cX3_reaches 9 = .ok (.aload_n 0, 1) := by decide +kernel
theorem dX3_reaches_10 : decode cX3_reaches 10 = .ok (.getfield 19, 3) := by decide +kernel
theorem dX3_reaches_13 : decode cX3_reaches 13 = .ok (.if_icmp .gt 17, 3) := by decide +kernel
theorem dX3_reaches_16 : decode cX3_reaches 16 = .ok (.iload_n 1, 1) := by decide +kernel
theorem dX3_reaches_17 : decode cX3_reaches 17 = .ok (.aload_n 0, 1) := by decide +kernel
theorem dX3_reaches_18 : decode cX3_reaches 18 = .ok (.getfield 19, 3) := by decide +kernel
theorem dX3_reaches_21 : decode cX3_reaches 21 = .ok (.iload_n 2, 1) := by decide +kernel
theorem dX3_reaches_22 : decode cX3_reaches 22 = .ok (.isub, 1) := by decide +kernel
theorem dX3_reaches_23 : decode cX3_reaches 23 = .ok (.if_icmp .gt 7, 3) := by decide +kernel
theorem dX3_reaches_26 : decode cX3_reaches 26 = .ok (.iconst 1, 1) := by decide +kernel
theorem dX3_reaches_27 : decode cX3_reaches 27 = .ok (.goto 4, 3) := by decide +kernel
theorem dX3_reaches_30 : decode cX3_reaches 30 = .ok (.iconst 0, 1) := by decide +kernel
theorem dX3_reaches_31 : decode cX3_reaches 31 = .ok (.ireturn, 1) := by decide +kernel
theorem dX3_refusal_0 : decode cX3_refusal 0 = .ok (.aload_n 0, 1) := by decide +kernel
theorem dX3_refusal_1 : decode cX3_refusal 1 = .ok (.invokevirtual 22, 3) := by decide +kernel
theorem dX3_refusal_4 : decode cX3_refusal 4 = .ok (.ifCond .eq 6, 3) := by decide +kernel
theorem dX3_refusal_7 : decode cX3_refusal 7 = .ok (.bipush (-11), 2) := by decide +kernel
theorem dX3_refusal_9 : decode cX3_refusal 9 = .ok (.ireturn, 1) := by decide +kernel
theorem dX3_refusal_10 : decode cX3_refusal 10 = .ok (.aload_n 0, 1) := by decide +kernel
theorem dX3_refusal_11 : decode cX3_refusal 11 = .ok (.getfield 15, 3) := by decide +kernel
theorem dX3_refusal_14 : decode cX3_refusal 14 = .ok (.iload_n 1, 1) := by decide +kernel
theorem dX3_refusal_15 : decode cX3_refusal 15 = .ok (.if_icmp .eq 6, 3) := by decide +kernel
theorem dX3_refusal_18 : decode cX3_refusal 18 = .ok (.bipush (-12), 2) := by decide +kernel
theorem dX3_refusal_20 : decode cX3_refusal 20 = .ok (.ireturn, 1) := by decide +kernel
theorem dX3_refusal_21 : decode cX3_refusal 21 = .ok (.aload_n 0, 1) := by decide +kernel
theorem dX3_refusal_22 : decode cX3_refusal 22 = .ok (.iload_n 2, 1) := by decide +kernel
theorem dX3_refusal_23 : decode cX3_refusal 23 = .ok (.iload_n 3, 1) := by decide +kernel
theorem dX3_refusal_24 : decode cX3_refusal 24 = .ok (.invokevirtual 26, 3) := by decide +kernel
theorem dX3_refusal_27 : decode cX3_refusal 27 = .ok (.ifCond .eq 7, 3) := by decide +kernel
theorem dX3_refusal_30 : decode cX3_refusal 30 = .ok (.iconst 0, 1) := by decide +kernel
theorem dX3_refusal_31 : decode cX3_refusal 31 = .ok (.goto 5, 3) := by decide +kernel
theorem dX3_refusal_34 : decode cX3_refusal 34 = .ok (.bipush (-13), 2) := by decide +kernel
theorem dX3_refusal_36 : decode cX3_refusal 36 = .ok (.ireturn, 1) := by decide +kernel
theorem dX3_put_0 : decode cX3_put 0 = .ok (.aload_n 0, 1) := by decide +kernel
theorem dX3_put_1 : decode cX3_put 1 = .ok (.getfield 15, 3) := by decide +kernel
theorem dX3_put_4 : decode cX3_put 4 = .ok (.tableswitch 66 0 2 #[28, 41, 54], 28) := by decide +kernel
theorem dX3_put_32 : decode cX3_put 32 = .ok (.aload_n 0, 1) := by decide +kernel
theorem dX3_put_33 : decode cX3_put 33 = .ok (.getfield 9, 3) := by decide +kernel
theorem dX3_put_36 : decode cX3_put 36 = .ok (.iload_n 1, 1) := by decide +kernel
theorem dX3_put_37 : decode cX3_put 37 = .ok (.lload_n 2, 1) := by decide +kernel
theorem dX3_put_38 : decode cX3_put 38 = .ok (.l2i, 1) := by decide +kernel
theorem dX3_put_39 : decode cX3_put 39 = .ok (.i2b, 1) := by decide +kernel
theorem dX3_put_40 : decode cX3_put 40 = .ok (.i2l, 1) := by decide +kernel
theorem dX3_put_41 : decode cX3_put 41 = .ok (.lastore, 1) := by decide +kernel
theorem dX3_put_42 : decode cX3_put 42 = .ok (.goto 35, 3) := by decide +kernel
theorem dX3_put_45 : decode cX3_put 45 = .ok (.aload_n 0, 1) := by decide +kernel
theorem dX3_put_46 : decode cX3_put 46 = .ok (.getfield 9, 3) := by decide +kernel
theorem dX3_put_49 : decode cX3_put 49 = .ok (.iload_n 1, 1) := by decide +kernel
theorem dX3_put_50 : decode cX3_put 50 = .ok (.lload_n 2, 1) := by decide +kernel
theorem dX3_put_51 : decode cX3_put 51 = .ok (.l2i, 1) := by decide +kernel
theorem dX3_put_52 : decode cX3_put 52 = .ok (.i2s, 1) := by decide +kernel
theorem dX3_put_53 : decode cX3_put 53 = .ok (.i2l, 1) := by decide +kernel
theorem dX3_put_54 : decode cX3_put 54 = .ok (.lastore, 1) := by decide +kernel
theorem dX3_put_55 : decode cX3_put 55 = .ok (.goto 22, 3) := by decide +kernel
theorem dX3_put_58 : decode cX3_put 58 = .ok (.aload_n 0, 1) := by decide +kernel
theorem dX3_put_59 : decode cX3_put 59 = .ok (.getfield 9, 3) := by decide +kernel
theorem dX3_put_62 : decode cX3_put 62 = .ok (.iload_n 1, 1) := by decide +kernel
theorem dX3_put_63 : decode cX3_put 63 = .ok (.lload_n 2, 1) := by decide +kernel
theorem dX3_put_64 : decode cX3_put 64 = .ok (.l2i, 1) := by decide +kernel
theorem dX3_put_65 : decode cX3_put 65 = .ok (.i2l, 1) := by decide +kernel
theorem dX3_put_66 : decode cX3_put 66 = .ok (.lastore, 1) := by decide +kernel
theorem dX3_put_67 : decode cX3_put 67 = .ok (.goto 10, 3) := by decide +kernel
theorem dX3_put_70 : decode cX3_put 70 = .ok (.aload_n 0, 1) := by decide +kernel
theorem dX3_put_71 : decode cX3_put 71 = .ok (.getfield 9, 3) := by decide +kernel
theorem dX3_put_74 : decode cX3_put 74 = .ok (.iload_n 1, 1) := by decide +kernel
theorem dX3_put_75 : decode cX3_put 75 = .ok (.lload_n 2, 1) := by decide +kernel
theorem dX3_put_76 : decode cX3_put 76 = .ok (.lastore, 1) := by decide +kernel
theorem dX3_put_77 : decode cX3_put 77 = .ok (.return_, 1) := by decide +kernel
theorem dX4_init_0 : decode cX4_init 0 = .ok (.aload_n 0, 1) := by decide +kernel
theorem dX4_init_1 : decode cX4_init 1 = .ok (.invokespecial 3, 3) := by decide +kernel
theorem dX4_init_4 : decode cX4_init 4 = .ok (.aload_n 0, 1) := by decide +kernel
theorem dX4_init_5 : decode cX4_init 5 = .ok (.bipush 60, 2) := by decide +kernel
theorem dX4_init_7 : decode cX4_init 7 = .ok (.newarray .char, 2) := by decide +kernel
theorem dX4_init_9 : decode cX4_init 9 = .ok (.putfield 9, 3) := by decide +kernel
theorem dX4_init_12 : decode cX4_init 12 = .ok (.aload_n 0, 1) := by decide +kernel
theorem dX4_init_13 : decode cX4_init 13 = .ok (.iconst 0, 1) := by decide +kernel
theorem dX4_init_14 : decode cX4_init 14 = .ok (.putfield 15, 3) := by decide +kernel
theorem dX4_init_17 : decode cX4_init 17 = .ok (.aload_n 0, 1) := by decide +kernel
theorem dX4_init_18 : decode cX4_init 18 = .ok (.iconst 0, 1) := by decide +kernel
theorem dX4_init_19 : decode cX4_init 19 = .ok (.putfield 19, 3) := by decide +kernel
theorem dX4_init_22 : decode cX4_init 22 = .ok (.aload_n 0, 1) := by decide +kernel
theorem dX4_init_23 : decode cX4_init 23 = .ok (.iconst 0, 1) := by decide +kernel
theorem dX4_init_24 : decode cX4_init 24 = .ok (.putfield 22, 3) := by decide +kernel
theorem dX4_init_27 : decode cX4_init 27 = .ok (.return_, 1) := by decide +kernel
theorem dX4_put_0 : decode cX4_put 0 = .ok (.aload_n 0, 1) := by decide +kernel
theorem dX4_put_1 : decode cX4_put 1 = .ok (.getfield 15, 3) := by decide +kernel
theorem dX4_put_4 : decode cX4_put 4 = .ok (.bipush 60, 2) := by decide +kernel
theorem dX4_put_6 : decode cX4_put 6 = .ok (.if_icmp .lt 5, 3) := by decide +kernel
theorem dX4_put_9 : decode cX4_put 9 = .ok (.iconst 0, 1) := by decide +kernel
theorem dX4_put_10 : decode cX4_put 10 = .ok (.ireturn, 1) := by decide +kernel
theorem dX4_put_11 : decode cX4_put 11 = .ok (.aload_n 0, 1) := by decide +kernel
theorem dX4_put_12 : decode cX4_put 12 = .ok (.getfield 9, 3) := by decide +kernel
theorem dX4_put_15 : decode cX4_put 15 = .ok (.aload_n 0, 1) := by decide +kernel
theorem dX4_put_16 : decode cX4_put 16 = .ok (.getfield 15, 3) := by decide +kernel
theorem dX4_put_19 : decode cX4_put 19 = .ok (.iload_n 1, 1) := by decide +kernel
theorem dX4_put_20 : decode cX4_put 20 = .ok (.castore, 1) := by decide +kernel
theorem dX4_put_21 : decode cX4_put 21 = .ok (.aload_n 0, 1) := by decide +kernel
theorem dX4_put_22 : decode cX4_put 22 = .ok (.dup, 1) := by decide +kernel
theorem dX4_put_23 : decode cX4_put 23 = .ok (.getfield 15, 3) := by decide +kernel
theorem dX4_put_26 : decode cX4_put 26 = .ok (.iconst 1, 1) := by decide +kernel
theorem dX4_put_27 : decode cX4_put 27 = .ok (.iadd, 1) := by decide +kernel
theorem dX4_put_28 : decode cX4_put 28 = .ok (.putfield 15, 3) := by decide +kernel
theorem dX4_put_31 : decode cX4_put 31 = .ok (.iconst 1, 1) := by decide +kernel
theorem dX4_put_32 : decode cX4_put 32 = .ok (.ireturn, 1) := by decide +kernel
theorem dX4_readInto_0 : decode cX4_readInto 0 = .ok (.aload_n 0, 1) := by decide +kernel
theorem dX4_readInto_1 : decode cX4_readInto 1 = .ok (.iconst 0, 1) := by decide +kernel
theorem dX4_readInto_2 : decode cX4_readInto 2 = .ok (.putfield 19, 3) := by decide +kernel
theorem dX4_readInto_5 : decode cX4_readInto 5 = .ok (.aload_n 0, 1) := by decide +kernel
theorem dX4_readInto_6 : decode cX4_readInto 6 = .ok (.iconst 0, 1) := by decide +kernel
theorem dX4_readInto_7 : decode cX4_readInto 7 = .ok (.putfield 22, 3) := by decide +kernel
theorem dX4_readInto_10 : decode cX4_readInto 10 = .ok (.aload_n 1, 1) := by decide +kernel
theorem dX4_readInto_11 : decode cX4_readInto 11 = .ok (.invokevirtual 25, 3) := by decide +kernel
theorem dX4_readInto_14 : decode cX4_readInto 14 = .ok (.iconst 1, 1) := by decide +kernel
theorem dX4_readInto_15 : decode cX4_readInto 15 = .ok (.istore_n 2, 1) := by decide +kernel
theorem dX4_readInto_16 : decode cX4_readInto 16 = .ok (.iconst 1, 1) := by decide +kernel
theorem dX4_readInto_17 : decode cX4_readInto 17 = .ok (.istore_n 3, 1) := by decide +kernel
theorem dX4_readInto_18 : decode cX4_readInto 18 = .ok (.iload_n 2, 1) := by decide +kernel
theorem dX4_readInto_19 : decode cX4_readInto 19 = .ok (.ifCond .eq 41, 3) := by decide +kernel
theorem dX4_readInto_22 : decode cX4_readInto 22 = .ok (.iload_n 3, 1) := by decide +kernel
theorem dX4_readInto_23 : decode cX4_readInto 23 = .ok (.bipush 6, 2) := by decide +kernel
theorem dX4_readInto_25 : decode cX4_readInto 25 = .ok (.if_icmp .gt 35, 3) := by decide +kernel
theorem dX4_readInto_28 : decode cX4_readInto 28 = .ok (.aload_n 0, 1) := by decide +kernel
theorem dX4_readInto_29 : decode cX4_readInto 29 = .ok (.aload_n 1, 1) := by decide +kernel
theorem dX4_readInto_30 : decode cX4_readInto 30 = .ok (.invokevirtual 30, 3) := by decide +kernel
theorem dX4_readInto_33 : decode cX4_readInto 33 = .ok (.iload_n 3, 1) := by decide +kernel
theorem dX4_readInto_34 : decode cX4_readInto 34 = .ok (.bipush 6, 2) := by decide +kernel
theorem dX4_readInto_36 : decode cX4_readInto 36 = .ok (.if_icmp .ge 16, 3) := by decide +kernel
theorem dX4_readInto_39 : decode cX4_readInto 39 = .ok (.aload_n 0, 1) := by decide +kernel
theorem dX4_readInto_40 : decode cX4_readInto 40 = .ok (.bipush 44, 2) := by decide +kernel
theorem dX4_readInto_42 : decode cX4_readInto 42 = .ok (.invokevirtual 34, 3) := by decide +kernel
theorem dX4_readInto_45 : decode cX4_readInto 45 = .ok (.ifCond .eq 7, 3) := by decide +kernel
theorem dX4_readInto_48 : decode cX4_readInto 48 = .ok (.iconst 1, 1) := by decide +kernel
theorem dX4_readInto_49 : decode cX4_readInto 49 = .ok (.goto 4, 3) := by decide +kernel
theorem dX4_readInto_52 : decode cX4_readInto 52 = .ok (.iconst 0, 1) := by decide +kernel
theorem dX4_readInto_53 : decode cX4_readInto 53 = .ok (.istore_n 2, 1) := by decide +kernel
theorem dX4_readInto_54 : decode cX4_readInto 54 = .ok (.iinc 3 1, 3) := by decide +kernel
theorem dX4_readInto_57 : decode cX4_readInto 57 = .ok (.goto (-39), 3) := by decide +kernel
theorem dX4_readInto_60 : decode cX4_readInto 60 = .ok (.aload_n 0, 1) := by decide +kernel
theorem dX4_readInto_61 : decode cX4_readInto 61 = .ok (.getfield 22, 3) := by decide +kernel
theorem dX4_readInto_64 : decode cX4_readInto 64 = .ok (.ifCond .ne 18, 3) := by decide +kernel
theorem dX4_readInto_67 : decode cX4_readInto 67 = .ok (.aload_n 0, 1) := by decide +kernel
theorem dX4_readInto_68 : decode cX4_readInto 68 = .ok (.invokevirtual 38, 3) := by decide +kernel
theorem dX4_readInto_71 : decode cX4_readInto 71 = .ok (.ifCond .eq 11, 3) := by decide +kernel
theorem dX4_readInto_74 : decode cX4_readInto 74 = .ok (.aload_n 0, 1) := by decide +kernel
theorem dX4_readInto_75 : decode cX4_readInto 75 = .ok (.aload_n 0, 1) := by decide +kernel
theorem dX4_readInto_76 : decode cX4_readInto 76 = .ok (.getfield 19, 3) := by decide +kernel
theorem dX4_readInto_79 : decode cX4_readInto 79 = .ok (.invokevirtual 42, 3) := by decide +kernel
theorem dX4_readInto_82 : decode cX4_readInto 82 = .ok (.aload_n 0, 1) := by decide +kernel
theorem dX4_readInto_83 : decode cX4_readInto 83 = .ok (.getfield 22, 3) := by decide +kernel
theorem dX4_readInto_86 : decode cX4_readInto 86 = .ok (.ireturn, 1) := by decide +kernel
theorem dX4_readVillage_0 : decode cX4_readVillage 0 = .ok (.aload_n 0, 1) := by decide +kernel
theorem dX4_readVillage_1 : decode cX4_readVillage 1 = .ok (.invokevirtual 46, 3) := by decide +kernel
theorem dX4_readVillage_4 : decode cX4_readVillage 4 = .ok (.istore_n 2, 1) := by decide +kernel
theorem dX4_readVillage_5 : decode cX4_readVillage 5 = .ok (.aload_n 0, 1) := by decide +kernel
theorem dX4_readVillage_6 : decode cX4_readVillage 6 = .ok (.bipush 59, 2) := by decide +kernel
theorem dX4_readVillage_8 : decode cX4_readVillage 8 = .ok (.invokevirtual 50, 3) := by decide +kernel
theorem dX4_readVillage_11 : decode cX4_readVillage 11 = .ok (.istore_n 3, 1) := by decide +kernel
theorem dX4_readVillage_12 : decode cX4_readVillage 12 = .ok (.aload_n 0, 1) := by decide +kernel
theorem dX4_readVillage_13 : decode cX4_readVillage 13 = .ok (.invokevirtual 54, 3) := by decide +kernel
theorem dX4_readVillage_16 : decode cX4_readVillage 16 = .ok (.istore 4, 2) := by decide +kernel
theorem dX4_readVillage_18 : decode cX4_readVillage 18 = .ok (.aload_n 0, 1) := by decide +kernel
theorem dX4_readVillage_19 : decode cX4_readVillage 19 = .ok (.bipush 64, 2) := by decide +kernel
theorem dX4_readVillage_21 : decode cX4_readVillage 21 = .ok (.invokevirtual 34, 3) := by decide +kernel
theorem dX4_readVillage_24 : decode cX4_readVillage 24 = .ok (.ifCond .eq 12, 3) := by decide +kernel
theorem dX4_readVillage_27 : decode cX4_readVillage 27 = .ok (.aload_n 0, 1) := by decide +kernel
theorem dX4_readVillage_28 : decode cX4_readVillage 28 = .ok (.bipush 40, 2) := by decide +kernel
theorem dX4_readVillage_30 : decode cX4_readVillage 30 = .ok (.invokevirtual 50, 3) := by decide +kernel
theorem dX4_readVillage_33 : decode cX4_readVillage 33 = .ok (.goto 4, 3) := by decide +kernel
theorem dX4_readVillage_36 : decode cX4_readVillage 36 = .ok (.iconst 0, 1) := by decide +kernel
theorem dX4_readVillage_37 : decode cX4_readVillage 37 = .ok (.istore 5, 2) := by decide +kernel
theorem dX4_readVillage_39 : decode cX4_readVillage 39 = .ok (.aload_n 0, 1) := by decide +kernel
theorem dX4_readVillage_40 : decode cX4_readVillage 40 = .ok (.getfield 22, 3) := by decide +kernel
theorem dX4_readVillage_43 : decode cX4_readVillage 43 = .ok (.ifCond .ne 13, 3) := by decide +kernel
theorem dX4_readVillage_46 : decode cX4_readVillage 46 = .ok (.aload_n 1, 1) := by decide +kernel
theorem dX4_readVillage_47 : decode cX4_readVillage 47 = .ok (.iload_n 2, 1) := by decide +kernel
theorem dX4_readVillage_48 : decode cX4_readVillage 48 = .ok (.iload_n 3, 1) := by decide +kernel
theorem dX4_readVillage_49 : decode cX4_readVillage 49 = .ok (.iload 4, 2) := by decide +kernel
theorem dX4_readVillage_51 : decode cX4_readVillage 51 = .ok (.iload 5, 2) := by decide +kernel
theorem dX4_readVillage_53 : decode cX4_readVillage 53 = .ok (.invokevirtual 57, 3) := by decide +kernel
theorem dX4_readVillage_56 : decode cX4_readVillage 56 = .ok (.return_, 1) := by decide +kernel
theorem dX4_readKind_0 : decode cX4_readKind 0 = .ok (.aload_n 0, 1) := by decide +kernel
theorem dX4_readKind_1 : decode cX4_readKind 1 = .ok (.bipush 112, 2) := by decide +kernel
theorem dX4_readKind_3 : decode cX4_readKind 3 = .ok (.invokevirtual 34, 3) := by decide +kernel
theorem dX4_readKind_6 : decode cX4_readKind 6 = .ok (.ifCond .eq 5, 3) := by decide +kernel
theorem dX4_readKind_9 : decode cX4_readKind 9 = .ok (.iconst 0, 1) := by decide +kernel
theorem dX4_readKind_10 : decode cX4_readKind 10 = .ok (.ireturn, 1) := by decide +kernel
theorem dX4_readKind_11 : decode cX4_readKind 11 = .ok (.aload_n 0, 1) := by decide +kernel
theorem dX4_readKind_12 : decode cX4_readKind 12 = .ok (.bipush 115, 2) := by decide +kernel
theorem dX4_readKind_14 : decode cX4_readKind 14 = .ok (.invokevirtual 34, 3) := by decide +kernel
theorem dX4_readKind_17 : decode cX4_readKind 17 = .ok (.ifCond .eq 5, 3) := by decide +kernel
theorem dX4_readKind_20 : decode cX4_readKind 20 = .ok (.iconst 1, 1) := by decide +kernel
theorem dX4_readKind_21 : decode cX4_readKind 21 = .ok (.ireturn, 1) := by decide +kernel
theorem dX4_readKind_22 : decode cX4_readKind 22 = .ok (.aload_n 0, 1) := by decide +kernel
theorem dX4_readKind_23 : decode cX4_readKind 23 = .ok (.bipush 104, 2) := by decide +kernel
theorem dX4_readKind_25 : decode cX4_readKind 25 = .ok (.invokevirtual 34, 3) := by decide +kernel
theorem dX4_readKind_28 : decode cX4_readKind 28 = .ok (.ifCond .eq 5, 3) := by decide +kernel
theorem dX4_readKind_31 : decode cX4_readKind 31 = .ok (.iconst 2, 1) := by decide +kernel
theorem dX4_readKind_32 : decode cX4_readKind 32 = .ok (.ireturn, 1) := by decide +kernel
theorem dX4_readKind_33 : decode cX4_readKind 33 = .ok (.aload_n 0, 1) := by decide +kernel
theorem dX4_readKind_34 : decode cX4_readKind 34 = .ok (.bipush 102, 2) := by decide +kernel
theorem dX4_readKind_36 : decode cX4_readKind 36 = .ok (.invokevirtual 34, 3) := by decide +kernel
theorem dX4_readKind_39 : decode cX4_readKind 39 = .ok (.ifCond .eq 5, 3) := by decide +kernel
theorem dX4_readKind_42 : decode cX4_readKind 42 = .ok (.iconst 3, 1) := by decide +kernel
theorem dX4_readKind_43 : decode cX4_readKind 43 = .ok (.ireturn, 1) := by decide +kernel
theorem dX4_readKind_44 : decode cX4_readKind 44 = .ok (.aload_n 0, 1) := by decide +kernel
theorem dX4_readKind_45 : decode cX4_readKind 45 = .ok (.bipush 99, 2) := by decide +kernel
theorem dX4_readKind_47 : decode cX4_readKind 47 = .ok (.invokevirtual 34, 3) := by decide +kernel
theorem dX4_readKind_50 : decode cX4_readKind 50 = .ok (.ifCond .eq 5, 3) := by decide +kernel
theorem dX4_readKind_53 : decode cX4_readKind 53 = .ok (.iconst 4, 1) := by decide +kernel
theorem dX4_readKind_54 : decode cX4_readKind 54 = .ok (.ireturn, 1) := by decide +kernel
theorem dX4_readKind_55 : decode cX4_readKind 55 = .ok (.aload_n 0, 1) := by decide +kernel
theorem dX4_readKind_56 : decode cX4_readKind 56 = .ok (.aload_n 0, 1) := by decide +kernel
theorem dX4_readKind_57 : decode cX4_readKind 57 = .ok (.getfield 19, 3) := by decide +kernel
theorem dX4_readKind_60 : decode cX4_readKind 60 = .ok (.invokevirtual 42, 3) := by decide +kernel
theorem dX4_readKind_63 : decode cX4_readKind 63 = .ok (.iconst 0, 1) := by decide +kernel
theorem dX4_readKind_64 : decode cX4_readKind 64 = .ok (.ireturn, 1) := by decide +kernel
theorem dX4_readDrift_0 : decode cX4_readDrift 0 = .ok (.iconst 1, 1) := by decide +kernel
theorem dX4_readDrift_1 : decode cX4_readDrift 1 = .ok (.istore_n 1, 1) := by decide +kernel
theorem dX4_readDrift_2 : decode cX4_readDrift 2 = .ok (.aload_n 0, 1) := by decide +kernel
theorem dX4_readDrift_3 : decode cX4_readDrift 3 = .ok (.bipush 45, 2) := by decide +kernel
theorem dX4_readDrift_5 : decode cX4_readDrift 5 = .ok (.invokevirtual 34, 3) := by decide +kernel
theorem dX4_readDrift_8 : decode cX4_readDrift 8 = .ok (.ifCond .eq 8, 3) := by decide +kernel
theorem dX4_readDrift_11 : decode cX4_readDrift 11 = .ok (.iconst (-1), 1) := by decide +kernel
theorem dX4_readDrift_12 : decode cX4_readDrift 12 = .ok (.istore_n 1, 1) := by decide +kernel
theorem dX4_readDrift_13 : decode cX4_readDrift 13 = .ok (.goto 20, 3) := by decide +kernel
theorem dX4_readDrift_16 : decode cX4_readDrift 16 = .ok (.aload_n 0, 1) := by decide +kernel
theorem dX4_readDrift_17 : decode cX4_readDrift 17 = .ok (.bipush 43, 2) := by decide +kernel
theorem dX4_readDrift_19 : decode cX4_readDrift 19 = .ok (.invokevirtual 34, 3) := by decide +kernel
theorem dX4_readDrift_22 : decode cX4_readDrift 22 = .ok (.ifCond .ne 11, 3) := by decide +kernel
theorem dX4_readDrift_25 : decode cX4_readDrift 25 = .ok (.aload_n 0, 1) := by decide +kernel
theorem dX4_readDrift_26 : decode cX4_readDrift 26 = .ok (.aload_n 0, 1) := by decide +kernel
theorem dX4_readDrift_27 : decode cX4_readDrift 27 = .ok (.getfield 19, 3) := by decide +kernel
theorem dX4_readDrift_30 : decode cX4_readDrift 30 = .ok (.invokevirtual 42, 3) := by decide +kernel
theorem dX4_readDrift_33 : decode cX4_readDrift 33 = .ok (.aload_n 0, 1) := by decide +kernel
theorem dX4_readDrift_34 : decode cX4_readDrift 34 = .ok (.invokevirtual 38, 3) := by decide +kernel
theorem dX4_readDrift_37 : decode cX4_readDrift 37 = .ok (.invokestatic 61, 3) := by decide +kernel
theorem dX4_readDrift_40 : decode cX4_readDrift 40 = .ok (.ifCond .ne 11, 3) := by decide +kernel
theorem dX4_readDrift_43 : decode cX4_readDrift 43 = .ok (.aload_n 0, 1) := by decide +kernel
theorem dX4_readDrift_44 : decode cX4_readDrift 44 = .ok (.aload_n 0, 1) := by decide +kernel
theorem dX4_readDrift_45 : decode cX4_readDrift 45 = .ok (.getfield 19, 3) := by decide +kernel
theorem dX4_readDrift_48 : decode cX4_readDrift 48 = .ok (.invokevirtual 42, 3) := by decide +kernel
theorem dX4_readDrift_51 : decode cX4_readDrift 51 = .ok (.iload_n 1, 1) := by decide +kernel
theorem dX4_readDrift_52 : decode cX4_readDrift 52 = .ok (.aload_n 0, 1) := by decide +kernel
theorem dX4_readDrift_53 : decode cX4_readDrift 53 = .ok (.invokevirtual 64, 3) := by decide +kernel
theorem dX4_readDrift_56 : decode cX4_readDrift 56 = .ok (.imul, 1) := by decide +kernel
theorem dX4_readDrift_57 : decode cX4_readDrift 57 = .ok (.ireturn, 1) := by decide +kernel
theorem dX4_readNumber_0 : decode cX4_readNumber 0 = .ok (.aload_n 0, 1) := by decide +kernel
theorem dX4_readNumber_1 : decode cX4_readNumber 1 = .ok (.invokevirtual 38, 3) := by decide +kernel
theorem dX4_readNumber_4 : decode cX4_readNumber 4 = .ok (.invokestatic 61, 3) := by decide +kernel
theorem dX4_readNumber_7 : decode cX4_readNumber 7 = .ok (.ifCond .ne 11, 3) := by decide +kernel
theorem dX4_readNumber_10 : decode cX4_readNumber 10 = .ok (.aload_n 0, 1) := by decide +kernel
theorem dX4_readNumber_11 : decode cX4_readNumber 11 = .ok (.aload_n 0, 1) := by decide +kernel
theorem dX4_readNumber_12 : decode cX4_readNumber 12 = .ok (.getfield 19, 3) := by decide +kernel
theorem dX4_readNumber_15 : decode cX4_readNumber 15 = .ok (.invokevirtual 42, 3) := by decide +kernel
theorem dX4_readNumber_18 : decode cX4_readNumber 18 = .ok (.aload_n 0, 1) := by decide +kernel
theorem dX4_readNumber_19 : decode cX4_readNumber 19 = .ok (.getfield 19, 3) := by decide +kernel
theorem dX4_readNumber_22 : decode cX4_readNumber 22 = .ok (.istore_n 2, 1) := by decide +kernel
theorem dX4_readNumber_23 : decode cX4_readNumber 23 = .ok (.aload_n 0, 1) := by decide +kernel
theorem dX4_readNumber_24 : decode cX4_readNumber 24 = .ok (.invokevirtual 64, 3) := by decide +kernel
theorem dX4_readNumber_27 : decode cX4_readNumber 27 = .ok (.istore_n 3, 1) := by decide +kernel
theorem dX4_readNumber_28 : decode cX4_readNumber 28 = .ok (.aload_n 0, 1) := by decide +kernel
theorem dX4_readNumber_29 : decode cX4_readNumber 29 = .ok (.getfield 19, 3) := by decide +kernel
theorem dX4_readNumber_32 : decode cX4_readNumber 32 = .ok (.aload_n 0, 1) := by decide +kernel
theorem dX4_readNumber_33 : decode cX4_readNumber 33 = .ok (.getfield 15, 3) := by decide +kernel
theorem dX4_readNumber_36 : decode cX4_readNumber 36 = .ok (.if_icmp .ge 28, 3) := by decide +kernel
theorem dX4_readNumber_39 : decode cX4_readNumber 39 = .ok (.aload_n 0, 1) := by decide +kernel
theorem dX4_readNumber_40 : decode cX4_readNumber 40 = .ok (.getfield 9, 3) := by decide +kernel
theorem dX4_readNumber_43 : decode cX4_readNumber 43 = .ok (.aload_n 0, 1) := by decide +kernel
theorem dX4_readNumber_44 : decode cX4_readNumber 44 = .ok (.getfield 19, 3) := by decide +kernel
theorem dX4_readNumber_47 : decode cX4_readNumber 47 = .ok (.caload, 1) := by decide +kernel
theorem dX4_readNumber_48 : decode cX4_readNumber 48 = .ok (.invokestatic 61, 3) := by decide +kernel
theorem dX4_readNumber_51 : decode cX4_readNumber 51 = .ok (.ifCond .eq 13, 3) := by decide +kernel
theorem dX4_readNumber_54 : decode cX4_readNumber 54 = .ok (.iload_n 3, 1) := by decide +kernel
theorem dX4_readNumber_55 : decode cX4_readNumber 55 = .ok (.bipush 10, 2) := by decide +kernel
theorem dX4_readNumber_57 : decode cX4_readNumber 57 = .ok (.imul, 1) := by decide +kernel
theorem dX4_readNumber_58 : decode cX4_readNumber 58 = .ok (.aload_n 0, 1) := by decide +kernel
theorem dX4_readNumber_59 : decode cX4_readNumber 59 = .ok (.invokevirtual 64, 3) := by decide +kernel
theorem dX4_readNumber_62 : decode cX4_readNumber 62 = .ok (.iadd, 1) := by decide +kernel
theorem dX4_readNumber_63 : decode cX4_readNumber 63 = .ok (.istore_n 3, 1) := by decide +kernel
theorem dX4_readNumber_64 : decode cX4_readNumber 64 = .ok (.iload_n 3, 1) := by decide +kernel
theorem dX4_readNumber_65 : decode cX4_readNumber 65 = .ok (.iload_n 1, 1) := by decide +kernel
theorem dX4_readNumber_66 : decode cX4_readNumber 66 = .ok (.if_icmp .le 8, 3) := by decide +kernel
theorem dX4_readNumber_69 : decode cX4_readNumber 69 = .ok (.aload_n 0, 1) := by decide +kernel
theorem dX4_readNumber_70 : decode cX4_readNumber 70 = .ok (.iload_n 2, 1) := by decide +kernel
theorem dX4_readNumber_71 : decode cX4_readNumber 71 = .ok (.invokevirtual 42, 3) := by decide +kernel
theorem dX4_readNumber_74 : decode cX4_readNumber 74 = .ok (.iload_n 3, 1) := by decide +kernel
theorem dX4_readNumber_75 : decode cX4_readNumber 75 = .ok (.ireturn, 1) := by decide +kernel
theorem dX4_takeDigit_0 : decode cX4_takeDigit 0 = .ok (.aload_n 0, 1) := by decide +kernel
theorem dX4_takeDigit_1 : decode cX4_takeDigit 1 = .ok (.getfield 22, 3) := by decide +kernel
theorem dX4_takeDigit_4 : decode cX4_takeDigit 4 = .ok (.ifCond .ne 29, 3) := by decide +kernel
theorem dX4_takeDigit_7 : decode cX4_takeDigit 7 = .ok (.aload_n 0, 1) := by decide +kernel
theorem dX4_takeDigit_8 : decode cX4_takeDigit 8 = .ok (.getfield 19, 3) := by decide +kernel
theorem dX4_takeDigit_11 : decode cX4_takeDigit 11 = .ok (.aload_n 0, 1) := by decide +kernel
theorem dX4_takeDigit_12 : decode cX4_takeDigit 12 = .ok (.getfield 15, 3) := by decide +kernel
theorem dX4_takeDigit_15 : decode cX4_takeDigit 15 = .ok (.if_icmp .ge 18, 3) := by decide +kernel
theorem dX4_takeDigit_18 : decode cX4_takeDigit 18 = .ok (.aload_n 0, 1) := by decide +kernel
theorem dX4_takeDigit_19 : decode cX4_takeDigit 19 = .ok (.getfield 9, 3) := by decide +kernel
theorem dX4_takeDigit_22 : decode cX4_takeDigit 22 = .ok (.aload_n 0, 1) := by decide +kernel
theorem dX4_takeDigit_23 : decode cX4_takeDigit 23 = .ok (.getfield 19, 3) := by decide +kernel
theorem dX4_takeDigit_26 : decode cX4_takeDigit 26 = .ok (.caload, 1) := by decide +kernel
theorem dX4_takeDigit_27 : decode cX4_takeDigit 27 = .ok (.invokestatic 61, 3) := by decide +kernel
theorem dX4_takeDigit_30 : decode cX4_takeDigit 30 = .ok (.ifCond .ne 5, 3) := by decide +kernel
theorem dX4_takeDigit_33 : decode cX4_takeDigit 33 = .ok (.iconst 0, 1) := by decide +kernel
theorem dX4_takeDigit_34 : decode cX4_takeDigit 34 = .ok (.ireturn, 1) := by decide +kernel
theorem dX4_takeDigit_35 : decode cX4_takeDigit 35 = .ok (.aload_n 0, 1) := by decide +kernel
theorem dX4_takeDigit_36 : decode cX4_takeDigit 36 = .ok (.getfield 9, 3) := by decide +kernel
theorem dX4_takeDigit_39 : decode cX4_takeDigit 39 = .ok (.aload_n 0, 1) := by decide +kernel
theorem dX4_takeDigit_40 : decode cX4_takeDigit 40 = .ok (.getfield 19, 3) := by decide +kernel
theorem dX4_takeDigit_43 : decode cX4_takeDigit 43 = .ok (.caload, 1) := by decide +kernel
theorem dX4_takeDigit_44 : decode cX4_takeDigit 44 = .ok (.bipush 48, 2) := by decide +kernel
theorem dX4_takeDigit_46 : decode cX4_takeDigit 46 = .ok (.isub, 1) := by decide +kernel
theorem dX4_takeDigit_47 : decode cX4_takeDigit 47 = .ok (.istore_n 1, 1) := by decide +kernel
theorem dX4_takeDigit_48 : decode cX4_takeDigit 48 = .ok (.aload_n 0, 1) := by decide +kernel
theorem dX4_takeDigit_49 : decode cX4_takeDigit 49 = .ok (.dup, 1) := by decide +kernel
theorem dX4_takeDigit_50 : decode cX4_takeDigit 50 = .ok (.getfield 19, 3) := by decide +kernel
theorem dX4_takeDigit_53 : decode cX4_takeDigit 53 = .ok (.iconst 1, 1) := by decide +kernel
theorem dX4_takeDigit_54 : decode cX4_takeDigit 54 = .ok (.iadd, 1) := by decide +kernel
theorem dX4_takeDigit_55 : decode cX4_takeDigit 55 = .ok (.putfield 19, 3) := by decide +kernel
theorem dX4_takeDigit_58 : decode cX4_takeDigit 58 = .ok (.iload_n 1, 1) := by decide +kernel
theorem dX4_takeDigit_59 : decode cX4_takeDigit 59 = .ok (.ireturn, 1) := by decide +kernel
theorem dX4_takes_0 : decode cX4_takes 0 = .ok (.aload_n 0, 1) := by decide +kernel
theorem dX4_takes_1 : decode cX4_takes 1 = .ok (.getfield 22, 3) := by decide +kernel
theorem dX4_takes_4 : decode cX4_takes 4 = .ok (.ifCond .ne 11, 3) := by decide +kernel
theorem dX4_takes_7 : decode cX4_takes 7 = .ok (.aload_n 0, 1) := by decide +kernel
theorem dX4_takes_8 : decode cX4_takes 8 = .ok (.invokevirtual 38, 3) := by decide +kernel
theorem dX4_takes_11 : decode cX4_takes 11 = .ok (.iload_n 1, 1) := by decide +kernel
theorem dX4_takes_12 : decode cX4_takes 12 = .ok (.if_icmp .eq 5, 3) := by decide +kernel
theorem dX4_takes_15 : decode cX4_takes 15 = .ok (.iconst 0, 1) := by decide +kernel
theorem dX4_takes_16 : decode cX4_takes 16 = .ok (.ireturn, 1) := by decide +kernel
theorem dX4_takes_17 : decode cX4_takes 17 = .ok (.aload_n 0, 1) := by decide +kernel
theorem dX4_takes_18 : decode cX4_takes 18 = .ok (.dup, 1) := by decide +kernel
theorem dX4_takes_19 : decode cX4_takes 19 = .ok (.getfield 19, 3) := by decide +kernel
theorem dX4_takes_22 : decode cX4_takes 22 = .ok (.iconst 1, 1) := by decide +kernel
theorem dX4_takes_23 : decode cX4_takes 23 = .ok (.iadd, 1) := by decide +kernel
theorem dX4_takes_24 : decode cX4_takes 24 = .ok (.putfield 19, 3) := by decide +kernel
theorem dX4_takes_27 : decode cX4_takes 27 = .ok (.iconst 1, 1) := by decide +kernel
theorem dX4_takes_28 : decode cX4_takes 28 = .ok (.ireturn, 1) := by decide +kernel
theorem dX4_comingLetter_0 : decode cX4_comingLetter 0 = .ok (.aload_n 0, 1) := by decide +kernel
theorem dX4_comingLetter_1 : decode cX4_comingLetter 1 = .ok (.getfield 19, 3) := by decide +kernel
theorem dX4_comingLetter_4 : decode cX4_comingLetter 4 = .ok (.aload_n 0, 1) := by decide +kernel
theorem dX4_comingLetter_5 : decode cX4_comingLetter 5 = .ok (.getfield 15, 3) := by decide +kernel
theorem dX4_comingLetter_8 : decode cX4_comingLetter 8 = .ok (.if_icmp .ge 30, 3) := by decide +kernel
theorem dX4_comingLetter_11 : decode cX4_comingLetter 11 = .ok (.aload_n 0, 1) := by decide +kernel
theorem dX4_comingLetter_12 : decode cX4_comingLetter 12 = .ok (.getfield 9, 3) := by decide +kernel
theorem dX4_comingLetter_15 : decode cX4_comingLetter 15 = .ok (.aload_n 0, 1) := by decide +kernel
theorem dX4_comingLetter_16 : decode cX4_comingLetter 16 = .ok (.getfield 19, 3) := by decide +kernel
theorem dX4_comingLetter_19 : decode cX4_comingLetter 19 = .ok (.caload, 1) := by decide +kernel
theorem dX4_comingLetter_20 : decode cX4_comingLetter 20 = .ok (.bipush 32, 2) := by decide +kernel
theorem dX4_comingLetter_22 : decode cX4_comingLetter 22 = .ok (.if_icmp .ne 16, 3) := by decide +kernel
theorem dX4_comingLetter_25 : decode cX4_comingLetter 25 = .ok (.aload_n 0, 1) := by decide +kernel
theorem dX4_comingLetter_26 : decode cX4_comingLetter 26 = .ok (.dup, 1) := by decide +kernel
theorem dX4_comingLetter_27 : decode cX4_comingLetter 27 = .ok (.getfield 19, 3) := by decide +kernel
theorem dX4_comingLetter_30 : decode cX4_comingLetter 30 = .ok (.iconst 1, 1) := by decide +kernel
theorem dX4_comingLetter_31 : decode cX4_comingLetter 31 = .ok (.iadd, 1) := by decide +kernel
theorem dX4_comingLetter_32 : decode cX4_comingLetter 32 = .ok (.putfield 19, 3) := by decide +kernel
theorem dX4_comingLetter_35 : decode cX4_comingLetter 35 = .ok (.goto (-35), 3) := by decide +kernel
theorem dX4_comingLetter_38 : decode cX4_comingLetter 38 = .ok (.aload_n 0, 1) := by decide +kernel
theorem dX4_comingLetter_39 : decode cX4_comingLetter 39 = .ok (.getfield 19, 3) := by decide +kernel
theorem dX4_comingLetter_42 : decode cX4_comingLetter 42 = .ok (.aload_n 0, 1) := by decide +kernel
theorem dX4_comingLetter_43 : decode cX4_comingLetter 43 = .ok (.getfield 15, 3) := by decide +kernel
theorem dX4_comingLetter_46 : decode cX4_comingLetter 46 = .ok (.if_icmp .ge 15, 3) := by decide +kernel
theorem dX4_comingLetter_49 : decode cX4_comingLetter 49 = .ok (.aload_n 0, 1) := by decide +kernel
theorem dX4_comingLetter_50 : decode cX4_comingLetter 50 = .ok (.getfield 9, 3) := by decide +kernel
theorem dX4_comingLetter_53 : decode cX4_comingLetter 53 = .ok (.aload_n 0, 1) := by decide +kernel
theorem dX4_comingLetter_54 : decode cX4_comingLetter 54 = .ok (.getfield 19, 3) := by decide +kernel
theorem dX4_comingLetter_57 : decode cX4_comingLetter 57 = .ok (.caload, 1) := by decide +kernel
theorem dX4_comingLetter_58 : decode cX4_comingLetter 58 = .ok (.goto 4, 3) := by decide +kernel
theorem dX4_comingLetter_61 : decode cX4_comingLetter 61 = .ok (.iconst 0, 1) := by decide +kernel
theorem dX4_comingLetter_62 : decode cX4_comingLetter 62 = .ok (.ireturn, 1) := by decide +kernel
theorem dX4_faultAt_0 : decode cX4_faultAt 0 = .ok (.aload_n 0, 1) := by decide +kernel
theorem dX4_faultAt_1 : decode cX4_faultAt 1 = .ok (.getfield 22, 3) := by decide +kernel
theorem dX4_faultAt_4 : decode cX4_faultAt 4 = .ok (.ifCond .ne 11, 3) := by decide +kernel
theorem dX4_faultAt_7 : decode cX4_faultAt 7 = .ok (.aload_n 0, 1) := by decide +kernel
theorem dX4_faultAt_8 : decode cX4_faultAt 8 = .ok (.bipush (-20), 2) := by decide +kernel
theorem dX4_faultAt_10 : decode cX4_faultAt 10 = .ok (.iload_n 1, 1) := by decide +kernel
theorem dX4_faultAt_11 : decode cX4_faultAt 11 = .ok (.isub, 1) := by decide +kernel
theorem dX4_faultAt_12 : decode cX4_faultAt 12 = .ok (.putfield 22, 3) := by decide +kernel
theorem dX4_faultAt_15 : decode cX4_faultAt 15 = .ok (.return_, 1) := by decide +kernel
theorem dX4_isDigit_0 : decode cX4_isDigit 0 = .ok (.iload_n 0, 1) := by decide +kernel
theorem dX4_isDigit_1 : decode cX4_isDigit 1 = .ok (.bipush 48, 2) := by decide +kernel
theorem dX4_isDigit_3 : decode cX4_isDigit 3 = .ok (.if_icmp .lt 13, 3) := by decide +kernel
theorem dX4_isDigit_6 : decode cX4_isDigit 6 = .ok (.iload_n 0, 1) := by decide +kernel
theorem dX4_isDigit_7 : decode cX4_isDigit 7 = .ok (.bipush 57, 2) := by decide +kernel
theorem dX4_isDigit_9 : decode cX4_isDigit 9 = .ok (.if_icmp .gt 7, 3) := by decide +kernel
theorem dX4_isDigit_12 : decode cX4_isDigit 12 = .ok (.iconst 1, 1) := by decide +kernel
theorem dX4_isDigit_13 : decode cX4_isDigit 13 = .ok (.goto 4, 3) := by decide +kernel
theorem dX4_isDigit_16 : decode cX4_isDigit 16 = .ok (.iconst 0, 1) := by decide +kernel
theorem dX4_isDigit_17 : decode cX4_isDigit 17 = .ok (.ireturn, 1) := by decide +kernel
theorem dX5_init_0 : decode cX5_init 0 = .ok (.aload_n 0, 1) := by decide +kernel
theorem dX5_init_1 : decode cX5_init 1 = .ok (.invokespecial 3, 3) := by decide +kernel
theorem dX5_init_4 : decode cX5_init 4 = .ok (.aload_n 0, 1) := by decide +kernel
theorem dX5_init_5 : decode cX5_init 5 = .ok (.bipush 6, 2) := by decide +kernel
theorem dX5_init_7 : decode cX5_init 7 = .ok (.newarray .int, 2) := by decide +kernel
theorem dX5_init_9 : decode cX5_init 9 = .ok (.putfield 9, 3) := by decide +kernel
theorem dX5_init_12 : decode cX5_init 12 = .ok (.aload_n 0, 1) := by decide +kernel
theorem dX5_init_13 : decode cX5_init 13 = .ok (.bipush 6, 2) := by decide +kernel
theorem dX5_init_15 : decode cX5_init 15 = .ok (.newarray .int, 2) := by decide +kernel
theorem dX5_init_17 : decode cX5_init 17 = .ok (.putfield 15, 3) := by decide +kernel
theorem dX5_init_20 : decode cX5_init 20 = .ok (.aload_n 0, 1) := by decide +kernel
theorem dX5_init_21 : decode cX5_init 21 = .ok (.bipush 6, 2) := by decide +kernel
theorem dX5_init_23 : decode cX5_init 23 = .ok (.newarray .int, 2) := by decide +kernel
theorem dX5_init_25 : decode cX5_init 25 = .ok (.putfield 18, 3) := by decide +kernel
theorem dX5_init_28 : decode cX5_init 28 = .ok (.aload_n 0, 1) := by decide +kernel
theorem dX5_init_29 : decode cX5_init 29 = .ok (.bipush 6, 2) := by decide +kernel
theorem dX5_init_31 : decode cX5_init 31 = .ok (.newarray .int, 2) := by decide +kernel
theorem dX5_init_33 : decode cX5_init 33 = .ok (.putfield 21, 3) := by decide +kernel
theorem dX5_init_36 : decode cX5_init 36 = .ok (.aload_n 0, 1) := by decide +kernel
theorem dX5_init_37 : decode cX5_init 37 = .ok (.bipush 6, 2) := by decide +kernel
theorem dX5_init_39 : decode cX5_init 39 = .ok (.newarray .int, 2) := by decide +kernel
theorem dX5_init_41 : decode cX5_init 41 = .ok (.putfield 24, 3) := by decide +kernel
theorem dX5_init_44 : decode cX5_init 44 = .ok (.aload_n 0, 1) := by decide +kernel
theorem dX5_init_45 : decode cX5_init 45 = .ok (.iconst 0, 1) := by decide +kernel
theorem dX5_init_46 : decode cX5_init 46 = .ok (.putfield 27, 3) := by decide +kernel
theorem dX5_init_49 : decode cX5_init 49 = .ok (.aload_n 0, 1) := by decide +kernel
theorem dX5_init_50 : decode cX5_init 50 = .ok (.iconst 0, 1) := by decide +kernel
theorem dX5_init_51 : decode cX5_init 51 = .ok (.putfield 31, 3) := by decide +kernel
theorem dX5_init_54 : decode cX5_init 54 = .ok (.aload_n 0, 1) := by decide +kernel
theorem dX5_init_55 : decode cX5_init 55 = .ok (.iconst 1, 1) := by decide +kernel
theorem dX5_init_56 : decode cX5_init 56 = .ok (.putfield 34, 3) := by decide +kernel
theorem dX5_init_59 : decode cX5_init 59 = .ok (.return_, 1) := by decide +kernel
theorem dX5_becomeLike_0 : decode cX5_becomeLike 0 = .ok (.aload_n 1, 1) := by decide +kernel
theorem dX5_becomeLike_1 : decode cX5_becomeLike 1 = .ok (.getfield 9, 3) := by decide +kernel
theorem dX5_becomeLike_4 : decode cX5_becomeLike 4 = .ok (.iconst 0, 1) := by decide +kernel
theorem dX5_becomeLike_5 : decode cX5_becomeLike 5 = .ok (.aload_n 0, 1) := by decide +kernel
theorem dX5_becomeLike_6 : decode cX5_becomeLike 6 = .ok (.getfield 9, 3) := by decide +kernel
theorem dX5_becomeLike_9 : decode cX5_becomeLike 9 = .ok (.iconst 0, 1) := by decide +kernel
theorem dX5_becomeLike_10 : decode cX5_becomeLike 10 = .ok (.bipush 6, 2) := by decide +kernel
theorem dX5_becomeLike_12 : decode cX5_becomeLike 12 = .ok (.invokestatic 37, 3) := by decide +kernel
theorem dX5_becomeLike_15 : decode cX5_becomeLike 15 = .ok (.aload_n 1, 1) := by decide +kernel
theorem dX5_becomeLike_16 : decode cX5_becomeLike 16 = .ok (.getfield 15, 3) := by decide +kernel
theorem dX5_becomeLike_19 : decode cX5_becomeLike 19 = .ok (.iconst 0, 1) := by decide +kernel
theorem dX5_becomeLike_20 : decode cX5_becomeLike 20 = .ok (.aload_n 0, 1) := by decide +kernel
theorem dX5_becomeLike_21 : decode cX5_becomeLike 21 = .ok (.getfield 15, 3) := by decide +kernel
theorem dX5_becomeLike_24 : decode cX5_becomeLike 24 = .ok (.iconst 0, 1) := by decide +kernel
theorem dX5_becomeLike_25 : decode cX5_becomeLike 25 = .ok (.bipush 6, 2) := by decide +kernel
theorem dX5_becomeLike_27 : decode cX5_becomeLike 27 = .ok (.invokestatic 37, 3) := by decide +kernel
theorem dX5_becomeLike_30 : decode cX5_becomeLike 30 = .ok (.aload_n 1, 1) := by decide +kernel
theorem dX5_becomeLike_31 : decode cX5_becomeLike 31 = .ok (.getfield 18, 3) := by decide +kernel
theorem dX5_becomeLike_34 : decode cX5_becomeLike 34 = .ok (.iconst 0, 1) := by decide +kernel
theorem dX5_becomeLike_35 : decode cX5_becomeLike 35 = .ok (.aload_n 0, 1) := by decide +kernel
theorem dX5_becomeLike_36 : decode cX5_becomeLike 36 = .ok (.getfield 18, 3) := by decide +kernel
theorem dX5_becomeLike_39 : decode cX5_becomeLike 39 = .ok (.iconst 0, 1) := by decide +kernel
theorem dX5_becomeLike_40 : decode cX5_becomeLike 40 = .ok (.bipush 6, 2) := by decide +kernel
theorem dX5_becomeLike_42 : decode cX5_becomeLike 42 = .ok (.invokestatic 37, 3) := by decide +kernel
theorem dX5_becomeLike_45 : decode cX5_becomeLike 45 = .ok (.aload_n 1, 1) := by decide +kernel
theorem dX5_becomeLike_46 : decode cX5_becomeLike 46 = .ok (.getfield 21, 3) := by decide +kernel
theorem dX5_becomeLike_49 : decode cX5_becomeLike 49 = .ok (.iconst 0, 1) := by decide +kernel
theorem dX5_becomeLike_50 : decode cX5_becomeLike 50 = .ok (.aload_n 0, 1) := by decide +kernel
theorem dX5_becomeLike_51 : decode cX5_becomeLike 51 = .ok (.getfield 21, 3) := by decide +kernel
theorem dX5_becomeLike_54 : decode cX5_becomeLike 54 = .ok (.iconst 0, 1) := by decide +kernel
theorem dX5_becomeLike_55 : decode cX5_becomeLike 55 = .ok (.bipush 6, 2) := by decide +kernel
theorem dX5_becomeLike_57 : decode cX5_becomeLike 57 = .ok (.invokestatic 37, 3) := by decide +kernel
theorem dX5_becomeLike_60 : decode cX5_becomeLike 60 = .ok (.aload_n 0, 1) := by decide +kernel
theorem dX5_becomeLike_61 : decode cX5_becomeLike 61 = .ok (.aload_n 1, 1) := by decide +kernel
theorem dX5_becomeLike_62 : decode cX5_becomeLike 62 = .ok (.getfield 27, 3) := by decide +kernel
theorem dX5_becomeLike_65 : decode cX5_becomeLike 65 = .ok (.putfield 27, 3) := by decide +kernel
theorem dX5_becomeLike_68 : decode cX5_becomeLike 68 = .ok (.aload_n 0, 1) := by decide +kernel
theorem dX5_becomeLike_69 : decode cX5_becomeLike 69 = .ok (.aload_n 1, 1) := by decide +kernel
theorem dX5_becomeLike_70 : decode cX5_becomeLike 70 = .ok (.getfield 31, 3) := by decide +kernel
theorem dX5_becomeLike_73 : decode cX5_becomeLike 73 = .ok (.putfield 31, 3) := by decide +kernel
theorem dX5_becomeLike_76 : decode cX5_becomeLike 76 = .ok (.aload_n 0, 1) := by decide +kernel
theorem dX5_becomeLike_77 : decode cX5_becomeLike 77 = .ok (.aload_n 1, 1) := by decide +kernel
theorem dX5_becomeLike_78 : decode cX5_becomeLike 78 = .ok (.getfield 34, 3) := by decide +kernel
theorem dX5_becomeLike_81 : decode cX5_becomeLike 81 = .ok (.putfield 34, 3) := by decide +kernel
theorem dX5_becomeLike_84 : decode cX5_becomeLike 84 = .ok (.return_, 1) := by decide +kernel
theorem dX5_clear_0 : decode cX5_clear 0 = .ok (.aload_n 0, 1) := by decide +kernel
theorem dX5_clear_1 : decode cX5_clear 1 = .ok (.iconst 0, 1) := by decide +kernel
theorem dX5_clear_2 : decode cX5_clear 2 = .ok (.putfield 27, 3) := by decide +kernel
theorem dX5_clear_5 : decode cX5_clear 5 = .ok (.aload_n 0, 1) := by decide +kernel
theorem dX5_clear_6 : decode cX5_clear 6 = .ok (.iconst 0, 1) := by decide +kernel
theorem dX5_clear_7 : decode cX5_clear 7 = .ok (.putfield 31, 3) := by decide +kernel
theorem dX5_clear_10 : decode cX5_clear 10 = .ok (.return_, 1) := by decide +kernel
theorem dX5_build_0 : decode cX5_build 0 = .ok (.aload_n 0, 1) := by decide +kernel
theorem dX5_build_1 : decode cX5_build 1 = .ok (.getfield 27, 3) := by decide +kernel
theorem dX5_build_4 : decode cX5_build 4 = .ok (.bipush 6, 2) := by decide +kernel
theorem dX5_build_6 : decode cX5_build 6 = .ok (.if_icmp .ge 54, 3) := by decide +kernel
theorem dX5_build_9 : decode cX5_build 9 = .ok (.aload_n 0, 1) := by decide +kernel
theorem dX5_build_10 : decode cX5_build 10 = .ok (.getfield 9, 3) := by decide +kernel
theorem dX5_build_13 : decode cX5_build 13 = .ok (.aload_n 0, 1) := by decide +kernel
theorem dX5_build_14 : decode cX5_build 14 = .ok (.getfield 27, 3) := by decide +kernel
theorem dX5_build_17 : decode cX5_build 17 = .ok (.iload_n 1, 1) := by decide +kernel
theorem dX5_build_18 : decode cX5_build 18 = .ok (.iastore, 1) := by decide +kernel
theorem dX5_build_19 : decode cX5_build 19 = .ok (.aload_n 0, 1) := by decide +kernel
theorem dX5_build_20 : decode cX5_build 20 = .ok (.getfield 15, 3) := by decide +kernel
theorem dX5_build_23 : decode cX5_build 23 = .ok (.aload_n 0, 1) := by decide +kernel
theorem dX5_build_24 : decode cX5_build 24 = .ok (.getfield 27, 3) := by decide +kernel
theorem dX5_build_27 : decode cX5_build 27 = .ok (.iload_n 2, 1) := by decide +kernel
theorem dX5_build_28 : decode cX5_build 28 = .ok (.iastore, 1) := by decide +kernel
theorem dX5_build_29 : decode cX5_build 29 = .ok (.aload_n 0, 1) := by decide +kernel
theorem dX5_build_30 : decode cX5_build 30 = .ok (.getfield 18, 3) := by decide +kernel
theorem dX5_build_33 : decode cX5_build 33 = .ok (.aload_n 0, 1) := by decide +kernel
theorem dX5_build_34 : decode cX5_build 34 = .ok (.getfield 27, 3) := by decide +kernel
theorem dX5_build_37 : decode cX5_build 37 = .ok (.iload_n 3, 1) := by decide +kernel
theorem dX5_build_38 : decode cX5_build 38 = .ok (.iastore, 1) := by decide +kernel
theorem dX5_build_39 : decode cX5_build 39 = .ok (.aload_n 0, 1) := by decide +kernel
theorem dX5_build_40 : decode cX5_build 40 = .ok (.getfield 21, 3) := by decide +kernel
theorem dX5_build_43 : decode cX5_build 43 = .ok (.aload_n 0, 1) := by decide +kernel
theorem dX5_build_44 : decode cX5_build 44 = .ok (.getfield 27, 3) := by decide +kernel
theorem dX5_build_47 : decode cX5_build 47 = .ok (.iload 4, 2) := by decide +kernel
theorem dX5_build_49 : decode cX5_build 49 = .ok (.iastore, 1) := by decide +kernel
theorem dX5_build_50 : decode cX5_build 50 = .ok (.aload_n 0, 1) := by decide +kernel
theorem dX5_build_51 : decode cX5_build 51 = .ok (.dup, 1) := by decide +kernel
theorem dX5_build_52 : decode cX5_build 52 = .ok (.getfield 27, 3) := by decide +kernel
theorem dX5_build_55 : decode cX5_build 55 = .ok (.iconst 1, 1) := by decide +kernel
theorem dX5_build_56 : decode cX5_build 56 = .ok (.iadd, 1) := by decide +kernel
theorem dX5_build_57 : decode cX5_build 57 = .ok (.putfield 27, 3) := by decide +kernel
theorem dX5_build_60 : decode cX5_build 60 = .ok (.return_, 1) := by decide +kernel
theorem dX5_has_0 : decode cX5_has 0 = .ok (.iload_n 1, 1) := by decide +kernel
theorem dX5_has_1 : decode cX5_has 1 = .ok (.ifCond .lt 15, 3) := by decide +kernel
theorem dX5_has_4 : decode cX5_has 4 = .ok (.iload_n 1, 1) := by decide +kernel
theorem dX5_has_5 : decode cX5_has 5 = .ok (.aload_n 0, 1) := by decide +kernel
theorem dX5_has_6 : decode cX5_has 6 = .ok (.getfield 27, 3) := by decide +kernel
theorem dX5_has_9 : decode cX5_has 9 = .ok (.if_icmp .ge 7, 3) := by decide +kernel
theorem dX5_has_12 : decode cX5_has 12 = .ok (.iconst 1, 1) := by decide +kernel
theorem dX5_has_13 : decode cX5_has 13 = .ok (.goto 4, 3) := by decide +kernel
theorem dX5_has_16 : decode cX5_has 16 = .ok (.iconst 0, 1) := by decide +kernel
theorem dX5_has_17 : decode cX5_has 17 = .ok (.ireturn, 1) := by decide +kernel
theorem dX5_hasBoth_0 : decode cX5_hasBoth 0 = .ok (.aload_n 0, 1) := by decide +kernel
theorem dX5_hasBoth_1 : decode cX5_hasBoth 1 = .ok (.iload_n 1, 1) := by decide +kernel
theorem dX5_hasBoth_2 : decode cX5_hasBoth 2 = .ok (.invokevirtual 43, 3) := by decide +kernel
theorem dX5_hasBoth_5 : decode cX5_hasBoth 5 = .ok (.ifCond .eq 20, 3) := by decide +kernel
theorem dX5_hasBoth_8 : decode cX5_hasBoth 8 = .ok (.aload_n 0, 1) := by decide +kernel
theorem dX5_hasBoth_9 : decode cX5_hasBoth 9 = .ok (.iload_n 2, 1) := by decide +kernel
theorem dX5_hasBoth_10 : decode cX5_hasBoth 10 = .ok (.invokevirtual 43, 3) := by decide +kernel
theorem dX5_hasBoth_13 : decode cX5_hasBoth 13 = .ok (.ifCond .eq 12, 3) := by decide +kernel
theorem dX5_hasBoth_16 : decode cX5_hasBoth 16 = .ok (.iload_n 1, 1) := by decide +kernel
theorem dX5_hasBoth_17 : decode cX5_hasBoth 17 = .ok (.iload_n 2, 1) := by decide +kernel
theorem dX5_hasBoth_18 : decode cX5_hasBoth 18 = .ok (.if_icmp .eq 7, 3) := by decide +kernel
theorem dX5_hasBoth_21 : decode cX5_hasBoth 21 = .ok (.iconst 1, 1) := by decide +kernel
theorem dX5_hasBoth_22 : decode cX5_hasBoth 22 = .ok (.goto 4, 3) := by decide +kernel
theorem dX5_hasBoth_25 : decode cX5_hasBoth 25 = .ok (.iconst 0, 1) := by decide +kernel
theorem dX5_hasBoth_26 : decode cX5_hasBoth 26 = .ok (.ireturn, 1) := by decide +kernel
theorem dX5_gapBetween_0 : decode cX5_gapBetween 0 = .ok (.aload_n 0, 1) := by decide +kernel
theorem dX5_gapBetween_1 : decode cX5_gapBetween 1 = .ok (.getfield 15, 3) := by decide +kernel
theorem dX5_gapBetween_4 : decode cX5_gapBetween 4 = .ok (.iload_n 1, 1) := by decide +kernel
theorem dX5_gapBetween_5 : decode cX5_gapBetween 5 = .ok (.iaload, 1) := by decide +kernel
theorem dX5_gapBetween_6 : decode cX5_gapBetween 6 = .ok (.aload_n 0, 1) := by decide +kernel
theorem dX5_gapBetween_7 : decode cX5_gapBetween 7 = .ok (.getfield 15, 3) := by decide +kernel
theorem dX5_gapBetween_10 : decode cX5_gapBetween 10 = .ok (.iload_n 2, 1) := by decide +kernel
theorem dX5_gapBetween_11 : decode cX5_gapBetween 11 = .ok (.iaload, 1) := by decide +kernel
theorem dX5_gapBetween_12 : decode cX5_gapBetween 12 = .ok (.invokestatic 47, 3) := by decide +kernel
theorem dX5_gapBetween_15 : decode cX5_gapBetween 15 = .ok (.ireturn, 1) := by decide +kernel
theorem dX5_leastGap_0 : decode cX5_leastGap 0 = .ok (.bipush 30, 2) := by decide +kernel
theorem dX5_leastGap_2 : decode cX5_leastGap 2 = .ok (.istore_n 1, 1) := by decide +kernel
theorem dX5_leastGap_3 : decode cX5_leastGap 3 = .ok (.iconst 1, 1) := by decide +kernel
theorem dX5_leastGap_4 : decode cX5_leastGap 4 = .ok (.istore_n 2, 1) := by decide +kernel
theorem dX5_leastGap_5 : decode cX5_leastGap 5 = .ok (.iload_n 2, 1) := by decide +kernel
theorem dX5_leastGap_6 : decode cX5_leastGap 6 = .ok (.aload_n 0, 1) := by decide +kernel
theorem dX5_leastGap_7 : decode cX5_leastGap 7 = .ok (.getfield 27, 3) := by decide +kernel
theorem dX5_leastGap_10 : decode cX5_leastGap 10 = .ok (.if_icmp .ge 33, 3) := by decide +kernel
theorem dX5_leastGap_13 : decode cX5_leastGap 13 = .ok (.iconst 0, 1) := by decide +kernel
theorem dX5_leastGap_14 : decode cX5_leastGap 14 = .ok (.istore_n 3, 1) := by decide +kernel
theorem dX5_leastGap_15 : decode cX5_leastGap 15 = .ok (.iload_n 3, 1) := by decide +kernel
theorem dX5_leastGap_16 : decode cX5_leastGap 16 = .ok (.iload_n 2, 1) := by decide +kernel
theorem dX5_leastGap_17 : decode cX5_leastGap 17 = .ok (.if_icmp .ge 20, 3) := by decide +kernel
theorem dX5_leastGap_20 : decode cX5_leastGap 20 = .ok (.iload_n 1, 1) := by decide +kernel
theorem dX5_leastGap_21 : decode cX5_leastGap 21 = .ok (.aload_n 0, 1) := by decide +kernel
theorem dX5_leastGap_22 : decode cX5_leastGap 22 = .ok (.iload_n 2, 1) := by decide +kernel
theorem dX5_leastGap_23 : decode cX5_leastGap 23 = .ok (.iload_n 3, 1) := by decide +kernel
theorem dX5_leastGap_24 : decode cX5_leastGap 24 = .ok (.invokevirtual 51, 3) := by decide +kernel
theorem dX5_leastGap_27 : decode cX5_leastGap 27 = .ok (.invokestatic 54, 3) := by decide +kernel
theorem dX5_leastGap_30 : decode cX5_leastGap 30 = .ok (.istore_n 1, 1) := by decide +kernel
theorem dX5_leastGap_31 : decode cX5_leastGap 31 = .ok (.iinc 3 1, 3) := by decide +kernel
theorem dX5_leastGap_34 : decode cX5_leastGap 34 = .ok (.goto (-19), 3) := by decide +kernel
theorem dX5_leastGap_37 : decode cX5_leastGap 37 = .ok (.iinc 2 1, 3) := by decide +kernel
theorem dX5_leastGap_40 : decode cX5_leastGap 40 = .ok (.goto (-35), 3) := by decide +kernel
theorem dX5_leastGap_43 : decode cX5_leastGap 43 = .ok (.iload_n 1, 1) := by decide +kernel
theorem dX5_leastGap_44 : decode cX5_leastGap 44 = .ok (.ireturn, 1) := by decide +kernel
theorem dX5_ringersWith_0 : decode cX5_ringersWith 0 = .ok (.iconst 0, 1) := by decide +kernel
theorem dX5_ringersWith_1 : decode cX5_ringersWith 1 = .ok (.istore_n 2, 1) := by decide +kernel
theorem dX5_ringersWith_2 : decode cX5_ringersWith 2 = .ok (.iconst 0, 1) := by decide +kernel
theorem dX5_ringersWith_3 : decode cX5_ringersWith 3 = .ok (.istore_n 3, 1) := by decide +kernel
theorem dX5_ringersWith_4 : decode cX5_ringersWith 4 = .ok (.iload_n 3, 1) := by decide +kernel
theorem dX5_ringersWith_5 : decode cX5_ringersWith 5 = .ok (.aload_n 0, 1) := by decide +kernel
theorem dX5_ringersWith_6 : decode cX5_ringersWith 6 = .ok (.getfield 27, 3) := by decide +kernel
theorem dX5_ringersWith_9 : decode cX5_ringersWith 9 = .ok (.if_icmp .ge 35, 3) := by decide +kernel
theorem dX5_ringersWith_12 : decode cX5_ringersWith 12 = .ok (.iload_n 3, 1) := by decide +kernel
theorem dX5_ringersWith_13 : decode cX5_ringersWith 13 = .ok (.iload_n 1, 1) := by decide +kernel
theorem dX5_ringersWith_14 : decode cX5_ringersWith 14 = .ok (.if_icmp .eq 24, 3) := by decide +kernel
theorem dX5_ringersWith_17 : decode cX5_ringersWith 17 = .ok (.aload_n 0, 1) := by decide +kernel
theorem dX5_ringersWith_18 : decode cX5_ringersWith 18 = .ok (.getfield 15, 3) := by decide +kernel
theorem dX5_ringersWith_21 : decode cX5_ringersWith 21 = .ok (.iload_n 3, 1) := by decide +kernel
theorem dX5_ringersWith_22 : decode cX5_ringersWith 22 = .ok (.iaload, 1) := by decide +kernel
theorem dX5_ringersWith_23 : decode cX5_ringersWith 23 = .ok (.aload_n 0, 1) := by decide +kernel
theorem dX5_ringersWith_24 : decode cX5_ringersWith 24 = .ok (.getfield 15, 3) := by decide +kernel
theorem dX5_ringersWith_27 : decode cX5_ringersWith 27 = .ok (.iload_n 1, 1) := by decide +kernel
theorem dX5_ringersWith_28 : decode cX5_ringersWith 28 = .ok (.iaload, 1) := by decide +kernel
theorem dX5_ringersWith_29 : decode cX5_ringersWith 29 = .ok (.if_icmp .ne 9, 3) := by decide +kernel
theorem dX5_ringersWith_32 : decode cX5_ringersWith 32 = .ok (.iload_n 2, 1) := by decide +kernel
theorem dX5_ringersWith_33 : decode cX5_ringersWith 33 = .ok (.iconst 1, 1) := by decide +kernel
theorem dX5_ringersWith_34 : decode cX5_ringersWith 34 = .ok (.iload_n 3, 1) := by decide +kernel
theorem dX5_ringersWith_35 : decode cX5_ringersWith 35 = .ok (.ishl, 1) := by decide +kernel
theorem dX5_ringersWith_36 : decode cX5_ringersWith 36 = .ok (.ior, 1) := by decide +kernel
theorem dX5_ringersWith_37 : decode cX5_ringersWith 37 = .ok (.istore_n 2, 1) := by decide +kernel
theorem dX5_ringersWith_38 : decode cX5_ringersWith 38 = .ok (.iinc 3 1, 3) := by decide +kernel
theorem dX5_ringersWith_41 : decode cX5_ringersWith 41 = .ok (.goto (-37), 3) := by decide +kernel
theorem dX5_ringersWith_44 : decode cX5_ringersWith 44 = .ok (.iload_n 2, 1) := by decide +kernel
theorem dX5_ringersWith_45 : decode cX5_ringersWith 45 = .ok (.ireturn, 1) := by decide +kernel
theorem dX5_ringers_0 : decode cX5_ringers 0 = .ok (.iconst 0, 1) := by decide +kernel
theorem dX5_ringers_1 : decode cX5_ringers 1 = .ok (.istore_n 1, 1) := by decide +kernel
theorem dX5_ringers_2 : decode cX5_ringers 2 = .ok (.iconst 0, 1) := by decide +kernel
theorem dX5_ringers_3 : decode cX5_ringers 3 = .ok (.istore_n 2, 1) := by decide +kernel
theorem dX5_ringers_4 : decode cX5_ringers 4 = .ok (.iload_n 2, 1) := by decide +kernel
theorem dX5_ringers_5 : decode cX5_ringers 5 = .ok (.aload_n 0, 1) := by decide +kernel
theorem dX5_ringers_6 : decode cX5_ringers 6 = .ok (.getfield 27, 3) := by decide +kernel
theorem dX5_ringers_9 : decode cX5_ringers 9 = .ok (.if_icmp .ge 17, 3) := by decide +kernel
theorem dX5_ringers_12 : decode cX5_ringers 12 = .ok (.iload_n 1, 1) := by decide +kernel
theorem dX5_ringers_13 : decode cX5_ringers 13 = .ok (.aload_n 0, 1) := by decide +kernel
theorem dX5_ringers_14 : decode cX5_ringers 14 = .ok (.iload_n 2, 1) := by decide +kernel
theorem dX5_ringers_15 : decode cX5_ringers 15 = .ok (.invokevirtual 59, 3) := by decide +kernel
theorem dX5_ringers_18 : decode cX5_ringers 18 = .ok (.ior, 1) := by decide +kernel
theorem dX5_ringers_19 : decode cX5_ringers 19 = .ok (.istore_n 1, 1) := by decide +kernel
theorem dX5_ringers_20 : decode cX5_ringers 20 = .ok (.iinc 2 1, 3) := by decide +kernel
theorem dX5_ringers_23 : decode cX5_ringers 23 = .ok (.goto (-19), 3) := by decide +kernel
theorem dX5_ringers_26 : decode cX5_ringers 26 = .ok (.iload_n 1, 1) := by decide +kernel
theorem dX5_ringers_27 : decode cX5_ringers 27 = .ok (.ireturn, 1) := by decide +kernel
theorem dX5_sumOf_0 : decode cX5_sumOf 0 = .ok (.iconst 0, 1) := by decide +kernel
theorem dX5_sumOf_1 : decode cX5_sumOf 1 = .ok (.istore_n 2, 1) := by decide +kernel
theorem dX5_sumOf_2 : decode cX5_sumOf 2 = .ok (.iconst 0, 1) := by decide +kernel
theorem dX5_sumOf_3 : decode cX5_sumOf 3 = .ok (.istore_n 3, 1) := by decide +kernel
theorem dX5_sumOf_4 : decode cX5_sumOf 4 = .ok (.iload_n 3, 1) := by decide +kernel
theorem dX5_sumOf_5 : decode cX5_sumOf 5 = .ok (.aload_n 0, 1) := by decide +kernel
theorem dX5_sumOf_6 : decode cX5_sumOf 6 = .ok (.getfield 27, 3) := by decide +kernel
theorem dX5_sumOf_9 : decode cX5_sumOf 9 = .ok (.if_icmp .ge 15, 3) := by decide +kernel
theorem dX5_sumOf_12 : decode cX5_sumOf 12 = .ok (.iload_n 2, 1) := by decide +kernel
theorem dX5_sumOf_13 : decode cX5_sumOf 13 = .ok (.aload_n 1, 1) := by decide +kernel
theorem dX5_sumOf_14 : decode cX5_sumOf 14 = .ok (.iload_n 3, 1) := by decide +kernel
theorem dX5_sumOf_15 : decode cX5_sumOf 15 = .ok (.iaload, 1) := by decide +kernel
theorem dX5_sumOf_16 : decode cX5_sumOf 16 = .ok (.iadd, 1) := by decide +kernel
theorem dX5_sumOf_17 : decode cX5_sumOf 17 = .ok (.istore_n 2, 1) := by decide +kernel
theorem dX5_sumOf_18 : decode cX5_sumOf 18 = .ok (.iinc 3 1, 3) := by decide +kernel
theorem dX5_sumOf_21 : decode cX5_sumOf 21 = .ok (.goto (-17), 3) := by decide +kernel
theorem dX5_sumOf_24 : decode cX5_sumOf 24 = .ok (.iload_n 2, 1) := by decide +kernel
theorem dX5_sumOf_25 : decode cX5_sumOf 25 = .ok (.ireturn, 1) := by decide +kernel
theorem dX5_isFree_0 : decode cX5_isFree 0 = .ok (.iconst 0, 1) := by decide +kernel
theorem dX5_isFree_1 : decode cX5_isFree 1 = .ok (.istore_n 3, 1) := by decide +kernel
theorem dX5_isFree_2 : decode cX5_isFree 2 = .ok (.iload_n 3, 1) := by decide +kernel
theorem dX5_isFree_3 : decode cX5_isFree 3 = .ok (.aload_n 0, 1) := by decide +kernel
theorem dX5_isFree_4 : decode cX5_isFree 4 = .ok (.getfield 27, 3) := by decide +kernel
theorem dX5_isFree_7 : decode cX5_isFree 7 = .ok (.if_icmp .ge 25, 3) := by decide +kernel
theorem dX5_isFree_10 : decode cX5_isFree 10 = .ok (.iload_n 1, 1) := by decide +kernel
theorem dX5_isFree_11 : decode cX5_isFree 11 = .ok (.aload_n 0, 1) := by decide +kernel
end
section
theorem dX5_isFree_12 : decode cX5_isFree 12 = .ok (.getfield 15, 3) := by decide +kernel
theorem dX5_isFree_15 : decode cX5_isFree 15 = .ok (.iload_n 3, 1) := by decide +kernel
theorem dX5_isFree_16 : decode cX5_isFree 16 = .ok (.iaload, 1) := by decide +kernel
theorem dX5_isFree_17 : decode cX5_isFree 17 = .ok (.invokestatic 47, 3) := by decide +kernel
theorem dX5_isFree_20 : decode cX5_isFree 20 = .ok (.iload_n 2, 1) := by decide +kernel
theorem dX5_isFree_21 : decode cX5_isFree 21 = .ok (.if_icmp .ge 5, 3) := by decide +kernel
theorem dX5_isFree_24 : decode cX5_isFree 24 = .ok (.iconst 0, 1) := by decide +kernel
theorem dX5_isFree_25 : decode cX5_isFree 25 = .ok (.ireturn, 1) := by decide +kernel
theorem dX5_isFree_26 : decode cX5_isFree 26 = .ok (.iinc 3 1, 3) := by decide +kernel
theorem dX5_isFree_29 : decode cX5_isFree 29 = .ok (.goto (-27), 3) := by decide +kernel
theorem dX5_isFree_32 : decode cX5_isFree 32 = .ok (.iconst 1, 1) := by decide +kernel
theorem dX5_isFree_33 : decode cX5_isFree 33 = .ok (.ireturn, 1) := by decide +kernel
theorem dX5_isApartWith_0 : decode cX5_isApartWith 0 = .ok (.lconst 0, 1) := by decide +kernel
theorem dX5_isApartWith_1 : decode cX5_isApartWith 1 = .ok (.lstore_n 2, 1) := by decide +kernel
theorem dX5_isApartWith_2 : decode cX5_isApartWith 2 = .ok (.iconst 0, 1) := by decide +kernel
theorem dX5_isApartWith_3 : decode cX5_isApartWith 3 = .ok (.istore 4, 2) := by decide +kernel
theorem dX5_isApartWith_5 : decode cX5_isApartWith 5 = .ok (.iload 4, 2) := by decide +kernel
theorem dX5_isApartWith_7 : decode cX5_isApartWith 7 = .ok (.aload_n 0, 1) := by decide +kernel
theorem dX5_isApartWith_8 : decode cX5_isApartWith 8 = .ok (.getfield 27, 3) := by decide +kernel
theorem dX5_isApartWith_11 : decode cX5_isApartWith 11 = .ok (.if_icmp .ge 62, 3) := by decide +kernel
theorem dX5_isApartWith_14 : decode cX5_isApartWith 14 = .ok (.iload_n 1, 1) := by decide +kernel
theorem dX5_isApartWith_15 : decode cX5_isApartWith 15 = .ok (.iload 4, 2) := by decide +kernel
theorem dX5_isApartWith_17 : decode cX5_isApartWith 17 = .ok (.invokestatic 63, 3) := by decide +kernel
theorem dX5_isApartWith_20 : decode cX5_isApartWith 20 = .ok (.ifCond .eq 18, 3) := by decide +kernel
theorem dX5_isApartWith_23 : decode cX5_isApartWith 23 = .ok (.aload_n 0, 1) := by decide +kernel
theorem dX5_isApartWith_24 : decode cX5_isApartWith 24 = .ok (.getfield 15, 3) := by decide +kernel
theorem dX5_isApartWith_27 : decode cX5_isApartWith 27 = .ok (.iload 4, 2) := by decide +kernel
theorem dX5_isApartWith_29 : decode cX5_isApartWith 29 = .ok (.iaload, 1) := by decide +kernel
theorem dX5_isApartWith_30 : decode cX5_isApartWith 30 = .ok (.iconst 1, 1) := by decide +kernel
theorem dX5_isApartWith_31 : decode cX5_isApartWith 31 = .ok (.iadd, 1) := by decide +kernel
theorem dX5_isApartWith_32 : decode cX5_isApartWith 32 = .ok (.invokestatic 67, 3) := by decide +kernel
theorem dX5_isApartWith_35 : decode cX5_isApartWith 35 = .ok (.goto 10, 3) := by decide +kernel
theorem dX5_isApartWith_38 : decode cX5_isApartWith 38 = .ok (.aload_n 0, 1) := by decide +kernel
theorem dX5_isApartWith_39 : decode cX5_isApartWith 39 = .ok (.getfield 15, 3) := by decide +kernel
theorem dX5_isApartWith_42 : decode cX5_isApartWith 42 = .ok (.iload 4, 2) := by decide +kernel
theorem dX5_isApartWith_44 : decode cX5_isApartWith 44 = .ok (.iaload, 1) := by decide +kernel
theorem dX5_isApartWith_45 : decode cX5_isApartWith 45 = .ok (.istore 5, 2) := by decide +kernel
theorem dX5_isApartWith_47 : decode cX5_isApartWith 47 = .ok (.lload_n 2, 1) := by decide +kernel
theorem dX5_isApartWith_48 : decode cX5_isApartWith 48 = .ok (.iload 5, 2) := by decide +kernel
theorem dX5_isApartWith_50 : decode cX5_isApartWith 50 = .ok (.lshr, 1) := by decide +kernel
theorem dX5_isApartWith_51 : decode cX5_isApartWith 51 = .ok (.lconst 1, 1) := by decide +kernel
theorem dX5_isApartWith_52 : decode cX5_isApartWith 52 = .ok (.land, 1) := by decide +kernel
theorem dX5_isApartWith_53 : decode cX5_isApartWith 53 = .ok (.lconst 0, 1) := by decide +kernel
theorem dX5_isApartWith_54 : decode cX5_isApartWith 54 = .ok (.lcmp, 1) := by decide +kernel
theorem dX5_isApartWith_55 : decode cX5_isApartWith 55 = .ok (.ifCond .eq 5, 3) := by decide +kernel
theorem dX5_isApartWith_58 : decode cX5_isApartWith 58 = .ok (.iconst 0, 1) := by decide +kernel
theorem dX5_isApartWith_59 : decode cX5_isApartWith 59 = .ok (.ireturn, 1) := by decide +kernel
theorem dX5_isApartWith_60 : decode cX5_isApartWith 60 = .ok (.lload_n 2, 1) := by decide +kernel
theorem dX5_isApartWith_61 : decode cX5_isApartWith 61 = .ok (.lconst 1, 1) := by decide +kernel
theorem dX5_isApartWith_62 : decode cX5_isApartWith 62 = .ok (.iload 5, 2) := by decide +kernel
theorem dX5_isApartWith_64 : decode cX5_isApartWith 64 = .ok (.lshl, 1) := by decide +kernel
theorem dX5_isApartWith_65 : decode cX5_isApartWith 65 = .ok (.lor, 1) := by decide +kernel
theorem dX5_isApartWith_66 : decode cX5_isApartWith 66 = .ok (.lstore_n 2, 1) := by decide +kernel
theorem dX5_isApartWith_67 : decode cX5_isApartWith 67 = .ok (.iinc 4 1, 3) := by decide +kernel
theorem dX5_isApartWith_70 : decode cX5_isApartWith 70 = .ok (.goto (-65), 3) := by decide +kernel
theorem dX5_isApartWith_73 : decode cX5_isApartWith 73 = .ok (.iconst 1, 1) := by decide +kernel
theorem dX5_isApartWith_74 : decode cX5_isApartWith 74 = .ok (.ireturn, 1) := by decide +kernel
theorem dX5_ringsLike_0 : decode cX5_ringsLike 0 = .ok (.iconst 0, 1) := by decide +kernel
theorem dX5_ringsLike_1 : decode cX5_ringsLike 1 = .ok (.istore_n 2, 1) := by decide +kernel
theorem dX5_ringsLike_2 : decode cX5_ringsLike 2 = .ok (.iload_n 2, 1) := by decide +kernel
theorem dX5_ringsLike_3 : decode cX5_ringsLike 3 = .ok (.aload_n 0, 1) := by decide +kernel
theorem dX5_ringsLike_4 : decode cX5_ringsLike 4 = .ok (.getfield 27, 3) := by decide +kernel
theorem dX5_ringsLike_7 : decode cX5_ringsLike 7 = .ok (.if_icmp .ge 26, 3) := by decide +kernel
theorem dX5_ringsLike_10 : decode cX5_ringsLike 10 = .ok (.aload_n 0, 1) := by decide +kernel
theorem dX5_ringsLike_11 : decode cX5_ringsLike 11 = .ok (.getfield 15, 3) := by decide +kernel
theorem dX5_ringsLike_14 : decode cX5_ringsLike 14 = .ok (.iload_n 2, 1) := by decide +kernel
theorem dX5_ringsLike_15 : decode cX5_ringsLike 15 = .ok (.iaload, 1) := by decide +kernel
theorem dX5_ringsLike_16 : decode cX5_ringsLike 16 = .ok (.aload_n 1, 1) := by decide +kernel
theorem dX5_ringsLike_17 : decode cX5_ringsLike 17 = .ok (.getfield 15, 3) := by decide +kernel
theorem dX5_ringsLike_20 : decode cX5_ringsLike 20 = .ok (.iload_n 2, 1) := by decide +kernel
theorem dX5_ringsLike_21 : decode cX5_ringsLike 21 = .ok (.iaload, 1) := by decide +kernel
theorem dX5_ringsLike_22 : decode cX5_ringsLike 22 = .ok (.if_icmp .eq 5, 3) := by decide +kernel
theorem dX5_ringsLike_25 : decode cX5_ringsLike 25 = .ok (.iconst 0, 1) := by decide +kernel
theorem dX5_ringsLike_26 : decode cX5_ringsLike 26 = .ok (.ireturn, 1) := by decide +kernel
theorem dX5_ringsLike_27 : decode cX5_ringsLike 27 = .ok (.iinc 2 1, 3) := by decide +kernel
theorem dX5_ringsLike_30 : decode cX5_ringsLike 30 = .ok (.goto (-28), 3) := by decide +kernel
theorem dX5_ringsLike_33 : decode cX5_ringsLike 33 = .ok (.iconst 1, 1) := by decide +kernel
theorem dX5_ringsLike_34 : decode cX5_ringsLike 34 = .ok (.ireturn, 1) := by decide +kernel
theorem dX5_laterBy_0 : decode cX5_laterBy 0 = .ok (.aload_n 0, 1) := by decide +kernel
theorem dX5_laterBy_1 : decode cX5_laterBy 1 = .ok (.getfield 9, 3) := by decide +kernel
theorem dX5_laterBy_4 : decode cX5_laterBy 4 = .ok (.iload_n 1, 1) := by decide +kernel
theorem dX5_laterBy_5 : decode cX5_laterBy 5 = .ok (.iaload, 1) := by decide +kernel
theorem dX5_laterBy_6 : decode cX5_laterBy 6 = .ok (.tableswitch 90 0 4 #[90, 34, 40, 46, 70], 34) := by decide +kernel
theorem dX5_laterBy_40 : decode cX5_laterBy 40 = .ok (.aload_n 0, 1) := by decide +kernel
theorem dX5_laterBy_41 : decode cX5_laterBy 41 = .ok (.iload_n 1, 1) := by decide +kernel
theorem dX5_laterBy_42 : decode cX5_laterBy 42 = .ok (.invokevirtual 70, 3) := by decide +kernel
theorem dX5_laterBy_45 : decode cX5_laterBy 45 = .ok (.ireturn, 1) := by decide +kernel
theorem dX5_laterBy_46 : decode cX5_laterBy 46 = .ok (.aload_n 0, 1) := by decide +kernel
theorem dX5_laterBy_47 : decode cX5_laterBy 47 = .ok (.iload_n 1, 1) := by decide +kernel
theorem dX5_laterBy_48 : decode cX5_laterBy 48 = .ok (.invokevirtual 73, 3) := by decide +kernel
theorem dX5_laterBy_51 : decode cX5_laterBy 51 = .ok (.ireturn, 1) := by decide +kernel
theorem dX5_laterBy_52 : decode cX5_laterBy 52 = .ok (.aload_n 0, 1) := by decide +kernel
theorem dX5_laterBy_53 : decode cX5_laterBy 53 = .ok (.getfield 31, 3) := by decide +kernel
theorem dX5_laterBy_56 : decode cX5_laterBy 56 = .ok (.iconst 2, 1) := by decide +kernel
theorem dX5_laterBy_57 : decode cX5_laterBy 57 = .ok (.irem, 1) := by decide +kernel
theorem dX5_laterBy_58 : decode cX5_laterBy 58 = .ok (.ifCond .ne 11, 3) := by decide +kernel
theorem dX5_laterBy_61 : decode cX5_laterBy 61 = .ok (.aload_n 0, 1) := by decide +kernel
theorem dX5_laterBy_62 : decode cX5_laterBy 62 = .ok (.iload_n 1, 1) := by decide +kernel
theorem dX5_laterBy_63 : decode cX5_laterBy 63 = .ok (.invokevirtual 70, 3) := by decide +kernel
theorem dX5_laterBy_66 : decode cX5_laterBy 66 = .ok (.goto 9, 3) := by decide +kernel
theorem dX5_laterBy_69 : decode cX5_laterBy 69 = .ok (.aload_n 0, 1) := by decide +kernel
theorem dX5_laterBy_70 : decode cX5_laterBy 70 = .ok (.iload_n 1, 1) := by decide +kernel
theorem dX5_laterBy_71 : decode cX5_laterBy 71 = .ok (.invokevirtual 70, 3) := by decide +kernel
theorem dX5_laterBy_74 : decode cX5_laterBy 74 = .ok (.ineg, 1) := by decide +kernel
theorem dX5_laterBy_75 : decode cX5_laterBy 75 = .ok (.ireturn, 1) := by decide +kernel
theorem dX5_laterBy_76 : decode cX5_laterBy 76 = .ok (.aload_n 0, 1) := by decide +kernel
theorem dX5_laterBy_77 : decode cX5_laterBy 77 = .ok (.iload_n 1, 1) := by decide +kernel
theorem dX5_laterBy_78 : decode cX5_laterBy 78 = .ok (.invokevirtual 73, 3) := by decide +kernel
theorem dX5_laterBy_81 : decode cX5_laterBy 81 = .ok (.aload_n 0, 1) := by decide +kernel
theorem dX5_laterBy_82 : decode cX5_laterBy 82 = .ok (.iload_n 1, 1) := by decide +kernel
theorem dX5_laterBy_83 : decode cX5_laterBy 83 = .ok (.invokevirtual 76, 3) := by decide +kernel
theorem dX5_laterBy_86 : decode cX5_laterBy 86 = .ok (.ifCond .eq 7, 3) := by decide +kernel
theorem dX5_laterBy_89 : decode cX5_laterBy 89 = .ok (.iconst 1, 1) := by decide +kernel
theorem dX5_laterBy_90 : decode cX5_laterBy 90 = .ok (.goto 4, 3) := by decide +kernel
theorem dX5_laterBy_93 : decode cX5_laterBy 93 = .ok (.iconst 0, 1) := by decide +kernel
theorem dX5_laterBy_94 : decode cX5_laterBy 94 = .ok (.iadd, 1) := by decide +kernel
theorem dX5_laterBy_95 : decode cX5_laterBy 95 = .ok (.ireturn, 1) := by decide +kernel
theorem dX5_laterBy_96 : decode cX5_laterBy 96 = .ok (.aload_n 0, 1) := by decide +kernel
theorem dX5_laterBy_97 : decode cX5_laterBy 97 = .ok (.getfield 18, 3) := by decide +kernel
theorem dX5_laterBy_100 : decode cX5_laterBy 100 = .ok (.iload_n 1, 1) := by decide +kernel
theorem dX5_laterBy_101 : decode cX5_laterBy 101 = .ok (.iaload, 1) := by decide +kernel
theorem dX5_laterBy_102 : decode cX5_laterBy 102 = .ok (.ireturn, 1) := by decide +kernel
theorem dX5_slowShift_0 : decode cX5_slowShift 0 = .ok (.aload_n 0, 1) := by decide +kernel
theorem dX5_slowShift_1 : decode cX5_slowShift 1 = .ok (.getfield 18, 3) := by decide +kernel
theorem dX5_slowShift_4 : decode cX5_slowShift 4 = .ok (.iload_n 1, 1) := by decide +kernel
theorem dX5_slowShift_5 : decode cX5_slowShift 5 = .ok (.iaload, 1) := by decide +kernel
theorem dX5_slowShift_6 : decode cX5_slowShift 6 = .ok (.iconst 2, 1) := by decide +kernel
theorem dX5_slowShift_7 : decode cX5_slowShift 7 = .ok (.idiv, 1) := by decide +kernel
theorem dX5_slowShift_8 : decode cX5_slowShift 8 = .ok (.ireturn, 1) := by decide +kernel
theorem dX5_hearerShift_0 : decode cX5_hearerShift 0 = .ok (.iconst 0, 1) := by decide +kernel
theorem dX5_hearerShift_1 : decode cX5_hearerShift 1 = .ok (.istore_n 2, 1) := by decide +kernel
theorem dX5_hearerShift_2 : decode cX5_hearerShift 2 = .ok (.iload_n 2, 1) := by decide +kernel
theorem dX5_hearerShift_3 : decode cX5_hearerShift 3 = .ok (.aload_n 0, 1) := by decide +kernel
theorem dX5_hearerShift_4 : decode cX5_hearerShift 4 = .ok (.getfield 27, 3) := by decide +kernel
theorem dX5_hearerShift_7 : decode cX5_hearerShift 7 = .ok (.if_icmp .ge 35, 3) := by decide +kernel
theorem dX5_hearerShift_10 : decode cX5_hearerShift 10 = .ok (.iload_n 2, 1) := by decide +kernel
theorem dX5_hearerShift_11 : decode cX5_hearerShift 11 = .ok (.iload_n 1, 1) := by decide +kernel
theorem dX5_hearerShift_12 : decode cX5_hearerShift 12 = .ok (.if_icmp .eq 24, 3) := by decide +kernel
theorem dX5_hearerShift_15 : decode cX5_hearerShift 15 = .ok (.aload_n 0, 1) := by decide +kernel
theorem dX5_hearerShift_16 : decode cX5_hearerShift 16 = .ok (.getfield 15, 3) := by decide +kernel
theorem dX5_hearerShift_19 : decode cX5_hearerShift 19 = .ok (.iload_n 1, 1) := by decide +kernel
theorem dX5_hearerShift_20 : decode cX5_hearerShift 20 = .ok (.iaload, 1) := by decide +kernel
theorem dX5_hearerShift_21 : decode cX5_hearerShift 21 = .ok (.aload_n 0, 1) := by decide +kernel
theorem dX5_hearerShift_22 : decode cX5_hearerShift 22 = .ok (.getfield 15, 3) := by decide +kernel
theorem dX5_hearerShift_25 : decode cX5_hearerShift 25 = .ok (.iload_n 2, 1) := by decide +kernel
theorem dX5_hearerShift_26 : decode cX5_hearerShift 26 = .ok (.iaload, 1) := by decide +kernel
theorem dX5_hearerShift_27 : decode cX5_hearerShift 27 = .ok (.invokestatic 47, 3) := by decide +kernel
theorem dX5_hearerShift_30 : decode cX5_hearerShift 30 = .ok (.iconst 3, 1) := by decide +kernel
theorem dX5_hearerShift_31 : decode cX5_hearerShift 31 = .ok (.if_icmp .gt 5, 3) := by decide +kernel
theorem dX5_hearerShift_34 : decode cX5_hearerShift 34 = .ok (.iconst 0, 1) := by decide +kernel
theorem dX5_hearerShift_35 : decode cX5_hearerShift 35 = .ok (.ireturn, 1) := by decide +kernel
theorem dX5_hearerShift_36 : decode cX5_hearerShift 36 = .ok (.iinc 2 1, 3) := by decide +kernel
theorem dX5_hearerShift_39 : decode cX5_hearerShift 39 = .ok (.goto (-37), 3) := by decide +kernel
theorem dX5_hearerShift_42 : decode cX5_hearerShift 42 = .ok (.aload_n 0, 1) := by decide +kernel
theorem dX5_hearerShift_43 : decode cX5_hearerShift 43 = .ok (.getfield 18, 3) := by decide +kernel
theorem dX5_hearerShift_46 : decode cX5_hearerShift 46 = .ok (.iload_n 1, 1) := by decide +kernel
theorem dX5_hearerShift_47 : decode cX5_hearerShift 47 = .ok (.iaload, 1) := by decide +kernel
theorem dX5_hearerShift_48 : decode cX5_hearerShift 48 = .ok (.ireturn, 1) := by decide +kernel
theorem dX5_isByTheOneBefore_0 : decode cX5_isByTheOneBefore 0 = .ok (.iload_n 1, 1) := by decide +kernel
theorem dX5_isByTheOneBefore_1 : decode cX5_isByTheOneBefore 1 = .ok (.ifCond .ne 12, 3) := by decide +kernel
theorem dX5_isByTheOneBefore_4 : decode cX5_isByTheOneBefore 4 = .ok (.aload_n 0, 1) := by decide +kernel
theorem dX5_isByTheOneBefore_5 : decode cX5_isByTheOneBefore 5 = .ok (.getfield 27, 3) := by decide +kernel
theorem dX5_isByTheOneBefore_8 : decode cX5_isByTheOneBefore 8 = .ok (.iconst 1, 1) := by decide +kernel
theorem dX5_isByTheOneBefore_9 : decode cX5_isByTheOneBefore 9 = .ok (.isub, 1) := by decide +kernel
theorem dX5_isByTheOneBefore_10 : decode cX5_isByTheOneBefore 10 = .ok (.goto 6, 3) := by decide +kernel
theorem dX5_isByTheOneBefore_13 : decode cX5_isByTheOneBefore 13 = .ok (.iload_n 1, 1) := by decide +kernel
theorem dX5_isByTheOneBefore_14 : decode cX5_isByTheOneBefore 14 = .ok (.iconst 1, 1) := by decide +kernel
theorem dX5_isByTheOneBefore_15 : decode cX5_isByTheOneBefore 15 = .ok (.isub, 1) := by decide +kernel
theorem dX5_isByTheOneBefore_16 : decode cX5_isByTheOneBefore 16 = .ok (.istore_n 2, 1) := by decide +kernel
theorem dX5_isByTheOneBefore_17 : decode cX5_isByTheOneBefore 17 = .ok (.iload_n 2, 1) := by decide +kernel
theorem dX5_isByTheOneBefore_18 : decode cX5_isByTheOneBefore 18 = .ok (.iload_n 1, 1) := by decide +kernel
theorem dX5_isByTheOneBefore_19 : decode cX5_isByTheOneBefore 19 = .ok (.if_icmp .eq 28, 3) := by decide +kernel
theorem dX5_isByTheOneBefore_22 : decode cX5_isByTheOneBefore 22 = .ok (.aload_n 0, 1) := by decide +kernel
theorem dX5_isByTheOneBefore_23 : decode cX5_isByTheOneBefore 23 = .ok (.getfield 21, 3) := by decide +kernel
theorem dX5_isByTheOneBefore_26 : decode cX5_isByTheOneBefore 26 = .ok (.iload_n 1, 1) := by decide +kernel
theorem dX5_isByTheOneBefore_27 : decode cX5_isByTheOneBefore 27 = .ok (.iaload, 1) := by decide +kernel
theorem dX5_isByTheOneBefore_28 : decode cX5_isByTheOneBefore 28 = .ok (.aload_n 0, 1) := by decide +kernel
theorem dX5_isByTheOneBefore_29 : decode cX5_isByTheOneBefore 29 = .ok (.getfield 21, 3) := by decide +kernel
theorem dX5_isByTheOneBefore_32 : decode cX5_isByTheOneBefore 32 = .ok (.iload_n 2, 1) := by decide +kernel
theorem dX5_isByTheOneBefore_33 : decode cX5_isByTheOneBefore 33 = .ok (.iaload, 1) := by decide +kernel
theorem dX5_isByTheOneBefore_34 : decode cX5_isByTheOneBefore 34 = .ok (.isub, 1) := by decide +kernel
theorem dX5_isByTheOneBefore_35 : decode cX5_isByTheOneBefore 35 = .ok (.invokestatic 79, 3) := by decide +kernel
theorem dX5_isByTheOneBefore_38 : decode cX5_isByTheOneBefore 38 = .ok (.bipush 10, 2) := by decide +kernel
theorem dX5_isByTheOneBefore_40 : decode cX5_isByTheOneBefore 40 = .ok (.if_icmp .gt 7, 3) := by decide +kernel
theorem dX5_isByTheOneBefore_43 : decode cX5_isByTheOneBefore 43 = .ok (.iconst 1, 1) := by decide +kernel
theorem dX5_isByTheOneBefore_44 : decode cX5_isByTheOneBefore 44 = .ok (.goto 4, 3) := by decide +kernel
theorem dX5_isByTheOneBefore_47 : decode cX5_isByTheOneBefore 47 = .ok (.iconst 0, 1) := by decide +kernel
theorem dX5_isByTheOneBefore_48 : decode cX5_isByTheOneBefore 48 = .ok (.ireturn, 1) := by decide +kernel
theorem dX5_passDay_0 : decode cX5_passDay 0 = .ok (.iconst 0, 1) := by decide +kernel
theorem dX5_passDay_1 : decode cX5_passDay 1 = .ok (.istore_n 1, 1) := by decide +kernel
theorem dX5_passDay_2 : decode cX5_passDay 2 = .ok (.iload_n 1, 1) := by decide +kernel
theorem dX5_passDay_3 : decode cX5_passDay 3 = .ok (.aload_n 0, 1) := by decide +kernel
theorem dX5_passDay_4 : decode cX5_passDay 4 = .ok (.getfield 27, 3) := by decide +kernel
theorem dX5_passDay_7 : decode cX5_passDay 7 = .ok (.if_icmp .ge 20, 3) := by decide +kernel
theorem dX5_passDay_10 : decode cX5_passDay 10 = .ok (.aload_n 0, 1) := by decide +kernel
theorem dX5_passDay_11 : decode cX5_passDay 11 = .ok (.getfield 24, 3) := by decide +kernel
theorem dX5_passDay_14 : decode cX5_passDay 14 = .ok (.iload_n 1, 1) := by decide +kernel
theorem dX5_passDay_15 : decode cX5_passDay 15 = .ok (.aload_n 0, 1) := by decide +kernel
theorem dX5_passDay_16 : decode cX5_passDay 16 = .ok (.iload_n 1, 1) := by decide +kernel
theorem dX5_passDay_17 : decode cX5_passDay 17 = .ok (.invokevirtual 82, 3) := by decide +kernel
theorem dX5_passDay_20 : decode cX5_passDay 20 = .ok (.iastore, 1) := by decide +kernel
theorem dX5_passDay_21 : decode cX5_passDay 21 = .ok (.iinc 1 1, 3) := by decide +kernel
theorem dX5_passDay_24 : decode cX5_passDay 24 = .ok (.goto (-22), 3) := by decide +kernel
theorem dX5_passDay_27 : decode cX5_passDay 27 = .ok (.iconst 0, 1) := by decide +kernel
theorem dX5_passDay_28 : decode cX5_passDay 28 = .ok (.istore_n 1, 1) := by decide +kernel
theorem dX5_passDay_29 : decode cX5_passDay 29 = .ok (.iload_n 1, 1) := by decide +kernel
theorem dX5_passDay_30 : decode cX5_passDay 30 = .ok (.aload_n 0, 1) := by decide +kernel
theorem dX5_passDay_31 : decode cX5_passDay 31 = .ok (.getfield 27, 3) := by decide +kernel
theorem dX5_passDay_34 : decode cX5_passDay 34 = .ok (.if_icmp .ge 31, 3) := by decide +kernel
theorem dX5_passDay_37 : decode cX5_passDay 37 = .ok (.aload_n 0, 1) := by decide +kernel
theorem dX5_passDay_38 : decode cX5_passDay 38 = .ok (.getfield 15, 3) := by decide +kernel
theorem dX5_passDay_41 : decode cX5_passDay 41 = .ok (.iload_n 1, 1) := by decide +kernel
theorem dX5_passDay_42 : decode cX5_passDay 42 = .ok (.aload_n 0, 1) := by decide +kernel
theorem dX5_passDay_43 : decode cX5_passDay 43 = .ok (.getfield 15, 3) := by decide +kernel
theorem dX5_passDay_46 : decode cX5_passDay 46 = .ok (.iload_n 1, 1) := by decide +kernel
theorem dX5_passDay_47 : decode cX5_passDay 47 = .ok (.iaload, 1) := by decide +kernel
theorem dX5_passDay_48 : decode cX5_passDay 48 = .ok (.aload_n 0, 1) := by decide +kernel
theorem dX5_passDay_49 : decode cX5_passDay 49 = .ok (.getfield 24, 3) := by decide +kernel
theorem dX5_passDay_52 : decode cX5_passDay 52 = .ok (.iload_n 1, 1) := by decide +kernel
theorem dX5_passDay_53 : decode cX5_passDay 53 = .ok (.iaload, 1) := by decide +kernel
theorem dX5_passDay_54 : decode cX5_passDay 54 = .ok (.iadd, 1) := by decide +kernel
theorem dX5_passDay_55 : decode cX5_passDay 55 = .ok (.invokestatic 67, 3) := by decide +kernel
theorem dX5_passDay_58 : decode cX5_passDay 58 = .ok (.iastore, 1) := by decide +kernel
theorem dX5_passDay_59 : decode cX5_passDay 59 = .ok (.iinc 1 1, 3) := by decide +kernel
theorem dX5_passDay_62 : decode cX5_passDay 62 = .ok (.goto (-33), 3) := by decide +kernel
theorem dX5_passDay_65 : decode cX5_passDay 65 = .ok (.aload_n 0, 1) := by decide +kernel
theorem dX5_passDay_66 : decode cX5_passDay 66 = .ok (.dup, 1) := by decide +kernel
theorem dX5_passDay_67 : decode cX5_passDay 67 = .ok (.getfield 31, 3) := by decide +kernel
theorem dX5_passDay_70 : decode cX5_passDay 70 = .ok (.iconst 1, 1) := by decide +kernel
theorem dX5_passDay_71 : decode cX5_passDay 71 = .ok (.iadd, 1) := by decide +kernel
theorem dX5_passDay_72 : decode cX5_passDay 72 = .ok (.putfield 31, 3) := by decide +kernel
theorem dX5_passDay_75 : decode cX5_passDay 75 = .ok (.return_, 1) := by decide +kernel
theorem dX5_drawRinger_0 : decode cX5_drawRinger 0 = .ok (.aload_n 0, 1) := by decide +kernel
theorem dX5_drawRinger_1 : decode cX5_drawRinger 1 = .ok (.aload_n 0, 1) := by decide +kernel
theorem dX5_drawRinger_2 : decode cX5_drawRinger 2 = .ok (.getfield 34, 3) := by decide +kernel
theorem dX5_drawRinger_5 : decode cX5_drawRinger 5 = .ok (.ldc 85, 2) := by decide +kernel
theorem dX5_drawRinger_7 : decode cX5_drawRinger 7 = .ok (.imul, 1) := by decide +kernel
theorem dX5_drawRinger_8 : decode cX5_drawRinger 8 = .ok (.sipush 12345, 3) := by decide +kernel
theorem dX5_drawRinger_11 : decode cX5_drawRinger 11 = .ok (.iadd, 1) := by decide +kernel
theorem dX5_drawRinger_12 : decode cX5_drawRinger 12 = .ok (.ldc 86, 2) := by decide +kernel
theorem dX5_drawRinger_14 : decode cX5_drawRinger 14 = .ok (.iand, 1) := by decide +kernel
theorem dX5_drawRinger_15 : decode cX5_drawRinger 15 = .ok (.putfield 34, 3) := by decide +kernel
theorem dX5_drawRinger_18 : decode cX5_drawRinger 18 = .ok (.aload_n 0, 1) := by decide +kernel
theorem dX5_drawRinger_19 : decode cX5_drawRinger 19 = .ok (.getfield 27, 3) := by decide +kernel
theorem dX5_drawRinger_22 : decode cX5_drawRinger 22 = .ok (.ifCond .le 42, 3) := by decide +kernel
theorem dX5_drawRinger_25 : decode cX5_drawRinger 25 = .ok (.aload_n 0, 1) := by decide +kernel
theorem dX5_drawRinger_26 : decode cX5_drawRinger 26 = .ok (.getfield 34, 3) := by decide +kernel
theorem dX5_drawRinger_29 : decode cX5_drawRinger 29 = .ok (.ldc 87, 2) := by decide +kernel
theorem dX5_drawRinger_31 : decode cX5_drawRinger 31 = .ok (.idiv, 1) := by decide +kernel
theorem dX5_drawRinger_32 : decode cX5_drawRinger 32 = .ok (.aload_n 0, 1) := by decide +kernel
theorem dX5_drawRinger_33 : decode cX5_drawRinger 33 = .ok (.getfield 27, 3) := by decide +kernel
theorem dX5_drawRinger_36 : decode cX5_drawRinger 36 = .ok (.irem, 1) := by decide +kernel
theorem dX5_drawRinger_37 : decode cX5_drawRinger 37 = .ok (.istore_n 1, 1) := by decide +kernel
theorem dX5_drawRinger_38 : decode cX5_drawRinger 38 = .ok (.aload_n 0, 1) := by decide +kernel
theorem dX5_drawRinger_39 : decode cX5_drawRinger 39 = .ok (.getfield 15, 3) := by decide +kernel
theorem dX5_drawRinger_42 : decode cX5_drawRinger 42 = .ok (.iload_n 1, 1) := by decide +kernel
theorem dX5_drawRinger_43 : decode cX5_drawRinger 43 = .ok (.aload_n 0, 1) := by decide +kernel
theorem dX5_drawRinger_44 : decode cX5_drawRinger 44 = .ok (.getfield 15, 3) := by decide +kernel
theorem dX5_drawRinger_47 : decode cX5_drawRinger 47 = .ok (.iload_n 1, 1) := by decide +kernel
theorem dX5_drawRinger_48 : decode cX5_drawRinger 48 = .ok (.iaload, 1) := by decide +kernel
theorem dX5_drawRinger_49 : decode cX5_drawRinger 49 = .ok (.aload_n 0, 1) := by decide +kernel
theorem dX5_drawRinger_50 : decode cX5_drawRinger 50 = .ok (.getfield 34, 3) := by decide +kernel
theorem dX5_drawRinger_53 : decode cX5_drawRinger 53 = .ok (.sipush 128, 3) := by decide +kernel
theorem dX5_drawRinger_56 : decode cX5_drawRinger 56 = .ok (.idiv, 1) := by decide +kernel
theorem dX5_drawRinger_57 : decode cX5_drawRinger 57 = .ok (.iconst 5, 1) := by decide +kernel
theorem dX5_drawRinger_58 : decode cX5_drawRinger 58 = .ok (.irem, 1) := by decide +kernel
theorem dX5_drawRinger_59 : decode cX5_drawRinger 59 = .ok (.iadd, 1) := by decide +kernel
theorem dX5_drawRinger_60 : decode cX5_drawRinger 60 = .ok (.invokestatic 67, 3) := by decide +kernel
theorem dX5_drawRinger_63 : decode cX5_drawRinger 63 = .ok (.iastore, 1) := by decide +kernel
theorem dX5_drawRinger_64 : decode cX5_drawRinger 64 = .ok (.return_, 1) := by decide +kernel
theorem dX5_passDaysUntilTogether_0 : decode cX5_passDaysUntilTogether 0 = .ok (.iconst 0, 1) := by decide +kernel
theorem dX5_passDaysUntilTogether_1 : decode cX5_passDaysUntilTogether 1 = .ok (.istore_n 1, 1) := by decide +kernel
theorem dX5_passDaysUntilTogether_2 : decode cX5_passDaysUntilTogether 2 = .ok (.iload_n 1, 1) := by decide +kernel
theorem dX5_passDaysUntilTogether_3 : decode cX5_passDaysUntilTogether 3 = .ok (.bipush 60, 2) := by decide +kernel
theorem dX5_passDaysUntilTogether_5 : decode cX5_passDaysUntilTogether 5 = .ok (.if_icmp .gt 22, 3) := by decide +kernel
theorem dX5_passDaysUntilTogether_8 : decode cX5_passDaysUntilTogether 8 = .ok (.aload_n 0, 1) := by decide +kernel
theorem dX5_passDaysUntilTogether_9 : decode cX5_passDaysUntilTogether 9 = .ok (.invokevirtual 88, 3) := by decide +kernel
theorem dX5_passDaysUntilTogether_12 : decode cX5_passDaysUntilTogether 12 = .ok (.ifCond .eq 5, 3) := by decide +kernel
theorem dX5_passDaysUntilTogether_15 : decode cX5_passDaysUntilTogether 15 = .ok (.iload_n 1, 1) := by decide +kernel
theorem dX5_passDaysUntilTogether_16 : decode cX5_passDaysUntilTogether 16 = .ok (.ireturn, 1) := by decide +kernel
theorem dX5_passDaysUntilTogether_17 : decode cX5_passDaysUntilTogether 17 = .ok (.aload_n 0, 1) := by decide +kernel
theorem dX5_passDaysUntilTogether_18 : decode cX5_passDaysUntilTogether 18 = .ok (.invokevirtual 92, 3) := by decide +kernel
theorem dX5_passDaysUntilTogether_21 : decode cX5_passDaysUntilTogether 21 = .ok (.iinc 1 1, 3) := by decide +kernel
theorem dX5_passDaysUntilTogether_24 : decode cX5_passDaysUntilTogether 24 = .ok (.goto (-22), 3) := by decide +kernel
theorem dX5_passDaysUntilTogether_27 : decode cX5_passDaysUntilTogether 27 = .ok (.bipush 61, 2) := by decide +kernel
theorem dX5_passDaysUntilTogether_29 : decode cX5_passDaysUntilTogether 29 = .ok (.ireturn, 1) := by decide +kernel
theorem dX6_init_0 : decode cX6_init 0 = .ok (.aload_n 0, 1) := by decide +kernel
theorem dX6_init_1 : decode cX6_init 1 = .ok (.invokespecial 3, 3) := by decide +kernel
theorem dX6_init_4 : decode cX6_init 4 = .ok (.aload_n 0, 1) := by decide +kernel
theorem dX6_init_5 : decode cX6_init 5 = .ok (.new 9, 3) := by decide +kernel
theorem dX6_init_8 : decode cX6_init 8 = .ok (.dup, 1) := by decide +kernel
theorem dX6_init_9 : decode cX6_init 9 = .ok (.invokespecial 11, 3) := by decide +kernel
theorem dX6_init_12 : decode cX6_init 12 = .ok (.putfield 12, 3) := by decide +kernel
theorem dX6_init_15 : decode cX6_init 15 = .ok (.aload_n 0, 1) := by decide +kernel
theorem dX6_init_16 : decode cX6_init 16 = .ok (.new 16, 3) := by decide +kernel
theorem dX6_init_19 : decode cX6_init 19 = .ok (.dup, 1) := by decide +kernel
theorem dX6_init_20 : decode cX6_init 20 = .ok (.invokespecial 18, 3) := by decide +kernel
theorem dX6_init_23 : decode cX6_init 23 = .ok (.putfield 19, 3) := by decide +kernel
theorem dX6_init_26 : decode cX6_init 26 = .ok (.aload_n 0, 1) := by decide +kernel
theorem dX6_init_27 : decode cX6_init 27 = .ok (.new 9, 3) := by decide +kernel
theorem dX6_init_30 : decode cX6_init 30 = .ok (.dup, 1) := by decide +kernel
theorem dX6_init_31 : decode cX6_init 31 = .ok (.invokespecial 11, 3) := by decide +kernel
theorem dX6_init_34 : decode cX6_init 34 = .ok (.putfield 23, 3) := by decide +kernel
theorem dX6_init_37 : decode cX6_init 37 = .ok (.aload_n 0, 1) := by decide +kernel
theorem dX6_init_38 : decode cX6_init 38 = .ok (.new 16, 3) := by decide +kernel
theorem dX6_init_41 : decode cX6_init 41 = .ok (.dup, 1) := by decide +kernel
theorem dX6_init_42 : decode cX6_init 42 = .ok (.invokespecial 18, 3) := by decide +kernel
theorem dX6_init_45 : decode cX6_init 45 = .ok (.putfield 26, 3) := by decide +kernel
theorem dX6_init_48 : decode cX6_init 48 = .ok (.aload_n 0, 1) := by decide +kernel
theorem dX6_init_49 : decode cX6_init 49 = .ok (.new 9, 3) := by decide +kernel
theorem dX6_init_52 : decode cX6_init 52 = .ok (.dup, 1) := by decide +kernel
theorem dX6_init_53 : decode cX6_init 53 = .ok (.invokespecial 11, 3) := by decide +kernel
theorem dX6_init_56 : decode cX6_init 56 = .ok (.putfield 29, 3) := by decide +kernel
theorem dX6_init_59 : decode cX6_init 59 = .ok (.aload_n 0, 1) := by decide +kernel
theorem dX6_init_60 : decode cX6_init 60 = .ok (.new 32, 3) := by decide +kernel
theorem dX6_init_63 : decode cX6_init 63 = .ok (.dup, 1) := by decide +kernel
theorem dX6_init_64 : decode cX6_init 64 = .ok (.invokespecial 34, 3) := by decide +kernel
theorem dX6_init_67 : decode cX6_init 67 = .ok (.putfield 35, 3) := by decide +kernel
theorem dX6_init_70 : decode cX6_init 70 = .ok (.aload_n 0, 1) := by decide +kernel
theorem dX6_init_71 : decode cX6_init 71 = .ok (.new 39, 3) := by decide +kernel
theorem dX6_init_74 : decode cX6_init 74 = .ok (.dup, 1) := by decide +kernel
theorem dX6_init_75 : decode cX6_init 75 = .ok (.invokespecial 41, 3) := by decide +kernel
theorem dX6_init_78 : decode cX6_init 78 = .ok (.putfield 42, 3) := by decide +kernel
theorem dX6_init_81 : decode cX6_init 81 = .ok (.aload_n 0, 1) := by decide +kernel
theorem dX6_init_82 : decode cX6_init 82 = .ok (.new 46, 3) := by decide +kernel
theorem dX6_init_85 : decode cX6_init 85 = .ok (.dup, 1) := by decide +kernel
theorem dX6_init_86 : decode cX6_init 86 = .ok (.invokespecial 48, 3) := by decide +kernel
theorem dX6_init_89 : decode cX6_init 89 = .ok (.putfield 49, 3) := by decide +kernel
theorem dX6_init_92 : decode cX6_init 92 = .ok (.aload_n 0, 1) := by decide +kernel
theorem dX6_init_93 : decode cX6_init 93 = .ok (.iconst 4, 1) := by decide +kernel
theorem dX6_init_94 : decode cX6_init 94 = .ok (.anewarray 53, 3) := by decide +kernel
theorem dX6_init_97 : decode cX6_init 97 = .ok (.dup, 1) := by decide +kernel
theorem dX6_init_98 : decode cX6_init 98 = .ok (.iconst 0, 1) := by decide +kernel
theorem dX6_init_99 : decode cX6_init 99 = .ok (.new 53, 3) := by decide +kernel
theorem dX6_init_102 : decode cX6_init 102 = .ok (.dup, 1) := by decide +kernel
theorem dX6_init_103 : decode cX6_init 103 = .ok (.invokespecial 55, 3) := by decide +kernel
theorem dX6_init_106 : decode cX6_init 106 = .ok (.aastore, 1) := by decide +kernel
theorem dX6_init_107 : decode cX6_init 107 = .ok (.dup, 1) := by decide +kernel
theorem dX6_init_108 : decode cX6_init 108 = .ok (.iconst 1, 1) := by decide +kernel
theorem dX6_init_109 : decode cX6_init 109 = .ok (.new 53, 3) := by decide +kernel
theorem dX6_init_112 : decode cX6_init 112 = .ok (.dup, 1) := by decide +kernel
theorem dX6_init_113 : decode cX6_init 113 = .ok (.invokespecial 55, 3) := by decide +kernel
theorem dX6_init_116 : decode cX6_init 116 = .ok (.aastore, 1) := by decide +kernel
theorem dX6_init_117 : decode cX6_init 117 = .ok (.dup, 1) := by decide +kernel
theorem dX6_init_118 : decode cX6_init 118 = .ok (.iconst 2, 1) := by decide +kernel
theorem dX6_init_119 : decode cX6_init 119 = .ok (.new 53, 3) := by decide +kernel
theorem dX6_init_122 : decode cX6_init 122 = .ok (.dup, 1) := by decide +kernel
theorem dX6_init_123 : decode cX6_init 123 = .ok (.invokespecial 55, 3) := by decide +kernel
theorem dX6_init_126 : decode cX6_init 126 = .ok (.aastore, 1) := by decide +kernel
theorem dX6_init_127 : decode cX6_init 127 = .ok (.dup, 1) := by decide +kernel
theorem dX6_init_128 : decode cX6_init 128 = .ok (.iconst 3, 1) := by decide +kernel
theorem dX6_init_129 : decode cX6_init 129 = .ok (.new 53, 3) := by decide +kernel
theorem dX6_init_132 : decode cX6_init 132 = .ok (.dup, 1) := by decide +kernel
theorem dX6_init_133 : decode cX6_init 133 = .ok (.invokespecial 55, 3) := by decide +kernel
theorem dX6_init_136 : decode cX6_init 136 = .ok (.aastore, 1) := by decide +kernel
theorem dX6_init_137 : decode cX6_init 137 = .ok (.putfield 56, 3) := by decide +kernel
theorem dX6_init_140 : decode cX6_init 140 = .ok (.return_, 1) := by decide +kernel
theorem dX6_village_0 : decode cX6_village 0 = .ok (.iload_n 1, 1) := by decide +kernel
theorem dX6_village_1 : decode cX6_village 1 = .ok (.iconst 0, 1) := by decide +kernel
theorem dX6_village_2 : decode cX6_village 2 = .ok (.iconst 4, 1) := by decide +kernel
theorem dX6_village_3 : decode cX6_village 3 = .ok (.invokestatic 60, 3) := by decide +kernel
theorem dX6_village_6 : decode cX6_village 6 = .ok (.ifCond .eq 21, 3) := by decide +kernel
theorem dX6_village_9 : decode cX6_village 9 = .ok (.iload_n 2, 1) := by decide +kernel
theorem dX6_village_10 : decode cX6_village 10 = .ok (.invokestatic 64, 3) := by decide +kernel
theorem dX6_village_13 : decode cX6_village 13 = .ok (.ifCond .eq 14, 3) := by decide +kernel
theorem dX6_village_16 : decode cX6_village 16 = .ok (.iload_n 3, 1) := by decide +kernel
theorem dX6_village_17 : decode cX6_village 17 = .ok (.bipush (-9), 2) := by decide +kernel
theorem dX6_village_19 : decode cX6_village 19 = .ok (.bipush 9, 2) := by decide +kernel
theorem dX6_village_21 : decode cX6_village 21 = .ok (.invokestatic 60, 3) := by decide +kernel
theorem dX6_village_24 : decode cX6_village 24 = .ok (.ifCond .ne 5, 3) := by decide +kernel
theorem dX6_village_27 : decode cX6_village 27 = .ok (.iconst (-1), 1) := by decide +kernel
theorem dX6_village_28 : decode cX6_village 28 = .ok (.ireturn, 1) := by decide +kernel
theorem dX6_village_29 : decode cX6_village 29 = .ok (.aload_n 0, 1) := by decide +kernel
theorem dX6_village_30 : decode cX6_village 30 = .ok (.getfield 12, 3) := by decide +kernel
theorem dX6_village_33 : decode cX6_village 33 = .ok (.getfield 68, 3) := by decide +kernel
theorem dX6_village_36 : decode cX6_village 36 = .ok (.bipush 6, 2) := by decide +kernel
theorem dX6_village_38 : decode cX6_village 38 = .ok (.if_icmp .lt 6, 3) := by decide +kernel
theorem dX6_village_41 : decode cX6_village 41 = .ok (.bipush (-3), 2) := by decide +kernel
theorem dX6_village_43 : decode cX6_village 43 = .ok (.ireturn, 1) := by decide +kernel
theorem dX6_village_44 : decode cX6_village 44 = .ok (.aload_n 0, 1) := by decide +kernel
theorem dX6_village_45 : decode cX6_village 45 = .ok (.getfield 12, 3) := by decide +kernel
theorem dX6_village_48 : decode cX6_village 48 = .ok (.iload_n 1, 1) := by decide +kernel
theorem dX6_village_49 : decode cX6_village 49 = .ok (.iload_n 2, 1) := by decide +kernel
theorem dX6_village_50 : decode cX6_village 50 = .ok (.iload_n 3, 1) := by decide +kernel
theorem dX6_village_51 : decode cX6_village 51 = .ok (.iconst 0, 1) := by decide +kernel
theorem dX6_village_52 : decode cX6_village 52 = .ok (.invokevirtual 72, 3) := by decide +kernel
theorem dX6_village_55 : decode cX6_village 55 = .ok (.aload_n 0, 1) := by decide +kernel
theorem dX6_village_56 : decode cX6_village 56 = .ok (.getfield 19, 3) := by decide +kernel
theorem dX6_village_59 : decode cX6_village 59 = .ok (.invokevirtual 76, 3) := by decide +kernel
theorem dX6_village_62 : decode cX6_village 62 = .ok (.aload_n 0, 1) := by decide +kernel
theorem dX6_village_63 : decode cX6_village 63 = .ok (.getfield 12, 3) := by decide +kernel
theorem dX6_village_66 : decode cX6_village 66 = .ok (.getfield 68, 3) := by decide +kernel
theorem dX6_village_69 : decode cX6_village 69 = .ok (.iconst 1, 1) := by decide +kernel
theorem dX6_village_70 : decode cX6_village 70 = .ok (.isub, 1) := by decide +kernel
theorem dX6_village_71 : decode cX6_village 71 = .ok (.ireturn, 1) := by decide +kernel
theorem dX6_of_0 : decode cX6_of 0 = .ok (.aload_n 0, 1) := by decide +kernel
theorem dX6_of_1 : decode cX6_of 1 = .ok (.getfield 12, 3) := by decide +kernel
theorem dX6_of_4 : decode cX6_of 4 = .ok (.iload_n 1, 1) := by decide +kernel
theorem dX6_of_5 : decode cX6_of 5 = .ok (.invokevirtual 79, 3) := by decide +kernel
theorem dX6_of_8 : decode cX6_of 8 = .ok (.ifCond .ne 5, 3) := by decide +kernel
theorem dX6_of_11 : decode cX6_of 11 = .ok (.iconst (-1), 1) := by decide +kernel
theorem dX6_of_12 : decode cX6_of 12 = .ok (.ireturn, 1) := by decide +kernel
theorem dX6_of_13 : decode cX6_of 13 = .ok (.iload_n 2, 1) := by decide +kernel
theorem dX6_of_14 : decode cX6_of 14 = .ok (.tableswitch 102 0 5 #[38, 48, 58, 71, 81, 93], 38) := by decide +kernel
theorem dX6_of_52 : decode cX6_of 52 = .ok (.aload_n 0, 1) := by decide +kernel
theorem dX6_of_53 : decode cX6_of 53 = .ok (.getfield 12, 3) := by decide +kernel
theorem dX6_of_56 : decode cX6_of 56 = .ok (.getfield 82, 3) := by decide +kernel
theorem dX6_of_59 : decode cX6_of 59 = .ok (.iload_n 1, 1) := by decide +kernel
theorem dX6_of_60 : decode cX6_of 60 = .ok (.iaload, 1) := by decide +kernel
theorem dX6_of_61 : decode cX6_of 61 = .ok (.ireturn, 1) := by decide +kernel
theorem dX6_of_62 : decode cX6_of 62 = .ok (.aload_n 0, 1) := by decide +kernel
theorem dX6_of_63 : decode cX6_of 63 = .ok (.getfield 12, 3) := by decide +kernel
theorem dX6_of_66 : decode cX6_of 66 = .ok (.getfield 86, 3) := by decide +kernel
theorem dX6_of_69 : decode cX6_of 69 = .ok (.iload_n 1, 1) := by decide +kernel
theorem dX6_of_70 : decode cX6_of 70 = .ok (.iaload, 1) := by decide +kernel
theorem dX6_of_71 : decode cX6_of 71 = .ok (.ireturn, 1) := by decide +kernel
theorem dX6_of_72 : decode cX6_of 72 = .ok (.aload_n 0, 1) := by decide +kernel
theorem dX6_of_73 : decode cX6_of 73 = .ok (.getfield 12, 3) := by decide +kernel
theorem dX6_of_76 : decode cX6_of 76 = .ok (.getfield 89, 3) := by decide +kernel
theorem dX6_of_79 : decode cX6_of 79 = .ok (.iload_n 1, 1) := by decide +kernel
theorem dX6_of_80 : decode cX6_of 80 = .ok (.iaload, 1) := by decide +kernel
theorem dX6_of_81 : decode cX6_of 81 = .ok (.bipush 9, 2) := by decide +kernel
theorem dX6_of_83 : decode cX6_of 83 = .ok (.iadd, 1) := by decide +kernel
theorem dX6_of_84 : decode cX6_of 84 = .ok (.ireturn, 1) := by decide +kernel
theorem dX6_of_85 : decode cX6_of 85 = .ok (.aload_n 0, 1) := by decide +kernel
theorem dX6_of_86 : decode cX6_of 86 = .ok (.getfield 12, 3) := by decide +kernel
theorem dX6_of_89 : decode cX6_of 89 = .ok (.getfield 92, 3) := by decide +kernel
theorem dX6_of_92 : decode cX6_of 92 = .ok (.iload_n 1, 1) := by decide +kernel
theorem dX6_of_93 : decode cX6_of 93 = .ok (.iaload, 1) := by decide +kernel
theorem dX6_of_94 : decode cX6_of 94 = .ok (.ireturn, 1) := by decide +kernel
theorem dX6_of_95 : decode cX6_of 95 = .ok (.aload_n 0, 1) := by decide +kernel
theorem dX6_of_96 : decode cX6_of 96 = .ok (.getfield 12, 3) := by decide +kernel
theorem dX6_of_99 : decode cX6_of 99 = .ok (.iload_n 1, 1) := by decide +kernel
theorem dX6_of_100 : decode cX6_of 100 = .ok (.invokevirtual 95, 3) := by decide +kernel
theorem dX6_of_103 : decode cX6_of 103 = .ok (.bipush 30, 2) := by decide +kernel
theorem dX6_of_105 : decode cX6_of 105 = .ok (.iadd, 1) := by decide +kernel
theorem dX6_of_106 : decode cX6_of 106 = .ok (.ireturn, 1) := by decide +kernel
theorem dX6_of_107 : decode cX6_of 107 = .ok (.aload_n 0, 1) := by decide +kernel
theorem dX6_of_108 : decode cX6_of 108 = .ok (.getfield 12, 3) := by decide +kernel
theorem dX6_of_111 : decode cX6_of 111 = .ok (.iload_n 1, 1) := by decide +kernel
theorem dX6_of_112 : decode cX6_of 112 = .ok (.invokevirtual 99, 3) := by decide +kernel
theorem dX6_of_115 : decode cX6_of 115 = .ok (.ireturn, 1) := by decide +kernel
theorem dX6_of_116 : decode cX6_of 116 = .ok (.iconst (-1), 1) := by decide +kernel
theorem dX6_of_117 : decode cX6_of 117 = .ok (.ireturn, 1) := by decide +kernel
theorem dX6_gap_0 : decode cX6_gap 0 = .ok (.aload_n 0, 1) := by decide +kernel
theorem dX6_gap_1 : decode cX6_gap 1 = .ok (.getfield 12, 3) := by decide +kernel
theorem dX6_gap_4 : decode cX6_gap 4 = .ok (.iload_n 1, 1) := by decide +kernel
theorem dX6_gap_5 : decode cX6_gap 5 = .ok (.iload_n 2, 1) := by decide +kernel
theorem dX6_gap_6 : decode cX6_gap 6 = .ok (.invokevirtual 102, 3) := by decide +kernel
theorem dX6_gap_9 : decode cX6_gap 9 = .ok (.ifCond .eq 15, 3) := by decide +kernel
theorem dX6_gap_12 : decode cX6_gap 12 = .ok (.aload_n 0, 1) := by decide +kernel
theorem dX6_gap_13 : decode cX6_gap 13 = .ok (.getfield 12, 3) := by decide +kernel
theorem dX6_gap_16 : decode cX6_gap 16 = .ok (.iload_n 1, 1) := by decide +kernel
theorem dX6_gap_17 : decode cX6_gap 17 = .ok (.iload_n 2, 1) := by decide +kernel
theorem dX6_gap_18 : decode cX6_gap 18 = .ok (.invokevirtual 106, 3) := by decide +kernel
theorem dX6_gap_21 : decode cX6_gap 21 = .ok (.goto 4, 3) := by decide +kernel
theorem dX6_gap_24 : decode cX6_gap 24 = .ok (.iconst (-1), 1) := by decide +kernel
theorem dX6_gap_25 : decode cX6_gap 25 = .ok (.ireturn, 1) := by decide +kernel
theorem dX6_type_0 : decode cX6_type 0 = .ok (.iload_n 1, 1) := by decide +kernel
theorem dX6_type_1 : decode cX6_type 1 = .ok (.bipush 32, 2) := by decide +kernel
theorem dX6_type_3 : decode cX6_type 3 = .ok (.bipush 126, 2) := by decide +kernel
theorem dX6_type_5 : decode cX6_type 5 = .ok (.invokestatic 60, 3) := by decide +kernel
theorem dX6_type_8 : decode cX6_type 8 = .ok (.ifCond .ne 5, 3) := by decide +kernel
theorem dX6_type_11 : decode cX6_type 11 = .ok (.iconst (-1), 1) := by decide +kernel
theorem dX6_type_12 : decode cX6_type 12 = .ok (.ireturn, 1) := by decide +kernel
theorem dX6_type_13 : decode cX6_type 13 = .ok (.aload_n 0, 1) := by decide +kernel
theorem dX6_type_14 : decode cX6_type 14 = .ok (.getfield 49, 3) := by decide +kernel
theorem dX6_type_17 : decode cX6_type 17 = .ok (.iload_n 1, 1) := by decide +kernel
theorem dX6_type_18 : decode cX6_type 18 = .ok (.i2c, 1) := by decide +kernel
theorem dX6_type_19 : decode cX6_type 19 = .ok (.invokevirtual 110, 3) := by decide +kernel
theorem dX6_type_22 : decode cX6_type 22 = .ok (.ifCond .eq 13, 3) := by decide +kernel
theorem dX6_type_25 : decode cX6_type 25 = .ok (.aload_n 0, 1) := by decide +kernel
theorem dX6_type_26 : decode cX6_type 26 = .ok (.getfield 49, 3) := by decide +kernel
theorem dX6_type_29 : decode cX6_type 29 = .ok (.getfield 114, 3) := by decide +kernel
theorem dX6_type_32 : decode cX6_type 32 = .ok (.goto 5, 3) := by decide +kernel
theorem dX6_type_35 : decode cX6_type 35 = .ok (.bipush (-3), 2) := by decide +kernel
theorem dX6_type_37 : decode cX6_type 37 = .ok (.ireturn, 1) := by decide +kernel
theorem dX6_valley_0 : decode cX6_valley 0 = .ok (.aload_n 0, 1) := by decide +kernel
theorem dX6_valley_1 : decode cX6_valley 1 = .ok (.getfield 29, 3) := by decide +kernel
theorem dX6_valley_4 : decode cX6_valley 4 = .ok (.aload_n 0, 1) := by decide +kernel
theorem dX6_valley_5 : decode cX6_valley 5 = .ok (.getfield 12, 3) := by decide +kernel
theorem dX6_valley_8 : decode cX6_valley 8 = .ok (.invokevirtual 117, 3) := by decide +kernel
theorem dX6_valley_11 : decode cX6_valley 11 = .ok (.aload_n 0, 1) := by decide +kernel
theorem dX6_valley_12 : decode cX6_valley 12 = .ok (.getfield 49, 3) := by decide +kernel
theorem dX6_valley_15 : decode cX6_valley 15 = .ok (.aload_n 0, 1) := by decide +kernel
theorem dX6_valley_16 : decode cX6_valley 16 = .ok (.getfield 29, 3) := by decide +kernel
theorem dX6_valley_19 : decode cX6_valley 19 = .ok (.invokevirtual 121, 3) := by decide +kernel
theorem dX6_valley_22 : decode cX6_valley 22 = .ok (.istore_n 1, 1) := by decide +kernel
theorem dX6_valley_23 : decode cX6_valley 23 = .ok (.aload_n 0, 1) := by decide +kernel
theorem dX6_valley_24 : decode cX6_valley 24 = .ok (.getfield 49, 3) := by decide +kernel
theorem dX6_valley_27 : decode cX6_valley 27 = .ok (.iconst 0, 1) := by decide +kernel
theorem dX6_valley_28 : decode cX6_valley 28 = .ok (.putfield 114, 3) := by decide +kernel
theorem dX6_valley_31 : decode cX6_valley 31 = .ok (.iload_n 1, 1) := by decide +kernel
theorem dX6_valley_32 : decode cX6_valley 32 = .ok (.ifCond .eq 5, 3) := by decide +kernel
theorem dX6_valley_35 : decode cX6_valley 35 = .ok (.iload_n 1, 1) := by decide +kernel
theorem dX6_valley_36 : decode cX6_valley 36 = .ok (.ireturn, 1) := by decide +kernel
theorem dX6_valley_37 : decode cX6_valley 37 = .ok (.aload_n 0, 1) := by decide +kernel
theorem dX6_valley_38 : decode cX6_valley 38 = .ok (.getfield 12, 3) := by decide +kernel
theorem dX6_valley_41 : decode cX6_valley 41 = .ok (.aload_n 0, 1) := by decide +kernel
theorem dX6_valley_42 : decode cX6_valley 42 = .ok (.getfield 29, 3) := by decide +kernel
theorem dX6_valley_45 : decode cX6_valley 45 = .ok (.invokevirtual 117, 3) := by decide +kernel
theorem dX6_valley_48 : decode cX6_valley 48 = .ok (.aload_n 0, 1) := by decide +kernel
theorem dX6_valley_49 : decode cX6_valley 49 = .ok (.getfield 19, 3) := by decide +kernel
theorem dX6_valley_52 : decode cX6_valley 52 = .ok (.invokevirtual 76, 3) := by decide +kernel
theorem dX6_valley_55 : decode cX6_valley 55 = .ok (.aload_n 0, 1) := by decide +kernel
theorem dX6_valley_56 : decode cX6_valley 56 = .ok (.getfield 12, 3) := by decide +kernel
theorem dX6_valley_59 : decode cX6_valley 59 = .ok (.getfield 68, 3) := by decide +kernel
theorem dX6_valley_62 : decode cX6_valley 62 = .ok (.ireturn, 1) := by decide +kernel
theorem dX6_count_0 : decode cX6_count 0 = .ok (.iload_n 1, 1) := by decide +kernel
theorem dX6_count_1 : decode cX6_count 1 = .ok (.tableswitch 113 0 6 #[43, 51, 59, 67, 75, 90, 105], 43) := by decide +kernel
theorem dX6_count_44 : decode cX6_count 44 = .ok (.aload_n 0, 1) := by decide +kernel
theorem dX6_count_45 : decode cX6_count 45 = .ok (.getfield 12, 3) := by decide +kernel
theorem dX6_count_48 : decode cX6_count 48 = .ok (.getfield 68, 3) := by decide +kernel
theorem dX6_count_51 : decode cX6_count 51 = .ok (.ireturn, 1) := by decide +kernel
theorem dX6_count_52 : decode cX6_count 52 = .ok (.aload_n 0, 1) := by decide +kernel
theorem dX6_count_53 : decode cX6_count 53 = .ok (.getfield 12, 3) := by decide +kernel
theorem dX6_count_56 : decode cX6_count 56 = .ok (.getfield 125, 3) := by decide +kernel
theorem dX6_count_59 : decode cX6_count 59 = .ok (.ireturn, 1) := by decide +kernel
theorem dX6_count_60 : decode cX6_count 60 = .ok (.aload_n 0, 1) := by decide +kernel
theorem dX6_count_61 : decode cX6_count 61 = .ok (.getfield 12, 3) := by decide +kernel
theorem dX6_count_64 : decode cX6_count 64 = .ok (.invokevirtual 128, 3) := by decide +kernel
theorem dX6_count_67 : decode cX6_count 67 = .ok (.ireturn, 1) := by decide +kernel
theorem dX6_count_68 : decode cX6_count 68 = .ok (.aload_n 0, 1) := by decide +kernel
theorem dX6_count_69 : decode cX6_count 69 = .ok (.getfield 12, 3) := by decide +kernel
theorem dX6_count_72 : decode cX6_count 72 = .ok (.invokevirtual 132, 3) := by decide +kernel
theorem dX6_count_75 : decode cX6_count 75 = .ok (.ireturn, 1) := by decide +kernel
theorem dX6_count_76 : decode cX6_count 76 = .ok (.aload_n 0, 1) := by decide +kernel
theorem dX6_count_77 : decode cX6_count 77 = .ok (.getfield 12, 3) := by decide +kernel
theorem dX6_count_80 : decode cX6_count 80 = .ok (.aload_n 0, 1) := by decide +kernel
theorem dX6_count_81 : decode cX6_count 81 = .ok (.getfield 12, 3) := by decide +kernel
theorem dX6_count_84 : decode cX6_count 84 = .ok (.getfield 86, 3) := by decide +kernel
theorem dX6_count_87 : decode cX6_count 87 = .ok (.invokevirtual 135, 3) := by decide +kernel
theorem dX6_count_90 : decode cX6_count 90 = .ok (.ireturn, 1) := by decide +kernel
theorem dX6_count_91 : decode cX6_count 91 = .ok (.aload_n 0, 1) := by decide +kernel
theorem dX6_count_92 : decode cX6_count 92 = .ok (.getfield 12, 3) := by decide +kernel
theorem dX6_count_95 : decode cX6_count 95 = .ok (.aload_n 0, 1) := by decide +kernel
theorem dX6_count_96 : decode cX6_count 96 = .ok (.getfield 12, 3) := by decide +kernel
theorem dX6_count_99 : decode cX6_count 99 = .ok (.getfield 92, 3) := by decide +kernel
theorem dX6_count_102 : decode cX6_count 102 = .ok (.invokevirtual 135, 3) := by decide +kernel
theorem dX6_count_105 : decode cX6_count 105 = .ok (.ireturn, 1) := by decide +kernel
theorem dX6_count_106 : decode cX6_count 106 = .ok (.aload_n 0, 1) := by decide +kernel
theorem dX6_count_107 : decode cX6_count 107 = .ok (.getfield 19, 3) := by decide +kernel
theorem dX6_count_110 : decode cX6_count 110 = .ok (.getfield 139, 3) := by decide +kernel
theorem dX6_count_113 : decode cX6_count 113 = .ok (.ireturn, 1) := by decide +kernel
theorem dX6_count_114 : decode cX6_count 114 = .ok (.iconst (-1), 1) := by decide +kernel
theorem dX6_count_115 : decode cX6_count 115 = .ok (.ireturn, 1) := by decide +kernel
theorem dX6_days_0 : decode cX6_days 0 = .ok (.aload_n 0, 1) := by decide +kernel
theorem dX6_days_1 : decode cX6_days 1 = .ok (.iload_n 1, 1) := by decide +kernel
theorem dX6_days_2 : decode cX6_days 2 = .ok (.iconst 0, 1) := by decide +kernel
theorem dX6_days_3 : decode cX6_days 3 = .ok (.invokevirtual 142, 3) := by decide +kernel
theorem dX6_days_6 : decode cX6_days 6 = .ok (.ireturn, 1) := by decide +kernel
theorem dX6_set_0 : decode cX6_set 0 = .ok (.aload_n 0, 1) := by decide +kernel
theorem dX6_set_1 : decode cX6_set 1 = .ok (.getfield 12, 3) := by decide +kernel
theorem dX6_set_4 : decode cX6_set 4 = .ok (.iload_n 1, 1) := by decide +kernel
theorem dX6_set_5 : decode cX6_set 5 = .ok (.invokevirtual 79, 3) := by decide +kernel
theorem dX6_set_8 : decode cX6_set 8 = .ok (.ifCond .eq 10, 3) := by decide +kernel
theorem dX6_set_11 : decode cX6_set 11 = .ok (.iload_n 2, 1) := by decide +kernel
theorem dX6_set_12 : decode cX6_set 12 = .ok (.invokestatic 64, 3) := by decide +kernel
theorem dX6_set_15 : decode cX6_set 15 = .ok (.ifCond .ne 5, 3) := by decide +kernel
theorem dX6_set_18 : decode cX6_set 18 = .ok (.iconst (-1), 1) := by decide +kernel
theorem dX6_set_19 : decode cX6_set 19 = .ok (.ireturn, 1) := by decide +kernel
theorem dX6_set_20 : decode cX6_set 20 = .ok (.aload_n 0, 1) := by decide +kernel
theorem dX6_set_21 : decode cX6_set 21 = .ok (.getfield 12, 3) := by decide +kernel
theorem dX6_set_24 : decode cX6_set 24 = .ok (.getfield 86, 3) := by decide +kernel
theorem dX6_set_27 : decode cX6_set 27 = .ok (.iload_n 1, 1) := by decide +kernel
theorem dX6_set_28 : decode cX6_set 28 = .ok (.iaload, 1) := by decide +kernel
theorem dX6_set_29 : decode cX6_set 29 = .ok (.istore_n 3, 1) := by decide +kernel
theorem dX6_set_30 : decode cX6_set 30 = .ok (.iload_n 3, 1) := by decide +kernel
theorem dX6_set_31 : decode cX6_set 31 = .ok (.iload_n 2, 1) := by decide +kernel
theorem dX6_set_32 : decode cX6_set 32 = .ok (.if_icmp .ne 6, 3) := by decide +kernel
theorem dX6_set_35 : decode cX6_set 35 = .ok (.bipush (-2), 2) := by decide +kernel
theorem dX6_set_37 : decode cX6_set 37 = .ok (.ireturn, 1) := by decide +kernel
theorem dX6_set_38 : decode cX6_set 38 = .ok (.aload_n 0, 1) := by decide +kernel
theorem dX6_set_39 : decode cX6_set 39 = .ok (.getfield 19, 3) := by decide +kernel
theorem dX6_set_42 : decode cX6_set 42 = .ok (.aload_n 0, 1) := by decide +kernel
theorem dX6_set_43 : decode cX6_set 43 = .ok (.getfield 12, 3) := by decide +kernel
theorem dX6_set_46 : decode cX6_set 46 = .ok (.invokevirtual 146, 3) := by decide +kernel
theorem dX6_set_49 : decode cX6_set 49 = .ok (.aload_n 0, 1) := by decide +kernel
theorem dX6_set_50 : decode cX6_set 50 = .ok (.getfield 12, 3) := by decide +kernel
theorem dX6_set_53 : decode cX6_set 53 = .ok (.getfield 86, 3) := by decide +kernel
theorem dX6_set_56 : decode cX6_set 56 = .ok (.iload_n 1, 1) := by decide +kernel
theorem dX6_set_57 : decode cX6_set 57 = .ok (.iload_n 2, 1) := by decide +kernel
theorem dX6_set_58 : decode cX6_set 58 = .ok (.iastore, 1) := by decide +kernel
theorem dX6_set_59 : decode cX6_set 59 = .ok (.iload_n 3, 1) := by decide +kernel
theorem dX6_set_60 : decode cX6_set 60 = .ok (.ireturn, 1) := by decide +kernel
theorem dX6_move_0 : decode cX6_move 0 = .ok (.aload_n 0, 1) := by decide +kernel
theorem dX6_move_1 : decode cX6_move 1 = .ok (.getfield 12, 3) := by decide +kernel
theorem dX6_move_4 : decode cX6_move 4 = .ok (.iload_n 1, 1) := by decide +kernel
theorem dX6_move_5 : decode cX6_move 5 = .ok (.invokevirtual 79, 3) := by decide +kernel
theorem dX6_move_8 : decode cX6_move 8 = .ok (.ifCond .eq 13, 3) := by decide +kernel
theorem dX6_move_11 : decode cX6_move 11 = .ok (.iload_n 2, 1) := by decide +kernel
theorem dX6_move_12 : decode cX6_move 12 = .ok (.iconst 0, 1) := by decide +kernel
theorem dX6_move_13 : decode cX6_move 13 = .ok (.bipush 40, 2) := by decide +kernel
theorem dX6_move_15 : decode cX6_move 15 = .ok (.invokestatic 60, 3) := by decide +kernel
theorem dX6_move_18 : decode cX6_move 18 = .ok (.ifCond .ne 5, 3) := by decide +kernel
theorem dX6_move_21 : decode cX6_move 21 = .ok (.iconst (-1), 1) := by decide +kernel
theorem dX6_move_22 : decode cX6_move 22 = .ok (.ireturn, 1) := by decide +kernel
theorem dX6_move_23 : decode cX6_move 23 = .ok (.aload_n 0, 1) := by decide +kernel
theorem dX6_move_24 : decode cX6_move 24 = .ok (.getfield 12, 3) := by decide +kernel
theorem dX6_move_27 : decode cX6_move 27 = .ok (.getfield 92, 3) := by decide +kernel
theorem dX6_move_30 : decode cX6_move 30 = .ok (.iload_n 1, 1) := by decide +kernel
theorem dX6_move_31 : decode cX6_move 31 = .ok (.iaload, 1) := by decide +kernel
theorem dX6_move_32 : decode cX6_move 32 = .ok (.istore_n 3, 1) := by decide +kernel
theorem dX6_move_33 : decode cX6_move 33 = .ok (.iload_n 3, 1) := by decide +kernel
theorem dX6_move_34 : decode cX6_move 34 = .ok (.iload_n 2, 1) := by decide +kernel
theorem dX6_move_35 : decode cX6_move 35 = .ok (.if_icmp .ne 6, 3) := by decide +kernel
theorem dX6_move_38 : decode cX6_move 38 = .ok (.bipush (-2), 2) := by decide +kernel
theorem dX6_move_40 : decode cX6_move 40 = .ok (.ireturn, 1) := by decide +kernel
theorem dX6_move_41 : decode cX6_move 41 = .ok (.aload_n 0, 1) := by decide +kernel
theorem dX6_move_42 : decode cX6_move 42 = .ok (.getfield 19, 3) := by decide +kernel
theorem dX6_move_45 : decode cX6_move 45 = .ok (.aload_n 0, 1) := by decide +kernel
theorem dX6_move_46 : decode cX6_move 46 = .ok (.getfield 12, 3) := by decide +kernel
theorem dX6_move_49 : decode cX6_move 49 = .ok (.invokevirtual 146, 3) := by decide +kernel
theorem dX6_move_52 : decode cX6_move 52 = .ok (.aload_n 0, 1) := by decide +kernel
theorem dX6_move_53 : decode cX6_move 53 = .ok (.getfield 12, 3) := by decide +kernel
theorem dX6_move_56 : decode cX6_move 56 = .ok (.getfield 92, 3) := by decide +kernel
theorem dX6_move_59 : decode cX6_move 59 = .ok (.iload_n 1, 1) := by decide +kernel
theorem dX6_move_60 : decode cX6_move 60 = .ok (.iload_n 2, 1) := by decide +kernel
theorem dX6_move_61 : decode cX6_move 61 = .ok (.iastore, 1) := by decide +kernel
theorem dX6_move_62 : decode cX6_move 62 = .ok (.iload_n 3, 1) := by decide +kernel
theorem dX6_move_63 : decode cX6_move 63 = .ok (.ireturn, 1) := by decide +kernel
theorem dX6_tune_0 : decode cX6_tune 0 = .ok (.aload_n 0, 1) := by decide +kernel
theorem dX6_tune_1 : decode cX6_tune 1 = .ok (.getfield 12, 3) := by decide +kernel
theorem dX6_tune_4 : decode cX6_tune 4 = .ok (.iload_n 1, 1) := by decide +kernel
theorem dX6_tune_5 : decode cX6_tune 5 = .ok (.invokevirtual 79, 3) := by decide +kernel
theorem dX6_tune_8 : decode cX6_tune 8 = .ok (.ifCond .eq 13, 3) := by decide +kernel
theorem dX6_tune_11 : decode cX6_tune 11 = .ok (.iload_n 2, 1) := by decide +kernel
theorem dX6_tune_12 : decode cX6_tune 12 = .ok (.iconst 0, 1) := by decide +kernel
theorem dX6_tune_13 : decode cX6_tune 13 = .ok (.bipush 18, 2) := by decide +kernel
theorem dX6_tune_15 : decode cX6_tune 15 = .ok (.invokestatic 60, 3) := by decide +kernel
theorem dX6_tune_18 : decode cX6_tune 18 = .ok (.ifCond .ne 5, 3) := by decide +kernel
theorem dX6_tune_21 : decode cX6_tune 21 = .ok (.iconst (-1), 1) := by decide +kernel
theorem dX6_tune_22 : decode cX6_tune 22 = .ok (.ireturn, 1) := by decide +kernel
theorem dX6_tune_23 : decode cX6_tune 23 = .ok (.aload_n 0, 1) := by decide +kernel
theorem dX6_tune_24 : decode cX6_tune 24 = .ok (.getfield 12, 3) := by decide +kernel
theorem dX6_tune_27 : decode cX6_tune 27 = .ok (.getfield 89, 3) := by decide +kernel
theorem dX6_tune_30 : decode cX6_tune 30 = .ok (.iload_n 1, 1) := by decide +kernel
theorem dX6_tune_31 : decode cX6_tune 31 = .ok (.iaload, 1) := by decide +kernel
theorem dX6_tune_32 : decode cX6_tune 32 = .ok (.bipush 9, 2) := by decide +kernel
theorem dX6_tune_34 : decode cX6_tune 34 = .ok (.iadd, 1) := by decide +kernel
theorem dX6_tune_35 : decode cX6_tune 35 = .ok (.istore_n 3, 1) := by decide +kernel
theorem dX6_tune_36 : decode cX6_tune 36 = .ok (.iload_n 3, 1) := by decide +kernel
theorem dX6_tune_37 : decode cX6_tune 37 = .ok (.iload_n 2, 1) := by decide +kernel
theorem dX6_tune_38 : decode cX6_tune 38 = .ok (.if_icmp .ne 6, 3) := by decide +kernel
theorem dX6_tune_41 : decode cX6_tune 41 = .ok (.bipush (-2), 2) := by decide +kernel
theorem dX6_tune_43 : decode cX6_tune 43 = .ok (.ireturn, 1) := by decide +kernel
theorem dX6_tune_44 : decode cX6_tune 44 = .ok (.aload_n 0, 1) := by decide +kernel
theorem dX6_tune_45 : decode cX6_tune 45 = .ok (.getfield 19, 3) := by decide +kernel
theorem dX6_tune_48 : decode cX6_tune 48 = .ok (.aload_n 0, 1) := by decide +kernel
theorem dX6_tune_49 : decode cX6_tune 49 = .ok (.getfield 12, 3) := by decide +kernel
theorem dX6_tune_52 : decode cX6_tune 52 = .ok (.invokevirtual 146, 3) := by decide +kernel
theorem dX6_tune_55 : decode cX6_tune 55 = .ok (.aload_n 0, 1) := by decide +kernel
theorem dX6_tune_56 : decode cX6_tune 56 = .ok (.getfield 12, 3) := by decide +kernel
theorem dX6_tune_59 : decode cX6_tune 59 = .ok (.getfield 89, 3) := by decide +kernel
theorem dX6_tune_62 : decode cX6_tune 62 = .ok (.iload_n 1, 1) := by decide +kernel
theorem dX6_tune_63 : decode cX6_tune 63 = .ok (.iload_n 2, 1) := by decide +kernel
theorem dX6_tune_64 : decode cX6_tune 64 = .ok (.bipush 9, 2) := by decide +kernel
theorem dX6_tune_66 : decode cX6_tune 66 = .ok (.isub, 1) := by decide +kernel
theorem dX6_tune_67 : decode cX6_tune 67 = .ok (.iastore, 1) := by decide +kernel
theorem dX6_tune_68 : decode cX6_tune 68 = .ok (.iload_n 3, 1) := by decide +kernel
theorem dX6_tune_69 : decode cX6_tune 69 = .ok (.ireturn, 1) := by decide +kernel
theorem dX6_storm_0 : decode cX6_storm 0 = .ok (.aload_n 0, 1) := by decide +kernel
theorem dX6_storm_1 : decode cX6_storm 1 = .ok (.iload_n 1, 1) := by decide +kernel
theorem dX6_storm_2 : decode cX6_storm 2 = .ok (.iconst 1, 1) := by decide +kernel
theorem dX6_storm_3 : decode cX6_storm 3 = .ok (.invokevirtual 142, 3) := by decide +kernel
theorem dX6_storm_6 : decode cX6_storm 6 = .ok (.ireturn, 1) := by decide +kernel
theorem dX6_undo_0 : decode cX6_undo 0 = .ok (.aload_n 0, 1) := by decide +kernel
theorem dX6_undo_1 : decode cX6_undo 1 = .ok (.getfield 19, 3) := by decide +kernel
theorem dX6_undo_4 : decode cX6_undo 4 = .ok (.aload_n 0, 1) := by decide +kernel
theorem dX6_undo_5 : decode cX6_undo 5 = .ok (.getfield 12, 3) := by decide +kernel
theorem dX6_undo_8 : decode cX6_undo 8 = .ok (.invokevirtual 149, 3) := by decide +kernel
theorem dX6_undo_11 : decode cX6_undo 11 = .ok (.ifCond .eq 13, 3) := by decide +kernel
theorem dX6_undo_14 : decode cX6_undo 14 = .ok (.aload_n 0, 1) := by decide +kernel
theorem dX6_undo_15 : decode cX6_undo 15 = .ok (.getfield 19, 3) := by decide +kernel
theorem dX6_undo_18 : decode cX6_undo 18 = .ok (.getfield 139, 3) := by decide +kernel
theorem dX6_undo_21 : decode cX6_undo 21 = .ok (.goto 5, 3) := by decide +kernel
theorem dX6_undo_24 : decode cX6_undo 24 = .ok (.bipush (-4), 2) := by decide +kernel
theorem dX6_undo_26 : decode cX6_undo 26 = .ok (.ireturn, 1) := by decide +kernel
theorem dX6_seed_0 : decode cX6_seed 0 = .ok (.iload_n 1, 1) := by decide +kernel
theorem dX6_seed_1 : decode cX6_seed 1 = .ok (.ifCond .ge 5, 3) := by decide +kernel
theorem dX6_seed_4 : decode cX6_seed 4 = .ok (.iconst (-1), 1) := by decide +kernel
theorem dX6_seed_5 : decode cX6_seed 5 = .ok (.ireturn, 1) := by decide +kernel
theorem dX6_seed_6 : decode cX6_seed 6 = .ok (.aload_n 0, 1) := by decide +kernel
theorem dX6_seed_7 : decode cX6_seed 7 = .ok (.getfield 12, 3) := by decide +kernel
theorem dX6_seed_10 : decode cX6_seed 10 = .ok (.getfield 153, 3) := by decide +kernel
theorem dX6_seed_13 : decode cX6_seed 13 = .ok (.istore_n 2, 1) := by decide +kernel
theorem dX6_seed_14 : decode cX6_seed 14 = .ok (.aload_n 0, 1) := by decide +kernel
theorem dX6_seed_15 : decode cX6_seed 15 = .ok (.getfield 12, 3) := by decide +kernel
theorem dX6_seed_18 : decode cX6_seed 18 = .ok (.iload_n 1, 1) := by decide +kernel
theorem dX6_seed_19 : decode cX6_seed 19 = .ok (.putfield 153, 3) := by decide +kernel
theorem dX6_seed_22 : decode cX6_seed 22 = .ok (.iload_n 2, 1) := by decide +kernel
theorem dX6_seed_23 : decode cX6_seed 23 = .ok (.ireturn, 1) := by decide +kernel
theorem dX6_passDays_0 : decode cX6_passDays 0 = .ok (.iload_n 1, 1) := by decide +kernel
theorem dX6_passDays_1 : decode cX6_passDays 1 = .ok (.iconst 1, 1) := by decide +kernel
theorem dX6_passDays_2 : decode cX6_passDays 2 = .ok (.bipush 40, 2) := by decide +kernel
theorem dX6_passDays_4 : decode cX6_passDays 4 = .ok (.invokestatic 60, 3) := by decide +kernel
theorem dX6_passDays_7 : decode cX6_passDays 7 = .ok (.ifCond .ne 5, 3) := by decide +kernel
theorem dX6_passDays_10 : decode cX6_passDays 10 = .ok (.iconst (-1), 1) := by decide +kernel
theorem dX6_passDays_11 : decode cX6_passDays 11 = .ok (.ireturn, 1) := by decide +kernel
theorem dX6_passDays_12 : decode cX6_passDays 12 = .ok (.aload_n 0, 1) := by decide +kernel
theorem dX6_passDays_13 : decode cX6_passDays 13 = .ok (.getfield 12, 3) := by decide +kernel
theorem dX6_passDays_16 : decode cX6_passDays 16 = .ok (.getfield 125, 3) := by decide +kernel
theorem dX6_passDays_19 : decode cX6_passDays 19 = .ok (.iload_n 1, 1) := by decide +kernel
theorem dX6_passDays_20 : decode cX6_passDays 20 = .ok (.iadd, 1) := by decide +kernel
theorem dX6_passDays_21 : decode cX6_passDays 21 = .ok (.sipush 9999, 3) := by decide +kernel
theorem dX6_passDays_24 : decode cX6_passDays 24 = .ok (.if_icmp .le 6, 3) := by decide +kernel
theorem dX6_passDays_27 : decode cX6_passDays 27 = .ok (.bipush (-3), 2) := by decide +kernel
theorem dX6_passDays_29 : decode cX6_passDays 29 = .ok (.ireturn, 1) := by decide +kernel
theorem dX6_passDays_30 : decode cX6_passDays 30 = .ok (.iconst 0, 1) := by decide +kernel
theorem dX6_passDays_31 : decode cX6_passDays 31 = .ok (.istore_n 3, 1) := by decide +kernel
theorem dX6_passDays_32 : decode cX6_passDays 32 = .ok (.iload_n 3, 1) := by decide +kernel
theorem dX6_passDays_33 : decode cX6_passDays 33 = .ok (.iload_n 1, 1) := by decide +kernel
theorem dX6_passDays_34 : decode cX6_passDays 34 = .ok (.if_icmp .ge 38, 3) := by decide +kernel
theorem dX6_passDays_37 : decode cX6_passDays 37 = .ok (.aload_n 0, 1) := by decide +kernel
theorem dX6_passDays_38 : decode cX6_passDays 38 = .ok (.getfield 19, 3) := by decide +kernel
theorem dX6_passDays_41 : decode cX6_passDays 41 = .ok (.aload_n 0, 1) := by decide +kernel
theorem dX6_passDays_42 : decode cX6_passDays 42 = .ok (.getfield 12, 3) := by decide +kernel
theorem dX6_passDays_45 : decode cX6_passDays 45 = .ok (.invokevirtual 146, 3) := by decide +kernel
theorem dX6_passDays_48 : decode cX6_passDays 48 = .ok (.iload_n 2, 1) := by decide +kernel
theorem dX6_passDays_49 : decode cX6_passDays 49 = .ok (.ifCond .eq 10, 3) := by decide +kernel
theorem dX6_passDays_52 : decode cX6_passDays 52 = .ok (.aload_n 0, 1) := by decide +kernel
theorem dX6_passDays_53 : decode cX6_passDays 53 = .ok (.getfield 12, 3) := by decide +kernel
theorem dX6_passDays_56 : decode cX6_passDays 56 = .ok (.invokevirtual 156, 3) := by decide +kernel
theorem dX6_passDays_59 : decode cX6_passDays 59 = .ok (.aload_n 0, 1) := by decide +kernel
theorem dX6_passDays_60 : decode cX6_passDays 60 = .ok (.getfield 12, 3) := by decide +kernel
theorem dX6_passDays_63 : decode cX6_passDays 63 = .ok (.invokevirtual 159, 3) := by decide +kernel
theorem dX6_passDays_66 : decode cX6_passDays 66 = .ok (.iinc 3 1, 3) := by decide +kernel
theorem dX6_passDays_69 : decode cX6_passDays 69 = .ok (.goto (-37), 3) := by decide +kernel
theorem dX6_passDays_72 : decode cX6_passDays 72 = .ok (.aload_n 0, 1) := by decide +kernel
theorem dX6_passDays_73 : decode cX6_passDays 73 = .ok (.getfield 12, 3) := by decide +kernel
theorem dX6_passDays_76 : decode cX6_passDays 76 = .ok (.invokevirtual 128, 3) := by decide +kernel
theorem dX6_passDays_79 : decode cX6_passDays 79 = .ok (.ireturn, 1) := by decide +kernel
theorem dX6_ahead_0 : decode cX6_ahead 0 = .ok (.aload_n 0, 1) := by decide +kernel
theorem dX6_ahead_1 : decode cX6_ahead 1 = .ok (.getfield 12, 3) := by decide +kernel
theorem dX6_ahead_4 : decode cX6_ahead 4 = .ok (.iload_n 1, 1) := by decide +kernel
theorem dX6_ahead_5 : decode cX6_ahead 5 = .ok (.invokevirtual 79, 3) := by decide +kernel
theorem dX6_ahead_8 : decode cX6_ahead 8 = .ok (.ifCond .eq 13, 3) := by decide +kernel
theorem dX6_ahead_11 : decode cX6_ahead 11 = .ok (.iload_n 2, 1) := by decide +kernel
theorem dX6_ahead_12 : decode cX6_ahead 12 = .ok (.iconst 0, 1) := by decide +kernel
theorem dX6_ahead_13 : decode cX6_ahead 13 = .ok (.bipush 60, 2) := by decide +kernel
theorem dX6_ahead_15 : decode cX6_ahead 15 = .ok (.invokestatic 60, 3) := by decide +kernel
theorem dX6_ahead_18 : decode cX6_ahead 18 = .ok (.ifCond .ne 5, 3) := by decide +kernel
theorem dX6_ahead_21 : decode cX6_ahead 21 = .ok (.iconst (-1), 1) := by decide +kernel
theorem dX6_ahead_22 : decode cX6_ahead 22 = .ok (.ireturn, 1) := by decide +kernel
theorem dX6_ahead_23 : decode cX6_ahead 23 = .ok (.aload_n 0, 1) := by decide +kernel
theorem dX6_ahead_24 : decode cX6_ahead 24 = .ok (.iload_n 2, 1) := by decide +kernel
theorem dX6_ahead_25 : decode cX6_ahead 25 = .ok (.invokevirtual 162, 3) := by decide +kernel
theorem dX6_ahead_28 : decode cX6_ahead 28 = .ok (.aload_n 0, 1) := by decide +kernel
theorem dX6_ahead_29 : decode cX6_ahead 29 = .ok (.getfield 29, 3) := by decide +kernel
theorem dX6_ahead_32 : decode cX6_ahead 32 = .ok (.getfield 86, 3) := by decide +kernel
theorem dX6_ahead_35 : decode cX6_ahead 35 = .ok (.iload_n 1, 1) := by decide +kernel
theorem dX6_ahead_36 : decode cX6_ahead 36 = .ok (.iaload, 1) := by decide +kernel
theorem dX6_ahead_37 : decode cX6_ahead 37 = .ok (.ireturn, 1) := by decide +kernel
theorem dX6_near_0 : decode cX6_near 0 = .ok (.iload_n 1, 1) := by decide +kernel
theorem dX6_near_1 : decode cX6_near 1 = .ok (.iconst 0, 1) := by decide +kernel
theorem dX6_near_2 : decode cX6_near 2 = .ok (.bipush 60, 2) := by decide +kernel
theorem dX6_near_4 : decode cX6_near 4 = .ok (.invokestatic 60, 3) := by decide +kernel
theorem dX6_near_7 : decode cX6_near 7 = .ok (.ifCond .ne 5, 3) := by decide +kernel
theorem dX6_near_10 : decode cX6_near 10 = .ok (.iconst (-1), 1) := by decide +kernel
theorem dX6_near_11 : decode cX6_near 11 = .ok (.ireturn, 1) := by decide +kernel
theorem dX6_near_12 : decode cX6_near 12 = .ok (.aload_n 0, 1) := by decide +kernel
theorem dX6_near_13 : decode cX6_near 13 = .ok (.iload_n 1, 1) := by decide +kernel
theorem dX6_near_14 : decode cX6_near 14 = .ok (.invokevirtual 162, 3) := by decide +kernel
theorem dX6_near_17 : decode cX6_near 17 = .ok (.aload_n 0, 1) := by decide +kernel
theorem dX6_near_18 : decode cX6_near 18 = .ok (.getfield 29, 3) := by decide +kernel
theorem dX6_near_21 : decode cX6_near 21 = .ok (.invokevirtual 128, 3) := by decide +kernel
theorem dX6_near_24 : decode cX6_near 24 = .ok (.ireturn, 1) := by decide +kernel
theorem dX6_meet_0 : decode cX6_meet 0 = .ok (.aload_n 0, 1) := by decide +kernel
theorem dX6_meet_1 : decode cX6_meet 1 = .ok (.getfield 12, 3) := by decide +kernel
theorem dX6_meet_4 : decode cX6_meet 4 = .ok (.iload_n 1, 1) := by decide +kernel
theorem dX6_meet_5 : decode cX6_meet 5 = .ok (.iload_n 2, 1) := by decide +kernel
theorem dX6_meet_6 : decode cX6_meet 6 = .ok (.invokevirtual 102, 3) := by decide +kernel
theorem dX6_meet_9 : decode cX6_meet 9 = .ok (.ifCond .ne 5, 3) := by decide +kernel
theorem dX6_meet_12 : decode cX6_meet 12 = .ok (.iconst (-1), 1) := by decide +kernel
theorem dX6_meet_13 : decode cX6_meet 13 = .ok (.ireturn, 1) := by decide +kernel
theorem dX6_meet_14 : decode cX6_meet 14 = .ok (.aload_n 0, 1) := by decide +kernel
theorem dX6_meet_15 : decode cX6_meet 15 = .ok (.getfield 29, 3) := by decide +kernel
theorem dX6_meet_18 : decode cX6_meet 18 = .ok (.aload_n 0, 1) := by decide +kernel
theorem dX6_meet_19 : decode cX6_meet 19 = .ok (.getfield 12, 3) := by decide +kernel
theorem dX6_meet_22 : decode cX6_meet 22 = .ok (.invokevirtual 117, 3) := by decide +kernel
theorem dX6_meet_25 : decode cX6_meet 25 = .ok (.iconst 0, 1) := by decide +kernel
theorem dX6_meet_26 : decode cX6_meet 26 = .ok (.istore_n 3, 1) := by decide +kernel
theorem dX6_meet_27 : decode cX6_meet 27 = .ok (.iload_n 3, 1) := by decide +kernel
theorem dX6_meet_28 : decode cX6_meet 28 = .ok (.bipush 60, 2) := by decide +kernel
theorem dX6_meet_30 : decode cX6_meet 30 = .ok (.if_icmp .gt 30, 3) := by decide +kernel
theorem dX6_meet_33 : decode cX6_meet 33 = .ok (.aload_n 0, 1) := by decide +kernel
theorem dX6_meet_34 : decode cX6_meet 34 = .ok (.getfield 29, 3) := by decide +kernel
theorem dX6_meet_37 : decode cX6_meet 37 = .ok (.iload_n 1, 1) := by decide +kernel
theorem dX6_meet_38 : decode cX6_meet 38 = .ok (.iload_n 2, 1) := by decide +kernel
theorem dX6_meet_39 : decode cX6_meet 39 = .ok (.invokevirtual 106, 3) := by decide +kernel
theorem dX6_meet_42 : decode cX6_meet 42 = .ok (.ifCond .ne 5, 3) := by decide +kernel
theorem dX6_meet_45 : decode cX6_meet 45 = .ok (.iload_n 3, 1) := by decide +kernel
theorem dX6_meet_46 : decode cX6_meet 46 = .ok (.ireturn, 1) := by decide +kernel
theorem dX6_meet_47 : decode cX6_meet 47 = .ok (.aload_n 0, 1) := by decide +kernel
theorem dX6_meet_48 : decode cX6_meet 48 = .ok (.getfield 29, 3) := by decide +kernel
theorem dX6_meet_51 : decode cX6_meet 51 = .ok (.invokevirtual 159, 3) := by decide +kernel
theorem dX6_meet_54 : decode cX6_meet 54 = .ok (.iinc 3 1, 3) := by decide +kernel
theorem dX6_meet_57 : decode cX6_meet 57 = .ok (.goto (-30), 3) := by decide +kernel
theorem dX6_meet_60 : decode cX6_meet 60 = .ok (.bipush (-4), 2) := by decide +kernel
theorem dX6_meet_62 : decode cX6_meet 62 = .ok (.ireturn, 1) := by decide +kernel
theorem dX6_together_0 : decode cX6_together 0 = .ok (.iload_n 1, 1) := by decide +kernel
theorem dX6_together_1 : decode cX6_together 1 = .ok (.iconst 0, 1) := by decide +kernel
theorem dX6_together_2 : decode cX6_together 2 = .ok (.iconst 1, 1) := by decide +kernel
theorem dX6_together_3 : decode cX6_together 3 = .ok (.invokestatic 60, 3) := by decide +kernel
theorem dX6_together_6 : decode cX6_together 6 = .ok (.ifCond .ne 5, 3) := by decide +kernel
theorem dX6_together_9 : decode cX6_together 9 = .ok (.iconst (-1), 1) := by decide +kernel
theorem dX6_together_10 : decode cX6_together 10 = .ok (.ireturn, 1) := by decide +kernel
theorem dX6_together_11 : decode cX6_together 11 = .ok (.aload_n 0, 1) := by decide +kernel
theorem dX6_together_12 : decode cX6_together 12 = .ok (.getfield 29, 3) := by decide +kernel
theorem dX6_together_15 : decode cX6_together 15 = .ok (.aload_n 0, 1) := by decide +kernel
theorem dX6_together_16 : decode cX6_together 16 = .ok (.getfield 12, 3) := by decide +kernel
theorem dX6_together_19 : decode cX6_together 19 = .ok (.invokevirtual 117, 3) := by decide +kernel
theorem dX6_together_22 : decode cX6_together 22 = .ok (.aload_n 0, 1) := by decide +kernel
theorem dX6_together_23 : decode cX6_together 23 = .ok (.getfield 29, 3) := by decide +kernel
theorem dX6_together_26 : decode cX6_together 26 = .ok (.invokevirtual 166, 3) := by decide +kernel
theorem dX6_together_29 : decode cX6_together 29 = .ok (.istore_n 2, 1) := by decide +kernel
theorem dX6_together_30 : decode cX6_together 30 = .ok (.iload_n 2, 1) := by decide +kernel
theorem dX6_together_31 : decode cX6_together 31 = .ok (.bipush 61, 2) := by decide +kernel
theorem dX6_together_33 : decode cX6_together 33 = .ok (.if_icmp .ne 14, 3) := by decide +kernel
theorem dX6_together_36 : decode cX6_together 36 = .ok (.iload_n 1, 1) := by decide +kernel
theorem dX6_together_37 : decode cX6_together 37 = .ok (.ifCond .ne 8, 3) := by decide +kernel
theorem dX6_together_40 : decode cX6_together 40 = .ok (.bipush (-4), 2) := by decide +kernel
theorem dX6_together_42 : decode cX6_together 42 = .ok (.goto 4, 3) := by decide +kernel
theorem dX6_together_45 : decode cX6_together 45 = .ok (.iconst 0, 1) := by decide +kernel
theorem dX6_together_46 : decode cX6_together 46 = .ok (.ireturn, 1) := by decide +kernel
theorem dX6_together_47 : decode cX6_together 47 = .ok (.iload_n 1, 1) := by decide +kernel
theorem dX6_together_48 : decode cX6_together 48 = .ok (.ifCond .ne 7, 3) := by decide +kernel
theorem dX6_together_51 : decode cX6_together 51 = .ok (.iload_n 2, 1) := by decide +kernel
theorem dX6_together_52 : decode cX6_together 52 = .ok (.goto 10, 3) := by decide +kernel
theorem dX6_together_55 : decode cX6_together 55 = .ok (.aload_n 0, 1) := by decide +kernel
theorem dX6_together_56 : decode cX6_together 56 = .ok (.getfield 29, 3) := by decide +kernel
theorem dX6_together_59 : decode cX6_together 59 = .ok (.invokevirtual 132, 3) := by decide +kernel
theorem dX6_together_62 : decode cX6_together 62 = .ok (.ireturn, 1) := by decide +kernel
theorem dX6_fix_0 : decode cX6_fix 0 = .ok (.iload_n 1, 1) := by decide +kernel
theorem dX6_fix_1 : decode cX6_fix 1 = .ok (.iconst 1, 1) := by decide +kernel
theorem dX6_fix_2 : decode cX6_fix 2 = .ok (.bipush 12, 2) := by decide +kernel
theorem dX6_fix_4 : decode cX6_fix 4 = .ok (.invokestatic 60, 3) := by decide +kernel
theorem dX6_fix_7 : decode cX6_fix 7 = .ok (.ifCond .eq 19, 3) := by decide +kernel
theorem dX6_fix_10 : decode cX6_fix 10 = .ok (.iload_n 2, 1) := by decide +kernel
theorem dX6_fix_11 : decode cX6_fix 11 = .ok (.iconst (-1), 1) := by decide +kernel
theorem dX6_fix_12 : decode cX6_fix 12 = .ok (.if_icmp .eq 16, 3) := by decide +kernel
theorem dX6_fix_15 : decode cX6_fix 15 = .ok (.aload_n 0, 1) := by decide +kernel
theorem dX6_fix_16 : decode cX6_fix 16 = .ok (.getfield 12, 3) := by decide +kernel
theorem dX6_fix_19 : decode cX6_fix 19 = .ok (.iload_n 2, 1) := by decide +kernel
theorem dX6_fix_20 : decode cX6_fix 20 = .ok (.invokevirtual 79, 3) := by decide +kernel
theorem dX6_fix_23 : decode cX6_fix 23 = .ok (.ifCond .ne 5, 3) := by decide +kernel
theorem dX6_fix_26 : decode cX6_fix 26 = .ok (.iconst (-1), 1) := by decide +kernel
theorem dX6_fix_27 : decode cX6_fix 27 = .ok (.ireturn, 1) := by decide +kernel
theorem dX6_fix_28 : decode cX6_fix 28 = .ok (.aload_n 0, 1) := by decide +kernel
theorem dX6_fix_29 : decode cX6_fix 29 = .ok (.getfield 35, 3) := by decide +kernel
theorem dX6_fix_32 : decode cX6_fix 32 = .ok (.aload_n 0, 1) := by decide +kernel
theorem dX6_fix_33 : decode cX6_fix 33 = .ok (.getfield 12, 3) := by decide +kernel
theorem dX6_fix_36 : decode cX6_fix 36 = .ok (.iload_n 1, 1) := by decide +kernel
theorem dX6_fix_37 : decode cX6_fix 37 = .ok (.invokevirtual 169, 3) := by decide +kernel
theorem dX6_fix_40 : decode cX6_fix 40 = .ok (.istore_n 3, 1) := by decide +kernel
theorem dX6_fix_41 : decode cX6_fix 41 = .ok (.iload_n 3, 1) := by decide +kernel
theorem dX6_fix_42 : decode cX6_fix 42 = .ok (.bipush (-4), 2) := by decide +kernel
theorem dX6_fix_44 : decode cX6_fix 44 = .ok (.if_icmp .eq 8, 3) := by decide +kernel
theorem dX6_fix_47 : decode cX6_fix 47 = .ok (.iload_n 2, 1) := by decide +kernel
theorem dX6_fix_48 : decode cX6_fix 48 = .ok (.iconst (-1), 1) := by decide +kernel
theorem dX6_fix_49 : decode cX6_fix 49 = .ok (.if_icmp .ne 5, 3) := by decide +kernel
theorem dX6_fix_52 : decode cX6_fix 52 = .ok (.iload_n 3, 1) := by decide +kernel
theorem dX6_fix_53 : decode cX6_fix 53 = .ok (.ireturn, 1) := by decide +kernel
theorem dX6_fix_54 : decode cX6_fix 54 = .ok (.aload_n 0, 1) := by decide +kernel
theorem dX6_fix_55 : decode cX6_fix 55 = .ok (.getfield 35, 3) := by decide +kernel
theorem dX6_fix_58 : decode cX6_fix 58 = .ok (.getfield 173, 3) := by decide +kernel
theorem dX6_fix_61 : decode cX6_fix 61 = .ok (.iload_n 2, 1) := by decide +kernel
theorem dX6_fix_62 : decode cX6_fix 62 = .ok (.iaload, 1) := by decide +kernel
theorem dX6_fix_63 : decode cX6_fix 63 = .ok (.iconst 2, 1) := by decide +kernel
theorem dX6_fix_64 : decode cX6_fix 64 = .ok (.iadd, 1) := by decide +kernel
theorem dX6_fix_65 : decode cX6_fix 65 = .ok (.ireturn, 1) := by decide +kernel
theorem dX6_free_0 : decode cX6_free 0 = .ok (.iload_n 1, 1) := by decide +kernel
theorem dX6_free_1 : decode cX6_free 1 = .ok (.iconst 1, 1) := by decide +kernel
theorem dX6_free_2 : decode cX6_free 2 = .ok (.bipush 30, 2) := by decide +kernel
theorem dX6_free_4 : decode cX6_free 4 = .ok (.invokestatic 60, 3) := by decide +kernel
theorem dX6_free_7 : decode cX6_free 7 = .ok (.ifCond .eq 12, 3) := by decide +kernel
theorem dX6_free_10 : decode cX6_free 10 = .ok (.iload_n 2, 1) := by decide +kernel
theorem dX6_free_11 : decode cX6_free 11 = .ok (.iconst 0, 1) := by decide +kernel
theorem dX6_free_12 : decode cX6_free 12 = .ok (.iconst 2, 1) := by decide +kernel
theorem dX6_free_13 : decode cX6_free 13 = .ok (.invokestatic 60, 3) := by decide +kernel
theorem dX6_free_16 : decode cX6_free 16 = .ok (.ifCond .ne 7, 3) := by decide +kernel
theorem dX6_free_19 : decode cX6_free 19 = .ok (.ldc2_w 176, 3) := by decide +kernel
theorem dX6_free_22 : decode cX6_free 22 = .ok (.lreturn, 1) := by decide +kernel
theorem dX6_free_23 : decode cX6_free 23 = .ok (.aload_n 0, 1) := by decide +kernel
theorem dX6_free_24 : decode cX6_free 24 = .ok (.iload_n 1, 1) := by decide +kernel
theorem dX6_free_25 : decode cX6_free 25 = .ok (.invokevirtual 178, 3) := by decide +kernel
theorem dX6_free_28 : decode cX6_free 28 = .ok (.lstore_n 3, 1) := by decide +kernel
theorem dX6_free_29 : decode cX6_free 29 = .ok (.iload_n 2, 1) := by decide +kernel
theorem dX6_free_30 : decode cX6_free 30 = .ok (.ifCond .ne 5, 3) := by decide +kernel
theorem dX6_free_33 : decode cX6_free 33 = .ok (.lload_n 3, 1) := by decide +kernel
theorem dX6_free_34 : decode cX6_free 34 = .ok (.lreturn, 1) := by decide +kernel
theorem dX6_free_35 : decode cX6_free 35 = .ok (.iload_n 2, 1) := by decide +kernel
theorem dX6_free_36 : decode cX6_free 36 = .ok (.iconst 1, 1) := by decide +kernel
theorem dX6_free_37 : decode cX6_free 37 = .ok (.if_icmp .ne 9, 3) := by decide +kernel
theorem dX6_free_40 : decode cX6_free 40 = .ok (.lload_n 3, 1) := by decide +kernel
theorem dX6_free_41 : decode cX6_free 41 = .ok (.invokestatic 182, 3) := by decide +kernel
theorem dX6_free_44 : decode cX6_free 44 = .ok (.i2l, 1) := by decide +kernel
theorem dX6_free_45 : decode cX6_free 45 = .ok (.lreturn, 1) := by decide +kernel
theorem dX6_free_46 : decode cX6_free 46 = .ok (.lload_n 3, 1) := by decide +kernel
theorem dX6_free_47 : decode cX6_free 47 = .ok (.lconst 0, 1) := by decide +kernel
theorem dX6_free_48 : decode cX6_free 48 = .ok (.lcmp, 1) := by decide +kernel
theorem dX6_free_49 : decode cX6_free 49 = .ok (.ifCond .ne 9, 3) := by decide +kernel
theorem dX6_free_52 : decode cX6_free 52 = .ok (.ldc2_w 188, 3) := by decide +kernel
theorem dX6_free_55 : decode cX6_free 55 = .ok (.goto 8, 3) := by decide +kernel
theorem dX6_free_58 : decode cX6_free 58 = .ok (.lload_n 3, 1) := by decide +kernel
theorem dX6_free_59 : decode cX6_free 59 = .ok (.invokestatic 190, 3) := by decide +kernel
theorem dX6_free_62 : decode cX6_free 62 = .ok (.i2l, 1) := by decide +kernel
theorem dX6_free_63 : decode cX6_free 63 = .ok (.lreturn, 1) := by decide +kernel
theorem dX6_hear_0 : decode cX6_hear 0 = .ok (.aload_n 0, 1) := by decide +kernel
theorem dX6_hear_1 : decode cX6_hear 1 = .ok (.getfield 12, 3) := by decide +kernel
theorem dX6_hear_4 : decode cX6_hear 4 = .ok (.iload_n 1, 1) := by decide +kernel
theorem dX6_hear_5 : decode cX6_hear 5 = .ok (.invokevirtual 79, 3) := by decide +kernel
theorem dX6_hear_8 : decode cX6_hear 8 = .ok (.ifCond .eq 26, 3) := by decide +kernel
theorem dX6_hear_11 : decode cX6_hear 11 = .ok (.iload_n 2, 1) := by decide +kernel
theorem dX6_hear_12 : decode cX6_hear 12 = .ok (.invokestatic 64, 3) := by decide +kernel
theorem dX6_hear_15 : decode cX6_hear 15 = .ok (.ifCond .eq 19, 3) := by decide +kernel
theorem dX6_hear_18 : decode cX6_hear 18 = .ok (.iload_n 3, 1) := by decide +kernel
theorem dX6_hear_19 : decode cX6_hear 19 = .ok (.iconst 1, 1) := by decide +kernel
theorem dX6_hear_20 : decode cX6_hear 20 = .ok (.bipush 9, 2) := by decide +kernel
theorem dX6_hear_22 : decode cX6_hear 22 = .ok (.invokestatic 60, 3) := by decide +kernel
theorem dX6_hear_25 : decode cX6_hear 25 = .ok (.ifCond .eq 9, 3) := by decide +kernel
theorem dX6_hear_28 : decode cX6_hear 28 = .ok (.iload 4, 2) := by decide +kernel
theorem dX6_hear_30 : decode cX6_hear 30 = .ok (.iconst (-1), 1) := by decide +kernel
theorem dX6_hear_31 : decode cX6_hear 31 = .ok (.if_icmp .ge 5, 3) := by decide +kernel
theorem dX6_hear_34 : decode cX6_hear 34 = .ok (.iconst (-1), 1) := by decide +kernel
theorem dX6_hear_35 : decode cX6_hear 35 = .ok (.ireturn, 1) := by decide +kernel
theorem dX6_hear_36 : decode cX6_hear 36 = .ok (.iload 4, 2) := by decide +kernel
theorem dX6_hear_38 : decode cX6_hear 38 = .ok (.aload_n 0, 1) := by decide +kernel
theorem dX6_hear_39 : decode cX6_hear 39 = .ok (.getfield 12, 3) := by decide +kernel
theorem dX6_hear_42 : decode cX6_hear 42 = .ok (.getfield 68, 3) := by decide +kernel
theorem dX6_hear_45 : decode cX6_hear 45 = .ok (.if_icmp .lt 6, 3) := by decide +kernel
theorem dX6_hear_48 : decode cX6_hear 48 = .ok (.bipush (-4), 2) := by decide +kernel
theorem dX6_hear_50 : decode cX6_hear 50 = .ok (.ireturn, 1) := by decide +kernel
theorem dX6_hear_51 : decode cX6_hear 51 = .ok (.aload_n 0, 1) := by decide +kernel
theorem dX6_hear_52 : decode cX6_hear 52 = .ok (.getfield 42, 3) := by decide +kernel
theorem dX6_hear_55 : decode cX6_hear 55 = .ok (.aload_n 0, 1) := by decide +kernel
theorem dX6_hear_56 : decode cX6_hear 56 = .ok (.getfield 12, 3) := by decide +kernel
theorem dX6_hear_59 : decode cX6_hear 59 = .ok (.iload_n 1, 1) := by decide +kernel
theorem dX6_hear_60 : decode cX6_hear 60 = .ok (.iload_n 2, 1) := by decide +kernel
theorem dX6_hear_61 : decode cX6_hear 61 = .ok (.iload_n 3, 1) := by decide +kernel
theorem dX6_hear_62 : decode cX6_hear 62 = .ok (.invokevirtual 193, 3) := by decide +kernel
theorem dX6_hear_65 : decode cX6_hear 65 = .ok (.istore 5, 2) := by decide +kernel
theorem dX6_hear_67 : decode cX6_hear 67 = .ok (.iload 4, 2) := by decide +kernel
theorem dX6_hear_69 : decode cX6_hear 69 = .ok (.iconst (-1), 1) := by decide +kernel
theorem dX6_hear_70 : decode cX6_hear 70 = .ok (.if_icmp .ne 8, 3) := by decide +kernel
theorem dX6_hear_73 : decode cX6_hear 73 = .ok (.iload 5, 2) := by decide +kernel
theorem dX6_hear_75 : decode cX6_hear 75 = .ok (.goto 13, 3) := by decide +kernel
theorem dX6_hear_78 : decode cX6_hear 78 = .ok (.aload_n 0, 1) := by decide +kernel
theorem dX6_hear_79 : decode cX6_hear 79 = .ok (.getfield 42, 3) := by decide +kernel
theorem dX6_hear_82 : decode cX6_hear 82 = .ok (.getfield 197, 3) := by decide +kernel
theorem dX6_hear_85 : decode cX6_hear 85 = .ok (.iload 4, 2) := by decide +kernel
theorem dX6_hear_87 : decode cX6_hear 87 = .ok (.iaload, 1) := by decide +kernel
theorem dX6_hear_88 : decode cX6_hear 88 = .ok (.ireturn, 1) := by decide +kernel
theorem dX6_again_0 : decode cX6_again 0 = .ok (.aload_n 0, 1) := by decide +kernel
theorem dX6_again_1 : decode cX6_again 1 = .ok (.getfield 29, 3) := by decide +kernel
theorem dX6_again_4 : decode cX6_again 4 = .ok (.aload_n 0, 1) := by decide +kernel
theorem dX6_again_5 : decode cX6_again 5 = .ok (.getfield 12, 3) := by decide +kernel
theorem dX6_again_8 : decode cX6_again 8 = .ok (.invokevirtual 117, 3) := by decide +kernel
theorem dX6_again_11 : decode cX6_again 11 = .ok (.iconst 1, 1) := by decide +kernel
theorem dX6_again_12 : decode cX6_again 12 = .ok (.istore_n 1, 1) := by decide +kernel
theorem dX6_again_13 : decode cX6_again 13 = .ok (.iload_n 1, 1) := by decide +kernel
theorem dX6_again_14 : decode cX6_again 14 = .ok (.sipush 240, 3) := by decide +kernel
theorem dX6_again_17 : decode cX6_again 17 = .ok (.if_icmp .gt 38, 3) := by decide +kernel
theorem dX6_again_20 : decode cX6_again 20 = .ok (.aload_n 0, 1) := by decide +kernel
theorem dX6_again_21 : decode cX6_again 21 = .ok (.getfield 29, 3) := by decide +kernel
theorem dX6_again_24 : decode cX6_again 24 = .ok (.invokevirtual 159, 3) := by decide +kernel
theorem dX6_again_27 : decode cX6_again 27 = .ok (.iload_n 1, 1) := by decide +kernel
theorem dX6_again_28 : decode cX6_again 28 = .ok (.iconst 2, 1) := by decide +kernel
theorem dX6_again_29 : decode cX6_again 29 = .ok (.irem, 1) := by decide +kernel
theorem dX6_again_30 : decode cX6_again 30 = .ok (.ifCond .ne 19, 3) := by decide +kernel
theorem dX6_again_33 : decode cX6_again 33 = .ok (.aload_n 0, 1) := by decide +kernel
theorem dX6_again_34 : decode cX6_again 34 = .ok (.getfield 29, 3) := by decide +kernel
theorem dX6_again_37 : decode cX6_again 37 = .ok (.aload_n 0, 1) := by decide +kernel
theorem dX6_again_38 : decode cX6_again 38 = .ok (.getfield 12, 3) := by decide +kernel
theorem dX6_again_41 : decode cX6_again 41 = .ok (.invokevirtual 200, 3) := by decide +kernel
theorem dX6_again_44 : decode cX6_again 44 = .ok (.ifCond .eq 5, 3) := by decide +kernel
theorem dX6_again_47 : decode cX6_again 47 = .ok (.iload_n 1, 1) := by decide +kernel
theorem dX6_again_48 : decode cX6_again 48 = .ok (.ireturn, 1) := by decide +kernel
theorem dX6_again_49 : decode cX6_again 49 = .ok (.iinc 1 1, 3) := by decide +kernel
theorem dX6_again_52 : decode cX6_again 52 = .ok (.goto (-39), 3) := by decide +kernel
theorem dX6_again_55 : decode cX6_again 55 = .ok (.bipush (-4), 2) := by decide +kernel
theorem dX6_again_57 : decode cX6_again 57 = .ok (.ireturn, 1) := by decide +kernel
theorem dX6_worst_0 : decode cX6_worst 0 = .ok (.iload_n 1, 1) := by decide +kernel
theorem dX6_worst_1 : decode cX6_worst 1 = .ok (.iconst 0, 1) := by decide +kernel
theorem dX6_worst_2 : decode cX6_worst 2 = .ok (.iconst 1, 1) := by decide +kernel
theorem dX6_worst_3 : decode cX6_worst 3 = .ok (.invokestatic 60, 3) := by decide +kernel
theorem dX6_worst_6 : decode cX6_worst 6 = .ok (.ifCond .ne 5, 3) := by decide +kernel
theorem dX6_worst_9 : decode cX6_worst 9 = .ok (.iconst (-1), 1) := by decide +kernel
theorem dX6_worst_10 : decode cX6_worst 10 = .ok (.ireturn, 1) := by decide +kernel
theorem dX6_worst_11 : decode cX6_worst 11 = .ok (.bipush (-4), 2) := by decide +kernel
theorem dX6_worst_13 : decode cX6_worst 13 = .ok (.istore_n 2, 1) := by decide +kernel
theorem dX6_worst_14 : decode cX6_worst 14 = .ok (.bipush (-4), 2) := by decide +kernel
theorem dX6_worst_16 : decode cX6_worst 16 = .ok (.istore_n 3, 1) := by decide +kernel
theorem dX6_worst_17 : decode cX6_worst 17 = .ok (.iconst 0, 1) := by decide +kernel
theorem dX6_worst_18 : decode cX6_worst 18 = .ok (.istore 4, 2) := by decide +kernel
theorem dX6_worst_20 : decode cX6_worst 20 = .ok (.iload 4, 2) := by decide +kernel
theorem dX6_worst_22 : decode cX6_worst 22 = .ok (.aload_n 0, 1) := by decide +kernel
theorem dX6_worst_23 : decode cX6_worst 23 = .ok (.getfield 12, 3) := by decide +kernel
theorem dX6_worst_26 : decode cX6_worst 26 = .ok (.getfield 68, 3) := by decide +kernel
theorem dX6_worst_29 : decode cX6_worst 29 = .ok (.if_icmp .ge 29, 3) := by decide +kernel
theorem dX6_worst_32 : decode cX6_worst 32 = .ok (.aload_n 0, 1) := by decide +kernel
theorem dX6_worst_33 : decode cX6_worst 33 = .ok (.iload 4, 2) := by decide +kernel
theorem dX6_worst_35 : decode cX6_worst 35 = .ok (.invokevirtual 203, 3) := by decide +kernel
theorem dX6_worst_38 : decode cX6_worst 38 = .ok (.istore 5, 2) := by decide +kernel
theorem dX6_worst_40 : decode cX6_worst 40 = .ok (.iload 5, 2) := by decide +kernel
theorem dX6_worst_42 : decode cX6_worst 42 = .ok (.iload_n 3, 1) := by decide +kernel
theorem dX6_worst_43 : decode cX6_worst 43 = .ok (.if_icmp .le 9, 3) := by decide +kernel
theorem dX6_worst_46 : decode cX6_worst 46 = .ok (.iload 5, 2) := by decide +kernel
theorem dX6_worst_48 : decode cX6_worst 48 = .ok (.istore_n 3, 1) := by decide +kernel
theorem dX6_worst_49 : decode cX6_worst 49 = .ok (.iload 4, 2) := by decide +kernel
theorem dX6_worst_51 : decode cX6_worst 51 = .ok (.istore_n 2, 1) := by decide +kernel
theorem dX6_worst_52 : decode cX6_worst 52 = .ok (.iinc 4 1, 3) := by decide +kernel
theorem dX6_worst_55 : decode cX6_worst 55 = .ok (.goto (-35), 3) := by decide +kernel
theorem dX6_worst_58 : decode cX6_worst 58 = .ok (.iload_n 1, 1) := by decide +kernel
theorem dX6_worst_59 : decode cX6_worst 59 = .ok (.ifCond .ne 5, 3) := by decide +kernel
theorem dX6_worst_62 : decode cX6_worst 62 = .ok (.iload_n 2, 1) := by decide +kernel
theorem dX6_worst_63 : decode cX6_worst 63 = .ok (.ireturn, 1) := by decide +kernel
theorem dX6_worst_64 : decode cX6_worst 64 = .ok (.iload_n 3, 1) := by decide +kernel
theorem dX6_worst_65 : decode cX6_worst 65 = .ok (.bipush 61, 2) := by decide +kernel
theorem dX6_worst_67 : decode cX6_worst 67 = .ok (.if_icmp .ne 8, 3) := by decide +kernel
theorem dX6_worst_70 : decode cX6_worst 70 = .ok (.bipush (-4), 2) := by decide +kernel
theorem dX6_worst_72 : decode cX6_worst 72 = .ok (.goto 4, 3) := by decide +kernel
theorem dX6_worst_75 : decode cX6_worst 75 = .ok (.iload_n 3, 1) := by decide +kernel
theorem dX6_worst_76 : decode cX6_worst 76 = .ok (.ireturn, 1) := by decide +kernel
theorem dX6_fog_0 : decode cX6_fog 0 = .ok (.iload_n 1, 1) := by decide +kernel
theorem dX6_fog_1 : decode cX6_fog 1 = .ok (.iconst 0, 1) := by decide +kernel
theorem dX6_fog_2 : decode cX6_fog 2 = .ok (.bipush 10, 2) := by decide +kernel
theorem dX6_fog_4 : decode cX6_fog 4 = .ok (.invokestatic 60, 3) := by decide +kernel
theorem dX6_fog_7 : decode cX6_fog 7 = .ok (.ifCond .eq 12, 3) := by decide +kernel
theorem dX6_fog_10 : decode cX6_fog 10 = .ok (.iload_n 2, 1) := by decide +kernel
theorem dX6_fog_11 : decode cX6_fog 11 = .ok (.iconst 0, 1) := by decide +kernel
theorem dX6_fog_12 : decode cX6_fog 12 = .ok (.iconst 1, 1) := by decide +kernel
theorem dX6_fog_13 : decode cX6_fog 13 = .ok (.invokestatic 60, 3) := by decide +kernel
theorem dX6_fog_16 : decode cX6_fog 16 = .ok (.ifCond .ne 5, 3) := by decide +kernel
theorem dX6_fog_19 : decode cX6_fog 19 = .ok (.iconst (-1), 1) := by decide +kernel
theorem dX6_fog_20 : decode cX6_fog 20 = .ok (.ireturn, 1) := by decide +kernel
theorem dX6_fog_21 : decode cX6_fog 21 = .ok (.aload_n 0, 1) := by decide +kernel
theorem dX6_fog_22 : decode cX6_fog 22 = .ok (.iload_n 1, 1) := by decide +kernel
theorem dX6_fog_23 : decode cX6_fog 23 = .ok (.invokevirtual 206, 3) := by decide +kernel
theorem dX6_fog_26 : decode cX6_fog 26 = .ok (.istore_n 3, 1) := by decide +kernel
theorem dX6_fog_27 : decode cX6_fog 27 = .ok (.iconst 1, 1) := by decide +kernel
theorem dX6_fog_28 : decode cX6_fog 28 = .ok (.istore 4, 2) := by decide +kernel
theorem dX6_fog_30 : decode cX6_fog 30 = .ok (.iconst 0, 1) := by decide +kernel
theorem dX6_fog_31 : decode cX6_fog 31 = .ok (.istore 5, 2) := by decide +kernel
theorem dX6_fog_33 : decode cX6_fog 33 = .ok (.iload 5, 2) := by decide +kernel
theorem dX6_fog_35 : decode cX6_fog 35 = .ok (.aload_n 0, 1) := by decide +kernel
theorem dX6_fog_36 : decode cX6_fog 36 = .ok (.getfield 12, 3) := by decide +kernel
theorem dX6_fog_39 : decode cX6_fog 39 = .ok (.getfield 68, 3) := by decide +kernel
theorem dX6_fog_42 : decode cX6_fog 42 = .ok (.if_icmp .ge 16, 3) := by decide +kernel
theorem dX6_fog_45 : decode cX6_fog 45 = .ok (.iload 4, 2) := by decide +kernel
theorem dX6_fog_47 : decode cX6_fog 47 = .ok (.bipush 10, 2) := by decide +kernel
theorem dX6_fog_49 : decode cX6_fog 49 = .ok (.imul, 1) := by decide +kernel
theorem dX6_fog_50 : decode cX6_fog 50 = .ok (.istore 4, 2) := by decide +kernel
theorem dX6_fog_52 : decode cX6_fog 52 = .ok (.iinc 5 1, 3) := by decide +kernel
theorem dX6_fog_55 : decode cX6_fog 55 = .ok (.goto (-22), 3) := by decide +kernel
theorem dX6_fog_58 : decode cX6_fog 58 = .ok (.iconst 1, 1) := by decide +kernel
theorem dX6_fog_59 : decode cX6_fog 59 = .ok (.iload_n 3, 1) := by decide +kernel
theorem dX6_fog_60 : decode cX6_fog 60 = .ok (.iload 4, 2) := by decide +kernel
theorem dX6_fog_62 : decode cX6_fog 62 = .ok (.invokestatic 209, 3) := by decide +kernel
theorem dX6_fog_65 : decode cX6_fog 65 = .ok (.invokestatic 212, 3) := by decide +kernel
theorem dX6_fog_68 : decode cX6_fog 68 = .ok (.istore 5, 2) := by decide +kernel
theorem dX6_fog_70 : decode cX6_fog 70 = .ok (.iload_n 2, 1) := by decide +kernel
theorem dX6_fog_71 : decode cX6_fog 71 = .ok (.ifCond .ne 10, 3) := by decide +kernel
theorem dX6_fog_74 : decode cX6_fog 74 = .ok (.iload_n 3, 1) := by decide +kernel
theorem dX6_fog_75 : decode cX6_fog 75 = .ok (.iload 5, 2) := by decide +kernel
theorem dX6_fog_77 : decode cX6_fog 77 = .ok (.idiv, 1) := by decide +kernel
theorem dX6_fog_78 : decode cX6_fog 78 = .ok (.goto 8, 3) := by decide +kernel
theorem dX6_fog_81 : decode cX6_fog 81 = .ok (.iload 4, 2) := by decide +kernel
theorem dX6_fog_83 : decode cX6_fog 83 = .ok (.iload 5, 2) := by decide +kernel
theorem dX6_fog_85 : decode cX6_fog 85 = .ok (.idiv, 1) := by decide +kernel
theorem dX6_fog_86 : decode cX6_fog 86 = .ok (.ireturn, 1) := by decide +kernel
theorem dX6_image_0 : decode cX6_image 0 = .ok (.aload_n 0, 1) := by decide +kernel
theorem dX6_image_1 : decode cX6_image 1 = .ok (.getfield 23, 3) := by decide +kernel
theorem dX6_image_4 : decode cX6_image 4 = .ok (.aload_n 0, 1) := by decide +kernel
theorem dX6_image_5 : decode cX6_image 5 = .ok (.getfield 12, 3) := by decide +kernel
theorem dX6_image_8 : decode cX6_image 8 = .ok (.invokevirtual 117, 3) := by decide +kernel
theorem dX6_image_11 : decode cX6_image 11 = .ok (.aload_n 0, 1) := by decide +kernel
theorem dX6_image_12 : decode cX6_image 12 = .ok (.getfield 26, 3) := by decide +kernel
theorem dX6_image_15 : decode cX6_image 15 = .ok (.aload_n 0, 1) := by decide +kernel
theorem dX6_image_16 : decode cX6_image 16 = .ok (.getfield 19, 3) := by decide +kernel
theorem dX6_image_19 : decode cX6_image 19 = .ok (.invokevirtual 217, 3) := by decide +kernel
theorem dX6_image_22 : decode cX6_image 22 = .ok (.aload_n 0, 1) := by decide +kernel
theorem dX6_image_23 : decode cX6_image 23 = .ok (.iconst 1, 1) := by decide +kernel
theorem dX6_image_24 : decode cX6_image 24 = .ok (.putfield 220, 3) := by decide +kernel
theorem dX6_image_27 : decode cX6_image 27 = .ok (.iconst 1, 1) := by decide +kernel
theorem dX6_image_28 : decode cX6_image 28 = .ok (.ireturn, 1) := by decide +kernel
theorem dX6_restore_0 : decode cX6_restore 0 = .ok (.aload_n 0, 1) := by decide +kernel
theorem dX6_restore_1 : decode cX6_restore 1 = .ok (.getfield 220, 3) := by decide +kernel
theorem dX6_restore_4 : decode cX6_restore 4 = .ok (.ifCond .ne 6, 3) := by decide +kernel
theorem dX6_restore_7 : decode cX6_restore 7 = .ok (.bipush (-4), 2) := by decide +kernel
theorem dX6_restore_9 : decode cX6_restore 9 = .ok (.ireturn, 1) := by decide +kernel
theorem dX6_restore_10 : decode cX6_restore 10 = .ok (.aload_n 0, 1) := by decide +kernel
theorem dX6_restore_11 : decode cX6_restore 11 = .ok (.getfield 12, 3) := by decide +kernel
theorem dX6_restore_14 : decode cX6_restore 14 = .ok (.aload_n 0, 1) := by decide +kernel
theorem dX6_restore_15 : decode cX6_restore 15 = .ok (.getfield 23, 3) := by decide +kernel
theorem dX6_restore_18 : decode cX6_restore 18 = .ok (.invokevirtual 117, 3) := by decide +kernel
theorem dX6_restore_21 : decode cX6_restore 21 = .ok (.aload_n 0, 1) := by decide +kernel
theorem dX6_restore_22 : decode cX6_restore 22 = .ok (.getfield 19, 3) := by decide +kernel
theorem dX6_restore_25 : decode cX6_restore 25 = .ok (.aload_n 0, 1) := by decide +kernel
theorem dX6_restore_26 : decode cX6_restore 26 = .ok (.getfield 26, 3) := by decide +kernel
end
section
theorem dX6_restore_29 : decode cX6_restore 29 = .ok (.invokevirtual 217, 3) := by decide +kernel
theorem dX6_restore_32 : decode cX6_restore 32 = .ok (.iconst 1, 1) := by decide +kernel
theorem dX6_restore_33 : decode cX6_restore 33 = .ok (.ireturn, 1) := by decide +kernel
theorem dX6_foretell_0 : decode cX6_foretell 0 = .ok (.aload_n 0, 1) := by decide +kernel
theorem dX6_foretell_1 : decode cX6_foretell 1 = .ok (.getfield 29, 3) := by decide +kernel
theorem dX6_foretell_4 : decode cX6_foretell 4 = .ok (.aload_n 0, 1) := by decide +kernel
theorem dX6_foretell_5 : decode cX6_foretell 5 = .ok (.getfield 12, 3) := by decide +kernel
theorem dX6_foretell_8 : decode cX6_foretell 8 = .ok (.invokevirtual 117, 3) := by decide +kernel
theorem dX6_foretell_11 : decode cX6_foretell 11 = .ok (.iconst 0, 1) := by decide +kernel
theorem dX6_foretell_12 : decode cX6_foretell 12 = .ok (.istore_n 2, 1) := by decide +kernel
theorem dX6_foretell_13 : decode cX6_foretell 13 = .ok (.iload_n 2, 1) := by decide +kernel
theorem dX6_foretell_14 : decode cX6_foretell 14 = .ok (.iload_n 1, 1) := by decide +kernel
theorem dX6_foretell_15 : decode cX6_foretell 15 = .ok (.if_icmp .ge 16, 3) := by decide +kernel
theorem dX6_foretell_18 : decode cX6_foretell 18 = .ok (.aload_n 0, 1) := by decide +kernel
theorem dX6_foretell_19 : decode cX6_foretell 19 = .ok (.getfield 29, 3) := by decide +kernel
theorem dX6_foretell_22 : decode cX6_foretell 22 = .ok (.invokevirtual 159, 3) := by decide +kernel
theorem dX6_foretell_25 : decode cX6_foretell 25 = .ok (.iinc 2 1, 3) := by decide +kernel
theorem dX6_foretell_28 : decode cX6_foretell 28 = .ok (.goto (-15), 3) := by decide +kernel
theorem dX6_foretell_31 : decode cX6_foretell 31 = .ok (.return_, 1) := by decide +kernel
theorem dX6_freeMinutes_0 : decode cX6_freeMinutes 0 = .ok (.lconst 0, 1) := by decide +kernel
theorem dX6_freeMinutes_1 : decode cX6_freeMinutes 1 = .ok (.lstore_n 2, 1) := by decide +kernel
theorem dX6_freeMinutes_2 : decode cX6_freeMinutes 2 = .ok (.iconst 0, 1) := by decide +kernel
theorem dX6_freeMinutes_3 : decode cX6_freeMinutes 3 = .ok (.istore 4, 2) := by decide +kernel
theorem dX6_freeMinutes_5 : decode cX6_freeMinutes 5 = .ok (.iload 4, 2) := by decide +kernel
theorem dX6_freeMinutes_7 : decode cX6_freeMinutes 7 = .ok (.bipush 60, 2) := by decide +kernel
theorem dX6_freeMinutes_9 : decode cX6_freeMinutes 9 = .ok (.if_icmp .ge 29, 3) := by decide +kernel
theorem dX6_freeMinutes_12 : decode cX6_freeMinutes 12 = .ok (.aload_n 0, 1) := by decide +kernel
theorem dX6_freeMinutes_13 : decode cX6_freeMinutes 13 = .ok (.getfield 12, 3) := by decide +kernel
theorem dX6_freeMinutes_16 : decode cX6_freeMinutes 16 = .ok (.iload 4, 2) := by decide +kernel
theorem dX6_freeMinutes_18 : decode cX6_freeMinutes 18 = .ok (.iload_n 1, 1) := by decide +kernel
theorem dX6_freeMinutes_19 : decode cX6_freeMinutes 19 = .ok (.invokevirtual 224, 3) := by decide +kernel
theorem dX6_freeMinutes_22 : decode cX6_freeMinutes 22 = .ok (.ifCond .eq 10, 3) := by decide +kernel
theorem dX6_freeMinutes_25 : decode cX6_freeMinutes 25 = .ok (.lload_n 2, 1) := by decide +kernel
theorem dX6_freeMinutes_26 : decode cX6_freeMinutes 26 = .ok (.lconst 1, 1) := by decide +kernel
theorem dX6_freeMinutes_27 : decode cX6_freeMinutes 27 = .ok (.iload 4, 2) := by decide +kernel
theorem dX6_freeMinutes_29 : decode cX6_freeMinutes 29 = .ok (.lshl, 1) := by decide +kernel
theorem dX6_freeMinutes_30 : decode cX6_freeMinutes 30 = .ok (.lor, 1) := by decide +kernel
theorem dX6_freeMinutes_31 : decode cX6_freeMinutes 31 = .ok (.lstore_n 2, 1) := by decide +kernel
theorem dX6_freeMinutes_32 : decode cX6_freeMinutes 32 = .ok (.iinc 4 1, 3) := by decide +kernel
theorem dX6_freeMinutes_35 : decode cX6_freeMinutes 35 = .ok (.goto (-30), 3) := by decide +kernel
theorem dX6_freeMinutes_38 : decode cX6_freeMinutes 38 = .ok (.lload_n 2, 1) := by decide +kernel
theorem dX6_freeMinutes_39 : decode cX6_freeMinutes 39 = .ok (.lreturn, 1) := by decide +kernel
theorem dX6_togetherWithoutDriftOf_0 : decode cX6_togetherWithoutDriftOf 0 = .ok (.aload_n 0, 1) := by decide +kernel
theorem dX6_togetherWithoutDriftOf_1 : decode cX6_togetherWithoutDriftOf 1 = .ok (.getfield 29, 3) := by decide +kernel
theorem dX6_togetherWithoutDriftOf_4 : decode cX6_togetherWithoutDriftOf 4 = .ok (.aload_n 0, 1) := by decide +kernel
theorem dX6_togetherWithoutDriftOf_5 : decode cX6_togetherWithoutDriftOf 5 = .ok (.getfield 12, 3) := by decide +kernel
theorem dX6_togetherWithoutDriftOf_8 : decode cX6_togetherWithoutDriftOf 8 = .ok (.invokevirtual 117, 3) := by decide +kernel
theorem dX6_togetherWithoutDriftOf_11 : decode cX6_togetherWithoutDriftOf 11 = .ok (.aload_n 0, 1) := by decide +kernel
theorem dX6_togetherWithoutDriftOf_12 : decode cX6_togetherWithoutDriftOf 12 = .ok (.getfield 29, 3) := by decide +kernel
theorem dX6_togetherWithoutDriftOf_15 : decode cX6_togetherWithoutDriftOf 15 = .ok (.getfield 89, 3) := by decide +kernel
theorem dX6_togetherWithoutDriftOf_18 : decode cX6_togetherWithoutDriftOf 18 = .ok (.iload_n 1, 1) := by decide +kernel
theorem dX6_togetherWithoutDriftOf_19 : decode cX6_togetherWithoutDriftOf 19 = .ok (.iconst 0, 1) := by decide +kernel
theorem dX6_togetherWithoutDriftOf_20 : decode cX6_togetherWithoutDriftOf 20 = .ok (.iastore, 1) := by decide +kernel
theorem dX6_togetherWithoutDriftOf_21 : decode cX6_togetherWithoutDriftOf 21 = .ok (.aload_n 0, 1) := by decide +kernel
theorem dX6_togetherWithoutDriftOf_22 : decode cX6_togetherWithoutDriftOf 22 = .ok (.getfield 29, 3) := by decide +kernel
theorem dX6_togetherWithoutDriftOf_25 : decode cX6_togetherWithoutDriftOf 25 = .ok (.invokevirtual 166, 3) := by decide +kernel
theorem dX6_togetherWithoutDriftOf_28 : decode cX6_togetherWithoutDriftOf 28 = .ok (.ireturn, 1) := by decide +kernel
theorem dX6_fogWaysApart_0 : decode cX6_fogWaysApart 0 = .ok (.iconst 0, 1) := by decide +kernel
theorem dX6_fogWaysApart_1 : decode cX6_fogWaysApart 1 = .ok (.istore_n 2, 1) := by decide +kernel
theorem dX6_fogWaysApart_2 : decode cX6_fogWaysApart 2 = .ok (.iconst 1, 1) := by decide +kernel
theorem dX6_fogWaysApart_3 : decode cX6_fogWaysApart 3 = .ok (.aload_n 0, 1) := by decide +kernel
theorem dX6_fogWaysApart_4 : decode cX6_fogWaysApart 4 = .ok (.getfield 12, 3) := by decide +kernel
theorem dX6_fogWaysApart_7 : decode cX6_fogWaysApart 7 = .ok (.getfield 68, 3) := by decide +kernel
theorem dX6_fogWaysApart_10 : decode cX6_fogWaysApart 10 = .ok (.ishl, 1) := by decide +kernel
theorem dX6_fogWaysApart_11 : decode cX6_fogWaysApart 11 = .ok (.istore_n 3, 1) := by decide +kernel
theorem dX6_fogWaysApart_12 : decode cX6_fogWaysApart 12 = .ok (.iconst 0, 1) := by decide +kernel
theorem dX6_fogWaysApart_13 : decode cX6_fogWaysApart 13 = .ok (.istore 4, 2) := by decide +kernel
theorem dX6_fogWaysApart_15 : decode cX6_fogWaysApart 15 = .ok (.iload 4, 2) := by decide +kernel
theorem dX6_fogWaysApart_17 : decode cX6_fogWaysApart 17 = .ok (.iload_n 3, 1) := by decide +kernel
theorem dX6_fogWaysApart_18 : decode cX6_fogWaysApart 18 = .ok (.if_icmp .ge 73, 3) := by decide +kernel
theorem dX6_fogWaysApart_21 : decode cX6_fogWaysApart 21 = .ok (.aload_n 0, 1) := by decide +kernel
theorem dX6_fogWaysApart_22 : decode cX6_fogWaysApart 22 = .ok (.getfield 12, 3) := by decide +kernel
theorem dX6_fogWaysApart_25 : decode cX6_fogWaysApart 25 = .ok (.iload 4, 2) := by decide +kernel
theorem dX6_fogWaysApart_27 : decode cX6_fogWaysApart 27 = .ok (.invokevirtual 227, 3) := by decide +kernel
theorem dX6_fogWaysApart_30 : decode cX6_fogWaysApart 30 = .ok (.ifCond .eq 55, 3) := by decide +kernel
theorem dX6_fogWaysApart_33 : decode cX6_fogWaysApart 33 = .ok (.iconst 1, 1) := by decide +kernel
theorem dX6_fogWaysApart_34 : decode cX6_fogWaysApart 34 = .ok (.istore 5, 2) := by decide +kernel
theorem dX6_fogWaysApart_36 : decode cX6_fogWaysApart 36 = .ok (.iconst 0, 1) := by decide +kernel
theorem dX6_fogWaysApart_37 : decode cX6_fogWaysApart 37 = .ok (.istore 6, 2) := by decide +kernel
theorem dX6_fogWaysApart_39 : decode cX6_fogWaysApart 39 = .ok (.iload 6, 2) := by decide +kernel
theorem dX6_fogWaysApart_41 : decode cX6_fogWaysApart 41 = .ok (.aload_n 0, 1) := by decide +kernel
theorem dX6_fogWaysApart_42 : decode cX6_fogWaysApart 42 = .ok (.getfield 12, 3) := by decide +kernel
theorem dX6_fogWaysApart_45 : decode cX6_fogWaysApart 45 = .ok (.getfield 68, 3) := by decide +kernel
theorem dX6_fogWaysApart_48 : decode cX6_fogWaysApart 48 = .ok (.if_icmp .ge 32, 3) := by decide +kernel
theorem dX6_fogWaysApart_51 : decode cX6_fogWaysApart 51 = .ok (.iload 5, 2) := by decide +kernel
theorem dX6_fogWaysApart_53 : decode cX6_fogWaysApart 53 = .ok (.iload 4, 2) := by decide +kernel
theorem dX6_fogWaysApart_55 : decode cX6_fogWaysApart 55 = .ok (.iload 6, 2) := by decide +kernel
theorem dX6_fogWaysApart_57 : decode cX6_fogWaysApart 57 = .ok (.invokestatic 230, 3) := by decide +kernel
theorem dX6_fogWaysApart_60 : decode cX6_fogWaysApart 60 = .ok (.ifCond .eq 7, 3) := by decide +kernel
theorem dX6_fogWaysApart_63 : decode cX6_fogWaysApart 63 = .ok (.iload_n 1, 1) := by decide +kernel
theorem dX6_fogWaysApart_64 : decode cX6_fogWaysApart 64 = .ok (.goto 7, 3) := by decide +kernel
theorem dX6_fogWaysApart_67 : decode cX6_fogWaysApart 67 = .ok (.bipush 10, 2) := by decide +kernel
theorem dX6_fogWaysApart_69 : decode cX6_fogWaysApart 69 = .ok (.iload_n 1, 1) := by decide +kernel
theorem dX6_fogWaysApart_70 : decode cX6_fogWaysApart 70 = .ok (.isub, 1) := by decide +kernel
theorem dX6_fogWaysApart_71 : decode cX6_fogWaysApart 71 = .ok (.imul, 1) := by decide +kernel
theorem dX6_fogWaysApart_72 : decode cX6_fogWaysApart 72 = .ok (.istore 5, 2) := by decide +kernel
theorem dX6_fogWaysApart_74 : decode cX6_fogWaysApart 74 = .ok (.iinc 6 1, 3) := by decide +kernel
theorem dX6_fogWaysApart_77 : decode cX6_fogWaysApart 77 = .ok (.goto (-38), 3) := by decide +kernel
theorem dX6_fogWaysApart_80 : decode cX6_fogWaysApart 80 = .ok (.iload_n 2, 1) := by decide +kernel
theorem dX6_fogWaysApart_81 : decode cX6_fogWaysApart 81 = .ok (.iload 5, 2) := by decide +kernel
theorem dX6_fogWaysApart_83 : decode cX6_fogWaysApart 83 = .ok (.iadd, 1) := by decide +kernel
theorem dX6_fogWaysApart_84 : decode cX6_fogWaysApart 84 = .ok (.istore_n 2, 1) := by decide +kernel
theorem dX6_fogWaysApart_85 : decode cX6_fogWaysApart 85 = .ok (.iinc 4 1, 3) := by decide +kernel
theorem dX6_fogWaysApart_88 : decode cX6_fogWaysApart 88 = .ok (.goto (-73), 3) := by decide +kernel
theorem dX6_fogWaysApart_91 : decode cX6_fogWaysApart 91 = .ok (.iload_n 2, 1) := by decide +kernel
theorem dX6_fogWaysApart_92 : decode cX6_fogWaysApart 92 = .ok (.ireturn, 1) := by decide +kernel
theorem dX6_heard_0 : decode cX6_heard 0 = .ok (.aload_n 0, 1) := by decide +kernel
theorem dX6_heard_1 : decode cX6_heard 1 = .ok (.getfield 12, 3) := by decide +kernel
theorem dX6_heard_4 : decode cX6_heard 4 = .ok (.iload_n 1, 1) := by decide +kernel
theorem dX6_heard_5 : decode cX6_heard 5 = .ok (.invokevirtual 79, 3) := by decide +kernel
theorem dX6_heard_8 : decode cX6_heard 8 = .ok (.ifCond .eq 32, 3) := by decide +kernel
theorem dX6_heard_11 : decode cX6_heard 11 = .ok (.iload_n 2, 1) := by decide +kernel
theorem dX6_heard_12 : decode cX6_heard 12 = .ok (.iload_n 3, 1) := by decide +kernel
theorem dX6_heard_13 : decode cX6_heard 13 = .ok (.invokestatic 233, 3) := by decide +kernel
theorem dX6_heard_16 : decode cX6_heard 16 = .ok (.ifCond .eq 24, 3) := by decide +kernel
theorem dX6_heard_19 : decode cX6_heard 19 = .ok (.iload 5, 2) := by decide +kernel
theorem dX6_heard_21 : decode cX6_heard 21 = .ok (.iconst 1, 1) := by decide +kernel
theorem dX6_heard_22 : decode cX6_heard 22 = .ok (.bipush 8, 2) := by decide +kernel
theorem dX6_heard_24 : decode cX6_heard 24 = .ok (.invokestatic 60, 3) := by decide +kernel
theorem dX6_heard_27 : decode cX6_heard 27 = .ok (.ifCond .eq 13, 3) := by decide +kernel
theorem dX6_heard_30 : decode cX6_heard 30 = .ok (.iload 6, 2) := by decide +kernel
theorem dX6_heard_32 : decode cX6_heard 32 = .ok (.iconst 0, 1) := by decide +kernel
theorem dX6_heard_33 : decode cX6_heard 33 = .ok (.iconst 1, 1) := by decide +kernel
theorem dX6_heard_34 : decode cX6_heard 34 = .ok (.invokestatic 60, 3) := by decide +kernel
theorem dX6_heard_37 : decode cX6_heard 37 = .ok (.ifCond .ne 5, 3) := by decide +kernel
theorem dX6_heard_40 : decode cX6_heard 40 = .ok (.iconst (-1), 1) := by decide +kernel
theorem dX6_heard_41 : decode cX6_heard 41 = .ok (.ireturn, 1) := by decide +kernel
theorem dX6_heard_42 : decode cX6_heard 42 = .ok (.aload_n 0, 1) := by decide +kernel
theorem dX6_heard_43 : decode cX6_heard 43 = .ok (.getfield 56, 3) := by decide +kernel
theorem dX6_heard_46 : decode cX6_heard 46 = .ok (.iload_n 2, 1) := by decide +kernel
theorem dX6_heard_47 : decode cX6_heard 47 = .ok (.aaload, 1) := by decide +kernel
theorem dX6_heard_48 : decode cX6_heard 48 = .ok (.iload_n 3, 1) := by decide +kernel
theorem dX6_heard_49 : decode cX6_heard 49 = .ok (.iload 4, 2) := by decide +kernel
theorem dX6_heard_51 : decode cX6_heard 51 = .ok (.iload 5, 2) := by decide +kernel
theorem dX6_heard_53 : decode cX6_heard 53 = .ok (.invokevirtual 236, 3) := by decide +kernel
theorem dX6_heard_56 : decode cX6_heard 56 = .ok (.istore 7, 2) := by decide +kernel
theorem dX6_heard_58 : decode cX6_heard 58 = .ok (.iload 7, 2) := by decide +kernel
theorem dX6_heard_60 : decode cX6_heard 60 = .ok (.ifCond .eq 6, 3) := by decide +kernel
theorem dX6_heard_63 : decode cX6_heard 63 = .ok (.iload 7, 2) := by decide +kernel
theorem dX6_heard_65 : decode cX6_heard 65 = .ok (.ireturn, 1) := by decide +kernel
theorem dX6_heard_66 : decode cX6_heard 66 = .ok (.iload 6, 2) := by decide +kernel
theorem dX6_heard_68 : decode cX6_heard 68 = .ok (.ifCond .ne 21, 3) := by decide +kernel
theorem dX6_heard_71 : decode cX6_heard 71 = .ok (.aload_n 0, 1) := by decide +kernel
theorem dX6_heard_72 : decode cX6_heard 72 = .ok (.iload_n 1, 1) := by decide +kernel
theorem dX6_heard_73 : decode cX6_heard 73 = .ok (.aload_n 0, 1) := by decide +kernel
theorem dX6_heard_74 : decode cX6_heard 74 = .ok (.getfield 56, 3) := by decide +kernel
theorem dX6_heard_77 : decode cX6_heard 77 = .ok (.iload_n 2, 1) := by decide +kernel
theorem dX6_heard_78 : decode cX6_heard 78 = .ok (.aaload, 1) := by decide +kernel
theorem dX6_heard_79 : decode cX6_heard 79 = .ok (.iload 4, 2) := by decide +kernel
theorem dX6_heard_81 : decode cX6_heard 81 = .ok (.iload 5, 2) := by decide +kernel
theorem dX6_heard_83 : decode cX6_heard 83 = .ok (.invokevirtual 240, 3) := by decide +kernel
theorem dX6_heard_86 : decode cX6_heard 86 = .ok (.goto 18, 3) := by decide +kernel
theorem dX6_heard_89 : decode cX6_heard 89 = .ok (.aload_n 0, 1) := by decide +kernel
theorem dX6_heard_90 : decode cX6_heard 90 = .ok (.iload_n 1, 1) := by decide +kernel
theorem dX6_heard_91 : decode cX6_heard 91 = .ok (.aload_n 0, 1) := by decide +kernel
theorem dX6_heard_92 : decode cX6_heard 92 = .ok (.getfield 56, 3) := by decide +kernel
theorem dX6_heard_95 : decode cX6_heard 95 = .ok (.iload_n 2, 1) := by decide +kernel
theorem dX6_heard_96 : decode cX6_heard 96 = .ok (.aaload, 1) := by decide +kernel
theorem dX6_heard_97 : decode cX6_heard 97 = .ok (.iload 4, 2) := by decide +kernel
theorem dX6_heard_99 : decode cX6_heard 99 = .ok (.iload 5, 2) := by decide +kernel
theorem dX6_heard_101 : decode cX6_heard 101 = .ok (.invokevirtual 244, 3) := by decide +kernel
theorem dX6_heard_104 : decode cX6_heard 104 = .ok (.ireturn, 1) := by decide +kernel
theorem dX6_film_0 : decode cX6_film 0 = .ok (.aload_n 0, 1) := by decide +kernel
theorem dX6_film_1 : decode cX6_film 1 = .ok (.getfield 12, 3) := by decide +kernel
theorem dX6_film_4 : decode cX6_film 4 = .ok (.iload_n 1, 1) := by decide +kernel
theorem dX6_film_5 : decode cX6_film 5 = .ok (.invokevirtual 79, 3) := by decide +kernel
theorem dX6_film_8 : decode cX6_film 8 = .ok (.ifCond .eq 22, 3) := by decide +kernel
theorem dX6_film_11 : decode cX6_film 11 = .ok (.iload_n 2, 1) := by decide +kernel
theorem dX6_film_12 : decode cX6_film 12 = .ok (.iconst 1, 1) := by decide +kernel
theorem dX6_film_13 : decode cX6_film 13 = .ok (.bipush 24, 2) := by decide +kernel
theorem dX6_film_15 : decode cX6_film 15 = .ok (.invokestatic 60, 3) := by decide +kernel
theorem dX6_film_18 : decode cX6_film 18 = .ok (.ifCond .eq 12, 3) := by decide +kernel
theorem dX6_film_21 : decode cX6_film 21 = .ok (.iload_n 3, 1) := by decide +kernel
theorem dX6_film_22 : decode cX6_film 22 = .ok (.iload 4, 2) := by decide +kernel
theorem dX6_film_24 : decode cX6_film 24 = .ok (.invokestatic 233, 3) := by decide +kernel
theorem dX6_film_27 : decode cX6_film 27 = .ok (.ifCond .ne 5, 3) := by decide +kernel
theorem dX6_film_30 : decode cX6_film 30 = .ok (.iconst (-1), 1) := by decide +kernel
theorem dX6_film_31 : decode cX6_film 31 = .ok (.ireturn, 1) := by decide +kernel
theorem dX6_film_32 : decode cX6_film 32 = .ok (.aload_n 0, 1) := by decide +kernel
theorem dX6_film_33 : decode cX6_film 33 = .ok (.getfield 56, 3) := by decide +kernel
theorem dX6_film_36 : decode cX6_film 36 = .ok (.iload_n 3, 1) := by decide +kernel
theorem dX6_film_37 : decode cX6_film 37 = .ok (.aaload, 1) := by decide +kernel
theorem dX6_film_38 : decode cX6_film 38 = .ok (.iload 4, 2) := by decide +kernel
theorem dX6_film_40 : decode cX6_film 40 = .ok (.iload 5, 2) := by decide +kernel
theorem dX6_film_42 : decode cX6_film 42 = .ok (.iload_n 2, 1) := by decide +kernel
theorem dX6_film_43 : decode cX6_film 43 = .ok (.invokevirtual 236, 3) := by decide +kernel
theorem dX6_film_46 : decode cX6_film 46 = .ok (.istore 6, 2) := by decide +kernel
theorem dX6_film_48 : decode cX6_film 48 = .ok (.iload 6, 2) := by decide +kernel
theorem dX6_film_50 : decode cX6_film 50 = .ok (.ifCond .eq 6, 3) := by decide +kernel
theorem dX6_film_53 : decode cX6_film 53 = .ok (.iload 6, 2) := by decide +kernel
theorem dX6_film_55 : decode cX6_film 55 = .ok (.ireturn, 1) := by decide +kernel
theorem dX6_film_56 : decode cX6_film 56 = .ok (.aload_n 0, 1) := by decide +kernel
theorem dX6_film_57 : decode cX6_film 57 = .ok (.getfield 29, 3) := by decide +kernel
theorem dX6_film_60 : decode cX6_film 60 = .ok (.aload_n 0, 1) := by decide +kernel
theorem dX6_film_61 : decode cX6_film 61 = .ok (.getfield 12, 3) := by decide +kernel
theorem dX6_film_64 : decode cX6_film 64 = .ok (.invokevirtual 117, 3) := by decide +kernel
theorem dX6_film_67 : decode cX6_film 67 = .ok (.iconst 0, 1) := by decide +kernel
theorem dX6_film_68 : decode cX6_film 68 = .ok (.istore 7, 2) := by decide +kernel
theorem dX6_film_70 : decode cX6_film 70 = .ok (.iload 7, 2) := by decide +kernel
theorem dX6_film_72 : decode cX6_film 72 = .ok (.iload_n 2, 1) := by decide +kernel
theorem dX6_film_73 : decode cX6_film 73 = .ok (.if_icmp .ge 40, 3) := by decide +kernel
theorem dX6_film_76 : decode cX6_film 76 = .ok (.aload_n 0, 1) := by decide +kernel
theorem dX6_film_77 : decode cX6_film 77 = .ok (.getfield 29, 3) := by decide +kernel
theorem dX6_film_80 : decode cX6_film 80 = .ok (.invokevirtual 159, 3) := by decide +kernel
theorem dX6_film_83 : decode cX6_film 83 = .ok (.aload_n 0, 1) := by decide +kernel
theorem dX6_film_84 : decode cX6_film 84 = .ok (.getfield 56, 3) := by decide +kernel
theorem dX6_film_87 : decode cX6_film 87 = .ok (.iload_n 3, 1) := by decide +kernel
theorem dX6_film_88 : decode cX6_film 88 = .ok (.aaload, 1) := by decide +kernel
theorem dX6_film_89 : decode cX6_film 89 = .ok (.iload 5, 2) := by decide +kernel
theorem dX6_film_91 : decode cX6_film 91 = .ok (.iload 7, 2) := by decide +kernel
theorem dX6_film_93 : decode cX6_film 93 = .ok (.iadd, 1) := by decide +kernel
theorem dX6_film_94 : decode cX6_film 94 = .ok (.aload_n 0, 1) := by decide +kernel
theorem dX6_film_95 : decode cX6_film 95 = .ok (.getfield 29, 3) := by decide +kernel
theorem dX6_film_98 : decode cX6_film 98 = .ok (.getfield 86, 3) := by decide +kernel
theorem dX6_film_101 : decode cX6_film 101 = .ok (.iload_n 1, 1) := by decide +kernel
theorem dX6_film_102 : decode cX6_film 102 = .ok (.iaload, 1) := by decide +kernel
theorem dX6_film_103 : decode cX6_film 103 = .ok (.i2l, 1) := by decide +kernel
theorem dX6_film_104 : decode cX6_film 104 = .ok (.invokevirtual 247, 3) := by decide +kernel
theorem dX6_film_107 : decode cX6_film 107 = .ok (.iinc 7 1, 3) := by decide +kernel
theorem dX6_film_110 : decode cX6_film 110 = .ok (.goto (-40), 3) := by decide +kernel
theorem dX6_film_113 : decode cX6_film 113 = .ok (.iload_n 2, 1) := by decide +kernel
theorem dX6_film_114 : decode cX6_film 114 = .ok (.ireturn, 1) := by decide +kernel
theorem dX6_sheet_0 : decode cX6_sheet 0 = .ok (.iload_n 1, 1) := by decide +kernel
theorem dX6_sheet_1 : decode cX6_sheet 1 = .ok (.iload_n 2, 1) := by decide +kernel
theorem dX6_sheet_2 : decode cX6_sheet 2 = .ok (.invokestatic 233, 3) := by decide +kernel
theorem dX6_sheet_5 : decode cX6_sheet 5 = .ok (.ifCond .eq 9, 3) := by decide +kernel
theorem dX6_sheet_8 : decode cX6_sheet 8 = .ok (.iload_n 3, 1) := by decide +kernel
theorem dX6_sheet_9 : decode cX6_sheet 9 = .ok (.bipush 24, 2) := by decide +kernel
theorem dX6_sheet_11 : decode cX6_sheet 11 = .ok (.if_icmp .le 5, 3) := by decide +kernel
theorem dX6_sheet_14 : decode cX6_sheet 14 = .ok (.iconst (-1), 1) := by decide +kernel
theorem dX6_sheet_15 : decode cX6_sheet 15 = .ok (.ireturn, 1) := by decide +kernel
theorem dX6_sheet_16 : decode cX6_sheet 16 = .ok (.iload_n 3, 1) := by decide +kernel
theorem dX6_sheet_17 : decode cX6_sheet 17 = .ok (.ifCond .ge 6, 3) := by decide +kernel
theorem dX6_sheet_20 : decode cX6_sheet 20 = .ok (.bipush (-14), 2) := by decide +kernel
theorem dX6_sheet_22 : decode cX6_sheet 22 = .ok (.ireturn, 1) := by decide +kernel
theorem dX6_sheet_23 : decode cX6_sheet 23 = .ok (.aload_n 0, 1) := by decide +kernel
theorem dX6_sheet_24 : decode cX6_sheet 24 = .ok (.getfield 56, 3) := by decide +kernel
theorem dX6_sheet_27 : decode cX6_sheet 27 = .ok (.iload_n 1, 1) := by decide +kernel
theorem dX6_sheet_28 : decode cX6_sheet 28 = .ok (.aaload, 1) := by decide +kernel
theorem dX6_sheet_29 : decode cX6_sheet 29 = .ok (.iload_n 2, 1) := by decide +kernel
theorem dX6_sheet_30 : decode cX6_sheet 30 = .ok (.iload_n 3, 1) := by decide +kernel
theorem dX6_sheet_31 : decode cX6_sheet 31 = .ok (.invokevirtual 250, 3) := by decide +kernel
theorem dX6_sheet_34 : decode cX6_sheet 34 = .ok (.iload_n 3, 1) := by decide +kernel
theorem dX6_sheet_35 : decode cX6_sheet 35 = .ok (.ireturn, 1) := by decide +kernel
theorem dX6_drop_0 : decode cX6_drop 0 = .ok (.iload_n 1, 1) := by decide +kernel
theorem dX6_drop_1 : decode cX6_drop 1 = .ok (.iconst 0, 1) := by decide +kernel
theorem dX6_drop_2 : decode cX6_drop 2 = .ok (.iconst 3, 1) := by decide +kernel
theorem dX6_drop_3 : decode cX6_drop 3 = .ok (.invokestatic 60, 3) := by decide +kernel
theorem dX6_drop_6 : decode cX6_drop 6 = .ok (.ifCond .ne 5, 3) := by decide +kernel
theorem dX6_drop_9 : decode cX6_drop 9 = .ok (.iconst (-1), 1) := by decide +kernel
theorem dX6_drop_10 : decode cX6_drop 10 = .ok (.ireturn, 1) := by decide +kernel
theorem dX6_drop_11 : decode cX6_drop 11 = .ok (.aload_n 0, 1) := by decide +kernel
theorem dX6_drop_12 : decode cX6_drop 12 = .ok (.getfield 56, 3) := by decide +kernel
theorem dX6_drop_15 : decode cX6_drop 15 = .ok (.iload_n 1, 1) := by decide +kernel
theorem dX6_drop_16 : decode cX6_drop 16 = .ok (.aaload, 1) := by decide +kernel
theorem dX6_drop_17 : decode cX6_drop 17 = .ok (.invokevirtual 254, 3) := by decide +kernel
theorem dX6_drop_20 : decode cX6_drop 20 = .ok (.ifCond .eq 6, 3) := by decide +kernel
theorem dX6_drop_23 : decode cX6_drop 23 = .ok (.bipush (-11), 2) := by decide +kernel
theorem dX6_drop_25 : decode cX6_drop 25 = .ok (.ireturn, 1) := by decide +kernel
theorem dX6_drop_26 : decode cX6_drop 26 = .ok (.aload_n 0, 1) := by decide +kernel
theorem dX6_drop_27 : decode cX6_drop 27 = .ok (.getfield 56, 3) := by decide +kernel
theorem dX6_drop_30 : decode cX6_drop 30 = .ok (.iload_n 1, 1) := by decide +kernel
theorem dX6_drop_31 : decode cX6_drop 31 = .ok (.aaload, 1) := by decide +kernel
theorem dX6_drop_32 : decode cX6_drop 32 = .ok (.getfield 258, 3) := by decide +kernel
theorem dX6_drop_35 : decode cX6_drop 35 = .ok (.istore_n 2, 1) := by decide +kernel
theorem dX6_drop_36 : decode cX6_drop 36 = .ok (.aload_n 0, 1) := by decide +kernel
theorem dX6_drop_37 : decode cX6_drop 37 = .ok (.getfield 56, 3) := by decide +kernel
theorem dX6_drop_40 : decode cX6_drop 40 = .ok (.iload_n 1, 1) := by decide +kernel
theorem dX6_drop_41 : decode cX6_drop 41 = .ok (.aaload, 1) := by decide +kernel
theorem dX6_drop_42 : decode cX6_drop 42 = .ok (.invokevirtual 259, 3) := by decide +kernel
theorem dX6_drop_45 : decode cX6_drop 45 = .ok (.iload_n 2, 1) := by decide +kernel
theorem dX6_drop_46 : decode cX6_drop 46 = .ok (.ireturn, 1) := by decide +kernel
theorem dX6_item_0 : decode cX6_item 0 = .ok (.iload_n 1, 1) := by decide +kernel
theorem dX6_item_1 : decode cX6_item 1 = .ok (.iload_n 2, 1) := by decide +kernel
theorem dX6_item_2 : decode cX6_item 2 = .ok (.invokestatic 233, 3) := by decide +kernel
theorem dX6_item_5 : decode cX6_item 5 = .ok (.ifCond .ne 5, 3) := by decide +kernel
theorem dX6_item_8 : decode cX6_item 8 = .ok (.iconst (-1), 1) := by decide +kernel
theorem dX6_item_9 : decode cX6_item 9 = .ok (.ireturn, 1) := by decide +kernel
theorem dX6_item_10 : decode cX6_item 10 = .ok (.aload_n 0, 1) := by decide +kernel
theorem dX6_item_11 : decode cX6_item 11 = .ok (.getfield 56, 3) := by decide +kernel
theorem dX6_item_14 : decode cX6_item 14 = .ok (.iload_n 1, 1) := by decide +kernel
theorem dX6_item_15 : decode cX6_item 15 = .ok (.aaload, 1) := by decide +kernel
theorem dX6_item_16 : decode cX6_item 16 = .ok (.iload_n 2, 1) := by decide +kernel
theorem dX6_item_17 : decode cX6_item 17 = .ok (.iload_n 3, 1) := by decide +kernel
theorem dX6_item_18 : decode cX6_item 18 = .ok (.iconst 1, 1) := by decide +kernel
theorem dX6_item_19 : decode cX6_item 19 = .ok (.invokevirtual 236, 3) := by decide +kernel
theorem dX6_item_22 : decode cX6_item 22 = .ok (.istore 6, 2) := by decide +kernel
theorem dX6_item_24 : decode cX6_item 24 = .ok (.iload 6, 2) := by decide +kernel
theorem dX6_item_26 : decode cX6_item 26 = .ok (.ifCond .eq 6, 3) := by decide +kernel
theorem dX6_item_29 : decode cX6_item 29 = .ok (.iload 6, 2) := by decide +kernel
theorem dX6_item_31 : decode cX6_item 31 = .ok (.ireturn, 1) := by decide +kernel
theorem dX6_item_32 : decode cX6_item 32 = .ok (.aload_n 0, 1) := by decide +kernel
theorem dX6_item_33 : decode cX6_item 33 = .ok (.getfield 56, 3) := by decide +kernel
theorem dX6_item_36 : decode cX6_item 36 = .ok (.iload_n 1, 1) := by decide +kernel
theorem dX6_item_37 : decode cX6_item 37 = .ok (.aaload, 1) := by decide +kernel
theorem dX6_item_38 : decode cX6_item 38 = .ok (.iload_n 3, 1) := by decide +kernel
theorem dX6_item_39 : decode cX6_item 39 = .ok (.lload 4, 2) := by decide +kernel
theorem dX6_item_41 : decode cX6_item 41 = .ok (.invokevirtual 247, 3) := by decide +kernel
theorem dX6_item_44 : decode cX6_item 44 = .ok (.iconst 1, 1) := by decide +kernel
theorem dX6_item_45 : decode cX6_item 45 = .ok (.ireturn, 1) := by decide +kernel
theorem dX6_copy_0 : decode cX6_copy 0 = .ok (.iload_n 1, 1) := by decide +kernel
theorem dX6_copy_1 : decode cX6_copy 1 = .ok (.iconst 0, 1) := by decide +kernel
theorem dX6_copy_2 : decode cX6_copy 2 = .ok (.iconst 3, 1) := by decide +kernel
theorem dX6_copy_3 : decode cX6_copy 3 = .ok (.invokestatic 60, 3) := by decide +kernel
theorem dX6_copy_6 : decode cX6_copy 6 = .ok (.ifCond .eq 12, 3) := by decide +kernel
theorem dX6_copy_9 : decode cX6_copy 9 = .ok (.iload_n 3, 1) := by decide +kernel
theorem dX6_copy_10 : decode cX6_copy 10 = .ok (.iconst 0, 1) := by decide +kernel
theorem dX6_copy_11 : decode cX6_copy 11 = .ok (.iconst 3, 1) := by decide +kernel
theorem dX6_copy_12 : decode cX6_copy 12 = .ok (.invokestatic 60, 3) := by decide +kernel
theorem dX6_copy_15 : decode cX6_copy 15 = .ok (.ifCond .ne 5, 3) := by decide +kernel
theorem dX6_copy_18 : decode cX6_copy 18 = .ok (.iconst (-1), 1) := by decide +kernel
theorem dX6_copy_19 : decode cX6_copy 19 = .ok (.ireturn, 1) := by decide +kernel
theorem dX6_copy_20 : decode cX6_copy 20 = .ok (.aload_n 0, 1) := by decide +kernel
theorem dX6_copy_21 : decode cX6_copy 21 = .ok (.getfield 56, 3) := by decide +kernel
theorem dX6_copy_24 : decode cX6_copy 24 = .ok (.iload_n 1, 1) := by decide +kernel
theorem dX6_copy_25 : decode cX6_copy 25 = .ok (.aaload, 1) := by decide +kernel
theorem dX6_copy_26 : decode cX6_copy 26 = .ok (.astore 6, 2) := by decide +kernel
theorem dX6_copy_28 : decode cX6_copy 28 = .ok (.aload_n 0, 1) := by decide +kernel
theorem dX6_copy_29 : decode cX6_copy 29 = .ok (.getfield 56, 3) := by decide +kernel
theorem dX6_copy_32 : decode cX6_copy 32 = .ok (.iload_n 3, 1) := by decide +kernel
theorem dX6_copy_33 : decode cX6_copy 33 = .ok (.aaload, 1) := by decide +kernel
theorem dX6_copy_34 : decode cX6_copy 34 = .ok (.astore 7, 2) := by decide +kernel
theorem dX6_copy_36 : decode cX6_copy 36 = .ok (.aload 6, 2) := by decide +kernel
theorem dX6_copy_38 : decode cX6_copy 38 = .ok (.invokevirtual 254, 3) := by decide +kernel
theorem dX6_copy_41 : decode cX6_copy 41 = .ok (.ifCond .ne 11, 3) := by decide +kernel
theorem dX6_copy_44 : decode cX6_copy 44 = .ok (.aload 7, 2) := by decide +kernel
theorem dX6_copy_46 : decode cX6_copy 46 = .ok (.invokevirtual 254, 3) := by decide +kernel
theorem dX6_copy_49 : decode cX6_copy 49 = .ok (.ifCond .eq 6, 3) := by decide +kernel
theorem dX6_copy_52 : decode cX6_copy 52 = .ok (.bipush (-11), 2) := by decide +kernel
theorem dX6_copy_54 : decode cX6_copy 54 = .ok (.ireturn, 1) := by decide +kernel
theorem dX6_copy_55 : decode cX6_copy 55 = .ok (.aload 6, 2) := by decide +kernel
theorem dX6_copy_57 : decode cX6_copy 57 = .ok (.getfield 262, 3) := by decide +kernel
theorem dX6_copy_60 : decode cX6_copy 60 = .ok (.aload 7, 2) := by decide +kernel
theorem dX6_copy_62 : decode cX6_copy 62 = .ok (.getfield 262, 3) := by decide +kernel
theorem dX6_copy_65 : decode cX6_copy 65 = .ok (.if_icmp .eq 6, 3) := by decide +kernel
theorem dX6_copy_68 : decode cX6_copy 68 = .ok (.bipush (-12), 2) := by decide +kernel
theorem dX6_copy_70 : decode cX6_copy 70 = .ok (.ireturn, 1) := by decide +kernel
theorem dX6_copy_71 : decode cX6_copy 71 = .ok (.aload 6, 2) := by decide +kernel
theorem dX6_copy_73 : decode cX6_copy 73 = .ok (.iload_n 2, 1) := by decide +kernel
theorem dX6_copy_74 : decode cX6_copy 74 = .ok (.iload 5, 2) := by decide +kernel
theorem dX6_copy_76 : decode cX6_copy 76 = .ok (.invokevirtual 265, 3) := by decide +kernel
theorem dX6_copy_79 : decode cX6_copy 79 = .ok (.ifCond .eq 15, 3) := by decide +kernel
theorem dX6_copy_82 : decode cX6_copy 82 = .ok (.aload 7, 2) := by decide +kernel
theorem dX6_copy_84 : decode cX6_copy 84 = .ok (.iload 4, 2) := by decide +kernel
theorem dX6_copy_86 : decode cX6_copy 86 = .ok (.iload 5, 2) := by decide +kernel
theorem dX6_copy_88 : decode cX6_copy 88 = .ok (.invokevirtual 265, 3) := by decide +kernel
theorem dX6_copy_91 : decode cX6_copy 91 = .ok (.ifCond .ne 6, 3) := by decide +kernel
theorem dX6_copy_94 : decode cX6_copy 94 = .ok (.bipush (-13), 2) := by decide +kernel
theorem dX6_copy_96 : decode cX6_copy 96 = .ok (.ireturn, 1) := by decide +kernel
theorem dX6_copy_97 : decode cX6_copy 97 = .ok (.aload 6, 2) := by decide +kernel
theorem dX6_copy_99 : decode cX6_copy 99 = .ok (.getfield 268, 3) := by decide +kernel
theorem dX6_copy_102 : decode cX6_copy 102 = .ok (.iload_n 2, 1) := by decide +kernel
theorem dX6_copy_103 : decode cX6_copy 103 = .ok (.aload 7, 2) := by decide +kernel
theorem dX6_copy_105 : decode cX6_copy 105 = .ok (.getfield 268, 3) := by decide +kernel
theorem dX6_copy_108 : decode cX6_copy 108 = .ok (.iload 4, 2) := by decide +kernel
theorem dX6_copy_110 : decode cX6_copy 110 = .ok (.iload 5, 2) := by decide +kernel
theorem dX6_copy_112 : decode cX6_copy 112 = .ok (.invokestatic 272, 3) := by decide +kernel
theorem dX6_copy_115 : decode cX6_copy 115 = .ok (.iload 5, 2) := by decide +kernel
theorem dX6_copy_117 : decode cX6_copy 117 = .ok (.ireturn, 1) := by decide +kernel
theorem dX6_kindsHeard_0 : decode cX6_kindsHeard 0 = .ok (.iconst 0, 1) := by decide +kernel
theorem dX6_kindsHeard_1 : decode cX6_kindsHeard 1 = .ok (.istore 5, 2) := by decide +kernel
theorem dX6_kindsHeard_3 : decode cX6_kindsHeard 3 = .ok (.iconst 0, 1) := by decide +kernel
theorem dX6_kindsHeard_4 : decode cX6_kindsHeard 4 = .ok (.istore 6, 2) := by decide +kernel
theorem dX6_kindsHeard_6 : decode cX6_kindsHeard 6 = .ok (.iload 6, 2) := by decide +kernel
theorem dX6_kindsHeard_8 : decode cX6_kindsHeard 8 = .ok (.iconst 5, 1) := by decide +kernel
theorem dX6_kindsHeard_9 : decode cX6_kindsHeard 9 = .ok (.if_icmp .ge 52, 3) := by decide +kernel
theorem dX6_kindsHeard_12 : decode cX6_kindsHeard 12 = .ok (.aload_n 0, 1) := by decide +kernel
theorem dX6_kindsHeard_13 : decode cX6_kindsHeard 13 = .ok (.getfield 29, 3) := by decide +kernel
theorem dX6_kindsHeard_16 : decode cX6_kindsHeard 16 = .ok (.aload_n 0, 1) := by decide +kernel
theorem dX6_kindsHeard_17 : decode cX6_kindsHeard 17 = .ok (.getfield 12, 3) := by decide +kernel
theorem dX6_kindsHeard_20 : decode cX6_kindsHeard 20 = .ok (.invokevirtual 117, 3) := by decide +kernel
theorem dX6_kindsHeard_23 : decode cX6_kindsHeard 23 = .ok (.aload_n 0, 1) := by decide +kernel
theorem dX6_kindsHeard_24 : decode cX6_kindsHeard 24 = .ok (.getfield 29, 3) := by decide +kernel
theorem dX6_kindsHeard_27 : decode cX6_kindsHeard 27 = .ok (.getfield 82, 3) := by decide +kernel
theorem dX6_kindsHeard_30 : decode cX6_kindsHeard 30 = .ok (.iload_n 1, 1) := by decide +kernel
theorem dX6_kindsHeard_31 : decode cX6_kindsHeard 31 = .ok (.iload 6, 2) := by decide +kernel
theorem dX6_kindsHeard_33 : decode cX6_kindsHeard 33 = .ok (.iastore, 1) := by decide +kernel
theorem dX6_kindsHeard_34 : decode cX6_kindsHeard 34 = .ok (.aload_n 0, 1) := by decide +kernel
theorem dX6_kindsHeard_35 : decode cX6_kindsHeard 35 = .ok (.iload_n 1, 1) := by decide +kernel
theorem dX6_kindsHeard_36 : decode cX6_kindsHeard 36 = .ok (.aload_n 2, 1) := by decide +kernel
theorem dX6_kindsHeard_37 : decode cX6_kindsHeard 37 = .ok (.iload_n 3, 1) := by decide +kernel
theorem dX6_kindsHeard_38 : decode cX6_kindsHeard 38 = .ok (.iload 4, 2) := by decide +kernel
theorem dX6_kindsHeard_40 : decode cX6_kindsHeard 40 = .ok (.invokevirtual 278, 3) := by decide +kernel
theorem dX6_kindsHeard_43 : decode cX6_kindsHeard 43 = .ok (.ifCond .eq 12, 3) := by decide +kernel
theorem dX6_kindsHeard_46 : decode cX6_kindsHeard 46 = .ok (.iload 5, 2) := by decide +kernel
theorem dX6_kindsHeard_48 : decode cX6_kindsHeard 48 = .ok (.iconst 1, 1) := by decide +kernel
theorem dX6_kindsHeard_49 : decode cX6_kindsHeard 49 = .ok (.iload 6, 2) := by decide +kernel
theorem dX6_kindsHeard_51 : decode cX6_kindsHeard 51 = .ok (.ishl, 1) := by decide +kernel
theorem dX6_kindsHeard_52 : decode cX6_kindsHeard 52 = .ok (.ior, 1) := by decide +kernel
theorem dX6_kindsHeard_53 : decode cX6_kindsHeard 53 = .ok (.istore 5, 2) := by decide +kernel
theorem dX6_kindsHeard_55 : decode cX6_kindsHeard 55 = .ok (.iinc 6 1, 3) := by decide +kernel
theorem dX6_kindsHeard_58 : decode cX6_kindsHeard 58 = .ok (.goto (-52), 3) := by decide +kernel
theorem dX6_kindsHeard_61 : decode cX6_kindsHeard 61 = .ok (.iload 5, 2) := by decide +kernel
theorem dX6_kindsHeard_63 : decode cX6_kindsHeard 63 = .ok (.ireturn, 1) := by decide +kernel
theorem dX6_driftsHeard_0 : decode cX6_driftsHeard 0 = .ok (.iconst 0, 1) := by decide +kernel
theorem dX6_driftsHeard_1 : decode cX6_driftsHeard 1 = .ok (.istore 5, 2) := by decide +kernel
theorem dX6_driftsHeard_3 : decode cX6_driftsHeard 3 = .ok (.bipush (-9), 2) := by decide +kernel
theorem dX6_driftsHeard_5 : decode cX6_driftsHeard 5 = .ok (.istore 6, 2) := by decide +kernel
theorem dX6_driftsHeard_7 : decode cX6_driftsHeard 7 = .ok (.iload 6, 2) := by decide +kernel
theorem dX6_driftsHeard_9 : decode cX6_driftsHeard 9 = .ok (.bipush 9, 2) := by decide +kernel
theorem dX6_driftsHeard_11 : decode cX6_driftsHeard 11 = .ok (.if_icmp .gt 55, 3) := by decide +kernel
theorem dX6_driftsHeard_14 : decode cX6_driftsHeard 14 = .ok (.aload_n 0, 1) := by decide +kernel
theorem dX6_driftsHeard_15 : decode cX6_driftsHeard 15 = .ok (.getfield 29, 3) := by decide +kernel
theorem dX6_driftsHeard_18 : decode cX6_driftsHeard 18 = .ok (.aload_n 0, 1) := by decide +kernel
theorem dX6_driftsHeard_19 : decode cX6_driftsHeard 19 = .ok (.getfield 12, 3) := by decide +kernel
theorem dX6_driftsHeard_22 : decode cX6_driftsHeard 22 = .ok (.invokevirtual 117, 3) := by decide +kernel
theorem dX6_driftsHeard_25 : decode cX6_driftsHeard 25 = .ok (.aload_n 0, 1) := by decide +kernel
theorem dX6_driftsHeard_26 : decode cX6_driftsHeard 26 = .ok (.getfield 29, 3) := by decide +kernel
theorem dX6_driftsHeard_29 : decode cX6_driftsHeard 29 = .ok (.getfield 89, 3) := by decide +kernel
theorem dX6_driftsHeard_32 : decode cX6_driftsHeard 32 = .ok (.iload_n 1, 1) := by decide +kernel
theorem dX6_driftsHeard_33 : decode cX6_driftsHeard 33 = .ok (.iload 6, 2) := by decide +kernel
theorem dX6_driftsHeard_35 : decode cX6_driftsHeard 35 = .ok (.iastore, 1) := by decide +kernel
theorem dX6_driftsHeard_36 : decode cX6_driftsHeard 36 = .ok (.aload_n 0, 1) := by decide +kernel
theorem dX6_driftsHeard_37 : decode cX6_driftsHeard 37 = .ok (.iload_n 1, 1) := by decide +kernel
theorem dX6_driftsHeard_38 : decode cX6_driftsHeard 38 = .ok (.aload_n 2, 1) := by decide +kernel
theorem dX6_driftsHeard_39 : decode cX6_driftsHeard 39 = .ok (.iload_n 3, 1) := by decide +kernel
theorem dX6_driftsHeard_40 : decode cX6_driftsHeard 40 = .ok (.iload 4, 2) := by decide +kernel
theorem dX6_driftsHeard_42 : decode cX6_driftsHeard 42 = .ok (.invokevirtual 278, 3) := by decide +kernel
theorem dX6_driftsHeard_45 : decode cX6_driftsHeard 45 = .ok (.ifCond .eq 15, 3) := by decide +kernel
theorem dX6_driftsHeard_48 : decode cX6_driftsHeard 48 = .ok (.iload 5, 2) := by decide +kernel
theorem dX6_driftsHeard_50 : decode cX6_driftsHeard 50 = .ok (.iconst 1, 1) := by decide +kernel
theorem dX6_driftsHeard_51 : decode cX6_driftsHeard 51 = .ok (.iload 6, 2) := by decide +kernel
theorem dX6_driftsHeard_53 : decode cX6_driftsHeard 53 = .ok (.bipush 9, 2) := by decide +kernel
theorem dX6_driftsHeard_55 : decode cX6_driftsHeard 55 = .ok (.iadd, 1) := by decide +kernel
theorem dX6_driftsHeard_56 : decode cX6_driftsHeard 56 = .ok (.ishl, 1) := by decide +kernel
theorem dX6_driftsHeard_57 : decode cX6_driftsHeard 57 = .ok (.ior, 1) := by decide +kernel
theorem dX6_driftsHeard_58 : decode cX6_driftsHeard 58 = .ok (.istore 5, 2) := by decide +kernel
theorem dX6_driftsHeard_60 : decode cX6_driftsHeard 60 = .ok (.iinc 6 1, 3) := by decide +kernel
theorem dX6_driftsHeard_63 : decode cX6_driftsHeard 63 = .ok (.goto (-56), 3) := by decide +kernel
theorem dX6_driftsHeard_66 : decode cX6_driftsHeard 66 = .ok (.iload 5, 2) := by decide +kernel
theorem dX6_driftsHeard_68 : decode cX6_driftsHeard 68 = .ok (.ireturn, 1) := by decide +kernel
theorem dX6_trialRingsAs_0 : decode cX6_trialRingsAs 0 = .ok (.iconst 0, 1) := by decide +kernel
theorem dX6_trialRingsAs_1 : decode cX6_trialRingsAs 1 = .ok (.istore 5, 2) := by decide +kernel
theorem dX6_trialRingsAs_3 : decode cX6_trialRingsAs 3 = .ok (.iload 5, 2) := by decide +kernel
theorem dX6_trialRingsAs_5 : decode cX6_trialRingsAs 5 = .ok (.iload 4, 2) := by decide +kernel
theorem dX6_trialRingsAs_7 : decode cX6_trialRingsAs 7 = .ok (.if_icmp .ge 41, 3) := by decide +kernel
theorem dX6_trialRingsAs_10 : decode cX6_trialRingsAs 10 = .ok (.aload_n 0, 1) := by decide +kernel
theorem dX6_trialRingsAs_11 : decode cX6_trialRingsAs 11 = .ok (.getfield 29, 3) := by decide +kernel
theorem dX6_trialRingsAs_14 : decode cX6_trialRingsAs 14 = .ok (.invokevirtual 159, 3) := by decide +kernel
theorem dX6_trialRingsAs_17 : decode cX6_trialRingsAs 17 = .ok (.aload_n 2, 1) := by decide +kernel
theorem dX6_trialRingsAs_18 : decode cX6_trialRingsAs 18 = .ok (.getfield 268, 3) := by decide +kernel
theorem dX6_trialRingsAs_21 : decode cX6_trialRingsAs 21 = .ok (.iload_n 3, 1) := by decide +kernel
theorem dX6_trialRingsAs_22 : decode cX6_trialRingsAs 22 = .ok (.iload 5, 2) := by decide +kernel
theorem dX6_trialRingsAs_24 : decode cX6_trialRingsAs 24 = .ok (.iadd, 1) := by decide +kernel
theorem dX6_trialRingsAs_25 : decode cX6_trialRingsAs 25 = .ok (.laload, 1) := by decide +kernel
theorem dX6_trialRingsAs_26 : decode cX6_trialRingsAs 26 = .ok (.aload_n 0, 1) := by decide +kernel
theorem dX6_trialRingsAs_27 : decode cX6_trialRingsAs 27 = .ok (.getfield 29, 3) := by decide +kernel
theorem dX6_trialRingsAs_30 : decode cX6_trialRingsAs 30 = .ok (.getfield 86, 3) := by decide +kernel
theorem dX6_trialRingsAs_33 : decode cX6_trialRingsAs 33 = .ok (.iload_n 1, 1) := by decide +kernel
theorem dX6_trialRingsAs_34 : decode cX6_trialRingsAs 34 = .ok (.iaload, 1) := by decide +kernel
theorem dX6_trialRingsAs_35 : decode cX6_trialRingsAs 35 = .ok (.i2l, 1) := by decide +kernel
theorem dX6_trialRingsAs_36 : decode cX6_trialRingsAs 36 = .ok (.lcmp, 1) := by decide +kernel
theorem dX6_trialRingsAs_37 : decode cX6_trialRingsAs 37 = .ok (.ifCond .eq 5, 3) := by decide +kernel
theorem dX6_trialRingsAs_40 : decode cX6_trialRingsAs 40 = .ok (.iconst 0, 1) := by decide +kernel
theorem dX6_trialRingsAs_41 : decode cX6_trialRingsAs 41 = .ok (.ireturn, 1) := by decide +kernel
theorem dX6_trialRingsAs_42 : decode cX6_trialRingsAs 42 = .ok (.iinc 5 1, 3) := by decide +kernel
theorem dX6_trialRingsAs_45 : decode cX6_trialRingsAs 45 = .ok (.goto (-42), 3) := by decide +kernel
theorem dX6_trialRingsAs_48 : decode cX6_trialRingsAs 48 = .ok (.iconst 1, 1) := by decide +kernel
theorem dX6_trialRingsAs_49 : decode cX6_trialRingsAs 49 = .ok (.ireturn, 1) := by decide +kernel
theorem dX6_within_0 : decode cX6_within 0 = .ok (.iload_n 0, 1) := by decide +kernel
theorem dX6_within_1 : decode cX6_within 1 = .ok (.iload_n 1, 1) := by decide +kernel
theorem dX6_within_2 : decode cX6_within 2 = .ok (.if_icmp .lt 12, 3) := by decide +kernel
theorem dX6_within_5 : decode cX6_within 5 = .ok (.iload_n 0, 1) := by decide +kernel
theorem dX6_within_6 : decode cX6_within 6 = .ok (.iload_n 2, 1) := by decide +kernel
theorem dX6_within_7 : decode cX6_within 7 = .ok (.if_icmp .gt 7, 3) := by decide +kernel
theorem dX6_within_10 : decode cX6_within 10 = .ok (.iconst 1, 1) := by decide +kernel
theorem dX6_within_11 : decode cX6_within 11 = .ok (.goto 4, 3) := by decide +kernel
theorem dX6_within_14 : decode cX6_within 14 = .ok (.iconst 0, 1) := by decide +kernel
theorem dX6_within_15 : decode cX6_within 15 = .ok (.ireturn, 1) := by decide +kernel
theorem dX6_isMinute_0 : decode cX6_isMinute 0 = .ok (.iload_n 0, 1) := by decide +kernel
theorem dX6_isMinute_1 : decode cX6_isMinute 1 = .ok (.iconst 0, 1) := by decide +kernel
theorem dX6_isMinute_2 : decode cX6_isMinute 2 = .ok (.bipush 59, 2) := by decide +kernel
theorem dX6_isMinute_4 : decode cX6_isMinute 4 = .ok (.invokestatic 60, 3) := by decide +kernel
theorem dX6_isMinute_7 : decode cX6_isMinute 7 = .ok (.ireturn, 1) := by decide +kernel
theorem dX6_isSheetAndLane_0 : decode cX6_isSheetAndLane 0 = .ok (.iload_n 0, 1) := by decide +kernel
theorem dX6_isSheetAndLane_1 : decode cX6_isSheetAndLane 1 = .ok (.iconst 0, 1) := by decide +kernel
theorem dX6_isSheetAndLane_2 : decode cX6_isSheetAndLane 2 = .ok (.iconst 3, 1) := by decide +kernel
theorem dX6_isSheetAndLane_3 : decode cX6_isSheetAndLane 3 = .ok (.invokestatic 60, 3) := by decide +kernel
theorem dX6_isSheetAndLane_6 : decode cX6_isSheetAndLane 6 = .ok (.ifCond .eq 16, 3) := by decide +kernel
theorem dX6_isSheetAndLane_9 : decode cX6_isSheetAndLane 9 = .ok (.iload_n 1, 1) := by decide +kernel
theorem dX6_isSheetAndLane_10 : decode cX6_isSheetAndLane 10 = .ok (.iconst 0, 1) := by decide +kernel
theorem dX6_isSheetAndLane_11 : decode cX6_isSheetAndLane 11 = .ok (.iconst 3, 1) := by decide +kernel
theorem dX6_isSheetAndLane_12 : decode cX6_isSheetAndLane 12 = .ok (.invokestatic 60, 3) := by decide +kernel
theorem dX6_isSheetAndLane_15 : decode cX6_isSheetAndLane 15 = .ok (.ifCond .eq 7, 3) := by decide +kernel
theorem dX6_isSheetAndLane_18 : decode cX6_isSheetAndLane 18 = .ok (.iconst 1, 1) := by decide +kernel
theorem dX6_isSheetAndLane_19 : decode cX6_isSheetAndLane 19 = .ok (.goto 4, 3) := by decide +kernel
theorem dX6_isSheetAndLane_22 : decode cX6_isSheetAndLane 22 = .ok (.iconst 0, 1) := by decide +kernel
theorem dX6_isSheetAndLane_23 : decode cX6_isSheetAndLane 23 = .ok (.ireturn, 1) := by decide +kernel
theorem dX6_isIn_0 : decode cX6_isIn 0 = .ok (.iload_n 0, 1) := by decide +kernel
theorem dX6_isIn_1 : decode cX6_isIn 1 = .ok (.iload_n 1, 1) := by decide +kernel
theorem dX6_isIn_2 : decode cX6_isIn 2 = .ok (.ishr, 1) := by decide +kernel
theorem dX6_isIn_3 : decode cX6_isIn 3 = .ok (.iconst 1, 1) := by decide +kernel
theorem dX6_isIn_4 : decode cX6_isIn 4 = .ok (.iand, 1) := by decide +kernel
theorem dX6_isIn_5 : decode cX6_isIn 5 = .ok (.ifCond .eq 7, 3) := by decide +kernel
theorem dX6_isIn_8 : decode cX6_isIn 8 = .ok (.iconst 1, 1) := by decide +kernel
theorem dX6_isIn_9 : decode cX6_isIn 9 = .ok (.goto 4, 3) := by decide +kernel
theorem dX6_isIn_12 : decode cX6_isIn 12 = .ok (.iconst 0, 1) := by decide +kernel
theorem dX6_isIn_13 : decode cX6_isIn 13 = .ok (.ireturn, 1) := by decide +kernel
theorem dX6_roundTheHour_0 : decode cX6_roundTheHour 0 = .ok (.iload_n 0, 1) := by decide +kernel
theorem dX6_roundTheHour_1 : decode cX6_roundTheHour 1 = .ok (.bipush 60, 2) := by decide +kernel
theorem dX6_roundTheHour_3 : decode cX6_roundTheHour 3 = .ok (.invokestatic 282, 3) := by decide +kernel
theorem dX6_roundTheHour_6 : decode cX6_roundTheHour 6 = .ok (.ireturn, 1) := by decide +kernel
theorem dX6_shorterWay_0 : decode cX6_shorterWay 0 = .ok (.iload_n 0, 1) := by decide +kernel
theorem dX6_shorterWay_1 : decode cX6_shorterWay 1 = .ok (.iload_n 1, 1) := by decide +kernel
theorem dX6_shorterWay_2 : decode cX6_shorterWay 2 = .ok (.if_icmp .ge 9, 3) := by decide +kernel
theorem dX6_shorterWay_5 : decode cX6_shorterWay 5 = .ok (.iload_n 1, 1) := by decide +kernel
theorem dX6_shorterWay_6 : decode cX6_shorterWay 6 = .ok (.iload_n 0, 1) := by decide +kernel
theorem dX6_shorterWay_7 : decode cX6_shorterWay 7 = .ok (.isub, 1) := by decide +kernel
theorem dX6_shorterWay_8 : decode cX6_shorterWay 8 = .ok (.goto 6, 3) := by decide +kernel
theorem dX6_shorterWay_11 : decode cX6_shorterWay 11 = .ok (.iload_n 0, 1) := by decide +kernel
theorem dX6_shorterWay_12 : decode cX6_shorterWay 12 = .ok (.iload_n 1, 1) := by decide +kernel
theorem dX6_shorterWay_13 : decode cX6_shorterWay 13 = .ok (.isub, 1) := by decide +kernel
theorem dX6_shorterWay_14 : decode cX6_shorterWay 14 = .ok (.istore_n 2, 1) := by decide +kernel
theorem dX6_shorterWay_15 : decode cX6_shorterWay 15 = .ok (.iload_n 2, 1) := by decide +kernel
theorem dX6_shorterWay_16 : decode cX6_shorterWay 16 = .ok (.bipush 30, 2) := by decide +kernel
theorem dX6_shorterWay_18 : decode cX6_shorterWay 18 = .ok (.if_icmp .gt 7, 3) := by decide +kernel
theorem dX6_shorterWay_21 : decode cX6_shorterWay 21 = .ok (.iload_n 2, 1) := by decide +kernel
theorem dX6_shorterWay_22 : decode cX6_shorterWay 22 = .ok (.goto 7, 3) := by decide +kernel
theorem dX6_shorterWay_25 : decode cX6_shorterWay 25 = .ok (.bipush 60, 2) := by decide +kernel
theorem dX6_shorterWay_27 : decode cX6_shorterWay 27 = .ok (.iload_n 2, 1) := by decide +kernel
theorem dX6_shorterWay_28 : decode cX6_shorterWay 28 = .ok (.isub, 1) := by decide +kernel
theorem dX6_shorterWay_29 : decode cX6_shorterWay 29 = .ok (.ireturn, 1) := by decide +kernel
theorem dX6_greatestDivisor_0 : decode cX6_greatestDivisor 0 = .ok (.iload_n 0, 1) := by decide +kernel
theorem dX6_greatestDivisor_1 : decode cX6_greatestDivisor 1 = .ok (.istore_n 2, 1) := by decide +kernel
theorem dX6_greatestDivisor_2 : decode cX6_greatestDivisor 2 = .ok (.iload_n 1, 1) := by decide +kernel
theorem dX6_greatestDivisor_3 : decode cX6_greatestDivisor 3 = .ok (.istore_n 3, 1) := by decide +kernel
theorem dX6_greatestDivisor_4 : decode cX6_greatestDivisor 4 = .ok (.iconst 0, 1) := by decide +kernel
theorem dX6_greatestDivisor_5 : decode cX6_greatestDivisor 5 = .ok (.istore 4, 2) := by decide +kernel
theorem dX6_greatestDivisor_7 : decode cX6_greatestDivisor 7 = .ok (.iload 4, 2) := by decide +kernel
theorem dX6_greatestDivisor_9 : decode cX6_greatestDivisor 9 = .ok (.bipush 64, 2) := by decide +kernel
theorem dX6_greatestDivisor_11 : decode cX6_greatestDivisor 11 = .ok (.if_icmp .ge 23, 3) := by decide +kernel
theorem dX6_greatestDivisor_14 : decode cX6_greatestDivisor 14 = .ok (.iload_n 3, 1) := by decide +kernel
theorem dX6_greatestDivisor_15 : decode cX6_greatestDivisor 15 = .ok (.ifCond .eq 19, 3) := by decide +kernel
theorem dX6_greatestDivisor_18 : decode cX6_greatestDivisor 18 = .ok (.iload_n 2, 1) := by decide +kernel
theorem dX6_greatestDivisor_19 : decode cX6_greatestDivisor 19 = .ok (.iload_n 3, 1) := by decide +kernel
theorem dX6_greatestDivisor_20 : decode cX6_greatestDivisor 20 = .ok (.irem, 1) := by decide +kernel
theorem dX6_greatestDivisor_21 : decode cX6_greatestDivisor 21 = .ok (.istore 5, 2) := by decide +kernel
theorem dX6_greatestDivisor_23 : decode cX6_greatestDivisor 23 = .ok (.iload_n 3, 1) := by decide +kernel
theorem dX6_greatestDivisor_24 : decode cX6_greatestDivisor 24 = .ok (.istore_n 2, 1) := by decide +kernel
theorem dX6_greatestDivisor_25 : decode cX6_greatestDivisor 25 = .ok (.iload 5, 2) := by decide +kernel
theorem dX6_greatestDivisor_27 : decode cX6_greatestDivisor 27 = .ok (.istore_n 3, 1) := by decide +kernel
theorem dX6_greatestDivisor_28 : decode cX6_greatestDivisor 28 = .ok (.iinc 4 1, 3) := by decide +kernel
theorem dX6_greatestDivisor_31 : decode cX6_greatestDivisor 31 = .ok (.goto (-24), 3) := by decide +kernel
theorem dX6_greatestDivisor_34 : decode cX6_greatestDivisor 34 = .ok (.iload_n 2, 1) := by decide +kernel
theorem dX6_greatestDivisor_35 : decode cX6_greatestDivisor 35 = .ok (.ireturn, 1) := by decide +kernel
theorem dX7_in_0 : decode cX7_in 0 = .ok (.lload_n 0, 1) := by decide +kernel
theorem dX7_in_1 : decode cX7_in 1 = .ok (.lload_n 2, 1) := by decide +kernel
theorem dX7_in_2 : decode cX7_in 2 = .ok (.lcmp, 1) := by decide +kernel
theorem dX7_in_3 : decode cX7_in 3 = .ok (.ifCond .lt 14, 3) := by decide +kernel
theorem dX7_in_6 : decode cX7_in 6 = .ok (.lload_n 0, 1) := by decide +kernel
theorem dX7_in_7 : decode cX7_in 7 = .ok (.lload 4, 2) := by decide +kernel
theorem dX7_in_9 : decode cX7_in 9 = .ok (.lcmp, 1) := by decide +kernel
theorem dX7_in_10 : decode cX7_in 10 = .ok (.ifCond .gt 7, 3) := by decide +kernel
theorem dX7_in_13 : decode cX7_in 13 = .ok (.iconst 1, 1) := by decide +kernel
theorem dX7_in_14 : decode cX7_in 14 = .ok (.goto 4, 3) := by decide +kernel
theorem dX7_in_17 : decode cX7_in 17 = .ok (.iconst 0, 1) := by decide +kernel
theorem dX7_in_18 : decode cX7_in 18 = .ok (.ireturn, 1) := by decide +kernel
theorem dX7_init_0 : decode cX7_init 0 = .ok (.aload_n 0, 1) := by decide +kernel
theorem dX7_init_1 : decode cX7_init 1 = .ok (.invokespecial 1, 3) := by decide +kernel
theorem dX7_init_4 : decode cX7_init 4 = .ok (.aload_n 0, 1) := by decide +kernel
theorem dX7_init_5 : decode cX7_init 5 = .ok (.bipush 27, 2) := by decide +kernel
theorem dX7_init_7 : decode cX7_init 7 = .ok (.newarray .int, 2) := by decide +kernel
theorem dX7_init_9 : decode cX7_init 9 = .ok (.putfield 7, 3) := by decide +kernel
theorem dX7_init_12 : decode cX7_init 12 = .ok (.aload_n 0, 1) := by decide +kernel
theorem dX7_init_13 : decode cX7_init 13 = .ok (.bipush 6, 2) := by decide +kernel
theorem dX7_init_15 : decode cX7_init 15 = .ok (.newarray .int, 2) := by decide +kernel
theorem dX7_init_17 : decode cX7_init 17 = .ok (.putfield 13, 3) := by decide +kernel
theorem dX7_init_20 : decode cX7_init 20 = .ok (.aload_n 0, 1) := by decide +kernel
theorem dX7_init_21 : decode cX7_init 21 = .ok (.bipush 60, 2) := by decide +kernel
theorem dX7_init_23 : decode cX7_init 23 = .ok (.newarray .int, 2) := by decide +kernel
theorem dX7_init_25 : decode cX7_init 25 = .ok (.putfield 16, 3) := by decide +kernel
theorem dX7_init_28 : decode cX7_init 28 = .ok (.aload_n 0, 1) := by decide +kernel
theorem dX7_init_29 : decode cX7_init 29 = .ok (.bipush 24, 2) := by decide +kernel
theorem dX7_init_31 : decode cX7_init 31 = .ok (.newarray .int, 2) := by decide +kernel
theorem dX7_init_33 : decode cX7_init 33 = .ok (.putfield 19, 3) := by decide +kernel
theorem dX7_init_36 : decode cX7_init 36 = .ok (.aload_n 0, 1) := by decide +kernel
theorem dX7_init_37 : decode cX7_init 37 = .ok (.sipush 216, 3) := by decide +kernel
theorem dX7_init_40 : decode cX7_init 40 = .ok (.newarray .int, 2) := by decide +kernel
theorem dX7_init_42 : decode cX7_init 42 = .ok (.putfield 22, 3) := by decide +kernel
theorem dX7_init_45 : decode cX7_init 45 = .ok (.aload_n 0, 1) := by decide +kernel
theorem dX7_init_46 : decode cX7_init 46 = .ok (.bipush 27, 2) := by decide +kernel
theorem dX7_init_48 : decode cX7_init 48 = .ok (.newarray .int, 2) := by decide +kernel
theorem dX7_init_50 : decode cX7_init 50 = .ok (.putfield 25, 3) := by decide +kernel
theorem dX7_init_53 : decode cX7_init 53 = .ok (.aload_n 0, 1) := by decide +kernel
theorem dX7_init_54 : decode cX7_init 54 = .ok (.bipush 6, 2) := by decide +kernel
theorem dX7_init_56 : decode cX7_init 56 = .ok (.newarray .int, 2) := by decide +kernel
theorem dX7_init_58 : decode cX7_init 58 = .ok (.putfield 28, 3) := by decide +kernel
theorem dX7_init_61 : decode cX7_init 61 = .ok (.aload_n 0, 1) := by decide +kernel
theorem dX7_init_62 : decode cX7_init 62 = .ok (.bipush 6, 2) := by decide +kernel
theorem dX7_init_64 : decode cX7_init 64 = .ok (.newarray .int, 2) := by decide +kernel
theorem dX7_init_66 : decode cX7_init 66 = .ok (.putfield 31, 3) := by decide +kernel
theorem dX7_init_69 : decode cX7_init 69 = .ok (.aload_n 0, 1) := by decide +kernel
theorem dX7_init_70 : decode cX7_init 70 = .ok (.bipush 6, 2) := by decide +kernel
theorem dX7_init_72 : decode cX7_init 72 = .ok (.newarray .int, 2) := by decide +kernel
theorem dX7_init_74 : decode cX7_init 74 = .ok (.putfield 34, 3) := by decide +kernel
theorem dX7_init_77 : decode cX7_init 77 = .ok (.aload_n 0, 1) := by decide +kernel
theorem dX7_init_78 : decode cX7_init 78 = .ok (.sipush 243, 3) := by decide +kernel
theorem dX7_init_81 : decode cX7_init 81 = .ok (.newarray .int, 2) := by decide +kernel
theorem dX7_init_83 : decode cX7_init 83 = .ok (.putfield 37, 3) := by decide +kernel
theorem dX7_init_86 : decode cX7_init 86 = .ok (.aload_n 0, 1) := by decide +kernel
theorem dX7_init_87 : decode cX7_init 87 = .ok (.iconst 4, 1) := by decide +kernel
theorem dX7_init_88 : decode cX7_init 88 = .ok (.newarray .int, 2) := by decide +kernel
theorem dX7_init_90 : decode cX7_init 90 = .ok (.putfield 40, 3) := by decide +kernel
theorem dX7_init_93 : decode cX7_init 93 = .ok (.aload_n 0, 1) := by decide +kernel
theorem dX7_init_94 : decode cX7_init 94 = .ok (.iconst 4, 1) := by decide +kernel
theorem dX7_init_95 : decode cX7_init 95 = .ok (.newarray .int, 2) := by decide +kernel
theorem dX7_init_97 : decode cX7_init 97 = .ok (.putfield 43, 3) := by decide +kernel
theorem dX7_init_100 : decode cX7_init 100 = .ok (.aload_n 0, 1) := by decide +kernel
theorem dX7_init_101 : decode cX7_init 101 = .ok (.bipush 96, 2) := by decide +kernel
theorem dX7_init_103 : decode cX7_init 103 = .ok (.newarray .long, 2) := by decide +kernel
theorem dX7_init_105 : decode cX7_init 105 = .ok (.putfield 46, 3) := by decide +kernel
theorem dX7_init_108 : decode cX7_init 108 = .ok (.aload_n 0, 1) := by decide +kernel
theorem dX7_init_109 : decode cX7_init 109 = .ok (.bipush 24, 2) := by decide +kernel
theorem dX7_init_111 : decode cX7_init 111 = .ok (.newarray .long, 2) := by decide +kernel
theorem dX7_init_113 : decode cX7_init 113 = .ok (.putfield 50, 3) := by decide +kernel
theorem dX7_init_116 : decode cX7_init 116 = .ok (.aload_n 0, 1) := by decide +kernel
theorem dX7_init_117 : decode cX7_init 117 = .ok (.getfield 7, 3) := by decide +kernel
theorem dX7_init_120 : decode cX7_init 120 = .ok (.iconst 2, 1) := by decide +kernel
theorem dX7_init_121 : decode cX7_init 121 = .ok (.iconst 1, 1) := by decide +kernel
theorem dX7_init_122 : decode cX7_init 122 = .ok (.iastore, 1) := by decide +kernel
theorem dX7_init_123 : decode cX7_init 123 = .ok (.iconst 0, 1) := by decide +kernel
theorem dX7_init_124 : decode cX7_init 124 = .ok (.istore_n 1, 1) := by decide +kernel
theorem dX7_init_125 : decode cX7_init 125 = .ok (.iload_n 1, 1) := by decide +kernel
theorem dX7_init_126 : decode cX7_init 126 = .ok (.iconst 4, 1) := by decide +kernel
theorem dX7_init_127 : decode cX7_init 127 = .ok (.if_icmp .ge 16, 3) := by decide +kernel
theorem dX7_init_130 : decode cX7_init 130 = .ok (.aload_n 0, 1) := by decide +kernel
theorem dX7_init_131 : decode cX7_init 131 = .ok (.getfield 40, 3) := by decide +kernel
theorem dX7_init_134 : decode cX7_init 134 = .ok (.iload_n 1, 1) := by decide +kernel
theorem dX7_init_135 : decode cX7_init 135 = .ok (.iconst (-1), 1) := by decide +kernel
theorem dX7_init_136 : decode cX7_init 136 = .ok (.iastore, 1) := by decide +kernel
theorem dX7_init_137 : decode cX7_init 137 = .ok (.iinc 1 1, 3) := by decide +kernel
theorem dX7_init_140 : decode cX7_init 140 = .ok (.goto (-15), 3) := by decide +kernel
theorem dX7_init_143 : decode cX7_init 143 = .ok (.return_, 1) := by decide +kernel
theorem dX7_isVillage_0 : decode cX7_isVillage 0 = .ok (.iload_n 1, 1) := by decide +kernel
theorem dX7_isVillage_1 : decode cX7_isVillage 1 = .ok (.i2l, 1) := by decide +kernel
theorem dX7_isVillage_2 : decode cX7_isVillage 2 = .ok (.lconst 0, 1) := by decide +kernel
theorem dX7_isVillage_3 : decode cX7_isVillage 3 = .ok (.aload_n 0, 1) := by decide +kernel
theorem dX7_isVillage_4 : decode cX7_isVillage 4 = .ok (.getfield 7, 3) := by decide +kernel
theorem dX7_isVillage_7 : decode cX7_isVillage 7 = .ok (.iconst 0, 1) := by decide +kernel
theorem dX7_isVillage_8 : decode cX7_isVillage 8 = .ok (.iaload, 1) := by decide +kernel
theorem dX7_isVillage_9 : decode cX7_isVillage 9 = .ok (.iconst 1, 1) := by decide +kernel
theorem dX7_isVillage_10 : decode cX7_isVillage 10 = .ok (.isub, 1) := by decide +kernel
theorem dX7_isVillage_11 : decode cX7_isVillage 11 = .ok (.i2l, 1) := by decide +kernel
theorem dX7_isVillage_12 : decode cX7_isVillage 12 = .ok (.invokestatic 53, 3) := by decide +kernel
theorem dX7_isVillage_15 : decode cX7_isVillage 15 = .ok (.ireturn, 1) := by decide +kernel
theorem dX7_told_0 : decode cX7_told 0 = .ok (.aload_n 0, 1) := by decide +kernel
theorem dX7_told_1 : decode cX7_told 1 = .ok (.getfield 7, 3) := by decide +kernel
theorem dX7_told_4 : decode cX7_told 4 = .ok (.iconst 3, 1) := by decide +kernel
theorem dX7_told_5 : decode cX7_told 5 = .ok (.iconst 4, 1) := by decide +kernel
theorem dX7_told_6 : decode cX7_told 6 = .ok (.iload_n 1, 1) := by decide +kernel
theorem dX7_told_7 : decode cX7_told 7 = .ok (.imul, 1) := by decide +kernel
theorem dX7_told_8 : decode cX7_told 8 = .ok (.iadd, 1) := by decide +kernel
theorem dX7_told_9 : decode cX7_told 9 = .ok (.iload_n 2, 1) := by decide +kernel
theorem dX7_told_10 : decode cX7_told 10 = .ok (.iadd, 1) := by decide +kernel
theorem dX7_told_11 : decode cX7_told 11 = .ok (.iaload, 1) := by decide +kernel
theorem dX7_told_12 : decode cX7_told 12 = .ok (.ireturn, 1) := by decide +kernel
theorem dX7_tells_0 : decode cX7_tells 0 = .ok (.aload_n 0, 1) := by decide +kernel
theorem dX7_tells_1 : decode cX7_tells 1 = .ok (.getfield 7, 3) := by decide +kernel
theorem dX7_tells_4 : decode cX7_tells 4 = .ok (.iconst 3, 1) := by decide +kernel
theorem dX7_tells_5 : decode cX7_tells 5 = .ok (.iconst 4, 1) := by decide +kernel
theorem dX7_tells_6 : decode cX7_tells 6 = .ok (.iload_n 1, 1) := by decide +kernel
theorem dX7_tells_7 : decode cX7_tells 7 = .ok (.imul, 1) := by decide +kernel
theorem dX7_tells_8 : decode cX7_tells 8 = .ok (.iadd, 1) := by decide +kernel
theorem dX7_tells_9 : decode cX7_tells 9 = .ok (.iload_n 2, 1) := by decide +kernel
theorem dX7_tells_10 : decode cX7_tells 10 = .ok (.iadd, 1) := by decide +kernel
theorem dX7_tells_11 : decode cX7_tells 11 = .ok (.iload_n 3, 1) := by decide +kernel
theorem dX7_tells_12 : decode cX7_tells 12 = .ok (.iastore, 1) := by decide +kernel
theorem dX7_tells_13 : decode cX7_tells 13 = .ok (.return_, 1) := by decide +kernel
theorem dX7_minuteOf_0 : decode cX7_minuteOf 0 = .ok (.aload_n 0, 1) := by decide +kernel
theorem dX7_minuteOf_1 : decode cX7_minuteOf 1 = .ok (.iload_n 1, 1) := by decide +kernel
theorem dX7_minuteOf_2 : decode cX7_minuteOf 2 = .ok (.iconst 1, 1) := by decide +kernel
theorem dX7_minuteOf_3 : decode cX7_minuteOf 3 = .ok (.invokevirtual 57, 3) := by decide +kernel
theorem dX7_minuteOf_6 : decode cX7_minuteOf 6 = .ok (.ireturn, 1) := by decide +kernel
theorem dX7_round_0 : decode cX7_round 0 = .ok (.iload_n 0, 1) := by decide +kernel
theorem dX7_round_1 : decode cX7_round 1 = .ok (.bipush 60, 2) := by decide +kernel
theorem dX7_round_3 : decode cX7_round 3 = .ok (.irem, 1) := by decide +kernel
theorem dX7_round_4 : decode cX7_round 4 = .ok (.bipush 60, 2) := by decide +kernel
theorem dX7_round_6 : decode cX7_round 6 = .ok (.iadd, 1) := by decide +kernel
theorem dX7_round_7 : decode cX7_round 7 = .ok (.bipush 60, 2) := by decide +kernel
theorem dX7_round_9 : decode cX7_round 9 = .ok (.irem, 1) := by decide +kernel
theorem dX7_round_10 : decode cX7_round 10 = .ok (.ireturn, 1) := by decide +kernel
theorem dX7_between_0 : decode cX7_between 0 = .ok (.iload_n 0, 1) := by decide +kernel
theorem dX7_between_1 : decode cX7_between 1 = .ok (.iload_n 1, 1) := by decide +kernel
theorem dX7_between_2 : decode cX7_between 2 = .ok (.isub, 1) := by decide +kernel
theorem dX7_between_3 : decode cX7_between 3 = .ok (.invokestatic 61, 3) := by decide +kernel
theorem dX7_between_6 : decode cX7_between 6 = .ok (.istore_n 2, 1) := by decide +kernel
theorem dX7_between_7 : decode cX7_between 7 = .ok (.iload_n 2, 1) := by decide +kernel
theorem dX7_between_8 : decode cX7_between 8 = .ok (.bipush 30, 2) := by decide +kernel
theorem dX7_between_10 : decode cX7_between 10 = .ok (.if_icmp .le 10, 3) := by decide +kernel
theorem dX7_between_13 : decode cX7_between 13 = .ok (.bipush 60, 2) := by decide +kernel
theorem dX7_between_15 : decode cX7_between 15 = .ok (.iload_n 2, 1) := by decide +kernel
theorem dX7_between_16 : decode cX7_between 16 = .ok (.isub, 1) := by decide +kernel
theorem dX7_between_17 : decode cX7_between 17 = .ok (.goto 4, 3) := by decide +kernel
theorem dX7_between_20 : decode cX7_between 20 = .ok (.iload_n 2, 1) := by decide +kernel
theorem dX7_between_21 : decode cX7_between 21 = .ok (.ireturn, 1) := by decide +kernel
theorem dX7_milesBetween_0 : decode cX7_milesBetween 0 = .ok (.aload_n 0, 1) := by decide +kernel
theorem dX7_milesBetween_1 : decode cX7_milesBetween 1 = .ok (.iload_n 1, 1) := by decide +kernel
theorem dX7_milesBetween_2 : decode cX7_milesBetween 2 = .ok (.iconst 3, 1) := by decide +kernel
theorem dX7_milesBetween_3 : decode cX7_milesBetween 3 = .ok (.invokevirtual 57, 3) := by decide +kernel
theorem dX7_milesBetween_6 : decode cX7_milesBetween 6 = .ok (.aload_n 0, 1) := by decide +kernel
theorem dX7_milesBetween_7 : decode cX7_milesBetween 7 = .ok (.iload_n 2, 1) := by decide +kernel
theorem dX7_milesBetween_8 : decode cX7_milesBetween 8 = .ok (.iconst 3, 1) := by decide +kernel
theorem dX7_milesBetween_9 : decode cX7_milesBetween 9 = .ok (.invokevirtual 57, 3) := by decide +kernel
theorem dX7_milesBetween_12 : decode cX7_milesBetween 12 = .ok (.isub, 1) := by decide +kernel
theorem dX7_milesBetween_13 : decode cX7_milesBetween 13 = .ok (.istore_n 3, 1) := by decide +kernel
theorem dX7_milesBetween_14 : decode cX7_milesBetween 14 = .ok (.iload_n 3, 1) := by decide +kernel
theorem dX7_milesBetween_15 : decode cX7_milesBetween 15 = .ok (.ifCond .ge 8, 3) := by decide +kernel
theorem dX7_milesBetween_18 : decode cX7_milesBetween 18 = .ok (.iload_n 3, 1) := by decide +kernel
theorem dX7_milesBetween_19 : decode cX7_milesBetween 19 = .ok (.ineg, 1) := by decide +kernel
theorem dX7_milesBetween_20 : decode cX7_milesBetween 20 = .ok (.goto 4, 3) := by decide +kernel
theorem dX7_milesBetween_23 : decode cX7_milesBetween 23 = .ok (.iload_n 3, 1) := by decide +kernel
theorem dX7_milesBetween_24 : decode cX7_milesBetween 24 = .ok (.ireturn, 1) := by decide +kernel
theorem dX7_hearsAnother_0 : decode cX7_hearsAnother 0 = .ok (.iconst 0, 1) := by decide +kernel
theorem dX7_hearsAnother_1 : decode cX7_hearsAnother 1 = .ok (.istore_n 2, 1) := by decide +kernel
theorem dX7_hearsAnother_2 : decode cX7_hearsAnother 2 = .ok (.iconst 0, 1) := by decide +kernel
theorem dX7_hearsAnother_3 : decode cX7_hearsAnother 3 = .ok (.istore_n 3, 1) := by decide +kernel
theorem dX7_hearsAnother_4 : decode cX7_hearsAnother 4 = .ok (.iload_n 3, 1) := by decide +kernel
theorem dX7_hearsAnother_5 : decode cX7_hearsAnother 5 = .ok (.aload_n 0, 1) := by decide +kernel
theorem dX7_hearsAnother_6 : decode cX7_hearsAnother 6 = .ok (.getfield 7, 3) := by decide +kernel
theorem dX7_hearsAnother_9 : decode cX7_hearsAnother 9 = .ok (.iconst 0, 1) := by decide +kernel
theorem dX7_hearsAnother_10 : decode cX7_hearsAnother 10 = .ok (.iaload, 1) := by decide +kernel
theorem dX7_hearsAnother_11 : decode cX7_hearsAnother 11 = .ok (.if_icmp .ge 41, 3) := by decide +kernel
theorem dX7_hearsAnother_14 : decode cX7_hearsAnother 14 = .ok (.iload_n 2, 1) := by decide +kernel
theorem dX7_hearsAnother_15 : decode cX7_hearsAnother 15 = .ok (.ifCond .ne 25, 3) := by decide +kernel
theorem dX7_hearsAnother_18 : decode cX7_hearsAnother 18 = .ok (.iload_n 3, 1) := by decide +kernel
theorem dX7_hearsAnother_19 : decode cX7_hearsAnother 19 = .ok (.iload_n 1, 1) := by decide +kernel
theorem dX7_hearsAnother_20 : decode cX7_hearsAnother 20 = .ok (.if_icmp .eq 24, 3) := by decide +kernel
theorem dX7_hearsAnother_23 : decode cX7_hearsAnother 23 = .ok (.aload_n 0, 1) := by decide +kernel
theorem dX7_hearsAnother_24 : decode cX7_hearsAnother 24 = .ok (.iload_n 3, 1) := by decide +kernel
theorem dX7_hearsAnother_25 : decode cX7_hearsAnother 25 = .ok (.invokevirtual 65, 3) := by decide +kernel
theorem dX7_hearsAnother_28 : decode cX7_hearsAnother 28 = .ok (.aload_n 0, 1) := by decide +kernel
theorem dX7_hearsAnother_29 : decode cX7_hearsAnother 29 = .ok (.iload_n 1, 1) := by decide +kernel
theorem dX7_hearsAnother_30 : decode cX7_hearsAnother 30 = .ok (.invokevirtual 65, 3) := by decide +kernel
theorem dX7_hearsAnother_33 : decode cX7_hearsAnother 33 = .ok (.invokestatic 68, 3) := by decide +kernel
theorem dX7_hearsAnother_36 : decode cX7_hearsAnother 36 = .ok (.iconst 3, 1) := by decide +kernel
theorem dX7_hearsAnother_37 : decode cX7_hearsAnother 37 = .ok (.if_icmp .gt 7, 3) := by decide +kernel
theorem dX7_hearsAnother_40 : decode cX7_hearsAnother 40 = .ok (.iconst 1, 1) := by decide +kernel
theorem dX7_hearsAnother_41 : decode cX7_hearsAnother 41 = .ok (.goto 4, 3) := by decide +kernel
theorem dX7_hearsAnother_44 : decode cX7_hearsAnother 44 = .ok (.iconst 0, 1) := by decide +kernel
theorem dX7_hearsAnother_45 : decode cX7_hearsAnother 45 = .ok (.istore_n 2, 1) := by decide +kernel
theorem dX7_hearsAnother_46 : decode cX7_hearsAnother 46 = .ok (.iinc 3 1, 3) := by decide +kernel
theorem dX7_hearsAnother_49 : decode cX7_hearsAnother 49 = .ok (.goto (-45), 3) := by decide +kernel
theorem dX7_hearsAnother_52 : decode cX7_hearsAnother 52 = .ok (.iload_n 2, 1) := by decide +kernel
theorem dX7_hearsAnother_53 : decode cX7_hearsAnother 53 = .ok (.ireturn, 1) := by decide +kernel
theorem dX7_laterBy_0 : decode cX7_laterBy 0 = .ok (.aload_n 0, 1) := by decide +kernel
theorem dX7_laterBy_1 : decode cX7_laterBy 1 = .ok (.iload_n 1, 1) := by decide +kernel
theorem dX7_laterBy_2 : decode cX7_laterBy 2 = .ok (.iconst 2, 1) := by decide +kernel
theorem dX7_laterBy_3 : decode cX7_laterBy 3 = .ok (.invokevirtual 57, 3) := by decide +kernel
theorem dX7_laterBy_6 : decode cX7_laterBy 6 = .ok (.istore_n 2, 1) := by decide +kernel
theorem dX7_laterBy_7 : decode cX7_laterBy 7 = .ok (.aload_n 0, 1) := by decide +kernel
theorem dX7_laterBy_8 : decode cX7_laterBy 8 = .ok (.iload_n 1, 1) := by decide +kernel
theorem dX7_laterBy_9 : decode cX7_laterBy 9 = .ok (.invokevirtual 71, 3) := by decide +kernel
theorem dX7_laterBy_12 : decode cX7_laterBy 12 = .ok (.ifCond .eq 7, 3) := by decide +kernel
theorem dX7_laterBy_15 : decode cX7_laterBy 15 = .ok (.iconst 0, 1) := by decide +kernel
theorem dX7_laterBy_16 : decode cX7_laterBy 16 = .ok (.goto 4, 3) := by decide +kernel
theorem dX7_laterBy_19 : decode cX7_laterBy 19 = .ok (.iload_n 2, 1) := by decide +kernel
theorem dX7_laterBy_20 : decode cX7_laterBy 20 = .ok (.istore_n 3, 1) := by decide +kernel
theorem dX7_laterBy_21 : decode cX7_laterBy 21 = .ok (.aload_n 0, 1) := by decide +kernel
theorem dX7_laterBy_22 : decode cX7_laterBy 22 = .ok (.iload_n 1, 1) := by decide +kernel
theorem dX7_laterBy_23 : decode cX7_laterBy 23 = .ok (.iconst 0, 1) := by decide +kernel
theorem dX7_laterBy_24 : decode cX7_laterBy 24 = .ok (.invokevirtual 57, 3) := by decide +kernel
theorem dX7_laterBy_27 : decode cX7_laterBy 27 = .ok (.tableswitch 59 0 3 #[29, 31, 35, 37], 29) := by decide +kernel
theorem dX7_laterBy_56 : decode cX7_laterBy 56 = .ok (.iload_n 2, 1) := by decide +kernel
theorem dX7_laterBy_57 : decode cX7_laterBy 57 = .ok (.ireturn, 1) := by decide +kernel
theorem dX7_laterBy_58 : decode cX7_laterBy 58 = .ok (.iload_n 2, 1) := by decide +kernel
theorem dX7_laterBy_59 : decode cX7_laterBy 59 = .ok (.iconst 2, 1) := by decide +kernel
theorem dX7_laterBy_60 : decode cX7_laterBy 60 = .ok (.idiv, 1) := by decide +kernel
theorem dX7_laterBy_61 : decode cX7_laterBy 61 = .ok (.ireturn, 1) := by decide +kernel
theorem dX7_laterBy_62 : decode cX7_laterBy 62 = .ok (.iload_n 3, 1) := by decide +kernel
theorem dX7_laterBy_63 : decode cX7_laterBy 63 = .ok (.ireturn, 1) := by decide +kernel
theorem dX7_laterBy_64 : decode cX7_laterBy 64 = .ok (.aload_n 0, 1) := by decide +kernel
theorem dX7_laterBy_65 : decode cX7_laterBy 65 = .ok (.getfield 7, 3) := by decide +kernel
theorem dX7_laterBy_68 : decode cX7_laterBy 68 = .ok (.iconst 1, 1) := by decide +kernel
theorem dX7_laterBy_69 : decode cX7_laterBy 69 = .ok (.iaload, 1) := by decide +kernel
theorem dX7_laterBy_70 : decode cX7_laterBy 70 = .ok (.iconst 2, 1) := by decide +kernel
theorem dX7_laterBy_71 : decode cX7_laterBy 71 = .ok (.irem, 1) := by decide +kernel
theorem dX7_laterBy_72 : decode cX7_laterBy 72 = .ok (.ifCond .ne 9, 3) := by decide +kernel
theorem dX7_laterBy_75 : decode cX7_laterBy 75 = .ok (.iload_n 2, 1) := by decide +kernel
theorem dX7_laterBy_76 : decode cX7_laterBy 76 = .ok (.iconst 2, 1) := by decide +kernel
theorem dX7_laterBy_77 : decode cX7_laterBy 77 = .ok (.idiv, 1) := by decide +kernel
theorem dX7_laterBy_78 : decode cX7_laterBy 78 = .ok (.goto 7, 3) := by decide +kernel
theorem dX7_laterBy_81 : decode cX7_laterBy 81 = .ok (.iload_n 2, 1) := by decide +kernel
theorem dX7_laterBy_82 : decode cX7_laterBy 82 = .ok (.iconst 2, 1) := by decide +kernel
theorem dX7_laterBy_83 : decode cX7_laterBy 83 = .ok (.idiv, 1) := by decide +kernel
theorem dX7_laterBy_84 : decode cX7_laterBy 84 = .ok (.ineg, 1) := by decide +kernel
theorem dX7_laterBy_85 : decode cX7_laterBy 85 = .ok (.ireturn, 1) := by decide +kernel
theorem dX7_laterBy_86 : decode cX7_laterBy 86 = .ok (.iload_n 1, 1) := by decide +kernel
theorem dX7_laterBy_87 : decode cX7_laterBy 87 = .ok (.ifCond .ne 14, 3) := by decide +kernel
theorem dX7_laterBy_90 : decode cX7_laterBy 90 = .ok (.aload_n 0, 1) := by decide +kernel
theorem dX7_laterBy_91 : decode cX7_laterBy 91 = .ok (.getfield 7, 3) := by decide +kernel
theorem dX7_laterBy_94 : decode cX7_laterBy 94 = .ok (.iconst 0, 1) := by decide +kernel
theorem dX7_laterBy_95 : decode cX7_laterBy 95 = .ok (.iaload, 1) := by decide +kernel
theorem dX7_laterBy_96 : decode cX7_laterBy 96 = .ok (.iconst 1, 1) := by decide +kernel
theorem dX7_laterBy_97 : decode cX7_laterBy 97 = .ok (.isub, 1) := by decide +kernel
theorem dX7_laterBy_98 : decode cX7_laterBy 98 = .ok (.goto 6, 3) := by decide +kernel
theorem dX7_laterBy_101 : decode cX7_laterBy 101 = .ok (.iload_n 1, 1) := by decide +kernel
theorem dX7_laterBy_102 : decode cX7_laterBy 102 = .ok (.iconst 1, 1) := by decide +kernel
theorem dX7_laterBy_103 : decode cX7_laterBy 103 = .ok (.isub, 1) := by decide +kernel
theorem dX7_laterBy_104 : decode cX7_laterBy 104 = .ok (.istore 4, 2) := by decide +kernel
theorem dX7_laterBy_106 : decode cX7_laterBy 106 = .ok (.iload_n 3, 1) := by decide +kernel
theorem dX7_laterBy_107 : decode cX7_laterBy 107 = .ok (.iload 4, 2) := by decide +kernel
theorem dX7_laterBy_109 : decode cX7_laterBy 109 = .ok (.iload_n 1, 1) := by decide +kernel
theorem dX7_laterBy_110 : decode cX7_laterBy 110 = .ok (.if_icmp .eq 19, 3) := by decide +kernel
theorem dX7_laterBy_113 : decode cX7_laterBy 113 = .ok (.aload_n 0, 1) := by decide +kernel
theorem dX7_laterBy_114 : decode cX7_laterBy 114 = .ok (.iload 4, 2) := by decide +kernel
theorem dX7_laterBy_116 : decode cX7_laterBy 116 = .ok (.iload_n 1, 1) := by decide +kernel
theorem dX7_laterBy_117 : decode cX7_laterBy 117 = .ok (.invokevirtual 75, 3) := by decide +kernel
theorem dX7_laterBy_120 : decode cX7_laterBy 120 = .ok (.bipush 10, 2) := by decide +kernel
theorem dX7_laterBy_122 : decode cX7_laterBy 122 = .ok (.if_icmp .gt 7, 3) := by decide +kernel
theorem dX7_laterBy_125 : decode cX7_laterBy 125 = .ok (.iconst 1, 1) := by decide +kernel
theorem dX7_laterBy_126 : decode cX7_laterBy 126 = .ok (.goto 4, 3) := by decide +kernel
theorem dX7_laterBy_129 : decode cX7_laterBy 129 = .ok (.iconst 0, 1) := by decide +kernel
theorem dX7_laterBy_130 : decode cX7_laterBy 130 = .ok (.iadd, 1) := by decide +kernel
theorem dX7_laterBy_131 : decode cX7_laterBy 131 = .ok (.ireturn, 1) := by decide +kernel
theorem dX7_goesBy_0 : decode cX7_goesBy 0 = .ok (.iconst 0, 1) := by decide +kernel
theorem dX7_goesBy_1 : decode cX7_goesBy 1 = .ok (.istore_n 1, 1) := by decide +kernel
theorem dX7_goesBy_2 : decode cX7_goesBy 2 = .ok (.iload_n 1, 1) := by decide +kernel
theorem dX7_goesBy_3 : decode cX7_goesBy 3 = .ok (.aload_n 0, 1) := by decide +kernel
theorem dX7_goesBy_4 : decode cX7_goesBy 4 = .ok (.getfield 7, 3) := by decide +kernel
theorem dX7_goesBy_7 : decode cX7_goesBy 7 = .ok (.iconst 0, 1) := by decide +kernel
theorem dX7_goesBy_8 : decode cX7_goesBy 8 = .ok (.iaload, 1) := by decide +kernel
theorem dX7_goesBy_9 : decode cX7_goesBy 9 = .ok (.if_icmp .ge 20, 3) := by decide +kernel
theorem dX7_goesBy_12 : decode cX7_goesBy 12 = .ok (.aload_n 0, 1) := by decide +kernel
theorem dX7_goesBy_13 : decode cX7_goesBy 13 = .ok (.getfield 13, 3) := by decide +kernel
theorem dX7_goesBy_16 : decode cX7_goesBy 16 = .ok (.iload_n 1, 1) := by decide +kernel
theorem dX7_goesBy_17 : decode cX7_goesBy 17 = .ok (.aload_n 0, 1) := by decide +kernel
theorem dX7_goesBy_18 : decode cX7_goesBy 18 = .ok (.iload_n 1, 1) := by decide +kernel
theorem dX7_goesBy_19 : decode cX7_goesBy 19 = .ok (.invokevirtual 78, 3) := by decide +kernel
theorem dX7_goesBy_22 : decode cX7_goesBy 22 = .ok (.iastore, 1) := by decide +kernel
theorem dX7_goesBy_23 : decode cX7_goesBy 23 = .ok (.iinc 1 1, 3) := by decide +kernel
theorem dX7_goesBy_26 : decode cX7_goesBy 26 = .ok (.goto (-24), 3) := by decide +kernel
theorem dX7_goesBy_29 : decode cX7_goesBy 29 = .ok (.iconst 0, 1) := by decide +kernel
theorem dX7_goesBy_30 : decode cX7_goesBy 30 = .ok (.istore_n 1, 1) := by decide +kernel
theorem dX7_goesBy_31 : decode cX7_goesBy 31 = .ok (.iload_n 1, 1) := by decide +kernel
theorem dX7_goesBy_32 : decode cX7_goesBy 32 = .ok (.aload_n 0, 1) := by decide +kernel
theorem dX7_goesBy_33 : decode cX7_goesBy 33 = .ok (.getfield 7, 3) := by decide +kernel
theorem dX7_goesBy_36 : decode cX7_goesBy 36 = .ok (.iconst 0, 1) := by decide +kernel
theorem dX7_goesBy_37 : decode cX7_goesBy 37 = .ok (.iaload, 1) := by decide +kernel
theorem dX7_goesBy_38 : decode cX7_goesBy 38 = .ok (.if_icmp .ge 30, 3) := by decide +kernel
theorem dX7_goesBy_41 : decode cX7_goesBy 41 = .ok (.aload_n 0, 1) := by decide +kernel
theorem dX7_goesBy_42 : decode cX7_goesBy 42 = .ok (.iload_n 1, 1) := by decide +kernel
theorem dX7_goesBy_43 : decode cX7_goesBy 43 = .ok (.iconst 1, 1) := by decide +kernel
theorem dX7_goesBy_44 : decode cX7_goesBy 44 = .ok (.aload_n 0, 1) := by decide +kernel
theorem dX7_goesBy_45 : decode cX7_goesBy 45 = .ok (.iload_n 1, 1) := by decide +kernel
theorem dX7_goesBy_46 : decode cX7_goesBy 46 = .ok (.invokevirtual 65, 3) := by decide +kernel
theorem dX7_goesBy_49 : decode cX7_goesBy 49 = .ok (.aload_n 0, 1) := by decide +kernel
theorem dX7_goesBy_50 : decode cX7_goesBy 50 = .ok (.getfield 13, 3) := by decide +kernel
theorem dX7_goesBy_53 : decode cX7_goesBy 53 = .ok (.iload_n 1, 1) := by decide +kernel
theorem dX7_goesBy_54 : decode cX7_goesBy 54 = .ok (.iaload, 1) := by decide +kernel
theorem dX7_goesBy_55 : decode cX7_goesBy 55 = .ok (.iadd, 1) := by decide +kernel
theorem dX7_goesBy_56 : decode cX7_goesBy 56 = .ok (.invokestatic 61, 3) := by decide +kernel
theorem dX7_goesBy_59 : decode cX7_goesBy 59 = .ok (.invokevirtual 81, 3) := by decide +kernel
theorem dX7_goesBy_62 : decode cX7_goesBy 62 = .ok (.iinc 1 1, 3) := by decide +kernel
theorem dX7_goesBy_65 : decode cX7_goesBy 65 = .ok (.goto (-34), 3) := by decide +kernel
theorem dX7_goesBy_68 : decode cX7_goesBy 68 = .ok (.aload_n 0, 1) := by decide +kernel
theorem dX7_goesBy_69 : decode cX7_goesBy 69 = .ok (.getfield 7, 3) := by decide +kernel
theorem dX7_goesBy_72 : decode cX7_goesBy 72 = .ok (.iconst 1, 1) := by decide +kernel
theorem dX7_goesBy_73 : decode cX7_goesBy 73 = .ok (.dup2, 1) := by decide +kernel
theorem dX7_goesBy_74 : decode cX7_goesBy 74 = .ok (.iaload, 1) := by decide +kernel
theorem dX7_goesBy_75 : decode cX7_goesBy 75 = .ok (.iconst 1, 1) := by decide +kernel
theorem dX7_goesBy_76 : decode cX7_goesBy 76 = .ok (.iadd, 1) := by decide +kernel
theorem dX7_goesBy_77 : decode cX7_goesBy 77 = .ok (.iastore, 1) := by decide +kernel
theorem dX7_goesBy_78 : decode cX7_goesBy 78 = .ok (.return_, 1) := by decide +kernel
theorem dX7_goesOn_0 : decode cX7_goesOn 0 = .ok (.iconst 0, 1) := by decide +kernel
theorem dX7_goesOn_1 : decode cX7_goesOn 1 = .ok (.istore_n 2, 1) := by decide +kernel
theorem dX7_goesOn_2 : decode cX7_goesOn 2 = .ok (.iload_n 2, 1) := by decide +kernel
theorem dX7_goesOn_3 : decode cX7_goesOn 3 = .ok (.iload_n 1, 1) := by decide +kernel
theorem dX7_goesOn_4 : decode cX7_goesOn 4 = .ok (.if_icmp .ge 13, 3) := by decide +kernel
theorem dX7_goesOn_7 : decode cX7_goesOn 7 = .ok (.aload_n 0, 1) := by decide +kernel
theorem dX7_goesOn_8 : decode cX7_goesOn 8 = .ok (.invokevirtual 85, 3) := by decide +kernel
theorem dX7_goesOn_11 : decode cX7_goesOn 11 = .ok (.iinc 2 1, 3) := by decide +kernel
theorem dX7_goesOn_14 : decode cX7_goesOn 14 = .ok (.goto (-12), 3) := by decide +kernel
theorem dX7_goesOn_17 : decode cX7_goesOn 17 = .ok (.return_, 1) := by decide +kernel
theorem dX7_leastGap_0 : decode cX7_leastGap 0 = .ok (.bipush 30, 2) := by decide +kernel
theorem dX7_leastGap_2 : decode cX7_leastGap 2 = .ok (.istore_n 1, 1) := by decide +kernel
theorem dX7_leastGap_3 : decode cX7_leastGap 3 = .ok (.iconst 0, 1) := by decide +kernel
theorem dX7_leastGap_4 : decode cX7_leastGap 4 = .ok (.istore_n 2, 1) := by decide +kernel
theorem dX7_leastGap_5 : decode cX7_leastGap 5 = .ok (.iload_n 2, 1) := by decide +kernel
theorem dX7_leastGap_6 : decode cX7_leastGap 6 = .ok (.aload_n 0, 1) := by decide +kernel
theorem dX7_leastGap_7 : decode cX7_leastGap 7 = .ok (.getfield 7, 3) := by decide +kernel
theorem dX7_leastGap_10 : decode cX7_leastGap 10 = .ok (.iconst 0, 1) := by decide +kernel
theorem dX7_leastGap_11 : decode cX7_leastGap 11 = .ok (.iaload, 1) := by decide +kernel
theorem dX7_leastGap_12 : decode cX7_leastGap 12 = .ok (.if_icmp .ge 50, 3) := by decide +kernel
theorem dX7_leastGap_15 : decode cX7_leastGap 15 = .ok (.iconst 0, 1) := by decide +kernel
theorem dX7_leastGap_16 : decode cX7_leastGap 16 = .ok (.istore_n 3, 1) := by decide +kernel
theorem dX7_leastGap_17 : decode cX7_leastGap 17 = .ok (.iload_n 3, 1) := by decide +kernel
theorem dX7_leastGap_18 : decode cX7_leastGap 18 = .ok (.iload_n 2, 1) := by decide +kernel
theorem dX7_leastGap_19 : decode cX7_leastGap 19 = .ok (.if_icmp .ge 37, 3) := by decide +kernel
theorem dX7_leastGap_22 : decode cX7_leastGap 22 = .ok (.aload_n 0, 1) := by decide +kernel
theorem dX7_leastGap_23 : decode cX7_leastGap 23 = .ok (.iload_n 2, 1) := by decide +kernel
theorem dX7_leastGap_24 : decode cX7_leastGap 24 = .ok (.invokevirtual 65, 3) := by decide +kernel
theorem dX7_leastGap_27 : decode cX7_leastGap 27 = .ok (.aload_n 0, 1) := by decide +kernel
theorem dX7_leastGap_28 : decode cX7_leastGap 28 = .ok (.iload_n 3, 1) := by decide +kernel
theorem dX7_leastGap_29 : decode cX7_leastGap 29 = .ok (.invokevirtual 65, 3) := by decide +kernel
theorem dX7_leastGap_32 : decode cX7_leastGap 32 = .ok (.invokestatic 68, 3) := by decide +kernel
theorem dX7_leastGap_35 : decode cX7_leastGap 35 = .ok (.istore 4, 2) := by decide +kernel
theorem dX7_leastGap_37 : decode cX7_leastGap 37 = .ok (.iload 4, 2) := by decide +kernel
theorem dX7_leastGap_39 : decode cX7_leastGap 39 = .ok (.iload_n 1, 1) := by decide +kernel
theorem dX7_leastGap_40 : decode cX7_leastGap 40 = .ok (.if_icmp .ge 8, 3) := by decide +kernel
theorem dX7_leastGap_43 : decode cX7_leastGap 43 = .ok (.iload 4, 2) := by decide +kernel
theorem dX7_leastGap_45 : decode cX7_leastGap 45 = .ok (.goto 4, 3) := by decide +kernel
theorem dX7_leastGap_48 : decode cX7_leastGap 48 = .ok (.iload_n 1, 1) := by decide +kernel
theorem dX7_leastGap_49 : decode cX7_leastGap 49 = .ok (.istore_n 1, 1) := by decide +kernel
theorem dX7_leastGap_50 : decode cX7_leastGap 50 = .ok (.iinc 3 1, 3) := by decide +kernel
theorem dX7_leastGap_53 : decode cX7_leastGap 53 = .ok (.goto (-36), 3) := by decide +kernel
theorem dX7_leastGap_56 : decode cX7_leastGap 56 = .ok (.iinc 2 1, 3) := by decide +kernel
theorem dX7_leastGap_59 : decode cX7_leastGap 59 = .ok (.goto (-54), 3) := by decide +kernel
theorem dX7_leastGap_62 : decode cX7_leastGap 62 = .ok (.iload_n 1, 1) := by decide +kernel
theorem dX7_leastGap_63 : decode cX7_leastGap 63 = .ok (.ireturn, 1) := by decide +kernel
theorem dX7_alike_0 : decode cX7_alike 0 = .ok (.iconst 0, 1) := by decide +kernel
theorem dX7_alike_1 : decode cX7_alike 1 = .ok (.istore_n 2, 1) := by decide +kernel
theorem dX7_alike_2 : decode cX7_alike 2 = .ok (.iconst 0, 1) := by decide +kernel
theorem dX7_alike_3 : decode cX7_alike 3 = .ok (.istore_n 3, 1) := by decide +kernel
theorem dX7_alike_4 : decode cX7_alike 4 = .ok (.iload_n 3, 1) := by decide +kernel
theorem dX7_alike_5 : decode cX7_alike 5 = .ok (.aload_n 0, 1) := by decide +kernel
theorem dX7_alike_6 : decode cX7_alike 6 = .ok (.getfield 7, 3) := by decide +kernel
theorem dX7_alike_9 : decode cX7_alike 9 = .ok (.iconst 0, 1) := by decide +kernel
theorem dX7_alike_10 : decode cX7_alike 10 = .ok (.iaload, 1) := by decide +kernel
theorem dX7_alike_11 : decode cX7_alike 11 = .ok (.if_icmp .ge 37, 3) := by decide +kernel
theorem dX7_alike_14 : decode cX7_alike 14 = .ok (.iload_n 2, 1) := by decide +kernel
theorem dX7_alike_15 : decode cX7_alike 15 = .ok (.iload_n 3, 1) := by decide +kernel
theorem dX7_alike_16 : decode cX7_alike 16 = .ok (.iload_n 1, 1) := by decide +kernel
theorem dX7_alike_17 : decode cX7_alike 17 = .ok (.if_icmp .eq 22, 3) := by decide +kernel
theorem dX7_alike_20 : decode cX7_alike 20 = .ok (.aload_n 0, 1) := by decide +kernel
theorem dX7_alike_21 : decode cX7_alike 21 = .ok (.iload_n 3, 1) := by decide +kernel
theorem dX7_alike_22 : decode cX7_alike 22 = .ok (.invokevirtual 65, 3) := by decide +kernel
theorem dX7_alike_25 : decode cX7_alike 25 = .ok (.aload_n 0, 1) := by decide +kernel
theorem dX7_alike_26 : decode cX7_alike 26 = .ok (.iload_n 1, 1) := by decide +kernel
theorem dX7_alike_27 : decode cX7_alike 27 = .ok (.invokevirtual 65, 3) := by decide +kernel
theorem dX7_alike_30 : decode cX7_alike 30 = .ok (.if_icmp .ne 9, 3) := by decide +kernel
theorem dX7_alike_33 : decode cX7_alike 33 = .ok (.iconst 1, 1) := by decide +kernel
theorem dX7_alike_34 : decode cX7_alike 34 = .ok (.iload_n 3, 1) := by decide +kernel
theorem dX7_alike_35 : decode cX7_alike 35 = .ok (.ishl, 1) := by decide +kernel
theorem dX7_alike_36 : decode cX7_alike 36 = .ok (.goto 4, 3) := by decide +kernel
theorem dX7_alike_39 : decode cX7_alike 39 = .ok (.iconst 0, 1) := by decide +kernel
theorem dX7_alike_40 : decode cX7_alike 40 = .ok (.ior, 1) := by decide +kernel
theorem dX7_alike_41 : decode cX7_alike 41 = .ok (.istore_n 2, 1) := by decide +kernel
theorem dX7_alike_42 : decode cX7_alike 42 = .ok (.iinc 3 1, 3) := by decide +kernel
theorem dX7_alike_45 : decode cX7_alike 45 = .ok (.goto (-41), 3) := by decide +kernel
theorem dX7_alike_48 : decode cX7_alike 48 = .ok (.iload_n 2, 1) := by decide +kernel
theorem dX7_alike_49 : decode cX7_alike 49 = .ok (.ireturn, 1) := by decide +kernel
theorem dX7_allAlike_0 : decode cX7_allAlike 0 = .ok (.iconst 0, 1) := by decide +kernel
theorem dX7_allAlike_1 : decode cX7_allAlike 1 = .ok (.istore_n 1, 1) := by decide +kernel
theorem dX7_allAlike_2 : decode cX7_allAlike 2 = .ok (.iconst 0, 1) := by decide +kernel
theorem dX7_allAlike_3 : decode cX7_allAlike 3 = .ok (.istore_n 2, 1) := by decide +kernel
theorem dX7_allAlike_4 : decode cX7_allAlike 4 = .ok (.iload_n 2, 1) := by decide +kernel
theorem dX7_allAlike_5 : decode cX7_allAlike 5 = .ok (.aload_n 0, 1) := by decide +kernel
theorem dX7_allAlike_6 : decode cX7_allAlike 6 = .ok (.getfield 7, 3) := by decide +kernel
theorem dX7_allAlike_9 : decode cX7_allAlike 9 = .ok (.iconst 0, 1) := by decide +kernel
theorem dX7_allAlike_10 : decode cX7_allAlike 10 = .ok (.iaload, 1) := by decide +kernel
theorem dX7_allAlike_11 : decode cX7_allAlike 11 = .ok (.if_icmp .ge 27, 3) := by decide +kernel
theorem dX7_allAlike_14 : decode cX7_allAlike 14 = .ok (.iload_n 1, 1) := by decide +kernel
theorem dX7_allAlike_15 : decode cX7_allAlike 15 = .ok (.aload_n 0, 1) := by decide +kernel
theorem dX7_allAlike_16 : decode cX7_allAlike 16 = .ok (.iload_n 2, 1) := by decide +kernel
theorem dX7_allAlike_17 : decode cX7_allAlike 17 = .ok (.invokevirtual 88, 3) := by decide +kernel
theorem dX7_allAlike_20 : decode cX7_allAlike 20 = .ok (.ifCond .eq 9, 3) := by decide +kernel
theorem dX7_allAlike_23 : decode cX7_allAlike 23 = .ok (.iconst 1, 1) := by decide +kernel
theorem dX7_allAlike_24 : decode cX7_allAlike 24 = .ok (.iload_n 2, 1) := by decide +kernel
theorem dX7_allAlike_25 : decode cX7_allAlike 25 = .ok (.ishl, 1) := by decide +kernel
theorem dX7_allAlike_26 : decode cX7_allAlike 26 = .ok (.goto 4, 3) := by decide +kernel
theorem dX7_allAlike_29 : decode cX7_allAlike 29 = .ok (.iconst 0, 1) := by decide +kernel
theorem dX7_allAlike_30 : decode cX7_allAlike 30 = .ok (.ior, 1) := by decide +kernel
theorem dX7_allAlike_31 : decode cX7_allAlike 31 = .ok (.istore_n 1, 1) := by decide +kernel
theorem dX7_allAlike_32 : decode cX7_allAlike 32 = .ok (.iinc 2 1, 3) := by decide +kernel
theorem dX7_allAlike_35 : decode cX7_allAlike 35 = .ok (.goto (-31), 3) := by decide +kernel
theorem dX7_allAlike_38 : decode cX7_allAlike 38 = .ok (.iload_n 1, 1) := by decide +kernel
theorem dX7_allAlike_39 : decode cX7_allAlike 39 = .ok (.ireturn, 1) := by decide +kernel
theorem dX7_villageComes_0 : decode cX7_villageComes 0 = .ok (.aload_n 0, 1) := by decide +kernel
theorem dX7_villageComes_1 : decode cX7_villageComes 1 = .ok (.getfield 7, 3) := by decide +kernel
theorem dX7_villageComes_4 : decode cX7_villageComes 4 = .ok (.iconst 0, 1) := by decide +kernel
theorem dX7_villageComes_5 : decode cX7_villageComes 5 = .ok (.iaload, 1) := by decide +kernel
theorem dX7_villageComes_6 : decode cX7_villageComes 6 = .ok (.istore 5, 2) := by decide +kernel
theorem dX7_villageComes_8 : decode cX7_villageComes 8 = .ok (.aload_n 0, 1) := by decide +kernel
theorem dX7_villageComes_9 : decode cX7_villageComes 9 = .ok (.iload 5, 2) := by decide +kernel
theorem dX7_villageComes_11 : decode cX7_villageComes 11 = .ok (.iconst 0, 1) := by decide +kernel
theorem dX7_villageComes_12 : decode cX7_villageComes 12 = .ok (.iload_n 1, 1) := by decide +kernel
theorem dX7_villageComes_13 : decode cX7_villageComes 13 = .ok (.invokevirtual 81, 3) := by decide +kernel
theorem dX7_villageComes_16 : decode cX7_villageComes 16 = .ok (.aload_n 0, 1) := by decide +kernel
theorem dX7_villageComes_17 : decode cX7_villageComes 17 = .ok (.iload 5, 2) := by decide +kernel
theorem dX7_villageComes_19 : decode cX7_villageComes 19 = .ok (.iconst 1, 1) := by decide +kernel
theorem dX7_villageComes_20 : decode cX7_villageComes 20 = .ok (.iload_n 2, 1) := by decide +kernel
theorem dX7_villageComes_21 : decode cX7_villageComes 21 = .ok (.invokevirtual 81, 3) := by decide +kernel
theorem dX7_villageComes_24 : decode cX7_villageComes 24 = .ok (.aload_n 0, 1) := by decide +kernel
theorem dX7_villageComes_25 : decode cX7_villageComes 25 = .ok (.iload 5, 2) := by decide +kernel
theorem dX7_villageComes_27 : decode cX7_villageComes 27 = .ok (.iconst 2, 1) := by decide +kernel
theorem dX7_villageComes_28 : decode cX7_villageComes 28 = .ok (.iload_n 3, 1) := by decide +kernel
theorem dX7_villageComes_29 : decode cX7_villageComes 29 = .ok (.invokevirtual 81, 3) := by decide +kernel
theorem dX7_villageComes_32 : decode cX7_villageComes 32 = .ok (.aload_n 0, 1) := by decide +kernel
theorem dX7_villageComes_33 : decode cX7_villageComes 33 = .ok (.iload 5, 2) := by decide +kernel
theorem dX7_villageComes_35 : decode cX7_villageComes 35 = .ok (.iconst 3, 1) := by decide +kernel
theorem dX7_villageComes_36 : decode cX7_villageComes 36 = .ok (.iload 4, 2) := by decide +kernel
theorem dX7_villageComes_38 : decode cX7_villageComes 38 = .ok (.invokevirtual 81, 3) := by decide +kernel
theorem dX7_villageComes_41 : decode cX7_villageComes 41 = .ok (.aload_n 0, 1) := by decide +kernel
theorem dX7_villageComes_42 : decode cX7_villageComes 42 = .ok (.getfield 7, 3) := by decide +kernel
theorem dX7_villageComes_45 : decode cX7_villageComes 45 = .ok (.iconst 0, 1) := by decide +kernel
theorem dX7_villageComes_46 : decode cX7_villageComes 46 = .ok (.dup2, 1) := by decide +kernel
theorem dX7_villageComes_47 : decode cX7_villageComes 47 = .ok (.iaload, 1) := by decide +kernel
theorem dX7_villageComes_48 : decode cX7_villageComes 48 = .ok (.iconst 1, 1) := by decide +kernel
theorem dX7_villageComes_49 : decode cX7_villageComes 49 = .ok (.iadd, 1) := by decide +kernel
theorem dX7_villageComes_50 : decode cX7_villageComes 50 = .ok (.iastore, 1) := by decide +kernel
theorem dX7_villageComes_51 : decode cX7_villageComes 51 = .ok (.aload_n 0, 1) := by decide +kernel
theorem dX7_villageComes_52 : decode cX7_villageComes 52 = .ok (.iconst 0, 1) := by decide +kernel
theorem dX7_villageComes_53 : decode cX7_villageComes 53 = .ok (.putfield 91, 3) := by decide +kernel
theorem dX7_villageComes_56 : decode cX7_villageComes 56 = .ok (.return_, 1) := by decide +kernel
theorem dX7_village_0 : decode cX7_village 0 = .ok (.iload_n 1, 1) := by decide +kernel
theorem dX7_village_1 : decode cX7_village 1 = .ok (.i2l, 1) := by decide +kernel
theorem dX7_village_2 : decode cX7_village 2 = .ok (.lconst 0, 1) := by decide +kernel
theorem dX7_village_3 : decode cX7_village 3 = .ok (.ldc2_w 95, 3) := by decide +kernel
theorem dX7_village_6 : decode cX7_village 6 = .ok (.invokestatic 53, 3) := by decide +kernel
theorem dX7_village_9 : decode cX7_village 9 = .ok (.ifCond .eq 29, 3) := by decide +kernel
theorem dX7_village_12 : decode cX7_village 12 = .ok (.iload_n 2, 1) := by decide +kernel
theorem dX7_village_13 : decode cX7_village 13 = .ok (.i2l, 1) := by decide +kernel
theorem dX7_village_14 : decode cX7_village 14 = .ok (.lconst 0, 1) := by decide +kernel
theorem dX7_village_15 : decode cX7_village 15 = .ok (.ldc2_w 97, 3) := by decide +kernel
theorem dX7_village_18 : decode cX7_village 18 = .ok (.invokestatic 53, 3) := by decide +kernel
theorem dX7_village_21 : decode cX7_village 21 = .ok (.ifCond .eq 17, 3) := by decide +kernel
theorem dX7_village_24 : decode cX7_village 24 = .ok (.iload_n 3, 1) := by decide +kernel
theorem dX7_village_25 : decode cX7_village 25 = .ok (.i2l, 1) := by decide +kernel
theorem dX7_village_26 : decode cX7_village 26 = .ok (.ldc2_w 99, 3) := by decide +kernel
theorem dX7_village_29 : decode cX7_village 29 = .ok (.ldc2_w 101, 3) := by decide +kernel
theorem dX7_village_32 : decode cX7_village 32 = .ok (.invokestatic 53, 3) := by decide +kernel
theorem dX7_village_35 : decode cX7_village 35 = .ok (.ifCond .ne 5, 3) := by decide +kernel
theorem dX7_village_38 : decode cX7_village 38 = .ok (.iconst (-1), 1) := by decide +kernel
theorem dX7_village_39 : decode cX7_village 39 = .ok (.ireturn, 1) := by decide +kernel
theorem dX7_village_40 : decode cX7_village 40 = .ok (.aload_n 0, 1) := by decide +kernel
theorem dX7_village_41 : decode cX7_village 41 = .ok (.getfield 7, 3) := by decide +kernel
theorem dX7_village_44 : decode cX7_village 44 = .ok (.iconst 0, 1) := by decide +kernel
theorem dX7_village_45 : decode cX7_village 45 = .ok (.iaload, 1) := by decide +kernel
theorem dX7_village_46 : decode cX7_village 46 = .ok (.bipush 6, 2) := by decide +kernel
theorem dX7_village_48 : decode cX7_village 48 = .ok (.if_icmp .ne 6, 3) := by decide +kernel
theorem dX7_village_51 : decode cX7_village 51 = .ok (.bipush (-3), 2) := by decide +kernel
theorem dX7_village_53 : decode cX7_village 53 = .ok (.ireturn, 1) := by decide +kernel
theorem dX7_village_54 : decode cX7_village 54 = .ok (.aload_n 0, 1) := by decide +kernel
theorem dX7_village_55 : decode cX7_village 55 = .ok (.iload_n 1, 1) := by decide +kernel
theorem dX7_village_56 : decode cX7_village 56 = .ok (.iload_n 2, 1) := by decide +kernel
theorem dX7_village_57 : decode cX7_village 57 = .ok (.iload_n 3, 1) := by decide +kernel
theorem dX7_village_58 : decode cX7_village 58 = .ok (.iconst 0, 1) := by decide +kernel
theorem dX7_village_59 : decode cX7_village 59 = .ok (.invokevirtual 103, 3) := by decide +kernel
theorem dX7_village_62 : decode cX7_village 62 = .ok (.aload_n 0, 1) := by decide +kernel
theorem dX7_village_63 : decode cX7_village 63 = .ok (.getfield 7, 3) := by decide +kernel
theorem dX7_village_66 : decode cX7_village 66 = .ok (.iconst 0, 1) := by decide +kernel
theorem dX7_village_67 : decode cX7_village 67 = .ok (.iaload, 1) := by decide +kernel
theorem dX7_village_68 : decode cX7_village 68 = .ok (.iconst 1, 1) := by decide +kernel
theorem dX7_village_69 : decode cX7_village 69 = .ok (.isub, 1) := by decide +kernel
theorem dX7_village_70 : decode cX7_village 70 = .ok (.ireturn, 1) := by decide +kernel
theorem dX7_of_0 : decode cX7_of 0 = .ok (.aload_n 0, 1) := by decide +kernel
theorem dX7_of_1 : decode cX7_of 1 = .ok (.iload_n 1, 1) := by decide +kernel
theorem dX7_of_2 : decode cX7_of 2 = .ok (.invokevirtual 107, 3) := by decide +kernel
theorem dX7_of_5 : decode cX7_of 5 = .ok (.ifCond .ne 5, 3) := by decide +kernel
theorem dX7_of_8 : decode cX7_of 8 = .ok (.iconst (-1), 1) := by decide +kernel
theorem dX7_of_9 : decode cX7_of 9 = .ok (.ireturn, 1) := by decide +kernel
theorem dX7_of_10 : decode cX7_of 10 = .ok (.iload_n 2, 1) := by decide +kernel
theorem dX7_of_11 : decode cX7_of 11 = .ok (.tableswitch 69 0 5 #[37, 37, 44, 37, 54, 63], 37) := by decide +kernel
theorem dX7_of_48 : decode cX7_of 48 = .ok (.aload_n 0, 1) := by decide +kernel
theorem dX7_of_49 : decode cX7_of 49 = .ok (.iload_n 1, 1) := by decide +kernel
theorem dX7_of_50 : decode cX7_of 50 = .ok (.iload_n 2, 1) := by decide +kernel
theorem dX7_of_51 : decode cX7_of 51 = .ok (.invokevirtual 57, 3) := by decide +kernel
theorem dX7_of_54 : decode cX7_of 54 = .ok (.ireturn, 1) := by decide +kernel
theorem dX7_of_55 : decode cX7_of 55 = .ok (.aload_n 0, 1) := by decide +kernel
theorem dX7_of_56 : decode cX7_of 56 = .ok (.iload_n 1, 1) := by decide +kernel
theorem dX7_of_57 : decode cX7_of 57 = .ok (.iconst 2, 1) := by decide +kernel
theorem dX7_of_58 : decode cX7_of 58 = .ok (.invokevirtual 57, 3) := by decide +kernel
theorem dX7_of_61 : decode cX7_of 61 = .ok (.bipush 9, 2) := by decide +kernel
theorem dX7_of_63 : decode cX7_of 63 = .ok (.iadd, 1) := by decide +kernel
theorem dX7_of_64 : decode cX7_of 64 = .ok (.ireturn, 1) := by decide +kernel
theorem dX7_of_65 : decode cX7_of 65 = .ok (.aload_n 0, 1) := by decide +kernel
theorem dX7_of_66 : decode cX7_of 66 = .ok (.iload_n 1, 1) := by decide +kernel
theorem dX7_of_67 : decode cX7_of 67 = .ok (.invokevirtual 78, 3) := by decide +kernel
theorem dX7_of_70 : decode cX7_of 70 = .ok (.bipush 30, 2) := by decide +kernel
theorem dX7_of_72 : decode cX7_of 72 = .ok (.iadd, 1) := by decide +kernel
theorem dX7_of_73 : decode cX7_of 73 = .ok (.ireturn, 1) := by decide +kernel
theorem dX7_of_74 : decode cX7_of 74 = .ok (.aload_n 0, 1) := by decide +kernel
theorem dX7_of_75 : decode cX7_of 75 = .ok (.iload_n 1, 1) := by decide +kernel
theorem dX7_of_76 : decode cX7_of 76 = .ok (.invokevirtual 88, 3) := by decide +kernel
theorem dX7_of_79 : decode cX7_of 79 = .ok (.ireturn, 1) := by decide +kernel
theorem dX7_of_80 : decode cX7_of 80 = .ok (.iconst (-1), 1) := by decide +kernel
theorem dX7_of_81 : decode cX7_of 81 = .ok (.ireturn, 1) := by decide +kernel
theorem dX7_areTwo_0 : decode cX7_areTwo 0 = .ok (.aload_n 0, 1) := by decide +kernel
theorem dX7_areTwo_1 : decode cX7_areTwo 1 = .ok (.iload_n 1, 1) := by decide +kernel
theorem dX7_areTwo_2 : decode cX7_areTwo 2 = .ok (.invokevirtual 107, 3) := by decide +kernel
theorem dX7_areTwo_5 : decode cX7_areTwo 5 = .ok (.ifCond .eq 20, 3) := by decide +kernel
theorem dX7_areTwo_8 : decode cX7_areTwo 8 = .ok (.aload_n 0, 1) := by decide +kernel
theorem dX7_areTwo_9 : decode cX7_areTwo 9 = .ok (.iload_n 2, 1) := by decide +kernel
theorem dX7_areTwo_10 : decode cX7_areTwo 10 = .ok (.invokevirtual 107, 3) := by decide +kernel
theorem dX7_areTwo_13 : decode cX7_areTwo 13 = .ok (.ifCond .eq 12, 3) := by decide +kernel
theorem dX7_areTwo_16 : decode cX7_areTwo 16 = .ok (.iload_n 1, 1) := by decide +kernel
theorem dX7_areTwo_17 : decode cX7_areTwo 17 = .ok (.iload_n 2, 1) := by decide +kernel
theorem dX7_areTwo_18 : decode cX7_areTwo 18 = .ok (.if_icmp .eq 7, 3) := by decide +kernel
theorem dX7_areTwo_21 : decode cX7_areTwo 21 = .ok (.iconst 1, 1) := by decide +kernel
theorem dX7_areTwo_22 : decode cX7_areTwo 22 = .ok (.goto 4, 3) := by decide +kernel
theorem dX7_areTwo_25 : decode cX7_areTwo 25 = .ok (.iconst 0, 1) := by decide +kernel
theorem dX7_areTwo_26 : decode cX7_areTwo 26 = .ok (.ireturn, 1) := by decide +kernel
theorem dX7_gap_0 : decode cX7_gap 0 = .ok (.aload_n 0, 1) := by decide +kernel
theorem dX7_gap_1 : decode cX7_gap 1 = .ok (.iload_n 1, 1) := by decide +kernel
theorem dX7_gap_2 : decode cX7_gap 2 = .ok (.iload_n 2, 1) := by decide +kernel
theorem dX7_gap_3 : decode cX7_gap 3 = .ok (.invokevirtual 110, 3) := by decide +kernel
theorem dX7_gap_6 : decode cX7_gap 6 = .ok (.ifCond .eq 19, 3) := by decide +kernel
theorem dX7_gap_9 : decode cX7_gap 9 = .ok (.aload_n 0, 1) := by decide +kernel
theorem dX7_gap_10 : decode cX7_gap 10 = .ok (.iload_n 1, 1) := by decide +kernel
theorem dX7_gap_11 : decode cX7_gap 11 = .ok (.invokevirtual 65, 3) := by decide +kernel
end
section
theorem dX7_gap_14 : decode cX7_gap 14 = .ok (.aload_n 0, 1) := by decide +kernel
theorem dX7_gap_15 : decode cX7_gap 15 = .ok (.iload_n 2, 1) := by decide +kernel
theorem dX7_gap_16 : decode cX7_gap 16 = .ok (.invokevirtual 65, 3) := by decide +kernel
theorem dX7_gap_19 : decode cX7_gap 19 = .ok (.invokestatic 68, 3) := by decide +kernel
theorem dX7_gap_22 : decode cX7_gap 22 = .ok (.goto 4, 3) := by decide +kernel
theorem dX7_gap_25 : decode cX7_gap 25 = .ok (.iconst (-1), 1) := by decide +kernel
theorem dX7_gap_26 : decode cX7_gap 26 = .ok (.ireturn, 1) := by decide +kernel
theorem dX7_sumOf_0 : decode cX7_sumOf 0 = .ok (.iconst 0, 1) := by decide +kernel
theorem dX7_sumOf_1 : decode cX7_sumOf 1 = .ok (.istore_n 2, 1) := by decide +kernel
theorem dX7_sumOf_2 : decode cX7_sumOf 2 = .ok (.iconst 0, 1) := by decide +kernel
theorem dX7_sumOf_3 : decode cX7_sumOf 3 = .ok (.istore_n 3, 1) := by decide +kernel
theorem dX7_sumOf_4 : decode cX7_sumOf 4 = .ok (.iload_n 3, 1) := by decide +kernel
theorem dX7_sumOf_5 : decode cX7_sumOf 5 = .ok (.aload_n 0, 1) := by decide +kernel
theorem dX7_sumOf_6 : decode cX7_sumOf 6 = .ok (.getfield 7, 3) := by decide +kernel
theorem dX7_sumOf_9 : decode cX7_sumOf 9 = .ok (.iconst 0, 1) := by decide +kernel
theorem dX7_sumOf_10 : decode cX7_sumOf 10 = .ok (.iaload, 1) := by decide +kernel
theorem dX7_sumOf_11 : decode cX7_sumOf 11 = .ok (.if_icmp .ge 18, 3) := by decide +kernel
theorem dX7_sumOf_14 : decode cX7_sumOf 14 = .ok (.iload_n 2, 1) := by decide +kernel
theorem dX7_sumOf_15 : decode cX7_sumOf 15 = .ok (.aload_n 0, 1) := by decide +kernel
theorem dX7_sumOf_16 : decode cX7_sumOf 16 = .ok (.iload_n 3, 1) := by decide +kernel
theorem dX7_sumOf_17 : decode cX7_sumOf 17 = .ok (.iload_n 1, 1) := by decide +kernel
theorem dX7_sumOf_18 : decode cX7_sumOf 18 = .ok (.invokevirtual 57, 3) := by decide +kernel
theorem dX7_sumOf_21 : decode cX7_sumOf 21 = .ok (.iadd, 1) := by decide +kernel
theorem dX7_sumOf_22 : decode cX7_sumOf 22 = .ok (.istore_n 2, 1) := by decide +kernel
theorem dX7_sumOf_23 : decode cX7_sumOf 23 = .ok (.iinc 3 1, 3) := by decide +kernel
theorem dX7_sumOf_26 : decode cX7_sumOf 26 = .ok (.goto (-22), 3) := by decide +kernel
theorem dX7_sumOf_29 : decode cX7_sumOf 29 = .ok (.iload_n 2, 1) := by decide +kernel
theorem dX7_sumOf_30 : decode cX7_sumOf 30 = .ok (.ireturn, 1) := by decide +kernel
theorem dX7_count_0 : decode cX7_count 0 = .ok (.iload_n 1, 1) := by decide +kernel
theorem dX7_count_1 : decode cX7_count 1 = .ok (.tableswitch 77 0 6 #[43, 43, 50, 55, 60, 66, 72], 43) := by decide +kernel
theorem dX7_count_44 : decode cX7_count 44 = .ok (.aload_n 0, 1) := by decide +kernel
theorem dX7_count_45 : decode cX7_count 45 = .ok (.getfield 7, 3) := by decide +kernel
theorem dX7_count_48 : decode cX7_count 48 = .ok (.iload_n 1, 1) := by decide +kernel
theorem dX7_count_49 : decode cX7_count 49 = .ok (.iaload, 1) := by decide +kernel
theorem dX7_count_50 : decode cX7_count 50 = .ok (.ireturn, 1) := by decide +kernel
theorem dX7_count_51 : decode cX7_count 51 = .ok (.aload_n 0, 1) := by decide +kernel
theorem dX7_count_52 : decode cX7_count 52 = .ok (.invokevirtual 114, 3) := by decide +kernel
theorem dX7_count_55 : decode cX7_count 55 = .ok (.ireturn, 1) := by decide +kernel
theorem dX7_count_56 : decode cX7_count 56 = .ok (.aload_n 0, 1) := by decide +kernel
theorem dX7_count_57 : decode cX7_count 57 = .ok (.invokevirtual 118, 3) := by decide +kernel
theorem dX7_count_60 : decode cX7_count 60 = .ok (.ireturn, 1) := by decide +kernel
theorem dX7_count_61 : decode cX7_count 61 = .ok (.aload_n 0, 1) := by decide +kernel
theorem dX7_count_62 : decode cX7_count 62 = .ok (.iconst 1, 1) := by decide +kernel
theorem dX7_count_63 : decode cX7_count 63 = .ok (.invokevirtual 121, 3) := by decide +kernel
theorem dX7_count_66 : decode cX7_count 66 = .ok (.ireturn, 1) := by decide +kernel
theorem dX7_count_67 : decode cX7_count 67 = .ok (.aload_n 0, 1) := by decide +kernel
theorem dX7_count_68 : decode cX7_count 68 = .ok (.iconst 3, 1) := by decide +kernel
theorem dX7_count_69 : decode cX7_count 69 = .ok (.invokevirtual 121, 3) := by decide +kernel
theorem dX7_count_72 : decode cX7_count 72 = .ok (.ireturn, 1) := by decide +kernel
theorem dX7_count_73 : decode cX7_count 73 = .ok (.aload_n 0, 1) := by decide +kernel
theorem dX7_count_74 : decode cX7_count 74 = .ok (.getfield 91, 3) := by decide +kernel
theorem dX7_count_77 : decode cX7_count 77 = .ok (.ireturn, 1) := by decide +kernel
theorem dX7_count_78 : decode cX7_count 78 = .ok (.iconst (-1), 1) := by decide +kernel
theorem dX7_count_79 : decode cX7_count 79 = .ok (.ireturn, 1) := by decide +kernel
theorem dX7_type_0 : decode cX7_type 0 = .ok (.iload_n 1, 1) := by decide +kernel
theorem dX7_type_1 : decode cX7_type 1 = .ok (.i2l, 1) := by decide +kernel
theorem dX7_type_2 : decode cX7_type 2 = .ok (.ldc2_w 124, 3) := by decide +kernel
theorem dX7_type_5 : decode cX7_type 5 = .ok (.ldc2_w 126, 3) := by decide +kernel
theorem dX7_type_8 : decode cX7_type 8 = .ok (.invokestatic 53, 3) := by decide +kernel
theorem dX7_type_11 : decode cX7_type 11 = .ok (.ifCond .ne 5, 3) := by decide +kernel
theorem dX7_type_14 : decode cX7_type 14 = .ok (.iconst (-1), 1) := by decide +kernel
theorem dX7_type_15 : decode cX7_type 15 = .ok (.ireturn, 1) := by decide +kernel
theorem dX7_type_16 : decode cX7_type 16 = .ok (.aload_n 0, 1) := by decide +kernel
theorem dX7_type_17 : decode cX7_type 17 = .ok (.getfield 128, 3) := by decide +kernel
theorem dX7_type_20 : decode cX7_type 20 = .ok (.bipush 60, 2) := by decide +kernel
theorem dX7_type_22 : decode cX7_type 22 = .ok (.if_icmp .ne 6, 3) := by decide +kernel
theorem dX7_type_25 : decode cX7_type 25 = .ok (.bipush (-3), 2) := by decide +kernel
theorem dX7_type_27 : decode cX7_type 27 = .ok (.ireturn, 1) := by decide +kernel
theorem dX7_type_28 : decode cX7_type 28 = .ok (.aload_n 0, 1) := by decide +kernel
theorem dX7_type_29 : decode cX7_type 29 = .ok (.getfield 16, 3) := by decide +kernel
theorem dX7_type_32 : decode cX7_type 32 = .ok (.aload_n 0, 1) := by decide +kernel
theorem dX7_type_33 : decode cX7_type 33 = .ok (.getfield 128, 3) := by decide +kernel
theorem dX7_type_36 : decode cX7_type 36 = .ok (.iload_n 1, 1) := by decide +kernel
theorem dX7_type_37 : decode cX7_type 37 = .ok (.iastore, 1) := by decide +kernel
theorem dX7_type_38 : decode cX7_type 38 = .ok (.aload_n 0, 1) := by decide +kernel
theorem dX7_type_39 : decode cX7_type 39 = .ok (.dup, 1) := by decide +kernel
theorem dX7_type_40 : decode cX7_type 40 = .ok (.getfield 128, 3) := by decide +kernel
theorem dX7_type_43 : decode cX7_type 43 = .ok (.iconst 1, 1) := by decide +kernel
theorem dX7_type_44 : decode cX7_type 44 = .ok (.iadd, 1) := by decide +kernel
theorem dX7_type_45 : decode cX7_type 45 = .ok (.putfield 128, 3) := by decide +kernel
theorem dX7_type_48 : decode cX7_type 48 = .ok (.aload_n 0, 1) := by decide +kernel
theorem dX7_type_49 : decode cX7_type 49 = .ok (.getfield 128, 3) := by decide +kernel
theorem dX7_type_52 : decode cX7_type 52 = .ok (.ireturn, 1) := by decide +kernel
theorem dX7_here_0 : decode cX7_here 0 = .ok (.aload_n 0, 1) := by decide +kernel
theorem dX7_here_1 : decode cX7_here 1 = .ok (.getfield 131, 3) := by decide +kernel
theorem dX7_here_4 : decode cX7_here 4 = .ok (.aload_n 0, 1) := by decide +kernel
theorem dX7_here_5 : decode cX7_here 5 = .ok (.getfield 128, 3) := by decide +kernel
theorem dX7_here_8 : decode cX7_here 8 = .ok (.if_icmp .ge 30, 3) := by decide +kernel
theorem dX7_here_11 : decode cX7_here 11 = .ok (.aload_n 0, 1) := by decide +kernel
theorem dX7_here_12 : decode cX7_here 12 = .ok (.getfield 16, 3) := by decide +kernel
theorem dX7_here_15 : decode cX7_here 15 = .ok (.aload_n 0, 1) := by decide +kernel
theorem dX7_here_16 : decode cX7_here 16 = .ok (.getfield 131, 3) := by decide +kernel
theorem dX7_here_19 : decode cX7_here 19 = .ok (.iaload, 1) := by decide +kernel
theorem dX7_here_20 : decode cX7_here 20 = .ok (.bipush 32, 2) := by decide +kernel
theorem dX7_here_22 : decode cX7_here 22 = .ok (.if_icmp .ne 16, 3) := by decide +kernel
theorem dX7_here_25 : decode cX7_here 25 = .ok (.aload_n 0, 1) := by decide +kernel
theorem dX7_here_26 : decode cX7_here 26 = .ok (.dup, 1) := by decide +kernel
theorem dX7_here_27 : decode cX7_here 27 = .ok (.getfield 131, 3) := by decide +kernel
theorem dX7_here_30 : decode cX7_here 30 = .ok (.iconst 1, 1) := by decide +kernel
theorem dX7_here_31 : decode cX7_here 31 = .ok (.iadd, 1) := by decide +kernel
theorem dX7_here_32 : decode cX7_here 32 = .ok (.putfield 131, 3) := by decide +kernel
theorem dX7_here_35 : decode cX7_here 35 = .ok (.goto (-35), 3) := by decide +kernel
theorem dX7_here_38 : decode cX7_here 38 = .ok (.aload_n 0, 1) := by decide +kernel
theorem dX7_here_39 : decode cX7_here 39 = .ok (.getfield 131, 3) := by decide +kernel
theorem dX7_here_42 : decode cX7_here 42 = .ok (.aload_n 0, 1) := by decide +kernel
theorem dX7_here_43 : decode cX7_here 43 = .ok (.getfield 128, 3) := by decide +kernel
theorem dX7_here_46 : decode cX7_here 46 = .ok (.if_icmp .ge 15, 3) := by decide +kernel
theorem dX7_here_49 : decode cX7_here 49 = .ok (.aload_n 0, 1) := by decide +kernel
theorem dX7_here_50 : decode cX7_here 50 = .ok (.getfield 16, 3) := by decide +kernel
theorem dX7_here_53 : decode cX7_here 53 = .ok (.aload_n 0, 1) := by decide +kernel
theorem dX7_here_54 : decode cX7_here 54 = .ok (.getfield 131, 3) := by decide +kernel
theorem dX7_here_57 : decode cX7_here 57 = .ok (.iaload, 1) := by decide +kernel
theorem dX7_here_58 : decode cX7_here 58 = .ok (.goto 4, 3) := by decide +kernel
theorem dX7_here_61 : decode cX7_here 61 = .ok (.iconst 0, 1) := by decide +kernel
theorem dX7_here_62 : decode cX7_here 62 = .ok (.ireturn, 1) := by decide +kernel
theorem dX7_must_0 : decode cX7_must 0 = .ok (.aload_n 0, 1) := by decide +kernel
theorem dX7_must_1 : decode cX7_must 1 = .ok (.aload_n 0, 1) := by decide +kernel
theorem dX7_must_2 : decode cX7_must 2 = .ok (.getfield 134, 3) := by decide +kernel
theorem dX7_must_5 : decode cX7_must 5 = .ok (.ifCond .ne 7, 3) := by decide +kernel
theorem dX7_must_8 : decode cX7_must 8 = .ok (.iload_n 1, 1) := by decide +kernel
theorem dX7_must_9 : decode cX7_must 9 = .ok (.ifCond .ne 7, 3) := by decide +kernel
theorem dX7_must_12 : decode cX7_must 12 = .ok (.iconst 1, 1) := by decide +kernel
theorem dX7_must_13 : decode cX7_must 13 = .ok (.goto 4, 3) := by decide +kernel
theorem dX7_must_16 : decode cX7_must 16 = .ok (.iconst 0, 1) := by decide +kernel
theorem dX7_must_17 : decode cX7_must 17 = .ok (.putfield 134, 3) := by decide +kernel
theorem dX7_must_20 : decode cX7_must 20 = .ok (.aload_n 0, 1) := by decide +kernel
theorem dX7_must_21 : decode cX7_must 21 = .ok (.dup, 1) := by decide +kernel
theorem dX7_must_22 : decode cX7_must 22 = .ok (.getfield 131, 3) := by decide +kernel
theorem dX7_must_25 : decode cX7_must 25 = .ok (.aload_n 0, 1) := by decide +kernel
theorem dX7_must_26 : decode cX7_must 26 = .ok (.getfield 134, 3) := by decide +kernel
theorem dX7_must_29 : decode cX7_must 29 = .ok (.ifCond .eq 7, 3) := by decide +kernel
theorem dX7_must_32 : decode cX7_must 32 = .ok (.iconst 0, 1) := by decide +kernel
theorem dX7_must_33 : decode cX7_must 33 = .ok (.goto 4, 3) := by decide +kernel
theorem dX7_must_36 : decode cX7_must 36 = .ok (.iconst 1, 1) := by decide +kernel
theorem dX7_must_37 : decode cX7_must 37 = .ok (.iadd, 1) := by decide +kernel
theorem dX7_must_38 : decode cX7_must 38 = .ok (.putfield 131, 3) := by decide +kernel
theorem dX7_must_41 : decode cX7_must 41 = .ok (.return_, 1) := by decide +kernel
theorem dX7_number_0 : decode cX7_number 0 = .ok (.aload_n 0, 1) := by decide +kernel
theorem dX7_number_1 : decode cX7_number 1 = .ok (.getfield 134, 3) := by decide +kernel
theorem dX7_number_4 : decode cX7_number 4 = .ok (.ifCond .eq 7, 3) := by decide +kernel
theorem dX7_number_7 : decode cX7_number 7 = .ok (.iconst 0, 1) := by decide +kernel
theorem dX7_number_8 : decode cX7_number 8 = .ok (.goto 7, 3) := by decide +kernel
theorem dX7_number_11 : decode cX7_number 11 = .ok (.aload_n 0, 1) := by decide +kernel
theorem dX7_number_12 : decode cX7_number 12 = .ok (.invokevirtual 138, 3) := by decide +kernel
theorem dX7_number_15 : decode cX7_number 15 = .ok (.istore_n 2, 1) := by decide +kernel
theorem dX7_number_16 : decode cX7_number 16 = .ok (.aload_n 0, 1) := by decide +kernel
theorem dX7_number_17 : decode cX7_number 17 = .ok (.getfield 131, 3) := by decide +kernel
theorem dX7_number_20 : decode cX7_number 20 = .ok (.istore_n 3, 1) := by decide +kernel
theorem dX7_number_21 : decode cX7_number 21 = .ok (.iconst 0, 1) := by decide +kernel
theorem dX7_number_22 : decode cX7_number 22 = .ok (.istore 4, 2) := by decide +kernel
theorem dX7_number_24 : decode cX7_number 24 = .ok (.aload_n 0, 1) := by decide +kernel
theorem dX7_number_25 : decode cX7_number 25 = .ok (.aload_n 0, 1) := by decide +kernel
theorem dX7_number_26 : decode cX7_number 26 = .ok (.getfield 134, 3) := by decide +kernel
theorem dX7_number_29 : decode cX7_number 29 = .ok (.ifCond .ne 17, 3) := by decide +kernel
theorem dX7_number_32 : decode cX7_number 32 = .ok (.iload_n 2, 1) := by decide +kernel
theorem dX7_number_33 : decode cX7_number 33 = .ok (.i2l, 1) := by decide +kernel
theorem dX7_number_34 : decode cX7_number 34 = .ok (.ldc2_w 141, 3) := by decide +kernel
theorem dX7_number_37 : decode cX7_number 37 = .ok (.ldc2_w 143, 3) := by decide +kernel
theorem dX7_number_40 : decode cX7_number 40 = .ok (.invokestatic 53, 3) := by decide +kernel
theorem dX7_number_43 : decode cX7_number 43 = .ok (.ifCond .ne 7, 3) := by decide +kernel
theorem dX7_number_46 : decode cX7_number 46 = .ok (.iconst 1, 1) := by decide +kernel
theorem dX7_number_47 : decode cX7_number 47 = .ok (.goto 4, 3) := by decide +kernel
theorem dX7_number_50 : decode cX7_number 50 = .ok (.iconst 0, 1) := by decide +kernel
theorem dX7_number_51 : decode cX7_number 51 = .ok (.putfield 134, 3) := by decide +kernel
theorem dX7_number_54 : decode cX7_number 54 = .ok (.aload_n 0, 1) := by decide +kernel
theorem dX7_number_55 : decode cX7_number 55 = .ok (.getfield 134, 3) := by decide +kernel
theorem dX7_number_58 : decode cX7_number 58 = .ok (.ifCond .ne 79, 3) := by decide +kernel
theorem dX7_number_61 : decode cX7_number 61 = .ok (.aload_n 0, 1) := by decide +kernel
theorem dX7_number_62 : decode cX7_number 62 = .ok (.getfield 131, 3) := by decide +kernel
theorem dX7_number_65 : decode cX7_number 65 = .ok (.aload_n 0, 1) := by decide +kernel
theorem dX7_number_66 : decode cX7_number 66 = .ok (.getfield 128, 3) := by decide +kernel
theorem dX7_number_69 : decode cX7_number 69 = .ok (.if_icmp .ge 68, 3) := by decide +kernel
theorem dX7_number_72 : decode cX7_number 72 = .ok (.aload_n 0, 1) := by decide +kernel
theorem dX7_number_73 : decode cX7_number 73 = .ok (.getfield 131, 3) := by decide +kernel
theorem dX7_number_76 : decode cX7_number 76 = .ok (.iload_n 3, 1) := by decide +kernel
theorem dX7_number_77 : decode cX7_number 77 = .ok (.isub, 1) := by decide +kernel
theorem dX7_number_78 : decode cX7_number 78 = .ok (.iconst 2, 1) := by decide +kernel
theorem dX7_number_79 : decode cX7_number 79 = .ok (.if_icmp .ge 58, 3) := by decide +kernel
theorem dX7_number_82 : decode cX7_number 82 = .ok (.aload_n 0, 1) := by decide +kernel
theorem dX7_number_83 : decode cX7_number 83 = .ok (.getfield 16, 3) := by decide +kernel
theorem dX7_number_86 : decode cX7_number 86 = .ok (.aload_n 0, 1) := by decide +kernel
theorem dX7_number_87 : decode cX7_number 87 = .ok (.getfield 131, 3) := by decide +kernel
theorem dX7_number_90 : decode cX7_number 90 = .ok (.iaload, 1) := by decide +kernel
theorem dX7_number_91 : decode cX7_number 91 = .ok (.i2l, 1) := by decide +kernel
theorem dX7_number_92 : decode cX7_number 92 = .ok (.ldc2_w 141, 3) := by decide +kernel
theorem dX7_number_95 : decode cX7_number 95 = .ok (.ldc2_w 143, 3) := by decide +kernel
theorem dX7_number_98 : decode cX7_number 98 = .ok (.invokestatic 53, 3) := by decide +kernel
theorem dX7_number_101 : decode cX7_number 101 = .ok (.ifCond .eq 36, 3) := by decide +kernel
theorem dX7_number_104 : decode cX7_number 104 = .ok (.bipush 10, 2) := by decide +kernel
theorem dX7_number_106 : decode cX7_number 106 = .ok (.iload 4, 2) := by decide +kernel
theorem dX7_number_108 : decode cX7_number 108 = .ok (.imul, 1) := by decide +kernel
theorem dX7_number_109 : decode cX7_number 109 = .ok (.aload_n 0, 1) := by decide +kernel
theorem dX7_number_110 : decode cX7_number 110 = .ok (.getfield 16, 3) := by decide +kernel
theorem dX7_number_113 : decode cX7_number 113 = .ok (.aload_n 0, 1) := by decide +kernel
theorem dX7_number_114 : decode cX7_number 114 = .ok (.getfield 131, 3) := by decide +kernel
theorem dX7_number_117 : decode cX7_number 117 = .ok (.iaload, 1) := by decide +kernel
theorem dX7_number_118 : decode cX7_number 118 = .ok (.iadd, 1) := by decide +kernel
theorem dX7_number_119 : decode cX7_number 119 = .ok (.bipush 48, 2) := by decide +kernel
theorem dX7_number_121 : decode cX7_number 121 = .ok (.isub, 1) := by decide +kernel
theorem dX7_number_122 : decode cX7_number 122 = .ok (.istore 4, 2) := by decide +kernel
theorem dX7_number_124 : decode cX7_number 124 = .ok (.aload_n 0, 1) := by decide +kernel
theorem dX7_number_125 : decode cX7_number 125 = .ok (.dup, 1) := by decide +kernel
theorem dX7_number_126 : decode cX7_number 126 = .ok (.getfield 131, 3) := by decide +kernel
theorem dX7_number_129 : decode cX7_number 129 = .ok (.iconst 1, 1) := by decide +kernel
theorem dX7_number_130 : decode cX7_number 130 = .ok (.iadd, 1) := by decide +kernel
theorem dX7_number_131 : decode cX7_number 131 = .ok (.putfield 131, 3) := by decide +kernel
theorem dX7_number_134 : decode cX7_number 134 = .ok (.goto (-80), 3) := by decide +kernel
theorem dX7_number_137 : decode cX7_number 137 = .ok (.aload_n 0, 1) := by decide +kernel
theorem dX7_number_138 : decode cX7_number 138 = .ok (.getfield 134, 3) := by decide +kernel
theorem dX7_number_141 : decode cX7_number 141 = .ok (.ifCond .ne 19, 3) := by decide +kernel
theorem dX7_number_144 : decode cX7_number 144 = .ok (.iload 4, 2) := by decide +kernel
theorem dX7_number_146 : decode cX7_number 146 = .ok (.iload_n 1, 1) := by decide +kernel
theorem dX7_number_147 : decode cX7_number 147 = .ok (.if_icmp .le 13, 3) := by decide +kernel
theorem dX7_number_150 : decode cX7_number 150 = .ok (.aload_n 0, 1) := by decide +kernel
theorem dX7_number_151 : decode cX7_number 151 = .ok (.iconst 1, 1) := by decide +kernel
theorem dX7_number_152 : decode cX7_number 152 = .ok (.putfield 134, 3) := by decide +kernel
theorem dX7_number_155 : decode cX7_number 155 = .ok (.aload_n 0, 1) := by decide +kernel
theorem dX7_number_156 : decode cX7_number 156 = .ok (.iload_n 3, 1) := by decide +kernel
theorem dX7_number_157 : decode cX7_number 157 = .ok (.putfield 131, 3) := by decide +kernel
theorem dX7_number_160 : decode cX7_number 160 = .ok (.iload 4, 2) := by decide +kernel
theorem dX7_number_162 : decode cX7_number 162 = .ok (.ireturn, 1) := by decide +kernel
theorem dX7_villagesRead_0 : decode cX7_villagesRead 0 = .ok (.iconst 0, 1) := by decide +kernel
theorem dX7_villagesRead_1 : decode cX7_villagesRead 1 = .ok (.istore_n 1, 1) := by decide +kernel
theorem dX7_villagesRead_2 : decode cX7_villagesRead 2 = .ok (.aload_n 0, 1) := by decide +kernel
theorem dX7_villagesRead_3 : decode cX7_villagesRead 3 = .ok (.getfield 134, 3) := by decide +kernel
theorem dX7_villagesRead_6 : decode cX7_villagesRead 6 = .ok (.ifCond .ne 306, 3) := by decide +kernel
theorem dX7_villagesRead_9 : decode cX7_villagesRead 9 = .ok (.iload_n 1, 1) := by decide +kernel
theorem dX7_villagesRead_10 : decode cX7_villagesRead 10 = .ok (.ifCond .eq 12, 3) := by decide +kernel
theorem dX7_villagesRead_13 : decode cX7_villagesRead 13 = .ok (.aload_n 0, 1) := by decide +kernel
theorem dX7_villagesRead_14 : decode cX7_villagesRead 14 = .ok (.invokevirtual 138, 3) := by decide +kernel
theorem dX7_villagesRead_17 : decode cX7_villagesRead 17 = .ok (.bipush 44, 2) := by decide +kernel
theorem dX7_villagesRead_19 : decode cX7_villagesRead 19 = .ok (.if_icmp .ne 293, 3) := by decide +kernel
theorem dX7_villagesRead_22 : decode cX7_villagesRead 22 = .ok (.iload_n 1, 1) := by decide +kernel
theorem dX7_villagesRead_23 : decode cX7_villagesRead 23 = .ok (.ifCond .le 18, 3) := by decide +kernel
theorem dX7_villagesRead_26 : decode cX7_villagesRead 26 = .ok (.aload_n 0, 1) := by decide +kernel
theorem dX7_villagesRead_27 : decode cX7_villagesRead 27 = .ok (.iload_n 1, 1) := by decide +kernel
theorem dX7_villagesRead_28 : decode cX7_villagesRead 28 = .ok (.bipush 6, 2) := by decide +kernel
theorem dX7_villagesRead_30 : decode cX7_villagesRead 30 = .ok (.if_icmp .ge 7, 3) := by decide +kernel
theorem dX7_villagesRead_33 : decode cX7_villagesRead 33 = .ok (.iconst 1, 1) := by decide +kernel
theorem dX7_villagesRead_34 : decode cX7_villagesRead 34 = .ok (.goto 4, 3) := by decide +kernel
theorem dX7_villagesRead_37 : decode cX7_villagesRead 37 = .ok (.iconst 0, 1) := by decide +kernel
theorem dX7_villagesRead_38 : decode cX7_villagesRead 38 = .ok (.invokevirtual 145, 3) := by decide +kernel
theorem dX7_villagesRead_41 : decode cX7_villagesRead 41 = .ok (.aload_n 0, 1) := by decide +kernel
theorem dX7_villagesRead_42 : decode cX7_villagesRead 42 = .ok (.getfield 134, 3) := by decide +kernel
theorem dX7_villagesRead_45 : decode cX7_villagesRead 45 = .ok (.ifCond .eq 7, 3) := by decide +kernel
theorem dX7_villagesRead_48 : decode cX7_villagesRead 48 = .ok (.iconst 0, 1) := by decide +kernel
theorem dX7_villagesRead_49 : decode cX7_villagesRead 49 = .ok (.goto 7, 3) := by decide +kernel
theorem dX7_villagesRead_52 : decode cX7_villagesRead 52 = .ok (.aload_n 0, 1) := by decide +kernel
theorem dX7_villagesRead_53 : decode cX7_villagesRead 53 = .ok (.invokevirtual 138, 3) := by decide +kernel
theorem dX7_villagesRead_56 : decode cX7_villagesRead 56 = .ok (.istore_n 2, 1) := by decide +kernel
theorem dX7_villagesRead_57 : decode cX7_villagesRead 57 = .ok (.iload_n 2, 1) := by decide +kernel
theorem dX7_villagesRead_58 : decode cX7_villagesRead 58 = .ok (.bipush 112, 2) := by decide +kernel
theorem dX7_villagesRead_60 : decode cX7_villagesRead 60 = .ok (.if_icmp .ne 7, 3) := by decide +kernel
theorem dX7_villagesRead_63 : decode cX7_villagesRead 63 = .ok (.iconst 0, 1) := by decide +kernel
theorem dX7_villagesRead_64 : decode cX7_villagesRead 64 = .ok (.goto 44, 3) := by decide +kernel
theorem dX7_villagesRead_67 : decode cX7_villagesRead 67 = .ok (.iload_n 2, 1) := by decide +kernel
theorem dX7_villagesRead_68 : decode cX7_villagesRead 68 = .ok (.bipush 115, 2) := by decide +kernel
theorem dX7_villagesRead_70 : decode cX7_villagesRead 70 = .ok (.if_icmp .ne 7, 3) := by decide +kernel
theorem dX7_villagesRead_73 : decode cX7_villagesRead 73 = .ok (.iconst 1, 1) := by decide +kernel
theorem dX7_villagesRead_74 : decode cX7_villagesRead 74 = .ok (.goto 34, 3) := by decide +kernel
theorem dX7_villagesRead_77 : decode cX7_villagesRead 77 = .ok (.iload_n 2, 1) := by decide +kernel
theorem dX7_villagesRead_78 : decode cX7_villagesRead 78 = .ok (.bipush 104, 2) := by decide +kernel
theorem dX7_villagesRead_80 : decode cX7_villagesRead 80 = .ok (.if_icmp .ne 7, 3) := by decide +kernel
theorem dX7_villagesRead_83 : decode cX7_villagesRead 83 = .ok (.iconst 2, 1) := by decide +kernel
theorem dX7_villagesRead_84 : decode cX7_villagesRead 84 = .ok (.goto 24, 3) := by decide +kernel
theorem dX7_villagesRead_87 : decode cX7_villagesRead 87 = .ok (.iload_n 2, 1) := by decide +kernel
theorem dX7_villagesRead_88 : decode cX7_villagesRead 88 = .ok (.bipush 102, 2) := by decide +kernel
theorem dX7_villagesRead_90 : decode cX7_villagesRead 90 = .ok (.if_icmp .ne 7, 3) := by decide +kernel
theorem dX7_villagesRead_93 : decode cX7_villagesRead 93 = .ok (.iconst 3, 1) := by decide +kernel
theorem dX7_villagesRead_94 : decode cX7_villagesRead 94 = .ok (.goto 14, 3) := by decide +kernel
theorem dX7_villagesRead_97 : decode cX7_villagesRead 97 = .ok (.iload_n 2, 1) := by decide +kernel
theorem dX7_villagesRead_98 : decode cX7_villagesRead 98 = .ok (.bipush 99, 2) := by decide +kernel
theorem dX7_villagesRead_100 : decode cX7_villagesRead 100 = .ok (.if_icmp .ne 7, 3) := by decide +kernel
theorem dX7_villagesRead_103 : decode cX7_villagesRead 103 = .ok (.iconst 4, 1) := by decide +kernel
theorem dX7_villagesRead_104 : decode cX7_villagesRead 104 = .ok (.goto 4, 3) := by decide +kernel
theorem dX7_villagesRead_107 : decode cX7_villagesRead 107 = .ok (.iconst (-1), 1) := by decide +kernel
theorem dX7_villagesRead_108 : decode cX7_villagesRead 108 = .ok (.istore_n 3, 1) := by decide +kernel
theorem dX7_villagesRead_109 : decode cX7_villagesRead 109 = .ok (.aload_n 0, 1) := by decide +kernel
theorem dX7_villagesRead_110 : decode cX7_villagesRead 110 = .ok (.iload_n 3, 1) := by decide +kernel
theorem dX7_villagesRead_111 : decode cX7_villagesRead 111 = .ok (.ifCond .lt 7, 3) := by decide +kernel
theorem dX7_villagesRead_114 : decode cX7_villagesRead 114 = .ok (.iconst 1, 1) := by decide +kernel
theorem dX7_villagesRead_115 : decode cX7_villagesRead 115 = .ok (.goto 4, 3) := by decide +kernel
theorem dX7_villagesRead_118 : decode cX7_villagesRead 118 = .ok (.iconst 0, 1) := by decide +kernel
theorem dX7_villagesRead_119 : decode cX7_villagesRead 119 = .ok (.invokevirtual 145, 3) := by decide +kernel
theorem dX7_villagesRead_122 : decode cX7_villagesRead 122 = .ok (.aload_n 0, 1) := by decide +kernel
theorem dX7_villagesRead_123 : decode cX7_villagesRead 123 = .ok (.bipush 59, 2) := by decide +kernel
theorem dX7_villagesRead_125 : decode cX7_villagesRead 125 = .ok (.invokevirtual 149, 3) := by decide +kernel
theorem dX7_villagesRead_128 : decode cX7_villagesRead 128 = .ok (.istore 4, 2) := by decide +kernel
theorem dX7_villagesRead_130 : decode cX7_villagesRead 130 = .ok (.aload_n 0, 1) := by decide +kernel
theorem dX7_villagesRead_131 : decode cX7_villagesRead 131 = .ok (.getfield 134, 3) := by decide +kernel
theorem dX7_villagesRead_134 : decode cX7_villagesRead 134 = .ok (.ifCond .eq 7, 3) := by decide +kernel
theorem dX7_villagesRead_137 : decode cX7_villagesRead 137 = .ok (.iconst 0, 1) := by decide +kernel
theorem dX7_villagesRead_138 : decode cX7_villagesRead 138 = .ok (.goto 7, 3) := by decide +kernel
theorem dX7_villagesRead_141 : decode cX7_villagesRead 141 = .ok (.aload_n 0, 1) := by decide +kernel
theorem dX7_villagesRead_142 : decode cX7_villagesRead 142 = .ok (.invokevirtual 138, 3) := by decide +kernel
theorem dX7_villagesRead_145 : decode cX7_villagesRead 145 = .ok (.istore 5, 2) := by decide +kernel
theorem dX7_villagesRead_147 : decode cX7_villagesRead 147 = .ok (.aload_n 0, 1) := by decide +kernel
theorem dX7_villagesRead_148 : decode cX7_villagesRead 148 = .ok (.iload 5, 2) := by decide +kernel
theorem dX7_villagesRead_150 : decode cX7_villagesRead 150 = .ok (.bipush 43, 2) := by decide +kernel
theorem dX7_villagesRead_152 : decode cX7_villagesRead 152 = .ok (.if_icmp .eq 10, 3) := by decide +kernel
theorem dX7_villagesRead_155 : decode cX7_villagesRead 155 = .ok (.iload 5, 2) := by decide +kernel
theorem dX7_villagesRead_157 : decode cX7_villagesRead 157 = .ok (.bipush 45, 2) := by decide +kernel
theorem dX7_villagesRead_159 : decode cX7_villagesRead 159 = .ok (.if_icmp .ne 7, 3) := by decide +kernel
theorem dX7_villagesRead_162 : decode cX7_villagesRead 162 = .ok (.iconst 1, 1) := by decide +kernel
theorem dX7_villagesRead_163 : decode cX7_villagesRead 163 = .ok (.goto 4, 3) := by decide +kernel
theorem dX7_villagesRead_166 : decode cX7_villagesRead 166 = .ok (.iconst 0, 1) := by decide +kernel
theorem dX7_villagesRead_167 : decode cX7_villagesRead 167 = .ok (.invokevirtual 145, 3) := by decide +kernel
theorem dX7_villagesRead_170 : decode cX7_villagesRead 170 = .ok (.aload_n 0, 1) := by decide +kernel
theorem dX7_villagesRead_171 : decode cX7_villagesRead 171 = .ok (.getfield 134, 3) := by decide +kernel
theorem dX7_villagesRead_174 : decode cX7_villagesRead 174 = .ok (.ifCond .eq 7, 3) := by decide +kernel
theorem dX7_villagesRead_177 : decode cX7_villagesRead 177 = .ok (.iconst (-1), 1) := by decide +kernel
theorem dX7_villagesRead_178 : decode cX7_villagesRead 178 = .ok (.goto 10, 3) := by decide +kernel
theorem dX7_villagesRead_181 : decode cX7_villagesRead 181 = .ok (.aload_n 0, 1) := by decide +kernel
theorem dX7_villagesRead_182 : decode cX7_villagesRead 182 = .ok (.invokevirtual 138, 3) := by decide +kernel
theorem dX7_villagesRead_185 : decode cX7_villagesRead 185 = .ok (.bipush 48, 2) := by decide +kernel
theorem dX7_villagesRead_187 : decode cX7_villagesRead 187 = .ok (.isub, 1) := by decide +kernel
theorem dX7_villagesRead_188 : decode cX7_villagesRead 188 = .ok (.istore 6, 2) := by decide +kernel
theorem dX7_villagesRead_190 : decode cX7_villagesRead 190 = .ok (.aload_n 0, 1) := by decide +kernel
theorem dX7_villagesRead_191 : decode cX7_villagesRead 191 = .ok (.iload 6, 2) := by decide +kernel
theorem dX7_villagesRead_193 : decode cX7_villagesRead 193 = .ok (.i2l, 1) := by decide +kernel
theorem dX7_villagesRead_194 : decode cX7_villagesRead 194 = .ok (.lconst 0, 1) := by decide +kernel
theorem dX7_villagesRead_195 : decode cX7_villagesRead 195 = .ok (.ldc2_w 101, 3) := by decide +kernel
theorem dX7_villagesRead_198 : decode cX7_villagesRead 198 = .ok (.invokestatic 53, 3) := by decide +kernel
theorem dX7_villagesRead_201 : decode cX7_villagesRead 201 = .ok (.invokevirtual 145, 3) := by decide +kernel
theorem dX7_villagesRead_204 : decode cX7_villagesRead 204 = .ok (.iconst 0, 1) := by decide +kernel
theorem dX7_villagesRead_205 : decode cX7_villagesRead 205 = .ok (.istore 7, 2) := by decide +kernel
theorem dX7_villagesRead_207 : decode cX7_villagesRead 207 = .ok (.aload_n 0, 1) := by decide +kernel
theorem dX7_villagesRead_208 : decode cX7_villagesRead 208 = .ok (.getfield 134, 3) := by decide +kernel
theorem dX7_villagesRead_211 : decode cX7_villagesRead 211 = .ok (.ifCond .ne 30, 3) := by decide +kernel
theorem dX7_villagesRead_214 : decode cX7_villagesRead 214 = .ok (.aload_n 0, 1) := by decide +kernel
theorem dX7_villagesRead_215 : decode cX7_villagesRead 215 = .ok (.invokevirtual 138, 3) := by decide +kernel
theorem dX7_villagesRead_218 : decode cX7_villagesRead 218 = .ok (.bipush 64, 2) := by decide +kernel
theorem dX7_villagesRead_220 : decode cX7_villagesRead 220 = .ok (.if_icmp .ne 21, 3) := by decide +kernel
theorem dX7_villagesRead_223 : decode cX7_villagesRead 223 = .ok (.aload_n 0, 1) := by decide +kernel
theorem dX7_villagesRead_224 : decode cX7_villagesRead 224 = .ok (.dup, 1) := by decide +kernel
theorem dX7_villagesRead_225 : decode cX7_villagesRead 225 = .ok (.getfield 131, 3) := by decide +kernel
theorem dX7_villagesRead_228 : decode cX7_villagesRead 228 = .ok (.iconst 1, 1) := by decide +kernel
theorem dX7_villagesRead_229 : decode cX7_villagesRead 229 = .ok (.iadd, 1) := by decide +kernel
theorem dX7_villagesRead_230 : decode cX7_villagesRead 230 = .ok (.putfield 131, 3) := by decide +kernel
theorem dX7_villagesRead_233 : decode cX7_villagesRead 233 = .ok (.aload_n 0, 1) := by decide +kernel
theorem dX7_villagesRead_234 : decode cX7_villagesRead 234 = .ok (.bipush 40, 2) := by decide +kernel
theorem dX7_villagesRead_236 : decode cX7_villagesRead 236 = .ok (.invokevirtual 149, 3) := by decide +kernel
theorem dX7_villagesRead_239 : decode cX7_villagesRead 239 = .ok (.istore 7, 2) := by decide +kernel
theorem dX7_villagesRead_241 : decode cX7_villagesRead 241 = .ok (.aload_n 0, 1) := by decide +kernel
theorem dX7_villagesRead_242 : decode cX7_villagesRead 242 = .ok (.getfield 134, 3) := by decide +kernel
theorem dX7_villagesRead_245 : decode cX7_villagesRead 245 = .ok (.ifCond .ne 61, 3) := by decide +kernel
theorem dX7_villagesRead_248 : decode cX7_villagesRead 248 = .ok (.aload_n 0, 1) := by decide +kernel
theorem dX7_villagesRead_249 : decode cX7_villagesRead 249 = .ok (.getfield 19, 3) := by decide +kernel
theorem dX7_villagesRead_252 : decode cX7_villagesRead 252 = .ok (.iconst 4, 1) := by decide +kernel
theorem dX7_villagesRead_253 : decode cX7_villagesRead 253 = .ok (.iload_n 1, 1) := by decide +kernel
theorem dX7_villagesRead_254 : decode cX7_villagesRead 254 = .ok (.imul, 1) := by decide +kernel
theorem dX7_villagesRead_255 : decode cX7_villagesRead 255 = .ok (.iload_n 3, 1) := by decide +kernel
theorem dX7_villagesRead_256 : decode cX7_villagesRead 256 = .ok (.iastore, 1) := by decide +kernel
theorem dX7_villagesRead_257 : decode cX7_villagesRead 257 = .ok (.aload_n 0, 1) := by decide +kernel
theorem dX7_villagesRead_258 : decode cX7_villagesRead 258 = .ok (.getfield 19, 3) := by decide +kernel
theorem dX7_villagesRead_261 : decode cX7_villagesRead 261 = .ok (.iconst 4, 1) := by decide +kernel
theorem dX7_villagesRead_262 : decode cX7_villagesRead 262 = .ok (.iload_n 1, 1) := by decide +kernel
theorem dX7_villagesRead_263 : decode cX7_villagesRead 263 = .ok (.imul, 1) := by decide +kernel
theorem dX7_villagesRead_264 : decode cX7_villagesRead 264 = .ok (.iconst 1, 1) := by decide +kernel
theorem dX7_villagesRead_265 : decode cX7_villagesRead 265 = .ok (.iadd, 1) := by decide +kernel
theorem dX7_villagesRead_266 : decode cX7_villagesRead 266 = .ok (.iload 4, 2) := by decide +kernel
theorem dX7_villagesRead_268 : decode cX7_villagesRead 268 = .ok (.iastore, 1) := by decide +kernel
theorem dX7_villagesRead_269 : decode cX7_villagesRead 269 = .ok (.aload_n 0, 1) := by decide +kernel
theorem dX7_villagesRead_270 : decode cX7_villagesRead 270 = .ok (.getfield 19, 3) := by decide +kernel
theorem dX7_villagesRead_273 : decode cX7_villagesRead 273 = .ok (.iconst 4, 1) := by decide +kernel
theorem dX7_villagesRead_274 : decode cX7_villagesRead 274 = .ok (.iload_n 1, 1) := by decide +kernel
theorem dX7_villagesRead_275 : decode cX7_villagesRead 275 = .ok (.imul, 1) := by decide +kernel
theorem dX7_villagesRead_276 : decode cX7_villagesRead 276 = .ok (.iconst 2, 1) := by decide +kernel
theorem dX7_villagesRead_277 : decode cX7_villagesRead 277 = .ok (.iadd, 1) := by decide +kernel
theorem dX7_villagesRead_278 : decode cX7_villagesRead 278 = .ok (.iload 5, 2) := by decide +kernel
theorem dX7_villagesRead_280 : decode cX7_villagesRead 280 = .ok (.bipush 43, 2) := by decide +kernel
theorem dX7_villagesRead_282 : decode cX7_villagesRead 282 = .ok (.if_icmp .ne 8, 3) := by decide +kernel
theorem dX7_villagesRead_285 : decode cX7_villagesRead 285 = .ok (.iload 6, 2) := by decide +kernel
theorem dX7_villagesRead_287 : decode cX7_villagesRead 287 = .ok (.goto 6, 3) := by decide +kernel
theorem dX7_villagesRead_290 : decode cX7_villagesRead 290 = .ok (.iload 6, 2) := by decide +kernel
theorem dX7_villagesRead_292 : decode cX7_villagesRead 292 = .ok (.ineg, 1) := by decide +kernel
theorem dX7_villagesRead_293 : decode cX7_villagesRead 293 = .ok (.iastore, 1) := by decide +kernel
theorem dX7_villagesRead_294 : decode cX7_villagesRead 294 = .ok (.aload_n 0, 1) := by decide +kernel
theorem dX7_villagesRead_295 : decode cX7_villagesRead 295 = .ok (.getfield 19, 3) := by decide +kernel
theorem dX7_villagesRead_298 : decode cX7_villagesRead 298 = .ok (.iconst 4, 1) := by decide +kernel
theorem dX7_villagesRead_299 : decode cX7_villagesRead 299 = .ok (.iload_n 1, 1) := by decide +kernel
theorem dX7_villagesRead_300 : decode cX7_villagesRead 300 = .ok (.imul, 1) := by decide +kernel
theorem dX7_villagesRead_301 : decode cX7_villagesRead 301 = .ok (.iconst 3, 1) := by decide +kernel
theorem dX7_villagesRead_302 : decode cX7_villagesRead 302 = .ok (.iadd, 1) := by decide +kernel
theorem dX7_villagesRead_303 : decode cX7_villagesRead 303 = .ok (.iload 7, 2) := by decide +kernel
theorem dX7_villagesRead_305 : decode cX7_villagesRead 305 = .ok (.iastore, 1) := by decide +kernel
theorem dX7_villagesRead_306 : decode cX7_villagesRead 306 = .ok (.iinc 1 1, 3) := by decide +kernel
theorem dX7_villagesRead_309 : decode cX7_villagesRead 309 = .ok (.goto (-307), 3) := by decide +kernel
theorem dX7_villagesRead_312 : decode cX7_villagesRead 312 = .ok (.iload_n 1, 1) := by decide +kernel
theorem dX7_villagesRead_313 : decode cX7_villagesRead 313 = .ok (.ireturn, 1) := by decide +kernel
theorem dX7_valley_0 : decode cX7_valley 0 = .ok (.aload_n 0, 1) := by decide +kernel
theorem dX7_valley_1 : decode cX7_valley 1 = .ok (.iconst 0, 1) := by decide +kernel
theorem dX7_valley_2 : decode cX7_valley 2 = .ok (.putfield 131, 3) := by decide +kernel
theorem dX7_valley_5 : decode cX7_valley 5 = .ok (.aload_n 0, 1) := by decide +kernel
theorem dX7_valley_6 : decode cX7_valley 6 = .ok (.iconst 0, 1) := by decide +kernel
theorem dX7_valley_7 : decode cX7_valley 7 = .ok (.putfield 134, 3) := by decide +kernel
theorem dX7_valley_10 : decode cX7_valley 10 = .ok (.aload_n 0, 1) := by decide +kernel
theorem dX7_valley_11 : decode cX7_valley 11 = .ok (.invokevirtual 152, 3) := by decide +kernel
theorem dX7_valley_14 : decode cX7_valley 14 = .ok (.istore_n 1, 1) := by decide +kernel
theorem dX7_valley_15 : decode cX7_valley 15 = .ok (.aload_n 0, 1) := by decide +kernel
theorem dX7_valley_16 : decode cX7_valley 16 = .ok (.aload_n 0, 1) := by decide +kernel
theorem dX7_valley_17 : decode cX7_valley 17 = .ok (.getfield 134, 3) := by decide +kernel
theorem dX7_valley_20 : decode cX7_valley 20 = .ok (.ifCond .ne 10, 3) := by decide +kernel
theorem dX7_valley_23 : decode cX7_valley 23 = .ok (.aload_n 0, 1) := by decide +kernel
theorem dX7_valley_24 : decode cX7_valley 24 = .ok (.invokevirtual 138, 3) := by decide +kernel
theorem dX7_valley_27 : decode cX7_valley 27 = .ok (.ifCond .eq 7, 3) := by decide +kernel
theorem dX7_valley_30 : decode cX7_valley 30 = .ok (.iconst 1, 1) := by decide +kernel
theorem dX7_valley_31 : decode cX7_valley 31 = .ok (.goto 4, 3) := by decide +kernel
theorem dX7_valley_34 : decode cX7_valley 34 = .ok (.iconst 0, 1) := by decide +kernel
theorem dX7_valley_35 : decode cX7_valley 35 = .ok (.putfield 134, 3) := by decide +kernel
theorem dX7_valley_38 : decode cX7_valley 38 = .ok (.aload_n 0, 1) := by decide +kernel
theorem dX7_valley_39 : decode cX7_valley 39 = .ok (.iconst 0, 1) := by decide +kernel
theorem dX7_valley_40 : decode cX7_valley 40 = .ok (.putfield 128, 3) := by decide +kernel
theorem dX7_valley_43 : decode cX7_valley 43 = .ok (.aload_n 0, 1) := by decide +kernel
theorem dX7_valley_44 : decode cX7_valley 44 = .ok (.getfield 134, 3) := by decide +kernel
theorem dX7_valley_47 : decode cX7_valley 47 = .ok (.ifCond .eq 11, 3) := by decide +kernel
theorem dX7_valley_50 : decode cX7_valley 50 = .ok (.bipush (-20), 2) := by decide +kernel
theorem dX7_valley_52 : decode cX7_valley 52 = .ok (.aload_n 0, 1) := by decide +kernel
theorem dX7_valley_53 : decode cX7_valley 53 = .ok (.getfield 131, 3) := by decide +kernel
theorem dX7_valley_56 : decode cX7_valley 56 = .ok (.isub, 1) := by decide +kernel
theorem dX7_valley_57 : decode cX7_valley 57 = .ok (.ireturn, 1) := by decide +kernel
theorem dX7_valley_58 : decode cX7_valley 58 = .ok (.aload_n 0, 1) := by decide +kernel
theorem dX7_valley_59 : decode cX7_valley 59 = .ok (.getfield 7, 3) := by decide +kernel
theorem dX7_valley_62 : decode cX7_valley 62 = .ok (.iconst 0, 1) := by decide +kernel
theorem dX7_valley_63 : decode cX7_valley 63 = .ok (.iconst 0, 1) := by decide +kernel
theorem dX7_valley_64 : decode cX7_valley 64 = .ok (.iastore, 1) := by decide +kernel
theorem dX7_valley_65 : decode cX7_valley 65 = .ok (.aload_n 0, 1) := by decide +kernel
theorem dX7_valley_66 : decode cX7_valley 66 = .ok (.getfield 7, 3) := by decide +kernel
theorem dX7_valley_69 : decode cX7_valley 69 = .ok (.iconst 1, 1) := by decide +kernel
theorem dX7_valley_70 : decode cX7_valley 70 = .ok (.iconst 0, 1) := by decide +kernel
theorem dX7_valley_71 : decode cX7_valley 71 = .ok (.iastore, 1) := by decide +kernel
theorem dX7_valley_72 : decode cX7_valley 72 = .ok (.iconst 0, 1) := by decide +kernel
theorem dX7_valley_73 : decode cX7_valley 73 = .ok (.istore_n 2, 1) := by decide +kernel
theorem dX7_valley_74 : decode cX7_valley 74 = .ok (.iload_n 2, 1) := by decide +kernel
theorem dX7_valley_75 : decode cX7_valley 75 = .ok (.iload_n 1, 1) := by decide +kernel
theorem dX7_valley_76 : decode cX7_valley 76 = .ok (.if_icmp .ge 51, 3) := by decide +kernel
theorem dX7_valley_79 : decode cX7_valley 79 = .ok (.aload_n 0, 1) := by decide +kernel
theorem dX7_valley_80 : decode cX7_valley 80 = .ok (.aload_n 0, 1) := by decide +kernel
theorem dX7_valley_81 : decode cX7_valley 81 = .ok (.getfield 19, 3) := by decide +kernel
theorem dX7_valley_84 : decode cX7_valley 84 = .ok (.iconst 4, 1) := by decide +kernel
theorem dX7_valley_85 : decode cX7_valley 85 = .ok (.iload_n 2, 1) := by decide +kernel
theorem dX7_valley_86 : decode cX7_valley 86 = .ok (.imul, 1) := by decide +kernel
theorem dX7_valley_87 : decode cX7_valley 87 = .ok (.iaload, 1) := by decide +kernel
theorem dX7_valley_88 : decode cX7_valley 88 = .ok (.aload_n 0, 1) := by decide +kernel
theorem dX7_valley_89 : decode cX7_valley 89 = .ok (.getfield 19, 3) := by decide +kernel
theorem dX7_valley_92 : decode cX7_valley 92 = .ok (.iconst 4, 1) := by decide +kernel
theorem dX7_valley_93 : decode cX7_valley 93 = .ok (.iload_n 2, 1) := by decide +kernel
theorem dX7_valley_94 : decode cX7_valley 94 = .ok (.imul, 1) := by decide +kernel
theorem dX7_valley_95 : decode cX7_valley 95 = .ok (.iconst 1, 1) := by decide +kernel
theorem dX7_valley_96 : decode cX7_valley 96 = .ok (.iadd, 1) := by decide +kernel
theorem dX7_valley_97 : decode cX7_valley 97 = .ok (.iaload, 1) := by decide +kernel
theorem dX7_valley_98 : decode cX7_valley 98 = .ok (.aload_n 0, 1) := by decide +kernel
theorem dX7_valley_99 : decode cX7_valley 99 = .ok (.getfield 19, 3) := by decide +kernel
theorem dX7_valley_102 : decode cX7_valley 102 = .ok (.iconst 4, 1) := by decide +kernel
theorem dX7_valley_103 : decode cX7_valley 103 = .ok (.iload_n 2, 1) := by decide +kernel
theorem dX7_valley_104 : decode cX7_valley 104 = .ok (.imul, 1) := by decide +kernel
theorem dX7_valley_105 : decode cX7_valley 105 = .ok (.iconst 2, 1) := by decide +kernel
theorem dX7_valley_106 : decode cX7_valley 106 = .ok (.iadd, 1) := by decide +kernel
theorem dX7_valley_107 : decode cX7_valley 107 = .ok (.iaload, 1) := by decide +kernel
theorem dX7_valley_108 : decode cX7_valley 108 = .ok (.aload_n 0, 1) := by decide +kernel
theorem dX7_valley_109 : decode cX7_valley 109 = .ok (.getfield 19, 3) := by decide +kernel
theorem dX7_valley_112 : decode cX7_valley 112 = .ok (.iconst 4, 1) := by decide +kernel
theorem dX7_valley_113 : decode cX7_valley 113 = .ok (.iload_n 2, 1) := by decide +kernel
theorem dX7_valley_114 : decode cX7_valley 114 = .ok (.imul, 1) := by decide +kernel
theorem dX7_valley_115 : decode cX7_valley 115 = .ok (.iconst 3, 1) := by decide +kernel
theorem dX7_valley_116 : decode cX7_valley 116 = .ok (.iadd, 1) := by decide +kernel
theorem dX7_valley_117 : decode cX7_valley 117 = .ok (.iaload, 1) := by decide +kernel
theorem dX7_valley_118 : decode cX7_valley 118 = .ok (.invokevirtual 103, 3) := by decide +kernel
theorem dX7_valley_121 : decode cX7_valley 121 = .ok (.iinc 2 1, 3) := by decide +kernel
theorem dX7_valley_124 : decode cX7_valley 124 = .ok (.goto (-50), 3) := by decide +kernel
theorem dX7_valley_127 : decode cX7_valley 127 = .ok (.iload_n 1, 1) := by decide +kernel
theorem dX7_valley_128 : decode cX7_valley 128 = .ok (.ireturn, 1) := by decide +kernel
theorem dX7_notes_0 : decode cX7_notes 0 = .ok (.aload_n 0, 1) := by decide +kernel
theorem dX7_notes_1 : decode cX7_notes 1 = .ok (.getfield 91, 3) := by decide +kernel
theorem dX7_notes_4 : decode cX7_notes 4 = .ok (.bipush 8, 2) := by decide +kernel
theorem dX7_notes_6 : decode cX7_notes 6 = .ok (.if_icmp .ne 40, 3) := by decide +kernel
theorem dX7_notes_9 : decode cX7_notes 9 = .ok (.bipush 27, 2) := by decide +kernel
theorem dX7_notes_11 : decode cX7_notes 11 = .ok (.istore_n 1, 1) := by decide +kernel
theorem dX7_notes_12 : decode cX7_notes 12 = .ok (.iload_n 1, 1) := by decide +kernel
theorem dX7_notes_13 : decode cX7_notes 13 = .ok (.sipush 216, 3) := by decide +kernel
theorem dX7_notes_16 : decode cX7_notes 16 = .ok (.if_icmp .ge 24, 3) := by decide +kernel
theorem dX7_notes_19 : decode cX7_notes 19 = .ok (.aload_n 0, 1) := by decide +kernel
theorem dX7_notes_20 : decode cX7_notes 20 = .ok (.getfield 22, 3) := by decide +kernel
theorem dX7_notes_23 : decode cX7_notes 23 = .ok (.iload_n 1, 1) := by decide +kernel
theorem dX7_notes_24 : decode cX7_notes 24 = .ok (.bipush 27, 2) := by decide +kernel
theorem dX7_notes_26 : decode cX7_notes 26 = .ok (.isub, 1) := by decide +kernel
theorem dX7_notes_27 : decode cX7_notes 27 = .ok (.aload_n 0, 1) := by decide +kernel
theorem dX7_notes_28 : decode cX7_notes 28 = .ok (.getfield 22, 3) := by decide +kernel
theorem dX7_notes_31 : decode cX7_notes 31 = .ok (.iload_n 1, 1) := by decide +kernel
theorem dX7_notes_32 : decode cX7_notes 32 = .ok (.iaload, 1) := by decide +kernel
theorem dX7_notes_33 : decode cX7_notes 33 = .ok (.iastore, 1) := by decide +kernel
theorem dX7_notes_34 : decode cX7_notes 34 = .ok (.iinc 1 1, 3) := by decide +kernel
theorem dX7_notes_37 : decode cX7_notes 37 = .ok (.goto (-25), 3) := by decide +kernel
theorem dX7_notes_40 : decode cX7_notes 40 = .ok (.aload_n 0, 1) := by decide +kernel
theorem dX7_notes_41 : decode cX7_notes 41 = .ok (.bipush 7, 2) := by decide +kernel
theorem dX7_notes_43 : decode cX7_notes 43 = .ok (.putfield 91, 3) := by decide +kernel
theorem dX7_notes_46 : decode cX7_notes 46 = .ok (.iconst 0, 1) := by decide +kernel
theorem dX7_notes_47 : decode cX7_notes 47 = .ok (.istore_n 1, 1) := by decide +kernel
theorem dX7_notes_48 : decode cX7_notes 48 = .ok (.iload_n 1, 1) := by decide +kernel
theorem dX7_notes_49 : decode cX7_notes 49 = .ok (.bipush 27, 2) := by decide +kernel
theorem dX7_notes_51 : decode cX7_notes 51 = .ok (.if_icmp .ge 29, 3) := by decide +kernel
theorem dX7_notes_54 : decode cX7_notes 54 = .ok (.aload_n 0, 1) := by decide +kernel
theorem dX7_notes_55 : decode cX7_notes 55 = .ok (.getfield 22, 3) := by decide +kernel
theorem dX7_notes_58 : decode cX7_notes 58 = .ok (.bipush 27, 2) := by decide +kernel
theorem dX7_notes_60 : decode cX7_notes 60 = .ok (.aload_n 0, 1) := by decide +kernel
theorem dX7_notes_61 : decode cX7_notes 61 = .ok (.getfield 91, 3) := by decide +kernel
theorem dX7_notes_64 : decode cX7_notes 64 = .ok (.imul, 1) := by decide +kernel
theorem dX7_notes_65 : decode cX7_notes 65 = .ok (.iload_n 1, 1) := by decide +kernel
theorem dX7_notes_66 : decode cX7_notes 66 = .ok (.iadd, 1) := by decide +kernel
theorem dX7_notes_67 : decode cX7_notes 67 = .ok (.aload_n 0, 1) := by decide +kernel
theorem dX7_notes_68 : decode cX7_notes 68 = .ok (.getfield 7, 3) := by decide +kernel
theorem dX7_notes_71 : decode cX7_notes 71 = .ok (.iload_n 1, 1) := by decide +kernel
theorem dX7_notes_72 : decode cX7_notes 72 = .ok (.iaload, 1) := by decide +kernel
theorem dX7_notes_73 : decode cX7_notes 73 = .ok (.iastore, 1) := by decide +kernel
theorem dX7_notes_74 : decode cX7_notes 74 = .ok (.iinc 1 1, 3) := by decide +kernel
theorem dX7_notes_77 : decode cX7_notes 77 = .ok (.goto (-29), 3) := by decide +kernel
theorem dX7_notes_80 : decode cX7_notes 80 = .ok (.aload_n 0, 1) := by decide +kernel
theorem dX7_notes_81 : decode cX7_notes 81 = .ok (.dup, 1) := by decide +kernel
theorem dX7_notes_82 : decode cX7_notes 82 = .ok (.getfield 91, 3) := by decide +kernel
theorem dX7_notes_85 : decode cX7_notes 85 = .ok (.iconst 1, 1) := by decide +kernel
theorem dX7_notes_86 : decode cX7_notes 86 = .ok (.iadd, 1) := by decide +kernel
theorem dX7_notes_87 : decode cX7_notes 87 = .ok (.putfield 91, 3) := by decide +kernel
theorem dX7_notes_90 : decode cX7_notes 90 = .ok (.return_, 1) := by decide +kernel
theorem dX7_days_0 : decode cX7_days 0 = .ok (.iload_n 1, 1) := by decide +kernel
theorem dX7_days_1 : decode cX7_days 1 = .ok (.i2l, 1) := by decide +kernel
theorem dX7_days_2 : decode cX7_days 2 = .ok (.lconst 1, 1) := by decide +kernel
theorem dX7_days_3 : decode cX7_days 3 = .ok (.ldc2_w 155, 3) := by decide +kernel
theorem dX7_days_6 : decode cX7_days 6 = .ok (.invokestatic 53, 3) := by decide +kernel
theorem dX7_days_9 : decode cX7_days 9 = .ok (.ifCond .ne 5, 3) := by decide +kernel
theorem dX7_days_12 : decode cX7_days 12 = .ok (.iconst (-1), 1) := by decide +kernel
theorem dX7_days_13 : decode cX7_days 13 = .ok (.ireturn, 1) := by decide +kernel
theorem dX7_days_14 : decode cX7_days 14 = .ok (.aload_n 0, 1) := by decide +kernel
theorem dX7_days_15 : decode cX7_days 15 = .ok (.getfield 7, 3) := by decide +kernel
theorem dX7_days_18 : decode cX7_days 18 = .ok (.iconst 1, 1) := by decide +kernel
theorem dX7_days_19 : decode cX7_days 19 = .ok (.iaload, 1) := by decide +kernel
theorem dX7_days_20 : decode cX7_days 20 = .ok (.iload_n 1, 1) := by decide +kernel
theorem dX7_days_21 : decode cX7_days 21 = .ok (.iadd, 1) := by decide +kernel
theorem dX7_days_22 : decode cX7_days 22 = .ok (.sipush 9999, 3) := by decide +kernel
theorem dX7_days_25 : decode cX7_days 25 = .ok (.if_icmp .le 6, 3) := by decide +kernel
theorem dX7_days_28 : decode cX7_days 28 = .ok (.bipush (-3), 2) := by decide +kernel
theorem dX7_days_30 : decode cX7_days 30 = .ok (.ireturn, 1) := by decide +kernel
theorem dX7_days_31 : decode cX7_days 31 = .ok (.iconst 0, 1) := by decide +kernel
theorem dX7_days_32 : decode cX7_days 32 = .ok (.istore_n 2, 1) := by decide +kernel
theorem dX7_days_33 : decode cX7_days 33 = .ok (.iload_n 2, 1) := by decide +kernel
theorem dX7_days_34 : decode cX7_days 34 = .ok (.iload_n 1, 1) := by decide +kernel
theorem dX7_days_35 : decode cX7_days 35 = .ok (.if_icmp .ge 17, 3) := by decide +kernel
theorem dX7_days_38 : decode cX7_days 38 = .ok (.aload_n 0, 1) := by decide +kernel
theorem dX7_days_39 : decode cX7_days 39 = .ok (.invokevirtual 157, 3) := by decide +kernel
theorem dX7_days_42 : decode cX7_days 42 = .ok (.aload_n 0, 1) := by decide +kernel
theorem dX7_days_43 : decode cX7_days 43 = .ok (.invokevirtual 85, 3) := by decide +kernel
theorem dX7_days_46 : decode cX7_days 46 = .ok (.iinc 2 1, 3) := by decide +kernel
theorem dX7_days_49 : decode cX7_days 49 = .ok (.goto (-16), 3) := by decide +kernel
theorem dX7_days_52 : decode cX7_days 52 = .ok (.aload_n 0, 1) := by decide +kernel
theorem dX7_days_53 : decode cX7_days 53 = .ok (.invokevirtual 114, 3) := by decide +kernel
theorem dX7_days_56 : decode cX7_days 56 = .ok (.ireturn, 1) := by decide +kernel
theorem dX7_becomes_0 : decode cX7_becomes 0 = .ok (.aload_n 0, 1) := by decide +kernel
theorem dX7_becomes_1 : decode cX7_becomes 1 = .ok (.iload_n 1, 1) := by decide +kernel
theorem dX7_becomes_2 : decode cX7_becomes 2 = .ok (.invokevirtual 107, 3) := by decide +kernel
theorem dX7_becomes_5 : decode cX7_becomes 5 = .ok (.ifCond .eq 17, 3) := by decide +kernel
theorem dX7_becomes_8 : decode cX7_becomes 8 = .ok (.iload_n 3, 1) := by decide +kernel
theorem dX7_becomes_9 : decode cX7_becomes 9 = .ok (.i2l, 1) := by decide +kernel
theorem dX7_becomes_10 : decode cX7_becomes 10 = .ok (.iload 4, 2) := by decide +kernel
theorem dX7_becomes_12 : decode cX7_becomes 12 = .ok (.i2l, 1) := by decide +kernel
theorem dX7_becomes_13 : decode cX7_becomes 13 = .ok (.iload 5, 2) := by decide +kernel
theorem dX7_becomes_15 : decode cX7_becomes 15 = .ok (.i2l, 1) := by decide +kernel
theorem dX7_becomes_16 : decode cX7_becomes 16 = .ok (.invokestatic 53, 3) := by decide +kernel
theorem dX7_becomes_19 : decode cX7_becomes 19 = .ok (.ifCond .ne 5, 3) := by decide +kernel
theorem dX7_becomes_22 : decode cX7_becomes 22 = .ok (.iconst (-1), 1) := by decide +kernel
theorem dX7_becomes_23 : decode cX7_becomes 23 = .ok (.ireturn, 1) := by decide +kernel
theorem dX7_becomes_24 : decode cX7_becomes 24 = .ok (.aload_n 0, 1) := by decide +kernel
theorem dX7_becomes_25 : decode cX7_becomes 25 = .ok (.iload_n 1, 1) := by decide +kernel
theorem dX7_becomes_26 : decode cX7_becomes 26 = .ok (.iload_n 2, 1) := by decide +kernel
theorem dX7_becomes_27 : decode cX7_becomes 27 = .ok (.invokevirtual 57, 3) := by decide +kernel
theorem dX7_becomes_30 : decode cX7_becomes 30 = .ok (.istore 6, 2) := by decide +kernel
theorem dX7_becomes_32 : decode cX7_becomes 32 = .ok (.iload 6, 2) := by decide +kernel
theorem dX7_becomes_34 : decode cX7_becomes 34 = .ok (.iload_n 3, 1) := by decide +kernel
theorem dX7_becomes_35 : decode cX7_becomes 35 = .ok (.if_icmp .ne 6, 3) := by decide +kernel
theorem dX7_becomes_38 : decode cX7_becomes 38 = .ok (.bipush (-2), 2) := by decide +kernel
theorem dX7_becomes_40 : decode cX7_becomes 40 = .ok (.ireturn, 1) := by decide +kernel
theorem dX7_becomes_41 : decode cX7_becomes 41 = .ok (.aload_n 0, 1) := by decide +kernel
theorem dX7_becomes_42 : decode cX7_becomes 42 = .ok (.invokevirtual 157, 3) := by decide +kernel
theorem dX7_becomes_45 : decode cX7_becomes 45 = .ok (.aload_n 0, 1) := by decide +kernel
theorem dX7_becomes_46 : decode cX7_becomes 46 = .ok (.iload_n 1, 1) := by decide +kernel
theorem dX7_becomes_47 : decode cX7_becomes 47 = .ok (.iload_n 2, 1) := by decide +kernel
theorem dX7_becomes_48 : decode cX7_becomes 48 = .ok (.iload_n 3, 1) := by decide +kernel
theorem dX7_becomes_49 : decode cX7_becomes 49 = .ok (.invokevirtual 81, 3) := by decide +kernel
theorem dX7_becomes_52 : decode cX7_becomes 52 = .ok (.iload 6, 2) := by decide +kernel
theorem dX7_becomes_54 : decode cX7_becomes 54 = .ok (.ireturn, 1) := by decide +kernel
theorem dX7_set_0 : decode cX7_set 0 = .ok (.aload_n 0, 1) := by decide +kernel
theorem dX7_set_1 : decode cX7_set 1 = .ok (.iload_n 1, 1) := by decide +kernel
theorem dX7_set_2 : decode cX7_set 2 = .ok (.iconst 1, 1) := by decide +kernel
theorem dX7_set_3 : decode cX7_set 3 = .ok (.iload_n 2, 1) := by decide +kernel
theorem dX7_set_4 : decode cX7_set 4 = .ok (.iconst 0, 1) := by decide +kernel
theorem dX7_set_5 : decode cX7_set 5 = .ok (.bipush 59, 2) := by decide +kernel
theorem dX7_set_7 : decode cX7_set 7 = .ok (.invokevirtual 160, 3) := by decide +kernel
theorem dX7_set_10 : decode cX7_set 10 = .ok (.ireturn, 1) := by decide +kernel
theorem dX7_move_0 : decode cX7_move 0 = .ok (.aload_n 0, 1) := by decide +kernel
theorem dX7_move_1 : decode cX7_move 1 = .ok (.iload_n 1, 1) := by decide +kernel
theorem dX7_move_2 : decode cX7_move 2 = .ok (.iconst 3, 1) := by decide +kernel
theorem dX7_move_3 : decode cX7_move 3 = .ok (.iload_n 2, 1) := by decide +kernel
theorem dX7_move_4 : decode cX7_move 4 = .ok (.iconst 0, 1) := by decide +kernel
theorem dX7_move_5 : decode cX7_move 5 = .ok (.bipush 40, 2) := by decide +kernel
theorem dX7_move_7 : decode cX7_move 7 = .ok (.invokevirtual 160, 3) := by decide +kernel
theorem dX7_move_10 : decode cX7_move 10 = .ok (.ireturn, 1) := by decide +kernel
theorem dX7_tune_0 : decode cX7_tune 0 = .ok (.aload_n 0, 1) := by decide +kernel
theorem dX7_tune_1 : decode cX7_tune 1 = .ok (.iload_n 1, 1) := by decide +kernel
theorem dX7_tune_2 : decode cX7_tune 2 = .ok (.invokevirtual 107, 3) := by decide +kernel
theorem dX7_tune_5 : decode cX7_tune 5 = .ok (.ifCond .eq 15, 3) := by decide +kernel
theorem dX7_tune_8 : decode cX7_tune 8 = .ok (.iload_n 2, 1) := by decide +kernel
theorem dX7_tune_9 : decode cX7_tune 9 = .ok (.i2l, 1) := by decide +kernel
theorem dX7_tune_10 : decode cX7_tune 10 = .ok (.lconst 0, 1) := by decide +kernel
theorem dX7_tune_11 : decode cX7_tune 11 = .ok (.ldc2_w 164, 3) := by decide +kernel
theorem dX7_tune_14 : decode cX7_tune 14 = .ok (.invokestatic 53, 3) := by decide +kernel
theorem dX7_tune_17 : decode cX7_tune 17 = .ok (.ifCond .ne 5, 3) := by decide +kernel
theorem dX7_tune_20 : decode cX7_tune 20 = .ok (.iconst (-1), 1) := by decide +kernel
theorem dX7_tune_21 : decode cX7_tune 21 = .ok (.ireturn, 1) := by decide +kernel
theorem dX7_tune_22 : decode cX7_tune 22 = .ok (.aload_n 0, 1) := by decide +kernel
theorem dX7_tune_23 : decode cX7_tune 23 = .ok (.iload_n 1, 1) := by decide +kernel
theorem dX7_tune_24 : decode cX7_tune 24 = .ok (.iconst 2, 1) := by decide +kernel
theorem dX7_tune_25 : decode cX7_tune 25 = .ok (.invokevirtual 57, 3) := by decide +kernel
theorem dX7_tune_28 : decode cX7_tune 28 = .ok (.bipush 9, 2) := by decide +kernel
theorem dX7_tune_30 : decode cX7_tune 30 = .ok (.iadd, 1) := by decide +kernel
theorem dX7_tune_31 : decode cX7_tune 31 = .ok (.istore_n 3, 1) := by decide +kernel
theorem dX7_tune_32 : decode cX7_tune 32 = .ok (.iload_n 3, 1) := by decide +kernel
theorem dX7_tune_33 : decode cX7_tune 33 = .ok (.iload_n 2, 1) := by decide +kernel
theorem dX7_tune_34 : decode cX7_tune 34 = .ok (.if_icmp .ne 6, 3) := by decide +kernel
theorem dX7_tune_37 : decode cX7_tune 37 = .ok (.bipush (-2), 2) := by decide +kernel
theorem dX7_tune_39 : decode cX7_tune 39 = .ok (.ireturn, 1) := by decide +kernel
theorem dX7_tune_40 : decode cX7_tune 40 = .ok (.aload_n 0, 1) := by decide +kernel
theorem dX7_tune_41 : decode cX7_tune 41 = .ok (.invokevirtual 157, 3) := by decide +kernel
theorem dX7_tune_44 : decode cX7_tune 44 = .ok (.aload_n 0, 1) := by decide +kernel
theorem dX7_tune_45 : decode cX7_tune 45 = .ok (.iload_n 1, 1) := by decide +kernel
theorem dX7_tune_46 : decode cX7_tune 46 = .ok (.iconst 2, 1) := by decide +kernel
theorem dX7_tune_47 : decode cX7_tune 47 = .ok (.iload_n 2, 1) := by decide +kernel
theorem dX7_tune_48 : decode cX7_tune 48 = .ok (.bipush 9, 2) := by decide +kernel
theorem dX7_tune_50 : decode cX7_tune 50 = .ok (.isub, 1) := by decide +kernel
theorem dX7_tune_51 : decode cX7_tune 51 = .ok (.invokevirtual 81, 3) := by decide +kernel
theorem dX7_tune_54 : decode cX7_tune 54 = .ok (.iload_n 3, 1) := by decide +kernel
theorem dX7_tune_55 : decode cX7_tune 55 = .ok (.ireturn, 1) := by decide +kernel
theorem dX7_storm_0 : decode cX7_storm 0 = .ok (.iload_n 1, 1) := by decide +kernel
theorem dX7_storm_1 : decode cX7_storm 1 = .ok (.i2l, 1) := by decide +kernel
theorem dX7_storm_2 : decode cX7_storm 2 = .ok (.lconst 1, 1) := by decide +kernel
theorem dX7_storm_3 : decode cX7_storm 3 = .ok (.ldc2_w 155, 3) := by decide +kernel
theorem dX7_storm_6 : decode cX7_storm 6 = .ok (.invokestatic 53, 3) := by decide +kernel
theorem dX7_storm_9 : decode cX7_storm 9 = .ok (.ifCond .ne 5, 3) := by decide +kernel
theorem dX7_storm_12 : decode cX7_storm 12 = .ok (.iconst (-1), 1) := by decide +kernel
theorem dX7_storm_13 : decode cX7_storm 13 = .ok (.ireturn, 1) := by decide +kernel
theorem dX7_storm_14 : decode cX7_storm 14 = .ok (.aload_n 0, 1) := by decide +kernel
theorem dX7_storm_15 : decode cX7_storm 15 = .ok (.getfield 7, 3) := by decide +kernel
theorem dX7_storm_18 : decode cX7_storm 18 = .ok (.iconst 1, 1) := by decide +kernel
theorem dX7_storm_19 : decode cX7_storm 19 = .ok (.iaload, 1) := by decide +kernel
theorem dX7_storm_20 : decode cX7_storm 20 = .ok (.iload_n 1, 1) := by decide +kernel
theorem dX7_storm_21 : decode cX7_storm 21 = .ok (.iadd, 1) := by decide +kernel
theorem dX7_storm_22 : decode cX7_storm 22 = .ok (.sipush 9999, 3) := by decide +kernel
theorem dX7_storm_25 : decode cX7_storm 25 = .ok (.if_icmp .le 6, 3) := by decide +kernel
theorem dX7_storm_28 : decode cX7_storm 28 = .ok (.bipush (-3), 2) := by decide +kernel
theorem dX7_storm_30 : decode cX7_storm 30 = .ok (.ireturn, 1) := by decide +kernel
theorem dX7_storm_31 : decode cX7_storm 31 = .ok (.iconst 0, 1) := by decide +kernel
theorem dX7_storm_32 : decode cX7_storm 32 = .ok (.istore_n 2, 1) := by decide +kernel
theorem dX7_storm_33 : decode cX7_storm 33 = .ok (.iload_n 2, 1) := by decide +kernel
theorem dX7_storm_34 : decode cX7_storm 34 = .ok (.iload_n 1, 1) := by decide +kernel
theorem dX7_storm_35 : decode cX7_storm 35 = .ok (.if_icmp .ge 96, 3) := by decide +kernel
theorem dX7_storm_38 : decode cX7_storm 38 = .ok (.aload_n 0, 1) := by decide +kernel
theorem dX7_storm_39 : decode cX7_storm 39 = .ok (.invokevirtual 157, 3) := by decide +kernel
theorem dX7_storm_42 : decode cX7_storm 42 = .ok (.aload_n 0, 1) := by decide +kernel
theorem dX7_storm_43 : decode cX7_storm 43 = .ok (.getfield 7, 3) := by decide +kernel
theorem dX7_storm_46 : decode cX7_storm 46 = .ok (.iconst 2, 1) := by decide +kernel
theorem dX7_storm_47 : decode cX7_storm 47 = .ok (.aload_n 0, 1) := by decide +kernel
theorem dX7_storm_48 : decode cX7_storm 48 = .ok (.getfield 7, 3) := by decide +kernel
theorem dX7_storm_51 : decode cX7_storm 51 = .ok (.iconst 2, 1) := by decide +kernel
theorem dX7_storm_52 : decode cX7_storm 52 = .ok (.iaload, 1) := by decide +kernel
theorem dX7_storm_53 : decode cX7_storm 53 = .ok (.i2l, 1) := by decide +kernel
theorem dX7_storm_54 : decode cX7_storm 54 = .ok (.ldc2_w 166, 3) := by decide +kernel
theorem dX7_storm_57 : decode cX7_storm 57 = .ok (.lmul, 1) := by decide +kernel
theorem dX7_storm_58 : decode cX7_storm 58 = .ok (.ldc2_w 168, 3) := by decide +kernel
theorem dX7_storm_61 : decode cX7_storm 61 = .ok (.ladd, 1) := by decide +kernel
theorem dX7_storm_62 : decode cX7_storm 62 = .ok (.ldc2_w 170, 3) := by decide +kernel
theorem dX7_storm_65 : decode cX7_storm 65 = .ok (.land, 1) := by decide +kernel
theorem dX7_storm_66 : decode cX7_storm 66 = .ok (.l2i, 1) := by decide +kernel
theorem dX7_storm_67 : decode cX7_storm 67 = .ok (.iastore, 1) := by decide +kernel
theorem dX7_storm_68 : decode cX7_storm 68 = .ok (.aload_n 0, 1) := by decide +kernel
theorem dX7_storm_69 : decode cX7_storm 69 = .ok (.getfield 7, 3) := by decide +kernel
theorem dX7_storm_72 : decode cX7_storm 72 = .ok (.iconst 0, 1) := by decide +kernel
theorem dX7_storm_73 : decode cX7_storm 73 = .ok (.iaload, 1) := by decide +kernel
theorem dX7_storm_74 : decode cX7_storm 74 = .ok (.ifCond .le 47, 3) := by decide +kernel
theorem dX7_storm_77 : decode cX7_storm 77 = .ok (.aload_n 0, 1) := by decide +kernel
theorem dX7_storm_78 : decode cX7_storm 78 = .ok (.getfield 7, 3) := by decide +kernel
theorem dX7_storm_81 : decode cX7_storm 81 = .ok (.iconst 2, 1) := by decide +kernel
theorem dX7_storm_82 : decode cX7_storm 82 = .ok (.iaload, 1) := by decide +kernel
theorem dX7_storm_83 : decode cX7_storm 83 = .ok (.ldc 172, 2) := by decide +kernel
theorem dX7_storm_85 : decode cX7_storm 85 = .ok (.idiv, 1) := by decide +kernel
theorem dX7_storm_86 : decode cX7_storm 86 = .ok (.aload_n 0, 1) := by decide +kernel
theorem dX7_storm_87 : decode cX7_storm 87 = .ok (.getfield 7, 3) := by decide +kernel
theorem dX7_storm_90 : decode cX7_storm 90 = .ok (.iconst 0, 1) := by decide +kernel
theorem dX7_storm_91 : decode cX7_storm 91 = .ok (.iaload, 1) := by decide +kernel
theorem dX7_storm_92 : decode cX7_storm 92 = .ok (.irem, 1) := by decide +kernel
theorem dX7_storm_93 : decode cX7_storm 93 = .ok (.istore_n 3, 1) := by decide +kernel
theorem dX7_storm_94 : decode cX7_storm 94 = .ok (.aload_n 0, 1) := by decide +kernel
theorem dX7_storm_95 : decode cX7_storm 95 = .ok (.iload_n 3, 1) := by decide +kernel
theorem dX7_storm_96 : decode cX7_storm 96 = .ok (.iconst 1, 1) := by decide +kernel
theorem dX7_storm_97 : decode cX7_storm 97 = .ok (.aload_n 0, 1) := by decide +kernel
theorem dX7_storm_98 : decode cX7_storm 98 = .ok (.iload_n 3, 1) := by decide +kernel
theorem dX7_storm_99 : decode cX7_storm 99 = .ok (.invokevirtual 65, 3) := by decide +kernel
theorem dX7_storm_102 : decode cX7_storm 102 = .ok (.aload_n 0, 1) := by decide +kernel
theorem dX7_storm_103 : decode cX7_storm 103 = .ok (.getfield 7, 3) := by decide +kernel
theorem dX7_storm_106 : decode cX7_storm 106 = .ok (.iconst 2, 1) := by decide +kernel
theorem dX7_storm_107 : decode cX7_storm 107 = .ok (.iaload, 1) := by decide +kernel
theorem dX7_storm_108 : decode cX7_storm 108 = .ok (.sipush 128, 3) := by decide +kernel
theorem dX7_storm_111 : decode cX7_storm 111 = .ok (.idiv, 1) := by decide +kernel
theorem dX7_storm_112 : decode cX7_storm 112 = .ok (.iconst 5, 1) := by decide +kernel
theorem dX7_storm_113 : decode cX7_storm 113 = .ok (.irem, 1) := by decide +kernel
theorem dX7_storm_114 : decode cX7_storm 114 = .ok (.iadd, 1) := by decide +kernel
theorem dX7_storm_115 : decode cX7_storm 115 = .ok (.invokestatic 61, 3) := by decide +kernel
theorem dX7_storm_118 : decode cX7_storm 118 = .ok (.invokevirtual 81, 3) := by decide +kernel
theorem dX7_storm_121 : decode cX7_storm 121 = .ok (.aload_n 0, 1) := by decide +kernel
theorem dX7_storm_122 : decode cX7_storm 122 = .ok (.invokevirtual 85, 3) := by decide +kernel
theorem dX7_storm_125 : decode cX7_storm 125 = .ok (.iinc 2 1, 3) := by decide +kernel
theorem dX7_storm_128 : decode cX7_storm 128 = .ok (.goto (-95), 3) := by decide +kernel
theorem dX7_storm_131 : decode cX7_storm 131 = .ok (.aload_n 0, 1) := by decide +kernel
theorem dX7_storm_132 : decode cX7_storm 132 = .ok (.invokevirtual 114, 3) := by decide +kernel
theorem dX7_storm_135 : decode cX7_storm 135 = .ok (.ireturn, 1) := by decide +kernel
theorem dX7_undo_0 : decode cX7_undo 0 = .ok (.aload_n 0, 1) := by decide +kernel
theorem dX7_undo_1 : decode cX7_undo 1 = .ok (.getfield 91, 3) := by decide +kernel
theorem dX7_undo_4 : decode cX7_undo 4 = .ok (.ifCond .ne 6, 3) := by decide +kernel
theorem dX7_undo_7 : decode cX7_undo 7 = .ok (.bipush (-4), 2) := by decide +kernel
theorem dX7_undo_9 : decode cX7_undo 9 = .ok (.ireturn, 1) := by decide +kernel
theorem dX7_undo_10 : decode cX7_undo 10 = .ok (.aload_n 0, 1) := by decide +kernel
theorem dX7_undo_11 : decode cX7_undo 11 = .ok (.dup, 1) := by decide +kernel
theorem dX7_undo_12 : decode cX7_undo 12 = .ok (.getfield 91, 3) := by decide +kernel
theorem dX7_undo_15 : decode cX7_undo 15 = .ok (.iconst 1, 1) := by decide +kernel
theorem dX7_undo_16 : decode cX7_undo 16 = .ok (.isub, 1) := by decide +kernel
theorem dX7_undo_17 : decode cX7_undo 17 = .ok (.putfield 91, 3) := by decide +kernel
theorem dX7_undo_20 : decode cX7_undo 20 = .ok (.iconst 0, 1) := by decide +kernel
theorem dX7_undo_21 : decode cX7_undo 21 = .ok (.istore_n 1, 1) := by decide +kernel
theorem dX7_undo_22 : decode cX7_undo 22 = .ok (.iload_n 1, 1) := by decide +kernel
theorem dX7_undo_23 : decode cX7_undo 23 = .ok (.bipush 27, 2) := by decide +kernel
theorem dX7_undo_25 : decode cX7_undo 25 = .ok (.if_icmp .ge 29, 3) := by decide +kernel
theorem dX7_undo_28 : decode cX7_undo 28 = .ok (.aload_n 0, 1) := by decide +kernel
theorem dX7_undo_29 : decode cX7_undo 29 = .ok (.getfield 7, 3) := by decide +kernel
theorem dX7_undo_32 : decode cX7_undo 32 = .ok (.iload_n 1, 1) := by decide +kernel
theorem dX7_undo_33 : decode cX7_undo 33 = .ok (.aload_n 0, 1) := by decide +kernel
theorem dX7_undo_34 : decode cX7_undo 34 = .ok (.getfield 22, 3) := by decide +kernel
theorem dX7_undo_37 : decode cX7_undo 37 = .ok (.bipush 27, 2) := by decide +kernel
theorem dX7_undo_39 : decode cX7_undo 39 = .ok (.aload_n 0, 1) := by decide +kernel
theorem dX7_undo_40 : decode cX7_undo 40 = .ok (.getfield 91, 3) := by decide +kernel
theorem dX7_undo_43 : decode cX7_undo 43 = .ok (.imul, 1) := by decide +kernel
theorem dX7_undo_44 : decode cX7_undo 44 = .ok (.iload_n 1, 1) := by decide +kernel
theorem dX7_undo_45 : decode cX7_undo 45 = .ok (.iadd, 1) := by decide +kernel
theorem dX7_undo_46 : decode cX7_undo 46 = .ok (.iaload, 1) := by decide +kernel
theorem dX7_undo_47 : decode cX7_undo 47 = .ok (.iastore, 1) := by decide +kernel
theorem dX7_undo_48 : decode cX7_undo 48 = .ok (.iinc 1 1, 3) := by decide +kernel
theorem dX7_undo_51 : decode cX7_undo 51 = .ok (.goto (-29), 3) := by decide +kernel
theorem dX7_undo_54 : decode cX7_undo 54 = .ok (.aload_n 0, 1) := by decide +kernel
theorem dX7_undo_55 : decode cX7_undo 55 = .ok (.getfield 91, 3) := by decide +kernel
theorem dX7_undo_58 : decode cX7_undo 58 = .ok (.ireturn, 1) := by decide +kernel
theorem dX7_seed_0 : decode cX7_seed 0 = .ok (.iload_n 1, 1) := by decide +kernel
theorem dX7_seed_1 : decode cX7_seed 1 = .ok (.ifCond .ge 5, 3) := by decide +kernel
theorem dX7_seed_4 : decode cX7_seed 4 = .ok (.iconst (-1), 1) := by decide +kernel
theorem dX7_seed_5 : decode cX7_seed 5 = .ok (.ireturn, 1) := by decide +kernel
theorem dX7_seed_6 : decode cX7_seed 6 = .ok (.aload_n 0, 1) := by decide +kernel
theorem dX7_seed_7 : decode cX7_seed 7 = .ok (.getfield 7, 3) := by decide +kernel
theorem dX7_seed_10 : decode cX7_seed 10 = .ok (.iconst 2, 1) := by decide +kernel
theorem dX7_seed_11 : decode cX7_seed 11 = .ok (.iaload, 1) := by decide +kernel
theorem dX7_seed_12 : decode cX7_seed 12 = .ok (.istore_n 2, 1) := by decide +kernel
theorem dX7_seed_13 : decode cX7_seed 13 = .ok (.aload_n 0, 1) := by decide +kernel
theorem dX7_seed_14 : decode cX7_seed 14 = .ok (.getfield 7, 3) := by decide +kernel
theorem dX7_seed_17 : decode cX7_seed 17 = .ok (.iconst 2, 1) := by decide +kernel
theorem dX7_seed_18 : decode cX7_seed 18 = .ok (.iload_n 1, 1) := by decide +kernel
theorem dX7_seed_19 : decode cX7_seed 19 = .ok (.iastore, 1) := by decide +kernel
theorem dX7_seed_20 : decode cX7_seed 20 = .ok (.iload_n 2, 1) := by decide +kernel
theorem dX7_seed_21 : decode cX7_seed 21 = .ok (.ireturn, 1) := by decide +kernel
theorem dX7_asides_0 : decode cX7_asides 0 = .ok (.iconst 0, 1) := by decide +kernel
theorem dX7_asides_1 : decode cX7_asides 1 = .ok (.istore_n 1, 1) := by decide +kernel
theorem dX7_asides_2 : decode cX7_asides 2 = .ok (.iload_n 1, 1) := by decide +kernel
theorem dX7_asides_3 : decode cX7_asides 3 = .ok (.bipush 27, 2) := by decide +kernel
theorem dX7_asides_5 : decode cX7_asides 5 = .ok (.if_icmp .ge 21, 3) := by decide +kernel
theorem dX7_asides_8 : decode cX7_asides 8 = .ok (.aload_n 0, 1) := by decide +kernel
theorem dX7_asides_9 : decode cX7_asides 9 = .ok (.getfield 25, 3) := by decide +kernel
theorem dX7_asides_12 : decode cX7_asides 12 = .ok (.iload_n 1, 1) := by decide +kernel
theorem dX7_asides_13 : decode cX7_asides 13 = .ok (.aload_n 0, 1) := by decide +kernel
theorem dX7_asides_14 : decode cX7_asides 14 = .ok (.getfield 7, 3) := by decide +kernel
theorem dX7_asides_17 : decode cX7_asides 17 = .ok (.iload_n 1, 1) := by decide +kernel
theorem dX7_asides_18 : decode cX7_asides 18 = .ok (.iaload, 1) := by decide +kernel
theorem dX7_asides_19 : decode cX7_asides 19 = .ok (.iastore, 1) := by decide +kernel
theorem dX7_asides_20 : decode cX7_asides 20 = .ok (.iinc 1 1, 3) := by decide +kernel
theorem dX7_asides_23 : decode cX7_asides 23 = .ok (.goto (-21), 3) := by decide +kernel
theorem dX7_asides_26 : decode cX7_asides 26 = .ok (.return_, 1) := by decide +kernel
theorem dX7_backs_0 : decode cX7_backs 0 = .ok (.iconst 0, 1) := by decide +kernel
theorem dX7_backs_1 : decode cX7_backs 1 = .ok (.istore_n 1, 1) := by decide +kernel
theorem dX7_backs_2 : decode cX7_backs 2 = .ok (.iload_n 1, 1) := by decide +kernel
theorem dX7_backs_3 : decode cX7_backs 3 = .ok (.bipush 27, 2) := by decide +kernel
theorem dX7_backs_5 : decode cX7_backs 5 = .ok (.if_icmp .ge 21, 3) := by decide +kernel
theorem dX7_backs_8 : decode cX7_backs 8 = .ok (.aload_n 0, 1) := by decide +kernel
theorem dX7_backs_9 : decode cX7_backs 9 = .ok (.getfield 7, 3) := by decide +kernel
theorem dX7_backs_12 : decode cX7_backs 12 = .ok (.iload_n 1, 1) := by decide +kernel
theorem dX7_backs_13 : decode cX7_backs 13 = .ok (.aload_n 0, 1) := by decide +kernel
theorem dX7_backs_14 : decode cX7_backs 14 = .ok (.getfield 25, 3) := by decide +kernel
theorem dX7_backs_17 : decode cX7_backs 17 = .ok (.iload_n 1, 1) := by decide +kernel
theorem dX7_backs_18 : decode cX7_backs 18 = .ok (.iaload, 1) := by decide +kernel
theorem dX7_backs_19 : decode cX7_backs 19 = .ok (.iastore, 1) := by decide +kernel
theorem dX7_backs_20 : decode cX7_backs 20 = .ok (.iinc 1 1, 3) := by decide +kernel
theorem dX7_backs_23 : decode cX7_backs 23 = .ok (.goto (-21), 3) := by decide +kernel
theorem dX7_backs_26 : decode cX7_backs 26 = .ok (.return_, 1) := by decide +kernel
theorem dX7_ahead_0 : decode cX7_ahead 0 = .ok (.aload_n 0, 1) := by decide +kernel
theorem dX7_ahead_1 : decode cX7_ahead 1 = .ok (.iload_n 1, 1) := by decide +kernel
theorem dX7_ahead_2 : decode cX7_ahead 2 = .ok (.invokevirtual 107, 3) := by decide +kernel
theorem dX7_ahead_5 : decode cX7_ahead 5 = .ok (.ifCond .eq 15, 3) := by decide +kernel
theorem dX7_ahead_8 : decode cX7_ahead 8 = .ok (.iload_n 2, 1) := by decide +kernel
theorem dX7_ahead_9 : decode cX7_ahead 9 = .ok (.i2l, 1) := by decide +kernel
theorem dX7_ahead_10 : decode cX7_ahead 10 = .ok (.lconst 0, 1) := by decide +kernel
theorem dX7_ahead_11 : decode cX7_ahead 11 = .ok (.ldc2_w 173, 3) := by decide +kernel
theorem dX7_ahead_14 : decode cX7_ahead 14 = .ok (.invokestatic 53, 3) := by decide +kernel
theorem dX7_ahead_17 : decode cX7_ahead 17 = .ok (.ifCond .ne 5, 3) := by decide +kernel
theorem dX7_ahead_20 : decode cX7_ahead 20 = .ok (.iconst (-1), 1) := by decide +kernel
theorem dX7_ahead_21 : decode cX7_ahead 21 = .ok (.ireturn, 1) := by decide +kernel
theorem dX7_ahead_22 : decode cX7_ahead 22 = .ok (.aload_n 0, 1) := by decide +kernel
theorem dX7_ahead_23 : decode cX7_ahead 23 = .ok (.invokevirtual 175, 3) := by decide +kernel
theorem dX7_ahead_26 : decode cX7_ahead 26 = .ok (.aload_n 0, 1) := by decide +kernel
theorem dX7_ahead_27 : decode cX7_ahead 27 = .ok (.iload_n 2, 1) := by decide +kernel
theorem dX7_ahead_28 : decode cX7_ahead 28 = .ok (.invokevirtual 178, 3) := by decide +kernel
theorem dX7_ahead_31 : decode cX7_ahead 31 = .ok (.aload_n 0, 1) := by decide +kernel
theorem dX7_ahead_32 : decode cX7_ahead 32 = .ok (.iload_n 1, 1) := by decide +kernel
theorem dX7_ahead_33 : decode cX7_ahead 33 = .ok (.invokevirtual 65, 3) := by decide +kernel
theorem dX7_ahead_36 : decode cX7_ahead 36 = .ok (.istore_n 3, 1) := by decide +kernel
theorem dX7_ahead_37 : decode cX7_ahead 37 = .ok (.aload_n 0, 1) := by decide +kernel
theorem dX7_ahead_38 : decode cX7_ahead 38 = .ok (.invokevirtual 182, 3) := by decide +kernel
theorem dX7_ahead_41 : decode cX7_ahead 41 = .ok (.iload_n 3, 1) := by decide +kernel
theorem dX7_ahead_42 : decode cX7_ahead 42 = .ok (.ireturn, 1) := by decide +kernel
theorem dX7_near_0 : decode cX7_near 0 = .ok (.iload_n 1, 1) := by decide +kernel
theorem dX7_near_1 : decode cX7_near 1 = .ok (.i2l, 1) := by decide +kernel
theorem dX7_near_2 : decode cX7_near 2 = .ok (.lconst 0, 1) := by decide +kernel
theorem dX7_near_3 : decode cX7_near 3 = .ok (.ldc2_w 173, 3) := by decide +kernel
theorem dX7_near_6 : decode cX7_near 6 = .ok (.invokestatic 53, 3) := by decide +kernel
theorem dX7_near_9 : decode cX7_near 9 = .ok (.ifCond .ne 5, 3) := by decide +kernel
theorem dX7_near_12 : decode cX7_near 12 = .ok (.iconst (-1), 1) := by decide +kernel
theorem dX7_near_13 : decode cX7_near 13 = .ok (.ireturn, 1) := by decide +kernel
theorem dX7_near_14 : decode cX7_near 14 = .ok (.aload_n 0, 1) := by decide +kernel
theorem dX7_near_15 : decode cX7_near 15 = .ok (.invokevirtual 175, 3) := by decide +kernel
theorem dX7_near_18 : decode cX7_near 18 = .ok (.aload_n 0, 1) := by decide +kernel
theorem dX7_near_19 : decode cX7_near 19 = .ok (.iload_n 1, 1) := by decide +kernel
theorem dX7_near_20 : decode cX7_near 20 = .ok (.invokevirtual 178, 3) := by decide +kernel
theorem dX7_near_23 : decode cX7_near 23 = .ok (.aload_n 0, 1) := by decide +kernel
theorem dX7_near_24 : decode cX7_near 24 = .ok (.invokevirtual 114, 3) := by decide +kernel
theorem dX7_near_27 : decode cX7_near 27 = .ok (.istore_n 2, 1) := by decide +kernel
theorem dX7_near_28 : decode cX7_near 28 = .ok (.aload_n 0, 1) := by decide +kernel
theorem dX7_near_29 : decode cX7_near 29 = .ok (.invokevirtual 182, 3) := by decide +kernel
theorem dX7_near_32 : decode cX7_near 32 = .ok (.iload_n 2, 1) := by decide +kernel
theorem dX7_near_33 : decode cX7_near 33 = .ok (.ireturn, 1) := by decide +kernel
theorem dX7_meet_0 : decode cX7_meet 0 = .ok (.aload_n 0, 1) := by decide +kernel
theorem dX7_meet_1 : decode cX7_meet 1 = .ok (.iload_n 1, 1) := by decide +kernel
theorem dX7_meet_2 : decode cX7_meet 2 = .ok (.iload_n 2, 1) := by decide +kernel
theorem dX7_meet_3 : decode cX7_meet 3 = .ok (.invokevirtual 110, 3) := by decide +kernel
theorem dX7_meet_6 : decode cX7_meet 6 = .ok (.ifCond .ne 5, 3) := by decide +kernel
theorem dX7_meet_9 : decode cX7_meet 9 = .ok (.iconst (-1), 1) := by decide +kernel
theorem dX7_meet_10 : decode cX7_meet 10 = .ok (.ireturn, 1) := by decide +kernel
theorem dX7_meet_11 : decode cX7_meet 11 = .ok (.aload_n 0, 1) := by decide +kernel
theorem dX7_meet_12 : decode cX7_meet 12 = .ok (.invokevirtual 175, 3) := by decide +kernel
theorem dX7_meet_15 : decode cX7_meet 15 = .ok (.iconst 0, 1) := by decide +kernel
theorem dX7_meet_16 : decode cX7_meet 16 = .ok (.istore_n 3, 1) := by decide +kernel
theorem dX7_meet_17 : decode cX7_meet 17 = .ok (.iload_n 3, 1) := by decide +kernel
theorem dX7_meet_18 : decode cX7_meet 18 = .ok (.bipush 61, 2) := by decide +kernel
theorem dX7_meet_20 : decode cX7_meet 20 = .ok (.if_icmp .ge 26, 3) := by decide +kernel
theorem dX7_meet_23 : decode cX7_meet 23 = .ok (.aload_n 0, 1) := by decide +kernel
theorem dX7_meet_24 : decode cX7_meet 24 = .ok (.iload_n 1, 1) := by decide +kernel
theorem dX7_meet_25 : decode cX7_meet 25 = .ok (.invokevirtual 65, 3) := by decide +kernel
theorem dX7_meet_28 : decode cX7_meet 28 = .ok (.aload_n 0, 1) := by decide +kernel
theorem dX7_meet_29 : decode cX7_meet 29 = .ok (.iload_n 2, 1) := by decide +kernel
theorem dX7_meet_30 : decode cX7_meet 30 = .ok (.invokevirtual 65, 3) := by decide +kernel
theorem dX7_meet_33 : decode cX7_meet 33 = .ok (.if_icmp .eq 13, 3) := by decide +kernel
theorem dX7_meet_36 : decode cX7_meet 36 = .ok (.aload_n 0, 1) := by decide +kernel
theorem dX7_meet_37 : decode cX7_meet 37 = .ok (.invokevirtual 85, 3) := by decide +kernel
theorem dX7_meet_40 : decode cX7_meet 40 = .ok (.iinc 3 1, 3) := by decide +kernel
theorem dX7_meet_43 : decode cX7_meet 43 = .ok (.goto (-26), 3) := by decide +kernel
theorem dX7_meet_46 : decode cX7_meet 46 = .ok (.aload_n 0, 1) := by decide +kernel
theorem dX7_meet_47 : decode cX7_meet 47 = .ok (.invokevirtual 182, 3) := by decide +kernel
theorem dX7_meet_50 : decode cX7_meet 50 = .ok (.iload_n 3, 1) := by decide +kernel
theorem dX7_meet_51 : decode cX7_meet 51 = .ok (.bipush 61, 2) := by decide +kernel
theorem dX7_meet_53 : decode cX7_meet 53 = .ok (.if_icmp .ge 7, 3) := by decide +kernel
theorem dX7_meet_56 : decode cX7_meet 56 = .ok (.iload_n 3, 1) := by decide +kernel
theorem dX7_meet_57 : decode cX7_meet 57 = .ok (.goto 5, 3) := by decide +kernel
theorem dX7_meet_60 : decode cX7_meet 60 = .ok (.bipush (-4), 2) := by decide +kernel
theorem dX7_meet_62 : decode cX7_meet 62 = .ok (.ireturn, 1) := by decide +kernel
theorem dX7_whenTogether_0 : decode cX7_whenTogether 0 = .ok (.iconst 0, 1) := by decide +kernel
theorem dX7_whenTogether_1 : decode cX7_whenTogether 1 = .ok (.istore_n 1, 1) := by decide +kernel
theorem dX7_whenTogether_2 : decode cX7_whenTogether 2 = .ok (.iload_n 1, 1) := by decide +kernel
theorem dX7_whenTogether_3 : decode cX7_whenTogether 3 = .ok (.bipush 61, 2) := by decide +kernel
theorem dX7_whenTogether_5 : decode cX7_whenTogether 5 = .ok (.if_icmp .ge 20, 3) := by decide +kernel
theorem dX7_whenTogether_8 : decode cX7_whenTogether 8 = .ok (.aload_n 0, 1) := by decide +kernel
theorem dX7_whenTogether_9 : decode cX7_whenTogether 9 = .ok (.invokevirtual 118, 3) := by decide +kernel
theorem dX7_whenTogether_12 : decode cX7_whenTogether 12 = .ok (.ifCond .ne 13, 3) := by decide +kernel
theorem dX7_whenTogether_15 : decode cX7_whenTogether 15 = .ok (.aload_n 0, 1) := by decide +kernel
theorem dX7_whenTogether_16 : decode cX7_whenTogether 16 = .ok (.invokevirtual 85, 3) := by decide +kernel
theorem dX7_whenTogether_19 : decode cX7_whenTogether 19 = .ok (.iinc 1 1, 3) := by decide +kernel
theorem dX7_whenTogether_22 : decode cX7_whenTogether 22 = .ok (.goto (-20), 3) := by decide +kernel
theorem dX7_whenTogether_25 : decode cX7_whenTogether 25 = .ok (.aload_n 0, 1) := by decide +kernel
theorem dX7_whenTogether_26 : decode cX7_whenTogether 26 = .ok (.iload_n 1, 1) := by decide +kernel
theorem dX7_whenTogether_27 : decode cX7_whenTogether 27 = .ok (.bipush 61, 2) := by decide +kernel
theorem dX7_whenTogether_29 : decode cX7_whenTogether 29 = .ok (.if_icmp .ge 10, 3) := by decide +kernel
theorem dX7_whenTogether_32 : decode cX7_whenTogether 32 = .ok (.aload_n 0, 1) := by decide +kernel
theorem dX7_whenTogether_33 : decode cX7_whenTogether 33 = .ok (.invokevirtual 118, 3) := by decide +kernel
theorem dX7_whenTogether_36 : decode cX7_whenTogether 36 = .ok (.goto 4, 3) := by decide +kernel
theorem dX7_whenTogether_39 : decode cX7_whenTogether 39 = .ok (.iconst 0, 1) := by decide +kernel
theorem dX7_whenTogether_40 : decode cX7_whenTogether 40 = .ok (.putfield 185, 3) := by decide +kernel
theorem dX7_whenTogether_43 : decode cX7_whenTogether 43 = .ok (.aload_n 0, 1) := by decide +kernel
theorem dX7_whenTogether_44 : decode cX7_whenTogether 44 = .ok (.invokevirtual 182, 3) := by decide +kernel
theorem dX7_whenTogether_47 : decode cX7_whenTogether 47 = .ok (.iload_n 1, 1) := by decide +kernel
theorem dX7_whenTogether_48 : decode cX7_whenTogether 48 = .ok (.bipush 61, 2) := by decide +kernel
theorem dX7_whenTogether_50 : decode cX7_whenTogether 50 = .ok (.if_icmp .ge 7, 3) := by decide +kernel
theorem dX7_whenTogether_53 : decode cX7_whenTogether 53 = .ok (.iload_n 1, 1) := by decide +kernel
theorem dX7_whenTogether_54 : decode cX7_whenTogether 54 = .ok (.goto 5, 3) := by decide +kernel
theorem dX7_whenTogether_57 : decode cX7_whenTogether 57 = .ok (.bipush (-4), 2) := by decide +kernel
theorem dX7_whenTogether_59 : decode cX7_whenTogether 59 = .ok (.ireturn, 1) := by decide +kernel
theorem dX7_together_0 : decode cX7_together 0 = .ok (.iload_n 1, 1) := by decide +kernel
theorem dX7_together_1 : decode cX7_together 1 = .ok (.i2l, 1) := by decide +kernel
theorem dX7_together_2 : decode cX7_together 2 = .ok (.lconst 0, 1) := by decide +kernel
theorem dX7_together_3 : decode cX7_together 3 = .ok (.lconst 1, 1) := by decide +kernel
theorem dX7_together_4 : decode cX7_together 4 = .ok (.invokestatic 53, 3) := by decide +kernel
theorem dX7_together_7 : decode cX7_together 7 = .ok (.ifCond .ne 5, 3) := by decide +kernel
theorem dX7_together_10 : decode cX7_together 10 = .ok (.iconst (-1), 1) := by decide +kernel
theorem dX7_together_11 : decode cX7_together 11 = .ok (.ireturn, 1) := by decide +kernel
theorem dX7_together_12 : decode cX7_together 12 = .ok (.aload_n 0, 1) := by decide +kernel
theorem dX7_together_13 : decode cX7_together 13 = .ok (.invokevirtual 175, 3) := by decide +kernel
theorem dX7_together_16 : decode cX7_together 16 = .ok (.aload_n 0, 1) := by decide +kernel
theorem dX7_together_17 : decode cX7_together 17 = .ok (.invokevirtual 188, 3) := by decide +kernel
theorem dX7_together_20 : decode cX7_together 20 = .ok (.istore_n 2, 1) := by decide +kernel
theorem dX7_together_21 : decode cX7_together 21 = .ok (.iload_n 1, 1) := by decide +kernel
theorem dX7_together_22 : decode cX7_together 22 = .ok (.ifCond .ne 7, 3) := by decide +kernel
theorem dX7_together_25 : decode cX7_together 25 = .ok (.iload_n 2, 1) := by decide +kernel
theorem dX7_together_26 : decode cX7_together 26 = .ok (.goto 7, 3) := by decide +kernel
theorem dX7_together_29 : decode cX7_together 29 = .ok (.aload_n 0, 1) := by decide +kernel
theorem dX7_together_30 : decode cX7_together 30 = .ok (.getfield 185, 3) := by decide +kernel
theorem dX7_together_33 : decode cX7_together 33 = .ok (.ireturn, 1) := by decide +kernel
theorem dX7_setsIn_0 : decode cX7_setsIn 0 = .ok (.iload_n 1, 1) := by decide +kernel
theorem dX7_setsIn_1 : decode cX7_setsIn 1 = .ok (.istore_n 3, 1) := by decide +kernel
theorem dX7_setsIn_2 : decode cX7_setsIn 2 = .ok (.iconst 0, 1) := by decide +kernel
theorem dX7_setsIn_3 : decode cX7_setsIn 3 = .ok (.istore 4, 2) := by decide +kernel
theorem dX7_setsIn_5 : decode cX7_setsIn 5 = .ok (.aload_n 0, 1) := by decide +kernel
theorem dX7_setsIn_6 : decode cX7_setsIn 6 = .ok (.getfield 7, 3) := by decide +kernel
theorem dX7_setsIn_9 : decode cX7_setsIn 9 = .ok (.iconst 0, 1) := by decide +kernel
theorem dX7_setsIn_10 : decode cX7_setsIn 10 = .ok (.iaload, 1) := by decide +kernel
theorem dX7_setsIn_11 : decode cX7_setsIn 11 = .ok (.iconst 1, 1) := by decide +kernel
theorem dX7_setsIn_12 : decode cX7_setsIn 12 = .ok (.isub, 1) := by decide +kernel
theorem dX7_setsIn_13 : decode cX7_setsIn 13 = .ok (.istore 5, 2) := by decide +kernel
theorem dX7_setsIn_15 : decode cX7_setsIn 15 = .ok (.iload 5, 2) := by decide +kernel
theorem dX7_setsIn_17 : decode cX7_setsIn 17 = .ok (.ifCond .lt 60, 3) := by decide +kernel
theorem dX7_setsIn_20 : decode cX7_setsIn 20 = .ok (.aload_n 0, 1) := by decide +kernel
theorem dX7_setsIn_21 : decode cX7_setsIn 21 = .ok (.getfield 28, 3) := by decide +kernel
theorem dX7_setsIn_24 : decode cX7_setsIn 24 = .ok (.iload 5, 2) := by decide +kernel
theorem dX7_setsIn_26 : decode cX7_setsIn 26 = .ok (.iload_n 3, 1) := by decide +kernel
theorem dX7_setsIn_27 : decode cX7_setsIn 27 = .ok (.iconst 5, 1) := by decide +kernel
theorem dX7_setsIn_28 : decode cX7_setsIn 28 = .ok (.irem, 1) := by decide +kernel
theorem dX7_setsIn_29 : decode cX7_setsIn 29 = .ok (.iastore, 1) := by decide +kernel
theorem dX7_setsIn_30 : decode cX7_setsIn 30 = .ok (.iload_n 3, 1) := by decide +kernel
theorem dX7_setsIn_31 : decode cX7_setsIn 31 = .ok (.iconst 5, 1) := by decide +kernel
theorem dX7_setsIn_32 : decode cX7_setsIn 32 = .ok (.idiv, 1) := by decide +kernel
theorem dX7_setsIn_33 : decode cX7_setsIn 33 = .ok (.istore_n 3, 1) := by decide +kernel
theorem dX7_setsIn_34 : decode cX7_setsIn 34 = .ok (.iload 4, 2) := by decide +kernel
theorem dX7_setsIn_36 : decode cX7_setsIn 36 = .ok (.aload_n 0, 1) := by decide +kernel
theorem dX7_setsIn_37 : decode cX7_setsIn 37 = .ok (.getfield 28, 3) := by decide +kernel
theorem dX7_setsIn_40 : decode cX7_setsIn 40 = .ok (.iload 5, 2) := by decide +kernel
theorem dX7_setsIn_42 : decode cX7_setsIn 42 = .ok (.iaload, 1) := by decide +kernel
theorem dX7_setsIn_43 : decode cX7_setsIn 43 = .ok (.iconst 2, 1) := by decide +kernel
theorem dX7_setsIn_44 : decode cX7_setsIn 44 = .ok (.if_icmp .ge 15, 3) := by decide +kernel
theorem dX7_setsIn_47 : decode cX7_setsIn 47 = .ok (.iconst 2, 1) := by decide +kernel
theorem dX7_setsIn_48 : decode cX7_setsIn 48 = .ok (.aload_n 0, 1) := by decide +kernel
theorem dX7_setsIn_49 : decode cX7_setsIn 49 = .ok (.getfield 28, 3) := by decide +kernel
theorem dX7_setsIn_52 : decode cX7_setsIn 52 = .ok (.iload 5, 2) := by decide +kernel
theorem dX7_setsIn_54 : decode cX7_setsIn 54 = .ok (.iaload, 1) := by decide +kernel
theorem dX7_setsIn_55 : decode cX7_setsIn 55 = .ok (.isub, 1) := by decide +kernel
theorem dX7_setsIn_56 : decode cX7_setsIn 56 = .ok (.goto 12, 3) := by decide +kernel
theorem dX7_setsIn_59 : decode cX7_setsIn 59 = .ok (.aload_n 0, 1) := by decide +kernel
theorem dX7_setsIn_60 : decode cX7_setsIn 60 = .ok (.getfield 28, 3) := by decide +kernel
theorem dX7_setsIn_63 : decode cX7_setsIn 63 = .ok (.iload 5, 2) := by decide +kernel
theorem dX7_setsIn_65 : decode cX7_setsIn 65 = .ok (.iaload, 1) := by decide +kernel
theorem dX7_setsIn_66 : decode cX7_setsIn 66 = .ok (.iconst 2, 1) := by decide +kernel
theorem dX7_setsIn_67 : decode cX7_setsIn 67 = .ok (.isub, 1) := by decide +kernel
theorem dX7_setsIn_68 : decode cX7_setsIn 68 = .ok (.iadd, 1) := by decide +kernel
theorem dX7_setsIn_69 : decode cX7_setsIn 69 = .ok (.istore 4, 2) := by decide +kernel
theorem dX7_setsIn_71 : decode cX7_setsIn 71 = .ok (.iinc 5 (-1), 3) := by decide +kernel
theorem dX7_setsIn_74 : decode cX7_setsIn 74 = .ok (.goto (-59), 3) := by decide +kernel
theorem dX7_setsIn_77 : decode cX7_setsIn 77 = .ok (.iconst 0, 1) := by decide +kernel
theorem dX7_setsIn_78 : decode cX7_setsIn 78 = .ok (.istore 5, 2) := by decide +kernel
theorem dX7_setsIn_80 : decode cX7_setsIn 80 = .ok (.iload 5, 2) := by decide +kernel
theorem dX7_setsIn_82 : decode cX7_setsIn 82 = .ok (.aload_n 0, 1) := by decide +kernel
theorem dX7_setsIn_83 : decode cX7_setsIn 83 = .ok (.getfield 7, 3) := by decide +kernel
theorem dX7_setsIn_86 : decode cX7_setsIn 86 = .ok (.iconst 0, 1) := by decide +kernel
theorem dX7_setsIn_87 : decode cX7_setsIn 87 = .ok (.iaload, 1) := by decide +kernel
theorem dX7_setsIn_88 : decode cX7_setsIn 88 = .ok (.if_icmp .ge 63, 3) := by decide +kernel
theorem dX7_setsIn_91 : decode cX7_setsIn 91 = .ok (.iconst 0, 1) := by decide +kernel
theorem dX7_setsIn_92 : decode cX7_setsIn 92 = .ok (.istore 6, 2) := by decide +kernel
theorem dX7_setsIn_94 : decode cX7_setsIn 94 = .ok (.iload 6, 2) := by decide +kernel
theorem dX7_setsIn_96 : decode cX7_setsIn 96 = .ok (.iload 5, 2) := by decide +kernel
theorem dX7_setsIn_98 : decode cX7_setsIn 98 = .ok (.if_icmp .ge 47, 3) := by decide +kernel
theorem dX7_setsIn_101 : decode cX7_setsIn 101 = .ok (.aload_n 0, 1) := by decide +kernel
theorem dX7_setsIn_102 : decode cX7_setsIn 102 = .ok (.iload 5, 2) := by decide +kernel
theorem dX7_setsIn_104 : decode cX7_setsIn 104 = .ok (.invokevirtual 65, 3) := by decide +kernel
theorem dX7_setsIn_107 : decode cX7_setsIn 107 = .ok (.aload_n 0, 1) := by decide +kernel
theorem dX7_setsIn_108 : decode cX7_setsIn 108 = .ok (.getfield 28, 3) := by decide +kernel
theorem dX7_setsIn_111 : decode cX7_setsIn 111 = .ok (.iload 5, 2) := by decide +kernel
theorem dX7_setsIn_113 : decode cX7_setsIn 113 = .ok (.iaload, 1) := by decide +kernel
theorem dX7_setsIn_114 : decode cX7_setsIn 114 = .ok (.iadd, 1) := by decide +kernel
theorem dX7_setsIn_115 : decode cX7_setsIn 115 = .ok (.aload_n 0, 1) := by decide +kernel
theorem dX7_setsIn_116 : decode cX7_setsIn 116 = .ok (.iload 6, 2) := by decide +kernel
theorem dX7_setsIn_118 : decode cX7_setsIn 118 = .ok (.invokevirtual 65, 3) := by decide +kernel
theorem dX7_setsIn_121 : decode cX7_setsIn 121 = .ok (.aload_n 0, 1) := by decide +kernel
theorem dX7_setsIn_122 : decode cX7_setsIn 122 = .ok (.getfield 28, 3) := by decide +kernel
theorem dX7_setsIn_125 : decode cX7_setsIn 125 = .ok (.iload 6, 2) := by decide +kernel
theorem dX7_setsIn_127 : decode cX7_setsIn 127 = .ok (.iaload, 1) := by decide +kernel
theorem dX7_setsIn_128 : decode cX7_setsIn 128 = .ok (.iadd, 1) := by decide +kernel
theorem dX7_setsIn_129 : decode cX7_setsIn 129 = .ok (.invokestatic 68, 3) := by decide +kernel
theorem dX7_setsIn_132 : decode cX7_setsIn 132 = .ok (.iload_n 2, 1) := by decide +kernel
theorem dX7_setsIn_133 : decode cX7_setsIn 133 = .ok (.if_icmp .ge 6, 3) := by decide +kernel
theorem dX7_setsIn_136 : decode cX7_setsIn 136 = .ok (.bipush (-4), 2) := by decide +kernel
theorem dX7_setsIn_138 : decode cX7_setsIn 138 = .ok (.ireturn, 1) := by decide +kernel
theorem dX7_setsIn_139 : decode cX7_setsIn 139 = .ok (.iinc 6 1, 3) := by decide +kernel
theorem dX7_setsIn_142 : decode cX7_setsIn 142 = .ok (.goto (-48), 3) := by decide +kernel
theorem dX7_setsIn_145 : decode cX7_setsIn 145 = .ok (.iinc 5 1, 3) := by decide +kernel
theorem dX7_setsIn_148 : decode cX7_setsIn 148 = .ok (.goto (-68), 3) := by decide +kernel
theorem dX7_setsIn_151 : decode cX7_setsIn 151 = .ok (.iload 4, 2) := by decide +kernel
theorem dX7_setsIn_153 : decode cX7_setsIn 153 = .ok (.ireturn, 1) := by decide +kernel
theorem dX7_fix_0 : decode cX7_fix 0 = .ok (.iload_n 1, 1) := by decide +kernel
theorem dX7_fix_1 : decode cX7_fix 1 = .ok (.i2l, 1) := by decide +kernel
theorem dX7_fix_2 : decode cX7_fix 2 = .ok (.lconst 1, 1) := by decide +kernel
theorem dX7_fix_3 : decode cX7_fix 3 = .ok (.ldc2_w 191, 3) := by decide +kernel
theorem dX7_fix_6 : decode cX7_fix 6 = .ok (.invokestatic 53, 3) := by decide +kernel
theorem dX7_fix_9 : decode cX7_fix 9 = .ok (.ifCond .eq 23, 3) := by decide +kernel
theorem dX7_fix_12 : decode cX7_fix 12 = .ok (.iload_n 2, 1) := by decide +kernel
theorem dX7_fix_13 : decode cX7_fix 13 = .ok (.i2l, 1) := by decide +kernel
theorem dX7_fix_14 : decode cX7_fix 14 = .ok (.ldc2_w 193, 3) := by decide +kernel
theorem dX7_fix_17 : decode cX7_fix 17 = .ok (.aload_n 0, 1) := by decide +kernel
theorem dX7_fix_18 : decode cX7_fix 18 = .ok (.getfield 7, 3) := by decide +kernel
theorem dX7_fix_21 : decode cX7_fix 21 = .ok (.iconst 0, 1) := by decide +kernel
theorem dX7_fix_22 : decode cX7_fix 22 = .ok (.iaload, 1) := by decide +kernel
theorem dX7_fix_23 : decode cX7_fix 23 = .ok (.iconst 1, 1) := by decide +kernel
theorem dX7_fix_24 : decode cX7_fix 24 = .ok (.isub, 1) := by decide +kernel
theorem dX7_fix_25 : decode cX7_fix 25 = .ok (.i2l, 1) := by decide +kernel
theorem dX7_fix_26 : decode cX7_fix 26 = .ok (.invokestatic 53, 3) := by decide +kernel
theorem dX7_fix_29 : decode cX7_fix 29 = .ok (.ifCond .ne 5, 3) := by decide +kernel
theorem dX7_fix_32 : decode cX7_fix 32 = .ok (.iconst (-1), 1) := by decide +kernel
theorem dX7_fix_33 : decode cX7_fix 33 = .ok (.ireturn, 1) := by decide +kernel
theorem dX7_fix_34 : decode cX7_fix 34 = .ok (.iconst 1, 1) := by decide +kernel
theorem dX7_fix_35 : decode cX7_fix 35 = .ok (.istore_n 3, 1) := by decide +kernel
theorem dX7_fix_36 : decode cX7_fix 36 = .ok (.iconst 0, 1) := by decide +kernel
theorem dX7_fix_37 : decode cX7_fix 37 = .ok (.istore 4, 2) := by decide +kernel
theorem dX7_fix_39 : decode cX7_fix 39 = .ok (.iload 4, 2) := by decide +kernel
theorem dX7_fix_41 : decode cX7_fix 41 = .ok (.aload_n 0, 1) := by decide +kernel
theorem dX7_fix_42 : decode cX7_fix 42 = .ok (.getfield 7, 3) := by decide +kernel
theorem dX7_fix_45 : decode cX7_fix 45 = .ok (.iconst 0, 1) := by decide +kernel
theorem dX7_fix_46 : decode cX7_fix 46 = .ok (.iaload, 1) := by decide +kernel
theorem dX7_fix_47 : decode cX7_fix 47 = .ok (.if_icmp .ge 13, 3) := by decide +kernel
theorem dX7_fix_50 : decode cX7_fix 50 = .ok (.iload_n 3, 1) := by decide +kernel
theorem dX7_fix_51 : decode cX7_fix 51 = .ok (.iconst 5, 1) := by decide +kernel
theorem dX7_fix_52 : decode cX7_fix 52 = .ok (.imul, 1) := by decide +kernel
theorem dX7_fix_53 : decode cX7_fix 53 = .ok (.istore_n 3, 1) := by decide +kernel
theorem dX7_fix_54 : decode cX7_fix 54 = .ok (.iinc 4 1, 3) := by decide +kernel
theorem dX7_fix_57 : decode cX7_fix 57 = .ok (.goto (-18), 3) := by decide +kernel
theorem dX7_fix_60 : decode cX7_fix 60 = .ok (.bipush (-4), 2) := by decide +kernel
theorem dX7_fix_62 : decode cX7_fix 62 = .ok (.istore 4, 2) := by decide +kernel
theorem dX7_fix_64 : decode cX7_fix 64 = .ok (.iconst 0, 1) := by decide +kernel
theorem dX7_fix_65 : decode cX7_fix 65 = .ok (.istore 5, 2) := by decide +kernel
theorem dX7_fix_67 : decode cX7_fix 67 = .ok (.iload 5, 2) := by decide +kernel
theorem dX7_fix_69 : decode cX7_fix 69 = .ok (.iload_n 3, 1) := by decide +kernel
theorem dX7_fix_70 : decode cX7_fix 70 = .ok (.if_icmp .ge 73, 3) := by decide +kernel
theorem dX7_fix_73 : decode cX7_fix 73 = .ok (.aload_n 0, 1) := by decide +kernel
theorem dX7_fix_74 : decode cX7_fix 74 = .ok (.iload 5, 2) := by decide +kernel
theorem dX7_fix_76 : decode cX7_fix 76 = .ok (.iload_n 1, 1) := by decide +kernel
theorem dX7_fix_77 : decode cX7_fix 77 = .ok (.invokevirtual 195, 3) := by decide +kernel
theorem dX7_fix_80 : decode cX7_fix 80 = .ok (.istore 6, 2) := by decide +kernel
theorem dX7_fix_82 : decode cX7_fix 82 = .ok (.iload 6, 2) := by decide +kernel
theorem dX7_fix_84 : decode cX7_fix 84 = .ok (.bipush (-4), 2) := by decide +kernel
theorem dX7_fix_86 : decode cX7_fix 86 = .ok (.if_icmp .eq 51, 3) := by decide +kernel
theorem dX7_fix_89 : decode cX7_fix 89 = .ok (.iload 4, 2) := by decide +kernel
theorem dX7_fix_91 : decode cX7_fix 91 = .ok (.bipush (-4), 2) := by decide +kernel
theorem dX7_fix_93 : decode cX7_fix 93 = .ok (.if_icmp .eq 10, 3) := by decide +kernel
theorem dX7_fix_96 : decode cX7_fix 96 = .ok (.iload 6, 2) := by decide +kernel
theorem dX7_fix_98 : decode cX7_fix 98 = .ok (.iload 4, 2) := by decide +kernel
theorem dX7_fix_100 : decode cX7_fix 100 = .ok (.if_icmp .ge 37, 3) := by decide +kernel
theorem dX7_fix_103 : decode cX7_fix 103 = .ok (.iload 6, 2) := by decide +kernel
theorem dX7_fix_105 : decode cX7_fix 105 = .ok (.istore 4, 2) := by decide +kernel
theorem dX7_fix_107 : decode cX7_fix 107 = .ok (.iconst 0, 1) := by decide +kernel
theorem dX7_fix_108 : decode cX7_fix 108 = .ok (.istore 7, 2) := by decide +kernel
theorem dX7_fix_110 : decode cX7_fix 110 = .ok (.iload 7, 2) := by decide +kernel
theorem dX7_fix_112 : decode cX7_fix 112 = .ok (.bipush 6, 2) := by decide +kernel
theorem dX7_fix_114 : decode cX7_fix 114 = .ok (.if_icmp .ge 23, 3) := by decide +kernel
theorem dX7_fix_117 : decode cX7_fix 117 = .ok (.aload_n 0, 1) := by decide +kernel
theorem dX7_fix_118 : decode cX7_fix 118 = .ok (.getfield 31, 3) := by decide +kernel
theorem dX7_fix_121 : decode cX7_fix 121 = .ok (.iload 7, 2) := by decide +kernel
theorem dX7_fix_123 : decode cX7_fix 123 = .ok (.aload_n 0, 1) := by decide +kernel
theorem dX7_fix_124 : decode cX7_fix 124 = .ok (.getfield 28, 3) := by decide +kernel
theorem dX7_fix_127 : decode cX7_fix 127 = .ok (.iload 7, 2) := by decide +kernel
theorem dX7_fix_129 : decode cX7_fix 129 = .ok (.iaload, 1) := by decide +kernel
theorem dX7_fix_130 : decode cX7_fix 130 = .ok (.iastore, 1) := by decide +kernel
theorem dX7_fix_131 : decode cX7_fix 131 = .ok (.iinc 7 1, 3) := by decide +kernel
theorem dX7_fix_134 : decode cX7_fix 134 = .ok (.goto (-24), 3) := by decide +kernel
theorem dX7_fix_137 : decode cX7_fix 137 = .ok (.iinc 5 1, 3) := by decide +kernel
theorem dX7_fix_140 : decode cX7_fix 140 = .ok (.goto (-73), 3) := by decide +kernel
theorem dX7_fix_143 : decode cX7_fix 143 = .ok (.iload_n 2, 1) := by decide +kernel
theorem dX7_fix_144 : decode cX7_fix 144 = .ok (.ifCond .lt 10, 3) := by decide +kernel
theorem dX7_fix_147 : decode cX7_fix 147 = .ok (.iload 4, 2) := by decide +kernel
theorem dX7_fix_149 : decode cX7_fix 149 = .ok (.bipush (-4), 2) := by decide +kernel
end
section
theorem dX7_fix_151 : decode cX7_fix 151 = .ok (.if_icmp .ne 8, 3) := by decide +kernel
theorem dX7_fix_154 : decode cX7_fix 154 = .ok (.iload 4, 2) := by decide +kernel
theorem dX7_fix_156 : decode cX7_fix 156 = .ok (.goto 9, 3) := by decide +kernel
theorem dX7_fix_159 : decode cX7_fix 159 = .ok (.aload_n 0, 1) := by decide +kernel
theorem dX7_fix_160 : decode cX7_fix 160 = .ok (.getfield 31, 3) := by decide +kernel
theorem dX7_fix_163 : decode cX7_fix 163 = .ok (.iload_n 2, 1) := by decide +kernel
theorem dX7_fix_164 : decode cX7_fix 164 = .ok (.iaload, 1) := by decide +kernel
theorem dX7_fix_165 : decode cX7_fix 165 = .ok (.ireturn, 1) := by decide +kernel
theorem dX7_free_0 : decode cX7_free 0 = .ok (.iload_n 1, 1) := by decide +kernel
theorem dX7_free_1 : decode cX7_free 1 = .ok (.i2l, 1) := by decide +kernel
theorem dX7_free_2 : decode cX7_free 2 = .ok (.lconst 1, 1) := by decide +kernel
theorem dX7_free_3 : decode cX7_free 3 = .ok (.ldc2_w 198, 3) := by decide +kernel
theorem dX7_free_6 : decode cX7_free 6 = .ok (.invokestatic 53, 3) := by decide +kernel
theorem dX7_free_9 : decode cX7_free 9 = .ok (.ifCond .eq 15, 3) := by decide +kernel
theorem dX7_free_12 : decode cX7_free 12 = .ok (.iload_n 2, 1) := by decide +kernel
theorem dX7_free_13 : decode cX7_free 13 = .ok (.i2l, 1) := by decide +kernel
theorem dX7_free_14 : decode cX7_free 14 = .ok (.lconst 0, 1) := by decide +kernel
theorem dX7_free_15 : decode cX7_free 15 = .ok (.ldc2_w 200, 3) := by decide +kernel
theorem dX7_free_18 : decode cX7_free 18 = .ok (.invokestatic 53, 3) := by decide +kernel
theorem dX7_free_21 : decode cX7_free 21 = .ok (.ifCond .ne 7, 3) := by decide +kernel
theorem dX7_free_24 : decode cX7_free 24 = .ok (.ldc2_w 193, 3) := by decide +kernel
theorem dX7_free_27 : decode cX7_free 27 = .ok (.lreturn, 1) := by decide +kernel
theorem dX7_free_28 : decode cX7_free 28 = .ok (.lconst 0, 1) := by decide +kernel
theorem dX7_free_29 : decode cX7_free 29 = .ok (.lstore_n 3, 1) := by decide +kernel
theorem dX7_free_30 : decode cX7_free 30 = .ok (.lconst 0, 1) := by decide +kernel
theorem dX7_free_31 : decode cX7_free 31 = .ok (.lstore 5, 2) := by decide +kernel
theorem dX7_free_33 : decode cX7_free 33 = .ok (.ldc2_w 202, 3) := by decide +kernel
theorem dX7_free_36 : decode cX7_free 36 = .ok (.lstore 7, 2) := by decide +kernel
theorem dX7_free_38 : decode cX7_free 38 = .ok (.bipush 59, 2) := by decide +kernel
theorem dX7_free_40 : decode cX7_free 40 = .ok (.istore 9, 2) := by decide +kernel
theorem dX7_free_42 : decode cX7_free 42 = .ok (.iload 9, 2) := by decide +kernel
theorem dX7_free_44 : decode cX7_free 44 = .ok (.ifCond .lt 105, 3) := by decide +kernel
theorem dX7_free_47 : decode cX7_free 47 = .ok (.iconst 1, 1) := by decide +kernel
theorem dX7_free_48 : decode cX7_free 48 = .ok (.istore 10, 2) := by decide +kernel
theorem dX7_free_50 : decode cX7_free 50 = .ok (.iconst 0, 1) := by decide +kernel
theorem dX7_free_51 : decode cX7_free 51 = .ok (.istore 11, 2) := by decide +kernel
theorem dX7_free_53 : decode cX7_free 53 = .ok (.iload 11, 2) := by decide +kernel
theorem dX7_free_55 : decode cX7_free 55 = .ok (.aload_n 0, 1) := by decide +kernel
theorem dX7_free_56 : decode cX7_free 56 = .ok (.getfield 7, 3) := by decide +kernel
theorem dX7_free_59 : decode cX7_free 59 = .ok (.iconst 0, 1) := by decide +kernel
theorem dX7_free_60 : decode cX7_free 60 = .ok (.iaload, 1) := by decide +kernel
theorem dX7_free_61 : decode cX7_free 61 = .ok (.if_icmp .ge 36, 3) := by decide +kernel
theorem dX7_free_64 : decode cX7_free 64 = .ok (.iload 10, 2) := by decide +kernel
theorem dX7_free_66 : decode cX7_free 66 = .ok (.ifCond .eq 22, 3) := by decide +kernel
theorem dX7_free_69 : decode cX7_free 69 = .ok (.aload_n 0, 1) := by decide +kernel
theorem dX7_free_70 : decode cX7_free 70 = .ok (.iload 11, 2) := by decide +kernel
theorem dX7_free_72 : decode cX7_free 72 = .ok (.invokevirtual 65, 3) := by decide +kernel
theorem dX7_free_75 : decode cX7_free 75 = .ok (.iload 9, 2) := by decide +kernel
theorem dX7_free_77 : decode cX7_free 77 = .ok (.invokestatic 68, 3) := by decide +kernel
theorem dX7_free_80 : decode cX7_free 80 = .ok (.iload_n 1, 1) := by decide +kernel
theorem dX7_free_81 : decode cX7_free 81 = .ok (.if_icmp .lt 7, 3) := by decide +kernel
theorem dX7_free_84 : decode cX7_free 84 = .ok (.iconst 1, 1) := by decide +kernel
theorem dX7_free_85 : decode cX7_free 85 = .ok (.goto 4, 3) := by decide +kernel
theorem dX7_free_88 : decode cX7_free 88 = .ok (.iconst 0, 1) := by decide +kernel
theorem dX7_free_89 : decode cX7_free 89 = .ok (.istore 10, 2) := by decide +kernel
theorem dX7_free_91 : decode cX7_free 91 = .ok (.iinc 11 1, 3) := by decide +kernel
theorem dX7_free_94 : decode cX7_free 94 = .ok (.goto (-41), 3) := by decide +kernel
theorem dX7_free_97 : decode cX7_free 97 = .ok (.lload_n 3, 1) := by decide +kernel
theorem dX7_free_98 : decode cX7_free 98 = .ok (.iload 10, 2) := by decide +kernel
theorem dX7_free_100 : decode cX7_free 100 = .ok (.ifCond .eq 10, 3) := by decide +kernel
theorem dX7_free_103 : decode cX7_free 103 = .ok (.lconst 1, 1) := by decide +kernel
theorem dX7_free_104 : decode cX7_free 104 = .ok (.iload 9, 2) := by decide +kernel
theorem dX7_free_106 : decode cX7_free 106 = .ok (.lshl, 1) := by decide +kernel
theorem dX7_free_107 : decode cX7_free 107 = .ok (.goto 4, 3) := by decide +kernel
theorem dX7_free_110 : decode cX7_free 110 = .ok (.lconst 0, 1) := by decide +kernel
theorem dX7_free_111 : decode cX7_free 111 = .ok (.lor, 1) := by decide +kernel
theorem dX7_free_112 : decode cX7_free 112 = .ok (.lstore_n 3, 1) := by decide +kernel
theorem dX7_free_113 : decode cX7_free 113 = .ok (.lload 5, 2) := by decide +kernel
theorem dX7_free_115 : decode cX7_free 115 = .ok (.iload 10, 2) := by decide +kernel
theorem dX7_free_117 : decode cX7_free 117 = .ok (.ifCond .eq 7, 3) := by decide +kernel
theorem dX7_free_120 : decode cX7_free 120 = .ok (.lconst 1, 1) := by decide +kernel
theorem dX7_free_121 : decode cX7_free 121 = .ok (.goto 4, 3) := by decide +kernel
theorem dX7_free_124 : decode cX7_free 124 = .ok (.lconst 0, 1) := by decide +kernel
theorem dX7_free_125 : decode cX7_free 125 = .ok (.ladd, 1) := by decide +kernel
theorem dX7_free_126 : decode cX7_free 126 = .ok (.lstore 5, 2) := by decide +kernel
theorem dX7_free_128 : decode cX7_free 128 = .ok (.iload 10, 2) := by decide +kernel
theorem dX7_free_130 : decode cX7_free 130 = .ok (.ifCond .eq 9, 3) := by decide +kernel
theorem dX7_free_133 : decode cX7_free 133 = .ok (.iload 9, 2) := by decide +kernel
theorem dX7_free_135 : decode cX7_free 135 = .ok (.i2l, 1) := by decide +kernel
theorem dX7_free_136 : decode cX7_free 136 = .ok (.goto 5, 3) := by decide +kernel
theorem dX7_free_139 : decode cX7_free 139 = .ok (.lload 7, 2) := by decide +kernel
theorem dX7_free_141 : decode cX7_free 141 = .ok (.lstore 7, 2) := by decide +kernel
theorem dX7_free_143 : decode cX7_free 143 = .ok (.iinc 9 (-1), 3) := by decide +kernel
theorem dX7_free_146 : decode cX7_free 146 = .ok (.goto (-104), 3) := by decide +kernel
theorem dX7_free_149 : decode cX7_free 149 = .ok (.iload_n 2, 1) := by decide +kernel
theorem dX7_free_150 : decode cX7_free 150 = .ok (.ifCond .ne 7, 3) := by decide +kernel
theorem dX7_free_153 : decode cX7_free 153 = .ok (.lload_n 3, 1) := by decide +kernel
theorem dX7_free_154 : decode cX7_free 154 = .ok (.goto 15, 3) := by decide +kernel
theorem dX7_free_157 : decode cX7_free 157 = .ok (.iload_n 2, 1) := by decide +kernel
theorem dX7_free_158 : decode cX7_free 158 = .ok (.iconst 1, 1) := by decide +kernel
theorem dX7_free_159 : decode cX7_free 159 = .ok (.if_icmp .ne 8, 3) := by decide +kernel
theorem dX7_free_162 : decode cX7_free 162 = .ok (.lload 5, 2) := by decide +kernel
theorem dX7_free_164 : decode cX7_free 164 = .ok (.goto 5, 3) := by decide +kernel
theorem dX7_free_167 : decode cX7_free 167 = .ok (.lload 7, 2) := by decide +kernel
theorem dX7_free_169 : decode cX7_free 169 = .ok (.lreturn, 1) := by decide +kernel
theorem dX7_isOrder_0 : decode cX7_isOrder 0 = .ok (.iload_n 1, 1) := by decide +kernel
theorem dX7_isOrder_1 : decode cX7_isOrder 1 = .ok (.istore_n 2, 1) := by decide +kernel
theorem dX7_isOrder_2 : decode cX7_isOrder 2 = .ok (.iconst 0, 1) := by decide +kernel
theorem dX7_isOrder_3 : decode cX7_isOrder 3 = .ok (.istore_n 3, 1) := by decide +kernel
theorem dX7_isOrder_4 : decode cX7_isOrder 4 = .ok (.aload_n 0, 1) := by decide +kernel
theorem dX7_isOrder_5 : decode cX7_isOrder 5 = .ok (.getfield 7, 3) := by decide +kernel
theorem dX7_isOrder_8 : decode cX7_isOrder 8 = .ok (.iconst 0, 1) := by decide +kernel
theorem dX7_isOrder_9 : decode cX7_isOrder 9 = .ok (.iaload, 1) := by decide +kernel
theorem dX7_isOrder_10 : decode cX7_isOrder 10 = .ok (.iconst 1, 1) := by decide +kernel
theorem dX7_isOrder_11 : decode cX7_isOrder 11 = .ok (.isub, 1) := by decide +kernel
theorem dX7_isOrder_12 : decode cX7_isOrder 12 = .ok (.istore 4, 2) := by decide +kernel
theorem dX7_isOrder_14 : decode cX7_isOrder 14 = .ok (.iload 4, 2) := by decide +kernel
theorem dX7_isOrder_16 : decode cX7_isOrder 16 = .ok (.ifCond .lt 45, 3) := by decide +kernel
theorem dX7_isOrder_19 : decode cX7_isOrder 19 = .ok (.aload_n 0, 1) := by decide +kernel
theorem dX7_isOrder_20 : decode cX7_isOrder 20 = .ok (.getfield 34, 3) := by decide +kernel
theorem dX7_isOrder_23 : decode cX7_isOrder 23 = .ok (.iload 4, 2) := by decide +kernel
theorem dX7_isOrder_25 : decode cX7_isOrder 25 = .ok (.iload_n 2, 1) := by decide +kernel
theorem dX7_isOrder_26 : decode cX7_isOrder 26 = .ok (.aload_n 0, 1) := by decide +kernel
theorem dX7_isOrder_27 : decode cX7_isOrder 27 = .ok (.getfield 7, 3) := by decide +kernel
theorem dX7_isOrder_30 : decode cX7_isOrder 30 = .ok (.iconst 0, 1) := by decide +kernel
theorem dX7_isOrder_31 : decode cX7_isOrder 31 = .ok (.iaload, 1) := by decide +kernel
theorem dX7_isOrder_32 : decode cX7_isOrder 32 = .ok (.irem, 1) := by decide +kernel
theorem dX7_isOrder_33 : decode cX7_isOrder 33 = .ok (.iastore, 1) := by decide +kernel
theorem dX7_isOrder_34 : decode cX7_isOrder 34 = .ok (.iload_n 3, 1) := by decide +kernel
theorem dX7_isOrder_35 : decode cX7_isOrder 35 = .ok (.iconst 1, 1) := by decide +kernel
theorem dX7_isOrder_36 : decode cX7_isOrder 36 = .ok (.aload_n 0, 1) := by decide +kernel
theorem dX7_isOrder_37 : decode cX7_isOrder 37 = .ok (.getfield 34, 3) := by decide +kernel
theorem dX7_isOrder_40 : decode cX7_isOrder 40 = .ok (.iload 4, 2) := by decide +kernel
theorem dX7_isOrder_42 : decode cX7_isOrder 42 = .ok (.iaload, 1) := by decide +kernel
theorem dX7_isOrder_43 : decode cX7_isOrder 43 = .ok (.ishl, 1) := by decide +kernel
theorem dX7_isOrder_44 : decode cX7_isOrder 44 = .ok (.ior, 1) := by decide +kernel
theorem dX7_isOrder_45 : decode cX7_isOrder 45 = .ok (.istore_n 3, 1) := by decide +kernel
theorem dX7_isOrder_46 : decode cX7_isOrder 46 = .ok (.iload_n 2, 1) := by decide +kernel
theorem dX7_isOrder_47 : decode cX7_isOrder 47 = .ok (.aload_n 0, 1) := by decide +kernel
theorem dX7_isOrder_48 : decode cX7_isOrder 48 = .ok (.getfield 7, 3) := by decide +kernel
theorem dX7_isOrder_51 : decode cX7_isOrder 51 = .ok (.iconst 0, 1) := by decide +kernel
theorem dX7_isOrder_52 : decode cX7_isOrder 52 = .ok (.iaload, 1) := by decide +kernel
theorem dX7_isOrder_53 : decode cX7_isOrder 53 = .ok (.idiv, 1) := by decide +kernel
theorem dX7_isOrder_54 : decode cX7_isOrder 54 = .ok (.istore_n 2, 1) := by decide +kernel
theorem dX7_isOrder_55 : decode cX7_isOrder 55 = .ok (.iinc 4 (-1), 3) := by decide +kernel
theorem dX7_isOrder_58 : decode cX7_isOrder 58 = .ok (.goto (-44), 3) := by decide +kernel
theorem dX7_isOrder_61 : decode cX7_isOrder 61 = .ok (.iload_n 3, 1) := by decide +kernel
theorem dX7_isOrder_62 : decode cX7_isOrder 62 = .ok (.iconst 1, 1) := by decide +kernel
theorem dX7_isOrder_63 : decode cX7_isOrder 63 = .ok (.aload_n 0, 1) := by decide +kernel
theorem dX7_isOrder_64 : decode cX7_isOrder 64 = .ok (.getfield 7, 3) := by decide +kernel
theorem dX7_isOrder_67 : decode cX7_isOrder 67 = .ok (.iconst 0, 1) := by decide +kernel
theorem dX7_isOrder_68 : decode cX7_isOrder 68 = .ok (.iaload, 1) := by decide +kernel
theorem dX7_isOrder_69 : decode cX7_isOrder 69 = .ok (.ishl, 1) := by decide +kernel
theorem dX7_isOrder_70 : decode cX7_isOrder 70 = .ok (.iconst 1, 1) := by decide +kernel
theorem dX7_isOrder_71 : decode cX7_isOrder 71 = .ok (.isub, 1) := by decide +kernel
theorem dX7_isOrder_72 : decode cX7_isOrder 72 = .ok (.if_icmp .ne 7, 3) := by decide +kernel
theorem dX7_isOrder_75 : decode cX7_isOrder 75 = .ok (.iconst 1, 1) := by decide +kernel
theorem dX7_isOrder_76 : decode cX7_isOrder 76 = .ok (.goto 4, 3) := by decide +kernel
theorem dX7_isOrder_79 : decode cX7_isOrder 79 = .ok (.iconst 0, 1) := by decide +kernel
theorem dX7_isOrder_80 : decode cX7_isOrder 80 = .ok (.ireturn, 1) := by decide +kernel
theorem dX7_hears_0 : decode cX7_hears 0 = .ok (.iload_n 1, 1) := by decide +kernel
theorem dX7_hears_1 : decode cX7_hears 1 = .ok (.istore 4, 2) := by decide +kernel
theorem dX7_hears_3 : decode cX7_hears 3 = .ok (.iconst 0, 1) := by decide +kernel
theorem dX7_hears_4 : decode cX7_hears 4 = .ok (.istore 5, 2) := by decide +kernel
theorem dX7_hears_6 : decode cX7_hears 6 = .ok (.iconst 0, 1) := by decide +kernel
theorem dX7_hears_7 : decode cX7_hears 7 = .ok (.istore 6, 2) := by decide +kernel
theorem dX7_hears_9 : decode cX7_hears 9 = .ok (.iload 6, 2) := by decide +kernel
theorem dX7_hears_11 : decode cX7_hears 11 = .ok (.aload_n 0, 1) := by decide +kernel
theorem dX7_hears_12 : decode cX7_hears 12 = .ok (.getfield 7, 3) := by decide +kernel
theorem dX7_hears_15 : decode cX7_hears 15 = .ok (.iconst 0, 1) := by decide +kernel
theorem dX7_hears_16 : decode cX7_hears 16 = .ok (.iaload, 1) := by decide +kernel
theorem dX7_hears_17 : decode cX7_hears 17 = .ok (.if_icmp .ge 56, 3) := by decide +kernel
theorem dX7_hears_20 : decode cX7_hears 20 = .ok (.aload_n 0, 1) := by decide +kernel
theorem dX7_hears_21 : decode cX7_hears 21 = .ok (.getfield 34, 3) := by decide +kernel
theorem dX7_hears_24 : decode cX7_hears 24 = .ok (.iload 6, 2) := by decide +kernel
theorem dX7_hears_26 : decode cX7_hears 26 = .ok (.iaload, 1) := by decide +kernel
theorem dX7_hears_27 : decode cX7_hears 27 = .ok (.istore 7, 2) := by decide +kernel
theorem dX7_hears_29 : decode cX7_hears 29 = .ok (.iload 5, 2) := by decide +kernel
theorem dX7_hears_31 : decode cX7_hears 31 = .ok (.iload_n 3, 1) := by decide +kernel
theorem dX7_hears_32 : decode cX7_hears 32 = .ok (.aload_n 0, 1) := by decide +kernel
theorem dX7_hears_33 : decode cX7_hears 33 = .ok (.iload 4, 2) := by decide +kernel
theorem dX7_hears_35 : decode cX7_hears 35 = .ok (.iload 7, 2) := by decide +kernel
theorem dX7_hears_37 : decode cX7_hears 37 = .ok (.invokevirtual 75, 3) := by decide +kernel
theorem dX7_hears_40 : decode cX7_hears 40 = .ok (.imul, 1) := by decide +kernel
theorem dX7_hears_41 : decode cX7_hears 41 = .ok (.iadd, 1) := by decide +kernel
theorem dX7_hears_42 : decode cX7_hears 42 = .ok (.istore 5, 2) := by decide +kernel
theorem dX7_hears_44 : decode cX7_hears 44 = .ok (.iload 5, 2) := by decide +kernel
theorem dX7_hears_46 : decode cX7_hears 46 = .ok (.aload_n 0, 1) := by decide +kernel
theorem dX7_hears_47 : decode cX7_hears 47 = .ok (.iload 7, 2) := by decide +kernel
theorem dX7_hears_49 : decode cX7_hears 49 = .ok (.invokevirtual 65, 3) := by decide +kernel
theorem dX7_hears_52 : decode cX7_hears 52 = .ok (.iload_n 2, 1) := by decide +kernel
theorem dX7_hears_53 : decode cX7_hears 53 = .ok (.isub, 1) := by decide +kernel
theorem dX7_hears_54 : decode cX7_hears 54 = .ok (.iload 5, 2) := by decide +kernel
theorem dX7_hears_56 : decode cX7_hears 56 = .ok (.isub, 1) := by decide +kernel
theorem dX7_hears_57 : decode cX7_hears 57 = .ok (.invokestatic 61, 3) := by decide +kernel
theorem dX7_hears_60 : decode cX7_hears 60 = .ok (.iadd, 1) := by decide +kernel
theorem dX7_hears_61 : decode cX7_hears 61 = .ok (.istore 5, 2) := by decide +kernel
theorem dX7_hears_63 : decode cX7_hears 63 = .ok (.iload 7, 2) := by decide +kernel
theorem dX7_hears_65 : decode cX7_hears 65 = .ok (.istore 4, 2) := by decide +kernel
theorem dX7_hears_67 : decode cX7_hears 67 = .ok (.iinc 6 1, 3) := by decide +kernel
theorem dX7_hears_70 : decode cX7_hears 70 = .ok (.goto (-61), 3) := by decide +kernel
theorem dX7_hears_73 : decode cX7_hears 73 = .ok (.iload 5, 2) := by decide +kernel
theorem dX7_hears_75 : decode cX7_hears 75 = .ok (.ireturn, 1) := by decide +kernel
theorem dX7_hear_0 : decode cX7_hear 0 = .ok (.aload_n 0, 1) := by decide +kernel
theorem dX7_hear_1 : decode cX7_hear 1 = .ok (.iload_n 1, 1) := by decide +kernel
theorem dX7_hear_2 : decode cX7_hear 2 = .ok (.invokevirtual 107, 3) := by decide +kernel
theorem dX7_hear_5 : decode cX7_hear 5 = .ok (.ifCond .eq 33, 3) := by decide +kernel
theorem dX7_hear_8 : decode cX7_hear 8 = .ok (.iload_n 2, 1) := by decide +kernel
theorem dX7_hear_9 : decode cX7_hear 9 = .ok (.i2l, 1) := by decide +kernel
theorem dX7_hear_10 : decode cX7_hear 10 = .ok (.lconst 0, 1) := by decide +kernel
theorem dX7_hear_11 : decode cX7_hear 11 = .ok (.ldc2_w 97, 3) := by decide +kernel
theorem dX7_hear_14 : decode cX7_hear 14 = .ok (.invokestatic 53, 3) := by decide +kernel
theorem dX7_hear_17 : decode cX7_hear 17 = .ok (.ifCond .eq 21, 3) := by decide +kernel
theorem dX7_hear_20 : decode cX7_hear 20 = .ok (.iload_n 3, 1) := by decide +kernel
theorem dX7_hear_21 : decode cX7_hear 21 = .ok (.i2l, 1) := by decide +kernel
theorem dX7_hear_22 : decode cX7_hear 22 = .ok (.lconst 1, 1) := by decide +kernel
theorem dX7_hear_23 : decode cX7_hear 23 = .ok (.ldc2_w 101, 3) := by decide +kernel
theorem dX7_hear_26 : decode cX7_hear 26 = .ok (.invokestatic 53, 3) := by decide +kernel
theorem dX7_hear_29 : decode cX7_hear 29 = .ok (.ifCond .eq 9, 3) := by decide +kernel
theorem dX7_hear_32 : decode cX7_hear 32 = .ok (.iload 4, 2) := by decide +kernel
theorem dX7_hear_34 : decode cX7_hear 34 = .ok (.iconst (-1), 1) := by decide +kernel
theorem dX7_hear_35 : decode cX7_hear 35 = .ok (.if_icmp .ge 5, 3) := by decide +kernel
theorem dX7_hear_38 : decode cX7_hear 38 = .ok (.iconst (-1), 1) := by decide +kernel
theorem dX7_hear_39 : decode cX7_hear 39 = .ok (.ireturn, 1) := by decide +kernel
theorem dX7_hear_40 : decode cX7_hear 40 = .ok (.iconst 1, 1) := by decide +kernel
theorem dX7_hear_41 : decode cX7_hear 41 = .ok (.istore 5, 2) := by decide +kernel
theorem dX7_hear_43 : decode cX7_hear 43 = .ok (.iconst 0, 1) := by decide +kernel
theorem dX7_hear_44 : decode cX7_hear 44 = .ok (.istore 6, 2) := by decide +kernel
theorem dX7_hear_46 : decode cX7_hear 46 = .ok (.iload 6, 2) := by decide +kernel
theorem dX7_hear_48 : decode cX7_hear 48 = .ok (.aload_n 0, 1) := by decide +kernel
theorem dX7_hear_49 : decode cX7_hear 49 = .ok (.getfield 7, 3) := by decide +kernel
theorem dX7_hear_52 : decode cX7_hear 52 = .ok (.iconst 0, 1) := by decide +kernel
theorem dX7_hear_53 : decode cX7_hear 53 = .ok (.iaload, 1) := by decide +kernel
theorem dX7_hear_54 : decode cX7_hear 54 = .ok (.if_icmp .ge 20, 3) := by decide +kernel
theorem dX7_hear_57 : decode cX7_hear 57 = .ok (.iload 5, 2) := by decide +kernel
theorem dX7_hear_59 : decode cX7_hear 59 = .ok (.aload_n 0, 1) := by decide +kernel
theorem dX7_hear_60 : decode cX7_hear 60 = .ok (.getfield 7, 3) := by decide +kernel
theorem dX7_hear_63 : decode cX7_hear 63 = .ok (.iconst 0, 1) := by decide +kernel
theorem dX7_hear_64 : decode cX7_hear 64 = .ok (.iaload, 1) := by decide +kernel
theorem dX7_hear_65 : decode cX7_hear 65 = .ok (.imul, 1) := by decide +kernel
theorem dX7_hear_66 : decode cX7_hear 66 = .ok (.istore 5, 2) := by decide +kernel
theorem dX7_hear_68 : decode cX7_hear 68 = .ok (.iinc 6 1, 3) := by decide +kernel
theorem dX7_hear_71 : decode cX7_hear 71 = .ok (.goto (-25), 3) := by decide +kernel
theorem dX7_hear_74 : decode cX7_hear 74 = .ok (.iconst (-1), 1) := by decide +kernel
theorem dX7_hear_75 : decode cX7_hear 75 = .ok (.istore 6, 2) := by decide +kernel
theorem dX7_hear_77 : decode cX7_hear 77 = .ok (.iconst 0, 1) := by decide +kernel
theorem dX7_hear_78 : decode cX7_hear 78 = .ok (.istore 7, 2) := by decide +kernel
theorem dX7_hear_80 : decode cX7_hear 80 = .ok (.iload 7, 2) := by decide +kernel
theorem dX7_hear_82 : decode cX7_hear 82 = .ok (.iload 5, 2) := by decide +kernel
theorem dX7_hear_84 : decode cX7_hear 84 = .ok (.if_icmp .ge 73, 3) := by decide +kernel
theorem dX7_hear_87 : decode cX7_hear 87 = .ok (.aload_n 0, 1) := by decide +kernel
theorem dX7_hear_88 : decode cX7_hear 88 = .ok (.iload 7, 2) := by decide +kernel
theorem dX7_hear_90 : decode cX7_hear 90 = .ok (.invokevirtual 204, 3) := by decide +kernel
theorem dX7_hear_93 : decode cX7_hear 93 = .ok (.ifCond .eq 58, 3) := by decide +kernel
theorem dX7_hear_96 : decode cX7_hear 96 = .ok (.aload_n 0, 1) := by decide +kernel
theorem dX7_hear_97 : decode cX7_hear 97 = .ok (.iload_n 1, 1) := by decide +kernel
theorem dX7_hear_98 : decode cX7_hear 98 = .ok (.iload_n 2, 1) := by decide +kernel
theorem dX7_hear_99 : decode cX7_hear 99 = .ok (.iload_n 3, 1) := by decide +kernel
theorem dX7_hear_100 : decode cX7_hear 100 = .ok (.invokevirtual 207, 3) := by decide +kernel
theorem dX7_hear_103 : decode cX7_hear 103 = .ok (.istore 8, 2) := by decide +kernel
theorem dX7_hear_105 : decode cX7_hear 105 = .ok (.iload 6, 2) := by decide +kernel
theorem dX7_hear_107 : decode cX7_hear 107 = .ok (.ifCond .lt 10, 3) := by decide +kernel
theorem dX7_hear_110 : decode cX7_hear 110 = .ok (.iload 8, 2) := by decide +kernel
theorem dX7_hear_112 : decode cX7_hear 112 = .ok (.iload 6, 2) := by decide +kernel
theorem dX7_hear_114 : decode cX7_hear 114 = .ok (.if_icmp .ge 37, 3) := by decide +kernel
theorem dX7_hear_117 : decode cX7_hear 117 = .ok (.iload 8, 2) := by decide +kernel
theorem dX7_hear_119 : decode cX7_hear 119 = .ok (.istore 6, 2) := by decide +kernel
theorem dX7_hear_121 : decode cX7_hear 121 = .ok (.iconst 0, 1) := by decide +kernel
theorem dX7_hear_122 : decode cX7_hear 122 = .ok (.istore 9, 2) := by decide +kernel
theorem dX7_hear_124 : decode cX7_hear 124 = .ok (.iload 9, 2) := by decide +kernel
theorem dX7_hear_126 : decode cX7_hear 126 = .ok (.bipush 6, 2) := by decide +kernel
theorem dX7_hear_128 : decode cX7_hear 128 = .ok (.if_icmp .ge 23, 3) := by decide +kernel
theorem dX7_hear_131 : decode cX7_hear 131 = .ok (.aload_n 0, 1) := by decide +kernel
theorem dX7_hear_132 : decode cX7_hear 132 = .ok (.getfield 31, 3) := by decide +kernel
theorem dX7_hear_135 : decode cX7_hear 135 = .ok (.iload 9, 2) := by decide +kernel
theorem dX7_hear_137 : decode cX7_hear 137 = .ok (.aload_n 0, 1) := by decide +kernel
theorem dX7_hear_138 : decode cX7_hear 138 = .ok (.getfield 34, 3) := by decide +kernel
theorem dX7_hear_141 : decode cX7_hear 141 = .ok (.iload 9, 2) := by decide +kernel
theorem dX7_hear_143 : decode cX7_hear 143 = .ok (.iaload, 1) := by decide +kernel
theorem dX7_hear_144 : decode cX7_hear 144 = .ok (.iastore, 1) := by decide +kernel
theorem dX7_hear_145 : decode cX7_hear 145 = .ok (.iinc 9 1, 3) := by decide +kernel
theorem dX7_hear_148 : decode cX7_hear 148 = .ok (.goto (-24), 3) := by decide +kernel
theorem dX7_hear_151 : decode cX7_hear 151 = .ok (.iinc 7 1, 3) := by decide +kernel
theorem dX7_hear_154 : decode cX7_hear 154 = .ok (.goto (-74), 3) := by decide +kernel
theorem dX7_hear_157 : decode cX7_hear 157 = .ok (.iload 4, 2) := by decide +kernel
theorem dX7_hear_159 : decode cX7_hear 159 = .ok (.ifCond .ge 8, 3) := by decide +kernel
theorem dX7_hear_162 : decode cX7_hear 162 = .ok (.iload 6, 2) := by decide +kernel
theorem dX7_hear_164 : decode cX7_hear 164 = .ok (.goto 26, 3) := by decide +kernel
theorem dX7_hear_167 : decode cX7_hear 167 = .ok (.iload 4, 2) := by decide +kernel
theorem dX7_hear_169 : decode cX7_hear 169 = .ok (.aload_n 0, 1) := by decide +kernel
theorem dX7_hear_170 : decode cX7_hear 170 = .ok (.getfield 7, 3) := by decide +kernel
theorem dX7_hear_173 : decode cX7_hear 173 = .ok (.iconst 0, 1) := by decide +kernel
theorem dX7_hear_174 : decode cX7_hear 174 = .ok (.iaload, 1) := by decide +kernel
theorem dX7_hear_175 : decode cX7_hear 175 = .ok (.if_icmp .ge 13, 3) := by decide +kernel
theorem dX7_hear_178 : decode cX7_hear 178 = .ok (.aload_n 0, 1) := by decide +kernel
theorem dX7_hear_179 : decode cX7_hear 179 = .ok (.getfield 31, 3) := by decide +kernel
theorem dX7_hear_182 : decode cX7_hear 182 = .ok (.iload 4, 2) := by decide +kernel
theorem dX7_hear_184 : decode cX7_hear 184 = .ok (.iaload, 1) := by decide +kernel
theorem dX7_hear_185 : decode cX7_hear 185 = .ok (.goto 5, 3) := by decide +kernel
theorem dX7_hear_188 : decode cX7_hear 188 = .ok (.bipush (-4), 2) := by decide +kernel
theorem dX7_hear_190 : decode cX7_hear 190 = .ok (.ireturn, 1) := by decide +kernel
theorem dX7_isAsAside_0 : decode cX7_isAsAside 0 = .ok (.iconst 1, 1) := by decide +kernel
theorem dX7_isAsAside_1 : decode cX7_isAsAside 1 = .ok (.istore_n 1, 1) := by decide +kernel
theorem dX7_isAsAside_2 : decode cX7_isAsAside 2 = .ok (.iconst 0, 1) := by decide +kernel
theorem dX7_isAsAside_3 : decode cX7_isAsAside 3 = .ok (.istore_n 2, 1) := by decide +kernel
theorem dX7_isAsAside_4 : decode cX7_isAsAside 4 = .ok (.iload_n 2, 1) := by decide +kernel
theorem dX7_isAsAside_5 : decode cX7_isAsAside 5 = .ok (.aload_n 0, 1) := by decide +kernel
theorem dX7_isAsAside_6 : decode cX7_isAsAside 6 = .ok (.getfield 7, 3) := by decide +kernel
theorem dX7_isAsAside_9 : decode cX7_isAsAside 9 = .ok (.iconst 0, 1) := by decide +kernel
theorem dX7_isAsAside_10 : decode cX7_isAsAside 10 = .ok (.iaload, 1) := by decide +kernel
theorem dX7_isAsAside_11 : decode cX7_isAsAside 11 = .ok (.if_icmp .ge 39, 3) := by decide +kernel
theorem dX7_isAsAside_14 : decode cX7_isAsAside 14 = .ok (.iload_n 1, 1) := by decide +kernel
theorem dX7_isAsAside_15 : decode cX7_isAsAside 15 = .ok (.ifCond .eq 27, 3) := by decide +kernel
theorem dX7_isAsAside_18 : decode cX7_isAsAside 18 = .ok (.aload_n 0, 1) := by decide +kernel
theorem dX7_isAsAside_19 : decode cX7_isAsAside 19 = .ok (.iload_n 2, 1) := by decide +kernel
theorem dX7_isAsAside_20 : decode cX7_isAsAside 20 = .ok (.invokevirtual 65, 3) := by decide +kernel
theorem dX7_isAsAside_23 : decode cX7_isAsAside 23 = .ok (.aload_n 0, 1) := by decide +kernel
theorem dX7_isAsAside_24 : decode cX7_isAsAside 24 = .ok (.getfield 25, 3) := by decide +kernel
theorem dX7_isAsAside_27 : decode cX7_isAsAside 27 = .ok (.iconst 3, 1) := by decide +kernel
theorem dX7_isAsAside_28 : decode cX7_isAsAside 28 = .ok (.iconst 4, 1) := by decide +kernel
theorem dX7_isAsAside_29 : decode cX7_isAsAside 29 = .ok (.iload_n 2, 1) := by decide +kernel
theorem dX7_isAsAside_30 : decode cX7_isAsAside 30 = .ok (.imul, 1) := by decide +kernel
theorem dX7_isAsAside_31 : decode cX7_isAsAside 31 = .ok (.iadd, 1) := by decide +kernel
theorem dX7_isAsAside_32 : decode cX7_isAsAside 32 = .ok (.iconst 1, 1) := by decide +kernel
theorem dX7_isAsAside_33 : decode cX7_isAsAside 33 = .ok (.iadd, 1) := by decide +kernel
theorem dX7_isAsAside_34 : decode cX7_isAsAside 34 = .ok (.iaload, 1) := by decide +kernel
theorem dX7_isAsAside_35 : decode cX7_isAsAside 35 = .ok (.if_icmp .ne 7, 3) := by decide +kernel
theorem dX7_isAsAside_38 : decode cX7_isAsAside 38 = .ok (.iconst 1, 1) := by decide +kernel
theorem dX7_isAsAside_39 : decode cX7_isAsAside 39 = .ok (.goto 4, 3) := by decide +kernel
theorem dX7_isAsAside_42 : decode cX7_isAsAside 42 = .ok (.iconst 0, 1) := by decide +kernel
theorem dX7_isAsAside_43 : decode cX7_isAsAside 43 = .ok (.istore_n 1, 1) := by decide +kernel
theorem dX7_isAsAside_44 : decode cX7_isAsAside 44 = .ok (.iinc 2 1, 3) := by decide +kernel
theorem dX7_isAsAside_47 : decode cX7_isAsAside 47 = .ok (.goto (-43), 3) := by decide +kernel
theorem dX7_isAsAside_50 : decode cX7_isAsAside 50 = .ok (.iload_n 1, 1) := by decide +kernel
theorem dX7_isAsAside_51 : decode cX7_isAsAside 51 = .ok (.ireturn, 1) := by decide +kernel
theorem dX7_again_0 : decode cX7_again 0 = .ok (.aload_n 0, 1) := by decide +kernel
theorem dX7_again_1 : decode cX7_again 1 = .ok (.invokevirtual 175, 3) := by decide +kernel
theorem dX7_again_4 : decode cX7_again 4 = .ok (.bipush (-4), 2) := by decide +kernel
theorem dX7_again_6 : decode cX7_again 6 = .ok (.istore_n 1, 1) := by decide +kernel
theorem dX7_again_7 : decode cX7_again 7 = .ok (.iconst 2, 1) := by decide +kernel
theorem dX7_again_8 : decode cX7_again 8 = .ok (.istore_n 2, 1) := by decide +kernel
theorem dX7_again_9 : decode cX7_again 9 = .ok (.iload_n 2, 1) := by decide +kernel
theorem dX7_again_10 : decode cX7_again 10 = .ok (.sipush 241, 3) := by decide +kernel
theorem dX7_again_13 : decode cX7_again 13 = .ok (.if_icmp .ge 34, 3) := by decide +kernel
theorem dX7_again_16 : decode cX7_again 16 = .ok (.iload_n 1, 1) := by decide +kernel
theorem dX7_again_17 : decode cX7_again 17 = .ok (.bipush (-4), 2) := by decide +kernel
theorem dX7_again_19 : decode cX7_again 19 = .ok (.if_icmp .ne 28, 3) := by decide +kernel
theorem dX7_again_22 : decode cX7_again 22 = .ok (.aload_n 0, 1) := by decide +kernel
theorem dX7_again_23 : decode cX7_again 23 = .ok (.iconst 2, 1) := by decide +kernel
theorem dX7_again_24 : decode cX7_again 24 = .ok (.invokevirtual 178, 3) := by decide +kernel
theorem dX7_again_27 : decode cX7_again 27 = .ok (.aload_n 0, 1) := by decide +kernel
theorem dX7_again_28 : decode cX7_again 28 = .ok (.invokevirtual 211, 3) := by decide +kernel
theorem dX7_again_31 : decode cX7_again 31 = .ok (.ifCond .eq 7, 3) := by decide +kernel
theorem dX7_again_34 : decode cX7_again 34 = .ok (.iload_n 2, 1) := by decide +kernel
theorem dX7_again_35 : decode cX7_again 35 = .ok (.goto 5, 3) := by decide +kernel
theorem dX7_again_38 : decode cX7_again 38 = .ok (.bipush (-4), 2) := by decide +kernel
theorem dX7_again_40 : decode cX7_again 40 = .ok (.istore_n 1, 1) := by decide +kernel
theorem dX7_again_41 : decode cX7_again 41 = .ok (.iinc 2 2, 3) := by decide +kernel
theorem dX7_again_44 : decode cX7_again 44 = .ok (.goto (-35), 3) := by decide +kernel
theorem dX7_again_47 : decode cX7_again 47 = .ok (.aload_n 0, 1) := by decide +kernel
theorem dX7_again_48 : decode cX7_again 48 = .ok (.invokevirtual 182, 3) := by decide +kernel
theorem dX7_again_51 : decode cX7_again 51 = .ok (.iload_n 1, 1) := by decide +kernel
theorem dX7_again_52 : decode cX7_again 52 = .ok (.ireturn, 1) := by decide +kernel
theorem dX7_worst_0 : decode cX7_worst 0 = .ok (.iload_n 1, 1) := by decide +kernel
theorem dX7_worst_1 : decode cX7_worst 1 = .ok (.i2l, 1) := by decide +kernel
theorem dX7_worst_2 : decode cX7_worst 2 = .ok (.lconst 0, 1) := by decide +kernel
theorem dX7_worst_3 : decode cX7_worst 3 = .ok (.lconst 1, 1) := by decide +kernel
theorem dX7_worst_4 : decode cX7_worst 4 = .ok (.invokestatic 53, 3) := by decide +kernel
theorem dX7_worst_7 : decode cX7_worst 7 = .ok (.ifCond .ne 5, 3) := by decide +kernel
theorem dX7_worst_10 : decode cX7_worst 10 = .ok (.iconst (-1), 1) := by decide +kernel
theorem dX7_worst_11 : decode cX7_worst 11 = .ok (.ireturn, 1) := by decide +kernel
theorem dX7_worst_12 : decode cX7_worst 12 = .ok (.bipush (-4), 2) := by decide +kernel
theorem dX7_worst_14 : decode cX7_worst 14 = .ok (.istore_n 2, 1) := by decide +kernel
theorem dX7_worst_15 : decode cX7_worst 15 = .ok (.iconst (-1), 1) := by decide +kernel
theorem dX7_worst_16 : decode cX7_worst 16 = .ok (.istore_n 3, 1) := by decide +kernel
theorem dX7_worst_17 : decode cX7_worst 17 = .ok (.aload_n 0, 1) := by decide +kernel
theorem dX7_worst_18 : decode cX7_worst 18 = .ok (.invokevirtual 175, 3) := by decide +kernel
theorem dX7_worst_21 : decode cX7_worst 21 = .ok (.iconst 0, 1) := by decide +kernel
theorem dX7_worst_22 : decode cX7_worst 22 = .ok (.istore 4, 2) := by decide +kernel
theorem dX7_worst_24 : decode cX7_worst 24 = .ok (.iload 4, 2) := by decide +kernel
theorem dX7_worst_26 : decode cX7_worst 26 = .ok (.aload_n 0, 1) := by decide +kernel
theorem dX7_worst_27 : decode cX7_worst 27 = .ok (.getfield 7, 3) := by decide +kernel
theorem dX7_worst_30 : decode cX7_worst 30 = .ok (.iconst 0, 1) := by decide +kernel
theorem dX7_worst_31 : decode cX7_worst 31 = .ok (.iaload, 1) := by decide +kernel
theorem dX7_worst_32 : decode cX7_worst 32 = .ok (.if_icmp .ge 65, 3) := by decide +kernel
theorem dX7_worst_35 : decode cX7_worst 35 = .ok (.aload_n 0, 1) := by decide +kernel
theorem dX7_worst_36 : decode cX7_worst 36 = .ok (.iload 4, 2) := by decide +kernel
theorem dX7_worst_38 : decode cX7_worst 38 = .ok (.iconst 2, 1) := by decide +kernel
theorem dX7_worst_39 : decode cX7_worst 39 = .ok (.iconst 0, 1) := by decide +kernel
theorem dX7_worst_40 : decode cX7_worst 40 = .ok (.invokevirtual 81, 3) := by decide +kernel
theorem dX7_worst_43 : decode cX7_worst 43 = .ok (.aload_n 0, 1) := by decide +kernel
theorem dX7_worst_44 : decode cX7_worst 44 = .ok (.invokevirtual 188, 3) := by decide +kernel
theorem dX7_worst_47 : decode cX7_worst 47 = .ok (.istore 5, 2) := by decide +kernel
theorem dX7_worst_49 : decode cX7_worst 49 = .ok (.iload 5, 2) := by decide +kernel
theorem dX7_worst_51 : decode cX7_worst 51 = .ok (.bipush (-4), 2) := by decide +kernel
theorem dX7_worst_53 : decode cX7_worst 53 = .ok (.if_icmp .ne 8, 3) := by decide +kernel
theorem dX7_worst_56 : decode cX7_worst 56 = .ok (.bipush 99, 2) := by decide +kernel
theorem dX7_worst_58 : decode cX7_worst 58 = .ok (.goto 5, 3) := by decide +kernel
theorem dX7_worst_61 : decode cX7_worst 61 = .ok (.iload 5, 2) := by decide +kernel
theorem dX7_worst_63 : decode cX7_worst 63 = .ok (.istore 5, 2) := by decide +kernel
theorem dX7_worst_65 : decode cX7_worst 65 = .ok (.iload 5, 2) := by decide +kernel
theorem dX7_worst_67 : decode cX7_worst 67 = .ok (.iload_n 3, 1) := by decide +kernel
theorem dX7_worst_68 : decode cX7_worst 68 = .ok (.if_icmp .le 8, 3) := by decide +kernel
theorem dX7_worst_71 : decode cX7_worst 71 = .ok (.iload 4, 2) := by decide +kernel
theorem dX7_worst_73 : decode cX7_worst 73 = .ok (.goto 4, 3) := by decide +kernel
theorem dX7_worst_76 : decode cX7_worst 76 = .ok (.iload_n 2, 1) := by decide +kernel
theorem dX7_worst_77 : decode cX7_worst 77 = .ok (.istore_n 2, 1) := by decide +kernel
theorem dX7_worst_78 : decode cX7_worst 78 = .ok (.iload 5, 2) := by decide +kernel
theorem dX7_worst_80 : decode cX7_worst 80 = .ok (.iload_n 3, 1) := by decide +kernel
theorem dX7_worst_81 : decode cX7_worst 81 = .ok (.if_icmp .le 8, 3) := by decide +kernel
theorem dX7_worst_84 : decode cX7_worst 84 = .ok (.iload 5, 2) := by decide +kernel
theorem dX7_worst_86 : decode cX7_worst 86 = .ok (.goto 4, 3) := by decide +kernel
theorem dX7_worst_89 : decode cX7_worst 89 = .ok (.iload_n 3, 1) := by decide +kernel
theorem dX7_worst_90 : decode cX7_worst 90 = .ok (.istore_n 3, 1) := by decide +kernel
theorem dX7_worst_91 : decode cX7_worst 91 = .ok (.iinc 4 1, 3) := by decide +kernel
theorem dX7_worst_94 : decode cX7_worst 94 = .ok (.goto (-70), 3) := by decide +kernel
theorem dX7_worst_97 : decode cX7_worst 97 = .ok (.iload_n 1, 1) := by decide +kernel
theorem dX7_worst_98 : decode cX7_worst 98 = .ok (.ifCond .ne 7, 3) := by decide +kernel
theorem dX7_worst_101 : decode cX7_worst 101 = .ok (.iload_n 2, 1) := by decide +kernel
theorem dX7_worst_102 : decode cX7_worst 102 = .ok (.goto 19, 3) := by decide +kernel
theorem dX7_worst_105 : decode cX7_worst 105 = .ok (.iload_n 3, 1) := by decide +kernel
theorem dX7_worst_106 : decode cX7_worst 106 = .ok (.ifCond .lt 9, 3) := by decide +kernel
theorem dX7_worst_109 : decode cX7_worst 109 = .ok (.iload_n 3, 1) := by decide +kernel
theorem dX7_worst_110 : decode cX7_worst 110 = .ok (.bipush 99, 2) := by decide +kernel
theorem dX7_worst_112 : decode cX7_worst 112 = .ok (.if_icmp .ne 8, 3) := by decide +kernel
theorem dX7_worst_115 : decode cX7_worst 115 = .ok (.bipush (-4), 2) := by decide +kernel
theorem dX7_worst_117 : decode cX7_worst 117 = .ok (.goto 4, 3) := by decide +kernel
theorem dX7_worst_120 : decode cX7_worst 120 = .ok (.iload_n 3, 1) := by decide +kernel
theorem dX7_worst_121 : decode cX7_worst 121 = .ok (.ireturn, 1) := by decide +kernel
theorem dX7_fog_0 : decode cX7_fog 0 = .ok (.iload_n 1, 1) := by decide +kernel
theorem dX7_fog_1 : decode cX7_fog 1 = .ok (.i2l, 1) := by decide +kernel
theorem dX7_fog_2 : decode cX7_fog 2 = .ok (.lconst 0, 1) := by decide +kernel
theorem dX7_fog_3 : decode cX7_fog 3 = .ok (.ldc2_w 215, 3) := by decide +kernel
theorem dX7_fog_6 : decode cX7_fog 6 = .ok (.invokestatic 53, 3) := by decide +kernel
theorem dX7_fog_9 : decode cX7_fog 9 = .ok (.ifCond .eq 13, 3) := by decide +kernel
theorem dX7_fog_12 : decode cX7_fog 12 = .ok (.iload_n 2, 1) := by decide +kernel
theorem dX7_fog_13 : decode cX7_fog 13 = .ok (.i2l, 1) := by decide +kernel
theorem dX7_fog_14 : decode cX7_fog 14 = .ok (.lconst 0, 1) := by decide +kernel
theorem dX7_fog_15 : decode cX7_fog 15 = .ok (.lconst 1, 1) := by decide +kernel
theorem dX7_fog_16 : decode cX7_fog 16 = .ok (.invokestatic 53, 3) := by decide +kernel
theorem dX7_fog_19 : decode cX7_fog 19 = .ok (.ifCond .ne 5, 3) := by decide +kernel
theorem dX7_fog_22 : decode cX7_fog 22 = .ok (.iconst (-1), 1) := by decide +kernel
theorem dX7_fog_23 : decode cX7_fog 23 = .ok (.ireturn, 1) := by decide +kernel
theorem dX7_fog_24 : decode cX7_fog 24 = .ok (.iconst 0, 1) := by decide +kernel
theorem dX7_fog_25 : decode cX7_fog 25 = .ok (.istore_n 3, 1) := by decide +kernel
theorem dX7_fog_26 : decode cX7_fog 26 = .ok (.iconst 0, 1) := by decide +kernel
theorem dX7_fog_27 : decode cX7_fog 27 = .ok (.istore 4, 2) := by decide +kernel
theorem dX7_fog_29 : decode cX7_fog 29 = .ok (.aload_n 0, 1) := by decide +kernel
theorem dX7_fog_30 : decode cX7_fog 30 = .ok (.invokevirtual 175, 3) := by decide +kernel
theorem dX7_fog_33 : decode cX7_fog 33 = .ok (.iconst 0, 1) := by decide +kernel
theorem dX7_fog_34 : decode cX7_fog 34 = .ok (.istore 5, 2) := by decide +kernel
theorem dX7_fog_36 : decode cX7_fog 36 = .ok (.iload 5, 2) := by decide +kernel
theorem dX7_fog_38 : decode cX7_fog 38 = .ok (.iconst 1, 1) := by decide +kernel
theorem dX7_fog_39 : decode cX7_fog 39 = .ok (.aload_n 0, 1) := by decide +kernel
theorem dX7_fog_40 : decode cX7_fog 40 = .ok (.getfield 7, 3) := by decide +kernel
theorem dX7_fog_43 : decode cX7_fog 43 = .ok (.iconst 0, 1) := by decide +kernel
theorem dX7_fog_44 : decode cX7_fog 44 = .ok (.iaload, 1) := by decide +kernel
theorem dX7_fog_45 : decode cX7_fog 45 = .ok (.ishl, 1) := by decide +kernel
theorem dX7_fog_46 : decode cX7_fog 46 = .ok (.if_icmp .ge 122, 3) := by decide +kernel
theorem dX7_fog_49 : decode cX7_fog 49 = .ok (.iconst 1, 1) := by decide +kernel
theorem dX7_fog_50 : decode cX7_fog 50 = .ok (.istore 6, 2) := by decide +kernel
theorem dX7_fog_52 : decode cX7_fog 52 = .ok (.iconst 0, 1) := by decide +kernel
theorem dX7_fog_53 : decode cX7_fog 53 = .ok (.istore 7, 2) := by decide +kernel
theorem dX7_fog_55 : decode cX7_fog 55 = .ok (.iload 7, 2) := by decide +kernel
theorem dX7_fog_57 : decode cX7_fog 57 = .ok (.aload_n 0, 1) := by decide +kernel
theorem dX7_fog_58 : decode cX7_fog 58 = .ok (.getfield 7, 3) := by decide +kernel
theorem dX7_fog_61 : decode cX7_fog 61 = .ok (.iconst 0, 1) := by decide +kernel
theorem dX7_fog_62 : decode cX7_fog 62 = .ok (.iaload, 1) := by decide +kernel
theorem dX7_fog_63 : decode cX7_fog 63 = .ok (.if_icmp .ge 72, 3) := by decide +kernel
theorem dX7_fog_66 : decode cX7_fog 66 = .ok (.iload 5, 2) := by decide +kernel
theorem dX7_fog_68 : decode cX7_fog 68 = .ok (.iload 7, 2) := by decide +kernel
theorem dX7_fog_70 : decode cX7_fog 70 = .ok (.ishr, 1) := by decide +kernel
theorem dX7_fog_71 : decode cX7_fog 71 = .ok (.iconst 1, 1) := by decide +kernel
theorem dX7_fog_72 : decode cX7_fog 72 = .ok (.iand, 1) := by decide +kernel
theorem dX7_fog_73 : decode cX7_fog 73 = .ok (.iconst 1, 1) := by decide +kernel
theorem dX7_fog_74 : decode cX7_fog 74 = .ok (.if_icmp .ne 7, 3) := by decide +kernel
theorem dX7_fog_77 : decode cX7_fog 77 = .ok (.iconst 1, 1) := by decide +kernel
theorem dX7_fog_78 : decode cX7_fog 78 = .ok (.goto 4, 3) := by decide +kernel
theorem dX7_fog_81 : decode cX7_fog 81 = .ok (.iconst 0, 1) := by decide +kernel
theorem dX7_fog_82 : decode cX7_fog 82 = .ok (.istore 8, 2) := by decide +kernel
theorem dX7_fog_84 : decode cX7_fog 84 = .ok (.iload 6, 2) := by decide +kernel
theorem dX7_fog_86 : decode cX7_fog 86 = .ok (.iload 8, 2) := by decide +kernel
theorem dX7_fog_88 : decode cX7_fog 88 = .ok (.ifCond .eq 7, 3) := by decide +kernel
theorem dX7_fog_91 : decode cX7_fog 91 = .ok (.iload_n 1, 1) := by decide +kernel
theorem dX7_fog_92 : decode cX7_fog 92 = .ok (.goto 7, 3) := by decide +kernel
theorem dX7_fog_95 : decode cX7_fog 95 = .ok (.bipush 10, 2) := by decide +kernel
theorem dX7_fog_97 : decode cX7_fog 97 = .ok (.iload_n 1, 1) := by decide +kernel
theorem dX7_fog_98 : decode cX7_fog 98 = .ok (.isub, 1) := by decide +kernel
theorem dX7_fog_99 : decode cX7_fog 99 = .ok (.imul, 1) := by decide +kernel
theorem dX7_fog_100 : decode cX7_fog 100 = .ok (.istore 6, 2) := by decide +kernel
theorem dX7_fog_102 : decode cX7_fog 102 = .ok (.aload_n 0, 1) := by decide +kernel
theorem dX7_fog_103 : decode cX7_fog 103 = .ok (.iload 7, 2) := by decide +kernel
theorem dX7_fog_105 : decode cX7_fog 105 = .ok (.iconst 1, 1) := by decide +kernel
theorem dX7_fog_106 : decode cX7_fog 106 = .ok (.aload_n 0, 1) := by decide +kernel
theorem dX7_fog_107 : decode cX7_fog 107 = .ok (.iload 7, 2) := by decide +kernel
theorem dX7_fog_109 : decode cX7_fog 109 = .ok (.invokevirtual 65, 3) := by decide +kernel
theorem dX7_fog_112 : decode cX7_fog 112 = .ok (.iload 8, 2) := by decide +kernel
theorem dX7_fog_114 : decode cX7_fog 114 = .ok (.ifCond .eq 7, 3) := by decide +kernel
theorem dX7_fog_117 : decode cX7_fog 117 = .ok (.iconst 1, 1) := by decide +kernel
theorem dX7_fog_118 : decode cX7_fog 118 = .ok (.goto 4, 3) := by decide +kernel
theorem dX7_fog_121 : decode cX7_fog 121 = .ok (.iconst 0, 1) := by decide +kernel
theorem dX7_fog_122 : decode cX7_fog 122 = .ok (.iadd, 1) := by decide +kernel
theorem dX7_fog_123 : decode cX7_fog 123 = .ok (.invokestatic 61, 3) := by decide +kernel
theorem dX7_fog_126 : decode cX7_fog 126 = .ok (.invokevirtual 81, 3) := by decide +kernel
theorem dX7_fog_129 : decode cX7_fog 129 = .ok (.iinc 7 1, 3) := by decide +kernel
theorem dX7_fog_132 : decode cX7_fog 132 = .ok (.goto (-77), 3) := by decide +kernel
theorem dX7_fog_135 : decode cX7_fog 135 = .ok (.iload 4, 2) := by decide +kernel
theorem dX7_fog_137 : decode cX7_fog 137 = .ok (.iload 6, 2) := by decide +kernel
theorem dX7_fog_139 : decode cX7_fog 139 = .ok (.iadd, 1) := by decide +kernel
theorem dX7_fog_140 : decode cX7_fog 140 = .ok (.istore 4, 2) := by decide +kernel
theorem dX7_fog_142 : decode cX7_fog 142 = .ok (.iload_n 3, 1) := by decide +kernel
theorem dX7_fog_143 : decode cX7_fog 143 = .ok (.aload_n 0, 1) := by decide +kernel
theorem dX7_fog_144 : decode cX7_fog 144 = .ok (.invokevirtual 118, 3) := by decide +kernel
theorem dX7_fog_147 : decode cX7_fog 147 = .ok (.ifCond .ne 8, 3) := by decide +kernel
theorem dX7_fog_150 : decode cX7_fog 150 = .ok (.iload 6, 2) := by decide +kernel
theorem dX7_fog_152 : decode cX7_fog 152 = .ok (.goto 4, 3) := by decide +kernel
theorem dX7_fog_155 : decode cX7_fog 155 = .ok (.iconst 0, 1) := by decide +kernel
theorem dX7_fog_156 : decode cX7_fog 156 = .ok (.iadd, 1) := by decide +kernel
theorem dX7_fog_157 : decode cX7_fog 157 = .ok (.istore_n 3, 1) := by decide +kernel
theorem dX7_fog_158 : decode cX7_fog 158 = .ok (.aload_n 0, 1) := by decide +kernel
theorem dX7_fog_159 : decode cX7_fog 159 = .ok (.invokevirtual 182, 3) := by decide +kernel
theorem dX7_fog_162 : decode cX7_fog 162 = .ok (.iinc 5 1, 3) := by decide +kernel
theorem dX7_fog_165 : decode cX7_fog 165 = .ok (.goto (-129), 3) := by decide +kernel
theorem dX7_fog_168 : decode cX7_fog 168 = .ok (.iload_n 3, 1) := by decide +kernel
theorem dX7_fog_169 : decode cX7_fog 169 = .ok (.istore 5, 2) := by decide +kernel
theorem dX7_fog_171 : decode cX7_fog 171 = .ok (.iload 4, 2) := by decide +kernel
theorem dX7_fog_173 : decode cX7_fog 173 = .ok (.istore 6, 2) := by decide +kernel
theorem dX7_fog_175 : decode cX7_fog 175 = .ok (.iload 6, 2) := by decide +kernel
theorem dX7_fog_177 : decode cX7_fog 177 = .ok (.ifCond .eq 21, 3) := by decide +kernel
theorem dX7_fog_180 : decode cX7_fog 180 = .ok (.iload 5, 2) := by decide +kernel
theorem dX7_fog_182 : decode cX7_fog 182 = .ok (.iload 6, 2) := by decide +kernel
theorem dX7_fog_184 : decode cX7_fog 184 = .ok (.irem, 1) := by decide +kernel
theorem dX7_fog_185 : decode cX7_fog 185 = .ok (.istore 7, 2) := by decide +kernel
theorem dX7_fog_187 : decode cX7_fog 187 = .ok (.iload 6, 2) := by decide +kernel
theorem dX7_fog_189 : decode cX7_fog 189 = .ok (.istore 5, 2) := by decide +kernel
theorem dX7_fog_191 : decode cX7_fog 191 = .ok (.iload 7, 2) := by decide +kernel
theorem dX7_fog_193 : decode cX7_fog 193 = .ok (.istore 6, 2) := by decide +kernel
theorem dX7_fog_195 : decode cX7_fog 195 = .ok (.goto (-20), 3) := by decide +kernel
theorem dX7_fog_198 : decode cX7_fog 198 = .ok (.iload_n 2, 1) := by decide +kernel
theorem dX7_fog_199 : decode cX7_fog 199 = .ok (.ifCond .ne 10, 3) := by decide +kernel
theorem dX7_fog_202 : decode cX7_fog 202 = .ok (.iload_n 3, 1) := by decide +kernel
theorem dX7_fog_203 : decode cX7_fog 203 = .ok (.iload 5, 2) := by decide +kernel
theorem dX7_fog_205 : decode cX7_fog 205 = .ok (.idiv, 1) := by decide +kernel
theorem dX7_fog_206 : decode cX7_fog 206 = .ok (.goto 8, 3) := by decide +kernel
theorem dX7_fog_209 : decode cX7_fog 209 = .ok (.iload 4, 2) := by decide +kernel
theorem dX7_fog_211 : decode cX7_fog 211 = .ok (.iload 5, 2) := by decide +kernel
theorem dX7_fog_213 : decode cX7_fog 213 = .ok (.idiv, 1) := by decide +kernel
theorem dX7_fog_214 : decode cX7_fog 214 = .ok (.ireturn, 1) := by decide +kernel
theorem dX7_image_0 : decode cX7_image 0 = .ok (.iconst 0, 1) := by decide +kernel
theorem dX7_image_1 : decode cX7_image 1 = .ok (.istore_n 1, 1) := by decide +kernel
theorem dX7_image_2 : decode cX7_image 2 = .ok (.iload_n 1, 1) := by decide +kernel
theorem dX7_image_3 : decode cX7_image 3 = .ok (.bipush 27, 2) := by decide +kernel
theorem dX7_image_5 : decode cX7_image 5 = .ok (.if_icmp .ge 21, 3) := by decide +kernel
theorem dX7_image_8 : decode cX7_image 8 = .ok (.aload_n 0, 1) := by decide +kernel
theorem dX7_image_9 : decode cX7_image 9 = .ok (.getfield 37, 3) := by decide +kernel
theorem dX7_image_12 : decode cX7_image 12 = .ok (.iload_n 1, 1) := by decide +kernel
theorem dX7_image_13 : decode cX7_image 13 = .ok (.aload_n 0, 1) := by decide +kernel
theorem dX7_image_14 : decode cX7_image 14 = .ok (.getfield 7, 3) := by decide +kernel
theorem dX7_image_17 : decode cX7_image 17 = .ok (.iload_n 1, 1) := by decide +kernel
theorem dX7_image_18 : decode cX7_image 18 = .ok (.iaload, 1) := by decide +kernel
theorem dX7_image_19 : decode cX7_image 19 = .ok (.iastore, 1) := by decide +kernel
theorem dX7_image_20 : decode cX7_image 20 = .ok (.iinc 1 1, 3) := by decide +kernel
theorem dX7_image_23 : decode cX7_image 23 = .ok (.goto (-21), 3) := by decide +kernel
theorem dX7_image_26 : decode cX7_image 26 = .ok (.iconst 0, 1) := by decide +kernel
theorem dX7_image_27 : decode cX7_image 27 = .ok (.istore_n 1, 1) := by decide +kernel
theorem dX7_image_28 : decode cX7_image 28 = .ok (.iload_n 1, 1) := by decide +kernel
theorem dX7_image_29 : decode cX7_image 29 = .ok (.sipush 216, 3) := by decide +kernel
theorem dX7_image_32 : decode cX7_image 32 = .ok (.if_icmp .ge 24, 3) := by decide +kernel
theorem dX7_image_35 : decode cX7_image 35 = .ok (.aload_n 0, 1) := by decide +kernel
theorem dX7_image_36 : decode cX7_image 36 = .ok (.getfield 37, 3) := by decide +kernel
theorem dX7_image_39 : decode cX7_image 39 = .ok (.bipush 27, 2) := by decide +kernel
theorem dX7_image_41 : decode cX7_image 41 = .ok (.iload_n 1, 1) := by decide +kernel
theorem dX7_image_42 : decode cX7_image 42 = .ok (.iadd, 1) := by decide +kernel
theorem dX7_image_43 : decode cX7_image 43 = .ok (.aload_n 0, 1) := by decide +kernel
theorem dX7_image_44 : decode cX7_image 44 = .ok (.getfield 22, 3) := by decide +kernel
theorem dX7_image_47 : decode cX7_image 47 = .ok (.iload_n 1, 1) := by decide +kernel
theorem dX7_image_48 : decode cX7_image 48 = .ok (.iaload, 1) := by decide +kernel
theorem dX7_image_49 : decode cX7_image 49 = .ok (.iastore, 1) := by decide +kernel
theorem dX7_image_50 : decode cX7_image 50 = .ok (.iinc 1 1, 3) := by decide +kernel
theorem dX7_image_53 : decode cX7_image 53 = .ok (.goto (-25), 3) := by decide +kernel
theorem dX7_image_56 : decode cX7_image 56 = .ok (.aload_n 0, 1) := by decide +kernel
theorem dX7_image_57 : decode cX7_image 57 = .ok (.aload_n 0, 1) := by decide +kernel
theorem dX7_image_58 : decode cX7_image 58 = .ok (.getfield 91, 3) := by decide +kernel
theorem dX7_image_61 : decode cX7_image 61 = .ok (.putfield 217, 3) := by decide +kernel
theorem dX7_image_64 : decode cX7_image 64 = .ok (.aload_n 0, 1) := by decide +kernel
theorem dX7_image_65 : decode cX7_image 65 = .ok (.iconst 1, 1) := by decide +kernel
theorem dX7_image_66 : decode cX7_image 66 = .ok (.putfield 220, 3) := by decide +kernel
theorem dX7_image_69 : decode cX7_image 69 = .ok (.iconst 1, 1) := by decide +kernel
theorem dX7_image_70 : decode cX7_image 70 = .ok (.ireturn, 1) := by decide +kernel
theorem dX7_restore_0 : decode cX7_restore 0 = .ok (.aload_n 0, 1) := by decide +kernel
theorem dX7_restore_1 : decode cX7_restore 1 = .ok (.getfield 220, 3) := by decide +kernel
theorem dX7_restore_4 : decode cX7_restore 4 = .ok (.ifCond .ne 6, 3) := by decide +kernel
theorem dX7_restore_7 : decode cX7_restore 7 = .ok (.bipush (-4), 2) := by decide +kernel
theorem dX7_restore_9 : decode cX7_restore 9 = .ok (.ireturn, 1) := by decide +kernel
theorem dX7_restore_10 : decode cX7_restore 10 = .ok (.iconst 0, 1) := by decide +kernel
theorem dX7_restore_11 : decode cX7_restore 11 = .ok (.istore_n 1, 1) := by decide +kernel
theorem dX7_restore_12 : decode cX7_restore 12 = .ok (.iload_n 1, 1) := by decide +kernel
theorem dX7_restore_13 : decode cX7_restore 13 = .ok (.bipush 27, 2) := by decide +kernel
theorem dX7_restore_15 : decode cX7_restore 15 = .ok (.if_icmp .ge 21, 3) := by decide +kernel
theorem dX7_restore_18 : decode cX7_restore 18 = .ok (.aload_n 0, 1) := by decide +kernel
theorem dX7_restore_19 : decode cX7_restore 19 = .ok (.getfield 7, 3) := by decide +kernel
theorem dX7_restore_22 : decode cX7_restore 22 = .ok (.iload_n 1, 1) := by decide +kernel
theorem dX7_restore_23 : decode cX7_restore 23 = .ok (.aload_n 0, 1) := by decide +kernel
theorem dX7_restore_24 : decode cX7_restore 24 = .ok (.getfield 37, 3) := by decide +kernel
theorem dX7_restore_27 : decode cX7_restore 27 = .ok (.iload_n 1, 1) := by decide +kernel
theorem dX7_restore_28 : decode cX7_restore 28 = .ok (.iaload, 1) := by decide +kernel
theorem dX7_restore_29 : decode cX7_restore 29 = .ok (.iastore, 1) := by decide +kernel
theorem dX7_restore_30 : decode cX7_restore 30 = .ok (.iinc 1 1, 3) := by decide +kernel
theorem dX7_restore_33 : decode cX7_restore 33 = .ok (.goto (-21), 3) := by decide +kernel
theorem dX7_restore_36 : decode cX7_restore 36 = .ok (.iconst 0, 1) := by decide +kernel
theorem dX7_restore_37 : decode cX7_restore 37 = .ok (.istore_n 1, 1) := by decide +kernel
theorem dX7_restore_38 : decode cX7_restore 38 = .ok (.iload_n 1, 1) := by decide +kernel
theorem dX7_restore_39 : decode cX7_restore 39 = .ok (.sipush 216, 3) := by decide +kernel
theorem dX7_restore_42 : decode cX7_restore 42 = .ok (.if_icmp .ge 24, 3) := by decide +kernel
theorem dX7_restore_45 : decode cX7_restore 45 = .ok (.aload_n 0, 1) := by decide +kernel
theorem dX7_restore_46 : decode cX7_restore 46 = .ok (.getfield 22, 3) := by decide +kernel
theorem dX7_restore_49 : decode cX7_restore 49 = .ok (.iload_n 1, 1) := by decide +kernel
theorem dX7_restore_50 : decode cX7_restore 50 = .ok (.aload_n 0, 1) := by decide +kernel
theorem dX7_restore_51 : decode cX7_restore 51 = .ok (.getfield 37, 3) := by decide +kernel
theorem dX7_restore_54 : decode cX7_restore 54 = .ok (.bipush 27, 2) := by decide +kernel
theorem dX7_restore_56 : decode cX7_restore 56 = .ok (.iload_n 1, 1) := by decide +kernel
theorem dX7_restore_57 : decode cX7_restore 57 = .ok (.iadd, 1) := by decide +kernel
theorem dX7_restore_58 : decode cX7_restore 58 = .ok (.iaload, 1) := by decide +kernel
theorem dX7_restore_59 : decode cX7_restore 59 = .ok (.iastore, 1) := by decide +kernel
theorem dX7_restore_60 : decode cX7_restore 60 = .ok (.iinc 1 1, 3) := by decide +kernel
theorem dX7_restore_63 : decode cX7_restore 63 = .ok (.goto (-25), 3) := by decide +kernel
theorem dX7_restore_66 : decode cX7_restore 66 = .ok (.aload_n 0, 1) := by decide +kernel
theorem dX7_restore_67 : decode cX7_restore 67 = .ok (.aload_n 0, 1) := by decide +kernel
theorem dX7_restore_68 : decode cX7_restore 68 = .ok (.getfield 217, 3) := by decide +kernel
theorem dX7_restore_71 : decode cX7_restore 71 = .ok (.putfield 91, 3) := by decide +kernel
theorem dX7_restore_74 : decode cX7_restore 74 = .ok (.iconst 1, 1) := by decide +kernel
theorem dX7_restore_75 : decode cX7_restore 75 = .ok (.ireturn, 1) := by decide +kernel
theorem dX7_isSheet_0 : decode cX7_isSheet 0 = .ok (.iload_n 0, 1) := by decide +kernel
theorem dX7_isSheet_1 : decode cX7_isSheet 1 = .ok (.i2l, 1) := by decide +kernel
theorem dX7_isSheet_2 : decode cX7_isSheet 2 = .ok (.lconst 0, 1) := by decide +kernel
theorem dX7_isSheet_3 : decode cX7_isSheet 3 = .ok (.ldc2_w 223, 3) := by decide +kernel
theorem dX7_isSheet_6 : decode cX7_isSheet 6 = .ok (.invokestatic 53, 3) := by decide +kernel
theorem dX7_isSheet_9 : decode cX7_isSheet 9 = .ok (.ireturn, 1) := by decide +kernel
theorem dX7_isLane_0 : decode cX7_isLane 0 = .ok (.iload_n 0, 1) := by decide +kernel
theorem dX7_isLane_1 : decode cX7_isLane 1 = .ok (.i2l, 1) := by decide +kernel
theorem dX7_isLane_2 : decode cX7_isLane 2 = .ok (.lconst 0, 1) := by decide +kernel
theorem dX7_isLane_3 : decode cX7_isLane 3 = .ok (.ldc2_w 223, 3) := by decide +kernel
theorem dX7_isLane_6 : decode cX7_isLane 6 = .ok (.invokestatic 53, 3) := by decide +kernel
theorem dX7_isLane_9 : decode cX7_isLane 9 = .ok (.ireturn, 1) := by decide +kernel
theorem dX7_why_0 : decode cX7_why 0 = .ok (.aload_n 0, 1) := by decide +kernel
theorem dX7_why_1 : decode cX7_why 1 = .ok (.getfield 40, 3) := by decide +kernel
theorem dX7_why_4 : decode cX7_why 4 = .ok (.iload_n 1, 1) := by decide +kernel
theorem dX7_why_5 : decode cX7_why 5 = .ok (.iaload, 1) := by decide +kernel
theorem dX7_why_6 : decode cX7_why 6 = .ok (.ifCond .ge 6, 3) := by decide +kernel
theorem dX7_why_9 : decode cX7_why 9 = .ok (.bipush (-11), 2) := by decide +kernel
theorem dX7_why_11 : decode cX7_why 11 = .ok (.ireturn, 1) := by decide +kernel
theorem dX7_why_12 : decode cX7_why 12 = .ok (.aload_n 0, 1) := by decide +kernel
theorem dX7_why_13 : decode cX7_why 13 = .ok (.getfield 40, 3) := by decide +kernel
theorem dX7_why_16 : decode cX7_why 16 = .ok (.iload_n 1, 1) := by decide +kernel
theorem dX7_why_17 : decode cX7_why 17 = .ok (.iaload, 1) := by decide +kernel
theorem dX7_why_18 : decode cX7_why 18 = .ok (.iload_n 2, 1) := by decide +kernel
theorem dX7_why_19 : decode cX7_why 19 = .ok (.if_icmp .eq 6, 3) := by decide +kernel
theorem dX7_why_22 : decode cX7_why 22 = .ok (.bipush (-12), 2) := by decide +kernel
theorem dX7_why_24 : decode cX7_why 24 = .ok (.ireturn, 1) := by decide +kernel
theorem dX7_why_25 : decode cX7_why 25 = .ok (.iload_n 3, 1) := by decide +kernel
theorem dX7_why_26 : decode cX7_why 26 = .ok (.ifCond .lt 25, 3) := by decide +kernel
theorem dX7_why_29 : decode cX7_why 29 = .ok (.iload 4, 2) := by decide +kernel
theorem dX7_why_31 : decode cX7_why 31 = .ok (.ifCond .lt 20, 3) := by decide +kernel
theorem dX7_why_34 : decode cX7_why 34 = .ok (.iload_n 3, 1) := by decide +kernel
theorem dX7_why_35 : decode cX7_why 35 = .ok (.i2l, 1) := by decide +kernel
theorem dX7_why_36 : decode cX7_why 36 = .ok (.iload 4, 2) := by decide +kernel
theorem dX7_why_38 : decode cX7_why 38 = .ok (.i2l, 1) := by decide +kernel
theorem dX7_why_39 : decode cX7_why 39 = .ok (.ladd, 1) := by decide +kernel
theorem dX7_why_40 : decode cX7_why 40 = .ok (.aload_n 0, 1) := by decide +kernel
theorem dX7_why_41 : decode cX7_why 41 = .ok (.getfield 43, 3) := by decide +kernel
theorem dX7_why_44 : decode cX7_why 44 = .ok (.iload_n 1, 1) := by decide +kernel
theorem dX7_why_45 : decode cX7_why 45 = .ok (.iaload, 1) := by decide +kernel
theorem dX7_why_46 : decode cX7_why 46 = .ok (.i2l, 1) := by decide +kernel
theorem dX7_why_47 : decode cX7_why 47 = .ok (.lcmp, 1) := by decide +kernel
theorem dX7_why_48 : decode cX7_why 48 = .ok (.ifCond .le 8, 3) := by decide +kernel
theorem dX7_why_51 : decode cX7_why 51 = .ok (.bipush (-13), 2) := by decide +kernel
theorem dX7_why_53 : decode cX7_why 53 = .ok (.goto 4, 3) := by decide +kernel
theorem dX7_why_56 : decode cX7_why 56 = .ok (.iconst 0, 1) := by decide +kernel
theorem dX7_why_57 : decode cX7_why 57 = .ok (.ireturn, 1) := by decide +kernel
theorem dX7_isSo_0 : decode cX7_isSo 0 = .ok (.iconst 1, 1) := by decide +kernel
theorem dX7_isSo_1 : decode cX7_isSo 1 = .ok (.istore 4, 2) := by decide +kernel
theorem dX7_isSo_3 : decode cX7_isSo 3 = .ok (.iconst 0, 1) := by decide +kernel
theorem dX7_isSo_4 : decode cX7_isSo 4 = .ok (.istore 5, 2) := by decide +kernel
theorem dX7_isSo_6 : decode cX7_isSo 6 = .ok (.iload 5, 2) := by decide +kernel
theorem dX7_isSo_8 : decode cX7_isSo 8 = .ok (.iload_n 3, 1) := by decide +kernel
theorem dX7_isSo_9 : decode cX7_isSo 9 = .ok (.if_icmp .ge 44, 3) := by decide +kernel
theorem dX7_isSo_12 : decode cX7_isSo 12 = .ok (.aload_n 0, 1) := by decide +kernel
theorem dX7_isSo_13 : decode cX7_isSo 13 = .ok (.invokevirtual 85, 3) := by decide +kernel
theorem dX7_isSo_16 : decode cX7_isSo 16 = .ok (.iload 4, 2) := by decide +kernel
theorem dX7_isSo_18 : decode cX7_isSo 18 = .ok (.ifCond .eq 26, 3) := by decide +kernel
theorem dX7_isSo_21 : decode cX7_isSo 21 = .ok (.aload_n 0, 1) := by decide +kernel
theorem dX7_isSo_22 : decode cX7_isSo 22 = .ok (.iload_n 1, 1) := by decide +kernel
theorem dX7_isSo_23 : decode cX7_isSo 23 = .ok (.invokevirtual 65, 3) := by decide +kernel
theorem dX7_isSo_26 : decode cX7_isSo 26 = .ok (.i2l, 1) := by decide +kernel
theorem dX7_isSo_27 : decode cX7_isSo 27 = .ok (.aload_n 0, 1) := by decide +kernel
theorem dX7_isSo_28 : decode cX7_isSo 28 = .ok (.getfield 46, 3) := by decide +kernel
theorem dX7_isSo_31 : decode cX7_isSo 31 = .ok (.iload_n 2, 1) := by decide +kernel
theorem dX7_isSo_32 : decode cX7_isSo 32 = .ok (.iload 5, 2) := by decide +kernel
theorem dX7_isSo_34 : decode cX7_isSo 34 = .ok (.iadd, 1) := by decide +kernel
theorem dX7_isSo_35 : decode cX7_isSo 35 = .ok (.laload, 1) := by decide +kernel
theorem dX7_isSo_36 : decode cX7_isSo 36 = .ok (.lcmp, 1) := by decide +kernel
theorem dX7_isSo_37 : decode cX7_isSo 37 = .ok (.ifCond .ne 7, 3) := by decide +kernel
theorem dX7_isSo_40 : decode cX7_isSo 40 = .ok (.iconst 1, 1) := by decide +kernel
theorem dX7_isSo_41 : decode cX7_isSo 41 = .ok (.goto 4, 3) := by decide +kernel
theorem dX7_isSo_44 : decode cX7_isSo 44 = .ok (.iconst 0, 1) := by decide +kernel
theorem dX7_isSo_45 : decode cX7_isSo 45 = .ok (.istore 4, 2) := by decide +kernel
theorem dX7_isSo_47 : decode cX7_isSo 47 = .ok (.iinc 5 1, 3) := by decide +kernel
theorem dX7_isSo_50 : decode cX7_isSo 50 = .ok (.goto (-44), 3) := by decide +kernel
theorem dX7_isSo_53 : decode cX7_isSo 53 = .ok (.aload_n 0, 1) := by decide +kernel
theorem dX7_isSo_54 : decode cX7_isSo 54 = .ok (.invokevirtual 182, 3) := by decide +kernel
theorem dX7_isSo_57 : decode cX7_isSo 57 = .ok (.iload 4, 2) := by decide +kernel
theorem dX7_isSo_59 : decode cX7_isSo 59 = .ok (.ireturn, 1) := by decide +kernel
theorem dX7_heard_0 : decode cX7_heard 0 = .ok (.aload_n 0, 1) := by decide +kernel
theorem dX7_heard_1 : decode cX7_heard 1 = .ok (.iload_n 1, 1) := by decide +kernel
theorem dX7_heard_2 : decode cX7_heard 2 = .ok (.invokevirtual 107, 3) := by decide +kernel
theorem dX7_heard_5 : decode cX7_heard 5 = .ok (.ifCond .eq 41, 3) := by decide +kernel
theorem dX7_heard_8 : decode cX7_heard 8 = .ok (.iload_n 2, 1) := by decide +kernel
theorem dX7_heard_9 : decode cX7_heard 9 = .ok (.invokestatic 225, 3) := by decide +kernel
theorem dX7_heard_12 : decode cX7_heard 12 = .ok (.ifCond .eq 34, 3) := by decide +kernel
theorem dX7_heard_15 : decode cX7_heard 15 = .ok (.iload_n 3, 1) := by decide +kernel
theorem dX7_heard_16 : decode cX7_heard 16 = .ok (.invokestatic 228, 3) := by decide +kernel
theorem dX7_heard_19 : decode cX7_heard 19 = .ok (.ifCond .eq 27, 3) := by decide +kernel
theorem dX7_heard_22 : decode cX7_heard 22 = .ok (.iload 5, 2) := by decide +kernel
theorem dX7_heard_24 : decode cX7_heard 24 = .ok (.i2l, 1) := by decide +kernel
theorem dX7_heard_25 : decode cX7_heard 25 = .ok (.lconst 1, 1) := by decide +kernel
theorem dX7_heard_26 : decode cX7_heard 26 = .ok (.ldc2_w 231, 3) := by decide +kernel
theorem dX7_heard_29 : decode cX7_heard 29 = .ok (.invokestatic 53, 3) := by decide +kernel
theorem dX7_heard_32 : decode cX7_heard 32 = .ok (.ifCond .eq 14, 3) := by decide +kernel
theorem dX7_heard_35 : decode cX7_heard 35 = .ok (.iload 6, 2) := by decide +kernel
theorem dX7_heard_37 : decode cX7_heard 37 = .ok (.i2l, 1) := by decide +kernel
theorem dX7_heard_38 : decode cX7_heard 38 = .ok (.lconst 0, 1) := by decide +kernel
theorem dX7_heard_39 : decode cX7_heard 39 = .ok (.lconst 1, 1) := by decide +kernel
theorem dX7_heard_40 : decode cX7_heard 40 = .ok (.invokestatic 53, 3) := by decide +kernel
theorem dX7_heard_43 : decode cX7_heard 43 = .ok (.ifCond .ne 5, 3) := by decide +kernel
theorem dX7_heard_46 : decode cX7_heard 46 = .ok (.iconst (-1), 1) := by decide +kernel
theorem dX7_heard_47 : decode cX7_heard 47 = .ok (.ireturn, 1) := by decide +kernel
theorem dX7_heard_48 : decode cX7_heard 48 = .ok (.aload_n 0, 1) := by decide +kernel
theorem dX7_heard_49 : decode cX7_heard 49 = .ok (.iload_n 2, 1) := by decide +kernel
theorem dX7_heard_50 : decode cX7_heard 50 = .ok (.iload_n 3, 1) := by decide +kernel
theorem dX7_heard_51 : decode cX7_heard 51 = .ok (.iload 4, 2) := by decide +kernel
theorem dX7_heard_53 : decode cX7_heard 53 = .ok (.iload 5, 2) := by decide +kernel
theorem dX7_heard_55 : decode cX7_heard 55 = .ok (.invokevirtual 233, 3) := by decide +kernel
theorem dX7_heard_58 : decode cX7_heard 58 = .ok (.istore 7, 2) := by decide +kernel
theorem dX7_heard_60 : decode cX7_heard 60 = .ok (.iload 7, 2) := by decide +kernel
theorem dX7_heard_62 : decode cX7_heard 62 = .ok (.ifCond .ge 6, 3) := by decide +kernel
theorem dX7_heard_65 : decode cX7_heard 65 = .ok (.iload 7, 2) := by decide +kernel
theorem dX7_heard_67 : decode cX7_heard 67 = .ok (.ireturn, 1) := by decide +kernel
theorem dX7_heard_68 : decode cX7_heard 68 = .ok (.iconst 0, 1) := by decide +kernel
theorem dX7_heard_69 : decode cX7_heard 69 = .ok (.istore 8, 2) := by decide +kernel
theorem dX7_heard_71 : decode cX7_heard 71 = .ok (.aload_n 0, 1) := by decide +kernel
theorem dX7_heard_72 : decode cX7_heard 72 = .ok (.invokevirtual 175, 3) := by decide +kernel
theorem dX7_heard_75 : decode cX7_heard 75 = .ok (.iconst 0, 1) := by decide +kernel
theorem dX7_heard_76 : decode cX7_heard 76 = .ok (.istore 9, 2) := by decide +kernel
theorem dX7_heard_78 : decode cX7_heard 78 = .ok (.iload 9, 2) := by decide +kernel
theorem dX7_heard_80 : decode cX7_heard 80 = .ok (.iload 6, 2) := by decide +kernel
theorem dX7_heard_82 : decode cX7_heard 82 = .ok (.ifCond .ne 7, 3) := by decide +kernel
theorem dX7_heard_85 : decode cX7_heard 85 = .ok (.iconst 5, 1) := by decide +kernel
theorem dX7_heard_86 : decode cX7_heard 86 = .ok (.goto 5, 3) := by decide +kernel
theorem dX7_heard_89 : decode cX7_heard 89 = .ok (.bipush 19, 2) := by decide +kernel
theorem dX7_heard_91 : decode cX7_heard 91 = .ok (.if_icmp .ge 63, 3) := by decide +kernel
theorem dX7_heard_94 : decode cX7_heard 94 = .ok (.aload_n 0, 1) := by decide +kernel
theorem dX7_heard_95 : decode cX7_heard 95 = .ok (.iload_n 1, 1) := by decide +kernel
theorem dX7_heard_96 : decode cX7_heard 96 = .ok (.iconst 2, 1) := by decide +kernel
theorem dX7_heard_97 : decode cX7_heard 97 = .ok (.iload 6, 2) := by decide +kernel
theorem dX7_heard_99 : decode cX7_heard 99 = .ok (.imul, 1) := by decide +kernel
theorem dX7_heard_100 : decode cX7_heard 100 = .ok (.iload 6, 2) := by decide +kernel
theorem dX7_heard_102 : decode cX7_heard 102 = .ok (.ifCond .ne 8, 3) := by decide +kernel
theorem dX7_heard_105 : decode cX7_heard 105 = .ok (.iload 9, 2) := by decide +kernel
theorem dX7_heard_107 : decode cX7_heard 107 = .ok (.goto 8, 3) := by decide +kernel
theorem dX7_heard_110 : decode cX7_heard 110 = .ok (.iload 9, 2) := by decide +kernel
theorem dX7_heard_112 : decode cX7_heard 112 = .ok (.bipush 9, 2) := by decide +kernel
theorem dX7_heard_114 : decode cX7_heard 114 = .ok (.isub, 1) := by decide +kernel
theorem dX7_heard_115 : decode cX7_heard 115 = .ok (.invokevirtual 81, 3) := by decide +kernel
theorem dX7_heard_118 : decode cX7_heard 118 = .ok (.iload 8, 2) := by decide +kernel
theorem dX7_heard_120 : decode cX7_heard 120 = .ok (.aload_n 0, 1) := by decide +kernel
theorem dX7_heard_121 : decode cX7_heard 121 = .ok (.iload_n 1, 1) := by decide +kernel
theorem dX7_heard_122 : decode cX7_heard 122 = .ok (.bipush 24, 2) := by decide +kernel
theorem dX7_heard_124 : decode cX7_heard 124 = .ok (.iload_n 2, 1) := by decide +kernel
theorem dX7_heard_125 : decode cX7_heard 125 = .ok (.imul, 1) := by decide +kernel
theorem dX7_heard_126 : decode cX7_heard 126 = .ok (.iload 4, 2) := by decide +kernel
theorem dX7_heard_128 : decode cX7_heard 128 = .ok (.iadd, 1) := by decide +kernel
theorem dX7_heard_129 : decode cX7_heard 129 = .ok (.iload 5, 2) := by decide +kernel
theorem dX7_heard_131 : decode cX7_heard 131 = .ok (.invokevirtual 237, 3) := by decide +kernel
theorem dX7_heard_134 : decode cX7_heard 134 = .ok (.ifCond .eq 10, 3) := by decide +kernel
theorem dX7_heard_137 : decode cX7_heard 137 = .ok (.iconst 1, 1) := by decide +kernel
theorem dX7_heard_138 : decode cX7_heard 138 = .ok (.iload 9, 2) := by decide +kernel
theorem dX7_heard_140 : decode cX7_heard 140 = .ok (.ishl, 1) := by decide +kernel
theorem dX7_heard_141 : decode cX7_heard 141 = .ok (.goto 4, 3) := by decide +kernel
theorem dX7_heard_144 : decode cX7_heard 144 = .ok (.iconst 0, 1) := by decide +kernel
theorem dX7_heard_145 : decode cX7_heard 145 = .ok (.ior, 1) := by decide +kernel
theorem dX7_heard_146 : decode cX7_heard 146 = .ok (.istore 8, 2) := by decide +kernel
theorem dX7_heard_148 : decode cX7_heard 148 = .ok (.iinc 9 1, 3) := by decide +kernel
theorem dX7_heard_151 : decode cX7_heard 151 = .ok (.goto (-73), 3) := by decide +kernel
theorem dX7_heard_154 : decode cX7_heard 154 = .ok (.iload 8, 2) := by decide +kernel
theorem dX7_heard_156 : decode cX7_heard 156 = .ok (.ireturn, 1) := by decide +kernel
theorem dX7_film_0 : decode cX7_film 0 = .ok (.aload_n 0, 1) := by decide +kernel
theorem dX7_film_1 : decode cX7_film 1 = .ok (.iload_n 1, 1) := by decide +kernel
theorem dX7_film_2 : decode cX7_film 2 = .ok (.invokevirtual 107, 3) := by decide +kernel
theorem dX7_film_5 : decode cX7_film 5 = .ok (.ifCond .eq 30, 3) := by decide +kernel
theorem dX7_film_8 : decode cX7_film 8 = .ok (.iload_n 2, 1) := by decide +kernel
theorem dX7_film_9 : decode cX7_film 9 = .ok (.i2l, 1) := by decide +kernel
theorem dX7_film_10 : decode cX7_film 10 = .ok (.lconst 1, 1) := by decide +kernel
theorem dX7_film_11 : decode cX7_film 11 = .ok (.ldc2_w 241, 3) := by decide +kernel
theorem dX7_film_14 : decode cX7_film 14 = .ok (.invokestatic 53, 3) := by decide +kernel
theorem dX7_film_17 : decode cX7_film 17 = .ok (.ifCond .eq 18, 3) := by decide +kernel
theorem dX7_film_20 : decode cX7_film 20 = .ok (.iload_n 3, 1) := by decide +kernel
theorem dX7_film_21 : decode cX7_film 21 = .ok (.invokestatic 225, 3) := by decide +kernel
theorem dX7_film_24 : decode cX7_film 24 = .ok (.ifCond .eq 11, 3) := by decide +kernel
theorem dX7_film_27 : decode cX7_film 27 = .ok (.iload 4, 2) := by decide +kernel
theorem dX7_film_29 : decode cX7_film 29 = .ok (.invokestatic 228, 3) := by decide +kernel
theorem dX7_film_32 : decode cX7_film 32 = .ok (.ifCond .ne 5, 3) := by decide +kernel
theorem dX7_film_35 : decode cX7_film 35 = .ok (.iconst (-1), 1) := by decide +kernel
theorem dX7_film_36 : decode cX7_film 36 = .ok (.ireturn, 1) := by decide +kernel
theorem dX7_film_37 : decode cX7_film 37 = .ok (.aload_n 0, 1) := by decide +kernel
theorem dX7_film_38 : decode cX7_film 38 = .ok (.iload_n 3, 1) := by decide +kernel
theorem dX7_film_39 : decode cX7_film 39 = .ok (.iload 4, 2) := by decide +kernel
theorem dX7_film_41 : decode cX7_film 41 = .ok (.iload 5, 2) := by decide +kernel
theorem dX7_film_43 : decode cX7_film 43 = .ok (.iload_n 2, 1) := by decide +kernel
theorem dX7_film_44 : decode cX7_film 44 = .ok (.invokevirtual 233, 3) := by decide +kernel
theorem dX7_film_47 : decode cX7_film 47 = .ok (.istore 6, 2) := by decide +kernel
theorem dX7_film_49 : decode cX7_film 49 = .ok (.iload 6, 2) := by decide +kernel
theorem dX7_film_51 : decode cX7_film 51 = .ok (.ifCond .ge 6, 3) := by decide +kernel
theorem dX7_film_54 : decode cX7_film 54 = .ok (.iload 6, 2) := by decide +kernel
theorem dX7_film_56 : decode cX7_film 56 = .ok (.ireturn, 1) := by decide +kernel
theorem dX7_film_57 : decode cX7_film 57 = .ok (.aload_n 0, 1) := by decide +kernel
theorem dX7_film_58 : decode cX7_film 58 = .ok (.invokevirtual 175, 3) := by decide +kernel
theorem dX7_film_61 : decode cX7_film 61 = .ok (.iconst 0, 1) := by decide +kernel
theorem dX7_film_62 : decode cX7_film 62 = .ok (.istore 7, 2) := by decide +kernel
theorem dX7_film_64 : decode cX7_film 64 = .ok (.iload 7, 2) := by decide +kernel
theorem dX7_film_66 : decode cX7_film 66 = .ok (.iload_n 2, 1) := by decide +kernel
theorem dX7_film_67 : decode cX7_film 67 = .ok (.if_icmp .ge 34, 3) := by decide +kernel
theorem dX7_film_70 : decode cX7_film 70 = .ok (.aload_n 0, 1) := by decide +kernel
theorem dX7_film_71 : decode cX7_film 71 = .ok (.invokevirtual 85, 3) := by decide +kernel
theorem dX7_film_74 : decode cX7_film 74 = .ok (.aload_n 0, 1) := by decide +kernel
theorem dX7_film_75 : decode cX7_film 75 = .ok (.getfield 46, 3) := by decide +kernel
theorem dX7_film_78 : decode cX7_film 78 = .ok (.bipush 24, 2) := by decide +kernel
theorem dX7_film_80 : decode cX7_film 80 = .ok (.iload_n 3, 1) := by decide +kernel
theorem dX7_film_81 : decode cX7_film 81 = .ok (.imul, 1) := by decide +kernel
theorem dX7_film_82 : decode cX7_film 82 = .ok (.iload 5, 2) := by decide +kernel
theorem dX7_film_84 : decode cX7_film 84 = .ok (.iadd, 1) := by decide +kernel
theorem dX7_film_85 : decode cX7_film 85 = .ok (.iload 7, 2) := by decide +kernel
theorem dX7_film_87 : decode cX7_film 87 = .ok (.iadd, 1) := by decide +kernel
theorem dX7_film_88 : decode cX7_film 88 = .ok (.aload_n 0, 1) := by decide +kernel
theorem dX7_film_89 : decode cX7_film 89 = .ok (.iload_n 1, 1) := by decide +kernel
theorem dX7_film_90 : decode cX7_film 90 = .ok (.invokevirtual 65, 3) := by decide +kernel
theorem dX7_film_93 : decode cX7_film 93 = .ok (.i2l, 1) := by decide +kernel
theorem dX7_film_94 : decode cX7_film 94 = .ok (.lastore, 1) := by decide +kernel
theorem dX7_film_95 : decode cX7_film 95 = .ok (.iinc 7 1, 3) := by decide +kernel
theorem dX7_film_98 : decode cX7_film 98 = .ok (.goto (-34), 3) := by decide +kernel
theorem dX7_film_101 : decode cX7_film 101 = .ok (.aload_n 0, 1) := by decide +kernel
theorem dX7_film_102 : decode cX7_film 102 = .ok (.invokevirtual 182, 3) := by decide +kernel
theorem dX7_film_105 : decode cX7_film 105 = .ok (.iload_n 2, 1) := by decide +kernel
theorem dX7_film_106 : decode cX7_film 106 = .ok (.ireturn, 1) := by decide +kernel
theorem dX7_sheet_0 : decode cX7_sheet 0 = .ok (.iload_n 1, 1) := by decide +kernel
theorem dX7_sheet_1 : decode cX7_sheet 1 = .ok (.invokestatic 225, 3) := by decide +kernel
theorem dX7_sheet_4 : decode cX7_sheet 4 = .ok (.ifCond .eq 16, 3) := by decide +kernel
theorem dX7_sheet_7 : decode cX7_sheet 7 = .ok (.iload_n 2, 1) := by decide +kernel
theorem dX7_sheet_8 : decode cX7_sheet 8 = .ok (.invokestatic 228, 3) := by decide +kernel
theorem dX7_sheet_11 : decode cX7_sheet 11 = .ok (.ifCond .eq 9, 3) := by decide +kernel
theorem dX7_sheet_14 : decode cX7_sheet 14 = .ok (.iload_n 3, 1) := by decide +kernel
theorem dX7_sheet_15 : decode cX7_sheet 15 = .ok (.bipush 24, 2) := by decide +kernel
theorem dX7_sheet_17 : decode cX7_sheet 17 = .ok (.if_icmp .le 5, 3) := by decide +kernel
theorem dX7_sheet_20 : decode cX7_sheet 20 = .ok (.iconst (-1), 1) := by decide +kernel
theorem dX7_sheet_21 : decode cX7_sheet 21 = .ok (.ireturn, 1) := by decide +kernel
theorem dX7_sheet_22 : decode cX7_sheet 22 = .ok (.iload_n 3, 1) := by decide +kernel
theorem dX7_sheet_23 : decode cX7_sheet 23 = .ok (.ifCond .ge 6, 3) := by decide +kernel
theorem dX7_sheet_26 : decode cX7_sheet 26 = .ok (.bipush (-14), 2) := by decide +kernel
theorem dX7_sheet_28 : decode cX7_sheet 28 = .ok (.ireturn, 1) := by decide +kernel
theorem dX7_sheet_29 : decode cX7_sheet 29 = .ok (.aload_n 0, 1) := by decide +kernel
theorem dX7_sheet_30 : decode cX7_sheet 30 = .ok (.getfield 40, 3) := by decide +kernel
theorem dX7_sheet_33 : decode cX7_sheet 33 = .ok (.iload_n 1, 1) := by decide +kernel
theorem dX7_sheet_34 : decode cX7_sheet 34 = .ok (.iload_n 2, 1) := by decide +kernel
theorem dX7_sheet_35 : decode cX7_sheet 35 = .ok (.iastore, 1) := by decide +kernel
theorem dX7_sheet_36 : decode cX7_sheet 36 = .ok (.aload_n 0, 1) := by decide +kernel
theorem dX7_sheet_37 : decode cX7_sheet 37 = .ok (.getfield 43, 3) := by decide +kernel
theorem dX7_sheet_40 : decode cX7_sheet 40 = .ok (.iload_n 1, 1) := by decide +kernel
theorem dX7_sheet_41 : decode cX7_sheet 41 = .ok (.iload_n 3, 1) := by decide +kernel
theorem dX7_sheet_42 : decode cX7_sheet 42 = .ok (.iastore, 1) := by decide +kernel
theorem dX7_sheet_43 : decode cX7_sheet 43 = .ok (.iconst 0, 1) := by decide +kernel
theorem dX7_sheet_44 : decode cX7_sheet 44 = .ok (.istore 4, 2) := by decide +kernel
theorem dX7_sheet_46 : decode cX7_sheet 46 = .ok (.iload 4, 2) := by decide +kernel
theorem dX7_sheet_48 : decode cX7_sheet 48 = .ok (.bipush 24, 2) := by decide +kernel
theorem dX7_sheet_50 : decode cX7_sheet 50 = .ok (.if_icmp .ge 22, 3) := by decide +kernel
theorem dX7_sheet_53 : decode cX7_sheet 53 = .ok (.aload_n 0, 1) := by decide +kernel
theorem dX7_sheet_54 : decode cX7_sheet 54 = .ok (.getfield 46, 3) := by decide +kernel
theorem dX7_sheet_57 : decode cX7_sheet 57 = .ok (.bipush 24, 2) := by decide +kernel
theorem dX7_sheet_59 : decode cX7_sheet 59 = .ok (.iload_n 1, 1) := by decide +kernel
theorem dX7_sheet_60 : decode cX7_sheet 60 = .ok (.imul, 1) := by decide +kernel
theorem dX7_sheet_61 : decode cX7_sheet 61 = .ok (.iload 4, 2) := by decide +kernel
theorem dX7_sheet_63 : decode cX7_sheet 63 = .ok (.iadd, 1) := by decide +kernel
theorem dX7_sheet_64 : decode cX7_sheet 64 = .ok (.lconst 0, 1) := by decide +kernel
theorem dX7_sheet_65 : decode cX7_sheet 65 = .ok (.lastore, 1) := by decide +kernel
theorem dX7_sheet_66 : decode cX7_sheet 66 = .ok (.iinc 4 1, 3) := by decide +kernel
theorem dX7_sheet_69 : decode cX7_sheet 69 = .ok (.goto (-23), 3) := by decide +kernel
theorem dX7_sheet_72 : decode cX7_sheet 72 = .ok (.iload_n 3, 1) := by decide +kernel
theorem dX7_sheet_73 : decode cX7_sheet 73 = .ok (.ireturn, 1) := by decide +kernel
theorem dX7_drop_0 : decode cX7_drop 0 = .ok (.iload_n 1, 1) := by decide +kernel
theorem dX7_drop_1 : decode cX7_drop 1 = .ok (.invokestatic 225, 3) := by decide +kernel
theorem dX7_drop_4 : decode cX7_drop 4 = .ok (.ifCond .ne 5, 3) := by decide +kernel
theorem dX7_drop_7 : decode cX7_drop 7 = .ok (.iconst (-1), 1) := by decide +kernel
theorem dX7_drop_8 : decode cX7_drop 8 = .ok (.ireturn, 1) := by decide +kernel
theorem dX7_drop_9 : decode cX7_drop 9 = .ok (.aload_n 0, 1) := by decide +kernel
theorem dX7_drop_10 : decode cX7_drop 10 = .ok (.getfield 40, 3) := by decide +kernel
theorem dX7_drop_13 : decode cX7_drop 13 = .ok (.iload_n 1, 1) := by decide +kernel
theorem dX7_drop_14 : decode cX7_drop 14 = .ok (.iaload, 1) := by decide +kernel
theorem dX7_drop_15 : decode cX7_drop 15 = .ok (.ifCond .ge 6, 3) := by decide +kernel
theorem dX7_drop_18 : decode cX7_drop 18 = .ok (.bipush (-11), 2) := by decide +kernel
theorem dX7_drop_20 : decode cX7_drop 20 = .ok (.ireturn, 1) := by decide +kernel
theorem dX7_drop_21 : decode cX7_drop 21 = .ok (.aload_n 0, 1) := by decide +kernel
theorem dX7_drop_22 : decode cX7_drop 22 = .ok (.getfield 40, 3) := by decide +kernel
theorem dX7_drop_25 : decode cX7_drop 25 = .ok (.iload_n 1, 1) := by decide +kernel
theorem dX7_drop_26 : decode cX7_drop 26 = .ok (.iconst (-1), 1) := by decide +kernel
theorem dX7_drop_27 : decode cX7_drop 27 = .ok (.iastore, 1) := by decide +kernel
theorem dX7_drop_28 : decode cX7_drop 28 = .ok (.aload_n 0, 1) := by decide +kernel
theorem dX7_drop_29 : decode cX7_drop 29 = .ok (.getfield 43, 3) := by decide +kernel
theorem dX7_drop_32 : decode cX7_drop 32 = .ok (.iload_n 1, 1) := by decide +kernel
theorem dX7_drop_33 : decode cX7_drop 33 = .ok (.iaload, 1) := by decide +kernel
theorem dX7_drop_34 : decode cX7_drop 34 = .ok (.ireturn, 1) := by decide +kernel
theorem dX7_item_0 : decode cX7_item 0 = .ok (.iload_n 1, 1) := by decide +kernel
theorem dX7_item_1 : decode cX7_item 1 = .ok (.invokestatic 225, 3) := by decide +kernel
theorem dX7_item_4 : decode cX7_item 4 = .ok (.ifCond .eq 10, 3) := by decide +kernel
theorem dX7_item_7 : decode cX7_item 7 = .ok (.iload_n 2, 1) := by decide +kernel
theorem dX7_item_8 : decode cX7_item 8 = .ok (.invokestatic 228, 3) := by decide +kernel
theorem dX7_item_11 : decode cX7_item 11 = .ok (.ifCond .ne 5, 3) := by decide +kernel
theorem dX7_item_14 : decode cX7_item 14 = .ok (.iconst (-1), 1) := by decide +kernel
theorem dX7_item_15 : decode cX7_item 15 = .ok (.ireturn, 1) := by decide +kernel
theorem dX7_item_16 : decode cX7_item 16 = .ok (.aload_n 0, 1) := by decide +kernel
theorem dX7_item_17 : decode cX7_item 17 = .ok (.iload_n 1, 1) := by decide +kernel
theorem dX7_item_18 : decode cX7_item 18 = .ok (.iload_n 2, 1) := by decide +kernel
theorem dX7_item_19 : decode cX7_item 19 = .ok (.iload_n 3, 1) := by decide +kernel
theorem dX7_item_20 : decode cX7_item 20 = .ok (.iconst 1, 1) := by decide +kernel
theorem dX7_item_21 : decode cX7_item 21 = .ok (.invokevirtual 233, 3) := by decide +kernel
theorem dX7_item_24 : decode cX7_item 24 = .ok (.istore 6, 2) := by decide +kernel
theorem dX7_item_26 : decode cX7_item 26 = .ok (.iload 6, 2) := by decide +kernel
theorem dX7_item_28 : decode cX7_item 28 = .ok (.ifCond .ge 6, 3) := by decide +kernel
theorem dX7_item_31 : decode cX7_item 31 = .ok (.iload 6, 2) := by decide +kernel
theorem dX7_item_33 : decode cX7_item 33 = .ok (.ireturn, 1) := by decide +kernel
theorem dX7_item_34 : decode cX7_item 34 = .ok (.aload_n 0, 1) := by decide +kernel
theorem dX7_item_35 : decode cX7_item 35 = .ok (.getfield 46, 3) := by decide +kernel
theorem dX7_item_38 : decode cX7_item 38 = .ok (.bipush 24, 2) := by decide +kernel
theorem dX7_item_40 : decode cX7_item 40 = .ok (.iload_n 1, 1) := by decide +kernel
theorem dX7_item_41 : decode cX7_item 41 = .ok (.imul, 1) := by decide +kernel
theorem dX7_item_42 : decode cX7_item 42 = .ok (.iload_n 3, 1) := by decide +kernel
theorem dX7_item_43 : decode cX7_item 43 = .ok (.iadd, 1) := by decide +kernel
theorem dX7_item_44 : decode cX7_item 44 = .ok (.iload_n 2, 1) := by decide +kernel
theorem dX7_item_45 : decode cX7_item 45 = .ok (.ifCond .ne 11, 3) := by decide +kernel
theorem dX7_item_48 : decode cX7_item 48 = .ok (.lload 4, 2) := by decide +kernel
theorem dX7_item_50 : decode cX7_item 50 = .ok (.l2i, 1) := by decide +kernel
theorem dX7_item_51 : decode cX7_item 51 = .ok (.i2b, 1) := by decide +kernel
theorem dX7_item_52 : decode cX7_item 52 = .ok (.i2l, 1) := by decide +kernel
theorem dX7_item_53 : decode cX7_item 53 = .ok (.goto 30, 3) := by decide +kernel
theorem dX7_item_56 : decode cX7_item 56 = .ok (.iload_n 2, 1) := by decide +kernel
theorem dX7_item_57 : decode cX7_item 57 = .ok (.iconst 1, 1) := by decide +kernel
theorem dX7_item_58 : decode cX7_item 58 = .ok (.if_icmp .ne 11, 3) := by decide +kernel
theorem dX7_item_61 : decode cX7_item 61 = .ok (.lload 4, 2) := by decide +kernel
theorem dX7_item_63 : decode cX7_item 63 = .ok (.l2i, 1) := by decide +kernel
theorem dX7_item_64 : decode cX7_item 64 = .ok (.i2s, 1) := by decide +kernel
theorem dX7_item_65 : decode cX7_item 65 = .ok (.i2l, 1) := by decide +kernel
theorem dX7_item_66 : decode cX7_item 66 = .ok (.goto 17, 3) := by decide +kernel
theorem dX7_item_69 : decode cX7_item 69 = .ok (.iload_n 2, 1) := by decide +kernel
theorem dX7_item_70 : decode cX7_item 70 = .ok (.iconst 2, 1) := by decide +kernel
theorem dX7_item_71 : decode cX7_item 71 = .ok (.if_icmp .ne 10, 3) := by decide +kernel
theorem dX7_item_74 : decode cX7_item 74 = .ok (.lload 4, 2) := by decide +kernel
theorem dX7_item_76 : decode cX7_item 76 = .ok (.l2i, 1) := by decide +kernel
theorem dX7_item_77 : decode cX7_item 77 = .ok (.i2l, 1) := by decide +kernel
theorem dX7_item_78 : decode cX7_item 78 = .ok (.goto 5, 3) := by decide +kernel
theorem dX7_item_81 : decode cX7_item 81 = .ok (.lload 4, 2) := by decide +kernel
theorem dX7_item_83 : decode cX7_item 83 = .ok (.lastore, 1) := by decide +kernel
theorem dX7_item_84 : decode cX7_item 84 = .ok (.iconst 1, 1) := by decide +kernel
theorem dX7_item_85 : decode cX7_item 85 = .ok (.ireturn, 1) := by decide +kernel
theorem dX7_copy_0 : decode cX7_copy 0 = .ok (.iload_n 1, 1) := by decide +kernel
theorem dX7_copy_1 : decode cX7_copy 1 = .ok (.invokestatic 225, 3) := by decide +kernel
theorem dX7_copy_4 : decode cX7_copy 4 = .ok (.ifCond .eq 10, 3) := by decide +kernel
theorem dX7_copy_7 : decode cX7_copy 7 = .ok (.iload_n 3, 1) := by decide +kernel
theorem dX7_copy_8 : decode cX7_copy 8 = .ok (.invokestatic 225, 3) := by decide +kernel
theorem dX7_copy_11 : decode cX7_copy 11 = .ok (.ifCond .ne 5, 3) := by decide +kernel
theorem dX7_copy_14 : decode cX7_copy 14 = .ok (.iconst (-1), 1) := by decide +kernel
theorem dX7_copy_15 : decode cX7_copy 15 = .ok (.ireturn, 1) := by decide +kernel
theorem dX7_copy_16 : decode cX7_copy 16 = .ok (.aload_n 0, 1) := by decide +kernel
theorem dX7_copy_17 : decode cX7_copy 17 = .ok (.getfield 40, 3) := by decide +kernel
theorem dX7_copy_20 : decode cX7_copy 20 = .ok (.iload_n 1, 1) := by decide +kernel
theorem dX7_copy_21 : decode cX7_copy 21 = .ok (.iaload, 1) := by decide +kernel
theorem dX7_copy_22 : decode cX7_copy 22 = .ok (.ifCond .lt 12, 3) := by decide +kernel
theorem dX7_copy_25 : decode cX7_copy 25 = .ok (.aload_n 0, 1) := by decide +kernel
theorem dX7_copy_26 : decode cX7_copy 26 = .ok (.getfield 40, 3) := by decide +kernel
theorem dX7_copy_29 : decode cX7_copy 29 = .ok (.iload_n 3, 1) := by decide +kernel
theorem dX7_copy_30 : decode cX7_copy 30 = .ok (.iaload, 1) := by decide +kernel
theorem dX7_copy_31 : decode cX7_copy 31 = .ok (.ifCond .ge 6, 3) := by decide +kernel
theorem dX7_copy_34 : decode cX7_copy 34 = .ok (.bipush (-11), 2) := by decide +kernel
theorem dX7_copy_36 : decode cX7_copy 36 = .ok (.ireturn, 1) := by decide +kernel
theorem dX7_copy_37 : decode cX7_copy 37 = .ok (.aload_n 0, 1) := by decide +kernel
theorem dX7_copy_38 : decode cX7_copy 38 = .ok (.iload_n 3, 1) := by decide +kernel
theorem dX7_copy_39 : decode cX7_copy 39 = .ok (.aload_n 0, 1) := by decide +kernel
theorem dX7_copy_40 : decode cX7_copy 40 = .ok (.getfield 40, 3) := by decide +kernel
theorem dX7_copy_43 : decode cX7_copy 43 = .ok (.iload_n 1, 1) := by decide +kernel
theorem dX7_copy_44 : decode cX7_copy 44 = .ok (.iaload, 1) := by decide +kernel
theorem dX7_copy_45 : decode cX7_copy 45 = .ok (.iload 4, 2) := by decide +kernel
theorem dX7_copy_47 : decode cX7_copy 47 = .ok (.iload 5, 2) := by decide +kernel
theorem dX7_copy_49 : decode cX7_copy 49 = .ok (.invokevirtual 233, 3) := by decide +kernel
theorem dX7_copy_52 : decode cX7_copy 52 = .ok (.istore 6, 2) := by decide +kernel
theorem dX7_copy_54 : decode cX7_copy 54 = .ok (.iload 6, 2) := by decide +kernel
theorem dX7_copy_56 : decode cX7_copy 56 = .ok (.ifCond .ne 20, 3) := by decide +kernel
theorem dX7_copy_59 : decode cX7_copy 59 = .ok (.aload_n 0, 1) := by decide +kernel
theorem dX7_copy_60 : decode cX7_copy 60 = .ok (.iload_n 1, 1) := by decide +kernel
theorem dX7_copy_61 : decode cX7_copy 61 = .ok (.aload_n 0, 1) := by decide +kernel
theorem dX7_copy_62 : decode cX7_copy 62 = .ok (.getfield 40, 3) := by decide +kernel
theorem dX7_copy_65 : decode cX7_copy 65 = .ok (.iload_n 1, 1) := by decide +kernel
theorem dX7_copy_66 : decode cX7_copy 66 = .ok (.iaload, 1) := by decide +kernel
theorem dX7_copy_67 : decode cX7_copy 67 = .ok (.iload_n 2, 1) := by decide +kernel
theorem dX7_copy_68 : decode cX7_copy 68 = .ok (.iload 5, 2) := by decide +kernel
theorem dX7_copy_70 : decode cX7_copy 70 = .ok (.invokevirtual 233, 3) := by decide +kernel
theorem dX7_copy_73 : decode cX7_copy 73 = .ok (.goto 5, 3) := by decide +kernel
theorem dX7_copy_76 : decode cX7_copy 76 = .ok (.iload 6, 2) := by decide +kernel
theorem dX7_copy_78 : decode cX7_copy 78 = .ok (.istore 6, 2) := by decide +kernel
theorem dX7_copy_80 : decode cX7_copy 80 = .ok (.iload 6, 2) := by decide +kernel
theorem dX7_copy_82 : decode cX7_copy 82 = .ok (.ifCond .ge 6, 3) := by decide +kernel
theorem dX7_copy_85 : decode cX7_copy 85 = .ok (.iload 6, 2) := by decide +kernel
theorem dX7_copy_87 : decode cX7_copy 87 = .ok (.ireturn, 1) := by decide +kernel
theorem dX7_copy_88 : decode cX7_copy 88 = .ok (.iconst 0, 1) := by decide +kernel
theorem dX7_copy_89 : decode cX7_copy 89 = .ok (.istore 7, 2) := by decide +kernel
theorem dX7_copy_91 : decode cX7_copy 91 = .ok (.iload 7, 2) := by decide +kernel
theorem dX7_copy_93 : decode cX7_copy 93 = .ok (.iload 5, 2) := by decide +kernel
theorem dX7_copy_95 : decode cX7_copy 95 = .ok (.if_icmp .ge 30, 3) := by decide +kernel
theorem dX7_copy_98 : decode cX7_copy 98 = .ok (.aload_n 0, 1) := by decide +kernel
theorem dX7_copy_99 : decode cX7_copy 99 = .ok (.getfield 50, 3) := by decide +kernel
theorem dX7_copy_102 : decode cX7_copy 102 = .ok (.iload 7, 2) := by decide +kernel
theorem dX7_copy_104 : decode cX7_copy 104 = .ok (.aload_n 0, 1) := by decide +kernel
theorem dX7_copy_105 : decode cX7_copy 105 = .ok (.getfield 46, 3) := by decide +kernel
theorem dX7_copy_108 : decode cX7_copy 108 = .ok (.bipush 24, 2) := by decide +kernel
theorem dX7_copy_110 : decode cX7_copy 110 = .ok (.iload_n 1, 1) := by decide +kernel
theorem dX7_copy_111 : decode cX7_copy 111 = .ok (.imul, 1) := by decide +kernel
theorem dX7_copy_112 : decode cX7_copy 112 = .ok (.iload_n 2, 1) := by decide +kernel
theorem dX7_copy_113 : decode cX7_copy 113 = .ok (.iadd, 1) := by decide +kernel
theorem dX7_copy_114 : decode cX7_copy 114 = .ok (.iload 7, 2) := by decide +kernel
theorem dX7_copy_116 : decode cX7_copy 116 = .ok (.iadd, 1) := by decide +kernel
theorem dX7_copy_117 : decode cX7_copy 117 = .ok (.laload, 1) := by decide +kernel
theorem dX7_copy_118 : decode cX7_copy 118 = .ok (.lastore, 1) := by decide +kernel
theorem dX7_copy_119 : decode cX7_copy 119 = .ok (.iinc 7 1, 3) := by decide +kernel
theorem dX7_copy_122 : decode cX7_copy 122 = .ok (.goto (-31), 3) := by decide +kernel
theorem dX7_copy_125 : decode cX7_copy 125 = .ok (.iconst 0, 1) := by decide +kernel
theorem dX7_copy_126 : decode cX7_copy 126 = .ok (.istore 7, 2) := by decide +kernel
theorem dX7_copy_128 : decode cX7_copy 128 = .ok (.iload 7, 2) := by decide +kernel
theorem dX7_copy_130 : decode cX7_copy 130 = .ok (.iload 5, 2) := by decide +kernel
theorem dX7_copy_132 : decode cX7_copy 132 = .ok (.if_icmp .ge 31, 3) := by decide +kernel
theorem dX7_copy_135 : decode cX7_copy 135 = .ok (.aload_n 0, 1) := by decide +kernel
theorem dX7_copy_136 : decode cX7_copy 136 = .ok (.getfield 46, 3) := by decide +kernel
theorem dX7_copy_139 : decode cX7_copy 139 = .ok (.bipush 24, 2) := by decide +kernel
theorem dX7_copy_141 : decode cX7_copy 141 = .ok (.iload_n 3, 1) := by decide +kernel
theorem dX7_copy_142 : decode cX7_copy 142 = .ok (.imul, 1) := by decide +kernel
theorem dX7_copy_143 : decode cX7_copy 143 = .ok (.iload 4, 2) := by decide +kernel
theorem dX7_copy_145 : decode cX7_copy 145 = .ok (.iadd, 1) := by decide +kernel
theorem dX7_copy_146 : decode cX7_copy 146 = .ok (.iload 7, 2) := by decide +kernel
theorem dX7_copy_148 : decode cX7_copy 148 = .ok (.iadd, 1) := by decide +kernel
theorem dX7_copy_149 : decode cX7_copy 149 = .ok (.aload_n 0, 1) := by decide +kernel
theorem dX7_copy_150 : decode cX7_copy 150 = .ok (.getfield 50, 3) := by decide +kernel
theorem dX7_copy_153 : decode cX7_copy 153 = .ok (.iload 7, 2) := by decide +kernel
theorem dX7_copy_155 : decode cX7_copy 155 = .ok (.laload, 1) := by decide +kernel
theorem dX7_copy_156 : decode cX7_copy 156 = .ok (.lastore, 1) := by decide +kernel
theorem dX7_copy_157 : decode cX7_copy 157 = .ok (.iinc 7 1, 3) := by decide +kernel
theorem dX7_copy_160 : decode cX7_copy 160 = .ok (.goto (-32), 3) := by decide +kernel
theorem dX7_copy_163 : decode cX7_copy 163 = .ok (.iload 5, 2) := by decide +kernel
theorem dX7_copy_165 : decode cX7_copy 165 = .ok (.ireturn, 1) := by decide +kernel
theorem dJ6_numberOfTrailingZeros_0f7a4_0 : decode cJ6_numberOfTrailingZeros_0f7a4 0 = .ok (.iload_n 0, 1) := by decide +kernel
theorem dJ6_numberOfTrailingZeros_0f7a4_1 : decode cJ6_numberOfTrailingZeros_0f7a4 1 = .ok (.iconst (-1), 1) := by decide +kernel
theorem dJ6_numberOfTrailingZeros_0f7a4_2 : decode cJ6_numberOfTrailingZeros_0f7a4 2 = .ok (.ixor, 1) := by decide +kernel
theorem dJ6_numberOfTrailingZeros_0f7a4_3 : decode cJ6_numberOfTrailingZeros_0f7a4 3 = .ok (.iload_n 0, 1) := by decide +kernel
theorem dJ6_numberOfTrailingZeros_0f7a4_4 : decode cJ6_numberOfTrailingZeros_0f7a4 4 = .ok (.iconst 1, 1) := by decide +kernel
theorem dJ6_numberOfTrailingZeros_0f7a4_5 : decode cJ6_numberOfTrailingZeros_0f7a4 5 = .ok (.isub, 1) := by decide +kernel
theorem dJ6_numberOfTrailingZeros_0f7a4_6 : decode cJ6_numberOfTrailingZeros_0f7a4 6 = .ok (.iand, 1) := by decide +kernel
theorem dJ6_numberOfTrailingZeros_0f7a4_7 : decode cJ6_numberOfTrailingZeros_0f7a4 7 = .ok (.istore_n 0, 1) := by decide +kernel
theorem dJ6_numberOfTrailingZeros_0f7a4_8 : decode cJ6_numberOfTrailingZeros_0f7a4 8 = .ok (.iload_n 0, 1) := by decide +kernel
theorem dJ6_numberOfTrailingZeros_0f7a4_9 : decode cJ6_numberOfTrailingZeros_0f7a4 9 = .ok (.ifCond .gt 8, 3) := by decide +kernel
theorem dJ6_numberOfTrailingZeros_0f7a4_12 : decode cJ6_numberOfTrailingZeros_0f7a4 12 = .ok (.iload_n 0, 1) := by decide +kernel
theorem dJ6_numberOfTrailingZeros_0f7a4_13 : decode cJ6_numberOfTrailingZeros_0f7a4 13 = .ok (.bipush 32, 2) := by decide +kernel
theorem dJ6_numberOfTrailingZeros_0f7a4_15 : decode cJ6_numberOfTrailingZeros_0f7a4 15 = .ok (.iand, 1) := by decide +kernel
theorem dJ6_numberOfTrailingZeros_0f7a4_16 : decode cJ6_numberOfTrailingZeros_0f7a4 16 = .ok (.ireturn, 1) := by decide +kernel
theorem dJ6_numberOfTrailingZeros_0f7a4_17 : decode cJ6_numberOfTrailingZeros_0f7a4 17 = .ok (.iconst 1, 1) := by decide +kernel
theorem dJ6_numberOfTrailingZeros_0f7a4_18 : decode cJ6_numberOfTrailingZeros_0f7a4 18 = .ok (.istore_n 1, 1) := by decide +kernel
theorem dJ6_numberOfTrailingZeros_0f7a4_19 : decode cJ6_numberOfTrailingZeros_0f7a4 19 = .ok (.iload_n 0, 1) := by decide +kernel
theorem dJ6_numberOfTrailingZeros_0f7a4_20 : decode cJ6_numberOfTrailingZeros_0f7a4 20 = .ok (.ldc_w 264, 3) := by decide +kernel
theorem dJ6_numberOfTrailingZeros_0f7a4_23 : decode cJ6_numberOfTrailingZeros_0f7a4 23 = .ok (.if_icmp .le 11, 3) := by decide +kernel
theorem dJ6_numberOfTrailingZeros_0f7a4_26 : decode cJ6_numberOfTrailingZeros_0f7a4 26 = .ok (.iinc 1 16, 3) := by decide +kernel
theorem dJ6_numberOfTrailingZeros_0f7a4_29 : decode cJ6_numberOfTrailingZeros_0f7a4 29 = .ok (.iload_n 0, 1) := by decide +kernel
theorem dJ6_numberOfTrailingZeros_0f7a4_30 : decode cJ6_numberOfTrailingZeros_0f7a4 30 = .ok (.bipush 16, 2) := by decide +kernel
theorem dJ6_numberOfTrailingZeros_0f7a4_32 : decode cJ6_numberOfTrailingZeros_0f7a4 32 = .ok (.iushr, 1) := by decide +kernel
theorem dJ6_numberOfTrailingZeros_0f7a4_33 : decode cJ6_numberOfTrailingZeros_0f7a4 33 = .ok (.istore_n 0, 1) := by decide +kernel
theorem dJ6_numberOfTrailingZeros_0f7a4_34 : decode cJ6_numberOfTrailingZeros_0f7a4 34 = .ok (.iload_n 0, 1) := by decide +kernel
theorem dJ6_numberOfTrailingZeros_0f7a4_35 : decode cJ6_numberOfTrailingZeros_0f7a4 35 = .ok (.sipush 256, 3) := by decide +kernel
theorem dJ6_numberOfTrailingZeros_0f7a4_38 : decode cJ6_numberOfTrailingZeros_0f7a4 38 = .ok (.if_icmp .le 11, 3) := by decide +kernel
theorem dJ6_numberOfTrailingZeros_0f7a4_41 : decode cJ6_numberOfTrailingZeros_0f7a4 41 = .ok (.iinc 1 8, 3) := by decide +kernel
theorem dJ6_numberOfTrailingZeros_0f7a4_44 : decode cJ6_numberOfTrailingZeros_0f7a4 44 = .ok (.iload_n 0, 1) := by decide +kernel
theorem dJ6_numberOfTrailingZeros_0f7a4_45 : decode cJ6_numberOfTrailingZeros_0f7a4 45 = .ok (.bipush 8, 2) := by decide +kernel
theorem dJ6_numberOfTrailingZeros_0f7a4_47 : decode cJ6_numberOfTrailingZeros_0f7a4 47 = .ok (.iushr, 1) := by decide +kernel
theorem dJ6_numberOfTrailingZeros_0f7a4_48 : decode cJ6_numberOfTrailingZeros_0f7a4 48 = .ok (.istore_n 0, 1) := by decide +kernel
theorem dJ6_numberOfTrailingZeros_0f7a4_49 : decode cJ6_numberOfTrailingZeros_0f7a4 49 = .ok (.iload_n 0, 1) := by decide +kernel
theorem dJ6_numberOfTrailingZeros_0f7a4_50 : decode cJ6_numberOfTrailingZeros_0f7a4 50 = .ok (.bipush 16, 2) := by decide +kernel
theorem dJ6_numberOfTrailingZeros_0f7a4_52 : decode cJ6_numberOfTrailingZeros_0f7a4 52 = .ok (.if_icmp .le 10, 3) := by decide +kernel
theorem dJ6_numberOfTrailingZeros_0f7a4_55 : decode cJ6_numberOfTrailingZeros_0f7a4 55 = .ok (.iinc 1 4, 3) := by decide +kernel
theorem dJ6_numberOfTrailingZeros_0f7a4_58 : decode cJ6_numberOfTrailingZeros_0f7a4 58 = .ok (.iload_n 0, 1) := by decide +kernel
theorem dJ6_numberOfTrailingZeros_0f7a4_59 : decode cJ6_numberOfTrailingZeros_0f7a4 59 = .ok (.iconst 4, 1) := by decide +kernel
theorem dJ6_numberOfTrailingZeros_0f7a4_60 : decode cJ6_numberOfTrailingZeros_0f7a4 60 = .ok (.iushr, 1) := by decide +kernel
theorem dJ6_numberOfTrailingZeros_0f7a4_61 : decode cJ6_numberOfTrailingZeros_0f7a4 61 = .ok (.istore_n 0, 1) := by decide +kernel
theorem dJ6_numberOfTrailingZeros_0f7a4_62 : decode cJ6_numberOfTrailingZeros_0f7a4 62 = .ok (.iload_n 0, 1) := by decide +kernel
theorem dJ6_numberOfTrailingZeros_0f7a4_63 : decode cJ6_numberOfTrailingZeros_0f7a4 63 = .ok (.iconst 4, 1) := by decide +kernel
theorem dJ6_numberOfTrailingZeros_0f7a4_64 : decode cJ6_numberOfTrailingZeros_0f7a4 64 = .ok (.if_icmp .le 10, 3) := by decide +kernel
theorem dJ6_numberOfTrailingZeros_0f7a4_67 : decode cJ6_numberOfTrailingZeros_0f7a4 67 = .ok (.iinc 1 2, 3) := by decide +kernel
theorem dJ6_numberOfTrailingZeros_0f7a4_70 : decode cJ6_numberOfTrailingZeros_0f7a4 70 = .ok (.iload_n 0, 1) := by decide +kernel
theorem dJ6_numberOfTrailingZeros_0f7a4_71 : decode cJ6_numberOfTrailingZeros_0f7a4 71 = .ok (.iconst 2, 1) := by decide +kernel
theorem dJ6_numberOfTrailingZeros_0f7a4_72 : decode cJ6_numberOfTrailingZeros_0f7a4 72 = .ok (.iushr, 1) := by decide +kernel
theorem dJ6_numberOfTrailingZeros_0f7a4_73 : decode cJ6_numberOfTrailingZeros_0f7a4 73 = .ok (.istore_n 0, 1) := by decide +kernel
end
section
theorem dJ6_numberOfTrailingZeros_0f7a4_74 : decode cJ6_numberOfTrailingZeros_0f7a4 74 = .ok (.iload_n 1, 1) := by decide +kernel
theorem dJ6_numberOfTrailingZeros_0f7a4_75 : decode cJ6_numberOfTrailingZeros_0f7a4 75 = .ok (.iload_n 0, 1) := by decide +kernel
theorem dJ6_numberOfTrailingZeros_0f7a4_76 : decode cJ6_numberOfTrailingZeros_0f7a4 76 = .ok (.iconst 1, 1) := by decide +kernel
theorem dJ6_numberOfTrailingZeros_0f7a4_77 : decode cJ6_numberOfTrailingZeros_0f7a4 77 = .ok (.iushr, 1) := by decide +kernel
theorem dJ6_numberOfTrailingZeros_0f7a4_78 : decode cJ6_numberOfTrailingZeros_0f7a4 78 = .ok (.iadd, 1) := by decide +kernel
theorem dJ6_numberOfTrailingZeros_0f7a4_79 : decode cJ6_numberOfTrailingZeros_0f7a4 79 = .ok (.ireturn, 1) := by decide +kernel
theorem dJ13_numberOfTrailingZeros_95d88_0 : decode cJ13_numberOfTrailingZeros_95d88 0 = .ok (.lload_n 0, 1) := by decide +kernel
theorem dJ13_numberOfTrailingZeros_95d88_1 : decode cJ13_numberOfTrailingZeros_95d88 1 = .ok (.l2i, 1) := by decide +kernel
theorem dJ13_numberOfTrailingZeros_95d88_2 : decode cJ13_numberOfTrailingZeros_95d88 2 = .ok (.istore_n 2, 1) := by decide +kernel
theorem dJ13_numberOfTrailingZeros_95d88_3 : decode cJ13_numberOfTrailingZeros_95d88 3 = .ok (.iload_n 2, 1) := by decide +kernel
theorem dJ13_numberOfTrailingZeros_95d88_4 : decode cJ13_numberOfTrailingZeros_95d88 4 = .ok (.ifCond .ne 17, 3) := by decide +kernel
theorem dJ13_numberOfTrailingZeros_95d88_7 : decode cJ13_numberOfTrailingZeros_95d88 7 = .ok (.bipush 32, 2) := by decide +kernel
theorem dJ13_numberOfTrailingZeros_95d88_9 : decode cJ13_numberOfTrailingZeros_95d88 9 = .ok (.lload_n 0, 1) := by decide +kernel
theorem dJ13_numberOfTrailingZeros_95d88_10 : decode cJ13_numberOfTrailingZeros_95d88 10 = .ok (.bipush 32, 2) := by decide +kernel
theorem dJ13_numberOfTrailingZeros_95d88_12 : decode cJ13_numberOfTrailingZeros_95d88 12 = .ok (.lushr, 1) := by decide +kernel
theorem dJ13_numberOfTrailingZeros_95d88_13 : decode cJ13_numberOfTrailingZeros_95d88 13 = .ok (.l2i, 1) := by decide +kernel
theorem dJ13_numberOfTrailingZeros_95d88_14 : decode cJ13_numberOfTrailingZeros_95d88 14 = .ok (.invokestatic 311, 3) := by decide +kernel
theorem dJ13_numberOfTrailingZeros_95d88_17 : decode cJ13_numberOfTrailingZeros_95d88 17 = .ok (.iadd, 1) := by decide +kernel
theorem dJ13_numberOfTrailingZeros_95d88_18 : decode cJ13_numberOfTrailingZeros_95d88 18 = .ok (.goto 7, 3) := by decide +kernel
theorem dJ13_numberOfTrailingZeros_95d88_21 : decode cJ13_numberOfTrailingZeros_95d88 21 = .ok (.iload_n 2, 1) := by decide +kernel
theorem dJ13_numberOfTrailingZeros_95d88_22 : decode cJ13_numberOfTrailingZeros_95d88 22 = .ok (.invokestatic 311, 3) := by decide +kernel
theorem dJ13_numberOfTrailingZeros_95d88_25 : decode cJ13_numberOfTrailingZeros_95d88 25 = .ok (.ireturn, 1) := by decide +kernel
theorem dJ13_bitCount_95d88_0 : decode cJ13_bitCount_95d88 0 = .ok (.lload_n 0, 1) := by decide +kernel
theorem dJ13_bitCount_95d88_1 : decode cJ13_bitCount_95d88 1 = .ok (.lload_n 0, 1) := by decide +kernel
theorem dJ13_bitCount_95d88_2 : decode cJ13_bitCount_95d88 2 = .ok (.iconst 1, 1) := by decide +kernel
theorem dJ13_bitCount_95d88_3 : decode cJ13_bitCount_95d88 3 = .ok (.lushr, 1) := by decide +kernel
theorem dJ13_bitCount_95d88_4 : decode cJ13_bitCount_95d88 4 = .ok (.ldc2_w 314, 3) := by decide +kernel
theorem dJ13_bitCount_95d88_7 : decode cJ13_bitCount_95d88 7 = .ok (.land, 1) := by decide +kernel
theorem dJ13_bitCount_95d88_8 : decode cJ13_bitCount_95d88 8 = .ok (.lsub, 1) := by decide +kernel
theorem dJ13_bitCount_95d88_9 : decode cJ13_bitCount_95d88 9 = .ok (.lstore_n 0, 1) := by decide +kernel
theorem dJ13_bitCount_95d88_10 : decode cJ13_bitCount_95d88 10 = .ok (.lload_n 0, 1) := by decide +kernel
theorem dJ13_bitCount_95d88_11 : decode cJ13_bitCount_95d88 11 = .ok (.ldc2_w 316, 3) := by decide +kernel
theorem dJ13_bitCount_95d88_14 : decode cJ13_bitCount_95d88 14 = .ok (.land, 1) := by decide +kernel
theorem dJ13_bitCount_95d88_15 : decode cJ13_bitCount_95d88 15 = .ok (.lload_n 0, 1) := by decide +kernel
theorem dJ13_bitCount_95d88_16 : decode cJ13_bitCount_95d88 16 = .ok (.iconst 2, 1) := by decide +kernel
theorem dJ13_bitCount_95d88_17 : decode cJ13_bitCount_95d88 17 = .ok (.lushr, 1) := by decide +kernel
theorem dJ13_bitCount_95d88_18 : decode cJ13_bitCount_95d88 18 = .ok (.ldc2_w 316, 3) := by decide +kernel
theorem dJ13_bitCount_95d88_21 : decode cJ13_bitCount_95d88 21 = .ok (.land, 1) := by decide +kernel
theorem dJ13_bitCount_95d88_22 : decode cJ13_bitCount_95d88 22 = .ok (.ladd, 1) := by decide +kernel
theorem dJ13_bitCount_95d88_23 : decode cJ13_bitCount_95d88 23 = .ok (.lstore_n 0, 1) := by decide +kernel
theorem dJ13_bitCount_95d88_24 : decode cJ13_bitCount_95d88 24 = .ok (.lload_n 0, 1) := by decide +kernel
theorem dJ13_bitCount_95d88_25 : decode cJ13_bitCount_95d88 25 = .ok (.lload_n 0, 1) := by decide +kernel
theorem dJ13_bitCount_95d88_26 : decode cJ13_bitCount_95d88 26 = .ok (.iconst 4, 1) := by decide +kernel
theorem dJ13_bitCount_95d88_27 : decode cJ13_bitCount_95d88 27 = .ok (.lushr, 1) := by decide +kernel
theorem dJ13_bitCount_95d88_28 : decode cJ13_bitCount_95d88 28 = .ok (.ladd, 1) := by decide +kernel
theorem dJ13_bitCount_95d88_29 : decode cJ13_bitCount_95d88 29 = .ok (.ldc2_w 318, 3) := by decide +kernel
theorem dJ13_bitCount_95d88_32 : decode cJ13_bitCount_95d88 32 = .ok (.land, 1) := by decide +kernel
theorem dJ13_bitCount_95d88_33 : decode cJ13_bitCount_95d88 33 = .ok (.lstore_n 0, 1) := by decide +kernel
theorem dJ13_bitCount_95d88_34 : decode cJ13_bitCount_95d88 34 = .ok (.lload_n 0, 1) := by decide +kernel
theorem dJ13_bitCount_95d88_35 : decode cJ13_bitCount_95d88 35 = .ok (.lload_n 0, 1) := by decide +kernel
theorem dJ13_bitCount_95d88_36 : decode cJ13_bitCount_95d88 36 = .ok (.bipush 8, 2) := by decide +kernel
theorem dJ13_bitCount_95d88_38 : decode cJ13_bitCount_95d88 38 = .ok (.lushr, 1) := by decide +kernel
theorem dJ13_bitCount_95d88_39 : decode cJ13_bitCount_95d88 39 = .ok (.ladd, 1) := by decide +kernel
theorem dJ13_bitCount_95d88_40 : decode cJ13_bitCount_95d88 40 = .ok (.lstore_n 0, 1) := by decide +kernel
theorem dJ13_bitCount_95d88_41 : decode cJ13_bitCount_95d88 41 = .ok (.lload_n 0, 1) := by decide +kernel
theorem dJ13_bitCount_95d88_42 : decode cJ13_bitCount_95d88 42 = .ok (.lload_n 0, 1) := by decide +kernel
theorem dJ13_bitCount_95d88_43 : decode cJ13_bitCount_95d88 43 = .ok (.bipush 16, 2) := by decide +kernel
theorem dJ13_bitCount_95d88_45 : decode cJ13_bitCount_95d88 45 = .ok (.lushr, 1) := by decide +kernel
theorem dJ13_bitCount_95d88_46 : decode cJ13_bitCount_95d88 46 = .ok (.ladd, 1) := by decide +kernel
theorem dJ13_bitCount_95d88_47 : decode cJ13_bitCount_95d88 47 = .ok (.lstore_n 0, 1) := by decide +kernel
theorem dJ13_bitCount_95d88_48 : decode cJ13_bitCount_95d88 48 = .ok (.lload_n 0, 1) := by decide +kernel
theorem dJ13_bitCount_95d88_49 : decode cJ13_bitCount_95d88 49 = .ok (.lload_n 0, 1) := by decide +kernel
theorem dJ13_bitCount_95d88_50 : decode cJ13_bitCount_95d88 50 = .ok (.bipush 32, 2) := by decide +kernel
theorem dJ13_bitCount_95d88_52 : decode cJ13_bitCount_95d88 52 = .ok (.lushr, 1) := by decide +kernel
theorem dJ13_bitCount_95d88_53 : decode cJ13_bitCount_95d88 53 = .ok (.ladd, 1) := by decide +kernel
theorem dJ13_bitCount_95d88_54 : decode cJ13_bitCount_95d88 54 = .ok (.lstore_n 0, 1) := by decide +kernel
theorem dJ13_bitCount_95d88_55 : decode cJ13_bitCount_95d88 55 = .ok (.lload_n 0, 1) := by decide +kernel
theorem dJ13_bitCount_95d88_56 : decode cJ13_bitCount_95d88 56 = .ok (.l2i, 1) := by decide +kernel
theorem dJ13_bitCount_95d88_57 : decode cJ13_bitCount_95d88 57 = .ok (.bipush 127, 2) := by decide +kernel
theorem dJ13_bitCount_95d88_59 : decode cJ13_bitCount_95d88 59 = .ok (.iand, 1) := by decide +kernel
theorem dJ13_bitCount_95d88_60 : decode cJ13_bitCount_95d88 60 = .ok (.ireturn, 1) := by decide +kernel
theorem dJ9_floorMod_7cf53_0 : decode cJ9_floorMod_7cf53 0 = .ok (.iload_n 0, 1) := by decide +kernel
theorem dJ9_floorMod_7cf53_1 : decode cJ9_floorMod_7cf53 1 = .ok (.iload_n 1, 1) := by decide +kernel
theorem dJ9_floorMod_7cf53_2 : decode cJ9_floorMod_7cf53 2 = .ok (.irem, 1) := by decide +kernel
theorem dJ9_floorMod_7cf53_3 : decode cJ9_floorMod_7cf53 3 = .ok (.istore_n 2, 1) := by decide +kernel
theorem dJ9_floorMod_7cf53_4 : decode cJ9_floorMod_7cf53 4 = .ok (.iload_n 0, 1) := by decide +kernel
theorem dJ9_floorMod_7cf53_5 : decode cJ9_floorMod_7cf53 5 = .ok (.iload_n 1, 1) := by decide +kernel
theorem dJ9_floorMod_7cf53_6 : decode cJ9_floorMod_7cf53 6 = .ok (.ixor, 1) := by decide +kernel
theorem dJ9_floorMod_7cf53_7 : decode cJ9_floorMod_7cf53 7 = .ok (.ifCond .ge 11, 3) := by decide +kernel
theorem dJ9_floorMod_7cf53_10 : decode cJ9_floorMod_7cf53 10 = .ok (.iload_n 2, 1) := by decide +kernel
theorem dJ9_floorMod_7cf53_11 : decode cJ9_floorMod_7cf53 11 = .ok (.ifCond .eq 7, 3) := by decide +kernel
theorem dJ9_floorMod_7cf53_14 : decode cJ9_floorMod_7cf53 14 = .ok (.iload_n 2, 1) := by decide +kernel
theorem dJ9_floorMod_7cf53_15 : decode cJ9_floorMod_7cf53 15 = .ok (.iload_n 1, 1) := by decide +kernel
theorem dJ9_floorMod_7cf53_16 : decode cJ9_floorMod_7cf53 16 = .ok (.iadd, 1) := by decide +kernel
theorem dJ9_floorMod_7cf53_17 : decode cJ9_floorMod_7cf53 17 = .ok (.ireturn, 1) := by decide +kernel
theorem dJ9_floorMod_7cf53_18 : decode cJ9_floorMod_7cf53 18 = .ok (.iload_n 2, 1) := by decide +kernel
theorem dJ9_floorMod_7cf53_19 : decode cJ9_floorMod_7cf53 19 = .ok (.ireturn, 1) := by decide +kernel
end
section
abbrev nVl : Type := (Nat → Int32) × (Nat → Int32) × (Nat → Int32) × (Nat → Int32) × (Nat → Int32) × Int32 × Int32 × Int32
def g_Vl_kinds (x : nVl) : Nat → Int32 := x.1
def s_Vl_kinds (x : nVl) (y : Nat → Int32) : nVl := (y, x.2)
def g_Vl_minutes (x : nVl) : Nat → Int32 := x.2.1
def s_Vl_minutes (x : nVl) (y : Nat → Int32) : nVl := (x.1, y, x.2.2)
def g_Vl_drifts (x : nVl) : Nat → Int32 := x.2.2.1
def s_Vl_drifts (x : nVl) (y : Nat → Int32) : nVl := (x.1, x.2.1, y, x.2.2.2)
def g_Vl_miles (x : nVl) : Nat → Int32 := x.2.2.2.1
def s_Vl_miles (x : nVl) (y : Nat → Int32) : nVl := (x.1, x.2.1, x.2.2.1, y, x.2.2.2.2)
def g_Vl_shifts (x : nVl) : Nat → Int32 := x.2.2.2.2.1
def s_Vl_shifts (x : nVl) (y : Nat → Int32) : nVl := (x.1, x.2.1, x.2.2.1, x.2.2.2.1, y, x.2.2.2.2.2)
def g_Vl_villages (x : nVl) : Int32 := x.2.2.2.2.2.1
def s_Vl_villages (x : nVl) (y : Int32) : nVl := (x.1, x.2.1, x.2.2.1, x.2.2.2.1, x.2.2.2.2.1, y, x.2.2.2.2.2.2)
def g_Vl_day (x : nVl) : Int32 := x.2.2.2.2.2.2.1
def s_Vl_day (x : nVl) (y : Int32) : nVl := (x.1, x.2.1, x.2.2.1, x.2.2.2.1, x.2.2.2.2.1, x.2.2.2.2.2.1, y, x.2.2.2.2.2.2.2)
def g_Vl_draw (x : nVl) : Int32 := x.2.2.2.2.2.2.2
def s_Vl_draw (x : nVl) (y : Int32) : nVl := (x.1, x.2.1, x.2.2.1, x.2.2.2.1, x.2.2.2.2.1, x.2.2.2.2.2.1, x.2.2.2.2.2.2.1, y)
abbrev nHi : Type := Int32 × Int32
def g_Hi_next (x : nHi) : Int32 := x.1
def s_Hi_next (x : nHi) (y : Int32) : nHi := (y, x.2)
def g_Hi_known (x : nHi) : Int32 := x.2
def s_Hi_known (x : nHi) (y : Int32) : nHi := (x.1, y)
abbrev nCa : Type := (Nat → Int32) × (Nat → Int32) × Int32 × Int32
def g_Ca_order (x : nCa) : Nat → Int32 := x.1
def s_Ca_order (x : nCa) (y : Nat → Int32) : nCa := (y, x.2)
def g_Ca_bestOrder (x : nCa) : Nat → Int32 := x.2.1
def s_Ca_bestOrder (x : nCa) (y : Nat → Int32) : nCa := (x.1, y, x.2.2)
def g_Ca_bestTime (x : nCa) : Int32 := x.2.2.1
def s_Ca_bestTime (x : nCa) (y : Int32) : nCa := (x.1, x.2.1, y, x.2.2.2)
def g_Ca_minutesAMile (x : nCa) : Int32 := x.2.2.2
def s_Ca_minutesAMile (x : nCa) (y : Int32) : nCa := (x.1, x.2.1, x.2.2.1, y)
abbrev nTa : Type := (Nat → Int32) × Int32 × Int32 × Int32
def g_Ta_letters (x : nTa) : Nat → Int32 := x.1
def s_Ta_letters (x : nTa) (y : Nat → Int32) : nTa := (y, x.2)
def g_Ta_length (x : nTa) : Int32 := x.2.1
def s_Ta_length (x : nTa) (y : Int32) : nTa := (x.1, y, x.2.2)
def g_Ta_place (x : nTa) : Int32 := x.2.2.1
def s_Ta_place (x : nTa) (y : Int32) : nTa := (x.1, x.2.1, y, x.2.2.2)
def g_Ta_fault (x : nTa) : Int32 := x.2.2.2
def s_Ta_fault (x : nTa) (y : Int32) : nTa := (x.1, x.2.1, x.2.2.1, y)
abbrev nSh : Type := (Nat → Int64) × Int32 × Int32
def g_Sh_items (x : nSh) : Nat → Int64 := x.1
def s_Sh_items (x : nSh) (y : Nat → Int64) : nSh := (y, x.2)
def g_Sh_lane (x : nSh) : Int32 := x.2.1
def s_Sh_lane (x : nSh) (y : Int32) : nSh := (x.1, y, x.2.2)
def g_Sh_length (x : nSh) : Int32 := x.2.2
def s_Sh_length (x : nSh) (y : Int32) : nSh := (x.1, x.2.1, y)
abbrev nMd : Type := (Nat → Int32) × (Nat → Int32) × (Nat → Int32) × Int32 × Int32 × Int32 × (Nat → Int32) × (Nat → Int32) × Int32 × (Nat → Int32) × Int32 × (Nat → Int32) × (Nat → Int32) × (Nat → Int32) × (Nat → Int32) × Int32 × Int32 × (Nat → Int32) × (Nat → Int32) × (Nat → Int64) × (Nat → Int64)
def g_Md_now (x : nMd) : Nat → Int32 := x.1
def s_Md_now (x : nMd) (y : Nat → Int32) : nMd := (y, x.2)
def g_Md_later (x : nMd) : Nat → Int32 := x.2.1
def s_Md_later (x : nMd) (y : Nat → Int32) : nMd := (x.1, y, x.2.2)
def g_Md_tape (x : nMd) : Nat → Int32 := x.2.2.1
def s_Md_tape (x : nMd) (y : Nat → Int32) : nMd := (x.1, x.2.1, y, x.2.2.2)
def g_Md_typed (x : nMd) : Int32 := x.2.2.2.1
def s_Md_typed (x : nMd) (y : Int32) : nMd := (x.1, x.2.1, x.2.2.1, y, x.2.2.2.2)
def g_Md_place (x : nMd) : Int32 := x.2.2.2.2.1
def s_Md_place (x : nMd) (y : Int32) : nMd := (x.1, x.2.1, x.2.2.1, x.2.2.2.1, y, x.2.2.2.2.2)
def g_Md_isFault (x : nMd) : Int32 := x.2.2.2.2.2.1
def s_Md_isFault (x : nMd) (y : Int32) : nMd := (x.1, x.2.1, x.2.2.1, x.2.2.2.1, x.2.2.2.2.1, y, x.2.2.2.2.2.2)
def g_Md_read (x : nMd) : Nat → Int32 := x.2.2.2.2.2.2.1
def s_Md_read (x : nMd) (y : Nat → Int32) : nMd := (x.1, x.2.1, x.2.2.1, x.2.2.2.1, x.2.2.2.2.1, x.2.2.2.2.2.1, y, x.2.2.2.2.2.2.2)
def g_Md_undone (x : nMd) : Nat → Int32 := x.2.2.2.2.2.2.2.1
def s_Md_undone (x : nMd) (y : Nat → Int32) : nMd := (x.1, x.2.1, x.2.2.1, x.2.2.2.1, x.2.2.2.2.1, x.2.2.2.2.2.1, x.2.2.2.2.2.2.1, y, x.2.2.2.2.2.2.2.2)
def g_Md_undos (x : nMd) : Int32 := x.2.2.2.2.2.2.2.2.1
def s_Md_undos (x : nMd) (y : Int32) : nMd := (x.1, x.2.1, x.2.2.1, x.2.2.2.1, x.2.2.2.2.1, x.2.2.2.2.2.1, x.2.2.2.2.2.2.1, x.2.2.2.2.2.2.2.1, y, x.2.2.2.2.2.2.2.2.2)
def g_Md_aside (x : nMd) : Nat → Int32 := x.2.2.2.2.2.2.2.2.2.1
def s_Md_aside (x : nMd) (y : Nat → Int32) : nMd := (x.1, x.2.1, x.2.2.1, x.2.2.2.1, x.2.2.2.2.1, x.2.2.2.2.2.1, x.2.2.2.2.2.2.1, x.2.2.2.2.2.2.2.1, x.2.2.2.2.2.2.2.2.1, y, x.2.2.2.2.2.2.2.2.2.2)
def g_Md_together (x : nMd) : Int32 := x.2.2.2.2.2.2.2.2.2.2.1
def s_Md_together (x : nMd) (y : Int32) : nMd := (x.1, x.2.1, x.2.2.1, x.2.2.2.1, x.2.2.2.2.1, x.2.2.2.2.2.1, x.2.2.2.2.2.2.1, x.2.2.2.2.2.2.2.1, x.2.2.2.2.2.2.2.2.1, x.2.2.2.2.2.2.2.2.2.1, y, x.2.2.2.2.2.2.2.2.2.2.2)
def g_Md_by (x : nMd) : Nat → Int32 := x.2.2.2.2.2.2.2.2.2.2.2.1
def s_Md_by (x : nMd) (y : Nat → Int32) : nMd := (x.1, x.2.1, x.2.2.1, x.2.2.2.1, x.2.2.2.2.1, x.2.2.2.2.2.1, x.2.2.2.2.2.2.1, x.2.2.2.2.2.2.2.1, x.2.2.2.2.2.2.2.2.1, x.2.2.2.2.2.2.2.2.2.1, x.2.2.2.2.2.2.2.2.2.2.1, y, x.2.2.2.2.2.2.2.2.2.2.2.2)
def g_Md_best (x : nMd) : Nat → Int32 := x.2.2.2.2.2.2.2.2.2.2.2.2.1
def s_Md_best (x : nMd) (y : Nat → Int32) : nMd := (x.1, x.2.1, x.2.2.1, x.2.2.2.1, x.2.2.2.2.1, x.2.2.2.2.2.1, x.2.2.2.2.2.2.1, x.2.2.2.2.2.2.2.1, x.2.2.2.2.2.2.2.2.1, x.2.2.2.2.2.2.2.2.2.1, x.2.2.2.2.2.2.2.2.2.2.1, x.2.2.2.2.2.2.2.2.2.2.2.1, y, x.2.2.2.2.2.2.2.2.2.2.2.2.2)
def g_Md_order (x : nMd) : Nat → Int32 := x.2.2.2.2.2.2.2.2.2.2.2.2.2.1
def s_Md_order (x : nMd) (y : Nat → Int32) : nMd := (x.1, x.2.1, x.2.2.1, x.2.2.2.1, x.2.2.2.2.1, x.2.2.2.2.2.1, x.2.2.2.2.2.2.1, x.2.2.2.2.2.2.2.1, x.2.2.2.2.2.2.2.2.1, x.2.2.2.2.2.2.2.2.2.1, x.2.2.2.2.2.2.2.2.2.2.1, x.2.2.2.2.2.2.2.2.2.2.2.1, x.2.2.2.2.2.2.2.2.2.2.2.2.1, y, x.2.2.2.2.2.2.2.2.2.2.2.2.2.2)
def g_Md_kept (x : nMd) : Nat → Int32 := x.2.2.2.2.2.2.2.2.2.2.2.2.2.2.1
def s_Md_kept (x : nMd) (y : Nat → Int32) : nMd := (x.1, x.2.1, x.2.2.1, x.2.2.2.1, x.2.2.2.2.1, x.2.2.2.2.2.1, x.2.2.2.2.2.2.1, x.2.2.2.2.2.2.2.1, x.2.2.2.2.2.2.2.2.1, x.2.2.2.2.2.2.2.2.2.1, x.2.2.2.2.2.2.2.2.2.2.1, x.2.2.2.2.2.2.2.2.2.2.2.1, x.2.2.2.2.2.2.2.2.2.2.2.2.1, x.2.2.2.2.2.2.2.2.2.2.2.2.2.1, y, x.2.2.2.2.2.2.2.2.2.2.2.2.2.2.2)
def g_Md_keptUndos (x : nMd) : Int32 := x.2.2.2.2.2.2.2.2.2.2.2.2.2.2.2.1
def s_Md_keptUndos (x : nMd) (y : Int32) : nMd := (x.1, x.2.1, x.2.2.1, x.2.2.2.1, x.2.2.2.2.1, x.2.2.2.2.2.1, x.2.2.2.2.2.2.1, x.2.2.2.2.2.2.2.1, x.2.2.2.2.2.2.2.2.1, x.2.2.2.2.2.2.2.2.2.1, x.2.2.2.2.2.2.2.2.2.2.1, x.2.2.2.2.2.2.2.2.2.2.2.1, x.2.2.2.2.2.2.2.2.2.2.2.2.1, x.2.2.2.2.2.2.2.2.2.2.2.2.2.1, x.2.2.2.2.2.2.2.2.2.2.2.2.2.2.1, y, x.2.2.2.2.2.2.2.2.2.2.2.2.2.2.2.2)
def g_Md_isKept (x : nMd) : Int32 := x.2.2.2.2.2.2.2.2.2.2.2.2.2.2.2.2.1
def s_Md_isKept (x : nMd) (y : Int32) : nMd := (x.1, x.2.1, x.2.2.1, x.2.2.2.1, x.2.2.2.2.1, x.2.2.2.2.2.1, x.2.2.2.2.2.2.1, x.2.2.2.2.2.2.2.1, x.2.2.2.2.2.2.2.2.1, x.2.2.2.2.2.2.2.2.2.1, x.2.2.2.2.2.2.2.2.2.2.1, x.2.2.2.2.2.2.2.2.2.2.2.1, x.2.2.2.2.2.2.2.2.2.2.2.2.1, x.2.2.2.2.2.2.2.2.2.2.2.2.2.1, x.2.2.2.2.2.2.2.2.2.2.2.2.2.2.1, x.2.2.2.2.2.2.2.2.2.2.2.2.2.2.2.1, y, x.2.2.2.2.2.2.2.2.2.2.2.2.2.2.2.2.2)
def g_Md_lanes (x : nMd) : Nat → Int32 := x.2.2.2.2.2.2.2.2.2.2.2.2.2.2.2.2.2.1
def s_Md_lanes (x : nMd) (y : Nat → Int32) : nMd := (x.1, x.2.1, x.2.2.1, x.2.2.2.1, x.2.2.2.2.1, x.2.2.2.2.2.1, x.2.2.2.2.2.2.1, x.2.2.2.2.2.2.2.1, x.2.2.2.2.2.2.2.2.1, x.2.2.2.2.2.2.2.2.2.1, x.2.2.2.2.2.2.2.2.2.2.1, x.2.2.2.2.2.2.2.2.2.2.2.1, x.2.2.2.2.2.2.2.2.2.2.2.2.1, x.2.2.2.2.2.2.2.2.2.2.2.2.2.1, x.2.2.2.2.2.2.2.2.2.2.2.2.2.2.1, x.2.2.2.2.2.2.2.2.2.2.2.2.2.2.2.1, x.2.2.2.2.2.2.2.2.2.2.2.2.2.2.2.2.1, y, x.2.2.2.2.2.2.2.2.2.2.2.2.2.2.2.2.2.2)
def g_Md_sizes (x : nMd) : Nat → Int32 := x.2.2.2.2.2.2.2.2.2.2.2.2.2.2.2.2.2.2.1
def s_Md_sizes (x : nMd) (y : Nat → Int32) : nMd := (x.1, x.2.1, x.2.2.1, x.2.2.2.1, x.2.2.2.2.1, x.2.2.2.2.2.1, x.2.2.2.2.2.2.1, x.2.2.2.2.2.2.2.1, x.2.2.2.2.2.2.2.2.1, x.2.2.2.2.2.2.2.2.2.1, x.2.2.2.2.2.2.2.2.2.2.1, x.2.2.2.2.2.2.2.2.2.2.2.1, x.2.2.2.2.2.2.2.2.2.2.2.2.1, x.2.2.2.2.2.2.2.2.2.2.2.2.2.1, x.2.2.2.2.2.2.2.2.2.2.2.2.2.2.1, x.2.2.2.2.2.2.2.2.2.2.2.2.2.2.2.1, x.2.2.2.2.2.2.2.2.2.2.2.2.2.2.2.2.1, x.2.2.2.2.2.2.2.2.2.2.2.2.2.2.2.2.2.1, y, x.2.2.2.2.2.2.2.2.2.2.2.2.2.2.2.2.2.2.2)
def g_Md_items (x : nMd) : Nat → Int64 := x.2.2.2.2.2.2.2.2.2.2.2.2.2.2.2.2.2.2.2.1
def s_Md_items (x : nMd) (y : Nat → Int64) : nMd := (x.1, x.2.1, x.2.2.1, x.2.2.2.1, x.2.2.2.2.1, x.2.2.2.2.2.1, x.2.2.2.2.2.2.1, x.2.2.2.2.2.2.2.1, x.2.2.2.2.2.2.2.2.1, x.2.2.2.2.2.2.2.2.2.1, x.2.2.2.2.2.2.2.2.2.2.1, x.2.2.2.2.2.2.2.2.2.2.2.1, x.2.2.2.2.2.2.2.2.2.2.2.2.1, x.2.2.2.2.2.2.2.2.2.2.2.2.2.1, x.2.2.2.2.2.2.2.2.2.2.2.2.2.2.1, x.2.2.2.2.2.2.2.2.2.2.2.2.2.2.2.1, x.2.2.2.2.2.2.2.2.2.2.2.2.2.2.2.2.1, x.2.2.2.2.2.2.2.2.2.2.2.2.2.2.2.2.2.1, x.2.2.2.2.2.2.2.2.2.2.2.2.2.2.2.2.2.2.1, y, x.2.2.2.2.2.2.2.2.2.2.2.2.2.2.2.2.2.2.2.2)
def g_Md_moved (x : nMd) : Nat → Int64 := x.2.2.2.2.2.2.2.2.2.2.2.2.2.2.2.2.2.2.2.2
def s_Md_moved (x : nMd) (y : Nat → Int64) : nMd := (x.1, x.2.1, x.2.2.1, x.2.2.2.1, x.2.2.2.2.1, x.2.2.2.2.2.1, x.2.2.2.2.2.2.1, x.2.2.2.2.2.2.2.1, x.2.2.2.2.2.2.2.2.1, x.2.2.2.2.2.2.2.2.2.1, x.2.2.2.2.2.2.2.2.2.2.1, x.2.2.2.2.2.2.2.2.2.2.2.1, x.2.2.2.2.2.2.2.2.2.2.2.2.1, x.2.2.2.2.2.2.2.2.2.2.2.2.2.1, x.2.2.2.2.2.2.2.2.2.2.2.2.2.2.1, x.2.2.2.2.2.2.2.2.2.2.2.2.2.2.2.1, x.2.2.2.2.2.2.2.2.2.2.2.2.2.2.2.2.1, x.2.2.2.2.2.2.2.2.2.2.2.2.2.2.2.2.2.1, x.2.2.2.2.2.2.2.2.2.2.2.2.2.2.2.2.2.2.1, x.2.2.2.2.2.2.2.2.2.2.2.2.2.2.2.2.2.2.2.1, y)
abbrev nCs : Type := (Nat → nVl) × (Nat → nHi) × Int32 × (Nat → Int32) × nCa × nTa × (Nat → nSh)
def g_Cs_V (x : nCs) : Nat → nVl := x.1
def s_Cs_V (x : nCs) (y : Nat → nVl) : nCs := (y, x.2)
def g_Cs_H (x : nCs) : Nat → nHi := x.2.1
def s_Cs_H (x : nCs) (y : Nat → nHi) : nCs := (x.1, y, x.2.2)
def g_Cs_im (x : nCs) : Int32 := x.2.2.1
def s_Cs_im (x : nCs) (y : Int32) : nCs := (x.1, x.2.1, y, x.2.2.2)
def g_Cs_se (x : nCs) : Nat → Int32 := x.2.2.2.1
def s_Cs_se (x : nCs) (y : Nat → Int32) : nCs := (x.1, x.2.1, x.2.2.1, y, x.2.2.2.2)
def g_Cs_ca (x : nCs) : nCa := x.2.2.2.2.1
def s_Cs_ca (x : nCs) (y : nCa) : nCs := (x.1, x.2.1, x.2.2.1, x.2.2.2.1, y, x.2.2.2.2.2)
def g_Cs_ta (x : nCs) : nTa := x.2.2.2.2.2.1
def s_Cs_ta (x : nCs) (y : nTa) : nCs := (x.1, x.2.1, x.2.2.1, x.2.2.2.1, x.2.2.2.2.1, y, x.2.2.2.2.2.2)
def g_Cs_sh (x : nCs) : Nat → nSh := x.2.2.2.2.2.2
def s_Cs_sh (x : nCs) (y : Nat → nSh) : nCs := (x.1, x.2.1, x.2.2.1, x.2.2.2.1, x.2.2.2.2.1, x.2.2.2.2.2.1, y)
abbrev nG : Type := nCs × nMd
def gC (σ : nG) : nCs := σ.1
def sC (σ : nG) (c : nCs) : nG := (c, σ.2)
def gM (σ : nG) : nMd := σ.2
def sM (σ : nG) (m : nMd) : nG := (σ.1, m)
def cV (c : nCs) (v : Nat) : nVl := g_Cs_V c v
def cVs (c : nCs) (v : Nat) (x : nVl) : nCs := s_Cs_V c (va_up (g_Cs_V c) v x)
def cH (c : nCs) (v : Nat) : nHi := g_Cs_H c v
def cHs (c : nCs) (v : Nat) (x : nHi) : nCs := s_Cs_H c (va_up (g_Cs_H c) v x)
def cS (c : nCs) (v : Nat) : nSh := g_Cs_sh c v
def cSs (c : nCs) (v : Nat) (x : nSh) : nCs := s_Cs_sh c (va_up (g_Cs_sh c) v x)
def gV (σ : nG) (v : Nat) : nVl := cV σ.1 v
def sV (σ : nG) (v : Nat) (x : nVl) : nG := (cVs σ.1 v x, σ.2)
def gH (σ : nG) (v : Nat) : nHi := cH σ.1 v
def sH (σ : nG) (v : Nat) (x : nHi) : nG := (cHs σ.1 v x, σ.2)
def gSh (σ : nG) (v : Nat) : nSh := cS σ.1 v
def sSh (σ : nG) (v : Nat) (x : nSh) : nG := (cSs σ.1 v x, σ.2)
def gIm (σ : nG) : Int32 := g_Cs_im σ.1
def sIm (σ : nG) (x : Int32) : nG := (s_Cs_im σ.1 x, σ.2)
def gSe (σ : nG) : Nat → Int32 := g_Cs_se σ.1
def sSe (σ : nG) (x : Nat → Int32) : nG := (s_Cs_se σ.1 x, σ.2)
def gCa (σ : nG) : nCa := g_Cs_ca σ.1
def sCa (σ : nG) (x : nCa) : nG := (s_Cs_ca σ.1 x, σ.2)
def gTa (σ : nG) : nTa := g_Cs_ta σ.1
def sTa (σ : nG) (x : nTa) : nG := (s_Cs_ta σ.1 x, σ.2)
theorem up_eta {α : Type} (f : Nat → α) (k : Nat) : va_up f k (f k) = f := by
  funext j; by_cases h : j = k
  · rw [h, va_up_self]
  · rw [va_up_ne _ _ h]
theorem gsV (σ : nG) (v : Nat) (x : nVl) : gV (sV σ v x) v = x := va_up_self _ _ _
theorem gnV (σ : nG) {v w : Nat} (x : nVl) (h : w ≠ v) : gV (sV σ v x) w = gV σ w := va_up_ne _ _ h
theorem ssV (σ : nG) (v : Nat) (x y : nVl) : sV (sV σ v x) v y = sV σ v y := by
  show ((va_up (va_up (g_Cs_V σ.1) v x) v y, σ.1.2), σ.2) = _
  rw [bx_uu]; rfl
theorem esV (σ : nG) (v : Nat) : sV σ v (gV σ v) = σ := by
  show ((va_up (g_Cs_V σ.1) v (g_Cs_V σ.1 v), σ.1.2), σ.2) = σ
  rw [up_eta]; rfl
theorem gsS (σ : nG) (v : Nat) (x : nSh) : gSh (sSh σ v x) v = x := va_up_self _ _ _
theorem gnS (σ : nG) {v w : Nat} (x : nSh) (h : w ≠ v) : gSh (sSh σ v x) w = gSh σ w := va_up_ne _ _ h
theorem ssS (σ : nG) (v : Nat) (x y : nSh) : sSh (sSh σ v x) v y = sSh σ v y := by
  show (s_Cs_sh σ.1 (va_up (va_up (g_Cs_sh σ.1) v x) v y), σ.2) = _
  rw [bx_uu]; rfl
theorem esS (σ : nG) (v : Nat) : sSh σ v (gSh σ v) = σ := by
  show (s_Cs_sh σ.1 (va_up (g_Cs_sh σ.1) v (g_Cs_sh σ.1 v)), σ.2) = σ
  rw [up_eta]; rfl
theorem gsH (σ : nG) (v : Nat) (x : nHi) : gH (sH σ v x) v = x := va_up_self _ _ _
theorem gnH (σ : nG) {v w : Nat} (x : nHi) (h : w ≠ v) : gH (sH σ v x) w = gH σ w := va_up_ne _ _ h
def nn_vc (cy : Nat → ClassId) (ad : Nat → Nat) (v : Nat) (x : nVl) (k : Nat) : va_E := match k with
  | 0 => .inr (5, [.ref (ad (6*v+1)), .ref (ad (6*v+2)), .ref (ad (6*v+3)), .ref (ad (6*v+4)), .ref (ad (6*v+5)), .int (g_Vl_villages x), .int (g_Vl_day x), .int (g_Vl_draw x)])
  | 1 => .inl (cy 0, 6, .inl (g_Vl_kinds x))
  | 2 => .inl (cy 0, 6, .inl (g_Vl_minutes x))
  | 3 => .inl (cy 0, 6, .inl (g_Vl_drifts x))
  | 4 => .inl (cy 0, 6, .inl (g_Vl_miles x))
  | _ => .inl (cy 0, 6, .inl (g_Vl_shifts x))
def nn_hc (cy : Nat → ClassId) (ad : Nat → Nat) (h : Nat) (x : nHi) (k : Nat) : va_E := match k with
  | 0 => .inr (1, [.ref (ad (115+2*h)), .int (g_Hi_next x), .int (g_Hi_known x)])
  | _ => .inl (cy 4, 8, .inr (.inr (.inr (.inr (fun j => some (ad (6*(3+8*h+j))))))))
def nn_sc (cy : Nat → ClassId) (ad : Nat → Nat) (j : Nat) (x : nSh) (k : Nat) : va_E := match k with
  | 0 => .inr (3, [.ref (ad (128+2*j)), .int (g_Sh_lane x), .int (g_Sh_length x)])
  | _ => .inl (cy 2, 24, .inr (.inl (g_Sh_items x)))
def nn_oc (cy : Nat → ClassId) (ad : Nat → Nat) (σ : nG) (k : Nat) : va_E := match k with
  | 0 => .inr (6, [.ref (ad 0), .ref (ad 114), .ref (ad 6), .ref (ad 116), .int (gIm σ), .ref (ad 12), .ref (ad 119), .ref (ad 121), .ref (ad 124), .ref (ad 126)])
  | 1 => .inr (2, [.ref (ad 120)])
  | 2 => .inl (cy 0, 6, .inl (gSe σ))
  | 3 => .inr (0, [.ref (ad 122), .ref (ad 123), .int (g_Ca_bestTime (gCa σ)), .int (g_Ca_minutesAMile (gCa σ))])
  | 4 => .inl (cy 0, 6, .inl (g_Ca_order (gCa σ)))
  | 5 => .inl (cy 0, 6, .inl (g_Ca_bestOrder (gCa σ)))
  | 6 => .inr (4, [.ref (ad 125), .int (g_Ta_length (gTa σ)), .int (g_Ta_place (gTa σ)), .int (g_Ta_fault (gTa σ))])
  | 7 => .inl (cy 1, 60, .inl (g_Ta_letters (gTa σ)))
  | _ => .inl (cy 3, 4, .inr (.inr (.inr (.inr (fun j => some (ad (127+2*j)))))))
def nn_mc (cy : Nat → ClassId) (ad : Nat → Nat) (m : nMd) (k : Nat) : va_E := match k with
  | 0 => .inr (7, [.ref (ad 136), .ref (ad 137), .ref (ad 138), .int (g_Md_typed m), .int (g_Md_place m), .int (g_Md_isFault m), .ref (ad 139), .ref (ad 140), .int (g_Md_undos m), .ref (ad 141), .int (g_Md_together m), .ref (ad 142), .ref (ad 143), .ref (ad 144), .ref (ad 145), .int (g_Md_keptUndos m), .int (g_Md_isKept m), .ref (ad 146), .ref (ad 147), .ref (ad 148), .ref (ad 149)])
  | 1 => .inl (cy 0, 27, .inl (g_Md_now m))
  | 2 => .inl (cy 0, 6, .inl (g_Md_later m))
  | 3 => .inl (cy 0, 60, .inl (g_Md_tape m))
  | 4 => .inl (cy 0, 24, .inl (g_Md_read m))
  | 5 => .inl (cy 0, 216, .inl (g_Md_undone m))
  | 6 => .inl (cy 0, 27, .inl (g_Md_aside m))
  | 7 => .inl (cy 0, 6, .inl (g_Md_by m))
  | 8 => .inl (cy 0, 6, .inl (g_Md_best m))
  | 9 => .inl (cy 0, 6, .inl (g_Md_order m))
  | 10 => .inl (cy 0, 243, .inl (g_Md_kept m))
  | 11 => .inl (cy 0, 4, .inl (g_Md_lanes m))
  | 12 => .inl (cy 0, 4, .inl (g_Md_sizes m))
  | 13 => .inl (cy 2, 96, .inr (.inl (g_Md_items m)))
  | _ => .inl (cy 2, 24, .inr (.inl (g_Md_moved m)))
def nn_ce (cy : Nat → ClassId) (ad : Nat → Nat) (σ : nG) (i : Nat) : va_E := if i < 114 then nn_vc cy ad (i / 6) (gV σ (i / 6)) (i % 6) else if i < 118 then nn_hc cy ad ((i - 114) / 2) (gH σ ((i - 114) / 2)) ((i - 114) % 2) else if i < 127 then nn_oc cy ad σ (i - 118) else if i < 135 then nn_sc cy ad ((i - 127) / 2) (gSh σ ((i - 127) / 2)) ((i - 127) % 2) else nn_mc cy ad (gM σ) (i - 135)
def nn_w (cy : Nat → ClassId) (ad : Nat → Nat) (σ : nG) : va_W := (List.range 150).map (fun i => (ad i, nn_ce cy ad σ i))
theorem nn_at {cy : Nat → ClassId} {ad : Nat → Nat} {σ : nG} {i : Nat} {e : va_E} (hi : i < 150) (he : nn_ce cy ad σ i = e) : (nn_w cy ad σ)[i]? = some (ad i, e) := by
  unfold nn_w
  rw [List.getElem?_map, List.getElem?_range hi, ← he]; rfl
theorem nn_len (cy : Nat → ClassId) (ad : Nat → Nat) (σ : nG) : (nn_w cy ad σ).length = 150 := by simp [nn_w]
def nn_U (cy : Nat → ClassId) (ad : Nat → Nat) (τ τ' : nG) (i : Nat) (e : va_E) : Prop := nn_ce cy ad τ' i = e ∧ ∀ j, j < 150 → j ≠ i → nn_ce cy ad τ' j = nn_ce cy ad τ j
theorem nn_set {cy : Nat → ClassId} {ad : Nat → Nat} {τ τ' : nG} {i : Nat} {e : va_E} (hi : i < 150) (h : nn_U cy ad τ τ' i e) : (nn_w cy ad τ).set i (ad i, e) = nn_w cy ad τ' := by
  apply List.ext_getElem?
  intro j
  by_cases hj : j < 150
  · rw [nn_at hj rfl]
    by_cases hji : j = i
    · rw [hji, List.getElem?_set_self (by rw [nn_len]; exact hi), h.1]
    · rw [List.getElem?_set_ne (Ne.symm hji), nn_at hj rfl, h.2 j hj hji]
  · rw [List.getElem?_eq_none (by rw [List.length_set, nn_len]; omega), List.getElem?_eq_none (by rw [nn_len]; omega)]
theorem ce_V {cy : Nat → ClassId} {ad : Nat → Nat} {σ : nG} {v k : Nat} (hv : v < 19) (hk : k < 6) : nn_ce cy ad σ (6*v+k) = nn_vc cy ad v (gV σ v) k := by
  have h1 : (6*v+k)/6 = v := by omega
  have h2 : (6*v+k)%6 = k := by omega
  unfold nn_ce
  rw [if_pos (by omega), h1, h2]
theorem ce_H {cy : Nat → ClassId} {ad : Nat → Nat} {σ : nG} {v k : Nat} (hv : v < 2) (hk : k < 2) : nn_ce cy ad σ (114+2*v+k) = nn_hc cy ad v (gH σ v) k := by
  have h1 : (114+2*v+k-114)/2 = v := by omega
  have h2 : (114+2*v+k-114)%2 = k := by omega
  unfold nn_ce
  rw [if_neg (by omega), if_pos (by omega), h1, h2]
theorem ce_O {cy : Nat → ClassId} {ad : Nat → Nat} {σ : nG} {k : Nat} (hk : k < 9) : nn_ce cy ad σ (118+k) = nn_oc cy ad σ k := by
  have h1 : 118+k-118 = k := by omega
  unfold nn_ce
  rw [if_neg (by omega), if_neg (by omega), if_pos (by omega), h1]
theorem ce_S {cy : Nat → ClassId} {ad : Nat → Nat} {σ : nG} {v k : Nat} (hv : v < 4) (hk : k < 2) : nn_ce cy ad σ (127+2*v+k) = nn_sc cy ad v (gSh σ v) k := by
  have h1 : (127+2*v+k-127)/2 = v := by omega
  have h2 : (127+2*v+k-127)%2 = k := by omega
  unfold nn_ce
  rw [if_neg (by omega), if_neg (by omega), if_neg (by omega), if_pos (by omega), h1, h2]
theorem ce_M {cy : Nat → ClassId} {ad : Nat → Nat} {σ : nG} {k : Nat} : nn_ce cy ad σ (135+k) = nn_mc cy ad (gM σ) k := by
  have h1 : 135+k-135 = k := by omega
  unfold nn_ce
  rw [if_neg (by omega), if_neg (by omega), if_neg (by omega), if_neg (by omega), h1]
theorem un_V {cy : Nat → ClassId} {ad : Nat → Nat} {τ : nG} {v k : Nat} {x : nVl} (hv : v < 19) (hk : k < 6) (h : ∀ j, j < 6 → j ≠ k → nn_vc cy ad v x j = nn_vc cy ad v (gV τ v) j) : nn_U cy ad τ (sV τ v x) (6*v+k) (nn_vc cy ad v x k) := by
  refine ⟨by rw [ce_V hv hk, gsV], fun j hj hne => ?_⟩
  by_cases h1 : j < 114
  · obtain ⟨w, q, hq, rfl⟩ : ∃ w q, q < 6 ∧ j = 6*w+q := ⟨j/6, j%6, by omega, by omega⟩
    have hw : w < 19 := by omega
    rw [ce_V hw hq, ce_V hw hq]
    by_cases hwv : w = v
    · subst hwv
      rw [gsV, h q hq (by omega)]
    · rw [gnV _ _ hwv]
  · unfold nn_ce
    rw [if_neg h1, if_neg h1]; rfl
theorem un_H {cy : Nat → ClassId} {ad : Nat → Nat} {τ : nG} {v k : Nat} {x : nHi} (hv : v < 2) (hk : k < 2) (h : ∀ j, j < 2 → j ≠ k → nn_hc cy ad v x j = nn_hc cy ad v (gH τ v) j) : nn_U cy ad τ (sH τ v x) (114+2*v+k) (nn_hc cy ad v x k) := by
  refine ⟨by rw [ce_H hv hk, gsH], fun j hj hne => ?_⟩
  by_cases h1 : 114 ≤ j ∧ j < 118
  · obtain ⟨w, q, hq, rfl⟩ : ∃ w q, q < 2 ∧ j = 114+2*w+q := ⟨(j-114)/2, (j-114)%2, by omega, by omega⟩
    have hw : w < 2 := by omega
    rw [ce_H hw hq, ce_H hw hq]
    by_cases hwv : w = v
    · subst hwv
      rw [gsH, h q hq (by omega)]
    · rw [gnH _ _ hwv]
  · unfold nn_ce
    by_cases h2 : j < 114
    · rw [if_pos h2, if_pos h2]; rfl
    · have h3 : ¬ j < 118 := by omega
      rw [if_neg h2, if_neg h2, if_neg h3, if_neg h3]; rfl
theorem un_S {cy : Nat → ClassId} {ad : Nat → Nat} {τ : nG} {v k : Nat} {x : nSh} (hv : v < 4) (hk : k < 2) (h : ∀ j, j < 2 → j ≠ k → nn_sc cy ad v x j = nn_sc cy ad v (gSh τ v) j) : nn_U cy ad τ (sSh τ v x) (127+2*v+k) (nn_sc cy ad v x k) := by
  refine ⟨by rw [ce_S hv hk, gsS], fun j hj hne => ?_⟩
  by_cases h1 : 127 ≤ j ∧ j < 135
  · obtain ⟨w, q, hq, rfl⟩ : ∃ w q, q < 2 ∧ j = 127+2*w+q := ⟨(j-127)/2, (j-127)%2, by omega, by omega⟩
    have hw : w < 4 := by omega
    rw [ce_S hw hq, ce_S hw hq]
    by_cases hwv : w = v
    · subst hwv
      rw [gsS, h q hq (by omega)]
    · rw [gnS _ _ hwv]
  · unfold nn_ce
    by_cases h2 : j < 114
    · rw [if_pos h2, if_pos h2]; rfl
    · rw [if_neg h2, if_neg h2]
      by_cases h3 : j < 118
      · rw [if_pos h3, if_pos h3]; rfl
      · rw [if_neg h3, if_neg h3]
        by_cases h4 : j < 127
        · rw [if_pos h4, if_pos h4]; rfl
        · rw [if_neg h4, if_neg h4, if_neg (by omega), if_neg (by omega)]; rfl
theorem un_O {cy : Nat → ClassId} {ad : Nat → Nat} {τ τ' : nG} {k : Nat} (hk : k < 9) (hV : gV τ' = gV τ) (hH : gH τ' = gH τ) (hS : gSh τ' = gSh τ) (hM : gM τ' = gM τ) (h : ∀ j, j < 9 → j ≠ k → nn_oc cy ad τ' j = nn_oc cy ad τ j) : nn_U cy ad τ τ' (118+k) (nn_oc cy ad τ' k) := by
  refine ⟨ce_O hk, fun j hj hne => ?_⟩
  by_cases h1 : 118 ≤ j ∧ j < 127
  · obtain ⟨q, hq, rfl⟩ : ∃ q, q < 9 ∧ j = 118+q := ⟨j-118, by omega, by omega⟩
    rw [ce_O hq, ce_O hq, h q hq (by omega)]
  · unfold nn_ce
    rw [hV, hH, hS, hM]
    by_cases h2 : j < 114
    · rw [if_pos h2, if_pos h2]
    · rw [if_neg h2, if_neg h2]
      by_cases h3 : j < 118
      · rw [if_pos h3, if_pos h3]
      · have h4 : ¬ j < 127 := by omega
        rw [if_neg h3, if_neg h3, if_neg h4, if_neg h4]
theorem un_M {cy : Nat → ClassId} {ad : Nat → Nat} {τ : nG} {m : nMd} {k : Nat} (hk : k < 15) (h : ∀ j, j < 15 → j ≠ k → nn_mc cy ad m j = nn_mc cy ad (gM τ) j) : nn_U cy ad τ (sM τ m) (135+k) (nn_mc cy ad m k) := by
  refine ⟨ce_M, fun j hj hne => ?_⟩
  by_cases h1 : 135 ≤ j
  · obtain ⟨q, hq, rfl⟩ : ∃ q, q < 15 ∧ j = 135+q := ⟨j-135, by omega, by omega⟩
    rw [ce_M, ce_M]; exact h q hq (by omega)
  · unfold nn_ce
    by_cases h2 : j < 114
    · rw [if_pos h2, if_pos h2]; rfl
    · rw [if_neg h2, if_neg h2]
      by_cases h3 : j < 118
      · rw [if_pos h3, if_pos h3]; rfl
      · rw [if_neg h3, if_neg h3]
        by_cases h4 : j < 127
        · rw [if_pos h4, if_pos h4]; rfl
        · rw [if_neg h4, if_neg h4, if_pos (by omega), if_pos (by omega)]; rfl
theorem nn_D {cy : Nat → ClassId} {ad : Nat → Nat} {A : Nat → Prop} {τ τ' : nG} (h : va_D A (nn_w cy ad τ)) : va_D A (nn_w cy ad τ') := by
  have key : ∀ (k : Nat) (q : Nat × va_E), (nn_w cy ad τ')[k]? = some q → k < 150 ∧ ad k = q.1 := by
    intro k q hk
    have h1 := (List.getElem?_eq_some_iff.mp hk).1
    rw [nn_len] at h1
    rw [nn_at h1 rfl] at hk
    cases hk
    exact ⟨h1, rfl⟩
  refine ⟨fun i j p q hi hj hpq => ?_, fun k q hk => ?_⟩
  · obtain ⟨a1, a2⟩ := key i p hi
    obtain ⟨b1, b2⟩ := key j q hj
    exact h.1 i j _ _ (nn_at a1 rfl) (nn_at b1 rfl) (a2.trans (hpq.trans b2.symm))
  · obtain ⟨a1, a2⟩ := key k q hk
    rw [← a2]
    exact h.2 k _ (nn_at a1 rfl)
def nn_N (U : State) : Prop := va_Nw (.methodLinkNest "NineNoons" 11 yX5_init "NineNoons") U ∧ va_Nw (.methodLinkNest "NineNoons" 18 yX1_init "NineNoons") U ∧ va_Nw (.methodLinkNest "NineNoons$History" 11 yX5_init "NineNoons") U ∧ va_Nw (.methodLinkNest "NineNoons" 34 yX2_init "NineNoons") U ∧ va_Nw (.methodLinkNest "NineNoons" 41 yX0_init "NineNoons") U ∧ va_Nw (.methodLinkNest "NineNoons" 48 yX4_init "NineNoons") U ∧ va_Nw (.methodLinkNest "NineNoons" 55 yX3_init "NineNoons") U ∧ va_Nw (.methodLinkNest "NineNoons$Valley" 47 yX6_shorterWay "NineNoons") U ∧ va_Nw (.methodLinkNest "NineNoons$Valley" 67 yX6_roundTheHour "NineNoons") U ∧ va_Nw (.methodLinkNest "NineNoons$Setter" 50 yX6_roundTheHour "NineNoons") U ∧ va_Nw (.methodLinkNest "NineNoons$Setter" 43 yX6_shorterWay "NineNoons") U ∧ va_Nw (.methodLinkNest "NineNoons$Carrier" 44 yX6_isIn "NineNoons") U ∧ va_Nw (.methodLinkNest "NineNoons$Carrier" 60 yX6_roundTheHour "NineNoons") U ∧ va_Nw (.methodLinkNest "NineNoons$Valley" 63 yX6_isIn "NineNoons") U
theorem nn_N.warm {s U : State} (hW : s.WarmedH U.vm) (h : nn_N s) : nn_N U := ⟨va_Nw.warmM hW h.1, va_Nw.warmM hW h.2.1, va_Nw.warmM hW h.2.2.1, va_Nw.warmM hW h.2.2.2.1, va_Nw.warmM hW h.2.2.2.2.1, va_Nw.warmM hW h.2.2.2.2.2.1, va_Nw.warmM hW h.2.2.2.2.2.2.1, va_Nw.warmM hW h.2.2.2.2.2.2.2.1, va_Nw.warmM hW h.2.2.2.2.2.2.2.2.1, va_Nw.warmM hW h.2.2.2.2.2.2.2.2.2.1, va_Nw.warmM hW h.2.2.2.2.2.2.2.2.2.2.1, va_Nw.warmM hW h.2.2.2.2.2.2.2.2.2.2.2.1, va_Nw.warmM hW h.2.2.2.2.2.2.2.2.2.2.2.2.1, va_Nw.warmM hW h.2.2.2.2.2.2.2.2.2.2.2.2.2⟩
theorem nn_N.same {s U : State} (hW : s.vm = U.vm) (h : nn_N s) : nn_N U := ⟨va_Nw.same rfl hW h.1, va_Nw.same rfl hW h.2.1, va_Nw.same rfl hW h.2.2.1, va_Nw.same rfl hW h.2.2.2.1, va_Nw.same rfl hW h.2.2.2.2.1, va_Nw.same rfl hW h.2.2.2.2.2.1, va_Nw.same rfl hW h.2.2.2.2.2.2.1, va_Nw.same rfl hW h.2.2.2.2.2.2.2.1, va_Nw.same rfl hW h.2.2.2.2.2.2.2.2.1, va_Nw.same rfl hW h.2.2.2.2.2.2.2.2.2.1, va_Nw.same rfl hW h.2.2.2.2.2.2.2.2.2.2.1, va_Nw.same rfl hW h.2.2.2.2.2.2.2.2.2.2.2.1, va_Nw.same rfl hW h.2.2.2.2.2.2.2.2.2.2.2.2.1, va_Nw.same rfl hW h.2.2.2.2.2.2.2.2.2.2.2.2.2⟩
theorem nn_N.of {A : Array Value} {U : State} (h : ∀ w ∈ lw_tbl, w.before A U = true) : nn_N U := ⟨va_Nw.of rfl (h _ tb_1_23), va_Nw.of rfl (h _ tb_1_67), va_Nw.of rfl (h _ tb_1_73), va_Nw.of rfl (h _ tb_1_87), va_Nw.of rfl (h _ tb_1_98), va_Nw.of rfl (h _ tb_1_119), va_Nw.of rfl (h _ tb_1_141), va_Nw.of rfl (h _ tb_1_228), va_Nw.of rfl (h _ tb_2_120), va_Nw.of rfl (h _ tb_2_210), va_Nw.of rfl (h _ tb_2_211), va_Nw.of rfl (h _ tb_3_12), va_Nw.of rfl (h _ tb_3_20), va_Nw.of rfl (h _ tb_3_49)⟩
theorem nw_0 {U : State} (h : nn_N U) : va_Nw (.methodLinkNest "NineNoons" 11 yX5_init "NineNoons") U := h.1
theorem nw_1 {U : State} (h : nn_N U) : va_Nw (.methodLinkNest "NineNoons" 18 yX1_init "NineNoons") U := h.2.1
theorem nw_2 {U : State} (h : nn_N U) : va_Nw (.methodLinkNest "NineNoons$History" 11 yX5_init "NineNoons") U := h.2.2.1
theorem nw_3 {U : State} (h : nn_N U) : va_Nw (.methodLinkNest "NineNoons" 34 yX2_init "NineNoons") U := h.2.2.2.1
theorem nw_4 {U : State} (h : nn_N U) : va_Nw (.methodLinkNest "NineNoons" 41 yX0_init "NineNoons") U := h.2.2.2.2.1
theorem nw_5 {U : State} (h : nn_N U) : va_Nw (.methodLinkNest "NineNoons" 48 yX4_init "NineNoons") U := h.2.2.2.2.2.1
theorem nw_6 {U : State} (h : nn_N U) : va_Nw (.methodLinkNest "NineNoons" 55 yX3_init "NineNoons") U := h.2.2.2.2.2.2.1
theorem nw_7 {U : State} (h : nn_N U) : va_Nw (.methodLinkNest "NineNoons$Valley" 47 yX6_shorterWay "NineNoons") U := h.2.2.2.2.2.2.2.1
theorem nw_8 {U : State} (h : nn_N U) : va_Nw (.methodLinkNest "NineNoons$Valley" 67 yX6_roundTheHour "NineNoons") U := h.2.2.2.2.2.2.2.2.1
theorem nw_9 {U : State} (h : nn_N U) : va_Nw (.methodLinkNest "NineNoons$Setter" 50 yX6_roundTheHour "NineNoons") U := h.2.2.2.2.2.2.2.2.2.1
theorem nw_10 {U : State} (h : nn_N U) : va_Nw (.methodLinkNest "NineNoons$Setter" 43 yX6_shorterWay "NineNoons") U := h.2.2.2.2.2.2.2.2.2.2.1
theorem nw_11 {U : State} (h : nn_N U) : va_Nw (.methodLinkNest "NineNoons$Carrier" 44 yX6_isIn "NineNoons") U := h.2.2.2.2.2.2.2.2.2.2.2.1
theorem nw_12 {U : State} (h : nn_N U) : va_Nw (.methodLinkNest "NineNoons$Carrier" 60 yX6_roundTheHour "NineNoons") U := h.2.2.2.2.2.2.2.2.2.2.2.2.1
theorem nw_13 {U : State} (h : nn_N U) : va_Nw (.methodLinkNest "NineNoons$Valley" 63 yX6_isIn "NineNoons") U := h.2.2.2.2.2.2.2.2.2.2.2.2.2
def nn_t (cy : Nat → ClassId) : List (ClassId × FieldType) := [(cy 0, .int), (cy 1, .char), (cy 2, .long), (cy 3, .object "NineNoons$Sheet"), (cy 4, .object "NineNoons$Valley")]
def nn_K (D : va_G) (cy : Nat → ClassId) (U : State) : Prop := va_K D vwCl (nn_t cy) U ∧ nn_N U
def nn_W (D : va_G) (cy : Nat → ClassId) (ad : Nat → Nat) (A : Nat → Prop) (H0 : Heap) (τ : nG) (H : Heap) (locs : List Loc) : Prop := va_P D vwCl (nn_w cy ad τ) H ∧ va_D A (nn_w cy ad τ) ∧ va_S A H0 H locs
theorem nn_W.eq {D : va_G} {cy : Nat → ClassId} {ad : Nat → Nat} {A : Nat → Prop} {H0 : Heap} {τ τ' : nG} {H : Heap} {locs : List Loc} (h : τ = τ') (hw : nn_W D cy ad A H0 τ H locs) : nn_W D cy ad A H0 τ' H locs := h ▸ hw
def nn_ws (y : MethodName) (cc : ByteArray) (maxL : Nat) (ret : Option FieldType) : List Cond := Cond.code y cc maxL ret :: nn_B
abbrev nn_R (d : Nat) : Room := { frames := d, cells := 0, slots := 0, locals := 100 * d }
abbrev nn_Pre (D : va_G) (cy : Nat → ClassId) (ad : Nat → Nat) (A : Nat → Prop) (τ : nG) : State → Prop := fun U => nn_K D cy U ∧ va_P D vwCl (nn_w cy ad τ) U.heap ∧ va_D A (nn_w cy ad τ)
abbrev nn_qi (D : va_G) (cy : Nat → ClassId) (ad : Nat → Nat) (A : Nat → Prop) (r : Int32) (τ : nG) : Array Value → State → Outcome → State → Prop := va_Qi (fun q (_ : Unit) => q = r) (fun _ t => va_P D vwCl (nn_w cy ad τ) t.heap) A
abbrev nn_ql (D : va_G) (cy : Nat → ClassId) (ad : Nat → Nat) (A : Nat → Prop) (r : Int64) (τ : nG) : Array Value → State → Outcome → State → Prop := va_Ql (fun q (_ : Unit) => q = r) (fun _ t => va_P D vwCl (nn_w cy ad τ) t.heap) A
abbrev nn_qv (D : va_G) (cy : Nat → ClassId) (ad : Nat → Nat) (A : Nat → Prop) (τ : nG) : Array Value → State → Outcome → State → Prop := va_Qv (fun (_ : Unit) => True) (fun _ t => va_P D vwCl (nn_w cy ad τ) t.heap) A
def nn_I (l : Launch) (y : MethodName) (ws : List Cond) (rm : Room) (D : va_G) (cy : Nat → ClassId) (ad : Nat → Nat) (A : Nat → Prop) (av : List Value) (τ : nG) (r : Int32) (τ' : nG) : Prop := Met l y ws rm (va_Pc av (nn_Pre D cy ad A τ)) (nn_qi D cy ad A r τ') 0 0 A
def nn_J (l : Launch) (y : MethodName) (ws : List Cond) (rm : Room) (D : va_G) (cy : Nat → ClassId) (ad : Nat → Nat) (A : Nat → Prop) (av : List Value) (τ : nG) (r : Int64) (τ' : nG) : Prop := Met l y ws rm (va_Pc av (nn_Pre D cy ad A τ)) (nn_ql D cy ad A r τ') 0 0 A
def nn_V (l : Launch) (y : MethodName) (ws : List Cond) (rm : Room) (D : va_G) (cy : Nat → ClassId) (ad : Nat → Nat) (A : Nat → Prop) (av : List Value) (τ : nG) (τ' : nG) : Prop := Met l y ws rm (va_Pc av (nn_Pre D cy ad A τ)) (nn_qv D cy ad A τ') 0 0 A
theorem nn_blind {D : va_G} {cy : Nat → ClassId} {ad : Nat → Nat} {A : Nat → Prop} {av : List Value} {τ : nG} : FrameBlind (va_Pc av (nn_Pre D cy ad A τ)) := by
  intro a U g mk q
  obtain ⟨q0, ⟨qK, qN⟩, qP, qD⟩ := q
  exact ⟨q0, ⟨va_K.moved (u := U) (U := U.calling g mk a) (Vm.Alike.refl U.vm) qK, nn_N.same rfl qN⟩, qP, qD⟩
theorem nn_pay {y : MethodName} {bytes : ByteArray} {maxL : Nat} {ret : Option FieldType} (h : Cond.code y bytes maxL ret ∈ nn_B) : GoodIn nn_B (nn_ws y bytes maxL ret) := by
  intro w hw
  rcases List.mem_cons.mp hw with rfl | hw
  · exact ⟨h, good_of_word (List.mem_filter.mp h).2⟩
  · exact ⟨hw, good_of_word (List.mem_filter.mp hw).2⟩
abbrev nn_hd (y : MethodName) (n : Nat) : Prop := y.cls ≠ "java/lang/invoke/MethodHandle" ∧ y.cls ≠ "java/lang/invoke/VarHandle" ∧ (parseMethodDescriptor y.desc).map (fun d => d.parameters.length) = some n
abbrev nn_mV (y : MethodName) (bytes : ByteArray) (maxL : Nat) (ret : Option FieldType) (n : Nat) : Prop := Cond.instanceMethod y ∈ nn_B ∧ Cond.selects y.cls y y ∈ nn_B ∧ Cond.initialized y.cls ∈ nn_B ∧ Cond.code y bytes maxL ret ∈ nn_B ∧ nn_hd y n
abbrev nn_mS' (y : MethodName) (bytes : ByteArray) (maxL : Nat) (ret : Option FieldType) (n : Nat) : Prop := Cond.static y ∈ nn_B ∧ Cond.initialized y.cls ∈ nn_B ∧ Cond.code y bytes maxL ret ∈ nn_B ∧ nn_hd y n
section NN
variable {p : Program} {l : Launch} {e : Env} {R : Room} {s : State} {m : MethodId} {args : Array Value} {below : List Frame} {meth : Method} {c : Code} {H : Heap} {locs : List Loc} {cells slots : Nat} {Q : State → Prop} {cc : ByteArray} {nL : Nat} {own : String} {pc : Nat} {ls : Array Slot} {rest st : List Value} {D : va_G} {cy : Nat → ClassId} {ad : Nat → Nat} {A : Nat → Prop} {τ τ' : nG}
theorem nn_get (S : CallFix p m c cc nL s args nn_B own) (hK : nn_K D cy s) (hw : nn_W D cy ad A s.heap τ H locs) {i ci : Nat} {fs : List Value} (he : nn_ce cy ad τ i = .inr (ci, fs)) (hi : i < 150) {C : String} {T : u_T} {N : Nat} (hc : vwCl[ci]? = some (C, T, N)) (hin : ∀ w ∈ u_ws C T N, w ∈ nn_B) (k : Nat) (hk : k < N) {index : Nat} (hlink : Cond.fieldLink own index (T k).1 (T k).2.1 (T k).2.2.1 ∈ nn_B) {v : Value} (hv : fs[k]? = some v) (hdg : decode cc pc = .ok (.getfield index, 3)) (kk : W p l e R s m args below meth c H locs cells slots Q (F0 m (pc + 3) ls (v :: rest))) : W p l e R s m args below meth c H locs cells slots Q (F0 m pc ls (.ref (ad i) :: rest)) :=
  va_get S.1 S.2.1 S.2.2.2.2 hin S.2.2.2.1 hK.1 hw.1 i (nn_at hi he) hc k hk (S.2.2.2.2 _ hlink) (fun _ h => h) hv hdg kk
theorem nn_put (S : CallFix p m c cc nL s args nn_B own) (hK : nn_K D cy s) (hw : nn_W D cy ad A s.heap τ H locs) {i ci : Nat} {fs : List Value} (he : nn_ce cy ad τ i = .inr (ci, fs)) (hi : i < 150) {C : String} {T : u_T} {N : Nat} (hc : vwCl[ci]? = some (C, T, N)) (hin : ∀ w ∈ u_ws C T N, w ∈ nn_B) (ty0 : Nat → FieldType) (hty : ∀ k, k < N → parseFieldDescriptor (T k).2.2.1 = some (ty0 k)) (hnm : ∀ a, a < N → ∀ b, b < N → a ≠ b → (T a).2.1 ≠ (T b).2.1) (k : Nat) (hk : k < N) {index : Nat} (hlink : Cond.fieldLink own index (T k).1 (T k).2.1 (T k).2.2.1 ∈ nn_B) (hfin : (T k).2.2.2 = false) {v : Value} (hn : narrow (ty0 k) v = v) (hfit : fits (ty0 k) v = true) (hl : k < fs.length) (hu : nn_U cy ad τ τ' i (.inr (ci, fs.set k v))) (hdg : decode cc pc = .ok (.putfield index, 3)) (kk : ∀ (H : Heap) (locs : List Loc), nn_W D cy ad A s.heap τ' H locs → W p l e R s m args below meth c H locs cells slots Q (F0 m (pc + 3) ls rest)) : W p l e R s m args below meth c H locs cells slots Q (F0 m pc ls (v :: .ref (ad i) :: rest)) := by
  refine va_put S.1 S.2.1 S.2.2.2.2 hin ty0 hty hnm S.2.2.2.1 hK.1 hw.1 hw.2.1 hw.2.2 i (nn_at hi he) hc k hk (S.2.2.2.2 _ hlink) (fun _ h => h) hfin (hty k hk) hn hfit hl hdg (fun H1 locs1 h1 h2 h3 => ?_)
  rw [nn_set hi hu] at h1 h2
  exact kk H1 locs1 ⟨h1, h2, h3⟩
theorem nn_ild (S : CallFix p m c cc nL s args nn_B own) (hK : nn_K D cy s) (hw : nn_W D cy ad A s.heap τ H locs) {i n : Nat} {f : Nat → Int32} (he : nn_ce cy ad τ i = .inl (cy 0, n, .inl f)) (hi : i < 150) {j : Int32} (hin : ¬ (j < 0 ∨ n ≤ j.toNatClampNeg)) (hdg : decode cc pc = .ok (.iaload, 1)) (kk : W p l e R s m args below meth c H locs cells slots Q (F0 m (pc + 1) ls (.int (f j.toNatClampNeg) :: rest))) : W p l e R s m args below meth c H locs cells slots Q (F0 m pc ls (.int j :: .ref (ad i) :: rest)) :=
  va_iald S.1 S.2.1 hK.1 hw.1 i 0 (nn_at hi he) rfl hin hdg kk
theorem nn_cld (S : CallFix p m c cc nL s args nn_B own) (hK : nn_K D cy s) (hw : nn_W D cy ad A s.heap τ H locs) {i n : Nat} {f : Nat → Int32} (he : nn_ce cy ad τ i = .inl (cy 1, n, .inl f)) (hi : i < 150) {j : Int32} (hin : ¬ (j < 0 ∨ n ≤ j.toNatClampNeg)) (hdg : decode cc pc = .ok (.caload, 1)) (kk : W p l e R s m args below meth c H locs cells slots Q (F0 m (pc + 1) ls (.int (f j.toNatClampNeg) :: rest))) : W p l e R s m args below meth c H locs cells slots Q (F0 m pc ls (.int j :: .ref (ad i) :: rest)) :=
  va_cald S.1 S.2.1 hK.1 hw.1 i 1 (nn_at hi he) rfl hin hdg kk
theorem nn_lld (S : CallFix p m c cc nL s args nn_B own) (hK : nn_K D cy s) (hw : nn_W D cy ad A s.heap τ H locs) {i n : Nat} {f : Nat → Int64} (he : nn_ce cy ad τ i = .inl (cy 2, n, .inr (.inl f))) (hi : i < 150) {j : Int32} (hin : ¬ (j < 0 ∨ n ≤ j.toNatClampNeg)) (hdg : decode cc pc = .ok (.laload, 1)) (kk : W p l e R s m args below meth c H locs cells slots Q (F0 m (pc + 1) ls (.long (f j.toNatClampNeg) :: rest))) : W p l e R s m args below meth c H locs cells slots Q (F0 m pc ls (.int j :: .ref (ad i) :: rest)) :=
  va_lald S.1 S.2.1 hK.1 hw.1 i 2 (nn_at hi he) rfl hin hdg kk
theorem nn_aldS (S : CallFix p m c cc nL s args nn_B own) (hK : nn_K D cy s) (hw : nn_W D cy ad A s.heap τ H locs) {j : Int32} (hin : ¬ (j < 0 ∨ 4 ≤ j.toNatClampNeg)) (hdg : decode cc pc = .ok (.aaload, 1)) (kk : W p l e R s m args below meth c H locs cells slots Q (F0 m (pc + 1) ls (.ref (ad (127+2*j.toNatClampNeg)) :: rest))) : W p l e R s m args below meth c H locs cells slots Q (F0 m pc ls (.int j :: .ref (ad 126) :: rest)) :=
  va_aldq S.1 S.2.1 hK.1 hw.1 126 3 (nn_at (by decide) (ce_O (k := 8) (by decide))) rfl hin hdg kk
theorem nn_aldV (S : CallFix p m c cc nL s args nn_B own) (hK : nn_K D cy s) (hw : nn_W D cy ad A s.heap τ H locs) {h : Nat} (hh : h < 2) {j : Int32} (hin : ¬ (j < 0 ∨ 8 ≤ j.toNatClampNeg)) (hdg : decode cc pc = .ok (.aaload, 1)) (kk : W p l e R s m args below meth c H locs cells slots Q (F0 m (pc + 1) ls (.ref (ad (6*(3+8*h+j.toNatClampNeg))) :: rest))) : W p l e R s m args below meth c H locs cells slots Q (F0 m pc ls (.int j :: .ref (ad (115+2*h)) :: rest)) := by
  have e : 115+2*h = 114+2*h+1 := by omega
  rw [e]
  exact va_aldq S.1 S.2.1 hK.1 hw.1 (114+2*h+1) 4 (nn_at (by omega) (ce_H hh (by decide))) rfl hin hdg kk
theorem nn_ist (S : CallFix p m c cc nL s args nn_B own) (hK : nn_K D cy s) (hw : nn_W D cy ad A s.heap τ H locs) {i n : Nat} {f : Nat → Int32} (he : nn_ce cy ad τ i = .inl (cy 0, n, .inl f)) (hi : i < 150) {j x : Int32} (hin : ¬ (j < 0 ∨ n ≤ j.toNatClampNeg)) (hu : nn_U cy ad τ τ' i (.inl (cy 0, n, .inl (upd f j.toNatClampNeg x)))) (hdg : decode cc pc = .ok (.iastore, 1)) (kk : ∀ (H : Heap) (locs : List Loc), nn_W D cy ad A s.heap τ' H locs → W p l e R s m args below meth c H locs cells slots Q (F0 m (pc + 1) ls rest)) : W p l e R s m args below meth c H locs cells slots Q (F0 m pc ls (.int x :: .int j :: .ref (ad i) :: rest)) := by
  refine va_iast S.1 S.2.1 hK.1 hw.1 hw.2.1 hw.2.2 i 0 (nn_at hi he) rfl hin hdg (fun H1 locs1 h1 h2 h3 => ?_)
  rw [nn_set hi hu] at h1 h2
  exact kk H1 locs1 ⟨h1, h2, h3⟩
theorem nn_cst (S : CallFix p m c cc nL s args nn_B own) (hK : nn_K D cy s) (hw : nn_W D cy ad A s.heap τ H locs) {i n : Nat} {f : Nat → Int32} (he : nn_ce cy ad τ i = .inl (cy 1, n, .inl f)) (hi : i < 150) {j x : Int32} (hin : ¬ (j < 0 ∨ n ≤ j.toNatClampNeg)) (hu : nn_U cy ad τ τ' i (.inl (cy 1, n, .inl (upd f j.toNatClampNeg (vp_nar .char x))))) (hdg : decode cc pc = .ok (.castore, 1)) (kk : ∀ (H : Heap) (locs : List Loc), nn_W D cy ad A s.heap τ' H locs → W p l e R s m args below meth c H locs cells slots Q (F0 m (pc + 1) ls rest)) : W p l e R s m args below meth c H locs cells slots Q (F0 m pc ls (.int x :: .int j :: .ref (ad i) :: rest)) := by
  refine va_cast S.1 S.2.1 hK.1 hw.1 hw.2.1 hw.2.2 i 1 (nn_at hi he) rfl hin hdg (fun H1 locs1 h1 h2 h3 => ?_)
  rw [nn_set hi hu] at h1 h2
  exact kk H1 locs1 ⟨h1, h2, h3⟩
theorem nn_lst (S : CallFix p m c cc nL s args nn_B own) (hK : nn_K D cy s) (hw : nn_W D cy ad A s.heap τ H locs) {i n : Nat} {f : Nat → Int64} (he : nn_ce cy ad τ i = .inl (cy 2, n, .inr (.inl f))) (hi : i < 150) {j : Int32} {x : Int64} (hin : ¬ (j < 0 ∨ n ≤ j.toNatClampNeg)) (hu : nn_U cy ad τ τ' i (.inl (cy 2, n, .inr (.inl (vp_updL f j.toNatClampNeg x))))) (hdg : decode cc pc = .ok (.lastore, 1)) (kk : ∀ (H : Heap) (locs : List Loc), nn_W D cy ad A s.heap τ' H locs → W p l e R s m args below meth c H locs cells slots Q (F0 m (pc + 1) ls rest)) : W p l e R s m args below meth c H locs cells slots Q (F0 m pc ls (.long x :: .int j :: .ref (ad i) :: rest)) := by
  refine va_last S.1 S.2.1 hK.1 hw.1 hw.2.1 hw.2.2 i 2 (nn_at hi he) rfl hin hdg (fun H1 locs1 h1 h2 h3 => ?_)
  rw [nn_set hi hu] at h1 h2
  exact kk H1 locs1 ⟨h1, h2, h3⟩
theorem nn_acI (S : CallFix p m c cc nL s args nn_B own) (hK : nn_K D cy s) (hw : nn_W D cy ad A s.heap τ H locs) {i0 i1 n0 n1 : Nat} {f g : Nat → Int32} (he0 : nn_ce cy ad τ i0 = .inl (cy 0, n0, .inl (f))) (hi0 : i0 < 150) (he1 : nn_ce cy ad τ i1 = .inl (cy 0, n1, .inl (g))) (hi1 : i1 < 150) {sp dp n : Int32} (h1 : ¬ sp < 0) (h2 : ¬ dp < 0) (h3 : ¬ n < 0) (h4 : sp.toNatClampNeg + n.toNatClampNeg ≤ n0) (h5 : dp.toNatClampNeg + n.toNatClampNeg ≤ n1) (hsz : ls.size = nL) (hf : 1 ≤ R.frames) (hl : (rest.map fun v => v.category).sum + (nativeFrameWords "java/lang/System" "arraycopy" 5 + 11) ≤ R.locals) (hu : nn_U cy ad τ τ' i1 (.inl (cy 0, n1, .inl (va_cpy f g sp.toNatClampNeg dp.toNatClampNeg n.toNatClampNeg)))) {index : Nat} (hlink : Cond.methodLink own index arraycopyName ∈ nn_B) (hdg : decode cc pc = .ok (.invokestatic index, 3)) (kk : ∀ (H : Heap) (locs : List Loc), nn_W D cy ad A s.heap τ' H locs → W p l e R s m args below meth c H locs cells slots Q (F0 m (pc + 3) ls rest)) : W p l e R s m args below meth c H locs cells slots Q (F0 m pc ls (.int n :: .int dp :: .ref (ad i1) :: .int sp :: .ref (ad i0) :: rest)) := by
  refine va_copyi S.1 S.2.1 (by rw [S.2.2.1, hsz]) S.2.2.2.1 (S.2.2.2.2 _ hlink) (S.2.2.2.2 _ tb_2_33) (S.2.2.2.2 _ tb_2_32) (S.2.2.2.2 _ tb_1_10) hK.1 hw.1 hw.2.1 hw.2.2 i0 i1 0 0 (nn_at hi0 he0) (nn_at hi1 he1) rfl rfl rfl h1 h2 h3 h4 h5 (fun _ _ => rfl) hf hl hdg (fun H1 locs1 h1 h2 h3 => ?_)
  rw [nn_set hi1 hu] at h1 h2
  exact kk H1 locs1 ⟨h1, h2, h3⟩
theorem nn_acL (S : CallFix p m c cc nL s args nn_B own) (hK : nn_K D cy s) (hw : nn_W D cy ad A s.heap τ H locs) {i0 i1 n0 n1 : Nat} {f g : Nat → Int64} (he0 : nn_ce cy ad τ i0 = .inl (cy 2, n0, .inr (.inl (f)))) (hi0 : i0 < 150) (he1 : nn_ce cy ad τ i1 = .inl (cy 2, n1, .inr (.inl (g)))) (hi1 : i1 < 150) {sp dp n : Int32} (h1 : ¬ sp < 0) (h2 : ¬ dp < 0) (h3 : ¬ n < 0) (h4 : sp.toNatClampNeg + n.toNatClampNeg ≤ n0) (h5 : dp.toNatClampNeg + n.toNatClampNeg ≤ n1) (hsz : ls.size = nL) (hf : 1 ≤ R.frames) (hl : (rest.map fun v => v.category).sum + (nativeFrameWords "java/lang/System" "arraycopy" 5 + 11) ≤ R.locals) (hu : nn_U cy ad τ τ' i1 (.inl (cy 2, n1, .inr (.inl (va_cpy f g sp.toNatClampNeg dp.toNatClampNeg n.toNatClampNeg))))) {index : Nat} (hlink : Cond.methodLink own index arraycopyName ∈ nn_B) (hdg : decode cc pc = .ok (.invokestatic index, 3)) (kk : ∀ (H : Heap) (locs : List Loc), nn_W D cy ad A s.heap τ' H locs → W p l e R s m args below meth c H locs cells slots Q (F0 m (pc + 3) ls rest)) : W p l e R s m args below meth c H locs cells slots Q (F0 m pc ls (.int n :: .int dp :: .ref (ad i1) :: .int sp :: .ref (ad i0) :: rest)) := by
  refine va_copyl S.1 S.2.1 (by rw [S.2.2.1, hsz]) S.2.2.2.1 (S.2.2.2.2 _ hlink) (S.2.2.2.2 _ tb_2_33) (S.2.2.2.2 _ tb_2_32) (S.2.2.2.2 _ tb_1_10) hK.1 hw.1 hw.2.1 hw.2.2 i0 i1 2 2 (nn_at hi0 he0) (nn_at hi1 he1) rfl rfl rfl h1 h2 h3 h4 h5 (fun _ _ => rfl) hf hl hdg (fun H1 locs1 h1 h2 h3 => ?_)
  rw [nn_set hi1 hu] at h1 h2
  exact kk H1 locs1 ⟨h1, h2, h3⟩
theorem nn_iret (S : CallFix p m c cc nL s args nn_B own) (hr : meth.sig.returnType = some .int) (hlk : meth.locks = false) (hw : nn_W D cy ad A s.heap τ H locs) {v r : Int32} (hv : v = r) (hτ : τ = τ') (hdg : decode cc pc = .ok (.ireturn, 1)) : W p l e R s m args below meth c H locs 0 0 (MQ below (nn_qi D cy ad A r τ') args s 0 0 A) (F0 m pc ls [.int v]) := by
  subst hv; subst hτ
  exact W.iret S.1 S.2.1 hr (fun t ht hW => ⟨⟨v, (), rfl, rfl, by show va_P D vwCl (nn_w cy ad τ) t.heap; rw [ht]; exact hw.1⟩, hw.2.2.F ht⟩) hw.2.2.2.2 hdg hlk
theorem nn_zret (S : CallFix p m c cc nL s args nn_B own) {ty : FieldType} (hr : meth.sig.returnType = some ty) (hlk : meth.locks = false) (hw : nn_W D cy ad A s.heap τ H locs) {v r : Int32} (hn : narrow ty (.int v) = .int v) (hv : v = r) (hτ : τ = τ') (hdg : decode cc pc = .ok (.ireturn, 1)) : W p l e R s m args below meth c H locs 0 0 (MQ below (nn_qi D cy ad A r τ') args s 0 0 A) (F0 m pc ls [.int v]) := by
  subst hv; subst hτ
  exact W.zret S.1 S.2.1 hr hn (fun t ht hW => ⟨⟨v, (), rfl, rfl, by show va_P D vwCl (nn_w cy ad τ) t.heap; rw [ht]; exact hw.1⟩, hw.2.2.F ht⟩) hw.2.2.2.2 hdg hlk
theorem nn_lret (S : CallFix p m c cc nL s args nn_B own) (hr : meth.sig.returnType = some .long) (hlk : meth.locks = false) (hw : nn_W D cy ad A s.heap τ H locs) {v r : Int64} (hv : v = r) (hτ : τ = τ') (hdg : decode cc pc = .ok (.lreturn, 1)) : W p l e R s m args below meth c H locs 0 0 (MQ below (nn_ql D cy ad A r τ') args s 0 0 A) (F0 m pc ls [.long v]) := by
  subst hv; subst hτ
  exact W.lret S.1 S.2.1 hr (fun t ht hW => ⟨⟨v, (), rfl, rfl, by show va_P D vwCl (nn_w cy ad τ) t.heap; rw [ht]; exact hw.1⟩, hw.2.2.F ht⟩) hw.2.2.2.2 hdg hlk
theorem nn_vret (S : CallFix p m c cc nL s args nn_B own) (hr : meth.sig.returnType = none) (hlk : meth.locks = false) (hw : nn_W D cy ad A s.heap τ H locs) (hτ : τ = τ') (hdg : decode cc pc = .ok (.return_, 1)) : W p l e R s m args below meth c H locs 0 0 (MQ below (nn_qv D cy ad A τ') args s 0 0 A) (F0 m pc ls []) := by
  subst hτ
  exact W.vret S.1 S.2.1 hr (fun t ht hW => ⟨⟨(), rfl, trivial, by show va_P D vwCl (nn_w cy ad τ) t.heap; rw [ht]; exact hw.1⟩, hw.2.2.F ht⟩) hw.2.2.2.2 hdg hlk
theorem nn_preS {av : List Value} (hK : nn_K D cy s) (hw : nn_W D cy ad A s.heap τ H locs) : PreS s H (va_Pc av (nn_Pre D cy ad A τ)) av := ⟨nn_blind, fun U hU hW => ⟨rfl, ⟨va_K.moved hW.alike hK.1, hK.2.warm hW⟩, by rw [hU]; exact hw.1, hw.2.1⟩⟩
theorem nn_preV {i ci : Nat} {fs As : List Value} {q : vw_C} {C : String} (hK : nn_K D cy s) (hw : nn_W D cy ad A s.heap τ H locs) (he : nn_ce cy ad τ i = .inr (ci, fs)) (hi : i < 150) (hc : vwCl[ci]? = some q) (hq : q.1 = C) : PreV s H C (ad i) (va_Pc (.ref (ad i) :: As) (nn_Pre D cy ad A τ)) As := ⟨nn_blind, by subst hq; exact va_recv hK.1 hw.1 hc (nn_at hi he), (nn_preS hK hw).2⟩
theorem nn_cwV {y : MethodName} {bytes : ByteArray} {maxL : Nat} {ret : Option FieldType} {n d index : Nat} (hts : ∀ w ∈ nn_B, w.before args s = true) (mv : nn_mV y bytes maxL ret n) (hlink : Cond.methodLink own index y ∈ nn_B) (hR : d + 1 ≤ R.frames ∧ 8 + (maxL + 11) + 100 * d ≤ R.locals) : CallW R s args own y.cls index y bytes maxL ret (nn_ws y bytes maxL ret) (nn_R d) 0 0 n :=
  ⟨callB_of n hts (nn_pay mv.2.2.2.1) rfl rfl rfl (hts _ mv.2.2.1) (hts _ hlink) mv.2.2.2.2 hR, hts _ mv.1, hts _ mv.2.1⟩
theorem nn_cwS {y : MethodName} {bytes : ByteArray} {maxL : Nat} {ret : Option FieldType} {n d index : Nat} (hts : ∀ w ∈ nn_B, w.before args s = true) (mv : nn_mS' y bytes maxL ret n) (hlink : Cond.methodLink own index y ∈ nn_B) (hR : d + 1 ≤ R.frames ∧ 8 + (maxL + 11) + 100 * d ≤ R.locals) : CallB R s args own index y bytes maxL ret (nn_ws y bytes maxL ret) (nn_R d) 0 0 n ∧ (Cond.static y).before args s = true :=
  ⟨callB_of n hts (nn_pay mv.2.2.1) rfl rfl rfl (hts _ mv.2.1) (hts _ hlink) mv.2.2.2 hR, hts _ mv.1⟩
theorem nn_cwN {y : MethodName} {bytes : ByteArray} {maxL : Nat} {ret : Option FieldType} {n d index : Nat} {host : String} (hts : ∀ w ∈ nn_B, w.before args s = true) (mv : nn_mS' y bytes maxL ret n) (hlink : va_Nw (.methodLinkNest own index y host) s) (hR : d + 1 ≤ R.frames ∧ 8 + (maxL + 11) + 100 * d ≤ R.locals) : va_CN R s args own index y host bytes maxL ret (nn_ws y bytes maxL ret) (nn_R d) 0 0 n ∧ (Cond.static y).before args s = true ∧ True :=
  ⟨va_cnB n hts (nn_pay mv.2.2.1) rfl rfl rfl hlink (hts _ mv.2.1) mv.2.2.2 hR, hts _ mv.1, trivial⟩
theorem nn_calliV (S : CallFix p m c cc nL s args nn_B own) {y : MethodName} {bytes : ByteArray} {maxL : Nat} {ret : Option FieldType} {n d index : Nat} {As : List Value} {r : Int32} {i ci : Nat} {fs : List Value} {q0 : vw_C} (he : nn_ce cy ad τ i = .inr (ci, fs)) (hi : i < 150) (hc : vwCl[ci]? = some q0) (hq : q0.1 = y.cls) (hM : nn_I l y (nn_ws y bytes maxL ret) (nn_R d) D cy ad A (.ref (ad i) :: As) τ r τ') (mv : nn_mV y bytes maxL ret n) (hlink : Cond.methodLink own index y ∈ nn_B) (hK : nn_K D cy s) (hw : nn_W D cy ad A s.heap τ H locs) (hR : d + 1 ≤ R.frames ∧ 8 + (maxL + 11) + 100 * d ≤ R.locals) (hcs : cells ≤ R.cells ∧ slots ≤ R.slots) (hn : As.length = n) (hsz : ls.size = nL) (hst : st = As.reverse ++ .ref (ad i) :: rest) (hW : (rest.map fun v => v.category).sum ≤ 8) (hdg : decode cc pc = .ok (.invokevirtual index, 3)) (kk : ∀ (H : Heap) (locs : List Loc), nn_W D cy ad A s.heap τ' H locs → W p l e R s m args below meth c H locs cells slots Q (F0 m (pc + 3) ls (.int r :: rest))) : W p l e R s m args below meth c H locs cells slots Q (F0 m pc ls st) := by
  refine va_calli (va_runV (As := As) (rest := rest) S hM (nn_cwV S.2.2.2.2 mv hlink hR) (nn_preV hK hw he hi hc hq) rfl hn hsz hst (lv_room hW) hdg hcs) hw.2.2 (fun _ _ h => h) (fun _ h => h) (fun q u t H1 locs1 ht hvm hp hB hz hk hS => ?_)
  subst hp
  rw [ht] at hB
  exact kk H1 locs1 ⟨hB, nn_D hw.2.1, hS⟩
theorem nn_calliS (S : CallFix p m c cc nL s args nn_B own) {y : MethodName} {bytes : ByteArray} {maxL : Nat} {ret : Option FieldType} {n d index : Nat} {As : List Value} {r : Int32} (hM : nn_I l y (nn_ws y bytes maxL ret) (nn_R d) D cy ad A As τ r τ') (mv : nn_mS' y bytes maxL ret n) (hlink : Cond.methodLink own index y ∈ nn_B) (hK : nn_K D cy s) (hw : nn_W D cy ad A s.heap τ H locs) (hR : d + 1 ≤ R.frames ∧ 8 + (maxL + 11) + 100 * d ≤ R.locals) (hcs : cells ≤ R.cells ∧ slots ≤ R.slots) (hn : As.length = n) (hsz : ls.size = nL) (hst : st = As.reverse ++ rest) (hW : (rest.map fun v => v.category).sum ≤ 8) (hdg : decode cc pc = .ok (.invokestatic index, 3)) (kk : ∀ (H : Heap) (locs : List Loc), nn_W D cy ad A s.heap τ' H locs → W p l e R s m args below meth c H locs cells slots Q (F0 m (pc + 3) ls (.int r :: rest))) : W p l e R s m args below meth c H locs cells slots Q (F0 m pc ls st) := by
  refine va_calli (va_runS (As := As) (rest := rest) S hM (nn_cwS S.2.2.2.2 mv hlink hR) (nn_preS hK hw) rfl hn hsz hst (lv_room hW) hdg hcs) hw.2.2 (fun _ _ h => h) (fun _ h => h) (fun q u t H1 locs1 ht hvm hp hB hz hk hS => ?_)
  subst hp
  rw [ht] at hB
  exact kk H1 locs1 ⟨hB, nn_D hw.2.1, hS⟩
theorem nn_calliN (S : CallFix p m c cc nL s args nn_B own) {y : MethodName} {bytes : ByteArray} {maxL : Nat} {ret : Option FieldType} {n d index : Nat} {host : String} {As : List Value} {r : Int32} (hM : nn_I l y (nn_ws y bytes maxL ret) (nn_R d) D cy ad A As τ r τ') (mv : nn_mS' y bytes maxL ret n) (hlink : va_Nw (.methodLinkNest own index y host) s) (hK : nn_K D cy s) (hw : nn_W D cy ad A s.heap τ H locs) (hR : d + 1 ≤ R.frames ∧ 8 + (maxL + 11) + 100 * d ≤ R.locals) (hcs : cells ≤ R.cells ∧ slots ≤ R.slots) (hn : As.length = n) (hsz : ls.size = nL) (hst : st = As.reverse ++ rest) (hW : (rest.map fun v => v.category).sum ≤ 8) (hdg : decode cc pc = .ok (.invokestatic index, 3)) (kk : ∀ (H : Heap) (locs : List Loc), nn_W D cy ad A s.heap τ' H locs → W p l e R s m args below meth c H locs cells slots Q (F0 m (pc + 3) ls (.int r :: rest))) : W p l e R s m args below meth c H locs cells slots Q (F0 m pc ls st) := by
  refine va_calli (va_runSN (As := As) (rest := rest) S hM (nn_cwN S.2.2.2.2 mv hlink hR) (nn_preS hK hw) rfl hn hsz hst (lv_room hW) hdg hcs) hw.2.2 (fun _ _ h => h) (fun _ h => h) (fun q u t H1 locs1 ht hvm hp hB hz hk hS => ?_)
  subst hp
  rw [ht] at hB
  exact kk H1 locs1 ⟨hB, nn_D hw.2.1, hS⟩
theorem nn_calllV (S : CallFix p m c cc nL s args nn_B own) {y : MethodName} {bytes : ByteArray} {maxL : Nat} {ret : Option FieldType} {n d index : Nat} {As : List Value} {r : Int64} {i ci : Nat} {fs : List Value} {q0 : vw_C} (he : nn_ce cy ad τ i = .inr (ci, fs)) (hi : i < 150) (hc : vwCl[ci]? = some q0) (hq : q0.1 = y.cls) (hM : nn_J l y (nn_ws y bytes maxL ret) (nn_R d) D cy ad A (.ref (ad i) :: As) τ r τ') (mv : nn_mV y bytes maxL ret n) (hlink : Cond.methodLink own index y ∈ nn_B) (hK : nn_K D cy s) (hw : nn_W D cy ad A s.heap τ H locs) (hR : d + 1 ≤ R.frames ∧ 8 + (maxL + 11) + 100 * d ≤ R.locals) (hcs : cells ≤ R.cells ∧ slots ≤ R.slots) (hn : As.length = n) (hsz : ls.size = nL) (hst : st = As.reverse ++ .ref (ad i) :: rest) (hW : (rest.map fun v => v.category).sum ≤ 8) (hdg : decode cc pc = .ok (.invokevirtual index, 3)) (kk : ∀ (H : Heap) (locs : List Loc), nn_W D cy ad A s.heap τ' H locs → W p l e R s m args below meth c H locs cells slots Q (F0 m (pc + 3) ls (.long r :: rest))) : W p l e R s m args below meth c H locs cells slots Q (F0 m pc ls st) := by
  refine va_calll (va_runV (As := As) (rest := rest) S hM (nn_cwV S.2.2.2.2 mv hlink hR) (nn_preV hK hw he hi hc hq) rfl hn hsz hst (lv_room hW) hdg hcs) hw.2.2 (fun _ _ h => h) (fun _ h => h) (fun q u t H1 locs1 ht hvm hp hB hz hk hS => ?_)
  subst hp
  rw [ht] at hB
  exact kk H1 locs1 ⟨hB, nn_D hw.2.1, hS⟩
theorem nn_calllS (S : CallFix p m c cc nL s args nn_B own) {y : MethodName} {bytes : ByteArray} {maxL : Nat} {ret : Option FieldType} {n d index : Nat} {As : List Value} {r : Int64} (hM : nn_J l y (nn_ws y bytes maxL ret) (nn_R d) D cy ad A As τ r τ') (mv : nn_mS' y bytes maxL ret n) (hlink : Cond.methodLink own index y ∈ nn_B) (hK : nn_K D cy s) (hw : nn_W D cy ad A s.heap τ H locs) (hR : d + 1 ≤ R.frames ∧ 8 + (maxL + 11) + 100 * d ≤ R.locals) (hcs : cells ≤ R.cells ∧ slots ≤ R.slots) (hn : As.length = n) (hsz : ls.size = nL) (hst : st = As.reverse ++ rest) (hW : (rest.map fun v => v.category).sum ≤ 8) (hdg : decode cc pc = .ok (.invokestatic index, 3)) (kk : ∀ (H : Heap) (locs : List Loc), nn_W D cy ad A s.heap τ' H locs → W p l e R s m args below meth c H locs cells slots Q (F0 m (pc + 3) ls (.long r :: rest))) : W p l e R s m args below meth c H locs cells slots Q (F0 m pc ls st) := by
  refine va_calll (va_runS (As := As) (rest := rest) S hM (nn_cwS S.2.2.2.2 mv hlink hR) (nn_preS hK hw) rfl hn hsz hst (lv_room hW) hdg hcs) hw.2.2 (fun _ _ h => h) (fun _ h => h) (fun q u t H1 locs1 ht hvm hp hB hz hk hS => ?_)
  subst hp
  rw [ht] at hB
  exact kk H1 locs1 ⟨hB, nn_D hw.2.1, hS⟩
theorem nn_calllN (S : CallFix p m c cc nL s args nn_B own) {y : MethodName} {bytes : ByteArray} {maxL : Nat} {ret : Option FieldType} {n d index : Nat} {host : String} {As : List Value} {r : Int64} (hM : nn_J l y (nn_ws y bytes maxL ret) (nn_R d) D cy ad A As τ r τ') (mv : nn_mS' y bytes maxL ret n) (hlink : va_Nw (.methodLinkNest own index y host) s) (hK : nn_K D cy s) (hw : nn_W D cy ad A s.heap τ H locs) (hR : d + 1 ≤ R.frames ∧ 8 + (maxL + 11) + 100 * d ≤ R.locals) (hcs : cells ≤ R.cells ∧ slots ≤ R.slots) (hn : As.length = n) (hsz : ls.size = nL) (hst : st = As.reverse ++ rest) (hW : (rest.map fun v => v.category).sum ≤ 8) (hdg : decode cc pc = .ok (.invokestatic index, 3)) (kk : ∀ (H : Heap) (locs : List Loc), nn_W D cy ad A s.heap τ' H locs → W p l e R s m args below meth c H locs cells slots Q (F0 m (pc + 3) ls (.long r :: rest))) : W p l e R s m args below meth c H locs cells slots Q (F0 m pc ls st) := by
  refine va_calll (va_runSN (As := As) (rest := rest) S hM (nn_cwN S.2.2.2.2 mv hlink hR) (nn_preS hK hw) rfl hn hsz hst (lv_room hW) hdg hcs) hw.2.2 (fun _ _ h => h) (fun _ h => h) (fun q u t H1 locs1 ht hvm hp hB hz hk hS => ?_)
  subst hp
  rw [ht] at hB
  exact kk H1 locs1 ⟨hB, nn_D hw.2.1, hS⟩
theorem nn_callvV (S : CallFix p m c cc nL s args nn_B own) {y : MethodName} {bytes : ByteArray} {maxL : Nat} {ret : Option FieldType} {n d index : Nat} {As : List Value}  {i ci : Nat} {fs : List Value} {q0 : vw_C} (he : nn_ce cy ad τ i = .inr (ci, fs)) (hi : i < 150) (hc : vwCl[ci]? = some q0) (hq : q0.1 = y.cls) (hM : nn_V l y (nn_ws y bytes maxL ret) (nn_R d) D cy ad A (.ref (ad i) :: As) τ τ') (mv : nn_mV y bytes maxL ret n) (hlink : Cond.methodLink own index y ∈ nn_B) (hK : nn_K D cy s) (hw : nn_W D cy ad A s.heap τ H locs) (hR : d + 1 ≤ R.frames ∧ 8 + (maxL + 11) + 100 * d ≤ R.locals) (hcs : cells ≤ R.cells ∧ slots ≤ R.slots) (hn : As.length = n) (hsz : ls.size = nL) (hst : st = As.reverse ++ .ref (ad i) :: rest) (hW : (rest.map fun v => v.category).sum ≤ 8) (hdg : decode cc pc = .ok (.invokevirtual index, 3)) (kk : ∀ (H : Heap) (locs : List Loc), nn_W D cy ad A s.heap τ' H locs → W p l e R s m args below meth c H locs cells slots Q (F0 m (pc + 3) ls rest)) : W p l e R s m args below meth c H locs cells slots Q (F0 m pc ls st) := by
  refine va_callv (va_runV (As := As) (rest := rest) S hM (nn_cwV S.2.2.2.2 mv hlink hR) (nn_preV hK hw he hi hc hq) rfl hn hsz hst (lv_room hW) hdg hcs) hw.2.2 (fun _ _ h => h) (fun _ h => h) (fun u t H1 locs1 ht hvm hp hB hz hk hS => ?_)
  rw [ht] at hB
  exact kk H1 locs1 ⟨hB, nn_D hw.2.1, hS⟩
theorem nn_callvS (S : CallFix p m c cc nL s args nn_B own) {y : MethodName} {bytes : ByteArray} {maxL : Nat} {ret : Option FieldType} {n d index : Nat} {As : List Value}  (hM : nn_V l y (nn_ws y bytes maxL ret) (nn_R d) D cy ad A As τ τ') (mv : nn_mS' y bytes maxL ret n) (hlink : Cond.methodLink own index y ∈ nn_B) (hK : nn_K D cy s) (hw : nn_W D cy ad A s.heap τ H locs) (hR : d + 1 ≤ R.frames ∧ 8 + (maxL + 11) + 100 * d ≤ R.locals) (hcs : cells ≤ R.cells ∧ slots ≤ R.slots) (hn : As.length = n) (hsz : ls.size = nL) (hst : st = As.reverse ++ rest) (hW : (rest.map fun v => v.category).sum ≤ 8) (hdg : decode cc pc = .ok (.invokestatic index, 3)) (kk : ∀ (H : Heap) (locs : List Loc), nn_W D cy ad A s.heap τ' H locs → W p l e R s m args below meth c H locs cells slots Q (F0 m (pc + 3) ls rest)) : W p l e R s m args below meth c H locs cells slots Q (F0 m pc ls st) := by
  refine va_callv (va_runS (As := As) (rest := rest) S hM (nn_cwS S.2.2.2.2 mv hlink hR) (nn_preS hK hw) rfl hn hsz hst (lv_room hW) hdg hcs) hw.2.2 (fun _ _ h => h) (fun _ h => h) (fun u t H1 locs1 ht hvm hp hB hz hk hS => ?_)
  rw [ht] at hB
  exact kk H1 locs1 ⟨hB, nn_D hw.2.1, hS⟩
theorem nn_callvN (S : CallFix p m c cc nL s args nn_B own) {y : MethodName} {bytes : ByteArray} {maxL : Nat} {ret : Option FieldType} {n d index : Nat} {host : String} {As : List Value}  (hM : nn_V l y (nn_ws y bytes maxL ret) (nn_R d) D cy ad A As τ τ') (mv : nn_mS' y bytes maxL ret n) (hlink : va_Nw (.methodLinkNest own index y host) s) (hK : nn_K D cy s) (hw : nn_W D cy ad A s.heap τ H locs) (hR : d + 1 ≤ R.frames ∧ 8 + (maxL + 11) + 100 * d ≤ R.locals) (hcs : cells ≤ R.cells ∧ slots ≤ R.slots) (hn : As.length = n) (hsz : ls.size = nL) (hst : st = As.reverse ++ rest) (hW : (rest.map fun v => v.category).sum ≤ 8) (hdg : decode cc pc = .ok (.invokestatic index, 3)) (kk : ∀ (H : Heap) (locs : List Loc), nn_W D cy ad A s.heap τ' H locs → W p l e R s m args below meth c H locs cells slots Q (F0 m (pc + 3) ls rest)) : W p l e R s m args below meth c H locs cells slots Q (F0 m pc ls st) := by
  refine va_callv (va_runSN (As := As) (rest := rest) S hM (nn_cwN S.2.2.2.2 mv hlink hR) (nn_preS hK hw) rfl hn hsz hst (lv_room hW) hdg hcs) hw.2.2 (fun _ _ h => h) (fun _ h => h) (fun u t H1 locs1 ht hvm hp hB hz hk hS => ?_)
  rw [ht] at hB
  exact kk H1 locs1 ⟨hB, nn_D hw.2.1, hS⟩
theorem gf_Vl_kinds (S : CallFix p m c cc nL s args nn_B own) (hK : nn_K D cy s) (hw : nn_W D cy ad A s.heap τ H locs) {v : Nat} (hv : v < 19) {index : Nat} (hlink : Cond.fieldLink own index "NineNoons$Valley" "kinds" "[I" ∈ nn_B) (hdg : decode cc pc = .ok (.getfield index, 3)) (kk : W p l e R s m args below meth c H locs cells slots Q (F0 m (pc + 3) ls (.ref (ad (6*v+1)) :: rest))) : W p l e R s m args below meth c H locs cells slots Q (F0 m pc ls (.ref (ad (6*v)) :: rest)) := nn_get S hK hw (ce_V (k := 0) hv (by decide)) (by omega) rfl nnin5 0 (by decide) hlink rfl hdg kk
theorem gf_Vl_minutes (S : CallFix p m c cc nL s args nn_B own) (hK : nn_K D cy s) (hw : nn_W D cy ad A s.heap τ H locs) {v : Nat} (hv : v < 19) {index : Nat} (hlink : Cond.fieldLink own index "NineNoons$Valley" "minutes" "[I" ∈ nn_B) (hdg : decode cc pc = .ok (.getfield index, 3)) (kk : W p l e R s m args below meth c H locs cells slots Q (F0 m (pc + 3) ls (.ref (ad (6*v+2)) :: rest))) : W p l e R s m args below meth c H locs cells slots Q (F0 m pc ls (.ref (ad (6*v)) :: rest)) := nn_get S hK hw (ce_V (k := 0) hv (by decide)) (by omega) rfl nnin5 1 (by decide) hlink rfl hdg kk
theorem gf_Vl_drifts (S : CallFix p m c cc nL s args nn_B own) (hK : nn_K D cy s) (hw : nn_W D cy ad A s.heap τ H locs) {v : Nat} (hv : v < 19) {index : Nat} (hlink : Cond.fieldLink own index "NineNoons$Valley" "drifts" "[I" ∈ nn_B) (hdg : decode cc pc = .ok (.getfield index, 3)) (kk : W p l e R s m args below meth c H locs cells slots Q (F0 m (pc + 3) ls (.ref (ad (6*v+3)) :: rest))) : W p l e R s m args below meth c H locs cells slots Q (F0 m pc ls (.ref (ad (6*v)) :: rest)) := nn_get S hK hw (ce_V (k := 0) hv (by decide)) (by omega) rfl nnin5 2 (by decide) hlink rfl hdg kk
theorem gf_Vl_miles (S : CallFix p m c cc nL s args nn_B own) (hK : nn_K D cy s) (hw : nn_W D cy ad A s.heap τ H locs) {v : Nat} (hv : v < 19) {index : Nat} (hlink : Cond.fieldLink own index "NineNoons$Valley" "miles" "[I" ∈ nn_B) (hdg : decode cc pc = .ok (.getfield index, 3)) (kk : W p l e R s m args below meth c H locs cells slots Q (F0 m (pc + 3) ls (.ref (ad (6*v+4)) :: rest))) : W p l e R s m args below meth c H locs cells slots Q (F0 m pc ls (.ref (ad (6*v)) :: rest)) := nn_get S hK hw (ce_V (k := 0) hv (by decide)) (by omega) rfl nnin5 3 (by decide) hlink rfl hdg kk
theorem gf_Vl_shifts (S : CallFix p m c cc nL s args nn_B own) (hK : nn_K D cy s) (hw : nn_W D cy ad A s.heap τ H locs) {v : Nat} (hv : v < 19) {index : Nat} (hlink : Cond.fieldLink own index "NineNoons$Valley" "shifts" "[I" ∈ nn_B) (hdg : decode cc pc = .ok (.getfield index, 3)) (kk : W p l e R s m args below meth c H locs cells slots Q (F0 m (pc + 3) ls (.ref (ad (6*v+5)) :: rest))) : W p l e R s m args below meth c H locs cells slots Q (F0 m pc ls (.ref (ad (6*v)) :: rest)) := nn_get S hK hw (ce_V (k := 0) hv (by decide)) (by omega) rfl nnin5 4 (by decide) hlink rfl hdg kk
theorem gf_Vl_villages (S : CallFix p m c cc nL s args nn_B own) (hK : nn_K D cy s) (hw : nn_W D cy ad A s.heap τ H locs) {v : Nat} (hv : v < 19) {x : nVl} (hx : gV τ v = x) {index : Nat} (hlink : Cond.fieldLink own index "NineNoons$Valley" "villages" "I" ∈ nn_B) (hdg : decode cc pc = .ok (.getfield index, 3)) (kk : W p l e R s m args below meth c H locs cells slots Q (F0 m (pc + 3) ls (.int (g_Vl_villages x) :: rest))) : W p l e R s m args below meth c H locs cells slots Q (F0 m pc ls (.ref (ad (6*v)) :: rest)) := by
  subst hx
  exact nn_get S hK hw (ce_V (k := 0) hv (by decide)) (by omega) rfl nnin5 5 (by decide) hlink rfl hdg kk
theorem pf_Vl_villages (S : CallFix p m c cc nL s args nn_B own) (hK : nn_K D cy s) (hw : nn_W D cy ad A s.heap τ H locs) {v : Nat} (hv : v < 19) {x : nVl} (hx : gV τ v = x) {y : Int32} (hτ : sV τ v (s_Vl_villages x y) = τ') {index : Nat} (hlink : Cond.fieldLink own index "NineNoons$Valley" "villages" "I" ∈ nn_B) (hdg : decode cc pc = .ok (.putfield index, 3)) (kk : ∀ (H : Heap) (locs : List Loc), nn_W D cy ad A s.heap τ' H locs → W p l e R s m args below meth c H locs cells slots Q (F0 m (pc + 3) ls rest)) : W p l e R s m args below meth c H locs cells slots Q (F0 m pc ls (.int y :: .ref (ad (6*v)) :: rest)) := by
  subst hx; subst hτ
  exact nn_put S hK hw (ce_V (k := 0) hv (by decide)) (by omega) rfl nnin5 tyX5 tyX5_ok nmX5 5 (by decide) hlink rfl rfl rfl (Nat.le_of_ble_eq_true rfl) (un_V (k := 0) hv (by decide) (fun j hj hne => by rcases j with _ | _ | _ | _ | _ | _ | j <;> first | rfl | exact absurd rfl hne | omega)) hdg kk
theorem gf_Vl_day (S : CallFix p m c cc nL s args nn_B own) (hK : nn_K D cy s) (hw : nn_W D cy ad A s.heap τ H locs) {v : Nat} (hv : v < 19) {x : nVl} (hx : gV τ v = x) {index : Nat} (hlink : Cond.fieldLink own index "NineNoons$Valley" "day" "I" ∈ nn_B) (hdg : decode cc pc = .ok (.getfield index, 3)) (kk : W p l e R s m args below meth c H locs cells slots Q (F0 m (pc + 3) ls (.int (g_Vl_day x) :: rest))) : W p l e R s m args below meth c H locs cells slots Q (F0 m pc ls (.ref (ad (6*v)) :: rest)) := by
  subst hx
  exact nn_get S hK hw (ce_V (k := 0) hv (by decide)) (by omega) rfl nnin5 6 (by decide) hlink rfl hdg kk
theorem pf_Vl_day (S : CallFix p m c cc nL s args nn_B own) (hK : nn_K D cy s) (hw : nn_W D cy ad A s.heap τ H locs) {v : Nat} (hv : v < 19) {x : nVl} (hx : gV τ v = x) {y : Int32} (hτ : sV τ v (s_Vl_day x y) = τ') {index : Nat} (hlink : Cond.fieldLink own index "NineNoons$Valley" "day" "I" ∈ nn_B) (hdg : decode cc pc = .ok (.putfield index, 3)) (kk : ∀ (H : Heap) (locs : List Loc), nn_W D cy ad A s.heap τ' H locs → W p l e R s m args below meth c H locs cells slots Q (F0 m (pc + 3) ls rest)) : W p l e R s m args below meth c H locs cells slots Q (F0 m pc ls (.int y :: .ref (ad (6*v)) :: rest)) := by
  subst hx; subst hτ
  exact nn_put S hK hw (ce_V (k := 0) hv (by decide)) (by omega) rfl nnin5 tyX5 tyX5_ok nmX5 6 (by decide) hlink rfl rfl rfl (Nat.le_of_ble_eq_true rfl) (un_V (k := 0) hv (by decide) (fun j hj hne => by rcases j with _ | _ | _ | _ | _ | _ | j <;> first | rfl | exact absurd rfl hne | omega)) hdg kk
theorem gf_Vl_draw (S : CallFix p m c cc nL s args nn_B own) (hK : nn_K D cy s) (hw : nn_W D cy ad A s.heap τ H locs) {v : Nat} (hv : v < 19) {x : nVl} (hx : gV τ v = x) {index : Nat} (hlink : Cond.fieldLink own index "NineNoons$Valley" "draw" "I" ∈ nn_B) (hdg : decode cc pc = .ok (.getfield index, 3)) (kk : W p l e R s m args below meth c H locs cells slots Q (F0 m (pc + 3) ls (.int (g_Vl_draw x) :: rest))) : W p l e R s m args below meth c H locs cells slots Q (F0 m pc ls (.ref (ad (6*v)) :: rest)) := by
  subst hx
  exact nn_get S hK hw (ce_V (k := 0) hv (by decide)) (by omega) rfl nnin5 7 (by decide) hlink rfl hdg kk
theorem pf_Vl_draw (S : CallFix p m c cc nL s args nn_B own) (hK : nn_K D cy s) (hw : nn_W D cy ad A s.heap τ H locs) {v : Nat} (hv : v < 19) {x : nVl} (hx : gV τ v = x) {y : Int32} (hτ : sV τ v (s_Vl_draw x y) = τ') {index : Nat} (hlink : Cond.fieldLink own index "NineNoons$Valley" "draw" "I" ∈ nn_B) (hdg : decode cc pc = .ok (.putfield index, 3)) (kk : ∀ (H : Heap) (locs : List Loc), nn_W D cy ad A s.heap τ' H locs → W p l e R s m args below meth c H locs cells slots Q (F0 m (pc + 3) ls rest)) : W p l e R s m args below meth c H locs cells slots Q (F0 m pc ls (.int y :: .ref (ad (6*v)) :: rest)) := by
  subst hx; subst hτ
  exact nn_put S hK hw (ce_V (k := 0) hv (by decide)) (by omega) rfl nnin5 tyX5 tyX5_ok nmX5 7 (by decide) hlink rfl rfl rfl (Nat.le_of_ble_eq_true rfl) (un_V (k := 0) hv (by decide) (fun j hj hne => by rcases j with _ | _ | _ | _ | _ | _ | j <;> first | rfl | exact absurd rfl hne | omega)) hdg kk
theorem gf_Hi_past (S : CallFix p m c cc nL s args nn_B own) (hK : nn_K D cy s) (hw : nn_W D cy ad A s.heap τ H locs) {v : Nat} (hv : v < 2) {index : Nat} (hlink : Cond.fieldLink own index "NineNoons$History" "past" "[LNineNoons$Valley;" ∈ nn_B) (hdg : decode cc pc = .ok (.getfield index, 3)) (kk : W p l e R s m args below meth c H locs cells slots Q (F0 m (pc + 3) ls (.ref (ad (115+2*v)) :: rest))) : W p l e R s m args below meth c H locs cells slots Q (F0 m pc ls (.ref (ad (114+2*v)) :: rest)) := nn_get S hK hw (ce_H (k := 0) hv (by decide)) (by omega) rfl nnin1 0 (by decide) hlink rfl hdg kk
theorem gf_Hi_next (S : CallFix p m c cc nL s args nn_B own) (hK : nn_K D cy s) (hw : nn_W D cy ad A s.heap τ H locs) {v : Nat} (hv : v < 2) {x : nHi} (hx : gH τ v = x) {index : Nat} (hlink : Cond.fieldLink own index "NineNoons$History" "next" "I" ∈ nn_B) (hdg : decode cc pc = .ok (.getfield index, 3)) (kk : W p l e R s m args below meth c H locs cells slots Q (F0 m (pc + 3) ls (.int (g_Hi_next x) :: rest))) : W p l e R s m args below meth c H locs cells slots Q (F0 m pc ls (.ref (ad (114+2*v)) :: rest)) := by
  subst hx
  exact nn_get S hK hw (ce_H (k := 0) hv (by decide)) (by omega) rfl nnin1 1 (by decide) hlink rfl hdg kk
theorem pf_Hi_next (S : CallFix p m c cc nL s args nn_B own) (hK : nn_K D cy s) (hw : nn_W D cy ad A s.heap τ H locs) {v : Nat} (hv : v < 2) {x : nHi} (hx : gH τ v = x) {y : Int32} (hτ : sH τ v (s_Hi_next x y) = τ') {index : Nat} (hlink : Cond.fieldLink own index "NineNoons$History" "next" "I" ∈ nn_B) (hdg : decode cc pc = .ok (.putfield index, 3)) (kk : ∀ (H : Heap) (locs : List Loc), nn_W D cy ad A s.heap τ' H locs → W p l e R s m args below meth c H locs cells slots Q (F0 m (pc + 3) ls rest)) : W p l e R s m args below meth c H locs cells slots Q (F0 m pc ls (.int y :: .ref (ad (114+2*v)) :: rest)) := by
  subst hx; subst hτ
  exact nn_put S hK hw (ce_H (k := 0) hv (by decide)) (by omega) rfl nnin1 tyX1 tyX1_ok nmX1 1 (by decide) hlink rfl rfl rfl (Nat.le_of_ble_eq_true rfl) (un_H (k := 0) hv (by decide) (fun j hj hne => by rcases j with _ | _ | j <;> first | rfl | exact absurd rfl hne | omega)) hdg kk
theorem gf_Hi_known (S : CallFix p m c cc nL s args nn_B own) (hK : nn_K D cy s) (hw : nn_W D cy ad A s.heap τ H locs) {v : Nat} (hv : v < 2) {x : nHi} (hx : gH τ v = x) {index : Nat} (hlink : Cond.fieldLink own index "NineNoons$History" "known" "I" ∈ nn_B) (hdg : decode cc pc = .ok (.getfield index, 3)) (kk : W p l e R s m args below meth c H locs cells slots Q (F0 m (pc + 3) ls (.int (g_Hi_known x) :: rest))) : W p l e R s m args below meth c H locs cells slots Q (F0 m pc ls (.ref (ad (114+2*v)) :: rest)) := by
  subst hx
  exact nn_get S hK hw (ce_H (k := 0) hv (by decide)) (by omega) rfl nnin1 2 (by decide) hlink rfl hdg kk
theorem pf_Hi_known (S : CallFix p m c cc nL s args nn_B own) (hK : nn_K D cy s) (hw : nn_W D cy ad A s.heap τ H locs) {v : Nat} (hv : v < 2) {x : nHi} (hx : gH τ v = x) {y : Int32} (hτ : sH τ v (s_Hi_known x y) = τ') {index : Nat} (hlink : Cond.fieldLink own index "NineNoons$History" "known" "I" ∈ nn_B) (hdg : decode cc pc = .ok (.putfield index, 3)) (kk : ∀ (H : Heap) (locs : List Loc), nn_W D cy ad A s.heap τ' H locs → W p l e R s m args below meth c H locs cells slots Q (F0 m (pc + 3) ls rest)) : W p l e R s m args below meth c H locs cells slots Q (F0 m pc ls (.int y :: .ref (ad (114+2*v)) :: rest)) := by
  subst hx; subst hτ
  exact nn_put S hK hw (ce_H (k := 0) hv (by decide)) (by omega) rfl nnin1 tyX1 tyX1_ok nmX1 2 (by decide) hlink rfl rfl rfl (Nat.le_of_ble_eq_true rfl) (un_H (k := 0) hv (by decide) (fun j hj hne => by rcases j with _ | _ | j <;> first | rfl | exact absurd rfl hne | omega)) hdg kk
theorem gf_Sh_items (S : CallFix p m c cc nL s args nn_B own) (hK : nn_K D cy s) (hw : nn_W D cy ad A s.heap τ H locs) {v : Nat} (hv : v < 4) {index : Nat} (hlink : Cond.fieldLink own index "NineNoons$Sheet" "items" "[J" ∈ nn_B) (hdg : decode cc pc = .ok (.getfield index, 3)) (kk : W p l e R s m args below meth c H locs cells slots Q (F0 m (pc + 3) ls (.ref (ad (128+2*v)) :: rest))) : W p l e R s m args below meth c H locs cells slots Q (F0 m pc ls (.ref (ad (127+2*v)) :: rest)) := nn_get S hK hw (ce_S (k := 0) hv (by decide)) (by omega) rfl nnin3 0 (by decide) hlink rfl hdg kk
theorem gf_Sh_lane (S : CallFix p m c cc nL s args nn_B own) (hK : nn_K D cy s) (hw : nn_W D cy ad A s.heap τ H locs) {v : Nat} (hv : v < 4) {x : nSh} (hx : gSh τ v = x) {index : Nat} (hlink : Cond.fieldLink own index "NineNoons$Sheet" "lane" "I" ∈ nn_B) (hdg : decode cc pc = .ok (.getfield index, 3)) (kk : W p l e R s m args below meth c H locs cells slots Q (F0 m (pc + 3) ls (.int (g_Sh_lane x) :: rest))) : W p l e R s m args below meth c H locs cells slots Q (F0 m pc ls (.ref (ad (127+2*v)) :: rest)) := by
  subst hx
  exact nn_get S hK hw (ce_S (k := 0) hv (by decide)) (by omega) rfl nnin3 1 (by decide) hlink rfl hdg kk
theorem pf_Sh_lane (S : CallFix p m c cc nL s args nn_B own) (hK : nn_K D cy s) (hw : nn_W D cy ad A s.heap τ H locs) {v : Nat} (hv : v < 4) {x : nSh} (hx : gSh τ v = x) {y : Int32} (hτ : sSh τ v (s_Sh_lane x y) = τ') {index : Nat} (hlink : Cond.fieldLink own index "NineNoons$Sheet" "lane" "I" ∈ nn_B) (hdg : decode cc pc = .ok (.putfield index, 3)) (kk : ∀ (H : Heap) (locs : List Loc), nn_W D cy ad A s.heap τ' H locs → W p l e R s m args below meth c H locs cells slots Q (F0 m (pc + 3) ls rest)) : W p l e R s m args below meth c H locs cells slots Q (F0 m pc ls (.int y :: .ref (ad (127+2*v)) :: rest)) := by
  subst hx; subst hτ
  exact nn_put S hK hw (ce_S (k := 0) hv (by decide)) (by omega) rfl nnin3 tyX3 tyX3_ok nmX3 1 (by decide) hlink rfl rfl rfl (Nat.le_of_ble_eq_true rfl) (un_S (k := 0) hv (by decide) (fun j hj hne => by rcases j with _ | _ | j <;> first | rfl | exact absurd rfl hne | omega)) hdg kk
theorem gf_Sh_length (S : CallFix p m c cc nL s args nn_B own) (hK : nn_K D cy s) (hw : nn_W D cy ad A s.heap τ H locs) {v : Nat} (hv : v < 4) {x : nSh} (hx : gSh τ v = x) {index : Nat} (hlink : Cond.fieldLink own index "NineNoons$Sheet" "length" "I" ∈ nn_B) (hdg : decode cc pc = .ok (.getfield index, 3)) (kk : W p l e R s m args below meth c H locs cells slots Q (F0 m (pc + 3) ls (.int (g_Sh_length x) :: rest))) : W p l e R s m args below meth c H locs cells slots Q (F0 m pc ls (.ref (ad (127+2*v)) :: rest)) := by
  subst hx
  exact nn_get S hK hw (ce_S (k := 0) hv (by decide)) (by omega) rfl nnin3 2 (by decide) hlink rfl hdg kk
theorem pf_Sh_length (S : CallFix p m c cc nL s args nn_B own) (hK : nn_K D cy s) (hw : nn_W D cy ad A s.heap τ H locs) {v : Nat} (hv : v < 4) {x : nSh} (hx : gSh τ v = x) {y : Int32} (hτ : sSh τ v (s_Sh_length x y) = τ') {index : Nat} (hlink : Cond.fieldLink own index "NineNoons$Sheet" "length" "I" ∈ nn_B) (hdg : decode cc pc = .ok (.putfield index, 3)) (kk : ∀ (H : Heap) (locs : List Loc), nn_W D cy ad A s.heap τ' H locs → W p l e R s m args below meth c H locs cells slots Q (F0 m (pc + 3) ls rest)) : W p l e R s m args below meth c H locs cells slots Q (F0 m pc ls (.int y :: .ref (ad (127+2*v)) :: rest)) := by
  subst hx; subst hτ
  exact nn_put S hK hw (ce_S (k := 0) hv (by decide)) (by omega) rfl nnin3 tyX3 tyX3_ok nmX3 2 (by decide) hlink rfl rfl rfl (Nat.le_of_ble_eq_true rfl) (un_S (k := 0) hv (by decide) (fun j hj hne => by rcases j with _ | _ | j <;> first | rfl | exact absurd rfl hne | omega)) hdg kk
theorem gf_Ca_order (S : CallFix p m c cc nL s args nn_B own) (hK : nn_K D cy s) (hw : nn_W D cy ad A s.heap τ H locs) {index : Nat} (hlink : Cond.fieldLink own index "NineNoons$Carrier" "order" "[I" ∈ nn_B) (hdg : decode cc pc = .ok (.getfield index, 3)) (kk : W p l e R s m args below meth c H locs cells slots Q (F0 m (pc + 3) ls (.ref (ad (122)) :: rest))) : W p l e R s m args below meth c H locs cells slots Q (F0 m pc ls (.ref (ad (121)) :: rest)) := nn_get S hK hw (ce_O (k := 3) (by decide)) (by decide) rfl nnin0 0 (by decide) hlink rfl hdg kk
theorem gf_Ca_bestOrder (S : CallFix p m c cc nL s args nn_B own) (hK : nn_K D cy s) (hw : nn_W D cy ad A s.heap τ H locs) {index : Nat} (hlink : Cond.fieldLink own index "NineNoons$Carrier" "bestOrder" "[I" ∈ nn_B) (hdg : decode cc pc = .ok (.getfield index, 3)) (kk : W p l e R s m args below meth c H locs cells slots Q (F0 m (pc + 3) ls (.ref (ad (123)) :: rest))) : W p l e R s m args below meth c H locs cells slots Q (F0 m pc ls (.ref (ad (121)) :: rest)) := nn_get S hK hw (ce_O (k := 3) (by decide)) (by decide) rfl nnin0 1 (by decide) hlink rfl hdg kk
theorem gf_Ca_bestTime (S : CallFix p m c cc nL s args nn_B own) (hK : nn_K D cy s) (hw : nn_W D cy ad A s.heap τ H locs) {x : nCa} (hx : gCa τ = x) {index : Nat} (hlink : Cond.fieldLink own index "NineNoons$Carrier" "bestTime" "I" ∈ nn_B) (hdg : decode cc pc = .ok (.getfield index, 3)) (kk : W p l e R s m args below meth c H locs cells slots Q (F0 m (pc + 3) ls (.int (g_Ca_bestTime x) :: rest))) : W p l e R s m args below meth c H locs cells slots Q (F0 m pc ls (.ref (ad (121)) :: rest)) := by
  subst hx
  exact nn_get S hK hw (ce_O (k := 3) (by decide)) (by decide) rfl nnin0 2 (by decide) hlink rfl hdg kk
theorem pf_Ca_bestTime (S : CallFix p m c cc nL s args nn_B own) (hK : nn_K D cy s) (hw : nn_W D cy ad A s.heap τ H locs) {x : nCa} (hx : gCa τ = x) {y : Int32} (hτ : sCa τ (s_Ca_bestTime x y) = τ') {index : Nat} (hlink : Cond.fieldLink own index "NineNoons$Carrier" "bestTime" "I" ∈ nn_B) (hdg : decode cc pc = .ok (.putfield index, 3)) (kk : ∀ (H : Heap) (locs : List Loc), nn_W D cy ad A s.heap τ' H locs → W p l e R s m args below meth c H locs cells slots Q (F0 m (pc + 3) ls rest)) : W p l e R s m args below meth c H locs cells slots Q (F0 m pc ls (.int y :: .ref (ad (121)) :: rest)) := by
  subst hx; subst hτ
  exact nn_put S hK hw (ce_O (k := 3) (by decide)) (by decide) rfl nnin0 tyX0 tyX0_ok nmX0 2 (by decide) hlink rfl rfl rfl (Nat.le_of_ble_eq_true rfl) (un_O (k := 3) (by decide) (by rfl) (by rfl) (by rfl) (by rfl) (fun j hj hne => by rcases j with _ | _ | _ | _ | _ | _ | _ | _ | _ | j <;> first | rfl | exact absurd rfl hne | omega)) hdg kk
theorem gf_Ca_minutesAMile (S : CallFix p m c cc nL s args nn_B own) (hK : nn_K D cy s) (hw : nn_W D cy ad A s.heap τ H locs) {x : nCa} (hx : gCa τ = x) {index : Nat} (hlink : Cond.fieldLink own index "NineNoons$Carrier" "minutesAMile" "I" ∈ nn_B) (hdg : decode cc pc = .ok (.getfield index, 3)) (kk : W p l e R s m args below meth c H locs cells slots Q (F0 m (pc + 3) ls (.int (g_Ca_minutesAMile x) :: rest))) : W p l e R s m args below meth c H locs cells slots Q (F0 m pc ls (.ref (ad (121)) :: rest)) := by
  subst hx
  exact nn_get S hK hw (ce_O (k := 3) (by decide)) (by decide) rfl nnin0 3 (by decide) hlink rfl hdg kk
theorem pf_Ca_minutesAMile (S : CallFix p m c cc nL s args nn_B own) (hK : nn_K D cy s) (hw : nn_W D cy ad A s.heap τ H locs) {x : nCa} (hx : gCa τ = x) {y : Int32} (hτ : sCa τ (s_Ca_minutesAMile x y) = τ') {index : Nat} (hlink : Cond.fieldLink own index "NineNoons$Carrier" "minutesAMile" "I" ∈ nn_B) (hdg : decode cc pc = .ok (.putfield index, 3)) (kk : ∀ (H : Heap) (locs : List Loc), nn_W D cy ad A s.heap τ' H locs → W p l e R s m args below meth c H locs cells slots Q (F0 m (pc + 3) ls rest)) : W p l e R s m args below meth c H locs cells slots Q (F0 m pc ls (.int y :: .ref (ad (121)) :: rest)) := by
  subst hx; subst hτ
  exact nn_put S hK hw (ce_O (k := 3) (by decide)) (by decide) rfl nnin0 tyX0 tyX0_ok nmX0 3 (by decide) hlink rfl rfl rfl (Nat.le_of_ble_eq_true rfl) (un_O (k := 3) (by decide) (by rfl) (by rfl) (by rfl) (by rfl) (fun j hj hne => by rcases j with _ | _ | _ | _ | _ | _ | _ | _ | _ | j <;> first | rfl | exact absurd rfl hne | omega)) hdg kk
theorem gf_Ta_letters (S : CallFix p m c cc nL s args nn_B own) (hK : nn_K D cy s) (hw : nn_W D cy ad A s.heap τ H locs) {index : Nat} (hlink : Cond.fieldLink own index "NineNoons$Tape" "letters" "[C" ∈ nn_B) (hdg : decode cc pc = .ok (.getfield index, 3)) (kk : W p l e R s m args below meth c H locs cells slots Q (F0 m (pc + 3) ls (.ref (ad (125)) :: rest))) : W p l e R s m args below meth c H locs cells slots Q (F0 m pc ls (.ref (ad (124)) :: rest)) := nn_get S hK hw (ce_O (k := 6) (by decide)) (by decide) rfl nnin4 0 (by decide) hlink rfl hdg kk
theorem gf_Ta_length (S : CallFix p m c cc nL s args nn_B own) (hK : nn_K D cy s) (hw : nn_W D cy ad A s.heap τ H locs) {x : nTa} (hx : gTa τ = x) {index : Nat} (hlink : Cond.fieldLink own index "NineNoons$Tape" "length" "I" ∈ nn_B) (hdg : decode cc pc = .ok (.getfield index, 3)) (kk : W p l e R s m args below meth c H locs cells slots Q (F0 m (pc + 3) ls (.int (g_Ta_length x) :: rest))) : W p l e R s m args below meth c H locs cells slots Q (F0 m pc ls (.ref (ad (124)) :: rest)) := by
  subst hx
  exact nn_get S hK hw (ce_O (k := 6) (by decide)) (by decide) rfl nnin4 1 (by decide) hlink rfl hdg kk
theorem pf_Ta_length (S : CallFix p m c cc nL s args nn_B own) (hK : nn_K D cy s) (hw : nn_W D cy ad A s.heap τ H locs) {x : nTa} (hx : gTa τ = x) {y : Int32} (hτ : sTa τ (s_Ta_length x y) = τ') {index : Nat} (hlink : Cond.fieldLink own index "NineNoons$Tape" "length" "I" ∈ nn_B) (hdg : decode cc pc = .ok (.putfield index, 3)) (kk : ∀ (H : Heap) (locs : List Loc), nn_W D cy ad A s.heap τ' H locs → W p l e R s m args below meth c H locs cells slots Q (F0 m (pc + 3) ls rest)) : W p l e R s m args below meth c H locs cells slots Q (F0 m pc ls (.int y :: .ref (ad (124)) :: rest)) := by
  subst hx; subst hτ
  exact nn_put S hK hw (ce_O (k := 6) (by decide)) (by decide) rfl nnin4 tyX4 tyX4_ok nmX4 1 (by decide) hlink rfl rfl rfl (Nat.le_of_ble_eq_true rfl) (un_O (k := 6) (by decide) (by rfl) (by rfl) (by rfl) (by rfl) (fun j hj hne => by rcases j with _ | _ | _ | _ | _ | _ | _ | _ | _ | j <;> first | rfl | exact absurd rfl hne | omega)) hdg kk
theorem gf_Ta_place (S : CallFix p m c cc nL s args nn_B own) (hK : nn_K D cy s) (hw : nn_W D cy ad A s.heap τ H locs) {x : nTa} (hx : gTa τ = x) {index : Nat} (hlink : Cond.fieldLink own index "NineNoons$Tape" "place" "I" ∈ nn_B) (hdg : decode cc pc = .ok (.getfield index, 3)) (kk : W p l e R s m args below meth c H locs cells slots Q (F0 m (pc + 3) ls (.int (g_Ta_place x) :: rest))) : W p l e R s m args below meth c H locs cells slots Q (F0 m pc ls (.ref (ad (124)) :: rest)) := by
  subst hx
  exact nn_get S hK hw (ce_O (k := 6) (by decide)) (by decide) rfl nnin4 2 (by decide) hlink rfl hdg kk
theorem pf_Ta_place (S : CallFix p m c cc nL s args nn_B own) (hK : nn_K D cy s) (hw : nn_W D cy ad A s.heap τ H locs) {x : nTa} (hx : gTa τ = x) {y : Int32} (hτ : sTa τ (s_Ta_place x y) = τ') {index : Nat} (hlink : Cond.fieldLink own index "NineNoons$Tape" "place" "I" ∈ nn_B) (hdg : decode cc pc = .ok (.putfield index, 3)) (kk : ∀ (H : Heap) (locs : List Loc), nn_W D cy ad A s.heap τ' H locs → W p l e R s m args below meth c H locs cells slots Q (F0 m (pc + 3) ls rest)) : W p l e R s m args below meth c H locs cells slots Q (F0 m pc ls (.int y :: .ref (ad (124)) :: rest)) := by
  subst hx; subst hτ
  exact nn_put S hK hw (ce_O (k := 6) (by decide)) (by decide) rfl nnin4 tyX4 tyX4_ok nmX4 2 (by decide) hlink rfl rfl rfl (Nat.le_of_ble_eq_true rfl) (un_O (k := 6) (by decide) (by rfl) (by rfl) (by rfl) (by rfl) (fun j hj hne => by rcases j with _ | _ | _ | _ | _ | _ | _ | _ | _ | j <;> first | rfl | exact absurd rfl hne | omega)) hdg kk
theorem gf_Ta_fault (S : CallFix p m c cc nL s args nn_B own) (hK : nn_K D cy s) (hw : nn_W D cy ad A s.heap τ H locs) {x : nTa} (hx : gTa τ = x) {index : Nat} (hlink : Cond.fieldLink own index "NineNoons$Tape" "fault" "I" ∈ nn_B) (hdg : decode cc pc = .ok (.getfield index, 3)) (kk : W p l e R s m args below meth c H locs cells slots Q (F0 m (pc + 3) ls (.int (g_Ta_fault x) :: rest))) : W p l e R s m args below meth c H locs cells slots Q (F0 m pc ls (.ref (ad (124)) :: rest)) := by
  subst hx
  exact nn_get S hK hw (ce_O (k := 6) (by decide)) (by decide) rfl nnin4 3 (by decide) hlink rfl hdg kk
theorem pf_Ta_fault (S : CallFix p m c cc nL s args nn_B own) (hK : nn_K D cy s) (hw : nn_W D cy ad A s.heap τ H locs) {x : nTa} (hx : gTa τ = x) {y : Int32} (hτ : sTa τ (s_Ta_fault x y) = τ') {index : Nat} (hlink : Cond.fieldLink own index "NineNoons$Tape" "fault" "I" ∈ nn_B) (hdg : decode cc pc = .ok (.putfield index, 3)) (kk : ∀ (H : Heap) (locs : List Loc), nn_W D cy ad A s.heap τ' H locs → W p l e R s m args below meth c H locs cells slots Q (F0 m (pc + 3) ls rest)) : W p l e R s m args below meth c H locs cells slots Q (F0 m pc ls (.int y :: .ref (ad (124)) :: rest)) := by
  subst hx; subst hτ
  exact nn_put S hK hw (ce_O (k := 6) (by decide)) (by decide) rfl nnin4 tyX4 tyX4_ok nmX4 3 (by decide) hlink rfl rfl rfl (Nat.le_of_ble_eq_true rfl) (un_O (k := 6) (by decide) (by rfl) (by rfl) (by rfl) (by rfl) (fun j hj hne => by rcases j with _ | _ | _ | _ | _ | _ | _ | _ | _ | j <;> first | rfl | exact absurd rfl hne | omega)) hdg kk
theorem gf_Md_now (S : CallFix p m c cc nL s args nn_B own) (hK : nn_K D cy s) (hw : nn_W D cy ad A s.heap τ H locs) {index : Nat} (hlink : Cond.fieldLink own index "NineNoonsModel" "now" "[I" ∈ nn_B) (hdg : decode cc pc = .ok (.getfield index, 3)) (kk : W p l e R s m args below meth c H locs cells slots Q (F0 m (pc + 3) ls (.ref (ad (136)) :: rest))) : W p l e R s m args below meth c H locs cells slots Q (F0 m pc ls (.ref (ad (135)) :: rest)) := nn_get S hK hw (ce_M (k := 0)) (by decide) rfl nnin7 0 (by decide) hlink rfl hdg kk
theorem gf_Md_later (S : CallFix p m c cc nL s args nn_B own) (hK : nn_K D cy s) (hw : nn_W D cy ad A s.heap τ H locs) {index : Nat} (hlink : Cond.fieldLink own index "NineNoonsModel" "later" "[I" ∈ nn_B) (hdg : decode cc pc = .ok (.getfield index, 3)) (kk : W p l e R s m args below meth c H locs cells slots Q (F0 m (pc + 3) ls (.ref (ad (137)) :: rest))) : W p l e R s m args below meth c H locs cells slots Q (F0 m pc ls (.ref (ad (135)) :: rest)) := nn_get S hK hw (ce_M (k := 0)) (by decide) rfl nnin7 1 (by decide) hlink rfl hdg kk
theorem gf_Md_tape (S : CallFix p m c cc nL s args nn_B own) (hK : nn_K D cy s) (hw : nn_W D cy ad A s.heap τ H locs) {index : Nat} (hlink : Cond.fieldLink own index "NineNoonsModel" "tape" "[I" ∈ nn_B) (hdg : decode cc pc = .ok (.getfield index, 3)) (kk : W p l e R s m args below meth c H locs cells slots Q (F0 m (pc + 3) ls (.ref (ad (138)) :: rest))) : W p l e R s m args below meth c H locs cells slots Q (F0 m pc ls (.ref (ad (135)) :: rest)) := nn_get S hK hw (ce_M (k := 0)) (by decide) rfl nnin7 2 (by decide) hlink rfl hdg kk
theorem gf_Md_typed (S : CallFix p m c cc nL s args nn_B own) (hK : nn_K D cy s) (hw : nn_W D cy ad A s.heap τ H locs) {x : nMd} (hx : gM τ = x) {index : Nat} (hlink : Cond.fieldLink own index "NineNoonsModel" "typed" "I" ∈ nn_B) (hdg : decode cc pc = .ok (.getfield index, 3)) (kk : W p l e R s m args below meth c H locs cells slots Q (F0 m (pc + 3) ls (.int (g_Md_typed x) :: rest))) : W p l e R s m args below meth c H locs cells slots Q (F0 m pc ls (.ref (ad (135)) :: rest)) := by
  subst hx
  exact nn_get S hK hw (ce_M (k := 0)) (by decide) rfl nnin7 3 (by decide) hlink rfl hdg kk
theorem pf_Md_typed (S : CallFix p m c cc nL s args nn_B own) (hK : nn_K D cy s) (hw : nn_W D cy ad A s.heap τ H locs) {x : nMd} (hx : gM τ = x) {y : Int32} (hτ : sM τ (s_Md_typed x y) = τ') {index : Nat} (hlink : Cond.fieldLink own index "NineNoonsModel" "typed" "I" ∈ nn_B) (hdg : decode cc pc = .ok (.putfield index, 3)) (kk : ∀ (H : Heap) (locs : List Loc), nn_W D cy ad A s.heap τ' H locs → W p l e R s m args below meth c H locs cells slots Q (F0 m (pc + 3) ls rest)) : W p l e R s m args below meth c H locs cells slots Q (F0 m pc ls (.int y :: .ref (ad (135)) :: rest)) := by
  subst hx; subst hτ
  exact nn_put S hK hw (ce_M (k := 0)) (by decide) rfl nnin7 tyX7 tyX7_ok nmX7 3 (by decide) hlink rfl rfl rfl (Nat.le_of_ble_eq_true rfl) (un_M (k := 0) (by decide) (fun j hj hne => by rcases j with _ | _ | _ | _ | _ | _ | _ | _ | _ | _ | _ | _ | _ | _ | _ | j <;> first | rfl | exact absurd rfl hne | omega)) hdg kk
theorem gf_Md_place (S : CallFix p m c cc nL s args nn_B own) (hK : nn_K D cy s) (hw : nn_W D cy ad A s.heap τ H locs) {x : nMd} (hx : gM τ = x) {index : Nat} (hlink : Cond.fieldLink own index "NineNoonsModel" "place" "I" ∈ nn_B) (hdg : decode cc pc = .ok (.getfield index, 3)) (kk : W p l e R s m args below meth c H locs cells slots Q (F0 m (pc + 3) ls (.int (g_Md_place x) :: rest))) : W p l e R s m args below meth c H locs cells slots Q (F0 m pc ls (.ref (ad (135)) :: rest)) := by
  subst hx
  exact nn_get S hK hw (ce_M (k := 0)) (by decide) rfl nnin7 4 (by decide) hlink rfl hdg kk
theorem pf_Md_place (S : CallFix p m c cc nL s args nn_B own) (hK : nn_K D cy s) (hw : nn_W D cy ad A s.heap τ H locs) {x : nMd} (hx : gM τ = x) {y : Int32} (hτ : sM τ (s_Md_place x y) = τ') {index : Nat} (hlink : Cond.fieldLink own index "NineNoonsModel" "place" "I" ∈ nn_B) (hdg : decode cc pc = .ok (.putfield index, 3)) (kk : ∀ (H : Heap) (locs : List Loc), nn_W D cy ad A s.heap τ' H locs → W p l e R s m args below meth c H locs cells slots Q (F0 m (pc + 3) ls rest)) : W p l e R s m args below meth c H locs cells slots Q (F0 m pc ls (.int y :: .ref (ad (135)) :: rest)) := by
  subst hx; subst hτ
  exact nn_put S hK hw (ce_M (k := 0)) (by decide) rfl nnin7 tyX7 tyX7_ok nmX7 4 (by decide) hlink rfl rfl rfl (Nat.le_of_ble_eq_true rfl) (un_M (k := 0) (by decide) (fun j hj hne => by rcases j with _ | _ | _ | _ | _ | _ | _ | _ | _ | _ | _ | _ | _ | _ | _ | j <;> first | rfl | exact absurd rfl hne | omega)) hdg kk
theorem gf_Md_isFault (S : CallFix p m c cc nL s args nn_B own) (hK : nn_K D cy s) (hw : nn_W D cy ad A s.heap τ H locs) {x : nMd} (hx : gM τ = x) {index : Nat} (hlink : Cond.fieldLink own index "NineNoonsModel" "isFault" "Z" ∈ nn_B) (hdg : decode cc pc = .ok (.getfield index, 3)) (kk : W p l e R s m args below meth c H locs cells slots Q (F0 m (pc + 3) ls (.int (g_Md_isFault x) :: rest))) : W p l e R s m args below meth c H locs cells slots Q (F0 m pc ls (.ref (ad (135)) :: rest)) := by
  subst hx
  exact nn_get S hK hw (ce_M (k := 0)) (by decide) rfl nnin7 5 (by decide) hlink rfl hdg kk
theorem pf_Md_isFault (S : CallFix p m c cc nL s args nn_B own) (hK : nn_K D cy s) (hw : nn_W D cy ad A s.heap τ H locs) {x : nMd} (hx : gM τ = x) {y : Int32} (hbo : y = 0 ∨ y = 1) (hτ : sM τ (s_Md_isFault x y) = τ') {index : Nat} (hlink : Cond.fieldLink own index "NineNoonsModel" "isFault" "Z" ∈ nn_B) (hdg : decode cc pc = .ok (.putfield index, 3)) (kk : ∀ (H : Heap) (locs : List Loc), nn_W D cy ad A s.heap τ' H locs → W p l e R s m args below meth c H locs cells slots Q (F0 m (pc + 3) ls rest)) : W p l e R s m args below meth c H locs cells slots Q (F0 m pc ls (.int y :: .ref (ad (135)) :: rest)) := by
  subst hx; subst hτ
  exact nn_put S hK hw (ce_M (k := 0)) (by decide) rfl nnin7 tyX7 tyX7_ok nmX7 5 (by decide) hlink rfl (by rcases hbo with rfl | rfl <;> rfl) (by rcases hbo with rfl | rfl <;> rfl) (Nat.le_of_ble_eq_true rfl) (un_M (k := 0) (by decide) (fun j hj hne => by rcases j with _ | _ | _ | _ | _ | _ | _ | _ | _ | _ | _ | _ | _ | _ | _ | j <;> first | rfl | exact absurd rfl hne | omega)) hdg kk
theorem gf_Md_read (S : CallFix p m c cc nL s args nn_B own) (hK : nn_K D cy s) (hw : nn_W D cy ad A s.heap τ H locs) {index : Nat} (hlink : Cond.fieldLink own index "NineNoonsModel" "read" "[I" ∈ nn_B) (hdg : decode cc pc = .ok (.getfield index, 3)) (kk : W p l e R s m args below meth c H locs cells slots Q (F0 m (pc + 3) ls (.ref (ad (139)) :: rest))) : W p l e R s m args below meth c H locs cells slots Q (F0 m pc ls (.ref (ad (135)) :: rest)) := nn_get S hK hw (ce_M (k := 0)) (by decide) rfl nnin7 6 (by decide) hlink rfl hdg kk
theorem gf_Md_undone (S : CallFix p m c cc nL s args nn_B own) (hK : nn_K D cy s) (hw : nn_W D cy ad A s.heap τ H locs) {index : Nat} (hlink : Cond.fieldLink own index "NineNoonsModel" "undone" "[I" ∈ nn_B) (hdg : decode cc pc = .ok (.getfield index, 3)) (kk : W p l e R s m args below meth c H locs cells slots Q (F0 m (pc + 3) ls (.ref (ad (140)) :: rest))) : W p l e R s m args below meth c H locs cells slots Q (F0 m pc ls (.ref (ad (135)) :: rest)) := nn_get S hK hw (ce_M (k := 0)) (by decide) rfl nnin7 7 (by decide) hlink rfl hdg kk
theorem gf_Md_undos (S : CallFix p m c cc nL s args nn_B own) (hK : nn_K D cy s) (hw : nn_W D cy ad A s.heap τ H locs) {x : nMd} (hx : gM τ = x) {index : Nat} (hlink : Cond.fieldLink own index "NineNoonsModel" "undos" "I" ∈ nn_B) (hdg : decode cc pc = .ok (.getfield index, 3)) (kk : W p l e R s m args below meth c H locs cells slots Q (F0 m (pc + 3) ls (.int (g_Md_undos x) :: rest))) : W p l e R s m args below meth c H locs cells slots Q (F0 m pc ls (.ref (ad (135)) :: rest)) := by
  subst hx
  exact nn_get S hK hw (ce_M (k := 0)) (by decide) rfl nnin7 8 (by decide) hlink rfl hdg kk
theorem pf_Md_undos (S : CallFix p m c cc nL s args nn_B own) (hK : nn_K D cy s) (hw : nn_W D cy ad A s.heap τ H locs) {x : nMd} (hx : gM τ = x) {y : Int32} (hτ : sM τ (s_Md_undos x y) = τ') {index : Nat} (hlink : Cond.fieldLink own index "NineNoonsModel" "undos" "I" ∈ nn_B) (hdg : decode cc pc = .ok (.putfield index, 3)) (kk : ∀ (H : Heap) (locs : List Loc), nn_W D cy ad A s.heap τ' H locs → W p l e R s m args below meth c H locs cells slots Q (F0 m (pc + 3) ls rest)) : W p l e R s m args below meth c H locs cells slots Q (F0 m pc ls (.int y :: .ref (ad (135)) :: rest)) := by
  subst hx; subst hτ
  exact nn_put S hK hw (ce_M (k := 0)) (by decide) rfl nnin7 tyX7 tyX7_ok nmX7 8 (by decide) hlink rfl rfl rfl (Nat.le_of_ble_eq_true rfl) (un_M (k := 0) (by decide) (fun j hj hne => by rcases j with _ | _ | _ | _ | _ | _ | _ | _ | _ | _ | _ | _ | _ | _ | _ | j <;> first | rfl | exact absurd rfl hne | omega)) hdg kk
theorem gf_Md_aside (S : CallFix p m c cc nL s args nn_B own) (hK : nn_K D cy s) (hw : nn_W D cy ad A s.heap τ H locs) {index : Nat} (hlink : Cond.fieldLink own index "NineNoonsModel" "aside" "[I" ∈ nn_B) (hdg : decode cc pc = .ok (.getfield index, 3)) (kk : W p l e R s m args below meth c H locs cells slots Q (F0 m (pc + 3) ls (.ref (ad (141)) :: rest))) : W p l e R s m args below meth c H locs cells slots Q (F0 m pc ls (.ref (ad (135)) :: rest)) := nn_get S hK hw (ce_M (k := 0)) (by decide) rfl nnin7 9 (by decide) hlink rfl hdg kk
theorem gf_Md_together (S : CallFix p m c cc nL s args nn_B own) (hK : nn_K D cy s) (hw : nn_W D cy ad A s.heap τ H locs) {x : nMd} (hx : gM τ = x) {index : Nat} (hlink : Cond.fieldLink own index "NineNoonsModel" "together" "I" ∈ nn_B) (hdg : decode cc pc = .ok (.getfield index, 3)) (kk : W p l e R s m args below meth c H locs cells slots Q (F0 m (pc + 3) ls (.int (g_Md_together x) :: rest))) : W p l e R s m args below meth c H locs cells slots Q (F0 m pc ls (.ref (ad (135)) :: rest)) := by
  subst hx
  exact nn_get S hK hw (ce_M (k := 0)) (by decide) rfl nnin7 10 (by decide) hlink rfl hdg kk
theorem pf_Md_together (S : CallFix p m c cc nL s args nn_B own) (hK : nn_K D cy s) (hw : nn_W D cy ad A s.heap τ H locs) {x : nMd} (hx : gM τ = x) {y : Int32} (hτ : sM τ (s_Md_together x y) = τ') {index : Nat} (hlink : Cond.fieldLink own index "NineNoonsModel" "together" "I" ∈ nn_B) (hdg : decode cc pc = .ok (.putfield index, 3)) (kk : ∀ (H : Heap) (locs : List Loc), nn_W D cy ad A s.heap τ' H locs → W p l e R s m args below meth c H locs cells slots Q (F0 m (pc + 3) ls rest)) : W p l e R s m args below meth c H locs cells slots Q (F0 m pc ls (.int y :: .ref (ad (135)) :: rest)) := by
  subst hx; subst hτ
  exact nn_put S hK hw (ce_M (k := 0)) (by decide) rfl nnin7 tyX7 tyX7_ok nmX7 10 (by decide) hlink rfl rfl rfl (Nat.le_of_ble_eq_true rfl) (un_M (k := 0) (by decide) (fun j hj hne => by rcases j with _ | _ | _ | _ | _ | _ | _ | _ | _ | _ | _ | _ | _ | _ | _ | j <;> first | rfl | exact absurd rfl hne | omega)) hdg kk
theorem gf_Md_by (S : CallFix p m c cc nL s args nn_B own) (hK : nn_K D cy s) (hw : nn_W D cy ad A s.heap τ H locs) {index : Nat} (hlink : Cond.fieldLink own index "NineNoonsModel" "by" "[I" ∈ nn_B) (hdg : decode cc pc = .ok (.getfield index, 3)) (kk : W p l e R s m args below meth c H locs cells slots Q (F0 m (pc + 3) ls (.ref (ad (142)) :: rest))) : W p l e R s m args below meth c H locs cells slots Q (F0 m pc ls (.ref (ad (135)) :: rest)) := nn_get S hK hw (ce_M (k := 0)) (by decide) rfl nnin7 11 (by decide) hlink rfl hdg kk
theorem gf_Md_best (S : CallFix p m c cc nL s args nn_B own) (hK : nn_K D cy s) (hw : nn_W D cy ad A s.heap τ H locs) {index : Nat} (hlink : Cond.fieldLink own index "NineNoonsModel" "best" "[I" ∈ nn_B) (hdg : decode cc pc = .ok (.getfield index, 3)) (kk : W p l e R s m args below meth c H locs cells slots Q (F0 m (pc + 3) ls (.ref (ad (143)) :: rest))) : W p l e R s m args below meth c H locs cells slots Q (F0 m pc ls (.ref (ad (135)) :: rest)) := nn_get S hK hw (ce_M (k := 0)) (by decide) rfl nnin7 12 (by decide) hlink rfl hdg kk
theorem gf_Md_order (S : CallFix p m c cc nL s args nn_B own) (hK : nn_K D cy s) (hw : nn_W D cy ad A s.heap τ H locs) {index : Nat} (hlink : Cond.fieldLink own index "NineNoonsModel" "order" "[I" ∈ nn_B) (hdg : decode cc pc = .ok (.getfield index, 3)) (kk : W p l e R s m args below meth c H locs cells slots Q (F0 m (pc + 3) ls (.ref (ad (144)) :: rest))) : W p l e R s m args below meth c H locs cells slots Q (F0 m pc ls (.ref (ad (135)) :: rest)) := nn_get S hK hw (ce_M (k := 0)) (by decide) rfl nnin7 13 (by decide) hlink rfl hdg kk
theorem gf_Md_kept (S : CallFix p m c cc nL s args nn_B own) (hK : nn_K D cy s) (hw : nn_W D cy ad A s.heap τ H locs) {index : Nat} (hlink : Cond.fieldLink own index "NineNoonsModel" "kept" "[I" ∈ nn_B) (hdg : decode cc pc = .ok (.getfield index, 3)) (kk : W p l e R s m args below meth c H locs cells slots Q (F0 m (pc + 3) ls (.ref (ad (145)) :: rest))) : W p l e R s m args below meth c H locs cells slots Q (F0 m pc ls (.ref (ad (135)) :: rest)) := nn_get S hK hw (ce_M (k := 0)) (by decide) rfl nnin7 14 (by decide) hlink rfl hdg kk
theorem gf_Md_keptUndos (S : CallFix p m c cc nL s args nn_B own) (hK : nn_K D cy s) (hw : nn_W D cy ad A s.heap τ H locs) {x : nMd} (hx : gM τ = x) {index : Nat} (hlink : Cond.fieldLink own index "NineNoonsModel" "keptUndos" "I" ∈ nn_B) (hdg : decode cc pc = .ok (.getfield index, 3)) (kk : W p l e R s m args below meth c H locs cells slots Q (F0 m (pc + 3) ls (.int (g_Md_keptUndos x) :: rest))) : W p l e R s m args below meth c H locs cells slots Q (F0 m pc ls (.ref (ad (135)) :: rest)) := by
  subst hx
  exact nn_get S hK hw (ce_M (k := 0)) (by decide) rfl nnin7 15 (by decide) hlink rfl hdg kk
theorem pf_Md_keptUndos (S : CallFix p m c cc nL s args nn_B own) (hK : nn_K D cy s) (hw : nn_W D cy ad A s.heap τ H locs) {x : nMd} (hx : gM τ = x) {y : Int32} (hτ : sM τ (s_Md_keptUndos x y) = τ') {index : Nat} (hlink : Cond.fieldLink own index "NineNoonsModel" "keptUndos" "I" ∈ nn_B) (hdg : decode cc pc = .ok (.putfield index, 3)) (kk : ∀ (H : Heap) (locs : List Loc), nn_W D cy ad A s.heap τ' H locs → W p l e R s m args below meth c H locs cells slots Q (F0 m (pc + 3) ls rest)) : W p l e R s m args below meth c H locs cells slots Q (F0 m pc ls (.int y :: .ref (ad (135)) :: rest)) := by
  subst hx; subst hτ
  exact nn_put S hK hw (ce_M (k := 0)) (by decide) rfl nnin7 tyX7 tyX7_ok nmX7 15 (by decide) hlink rfl rfl rfl (Nat.le_of_ble_eq_true rfl) (un_M (k := 0) (by decide) (fun j hj hne => by rcases j with _ | _ | _ | _ | _ | _ | _ | _ | _ | _ | _ | _ | _ | _ | _ | j <;> first | rfl | exact absurd rfl hne | omega)) hdg kk
theorem gf_Md_isKept (S : CallFix p m c cc nL s args nn_B own) (hK : nn_K D cy s) (hw : nn_W D cy ad A s.heap τ H locs) {x : nMd} (hx : gM τ = x) {index : Nat} (hlink : Cond.fieldLink own index "NineNoonsModel" "isKept" "Z" ∈ nn_B) (hdg : decode cc pc = .ok (.getfield index, 3)) (kk : W p l e R s m args below meth c H locs cells slots Q (F0 m (pc + 3) ls (.int (g_Md_isKept x) :: rest))) : W p l e R s m args below meth c H locs cells slots Q (F0 m pc ls (.ref (ad (135)) :: rest)) := by
  subst hx
  exact nn_get S hK hw (ce_M (k := 0)) (by decide) rfl nnin7 16 (by decide) hlink rfl hdg kk
theorem pf_Md_isKept (S : CallFix p m c cc nL s args nn_B own) (hK : nn_K D cy s) (hw : nn_W D cy ad A s.heap τ H locs) {x : nMd} (hx : gM τ = x) {y : Int32} (hbo : y = 0 ∨ y = 1) (hτ : sM τ (s_Md_isKept x y) = τ') {index : Nat} (hlink : Cond.fieldLink own index "NineNoonsModel" "isKept" "Z" ∈ nn_B) (hdg : decode cc pc = .ok (.putfield index, 3)) (kk : ∀ (H : Heap) (locs : List Loc), nn_W D cy ad A s.heap τ' H locs → W p l e R s m args below meth c H locs cells slots Q (F0 m (pc + 3) ls rest)) : W p l e R s m args below meth c H locs cells slots Q (F0 m pc ls (.int y :: .ref (ad (135)) :: rest)) := by
  subst hx; subst hτ
  exact nn_put S hK hw (ce_M (k := 0)) (by decide) rfl nnin7 tyX7 tyX7_ok nmX7 16 (by decide) hlink rfl (by rcases hbo with rfl | rfl <;> rfl) (by rcases hbo with rfl | rfl <;> rfl) (Nat.le_of_ble_eq_true rfl) (un_M (k := 0) (by decide) (fun j hj hne => by rcases j with _ | _ | _ | _ | _ | _ | _ | _ | _ | _ | _ | _ | _ | _ | _ | j <;> first | rfl | exact absurd rfl hne | omega)) hdg kk
theorem gf_Md_lanes (S : CallFix p m c cc nL s args nn_B own) (hK : nn_K D cy s) (hw : nn_W D cy ad A s.heap τ H locs) {index : Nat} (hlink : Cond.fieldLink own index "NineNoonsModel" "lanes" "[I" ∈ nn_B) (hdg : decode cc pc = .ok (.getfield index, 3)) (kk : W p l e R s m args below meth c H locs cells slots Q (F0 m (pc + 3) ls (.ref (ad (146)) :: rest))) : W p l e R s m args below meth c H locs cells slots Q (F0 m pc ls (.ref (ad (135)) :: rest)) := nn_get S hK hw (ce_M (k := 0)) (by decide) rfl nnin7 17 (by decide) hlink rfl hdg kk
theorem gf_Md_sizes (S : CallFix p m c cc nL s args nn_B own) (hK : nn_K D cy s) (hw : nn_W D cy ad A s.heap τ H locs) {index : Nat} (hlink : Cond.fieldLink own index "NineNoonsModel" "sizes" "[I" ∈ nn_B) (hdg : decode cc pc = .ok (.getfield index, 3)) (kk : W p l e R s m args below meth c H locs cells slots Q (F0 m (pc + 3) ls (.ref (ad (147)) :: rest))) : W p l e R s m args below meth c H locs cells slots Q (F0 m pc ls (.ref (ad (135)) :: rest)) := nn_get S hK hw (ce_M (k := 0)) (by decide) rfl nnin7 18 (by decide) hlink rfl hdg kk
theorem gf_Md_items (S : CallFix p m c cc nL s args nn_B own) (hK : nn_K D cy s) (hw : nn_W D cy ad A s.heap τ H locs) {index : Nat} (hlink : Cond.fieldLink own index "NineNoonsModel" "items" "[J" ∈ nn_B) (hdg : decode cc pc = .ok (.getfield index, 3)) (kk : W p l e R s m args below meth c H locs cells slots Q (F0 m (pc + 3) ls (.ref (ad (148)) :: rest))) : W p l e R s m args below meth c H locs cells slots Q (F0 m pc ls (.ref (ad (135)) :: rest)) := nn_get S hK hw (ce_M (k := 0)) (by decide) rfl nnin7 19 (by decide) hlink rfl hdg kk
theorem gf_Md_moved (S : CallFix p m c cc nL s args nn_B own) (hK : nn_K D cy s) (hw : nn_W D cy ad A s.heap τ H locs) {index : Nat} (hlink : Cond.fieldLink own index "NineNoonsModel" "moved" "[J" ∈ nn_B) (hdg : decode cc pc = .ok (.getfield index, 3)) (kk : W p l e R s m args below meth c H locs cells slots Q (F0 m (pc + 3) ls (.ref (ad (149)) :: rest))) : W p l e R s m args below meth c H locs cells slots Q (F0 m pc ls (.ref (ad (135)) :: rest)) := nn_get S hK hw (ce_M (k := 0)) (by decide) rfl nnin7 20 (by decide) hlink rfl hdg kk
theorem gf_Nn_now (S : CallFix p m c cc nL s args nn_B own) (hK : nn_K D cy s) (hw : nn_W D cy ad A s.heap τ H locs) {index : Nat} (hlink : Cond.fieldLink own index "NineNoons" "now" "LNineNoons$Valley;" ∈ nn_B) (hdg : decode cc pc = .ok (.getfield index, 3)) (kk : W p l e R s m args below meth c H locs cells slots Q (F0 m (pc + 3) ls (.ref (ad (0)) :: rest))) : W p l e R s m args below meth c H locs cells slots Q (F0 m pc ls (.ref (ad (118)) :: rest)) := nn_get S hK hw (ce_O (k := 0) (by decide)) (by decide) rfl nnin6 0 (by decide) hlink rfl hdg kk
theorem gf_Nn_history (S : CallFix p m c cc nL s args nn_B own) (hK : nn_K D cy s) (hw : nn_W D cy ad A s.heap τ H locs) {index : Nat} (hlink : Cond.fieldLink own index "NineNoons" "history" "LNineNoons$History;" ∈ nn_B) (hdg : decode cc pc = .ok (.getfield index, 3)) (kk : W p l e R s m args below meth c H locs cells slots Q (F0 m (pc + 3) ls (.ref (ad (114)) :: rest))) : W p l e R s m args below meth c H locs cells slots Q (F0 m pc ls (.ref (ad (118)) :: rest)) := nn_get S hK hw (ce_O (k := 0) (by decide)) (by decide) rfl nnin6 1 (by decide) hlink rfl hdg kk
theorem gf_Nn_keptValley (S : CallFix p m c cc nL s args nn_B own) (hK : nn_K D cy s) (hw : nn_W D cy ad A s.heap τ H locs) {index : Nat} (hlink : Cond.fieldLink own index "NineNoons" "keptValley" "LNineNoons$Valley;" ∈ nn_B) (hdg : decode cc pc = .ok (.getfield index, 3)) (kk : W p l e R s m args below meth c H locs cells slots Q (F0 m (pc + 3) ls (.ref (ad (6)) :: rest))) : W p l e R s m args below meth c H locs cells slots Q (F0 m pc ls (.ref (ad (118)) :: rest)) := nn_get S hK hw (ce_O (k := 0) (by decide)) (by decide) rfl nnin6 2 (by decide) hlink rfl hdg kk
theorem gf_Nn_keptHistory (S : CallFix p m c cc nL s args nn_B own) (hK : nn_K D cy s) (hw : nn_W D cy ad A s.heap τ H locs) {index : Nat} (hlink : Cond.fieldLink own index "NineNoons" "keptHistory" "LNineNoons$History;" ∈ nn_B) (hdg : decode cc pc = .ok (.getfield index, 3)) (kk : W p l e R s m args below meth c H locs cells slots Q (F0 m (pc + 3) ls (.ref (ad (116)) :: rest))) : W p l e R s m args below meth c H locs cells slots Q (F0 m pc ls (.ref (ad (118)) :: rest)) := nn_get S hK hw (ce_O (k := 0) (by decide)) (by decide) rfl nnin6 3 (by decide) hlink rfl hdg kk
theorem gf_Nn_imageKept (S : CallFix p m c cc nL s args nn_B own) (hK : nn_K D cy s) (hw : nn_W D cy ad A s.heap τ H locs) {x : Int32} (hx : gIm τ = x) {index : Nat} (hlink : Cond.fieldLink own index "NineNoons" "imageKept" "Z" ∈ nn_B) (hdg : decode cc pc = .ok (.getfield index, 3)) (kk : W p l e R s m args below meth c H locs cells slots Q (F0 m (pc + 3) ls (.int (x) :: rest))) : W p l e R s m args below meth c H locs cells slots Q (F0 m pc ls (.ref (ad (118)) :: rest)) := by
  subst hx
  exact nn_get S hK hw (ce_O (k := 0) (by decide)) (by decide) rfl nnin6 4 (by decide) hlink rfl hdg kk
theorem pf_Nn_imageKept (S : CallFix p m c cc nL s args nn_B own) (hK : nn_K D cy s) (hw : nn_W D cy ad A s.heap τ H locs) {x : Int32} (hx : gIm τ = x) {y : Int32} (hbo : y = 0 ∨ y = 1) (hτ : sIm τ y = τ') {index : Nat} (hlink : Cond.fieldLink own index "NineNoons" "imageKept" "Z" ∈ nn_B) (hdg : decode cc pc = .ok (.putfield index, 3)) (kk : ∀ (H : Heap) (locs : List Loc), nn_W D cy ad A s.heap τ' H locs → W p l e R s m args below meth c H locs cells slots Q (F0 m (pc + 3) ls rest)) : W p l e R s m args below meth c H locs cells slots Q (F0 m pc ls (.int y :: .ref (ad (118)) :: rest)) := by
  subst hx; subst hτ
  exact nn_put S hK hw (ce_O (k := 0) (by decide)) (by decide) rfl nnin6 tyX6 tyX6_ok nmX6 4 (by decide) hlink rfl (by rcases hbo with rfl | rfl <;> rfl) (by rcases hbo with rfl | rfl <;> rfl) (Nat.le_of_ble_eq_true rfl) (un_O (k := 0) (by decide) (by rfl) (by rfl) (by rfl) (by rfl) (fun j hj hne => by rcases j with _ | _ | _ | _ | _ | _ | _ | _ | _ | j <;> first | rfl | exact absurd rfl hne | omega)) hdg kk
theorem gf_Nn_trial (S : CallFix p m c cc nL s args nn_B own) (hK : nn_K D cy s) (hw : nn_W D cy ad A s.heap τ H locs) {index : Nat} (hlink : Cond.fieldLink own index "NineNoons" "trial" "LNineNoons$Valley;" ∈ nn_B) (hdg : decode cc pc = .ok (.getfield index, 3)) (kk : W p l e R s m args below meth c H locs cells slots Q (F0 m (pc + 3) ls (.ref (ad (12)) :: rest))) : W p l e R s m args below meth c H locs cells slots Q (F0 m pc ls (.ref (ad (118)) :: rest)) := nn_get S hK hw (ce_O (k := 0) (by decide)) (by decide) rfl nnin6 5 (by decide) hlink rfl hdg kk
theorem gf_Nn_setter (S : CallFix p m c cc nL s args nn_B own) (hK : nn_K D cy s) (hw : nn_W D cy ad A s.heap τ H locs) {index : Nat} (hlink : Cond.fieldLink own index "NineNoons" "setter" "LNineNoons$Setter;" ∈ nn_B) (hdg : decode cc pc = .ok (.getfield index, 3)) (kk : W p l e R s m args below meth c H locs cells slots Q (F0 m (pc + 3) ls (.ref (ad (119)) :: rest))) : W p l e R s m args below meth c H locs cells slots Q (F0 m pc ls (.ref (ad (118)) :: rest)) := nn_get S hK hw (ce_O (k := 0) (by decide)) (by decide) rfl nnin6 6 (by decide) hlink rfl hdg kk
theorem gf_Nn_carrier (S : CallFix p m c cc nL s args nn_B own) (hK : nn_K D cy s) (hw : nn_W D cy ad A s.heap τ H locs) {index : Nat} (hlink : Cond.fieldLink own index "NineNoons" "carrier" "LNineNoons$Carrier;" ∈ nn_B) (hdg : decode cc pc = .ok (.getfield index, 3)) (kk : W p l e R s m args below meth c H locs cells slots Q (F0 m (pc + 3) ls (.ref (ad (121)) :: rest))) : W p l e R s m args below meth c H locs cells slots Q (F0 m pc ls (.ref (ad (118)) :: rest)) := nn_get S hK hw (ce_O (k := 0) (by decide)) (by decide) rfl nnin6 7 (by decide) hlink rfl hdg kk
theorem gf_Nn_tape (S : CallFix p m c cc nL s args nn_B own) (hK : nn_K D cy s) (hw : nn_W D cy ad A s.heap τ H locs) {index : Nat} (hlink : Cond.fieldLink own index "NineNoons" "tape" "LNineNoons$Tape;" ∈ nn_B) (hdg : decode cc pc = .ok (.getfield index, 3)) (kk : W p l e R s m args below meth c H locs cells slots Q (F0 m (pc + 3) ls (.ref (ad (124)) :: rest))) : W p l e R s m args below meth c H locs cells slots Q (F0 m pc ls (.ref (ad (118)) :: rest)) := nn_get S hK hw (ce_O (k := 0) (by decide)) (by decide) rfl nnin6 8 (by decide) hlink rfl hdg kk
theorem gf_Nn_sheets (S : CallFix p m c cc nL s args nn_B own) (hK : nn_K D cy s) (hw : nn_W D cy ad A s.heap τ H locs) {index : Nat} (hlink : Cond.fieldLink own index "NineNoons" "sheets" "[LNineNoons$Sheet;" ∈ nn_B) (hdg : decode cc pc = .ok (.getfield index, 3)) (kk : W p l e R s m args below meth c H locs cells slots Q (F0 m (pc + 3) ls (.ref (ad (126)) :: rest))) : W p l e R s m args below meth c H locs cells slots Q (F0 m pc ls (.ref (ad (118)) :: rest)) := nn_get S hK hw (ce_O (k := 0) (by decide)) (by decide) rfl nnin6 9 (by decide) hlink rfl hdg kk
theorem gf_Se_shifts (S : CallFix p m c cc nL s args nn_B own) (hK : nn_K D cy s) (hw : nn_W D cy ad A s.heap τ H locs) {index : Nat} (hlink : Cond.fieldLink own index "NineNoons$Setter" "shifts" "[I" ∈ nn_B) (hdg : decode cc pc = .ok (.getfield index, 3)) (kk : W p l e R s m args below meth c H locs cells slots Q (F0 m (pc + 3) ls (.ref (ad (120)) :: rest))) : W p l e R s m args below meth c H locs cells slots Q (F0 m pc ls (.ref (ad (119)) :: rest)) := nn_get S hK hw (ce_O (k := 1) (by decide)) (by decide) rfl nnin2 0 (by decide) hlink rfl hdg kk
theorem al_Vl_kinds (S : CallFix p m c cc nL s args nn_B own) (hK : nn_K D cy s) (hw : nn_W D cy ad A s.heap τ H locs) {v : Nat} (hv : v < 19) {x : nVl} (hx : gV τ v = x) {j : Int32} (hin : ¬ (j < 0 ∨ 6 ≤ j.toNatClampNeg)) (hdg : decode cc pc = .ok (.iaload, 1)) (kk : W p l e R s m args below meth c H locs cells slots Q (F0 m (pc + 1) ls (.int ((g_Vl_kinds x) j.toNatClampNeg) :: rest))) : W p l e R s m args below meth c H locs cells slots Q (F0 m pc ls (.int j :: .ref (ad (6*v+1)) :: rest)) := by
  subst hx
  exact nn_ild S hK hw (ce_V (k := 1) hv (by decide)) (by omega) hin hdg kk
theorem as_Vl_kinds (S : CallFix p m c cc nL s args nn_B own) (hK : nn_K D cy s) (hw : nn_W D cy ad A s.heap τ H locs) {v : Nat} (hv : v < 19) {x : nVl} (hx : gV τ v = x) {j : Int32} {y : Int32} (hin : ¬ (j < 0 ∨ 6 ≤ j.toNatClampNeg)) (hτ : sV τ v (s_Vl_kinds x (upd (g_Vl_kinds x) j.toNatClampNeg y)) = τ') (hdg : decode cc pc = .ok (.iastore, 1)) (kk : ∀ (H : Heap) (locs : List Loc), nn_W D cy ad A s.heap τ' H locs → W p l e R s m args below meth c H locs cells slots Q (F0 m (pc + 1) ls rest)) : W p l e R s m args below meth c H locs cells slots Q (F0 m pc ls (.int y :: .int j :: .ref (ad (6*v+1)) :: rest)) := by
  subst hx; subst hτ
  exact nn_ist S hK hw (ce_V (k := 1) hv (by decide)) (by omega) hin (un_V (k := 1) hv (by decide) (fun j hj hne => by rcases j with _ | _ | _ | _ | _ | _ | j <;> first | rfl | exact absurd rfl hne | omega)) hdg kk
theorem al_Vl_minutes (S : CallFix p m c cc nL s args nn_B own) (hK : nn_K D cy s) (hw : nn_W D cy ad A s.heap τ H locs) {v : Nat} (hv : v < 19) {x : nVl} (hx : gV τ v = x) {j : Int32} (hin : ¬ (j < 0 ∨ 6 ≤ j.toNatClampNeg)) (hdg : decode cc pc = .ok (.iaload, 1)) (kk : W p l e R s m args below meth c H locs cells slots Q (F0 m (pc + 1) ls (.int ((g_Vl_minutes x) j.toNatClampNeg) :: rest))) : W p l e R s m args below meth c H locs cells slots Q (F0 m pc ls (.int j :: .ref (ad (6*v+2)) :: rest)) := by
  subst hx
  exact nn_ild S hK hw (ce_V (k := 2) hv (by decide)) (by omega) hin hdg kk
theorem as_Vl_minutes (S : CallFix p m c cc nL s args nn_B own) (hK : nn_K D cy s) (hw : nn_W D cy ad A s.heap τ H locs) {v : Nat} (hv : v < 19) {x : nVl} (hx : gV τ v = x) {j : Int32} {y : Int32} (hin : ¬ (j < 0 ∨ 6 ≤ j.toNatClampNeg)) (hτ : sV τ v (s_Vl_minutes x (upd (g_Vl_minutes x) j.toNatClampNeg y)) = τ') (hdg : decode cc pc = .ok (.iastore, 1)) (kk : ∀ (H : Heap) (locs : List Loc), nn_W D cy ad A s.heap τ' H locs → W p l e R s m args below meth c H locs cells slots Q (F0 m (pc + 1) ls rest)) : W p l e R s m args below meth c H locs cells slots Q (F0 m pc ls (.int y :: .int j :: .ref (ad (6*v+2)) :: rest)) := by
  subst hx; subst hτ
  exact nn_ist S hK hw (ce_V (k := 2) hv (by decide)) (by omega) hin (un_V (k := 2) hv (by decide) (fun j hj hne => by rcases j with _ | _ | _ | _ | _ | _ | j <;> first | rfl | exact absurd rfl hne | omega)) hdg kk
theorem al_Vl_drifts (S : CallFix p m c cc nL s args nn_B own) (hK : nn_K D cy s) (hw : nn_W D cy ad A s.heap τ H locs) {v : Nat} (hv : v < 19) {x : nVl} (hx : gV τ v = x) {j : Int32} (hin : ¬ (j < 0 ∨ 6 ≤ j.toNatClampNeg)) (hdg : decode cc pc = .ok (.iaload, 1)) (kk : W p l e R s m args below meth c H locs cells slots Q (F0 m (pc + 1) ls (.int ((g_Vl_drifts x) j.toNatClampNeg) :: rest))) : W p l e R s m args below meth c H locs cells slots Q (F0 m pc ls (.int j :: .ref (ad (6*v+3)) :: rest)) := by
  subst hx
  exact nn_ild S hK hw (ce_V (k := 3) hv (by decide)) (by omega) hin hdg kk
theorem as_Vl_drifts (S : CallFix p m c cc nL s args nn_B own) (hK : nn_K D cy s) (hw : nn_W D cy ad A s.heap τ H locs) {v : Nat} (hv : v < 19) {x : nVl} (hx : gV τ v = x) {j : Int32} {y : Int32} (hin : ¬ (j < 0 ∨ 6 ≤ j.toNatClampNeg)) (hτ : sV τ v (s_Vl_drifts x (upd (g_Vl_drifts x) j.toNatClampNeg y)) = τ') (hdg : decode cc pc = .ok (.iastore, 1)) (kk : ∀ (H : Heap) (locs : List Loc), nn_W D cy ad A s.heap τ' H locs → W p l e R s m args below meth c H locs cells slots Q (F0 m (pc + 1) ls rest)) : W p l e R s m args below meth c H locs cells slots Q (F0 m pc ls (.int y :: .int j :: .ref (ad (6*v+3)) :: rest)) := by
  subst hx; subst hτ
  exact nn_ist S hK hw (ce_V (k := 3) hv (by decide)) (by omega) hin (un_V (k := 3) hv (by decide) (fun j hj hne => by rcases j with _ | _ | _ | _ | _ | _ | j <;> first | rfl | exact absurd rfl hne | omega)) hdg kk
theorem al_Vl_miles (S : CallFix p m c cc nL s args nn_B own) (hK : nn_K D cy s) (hw : nn_W D cy ad A s.heap τ H locs) {v : Nat} (hv : v < 19) {x : nVl} (hx : gV τ v = x) {j : Int32} (hin : ¬ (j < 0 ∨ 6 ≤ j.toNatClampNeg)) (hdg : decode cc pc = .ok (.iaload, 1)) (kk : W p l e R s m args below meth c H locs cells slots Q (F0 m (pc + 1) ls (.int ((g_Vl_miles x) j.toNatClampNeg) :: rest))) : W p l e R s m args below meth c H locs cells slots Q (F0 m pc ls (.int j :: .ref (ad (6*v+4)) :: rest)) := by
  subst hx
  exact nn_ild S hK hw (ce_V (k := 4) hv (by decide)) (by omega) hin hdg kk
theorem as_Vl_miles (S : CallFix p m c cc nL s args nn_B own) (hK : nn_K D cy s) (hw : nn_W D cy ad A s.heap τ H locs) {v : Nat} (hv : v < 19) {x : nVl} (hx : gV τ v = x) {j : Int32} {y : Int32} (hin : ¬ (j < 0 ∨ 6 ≤ j.toNatClampNeg)) (hτ : sV τ v (s_Vl_miles x (upd (g_Vl_miles x) j.toNatClampNeg y)) = τ') (hdg : decode cc pc = .ok (.iastore, 1)) (kk : ∀ (H : Heap) (locs : List Loc), nn_W D cy ad A s.heap τ' H locs → W p l e R s m args below meth c H locs cells slots Q (F0 m (pc + 1) ls rest)) : W p l e R s m args below meth c H locs cells slots Q (F0 m pc ls (.int y :: .int j :: .ref (ad (6*v+4)) :: rest)) := by
  subst hx; subst hτ
  exact nn_ist S hK hw (ce_V (k := 4) hv (by decide)) (by omega) hin (un_V (k := 4) hv (by decide) (fun j hj hne => by rcases j with _ | _ | _ | _ | _ | _ | j <;> first | rfl | exact absurd rfl hne | omega)) hdg kk
theorem al_Vl_shifts (S : CallFix p m c cc nL s args nn_B own) (hK : nn_K D cy s) (hw : nn_W D cy ad A s.heap τ H locs) {v : Nat} (hv : v < 19) {x : nVl} (hx : gV τ v = x) {j : Int32} (hin : ¬ (j < 0 ∨ 6 ≤ j.toNatClampNeg)) (hdg : decode cc pc = .ok (.iaload, 1)) (kk : W p l e R s m args below meth c H locs cells slots Q (F0 m (pc + 1) ls (.int ((g_Vl_shifts x) j.toNatClampNeg) :: rest))) : W p l e R s m args below meth c H locs cells slots Q (F0 m pc ls (.int j :: .ref (ad (6*v+5)) :: rest)) := by
  subst hx
  exact nn_ild S hK hw (ce_V (k := 5) hv (by decide)) (by omega) hin hdg kk
theorem as_Vl_shifts (S : CallFix p m c cc nL s args nn_B own) (hK : nn_K D cy s) (hw : nn_W D cy ad A s.heap τ H locs) {v : Nat} (hv : v < 19) {x : nVl} (hx : gV τ v = x) {j : Int32} {y : Int32} (hin : ¬ (j < 0 ∨ 6 ≤ j.toNatClampNeg)) (hτ : sV τ v (s_Vl_shifts x (upd (g_Vl_shifts x) j.toNatClampNeg y)) = τ') (hdg : decode cc pc = .ok (.iastore, 1)) (kk : ∀ (H : Heap) (locs : List Loc), nn_W D cy ad A s.heap τ' H locs → W p l e R s m args below meth c H locs cells slots Q (F0 m (pc + 1) ls rest)) : W p l e R s m args below meth c H locs cells slots Q (F0 m pc ls (.int y :: .int j :: .ref (ad (6*v+5)) :: rest)) := by
  subst hx; subst hτ
  exact nn_ist S hK hw (ce_V (k := 5) hv (by decide)) (by omega) hin (un_V (k := 5) hv (by decide) (fun j hj hne => by rcases j with _ | _ | _ | _ | _ | _ | j <;> first | rfl | exact absurd rfl hne | omega)) hdg kk
theorem al_Sh_items (S : CallFix p m c cc nL s args nn_B own) (hK : nn_K D cy s) (hw : nn_W D cy ad A s.heap τ H locs) {v : Nat} (hv : v < 4) {x : nSh} (hx : gSh τ v = x) {j : Int32} (hin : ¬ (j < 0 ∨ 24 ≤ j.toNatClampNeg)) (hdg : decode cc pc = .ok (.laload, 1)) (kk : W p l e R s m args below meth c H locs cells slots Q (F0 m (pc + 1) ls (.long ((g_Sh_items x) j.toNatClampNeg) :: rest))) : W p l e R s m args below meth c H locs cells slots Q (F0 m pc ls (.int j :: .ref (ad (128+2*v)) :: rest)) := by
  subst hx
  have e0 : 128+2*v = 127+2*v+1 := by omega
  rw [e0]
  exact nn_lld S hK hw (ce_S (k := 1) hv (by decide)) (by omega) hin hdg kk
theorem as_Sh_items (S : CallFix p m c cc nL s args nn_B own) (hK : nn_K D cy s) (hw : nn_W D cy ad A s.heap τ H locs) {v : Nat} (hv : v < 4) {x : nSh} (hx : gSh τ v = x) {j : Int32} {y : Int64} (hin : ¬ (j < 0 ∨ 24 ≤ j.toNatClampNeg)) (hτ : sSh τ v (s_Sh_items x (vp_updL (g_Sh_items x) j.toNatClampNeg y)) = τ') (hdg : decode cc pc = .ok (.lastore, 1)) (kk : ∀ (H : Heap) (locs : List Loc), nn_W D cy ad A s.heap τ' H locs → W p l e R s m args below meth c H locs cells slots Q (F0 m (pc + 1) ls rest)) : W p l e R s m args below meth c H locs cells slots Q (F0 m pc ls (.long y :: .int j :: .ref (ad (128+2*v)) :: rest)) := by
  subst hx; subst hτ
  have e0 : 128+2*v = 127+2*v+1 := by omega
  rw [e0]
  exact nn_lst S hK hw (ce_S (k := 1) hv (by decide)) (by omega) hin (un_S (k := 1) hv (by decide) (fun j hj hne => by rcases j with _ | _ | j <;> first | rfl | exact absurd rfl hne | omega)) hdg kk
theorem al_Ca_order (S : CallFix p m c cc nL s args nn_B own) (hK : nn_K D cy s) (hw : nn_W D cy ad A s.heap τ H locs) {x : nCa} (hx : gCa τ = x) {j : Int32} (hin : ¬ (j < 0 ∨ 6 ≤ j.toNatClampNeg)) (hdg : decode cc pc = .ok (.iaload, 1)) (kk : W p l e R s m args below meth c H locs cells slots Q (F0 m (pc + 1) ls (.int ((g_Ca_order x) j.toNatClampNeg) :: rest))) : W p l e R s m args below meth c H locs cells slots Q (F0 m pc ls (.int j :: .ref (ad (122)) :: rest)) := by
  subst hx
  exact nn_ild S hK hw (ce_O (k := 4) (by decide)) (by decide) hin hdg kk
theorem as_Ca_order (S : CallFix p m c cc nL s args nn_B own) (hK : nn_K D cy s) (hw : nn_W D cy ad A s.heap τ H locs) {x : nCa} (hx : gCa τ = x) {j : Int32} {y : Int32} (hin : ¬ (j < 0 ∨ 6 ≤ j.toNatClampNeg)) (hτ : sCa τ (s_Ca_order x (upd (g_Ca_order x) j.toNatClampNeg y)) = τ') (hdg : decode cc pc = .ok (.iastore, 1)) (kk : ∀ (H : Heap) (locs : List Loc), nn_W D cy ad A s.heap τ' H locs → W p l e R s m args below meth c H locs cells slots Q (F0 m (pc + 1) ls rest)) : W p l e R s m args below meth c H locs cells slots Q (F0 m pc ls (.int y :: .int j :: .ref (ad (122)) :: rest)) := by
  subst hx; subst hτ
  exact nn_ist S hK hw (ce_O (k := 4) (by decide)) (by decide) hin (un_O (k := 4) (by decide) (by rfl) (by rfl) (by rfl) (by rfl) (fun j hj hne => by rcases j with _ | _ | _ | _ | _ | _ | _ | _ | _ | j <;> first | rfl | exact absurd rfl hne | omega)) hdg kk
theorem al_Ca_bestOrder (S : CallFix p m c cc nL s args nn_B own) (hK : nn_K D cy s) (hw : nn_W D cy ad A s.heap τ H locs) {x : nCa} (hx : gCa τ = x) {j : Int32} (hin : ¬ (j < 0 ∨ 6 ≤ j.toNatClampNeg)) (hdg : decode cc pc = .ok (.iaload, 1)) (kk : W p l e R s m args below meth c H locs cells slots Q (F0 m (pc + 1) ls (.int ((g_Ca_bestOrder x) j.toNatClampNeg) :: rest))) : W p l e R s m args below meth c H locs cells slots Q (F0 m pc ls (.int j :: .ref (ad (123)) :: rest)) := by
  subst hx
  exact nn_ild S hK hw (ce_O (k := 5) (by decide)) (by decide) hin hdg kk
theorem as_Ca_bestOrder (S : CallFix p m c cc nL s args nn_B own) (hK : nn_K D cy s) (hw : nn_W D cy ad A s.heap τ H locs) {x : nCa} (hx : gCa τ = x) {j : Int32} {y : Int32} (hin : ¬ (j < 0 ∨ 6 ≤ j.toNatClampNeg)) (hτ : sCa τ (s_Ca_bestOrder x (upd (g_Ca_bestOrder x) j.toNatClampNeg y)) = τ') (hdg : decode cc pc = .ok (.iastore, 1)) (kk : ∀ (H : Heap) (locs : List Loc), nn_W D cy ad A s.heap τ' H locs → W p l e R s m args below meth c H locs cells slots Q (F0 m (pc + 1) ls rest)) : W p l e R s m args below meth c H locs cells slots Q (F0 m pc ls (.int y :: .int j :: .ref (ad (123)) :: rest)) := by
  subst hx; subst hτ
  exact nn_ist S hK hw (ce_O (k := 5) (by decide)) (by decide) hin (un_O (k := 5) (by decide) (by rfl) (by rfl) (by rfl) (by rfl) (fun j hj hne => by rcases j with _ | _ | _ | _ | _ | _ | _ | _ | _ | j <;> first | rfl | exact absurd rfl hne | omega)) hdg kk
theorem al_Ta_letters (S : CallFix p m c cc nL s args nn_B own) (hK : nn_K D cy s) (hw : nn_W D cy ad A s.heap τ H locs) {x : nTa} (hx : gTa τ = x) {j : Int32} (hin : ¬ (j < 0 ∨ 60 ≤ j.toNatClampNeg)) (hdg : decode cc pc = .ok (.caload, 1)) (kk : W p l e R s m args below meth c H locs cells slots Q (F0 m (pc + 1) ls (.int ((g_Ta_letters x) j.toNatClampNeg) :: rest))) : W p l e R s m args below meth c H locs cells slots Q (F0 m pc ls (.int j :: .ref (ad (125)) :: rest)) := by
  subst hx
  exact nn_cld S hK hw (ce_O (k := 7) (by decide)) (by decide) hin hdg kk
theorem as_Ta_letters (S : CallFix p m c cc nL s args nn_B own) (hK : nn_K D cy s) (hw : nn_W D cy ad A s.heap τ H locs) {x : nTa} (hx : gTa τ = x) {j : Int32} {y : Int32} (hin : ¬ (j < 0 ∨ 60 ≤ j.toNatClampNeg)) (hτ : sTa τ (s_Ta_letters x (upd (g_Ta_letters x) j.toNatClampNeg (vp_nar .char y))) = τ') (hdg : decode cc pc = .ok (.castore, 1)) (kk : ∀ (H : Heap) (locs : List Loc), nn_W D cy ad A s.heap τ' H locs → W p l e R s m args below meth c H locs cells slots Q (F0 m (pc + 1) ls rest)) : W p l e R s m args below meth c H locs cells slots Q (F0 m pc ls (.int y :: .int j :: .ref (ad (125)) :: rest)) := by
  subst hx; subst hτ
  exact nn_cst S hK hw (ce_O (k := 7) (by decide)) (by decide) hin (un_O (k := 7) (by decide) (by rfl) (by rfl) (by rfl) (by rfl) (fun j hj hne => by rcases j with _ | _ | _ | _ | _ | _ | _ | _ | _ | j <;> first | rfl | exact absurd rfl hne | omega)) hdg kk
theorem al_Se_shifts (S : CallFix p m c cc nL s args nn_B own) (hK : nn_K D cy s) (hw : nn_W D cy ad A s.heap τ H locs) {x : Nat → Int32} (hx : gSe τ = x) {j : Int32} (hin : ¬ (j < 0 ∨ 6 ≤ j.toNatClampNeg)) (hdg : decode cc pc = .ok (.iaload, 1)) (kk : W p l e R s m args below meth c H locs cells slots Q (F0 m (pc + 1) ls (.int ((x) j.toNatClampNeg) :: rest))) : W p l e R s m args below meth c H locs cells slots Q (F0 m pc ls (.int j :: .ref (ad (120)) :: rest)) := by
  subst hx
  exact nn_ild S hK hw (ce_O (k := 2) (by decide)) (by decide) hin hdg kk
theorem as_Se_shifts (S : CallFix p m c cc nL s args nn_B own) (hK : nn_K D cy s) (hw : nn_W D cy ad A s.heap τ H locs) {x : Nat → Int32} (hx : gSe τ = x) {j : Int32} {y : Int32} (hin : ¬ (j < 0 ∨ 6 ≤ j.toNatClampNeg)) (hτ : sSe τ (upd (x) j.toNatClampNeg y) = τ') (hdg : decode cc pc = .ok (.iastore, 1)) (kk : ∀ (H : Heap) (locs : List Loc), nn_W D cy ad A s.heap τ' H locs → W p l e R s m args below meth c H locs cells slots Q (F0 m (pc + 1) ls rest)) : W p l e R s m args below meth c H locs cells slots Q (F0 m pc ls (.int y :: .int j :: .ref (ad (120)) :: rest)) := by
  subst hx; subst hτ
  exact nn_ist S hK hw (ce_O (k := 2) (by decide)) (by decide) hin (un_O (k := 2) (by decide) (by rfl) (by rfl) (by rfl) (by rfl) (fun j hj hne => by rcases j with _ | _ | _ | _ | _ | _ | _ | _ | _ | j <;> first | rfl | exact absurd rfl hne | omega)) hdg kk
theorem al_Md_now (S : CallFix p m c cc nL s args nn_B own) (hK : nn_K D cy s) (hw : nn_W D cy ad A s.heap τ H locs) {x : nMd} (hx : gM τ = x) {j : Int32} (hin : ¬ (j < 0 ∨ 27 ≤ j.toNatClampNeg)) (hdg : decode cc pc = .ok (.iaload, 1)) (kk : W p l e R s m args below meth c H locs cells slots Q (F0 m (pc + 1) ls (.int ((g_Md_now x) j.toNatClampNeg) :: rest))) : W p l e R s m args below meth c H locs cells slots Q (F0 m pc ls (.int j :: .ref (ad (136)) :: rest)) := by
  subst hx
  exact nn_ild S hK hw (ce_M (k := 1)) (by decide) hin hdg kk
theorem as_Md_now (S : CallFix p m c cc nL s args nn_B own) (hK : nn_K D cy s) (hw : nn_W D cy ad A s.heap τ H locs) {x : nMd} (hx : gM τ = x) {j : Int32} {y : Int32} (hin : ¬ (j < 0 ∨ 27 ≤ j.toNatClampNeg)) (hτ : sM τ (s_Md_now x (upd (g_Md_now x) j.toNatClampNeg y)) = τ') (hdg : decode cc pc = .ok (.iastore, 1)) (kk : ∀ (H : Heap) (locs : List Loc), nn_W D cy ad A s.heap τ' H locs → W p l e R s m args below meth c H locs cells slots Q (F0 m (pc + 1) ls rest)) : W p l e R s m args below meth c H locs cells slots Q (F0 m pc ls (.int y :: .int j :: .ref (ad (136)) :: rest)) := by
  subst hx; subst hτ
  exact nn_ist S hK hw (ce_M (k := 1)) (by decide) hin (un_M (k := 1) (by decide) (fun j hj hne => by rcases j with _ | _ | _ | _ | _ | _ | _ | _ | _ | _ | _ | _ | _ | _ | _ | j <;> first | rfl | exact absurd rfl hne | omega)) hdg kk
theorem al_Md_later (S : CallFix p m c cc nL s args nn_B own) (hK : nn_K D cy s) (hw : nn_W D cy ad A s.heap τ H locs) {x : nMd} (hx : gM τ = x) {j : Int32} (hin : ¬ (j < 0 ∨ 6 ≤ j.toNatClampNeg)) (hdg : decode cc pc = .ok (.iaload, 1)) (kk : W p l e R s m args below meth c H locs cells slots Q (F0 m (pc + 1) ls (.int ((g_Md_later x) j.toNatClampNeg) :: rest))) : W p l e R s m args below meth c H locs cells slots Q (F0 m pc ls (.int j :: .ref (ad (137)) :: rest)) := by
  subst hx
  exact nn_ild S hK hw (ce_M (k := 2)) (by decide) hin hdg kk
theorem as_Md_later (S : CallFix p m c cc nL s args nn_B own) (hK : nn_K D cy s) (hw : nn_W D cy ad A s.heap τ H locs) {x : nMd} (hx : gM τ = x) {j : Int32} {y : Int32} (hin : ¬ (j < 0 ∨ 6 ≤ j.toNatClampNeg)) (hτ : sM τ (s_Md_later x (upd (g_Md_later x) j.toNatClampNeg y)) = τ') (hdg : decode cc pc = .ok (.iastore, 1)) (kk : ∀ (H : Heap) (locs : List Loc), nn_W D cy ad A s.heap τ' H locs → W p l e R s m args below meth c H locs cells slots Q (F0 m (pc + 1) ls rest)) : W p l e R s m args below meth c H locs cells slots Q (F0 m pc ls (.int y :: .int j :: .ref (ad (137)) :: rest)) := by
  subst hx; subst hτ
  exact nn_ist S hK hw (ce_M (k := 2)) (by decide) hin (un_M (k := 2) (by decide) (fun j hj hne => by rcases j with _ | _ | _ | _ | _ | _ | _ | _ | _ | _ | _ | _ | _ | _ | _ | j <;> first | rfl | exact absurd rfl hne | omega)) hdg kk
theorem al_Md_tape (S : CallFix p m c cc nL s args nn_B own) (hK : nn_K D cy s) (hw : nn_W D cy ad A s.heap τ H locs) {x : nMd} (hx : gM τ = x) {j : Int32} (hin : ¬ (j < 0 ∨ 60 ≤ j.toNatClampNeg)) (hdg : decode cc pc = .ok (.iaload, 1)) (kk : W p l e R s m args below meth c H locs cells slots Q (F0 m (pc + 1) ls (.int ((g_Md_tape x) j.toNatClampNeg) :: rest))) : W p l e R s m args below meth c H locs cells slots Q (F0 m pc ls (.int j :: .ref (ad (138)) :: rest)) := by
  subst hx
  exact nn_ild S hK hw (ce_M (k := 3)) (by decide) hin hdg kk
theorem as_Md_tape (S : CallFix p m c cc nL s args nn_B own) (hK : nn_K D cy s) (hw : nn_W D cy ad A s.heap τ H locs) {x : nMd} (hx : gM τ = x) {j : Int32} {y : Int32} (hin : ¬ (j < 0 ∨ 60 ≤ j.toNatClampNeg)) (hτ : sM τ (s_Md_tape x (upd (g_Md_tape x) j.toNatClampNeg y)) = τ') (hdg : decode cc pc = .ok (.iastore, 1)) (kk : ∀ (H : Heap) (locs : List Loc), nn_W D cy ad A s.heap τ' H locs → W p l e R s m args below meth c H locs cells slots Q (F0 m (pc + 1) ls rest)) : W p l e R s m args below meth c H locs cells slots Q (F0 m pc ls (.int y :: .int j :: .ref (ad (138)) :: rest)) := by
  subst hx; subst hτ
  exact nn_ist S hK hw (ce_M (k := 3)) (by decide) hin (un_M (k := 3) (by decide) (fun j hj hne => by rcases j with _ | _ | _ | _ | _ | _ | _ | _ | _ | _ | _ | _ | _ | _ | _ | j <;> first | rfl | exact absurd rfl hne | omega)) hdg kk
theorem al_Md_read (S : CallFix p m c cc nL s args nn_B own) (hK : nn_K D cy s) (hw : nn_W D cy ad A s.heap τ H locs) {x : nMd} (hx : gM τ = x) {j : Int32} (hin : ¬ (j < 0 ∨ 24 ≤ j.toNatClampNeg)) (hdg : decode cc pc = .ok (.iaload, 1)) (kk : W p l e R s m args below meth c H locs cells slots Q (F0 m (pc + 1) ls (.int ((g_Md_read x) j.toNatClampNeg) :: rest))) : W p l e R s m args below meth c H locs cells slots Q (F0 m pc ls (.int j :: .ref (ad (139)) :: rest)) := by
  subst hx
  exact nn_ild S hK hw (ce_M (k := 4)) (by decide) hin hdg kk
theorem as_Md_read (S : CallFix p m c cc nL s args nn_B own) (hK : nn_K D cy s) (hw : nn_W D cy ad A s.heap τ H locs) {x : nMd} (hx : gM τ = x) {j : Int32} {y : Int32} (hin : ¬ (j < 0 ∨ 24 ≤ j.toNatClampNeg)) (hτ : sM τ (s_Md_read x (upd (g_Md_read x) j.toNatClampNeg y)) = τ') (hdg : decode cc pc = .ok (.iastore, 1)) (kk : ∀ (H : Heap) (locs : List Loc), nn_W D cy ad A s.heap τ' H locs → W p l e R s m args below meth c H locs cells slots Q (F0 m (pc + 1) ls rest)) : W p l e R s m args below meth c H locs cells slots Q (F0 m pc ls (.int y :: .int j :: .ref (ad (139)) :: rest)) := by
  subst hx; subst hτ
  exact nn_ist S hK hw (ce_M (k := 4)) (by decide) hin (un_M (k := 4) (by decide) (fun j hj hne => by rcases j with _ | _ | _ | _ | _ | _ | _ | _ | _ | _ | _ | _ | _ | _ | _ | j <;> first | rfl | exact absurd rfl hne | omega)) hdg kk
theorem al_Md_undone (S : CallFix p m c cc nL s args nn_B own) (hK : nn_K D cy s) (hw : nn_W D cy ad A s.heap τ H locs) {x : nMd} (hx : gM τ = x) {j : Int32} (hin : ¬ (j < 0 ∨ 216 ≤ j.toNatClampNeg)) (hdg : decode cc pc = .ok (.iaload, 1)) (kk : W p l e R s m args below meth c H locs cells slots Q (F0 m (pc + 1) ls (.int ((g_Md_undone x) j.toNatClampNeg) :: rest))) : W p l e R s m args below meth c H locs cells slots Q (F0 m pc ls (.int j :: .ref (ad (140)) :: rest)) := by
  subst hx
  exact nn_ild S hK hw (ce_M (k := 5)) (by decide) hin hdg kk
theorem as_Md_undone (S : CallFix p m c cc nL s args nn_B own) (hK : nn_K D cy s) (hw : nn_W D cy ad A s.heap τ H locs) {x : nMd} (hx : gM τ = x) {j : Int32} {y : Int32} (hin : ¬ (j < 0 ∨ 216 ≤ j.toNatClampNeg)) (hτ : sM τ (s_Md_undone x (upd (g_Md_undone x) j.toNatClampNeg y)) = τ') (hdg : decode cc pc = .ok (.iastore, 1)) (kk : ∀ (H : Heap) (locs : List Loc), nn_W D cy ad A s.heap τ' H locs → W p l e R s m args below meth c H locs cells slots Q (F0 m (pc + 1) ls rest)) : W p l e R s m args below meth c H locs cells slots Q (F0 m pc ls (.int y :: .int j :: .ref (ad (140)) :: rest)) := by
  subst hx; subst hτ
  exact nn_ist S hK hw (ce_M (k := 5)) (by decide) hin (un_M (k := 5) (by decide) (fun j hj hne => by rcases j with _ | _ | _ | _ | _ | _ | _ | _ | _ | _ | _ | _ | _ | _ | _ | j <;> first | rfl | exact absurd rfl hne | omega)) hdg kk
theorem al_Md_aside (S : CallFix p m c cc nL s args nn_B own) (hK : nn_K D cy s) (hw : nn_W D cy ad A s.heap τ H locs) {x : nMd} (hx : gM τ = x) {j : Int32} (hin : ¬ (j < 0 ∨ 27 ≤ j.toNatClampNeg)) (hdg : decode cc pc = .ok (.iaload, 1)) (kk : W p l e R s m args below meth c H locs cells slots Q (F0 m (pc + 1) ls (.int ((g_Md_aside x) j.toNatClampNeg) :: rest))) : W p l e R s m args below meth c H locs cells slots Q (F0 m pc ls (.int j :: .ref (ad (141)) :: rest)) := by
  subst hx
  exact nn_ild S hK hw (ce_M (k := 6)) (by decide) hin hdg kk
theorem as_Md_aside (S : CallFix p m c cc nL s args nn_B own) (hK : nn_K D cy s) (hw : nn_W D cy ad A s.heap τ H locs) {x : nMd} (hx : gM τ = x) {j : Int32} {y : Int32} (hin : ¬ (j < 0 ∨ 27 ≤ j.toNatClampNeg)) (hτ : sM τ (s_Md_aside x (upd (g_Md_aside x) j.toNatClampNeg y)) = τ') (hdg : decode cc pc = .ok (.iastore, 1)) (kk : ∀ (H : Heap) (locs : List Loc), nn_W D cy ad A s.heap τ' H locs → W p l e R s m args below meth c H locs cells slots Q (F0 m (pc + 1) ls rest)) : W p l e R s m args below meth c H locs cells slots Q (F0 m pc ls (.int y :: .int j :: .ref (ad (141)) :: rest)) := by
  subst hx; subst hτ
  exact nn_ist S hK hw (ce_M (k := 6)) (by decide) hin (un_M (k := 6) (by decide) (fun j hj hne => by rcases j with _ | _ | _ | _ | _ | _ | _ | _ | _ | _ | _ | _ | _ | _ | _ | j <;> first | rfl | exact absurd rfl hne | omega)) hdg kk
theorem al_Md_by (S : CallFix p m c cc nL s args nn_B own) (hK : nn_K D cy s) (hw : nn_W D cy ad A s.heap τ H locs) {x : nMd} (hx : gM τ = x) {j : Int32} (hin : ¬ (j < 0 ∨ 6 ≤ j.toNatClampNeg)) (hdg : decode cc pc = .ok (.iaload, 1)) (kk : W p l e R s m args below meth c H locs cells slots Q (F0 m (pc + 1) ls (.int ((g_Md_by x) j.toNatClampNeg) :: rest))) : W p l e R s m args below meth c H locs cells slots Q (F0 m pc ls (.int j :: .ref (ad (142)) :: rest)) := by
  subst hx
  exact nn_ild S hK hw (ce_M (k := 7)) (by decide) hin hdg kk
theorem as_Md_by (S : CallFix p m c cc nL s args nn_B own) (hK : nn_K D cy s) (hw : nn_W D cy ad A s.heap τ H locs) {x : nMd} (hx : gM τ = x) {j : Int32} {y : Int32} (hin : ¬ (j < 0 ∨ 6 ≤ j.toNatClampNeg)) (hτ : sM τ (s_Md_by x (upd (g_Md_by x) j.toNatClampNeg y)) = τ') (hdg : decode cc pc = .ok (.iastore, 1)) (kk : ∀ (H : Heap) (locs : List Loc), nn_W D cy ad A s.heap τ' H locs → W p l e R s m args below meth c H locs cells slots Q (F0 m (pc + 1) ls rest)) : W p l e R s m args below meth c H locs cells slots Q (F0 m pc ls (.int y :: .int j :: .ref (ad (142)) :: rest)) := by
  subst hx; subst hτ
  exact nn_ist S hK hw (ce_M (k := 7)) (by decide) hin (un_M (k := 7) (by decide) (fun j hj hne => by rcases j with _ | _ | _ | _ | _ | _ | _ | _ | _ | _ | _ | _ | _ | _ | _ | j <;> first | rfl | exact absurd rfl hne | omega)) hdg kk
theorem al_Md_best (S : CallFix p m c cc nL s args nn_B own) (hK : nn_K D cy s) (hw : nn_W D cy ad A s.heap τ H locs) {x : nMd} (hx : gM τ = x) {j : Int32} (hin : ¬ (j < 0 ∨ 6 ≤ j.toNatClampNeg)) (hdg : decode cc pc = .ok (.iaload, 1)) (kk : W p l e R s m args below meth c H locs cells slots Q (F0 m (pc + 1) ls (.int ((g_Md_best x) j.toNatClampNeg) :: rest))) : W p l e R s m args below meth c H locs cells slots Q (F0 m pc ls (.int j :: .ref (ad (143)) :: rest)) := by
  subst hx
  exact nn_ild S hK hw (ce_M (k := 8)) (by decide) hin hdg kk
theorem as_Md_best (S : CallFix p m c cc nL s args nn_B own) (hK : nn_K D cy s) (hw : nn_W D cy ad A s.heap τ H locs) {x : nMd} (hx : gM τ = x) {j : Int32} {y : Int32} (hin : ¬ (j < 0 ∨ 6 ≤ j.toNatClampNeg)) (hτ : sM τ (s_Md_best x (upd (g_Md_best x) j.toNatClampNeg y)) = τ') (hdg : decode cc pc = .ok (.iastore, 1)) (kk : ∀ (H : Heap) (locs : List Loc), nn_W D cy ad A s.heap τ' H locs → W p l e R s m args below meth c H locs cells slots Q (F0 m (pc + 1) ls rest)) : W p l e R s m args below meth c H locs cells slots Q (F0 m pc ls (.int y :: .int j :: .ref (ad (143)) :: rest)) := by
  subst hx; subst hτ
  exact nn_ist S hK hw (ce_M (k := 8)) (by decide) hin (un_M (k := 8) (by decide) (fun j hj hne => by rcases j with _ | _ | _ | _ | _ | _ | _ | _ | _ | _ | _ | _ | _ | _ | _ | j <;> first | rfl | exact absurd rfl hne | omega)) hdg kk
theorem al_Md_order (S : CallFix p m c cc nL s args nn_B own) (hK : nn_K D cy s) (hw : nn_W D cy ad A s.heap τ H locs) {x : nMd} (hx : gM τ = x) {j : Int32} (hin : ¬ (j < 0 ∨ 6 ≤ j.toNatClampNeg)) (hdg : decode cc pc = .ok (.iaload, 1)) (kk : W p l e R s m args below meth c H locs cells slots Q (F0 m (pc + 1) ls (.int ((g_Md_order x) j.toNatClampNeg) :: rest))) : W p l e R s m args below meth c H locs cells slots Q (F0 m pc ls (.int j :: .ref (ad (144)) :: rest)) := by
  subst hx
  exact nn_ild S hK hw (ce_M (k := 9)) (by decide) hin hdg kk
theorem as_Md_order (S : CallFix p m c cc nL s args nn_B own) (hK : nn_K D cy s) (hw : nn_W D cy ad A s.heap τ H locs) {x : nMd} (hx : gM τ = x) {j : Int32} {y : Int32} (hin : ¬ (j < 0 ∨ 6 ≤ j.toNatClampNeg)) (hτ : sM τ (s_Md_order x (upd (g_Md_order x) j.toNatClampNeg y)) = τ') (hdg : decode cc pc = .ok (.iastore, 1)) (kk : ∀ (H : Heap) (locs : List Loc), nn_W D cy ad A s.heap τ' H locs → W p l e R s m args below meth c H locs cells slots Q (F0 m (pc + 1) ls rest)) : W p l e R s m args below meth c H locs cells slots Q (F0 m pc ls (.int y :: .int j :: .ref (ad (144)) :: rest)) := by
  subst hx; subst hτ
  exact nn_ist S hK hw (ce_M (k := 9)) (by decide) hin (un_M (k := 9) (by decide) (fun j hj hne => by rcases j with _ | _ | _ | _ | _ | _ | _ | _ | _ | _ | _ | _ | _ | _ | _ | j <;> first | rfl | exact absurd rfl hne | omega)) hdg kk
theorem al_Md_kept (S : CallFix p m c cc nL s args nn_B own) (hK : nn_K D cy s) (hw : nn_W D cy ad A s.heap τ H locs) {x : nMd} (hx : gM τ = x) {j : Int32} (hin : ¬ (j < 0 ∨ 243 ≤ j.toNatClampNeg)) (hdg : decode cc pc = .ok (.iaload, 1)) (kk : W p l e R s m args below meth c H locs cells slots Q (F0 m (pc + 1) ls (.int ((g_Md_kept x) j.toNatClampNeg) :: rest))) : W p l e R s m args below meth c H locs cells slots Q (F0 m pc ls (.int j :: .ref (ad (145)) :: rest)) := by
  subst hx
  exact nn_ild S hK hw (ce_M (k := 10)) (by decide) hin hdg kk
theorem as_Md_kept (S : CallFix p m c cc nL s args nn_B own) (hK : nn_K D cy s) (hw : nn_W D cy ad A s.heap τ H locs) {x : nMd} (hx : gM τ = x) {j : Int32} {y : Int32} (hin : ¬ (j < 0 ∨ 243 ≤ j.toNatClampNeg)) (hτ : sM τ (s_Md_kept x (upd (g_Md_kept x) j.toNatClampNeg y)) = τ') (hdg : decode cc pc = .ok (.iastore, 1)) (kk : ∀ (H : Heap) (locs : List Loc), nn_W D cy ad A s.heap τ' H locs → W p l e R s m args below meth c H locs cells slots Q (F0 m (pc + 1) ls rest)) : W p l e R s m args below meth c H locs cells slots Q (F0 m pc ls (.int y :: .int j :: .ref (ad (145)) :: rest)) := by
  subst hx; subst hτ
  exact nn_ist S hK hw (ce_M (k := 10)) (by decide) hin (un_M (k := 10) (by decide) (fun j hj hne => by rcases j with _ | _ | _ | _ | _ | _ | _ | _ | _ | _ | _ | _ | _ | _ | _ | j <;> first | rfl | exact absurd rfl hne | omega)) hdg kk
theorem al_Md_lanes (S : CallFix p m c cc nL s args nn_B own) (hK : nn_K D cy s) (hw : nn_W D cy ad A s.heap τ H locs) {x : nMd} (hx : gM τ = x) {j : Int32} (hin : ¬ (j < 0 ∨ 4 ≤ j.toNatClampNeg)) (hdg : decode cc pc = .ok (.iaload, 1)) (kk : W p l e R s m args below meth c H locs cells slots Q (F0 m (pc + 1) ls (.int ((g_Md_lanes x) j.toNatClampNeg) :: rest))) : W p l e R s m args below meth c H locs cells slots Q (F0 m pc ls (.int j :: .ref (ad (146)) :: rest)) := by
  subst hx
  exact nn_ild S hK hw (ce_M (k := 11)) (by decide) hin hdg kk
theorem as_Md_lanes (S : CallFix p m c cc nL s args nn_B own) (hK : nn_K D cy s) (hw : nn_W D cy ad A s.heap τ H locs) {x : nMd} (hx : gM τ = x) {j : Int32} {y : Int32} (hin : ¬ (j < 0 ∨ 4 ≤ j.toNatClampNeg)) (hτ : sM τ (s_Md_lanes x (upd (g_Md_lanes x) j.toNatClampNeg y)) = τ') (hdg : decode cc pc = .ok (.iastore, 1)) (kk : ∀ (H : Heap) (locs : List Loc), nn_W D cy ad A s.heap τ' H locs → W p l e R s m args below meth c H locs cells slots Q (F0 m (pc + 1) ls rest)) : W p l e R s m args below meth c H locs cells slots Q (F0 m pc ls (.int y :: .int j :: .ref (ad (146)) :: rest)) := by
  subst hx; subst hτ
  exact nn_ist S hK hw (ce_M (k := 11)) (by decide) hin (un_M (k := 11) (by decide) (fun j hj hne => by rcases j with _ | _ | _ | _ | _ | _ | _ | _ | _ | _ | _ | _ | _ | _ | _ | j <;> first | rfl | exact absurd rfl hne | omega)) hdg kk
theorem al_Md_sizes (S : CallFix p m c cc nL s args nn_B own) (hK : nn_K D cy s) (hw : nn_W D cy ad A s.heap τ H locs) {x : nMd} (hx : gM τ = x) {j : Int32} (hin : ¬ (j < 0 ∨ 4 ≤ j.toNatClampNeg)) (hdg : decode cc pc = .ok (.iaload, 1)) (kk : W p l e R s m args below meth c H locs cells slots Q (F0 m (pc + 1) ls (.int ((g_Md_sizes x) j.toNatClampNeg) :: rest))) : W p l e R s m args below meth c H locs cells slots Q (F0 m pc ls (.int j :: .ref (ad (147)) :: rest)) := by
  subst hx
  exact nn_ild S hK hw (ce_M (k := 12)) (by decide) hin hdg kk
theorem as_Md_sizes (S : CallFix p m c cc nL s args nn_B own) (hK : nn_K D cy s) (hw : nn_W D cy ad A s.heap τ H locs) {x : nMd} (hx : gM τ = x) {j : Int32} {y : Int32} (hin : ¬ (j < 0 ∨ 4 ≤ j.toNatClampNeg)) (hτ : sM τ (s_Md_sizes x (upd (g_Md_sizes x) j.toNatClampNeg y)) = τ') (hdg : decode cc pc = .ok (.iastore, 1)) (kk : ∀ (H : Heap) (locs : List Loc), nn_W D cy ad A s.heap τ' H locs → W p l e R s m args below meth c H locs cells slots Q (F0 m (pc + 1) ls rest)) : W p l e R s m args below meth c H locs cells slots Q (F0 m pc ls (.int y :: .int j :: .ref (ad (147)) :: rest)) := by
  subst hx; subst hτ
  exact nn_ist S hK hw (ce_M (k := 12)) (by decide) hin (un_M (k := 12) (by decide) (fun j hj hne => by rcases j with _ | _ | _ | _ | _ | _ | _ | _ | _ | _ | _ | _ | _ | _ | _ | j <;> first | rfl | exact absurd rfl hne | omega)) hdg kk
theorem al_Md_items (S : CallFix p m c cc nL s args nn_B own) (hK : nn_K D cy s) (hw : nn_W D cy ad A s.heap τ H locs) {x : nMd} (hx : gM τ = x) {j : Int32} (hin : ¬ (j < 0 ∨ 96 ≤ j.toNatClampNeg)) (hdg : decode cc pc = .ok (.laload, 1)) (kk : W p l e R s m args below meth c H locs cells slots Q (F0 m (pc + 1) ls (.long ((g_Md_items x) j.toNatClampNeg) :: rest))) : W p l e R s m args below meth c H locs cells slots Q (F0 m pc ls (.int j :: .ref (ad (148)) :: rest)) := by
  subst hx
  exact nn_lld S hK hw (ce_M (k := 13)) (by decide) hin hdg kk
theorem as_Md_items (S : CallFix p m c cc nL s args nn_B own) (hK : nn_K D cy s) (hw : nn_W D cy ad A s.heap τ H locs) {x : nMd} (hx : gM τ = x) {j : Int32} {y : Int64} (hin : ¬ (j < 0 ∨ 96 ≤ j.toNatClampNeg)) (hτ : sM τ (s_Md_items x (vp_updL (g_Md_items x) j.toNatClampNeg y)) = τ') (hdg : decode cc pc = .ok (.lastore, 1)) (kk : ∀ (H : Heap) (locs : List Loc), nn_W D cy ad A s.heap τ' H locs → W p l e R s m args below meth c H locs cells slots Q (F0 m (pc + 1) ls rest)) : W p l e R s m args below meth c H locs cells slots Q (F0 m pc ls (.long y :: .int j :: .ref (ad (148)) :: rest)) := by
  subst hx; subst hτ
  exact nn_lst S hK hw (ce_M (k := 13)) (by decide) hin (un_M (k := 13) (by decide) (fun j hj hne => by rcases j with _ | _ | _ | _ | _ | _ | _ | _ | _ | _ | _ | _ | _ | _ | _ | j <;> first | rfl | exact absurd rfl hne | omega)) hdg kk
theorem al_Md_moved (S : CallFix p m c cc nL s args nn_B own) (hK : nn_K D cy s) (hw : nn_W D cy ad A s.heap τ H locs) {x : nMd} (hx : gM τ = x) {j : Int32} (hin : ¬ (j < 0 ∨ 24 ≤ j.toNatClampNeg)) (hdg : decode cc pc = .ok (.laload, 1)) (kk : W p l e R s m args below meth c H locs cells slots Q (F0 m (pc + 1) ls (.long ((g_Md_moved x) j.toNatClampNeg) :: rest))) : W p l e R s m args below meth c H locs cells slots Q (F0 m pc ls (.int j :: .ref (ad (149)) :: rest)) := by
  subst hx
  exact nn_lld S hK hw (ce_M (k := 14)) (by decide) hin hdg kk
theorem as_Md_moved (S : CallFix p m c cc nL s args nn_B own) (hK : nn_K D cy s) (hw : nn_W D cy ad A s.heap τ H locs) {x : nMd} (hx : gM τ = x) {j : Int32} {y : Int64} (hin : ¬ (j < 0 ∨ 24 ≤ j.toNatClampNeg)) (hτ : sM τ (s_Md_moved x (vp_updL (g_Md_moved x) j.toNatClampNeg y)) = τ') (hdg : decode cc pc = .ok (.lastore, 1)) (kk : ∀ (H : Heap) (locs : List Loc), nn_W D cy ad A s.heap τ' H locs → W p l e R s m args below meth c H locs cells slots Q (F0 m (pc + 1) ls rest)) : W p l e R s m args below meth c H locs cells slots Q (F0 m pc ls (.long y :: .int j :: .ref (ad (149)) :: rest)) := by
  subst hx; subst hτ
  exact nn_lst S hK hw (ce_M (k := 14)) (by decide) hin (un_M (k := 14) (by decide) (fun j hj hne => by rcases j with _ | _ | _ | _ | _ | _ | _ | _ | _ | _ | _ | _ | _ | _ | _ | j <;> first | rfl | exact absurd rfl hne | omega)) hdg kk
theorem ac_Vl_kinds (S : CallFix p m c cc nL s args nn_B own) (hK : nn_K D cy s) (hw : nn_W D cy ad A s.heap τ H locs) {v w : Nat} (hv : v < 19) (hw9 : w < 19) {x z : nVl} (hx : gV τ v = x) (hz : gV τ w = z) {sp dp n : Int32} (h1 : ¬ sp < 0) (h2 : ¬ dp < 0) (h3 : ¬ n < 0) (h4 : sp.toNatClampNeg + n.toNatClampNeg ≤ 6) (h5 : dp.toNatClampNeg + n.toNatClampNeg ≤ 6) (hsz : ls.size = nL) (hf : 1 ≤ R.frames) (hl : (rest.map fun v => v.category).sum + (nativeFrameWords "java/lang/System" "arraycopy" 5 + 11) ≤ R.locals) (hτ : sV τ v (s_Vl_kinds x (va_cpy (g_Vl_kinds z) (g_Vl_kinds x) sp.toNatClampNeg dp.toNatClampNeg n.toNatClampNeg)) = τ') {index : Nat} (hlink : Cond.methodLink own index arraycopyName ∈ nn_B) (hdg : decode cc pc = .ok (.invokestatic index, 3)) (kk : ∀ (H : Heap) (locs : List Loc), nn_W D cy ad A s.heap τ' H locs → W p l e R s m args below meth c H locs cells slots Q (F0 m (pc + 3) ls rest)) : W p l e R s m args below meth c H locs cells slots Q (F0 m pc ls (.int n :: .int dp :: .ref (ad (6*v+1)) :: .int sp :: .ref (ad (6*w+1)) :: rest)) := by
  subst hx; subst hz; subst hτ
  exact nn_acI S hK hw (ce_V (k := 1) hw9 (by decide)) (by omega) (ce_V (k := 1) hv (by decide)) (by omega) h1 h2 h3 h4 h5 hsz hf hl (un_V (k := 1) hv (by decide) (fun j hj hne => by rcases j with _ | _ | _ | _ | _ | _ | j <;> first | rfl | exact absurd rfl hne | omega)) hlink hdg kk
theorem ac_Vl_minutes (S : CallFix p m c cc nL s args nn_B own) (hK : nn_K D cy s) (hw : nn_W D cy ad A s.heap τ H locs) {v w : Nat} (hv : v < 19) (hw9 : w < 19) {x z : nVl} (hx : gV τ v = x) (hz : gV τ w = z) {sp dp n : Int32} (h1 : ¬ sp < 0) (h2 : ¬ dp < 0) (h3 : ¬ n < 0) (h4 : sp.toNatClampNeg + n.toNatClampNeg ≤ 6) (h5 : dp.toNatClampNeg + n.toNatClampNeg ≤ 6) (hsz : ls.size = nL) (hf : 1 ≤ R.frames) (hl : (rest.map fun v => v.category).sum + (nativeFrameWords "java/lang/System" "arraycopy" 5 + 11) ≤ R.locals) (hτ : sV τ v (s_Vl_minutes x (va_cpy (g_Vl_minutes z) (g_Vl_minutes x) sp.toNatClampNeg dp.toNatClampNeg n.toNatClampNeg)) = τ') {index : Nat} (hlink : Cond.methodLink own index arraycopyName ∈ nn_B) (hdg : decode cc pc = .ok (.invokestatic index, 3)) (kk : ∀ (H : Heap) (locs : List Loc), nn_W D cy ad A s.heap τ' H locs → W p l e R s m args below meth c H locs cells slots Q (F0 m (pc + 3) ls rest)) : W p l e R s m args below meth c H locs cells slots Q (F0 m pc ls (.int n :: .int dp :: .ref (ad (6*v+2)) :: .int sp :: .ref (ad (6*w+2)) :: rest)) := by
  subst hx; subst hz; subst hτ
  exact nn_acI S hK hw (ce_V (k := 2) hw9 (by decide)) (by omega) (ce_V (k := 2) hv (by decide)) (by omega) h1 h2 h3 h4 h5 hsz hf hl (un_V (k := 2) hv (by decide) (fun j hj hne => by rcases j with _ | _ | _ | _ | _ | _ | j <;> first | rfl | exact absurd rfl hne | omega)) hlink hdg kk
theorem ac_Vl_drifts (S : CallFix p m c cc nL s args nn_B own) (hK : nn_K D cy s) (hw : nn_W D cy ad A s.heap τ H locs) {v w : Nat} (hv : v < 19) (hw9 : w < 19) {x z : nVl} (hx : gV τ v = x) (hz : gV τ w = z) {sp dp n : Int32} (h1 : ¬ sp < 0) (h2 : ¬ dp < 0) (h3 : ¬ n < 0) (h4 : sp.toNatClampNeg + n.toNatClampNeg ≤ 6) (h5 : dp.toNatClampNeg + n.toNatClampNeg ≤ 6) (hsz : ls.size = nL) (hf : 1 ≤ R.frames) (hl : (rest.map fun v => v.category).sum + (nativeFrameWords "java/lang/System" "arraycopy" 5 + 11) ≤ R.locals) (hτ : sV τ v (s_Vl_drifts x (va_cpy (g_Vl_drifts z) (g_Vl_drifts x) sp.toNatClampNeg dp.toNatClampNeg n.toNatClampNeg)) = τ') {index : Nat} (hlink : Cond.methodLink own index arraycopyName ∈ nn_B) (hdg : decode cc pc = .ok (.invokestatic index, 3)) (kk : ∀ (H : Heap) (locs : List Loc), nn_W D cy ad A s.heap τ' H locs → W p l e R s m args below meth c H locs cells slots Q (F0 m (pc + 3) ls rest)) : W p l e R s m args below meth c H locs cells slots Q (F0 m pc ls (.int n :: .int dp :: .ref (ad (6*v+3)) :: .int sp :: .ref (ad (6*w+3)) :: rest)) := by
  subst hx; subst hz; subst hτ
  exact nn_acI S hK hw (ce_V (k := 3) hw9 (by decide)) (by omega) (ce_V (k := 3) hv (by decide)) (by omega) h1 h2 h3 h4 h5 hsz hf hl (un_V (k := 3) hv (by decide) (fun j hj hne => by rcases j with _ | _ | _ | _ | _ | _ | j <;> first | rfl | exact absurd rfl hne | omega)) hlink hdg kk
theorem ac_Vl_miles (S : CallFix p m c cc nL s args nn_B own) (hK : nn_K D cy s) (hw : nn_W D cy ad A s.heap τ H locs) {v w : Nat} (hv : v < 19) (hw9 : w < 19) {x z : nVl} (hx : gV τ v = x) (hz : gV τ w = z) {sp dp n : Int32} (h1 : ¬ sp < 0) (h2 : ¬ dp < 0) (h3 : ¬ n < 0) (h4 : sp.toNatClampNeg + n.toNatClampNeg ≤ 6) (h5 : dp.toNatClampNeg + n.toNatClampNeg ≤ 6) (hsz : ls.size = nL) (hf : 1 ≤ R.frames) (hl : (rest.map fun v => v.category).sum + (nativeFrameWords "java/lang/System" "arraycopy" 5 + 11) ≤ R.locals) (hτ : sV τ v (s_Vl_miles x (va_cpy (g_Vl_miles z) (g_Vl_miles x) sp.toNatClampNeg dp.toNatClampNeg n.toNatClampNeg)) = τ') {index : Nat} (hlink : Cond.methodLink own index arraycopyName ∈ nn_B) (hdg : decode cc pc = .ok (.invokestatic index, 3)) (kk : ∀ (H : Heap) (locs : List Loc), nn_W D cy ad A s.heap τ' H locs → W p l e R s m args below meth c H locs cells slots Q (F0 m (pc + 3) ls rest)) : W p l e R s m args below meth c H locs cells slots Q (F0 m pc ls (.int n :: .int dp :: .ref (ad (6*v+4)) :: .int sp :: .ref (ad (6*w+4)) :: rest)) := by
  subst hx; subst hz; subst hτ
  exact nn_acI S hK hw (ce_V (k := 4) hw9 (by decide)) (by omega) (ce_V (k := 4) hv (by decide)) (by omega) h1 h2 h3 h4 h5 hsz hf hl (un_V (k := 4) hv (by decide) (fun j hj hne => by rcases j with _ | _ | _ | _ | _ | _ | j <;> first | rfl | exact absurd rfl hne | omega)) hlink hdg kk
theorem ac_Vl_shifts (S : CallFix p m c cc nL s args nn_B own) (hK : nn_K D cy s) (hw : nn_W D cy ad A s.heap τ H locs) {v w : Nat} (hv : v < 19) (hw9 : w < 19) {x z : nVl} (hx : gV τ v = x) (hz : gV τ w = z) {sp dp n : Int32} (h1 : ¬ sp < 0) (h2 : ¬ dp < 0) (h3 : ¬ n < 0) (h4 : sp.toNatClampNeg + n.toNatClampNeg ≤ 6) (h5 : dp.toNatClampNeg + n.toNatClampNeg ≤ 6) (hsz : ls.size = nL) (hf : 1 ≤ R.frames) (hl : (rest.map fun v => v.category).sum + (nativeFrameWords "java/lang/System" "arraycopy" 5 + 11) ≤ R.locals) (hτ : sV τ v (s_Vl_shifts x (va_cpy (g_Vl_shifts z) (g_Vl_shifts x) sp.toNatClampNeg dp.toNatClampNeg n.toNatClampNeg)) = τ') {index : Nat} (hlink : Cond.methodLink own index arraycopyName ∈ nn_B) (hdg : decode cc pc = .ok (.invokestatic index, 3)) (kk : ∀ (H : Heap) (locs : List Loc), nn_W D cy ad A s.heap τ' H locs → W p l e R s m args below meth c H locs cells slots Q (F0 m (pc + 3) ls rest)) : W p l e R s m args below meth c H locs cells slots Q (F0 m pc ls (.int n :: .int dp :: .ref (ad (6*v+5)) :: .int sp :: .ref (ad (6*w+5)) :: rest)) := by
  subst hx; subst hz; subst hτ
  exact nn_acI S hK hw (ce_V (k := 5) hw9 (by decide)) (by omega) (ce_V (k := 5) hv (by decide)) (by omega) h1 h2 h3 h4 h5 hsz hf hl (un_V (k := 5) hv (by decide) (fun j hj hne => by rcases j with _ | _ | _ | _ | _ | _ | j <;> first | rfl | exact absurd rfl hne | omega)) hlink hdg kk
theorem ac_Ca (S : CallFix p m c cc nL s args nn_B own) (hK : nn_K D cy s) (hw : nn_W D cy ad A s.heap τ H locs) {x : nCa} (hx : gCa τ = x) {sp dp n : Int32} (h1 : ¬ sp < 0) (h2 : ¬ dp < 0) (h3 : ¬ n < 0) (h4 : sp.toNatClampNeg + n.toNatClampNeg ≤ 6) (h5 : dp.toNatClampNeg + n.toNatClampNeg ≤ 6) (hsz : ls.size = nL) (hf : 1 ≤ R.frames) (hl : (rest.map fun v => v.category).sum + (nativeFrameWords "java/lang/System" "arraycopy" 5 + 11) ≤ R.locals) (hτ : sCa τ (s_Ca_bestOrder x (va_cpy (g_Ca_order x) (g_Ca_bestOrder x) sp.toNatClampNeg dp.toNatClampNeg n.toNatClampNeg)) = τ') {index : Nat} (hlink : Cond.methodLink own index arraycopyName ∈ nn_B) (hdg : decode cc pc = .ok (.invokestatic index, 3)) (kk : ∀ (H : Heap) (locs : List Loc), nn_W D cy ad A s.heap τ' H locs → W p l e R s m args below meth c H locs cells slots Q (F0 m (pc + 3) ls rest)) : W p l e R s m args below meth c H locs cells slots Q (F0 m pc ls (.int n :: .int dp :: .ref (ad 123) :: .int sp :: .ref (ad 122) :: rest)) := by
  subst hx; subst hτ
  exact nn_acI S hK hw (ce_O (k := 4) (by decide)) (by decide) (ce_O (k := 5) (by decide)) (by decide) h1 h2 h3 h4 h5 hsz hf hl (un_O (k := 5) (by decide) (by rfl) (by rfl) (by rfl) (by rfl) (fun j hj hne => by rcases j with _ | _ | _ | _ | _ | _ | _ | _ | _ | j <;> first | rfl | exact absurd rfl hne | omega)) hlink hdg kk
theorem ac_Sh (S : CallFix p m c cc nL s args nn_B own) (hK : nn_K D cy s) (hw : nn_W D cy ad A s.heap τ H locs) {v w : Nat} (hv : v < 4) (hw9 : w < 4) {x z : nSh} (hx : gSh τ v = x) (hz : gSh τ w = z) {sp dp n : Int32} (h1 : ¬ sp < 0) (h2 : ¬ dp < 0) (h3 : ¬ n < 0) (h4 : sp.toNatClampNeg + n.toNatClampNeg ≤ 24) (h5 : dp.toNatClampNeg + n.toNatClampNeg ≤ 24) (hsz : ls.size = nL) (hf : 1 ≤ R.frames) (hl : (rest.map fun v => v.category).sum + (nativeFrameWords "java/lang/System" "arraycopy" 5 + 11) ≤ R.locals) (hτ : sSh τ v (s_Sh_items x (va_cpy (g_Sh_items z) (g_Sh_items x) sp.toNatClampNeg dp.toNatClampNeg n.toNatClampNeg)) = τ') {index : Nat} (hlink : Cond.methodLink own index arraycopyName ∈ nn_B) (hdg : decode cc pc = .ok (.invokestatic index, 3)) (kk : ∀ (H : Heap) (locs : List Loc), nn_W D cy ad A s.heap τ' H locs → W p l e R s m args below meth c H locs cells slots Q (F0 m (pc + 3) ls rest)) : W p l e R s m args below meth c H locs cells slots Q (F0 m pc ls (.int n :: .int dp :: .ref (ad (128+2*v)) :: .int sp :: .ref (ad (128+2*w)) :: rest)) := by
  subst hx; subst hz; subst hτ
  have e0 : 128+2*v = 127+2*v+1 := by omega
  have e1 : 128+2*w = 127+2*w+1 := by omega
  rw [e0, e1]
  exact nn_acL S hK hw (ce_S (k := 1) hw9 (by decide)) (by omega) (ce_S (k := 1) hv (by decide)) (by omega) h1 h2 h3 h4 h5 hsz hf hl (un_S (k := 1) hv (by decide) (fun j hj hne => by rcases j with _ | _ | j <;> first | rfl | exact absurd rfl hne | omega)) hlink hdg kk
end NN
theorem nn_enterI {l : Launch} {y : MethodName} {cc : ByteArray} {maxL : Nat} {ret : Option FieldType} {rm : Room} {D : va_G} {cy : Nat → ClassId} {ad : Nat → Nat} {A : Nat → Prop} {av : List Value} {τ τ' : nG} {r : Int32} (hy : plainName y.cls = true) (hlen : (lg_sl av).length ≤ maxL) {lv : List (Nat × Value)} (hlv : lv_args 0 av = lv) (body : ∀ (p : Program) (e : Env) (s : State) (m : MethodId) (below : List Frame) (meth : Method) (c : Code), CallFix p m c cc maxL s av.toArray nn_B y.cls → meth.sig.returnType = ret → meth.locks = false → nn_K D cy s → nn_W D cy ad A s.heap τ s.heap [] → ∀ ls : Array Slot, lv_has ls maxL lv → W p l e rm s m av.toArray below meth c s.heap [] 0 0 (MQ below (nn_qi D cy ad A r τ') av.toArray s 0 0 A) (F0 m 0 ls [])) : nn_I l y (nn_ws y cc maxL ret) rm D cy ad A av τ r τ' := by
  refine Met.ofW (cc := cc) (maxL := maxL) (ret := ret) hy rfl ?_
  intro p e s m args below meth c s₁ B hml hv
  obtain ⟨rfl, hK, hP, hD⟩ := hv
  have hts := atoms_spec (ws := nn_ws y cc maxL ret) B.pre
  have hown : s.vm.findClass y.cls = some m.cls := findClass_of_methodNamed B.named
  have hl := lv_entry av (n := maxL) hlen
  rw [hlv] at hl
  rw [lg_entry_eq]
  exact body p e s m below meth c ⟨B.exec, B.bytes, hml, hown, fun w hw => hts w (List.mem_cons_of_mem _ hw)⟩ B.returns B.notSynchronized hK ⟨hP, hD, va_S.rf⟩ _ hl
theorem nn_enterJ {l : Launch} {y : MethodName} {cc : ByteArray} {maxL : Nat} {ret : Option FieldType} {rm : Room} {D : va_G} {cy : Nat → ClassId} {ad : Nat → Nat} {A : Nat → Prop} {av : List Value} {τ τ' : nG} {r : Int64} (hy : plainName y.cls = true) (hlen : (lg_sl av).length ≤ maxL) {lv : List (Nat × Value)} (hlv : lv_args 0 av = lv) (body : ∀ (p : Program) (e : Env) (s : State) (m : MethodId) (below : List Frame) (meth : Method) (c : Code), CallFix p m c cc maxL s av.toArray nn_B y.cls → meth.sig.returnType = ret → meth.locks = false → nn_K D cy s → nn_W D cy ad A s.heap τ s.heap [] → ∀ ls : Array Slot, lv_has ls maxL lv → W p l e rm s m av.toArray below meth c s.heap [] 0 0 (MQ below (nn_ql D cy ad A r τ') av.toArray s 0 0 A) (F0 m 0 ls [])) : nn_J l y (nn_ws y cc maxL ret) rm D cy ad A av τ r τ' := by
  refine Met.ofW (cc := cc) (maxL := maxL) (ret := ret) hy rfl ?_
  intro p e s m args below meth c s₁ B hml hv
  obtain ⟨rfl, hK, hP, hD⟩ := hv
  have hts := atoms_spec (ws := nn_ws y cc maxL ret) B.pre
  have hown : s.vm.findClass y.cls = some m.cls := findClass_of_methodNamed B.named
  have hl := lv_entry av (n := maxL) hlen
  rw [hlv] at hl
  rw [lg_entry_eq]
  exact body p e s m below meth c ⟨B.exec, B.bytes, hml, hown, fun w hw => hts w (List.mem_cons_of_mem _ hw)⟩ B.returns B.notSynchronized hK ⟨hP, hD, va_S.rf⟩ _ hl
theorem nn_enterV {l : Launch} {y : MethodName} {cc : ByteArray} {maxL : Nat} {ret : Option FieldType} {rm : Room} {D : va_G} {cy : Nat → ClassId} {ad : Nat → Nat} {A : Nat → Prop} {av : List Value} {τ τ' : nG} (hy : plainName y.cls = true) (hlen : (lg_sl av).length ≤ maxL) {lv : List (Nat × Value)} (hlv : lv_args 0 av = lv) (body : ∀ (p : Program) (e : Env) (s : State) (m : MethodId) (below : List Frame) (meth : Method) (c : Code), CallFix p m c cc maxL s av.toArray nn_B y.cls → meth.sig.returnType = ret → meth.locks = false → nn_K D cy s → nn_W D cy ad A s.heap τ s.heap [] → ∀ ls : Array Slot, lv_has ls maxL lv → W p l e rm s m av.toArray below meth c s.heap [] 0 0 (MQ below (nn_qv D cy ad A τ') av.toArray s 0 0 A) (F0 m 0 ls [])) : nn_V l y (nn_ws y cc maxL ret) rm D cy ad A av τ τ' := by
  refine Met.ofW (cc := cc) (maxL := maxL) (ret := ret) hy rfl ?_
  intro p e s m args below meth c s₁ B hml hv
  obtain ⟨rfl, hK, hP, hD⟩ := hv
  have hts := atoms_spec (ws := nn_ws y cc maxL ret) B.pre
  have hown : s.vm.findClass y.cls = some m.cls := findClass_of_methodNamed B.named
  have hl := lv_entry av (n := maxL) hlen
  rw [hlv] at hl
  rw [lg_entry_eq]
  exact body p e s m below meth c ⟨B.exec, B.bytes, hml, hown, fun w hw => hts w (List.mem_cons_of_mem _ hw)⟩ B.returns B.notSynchronized hK ⟨hP, hD, va_S.rf⟩ _ hl
def nn_ix {α : Type} (i : Int32) (n : Nat) (x : Option α) : Option α := if i < 0 ∨ n ≤ i.toNatClampNeg then none else x
theorem nn_ix_some {α : Type} {i : Int32} {n : Nat} {x : Option α} {r : α} (h : nn_ix i n x = some r) : ¬ (i < 0 ∨ n ≤ i.toNatClampNeg) ∧ x = some r := by
  unfold nn_ix at h
  by_cases c : i < 0 ∨ n ≤ i.toNatClampNeg
  · rw [if_pos c] at h; cases h
  · rw [if_neg c] at h; exact ⟨c, h⟩
def nn_nz {α : Type} (i : Int32) (x : Option α) : Option α := if i = 0 then none else x
theorem nn_nz_some {α : Type} {i : Int32} {x : Option α} {r : α} (h : nn_nz i x = some r) : ¬ i = 0 ∧ x = some r := by
  unfold nn_nz at h
  by_cases c : i = 0
  · rw [if_pos c] at h; cases h
  · rw [if_neg c] at h; exact ⟨c, h⟩
def nn_bo {α : Type} (i : Int32) (x : Option α) : Option α := if i = 0 ∨ i = 1 then x else none
theorem nn_bo_some {α : Type} {i : Int32} {x : Option α} {r : α} (h : nn_bo i x = some r) : (i = 0 ∨ i = 1) ∧ x = some r := by
  unfold nn_bo at h
  by_cases c : i = 0 ∨ i = 1
  · rw [if_pos c] at h; exact ⟨c, h⟩
  · rw [if_neg c] at h; cases h
def nn_ch {α : Type} (i : Int32) (x : Option α) : Option α := if i.toUInt32.toUInt16.toUInt32.toInt32 = i then x else none
theorem nn_ch_some {α : Type} {i : Int32} {x : Option α} {r : α} (h : nn_ch i x = some r) : i.toUInt32.toUInt16.toUInt32.toInt32 = i ∧ x = some r := by
  unfold nn_ch at h
  by_cases c : i.toUInt32.toUInt16.toUInt32.toInt32 = i
  · rw [if_pos c] at h; exact ⟨c, h⟩
  · rw [if_neg c] at h; cases h
def nn_cp {α : Type} (sp dp n : Int32) (n0 n1 : Nat) (x : Option α) : Option α := if sp < 0 ∨ dp < 0 ∨ n < 0 ∨ n0 < sp.toNatClampNeg + n.toNatClampNeg ∨ n1 < dp.toNatClampNeg + n.toNatClampNeg then none else x
theorem nn_cp_some {α : Type} {sp dp n : Int32} {n0 n1 : Nat} {x : Option α} {r : α} (h : nn_cp sp dp n n0 n1 x = some r) : (¬ sp < 0 ∧ ¬ dp < 0 ∧ ¬ n < 0 ∧ sp.toNatClampNeg + n.toNatClampNeg ≤ n0 ∧ dp.toNatClampNeg + n.toNatClampNeg ≤ n1) ∧ x = some r := by
  unfold nn_cp at h
  by_cases c : sp < 0 ∨ dp < 0 ∨ n < 0 ∨ n0 < sp.toNatClampNeg + n.toNatClampNeg ∨ n1 < dp.toNatClampNeg + n.toNatClampNeg
  · rw [if_pos c] at h; cases h
  · rw [if_neg c] at h
    exact ⟨⟨fun q => c (Or.inl q), fun q => c (Or.inr (Or.inl q)), fun q => c (Or.inr (Or.inr (Or.inl q))), Nat.not_lt.mp fun q => c (Or.inr (Or.inr (Or.inr (Or.inl q)))), Nat.not_lt.mp fun q => c (Or.inr (Or.inr (Or.inr (Or.inr q))))⟩, h⟩
theorem nn_bind {α β : Type} {o : Option α} {f : α → Option β} {b : β} (h : o.bind f = some b) : ∃ a, o = some a ∧ f a = some b := Option.bind_eq_some_iff.mp h
end
