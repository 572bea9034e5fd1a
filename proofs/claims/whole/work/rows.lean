section
-- ===== PART A: goes FIRST, ahead of the names: the tables' words, and 'selects' of the private methods out of them =====
/-- a private method of a class that the tables say can be made, by its rows of tables_1 -/
def lw_okq (q : MethodName × Nat) : Prop := (q.1.cls ≠ "java/lang/invoke/MethodHandle" ∧ q.1.cls ≠ "java/lang/invoke/VarHandle") ∧ Cond.instantiable q.1.cls q.2 ∈ tables_1 ∧ Cond.privateMethod q.1 ∈ tables_1 ∧ Cond.instanceMethod q.1 ∈ tables_1
theorem lw_p0 : lw_okq (⟨"PaidWhereMade$LawReader", "addBytes", "(I)V"⟩, 10) := ⟨⟨by decide +kernel, by decide +kernel⟩, List.mem_of_getElem? (i := 266) (by decide +kernel), List.mem_of_getElem? (i := 503) (by decide +kernel), List.mem_of_getElem? (i := 504) (by decide +kernel)⟩
theorem lw_p1 : lw_okq (⟨"PaidWhereMade$LawReader", "splitTape", "()V"⟩, 10) := ⟨⟨by decide +kernel, by decide +kernel⟩, List.mem_of_getElem? (i := 266) (by decide +kernel), List.mem_of_getElem? (i := 523) (by decide +kernel), List.mem_of_getElem? (i := 524) (by decide +kernel)⟩
theorem lw_p2 : lw_okq (⟨"PaidWhereMade$LawReader", "byteAt", "(I)I"⟩, 10) := ⟨⟨by decide +kernel, by decide +kernel⟩, List.mem_of_getElem? (i := 266) (by decide +kernel), List.mem_of_getElem? (i := 527) (by decide +kernel), List.mem_of_getElem? (i := 528) (by decide +kernel)⟩
theorem lw_p3 : lw_okq (⟨"PaidWhereMade$LawReader", "behindLetters", "(I)I"⟩, 10) := ⟨⟨by decide +kernel, by decide +kernel⟩, List.mem_of_getElem? (i := 266) (by decide +kernel), List.mem_of_getElem? (i := 534) (by decide +kernel), List.mem_of_getElem? (i := 535) (by decide +kernel)⟩
theorem lw_p4 : lw_okq (⟨"PaidWhereMade$LawReader", "wordToken", "(II)I"⟩, 10) := ⟨⟨by decide +kernel, by decide +kernel⟩, List.mem_of_getElem? (i := 266) (by decide +kernel), List.mem_of_getElem? (i := 538) (by decide +kernel), List.mem_of_getElem? (i := 539) (by decide +kernel)⟩
theorem lw_p5 : lw_okq (⟨"PaidWhereMade$LawReader", "isKeyword", "(III)Z"⟩, 10) := ⟨⟨by decide +kernel, by decide +kernel⟩, List.mem_of_getElem? (i := 266) (by decide +kernel), List.mem_of_getElem? (i := 591) (by decide +kernel), List.mem_of_getElem? (i := 592) (by decide +kernel)⟩
theorem lw_p6 : lw_okq (⟨"PaidWhereMade$LawReader", "addToken", "(II)V"⟩, 10) := ⟨⟨by decide +kernel, by decide +kernel⟩, List.mem_of_getElem? (i := 266) (by decide +kernel), List.mem_of_getElem? (i := 595) (by decide +kernel), List.mem_of_getElem? (i := 596) (by decide +kernel)⟩
theorem lw_p7 : lw_okq (⟨"PaidWhereMade$LawReader", "behindDigits", "(I)I"⟩, 10) := ⟨⟨by decide +kernel, by decide +kernel⟩, List.mem_of_getElem? (i := 266) (by decide +kernel), List.mem_of_getElem? (i := 602) (by decide +kernel), List.mem_of_getElem? (i := 603) (by decide +kernel)⟩
theorem lw_p8 : lw_okq (⟨"PaidWhereMade$LawReader", "numberToken", "(II)I"⟩, 10) := ⟨⟨by decide +kernel, by decide +kernel⟩, List.mem_of_getElem? (i := 266) (by decide +kernel), List.mem_of_getElem? (i := 606) (by decide +kernel), List.mem_of_getElem? (i := 607) (by decide +kernel)⟩
theorem lw_p9 : lw_okq (⟨"PaidWhereMade$LawReader", "readLine", "()V"⟩, 10) := ⟨⟨by decide +kernel, by decide +kernel⟩, List.mem_of_getElem? (i := 266) (by decide +kernel), List.mem_of_getElem? (i := 621) (by decide +kernel), List.mem_of_getElem? (i := 622) (by decide +kernel)⟩
theorem lw_p10 : lw_okq (⟨"PaidWhereMade$LawReader", "fail", "(I)V"⟩, 10) := ⟨⟨by decide +kernel, by decide +kernel⟩, List.mem_of_getElem? (i := 266) (by decide +kernel), List.mem_of_getElem? (i := 625) (by decide +kernel), List.mem_of_getElem? (i := 626) (by decide +kernel)⟩
theorem lw_p11 : lw_okq (⟨"PaidWhereMade$LawReader", "advance", "()V"⟩, 10) := ⟨⟨by decide +kernel, by decide +kernel⟩, List.mem_of_getElem? (i := 266) (by decide +kernel), List.mem_of_getElem? (i := 629) (by decide +kernel), List.mem_of_getElem? (i := 630) (by decide +kernel)⟩
theorem lw_p12 : lw_okq (⟨"PaidWhereMade$LawReader", "readAny", "(I)V"⟩, 10) := ⟨⟨by decide +kernel, by decide +kernel⟩, List.mem_of_getElem? (i := 266) (by decide +kernel), List.mem_of_getElem? (i := 633) (by decide +kernel), List.mem_of_getElem? (i := 634) (by decide +kernel)⟩
theorem lw_p13 : lw_okq (⟨"PaidWhereMade$LawReader", "readCondition", "(I)V"⟩, 10) := ⟨⟨by decide +kernel, by decide +kernel⟩, List.mem_of_getElem? (i := 266) (by decide +kernel), List.mem_of_getElem? (i := 637) (by decide +kernel), List.mem_of_getElem? (i := 638) (by decide +kernel)⟩
theorem lw_p14 : lw_okq (⟨"PaidWhereMade$LawReader", "readOpened", "(I)V"⟩, 10) := ⟨⟨by decide +kernel, by decide +kernel⟩, List.mem_of_getElem? (i := 266) (by decide +kernel), List.mem_of_getElem? (i := 641) (by decide +kernel), List.mem_of_getElem? (i := 642) (by decide +kernel)⟩
theorem lw_p15 : lw_okq (⟨"PaidWhereMade$LawReader", "expect", "(I)V"⟩, 10) := ⟨⟨by decide +kernel, by decide +kernel⟩, List.mem_of_getElem? (i := 266) (by decide +kernel), List.mem_of_getElem? (i := 649) (by decide +kernel), List.mem_of_getElem? (i := 650) (by decide +kernel)⟩
def lw_privs_1 : List (MethodName × Nat) := [(⟨"PaidWhereMade$LawReader", "addBytes", "(I)V"⟩, 10), (⟨"PaidWhereMade$LawReader", "splitTape", "()V"⟩, 10), (⟨"PaidWhereMade$LawReader", "byteAt", "(I)I"⟩, 10), (⟨"PaidWhereMade$LawReader", "behindLetters", "(I)I"⟩, 10), (⟨"PaidWhereMade$LawReader", "wordToken", "(II)I"⟩, 10), (⟨"PaidWhereMade$LawReader", "isKeyword", "(III)Z"⟩, 10), (⟨"PaidWhereMade$LawReader", "addToken", "(II)V"⟩, 10), (⟨"PaidWhereMade$LawReader", "behindDigits", "(I)I"⟩, 10), (⟨"PaidWhereMade$LawReader", "numberToken", "(II)I"⟩, 10), (⟨"PaidWhereMade$LawReader", "readLine", "()V"⟩, 10), (⟨"PaidWhereMade$LawReader", "fail", "(I)V"⟩, 10), (⟨"PaidWhereMade$LawReader", "advance", "()V"⟩, 10), (⟨"PaidWhereMade$LawReader", "readAny", "(I)V"⟩, 10), (⟨"PaidWhereMade$LawReader", "readCondition", "(I)V"⟩, 10), (⟨"PaidWhereMade$LawReader", "readOpened", "(I)V"⟩, 10), (⟨"PaidWhereMade$LawReader", "expect", "(I)V"⟩, 10)]
theorem lw_r1 : ∀ q ∈ lw_privs_1, lw_okq q := List.forall_mem_cons.mpr ⟨lw_p0, List.forall_mem_cons.mpr ⟨lw_p1, List.forall_mem_cons.mpr ⟨lw_p2, List.forall_mem_cons.mpr ⟨lw_p3, List.forall_mem_cons.mpr ⟨lw_p4, List.forall_mem_cons.mpr ⟨lw_p5, List.forall_mem_cons.mpr ⟨lw_p6, List.forall_mem_cons.mpr ⟨lw_p7, List.forall_mem_cons.mpr ⟨lw_p8, List.forall_mem_cons.mpr ⟨lw_p9, List.forall_mem_cons.mpr ⟨lw_p10, List.forall_mem_cons.mpr ⟨lw_p11, List.forall_mem_cons.mpr ⟨lw_p12, List.forall_mem_cons.mpr ⟨lw_p13, List.forall_mem_cons.mpr ⟨lw_p14, List.forall_mem_cons.mpr ⟨lw_p15, fun _ h => absurd h List.not_mem_nil⟩⟩⟩⟩⟩⟩⟩⟩⟩⟩⟩⟩⟩⟩⟩⟩
theorem lw_p16 : lw_okq (⟨"PaidWhereMade$LawReader", "readSide", "()V"⟩, 10) := ⟨⟨by decide +kernel, by decide +kernel⟩, List.mem_of_getElem? (i := 266) (by decide +kernel), List.mem_of_getElem? (i := 653) (by decide +kernel), List.mem_of_getElem? (i := 654) (by decide +kernel)⟩
theorem lw_p17 : lw_okq (⟨"PaidWhereMade$LawReader", "readUnit", "()V"⟩, 10) := ⟨⟨by decide +kernel, by decide +kernel⟩, List.mem_of_getElem? (i := 266) (by decide +kernel), List.mem_of_getElem? (i := 657) (by decide +kernel), List.mem_of_getElem? (i := 658) (by decide +kernel)⟩
theorem lw_p18 : lw_okq (⟨"PaidWhereMade$LawReader", "checkDivisor", "()V"⟩, 10) := ⟨⟨by decide +kernel, by decide +kernel⟩, List.mem_of_getElem? (i := 266) (by decide +kernel), List.mem_of_getElem? (i := 664) (by decide +kernel), List.mem_of_getElem? (i := 665) (by decide +kernel)⟩
theorem lw_p19 : lw_okq (⟨"PaidWhereMade$Sundays", "sendOut", "()V"⟩, 6) := ⟨⟨by decide +kernel, by decide +kernel⟩, List.mem_of_getElem? (i := 307) (by decide +kernel), List.mem_of_getElem? (i := 699) (by decide +kernel), List.mem_of_getElem? (i := 700) (by decide +kernel)⟩
theorem lw_p20 : lw_okq (⟨"PaidWhereMade$Sundays", "sendAway", "(II)V"⟩, 6) := ⟨⟨by decide +kernel, by decide +kernel⟩, List.mem_of_getElem? (i := 307) (by decide +kernel), List.mem_of_getElem? (i := 709) (by decide +kernel), List.mem_of_getElem? (i := 710) (by decide +kernel)⟩
theorem lw_p21 : lw_okq (⟨"PaidWhereMade$Sundays", "cancelAll", "()I"⟩, 6) := ⟨⟨by decide +kernel, by decide +kernel⟩, List.mem_of_getElem? (i := 307) (by decide +kernel), List.mem_of_getElem? (i := 718) (by decide +kernel), List.mem_of_getElem? (i := 719) (by decide +kernel)⟩
theorem lw_p22 : lw_okq (⟨"PaidWhereMade$Sundays", "spotsWithTwoDebts", "()I"⟩, 6) := ⟨⟨by decide +kernel, by decide +kernel⟩, List.mem_of_getElem? (i := 307) (by decide +kernel), List.mem_of_getElem? (i := 722) (by decide +kernel), List.mem_of_getElem? (i := 723) (by decide +kernel)⟩
theorem lw_p23 : lw_okq (⟨"PaidWhereMade$Sundays", "bothStandThere", "(I)Z"⟩, 6) := ⟨⟨by decide +kernel, by decide +kernel⟩, List.mem_of_getElem? (i := 307) (by decide +kernel), List.mem_of_getElem? (i := 726) (by decide +kernel), List.mem_of_getElem? (i := 727) (by decide +kernel)⟩
theorem lw_p24 : lw_okq (⟨"PaidWhereMade$Sundays", "findRound", "(I)Z"⟩, 6) := ⟨⟨by decide +kernel, by decide +kernel⟩, List.mem_of_getElem? (i := 307) (by decide +kernel), List.mem_of_getElem? (i := 737) (by decide +kernel), List.mem_of_getElem? (i := 738) (by decide +kernel)⟩
theorem lw_p25 : lw_okq (⟨"PaidWhereMade$Sundays", "noteWhoOwes", "(I)V"⟩, 6) := ⟨⟨by decide +kernel, by decide +kernel⟩, List.mem_of_getElem? (i := 307) (by decide +kernel), List.mem_of_getElem? (i := 741) (by decide +kernel), List.mem_of_getElem? (i := 742) (by decide +kernel)⟩
theorem lw_p26 : lw_okq (⟨"PaidWhereMade$Sundays", "stepsBetween", "(II)I"⟩, 6) := ⟨⟨by decide +kernel, by decide +kernel⟩, List.mem_of_getElem? (i := 307) (by decide +kernel), List.mem_of_getElem? (i := 746) (by decide +kernel), List.mem_of_getElem? (i := 747) (by decide +kernel)⟩
theorem lw_p27 : lw_okq (⟨"PaidWhereMade$Sundays", "traceRound", "(II)V"⟩, 6) := ⟨⟨by decide +kernel, by decide +kernel⟩, List.mem_of_getElem? (i := 307) (by decide +kernel), List.mem_of_getElem? (i := 750) (by decide +kernel), List.mem_of_getElem? (i := 751) (by decide +kernel)⟩
theorem lw_p28 : lw_okq (⟨"PaidWhereMade$Sundays", "leastDebtTowards", "(III)I"⟩, 6) := ⟨⟨by decide +kernel, by decide +kernel⟩, List.mem_of_getElem? (i := 307) (by decide +kernel), List.mem_of_getElem? (i := 754) (by decide +kernel), List.mem_of_getElem? (i := 755) (by decide +kernel)⟩
theorem lw_p29 : lw_okq (⟨"PaidWhereMade$Sundays", "cancelRound", "()I"⟩, 6) := ⟨⟨by decide +kernel, by decide +kernel⟩, List.mem_of_getElem? (i := 307) (by decide +kernel), List.mem_of_getElem? (i := 758) (by decide +kernel), List.mem_of_getElem? (i := 759) (by decide +kernel)⟩
theorem lw_p30 : lw_okq (⟨"PaidWhereMade$Sundays", "payAll", "()I"⟩, 6) := ⟨⟨by decide +kernel, by decide +kernel⟩, List.mem_of_getElem? (i := 307) (by decide +kernel), List.mem_of_getElem? (i := 772) (by decide +kernel), List.mem_of_getElem? (i := 773) (by decide +kernel)⟩
theorem lw_p31 : lw_okq (⟨"PaidWhereMade$Law", "pop", "()I"⟩, 5) := ⟨⟨by decide +kernel, by decide +kernel⟩, List.mem_of_getElem? (i := 189) (by decide +kernel), List.mem_of_getElem? (i := 788) (by decide +kernel), List.mem_of_getElem? (i := 789) (by decide +kernel)⟩
def lw_privs_2 : List (MethodName × Nat) := [(⟨"PaidWhereMade$LawReader", "readSide", "()V"⟩, 10), (⟨"PaidWhereMade$LawReader", "readUnit", "()V"⟩, 10), (⟨"PaidWhereMade$LawReader", "checkDivisor", "()V"⟩, 10), (⟨"PaidWhereMade$Sundays", "sendOut", "()V"⟩, 6), (⟨"PaidWhereMade$Sundays", "sendAway", "(II)V"⟩, 6), (⟨"PaidWhereMade$Sundays", "cancelAll", "()I"⟩, 6), (⟨"PaidWhereMade$Sundays", "spotsWithTwoDebts", "()I"⟩, 6), (⟨"PaidWhereMade$Sundays", "bothStandThere", "(I)Z"⟩, 6), (⟨"PaidWhereMade$Sundays", "findRound", "(I)Z"⟩, 6), (⟨"PaidWhereMade$Sundays", "noteWhoOwes", "(I)V"⟩, 6), (⟨"PaidWhereMade$Sundays", "stepsBetween", "(II)I"⟩, 6), (⟨"PaidWhereMade$Sundays", "traceRound", "(II)V"⟩, 6), (⟨"PaidWhereMade$Sundays", "leastDebtTowards", "(III)I"⟩, 6), (⟨"PaidWhereMade$Sundays", "cancelRound", "()I"⟩, 6), (⟨"PaidWhereMade$Sundays", "payAll", "()I"⟩, 6), (⟨"PaidWhereMade$Law", "pop", "()I"⟩, 5)]
theorem lw_r2 : ∀ q ∈ lw_privs_2, lw_okq q := List.forall_mem_cons.mpr ⟨lw_p16, List.forall_mem_cons.mpr ⟨lw_p17, List.forall_mem_cons.mpr ⟨lw_p18, List.forall_mem_cons.mpr ⟨lw_p19, List.forall_mem_cons.mpr ⟨lw_p20, List.forall_mem_cons.mpr ⟨lw_p21, List.forall_mem_cons.mpr ⟨lw_p22, List.forall_mem_cons.mpr ⟨lw_p23, List.forall_mem_cons.mpr ⟨lw_p24, List.forall_mem_cons.mpr ⟨lw_p25, List.forall_mem_cons.mpr ⟨lw_p26, List.forall_mem_cons.mpr ⟨lw_p27, List.forall_mem_cons.mpr ⟨lw_p28, List.forall_mem_cons.mpr ⟨lw_p29, List.forall_mem_cons.mpr ⟨lw_p30, List.forall_mem_cons.mpr ⟨lw_p31, fun _ h => absurd h List.not_mem_nil⟩⟩⟩⟩⟩⟩⟩⟩⟩⟩⟩⟩⟩⟩⟩⟩
theorem lw_p32 : lw_okq (⟨"PaidWhereMade$Law", "step", "(I[I)V"⟩, 5) := ⟨⟨by decide +kernel, by decide +kernel⟩, List.mem_of_getElem? (i := 189) (by decide +kernel), List.mem_of_getElem? (i := 792) (by decide +kernel), List.mem_of_getElem? (i := 793) (by decide +kernel)⟩
theorem lw_p33 : lw_okq (⟨"PaidWhereMade$Law", "push", "(I)V"⟩, 5) := ⟨⟨by decide +kernel, by decide +kernel⟩, List.mem_of_getElem? (i := 189) (by decide +kernel), List.mem_of_getElem? (i := 796) (by decide +kernel), List.mem_of_getElem? (i := 797) (by decide +kernel)⟩
theorem lw_p34 : lw_okq (⟨"PaidWhereMade$Plans", "gatherOpen", "(II)Z"⟩, 7) := ⟨⟨by decide +kernel, by decide +kernel⟩, List.mem_of_getElem? (i := 333) (by decide +kernel), List.mem_of_getElem? (i := 851) (by decide +kernel), List.mem_of_getElem? (i := 852) (by decide +kernel)⟩
theorem lw_p35 : lw_okq (⟨"PaidWhereMade$Plans", "noteClashes", "()V"⟩, 7) := ⟨⟨by decide +kernel, by decide +kernel⟩, List.mem_of_getElem? (i := 333) (by decide +kernel), List.mem_of_getElem? (i := 856) (by decide +kernel), List.mem_of_getElem? (i := 857) (by decide +kernel)⟩
theorem lw_p36 : lw_okq (⟨"PaidWhereMade$Plans", "countSundays", "(I)V"⟩, 7) := ⟨⟨by decide +kernel, by decide +kernel⟩, List.mem_of_getElem? (i := 333) (by decide +kernel), List.mem_of_getElem? (i := 864) (by decide +kernel), List.mem_of_getElem? (i := 865) (by decide +kernel)⟩
theorem lw_p37 : lw_okq (⟨"PaidWhereMade$Plans", "fewestSundays", "(II)I"⟩, 7) := ⟨⟨by decide +kernel, by decide +kernel⟩, List.mem_of_getElem? (i := 333) (by decide +kernel), List.mem_of_getElem? (i := 874) (by decide +kernel), List.mem_of_getElem? (i := 875) (by decide +kernel)⟩
theorem lw_p38 : lw_okq (⟨"PaidWhereMade$Plans", "setOfSunday", "(II)I"⟩, 7) := ⟨⟨by decide +kernel, by decide +kernel⟩, List.mem_of_getElem? (i := 333) (by decide +kernel), List.mem_of_getElem? (i := 879) (by decide +kernel), List.mem_of_getElem? (i := 880) (by decide +kernel)⟩
theorem lw_p39 : lw_okq (⟨"PaidWhereMade$Plans", "greatestSet", "(I)I"⟩, 7) := ⟨⟨by decide +kernel, by decide +kernel⟩, List.mem_of_getElem? (i := 333) (by decide +kernel), List.mem_of_getElem? (i := 883) (by decide +kernel), List.mem_of_getElem? (i := 884) (by decide +kernel)⟩
theorem lw_p40 : lw_okq (⟨"PaidWhereMade$Plans", "growDebts", "()V"⟩, 7) := ⟨⟨by decide +kernel, by decide +kernel⟩, List.mem_of_getElem? (i := 333) (by decide +kernel), List.mem_of_getElem? (i := 895) (by decide +kernel), List.mem_of_getElem? (i := 896) (by decide +kernel)⟩
theorem lw_p41 : lw_okq (⟨"PaidWhereMade$Plans", "leastBehind", "(I)I"⟩, 7) := ⟨⟨by decide +kernel, by decide +kernel⟩, List.mem_of_getElem? (i := 333) (by decide +kernel), List.mem_of_getElem? (i := 900) (by decide +kernel), List.mem_of_getElem? (i := 901) (by decide +kernel)⟩
theorem lw_p42 : lw_okq (⟨"PaidWhereMade$Plans", "costWithNext", "(II)I"⟩, 7) := ⟨⟨by decide +kernel, by decide +kernel⟩, List.mem_of_getElem? (i := 333) (by decide +kernel), List.mem_of_getElem? (i := 906) (by decide +kernel), List.mem_of_getElem? (i := 907) (by decide +kernel)⟩
theorem lw_p43 : lw_okq (⟨"PaidWhereMade$Plans", "debtInOrder", "(I)I"⟩, 7) := ⟨⟨by decide +kernel, by decide +kernel⟩, List.mem_of_getElem? (i := 333) (by decide +kernel), List.mem_of_getElem? (i := 910) (by decide +kernel), List.mem_of_getElem? (i := 911) (by decide +kernel)⟩
theorem lw_p44 : lw_okq (⟨"PaidWhereMade$Plans", "firstOfLeast", "(I)I"⟩, 7) := ⟨⟨by decide +kernel, by decide +kernel⟩, List.mem_of_getElem? (i := 333) (by decide +kernel), List.mem_of_getElem? (i := 914) (by decide +kernel), List.mem_of_getElem? (i := 915) (by decide +kernel)⟩
theorem lw_p45 : lw_okq (⟨"PaidWhereMade$Tours", "noteLegs", "(I)V"⟩, 6) := ⟨⟨by decide +kernel, by decide +kernel⟩, List.mem_of_getElem? (i := 361) (by decide +kernel), List.mem_of_getElem? (i := 930) (by decide +kernel), List.mem_of_getElem? (i := 931) (by decide +kernel)⟩
theorem lw_p46 : lw_okq (⟨"PaidWhereMade$Tours", "fewestTo", "(II)I"⟩, 6) := ⟨⟨by decide +kernel, by decide +kernel⟩, List.mem_of_getElem? (i := 361) (by decide +kernel), List.mem_of_getElem? (i := 935) (by decide +kernel), List.mem_of_getElem? (i := 936) (by decide +kernel)⟩
theorem lw_p47 : lw_okq (⟨"PaidWhereMade$Tours", "sumOverOrders", "(III)I"⟩, 6) := ⟨⟨by decide +kernel, by decide +kernel⟩, List.mem_of_getElem? (i := 361) (by decide +kernel), List.mem_of_getElem? (i := 960) (by decide +kernel), List.mem_of_getElem? (i := 961) (by decide +kernel)⟩
def lw_privs_3 : List (MethodName × Nat) := [(⟨"PaidWhereMade$Law", "step", "(I[I)V"⟩, 5), (⟨"PaidWhereMade$Law", "push", "(I)V"⟩, 5), (⟨"PaidWhereMade$Plans", "gatherOpen", "(II)Z"⟩, 7), (⟨"PaidWhereMade$Plans", "noteClashes", "()V"⟩, 7), (⟨"PaidWhereMade$Plans", "countSundays", "(I)V"⟩, 7), (⟨"PaidWhereMade$Plans", "fewestSundays", "(II)I"⟩, 7), (⟨"PaidWhereMade$Plans", "setOfSunday", "(II)I"⟩, 7), (⟨"PaidWhereMade$Plans", "greatestSet", "(I)I"⟩, 7), (⟨"PaidWhereMade$Plans", "growDebts", "()V"⟩, 7), (⟨"PaidWhereMade$Plans", "leastBehind", "(I)I"⟩, 7), (⟨"PaidWhereMade$Plans", "costWithNext", "(II)I"⟩, 7), (⟨"PaidWhereMade$Plans", "debtInOrder", "(I)I"⟩, 7), (⟨"PaidWhereMade$Plans", "firstOfLeast", "(I)I"⟩, 7), (⟨"PaidWhereMade$Tours", "noteLegs", "(I)V"⟩, 6), (⟨"PaidWhereMade$Tours", "fewestTo", "(II)I"⟩, 6), (⟨"PaidWhereMade$Tours", "sumOverOrders", "(III)I"⟩, 6)]
theorem lw_r3 : ∀ q ∈ lw_privs_3, lw_okq q := List.forall_mem_cons.mpr ⟨lw_p32, List.forall_mem_cons.mpr ⟨lw_p33, List.forall_mem_cons.mpr ⟨lw_p34, List.forall_mem_cons.mpr ⟨lw_p35, List.forall_mem_cons.mpr ⟨lw_p36, List.forall_mem_cons.mpr ⟨lw_p37, List.forall_mem_cons.mpr ⟨lw_p38, List.forall_mem_cons.mpr ⟨lw_p39, List.forall_mem_cons.mpr ⟨lw_p40, List.forall_mem_cons.mpr ⟨lw_p41, List.forall_mem_cons.mpr ⟨lw_p42, List.forall_mem_cons.mpr ⟨lw_p43, List.forall_mem_cons.mpr ⟨lw_p44, List.forall_mem_cons.mpr ⟨lw_p45, List.forall_mem_cons.mpr ⟨lw_p46, List.forall_mem_cons.mpr ⟨lw_p47, fun _ h => absurd h List.not_mem_nil⟩⟩⟩⟩⟩⟩⟩⟩⟩⟩⟩⟩⟩⟩⟩⟩
theorem lw_p48 : lw_okq (⟨"PaidWhereMade$Tours", "coachCost", "(I)I"⟩, 6) := ⟨⟨by decide +kernel, by decide +kernel⟩, List.mem_of_getElem? (i := 361) (by decide +kernel), List.mem_of_getElem? (i := 964) (by decide +kernel), List.mem_of_getElem? (i := 965) (by decide +kernel)⟩
theorem lw_p49 : lw_okq (⟨"PaidWhereMade$Waits", "prepare", "(I)V"⟩, 4) := ⟨⟨by decide +kernel, by decide +kernel⟩, List.mem_of_getElem? (i := 386) (by decide +kernel), List.mem_of_getElem? (i := 1000) (by decide +kernel), List.mem_of_getElem? (i := 1001) (by decide +kernel)⟩
theorem lw_p50 : lw_okq (⟨"PaidWhereMade$Waits", "stand", "(II)V"⟩, 4) := ⟨⟨by decide +kernel, by decide +kernel⟩, List.mem_of_getElem? (i := 386) (by decide +kernel), List.mem_of_getElem? (i := 1004) (by decide +kernel), List.mem_of_getElem? (i := 1005) (by decide +kernel)⟩
theorem lw_p51 : lw_okq (⟨"PaidWhereMade$Waits", "tryWalk", "(III)V"⟩, 4) := ⟨⟨by decide +kernel, by decide +kernel⟩, List.mem_of_getElem? (i := 386) (by decide +kernel), List.mem_of_getElem? (i := 1012) (by decide +kernel), List.mem_of_getElem? (i := 1013) (by decide +kernel)⟩
theorem lw_p52 : lw_okq (⟨"PaidWhereMade$Waits", "hoursOfWalk", "(II)I"⟩, 4) := ⟨⟨by decide +kernel, by decide +kernel⟩, List.mem_of_getElem? (i := 386) (by decide +kernel), List.mem_of_getElem? (i := 1016) (by decide +kernel), List.mem_of_getElem? (i := 1017) (by decide +kernel)⟩
theorem lw_p53 : lw_okq (⟨"PaidWhereMade$Lines", "seatNamed", "(I)I"⟩, 10) := ⟨⟨by decide +kernel, by decide +kernel⟩, List.mem_of_getElem? (i := 151) (by decide +kernel), List.mem_of_getElem? (i := 1045) (by decide +kernel), List.mem_of_getElem? (i := 1046) (by decide +kernel)⟩
theorem lw_p54 : lw_okq (⟨"PaidWhereMade$Lines", "seat", "(II)I"⟩, 10) := ⟨⟨by decide +kernel, by decide +kernel⟩, List.mem_of_getElem? (i := 151) (by decide +kernel), List.mem_of_getElem? (i := 1050) (by decide +kernel), List.mem_of_getElem? (i := 1051) (by decide +kernel)⟩
theorem lw_p55 : lw_okq (⟨"PaidWhereMade$Lines", "bitOf", "(I)I"⟩, 10) := ⟨⟨by decide +kernel, by decide +kernel⟩, List.mem_of_getElem? (i := 151) (by decide +kernel), List.mem_of_getElem? (i := 1054) (by decide +kernel), List.mem_of_getElem? (i := 1055) (by decide +kernel)⟩
theorem lw_p56 : lw_okq (⟨"PaidWhereMade$Lines", "wrongIfTogether", "(I)I"⟩, 10) := ⟨⟨by decide +kernel, by decide +kernel⟩, List.mem_of_getElem? (i := 151) (by decide +kernel), List.mem_of_getElem? (i := 1058) (by decide +kernel), List.mem_of_getElem? (i := 1059) (by decide +kernel)⟩
theorem lw_p57 : lw_okq (⟨"PaidWhereMade$Lines", "fewestOfSet", "(I)I"⟩, 10) := ⟨⟨by decide +kernel, by decide +kernel⟩, List.mem_of_getElem? (i := 151) (by decide +kernel), List.mem_of_getElem? (i := 1063) (by decide +kernel), List.mem_of_getElem? (i := 1064) (by decide +kernel)⟩
theorem lw_p58 : lw_okq (⟨"PaidWhereMade$Lines", "meetingsBetween", "(II)I"⟩, 10) := ⟨⟨by decide +kernel, by decide +kernel⟩, List.mem_of_getElem? (i := 151) (by decide +kernel), List.mem_of_getElem? (i := 1067) (by decide +kernel), List.mem_of_getElem? (i := 1068) (by decide +kernel)⟩
theorem lw_p59 : lw_okq (⟨"PaidWhereMade", "lookAtSetting", "(I)I"⟩, 8) := ⟨⟨by decide +kernel, by decide +kernel⟩, List.mem_of_getElem? (i := 23) (by decide +kernel), List.mem_of_getElem? (i := 1109) (by decide +kernel), List.mem_of_getElem? (i := 1110) (by decide +kernel)⟩
theorem lw_p60 : lw_okq (⟨"PaidWhereMadeModel", "isIn", "(III)Z"⟩, 67) := ⟨⟨by decide +kernel, by decide +kernel⟩, List.mem_of_getElem? (i := 1113) (by decide +kernel), List.mem_of_getElem? (i := 1329) (by decide +kernel), List.mem_of_getElem? (i := 1330) (by decide +kernel)⟩
theorem lw_p61 : lw_okq (⟨"PaidWhereMadeModel", "isSpot", "(I)Z"⟩, 67) := ⟨⟨by decide +kernel, by decide +kernel⟩, List.mem_of_getElem? (i := 1113) (by decide +kernel), List.mem_of_getElem? (i := 1337) (by decide +kernel), List.mem_of_getElem? (i := 1338) (by decide +kernel)⟩
theorem lw_p62 : lw_okq (⟨"PaidWhereMadeModel", "isOne", "(I)Z"⟩, 67) := ⟨⟨by decide +kernel, by decide +kernel⟩, List.mem_of_getElem? (i := 1113) (by decide +kernel), List.mem_of_getElem? (i := 1350) (by decide +kernel), List.mem_of_getElem? (i := 1351) (by decide +kernel)⟩
theorem lw_p63 : lw_okq (⟨"PaidWhereMadeModel", "leastOf", "(I)I"⟩, 67) := ⟨⟨by decide +kernel, by decide +kernel⟩, List.mem_of_getElem? (i := 1113) (by decide +kernel), List.mem_of_getElem? (i := 1358) (by decide +kernel), List.mem_of_getElem? (i := 1359) (by decide +kernel)⟩
def lw_privs_4 : List (MethodName × Nat) := [(⟨"PaidWhereMade$Tours", "coachCost", "(I)I"⟩, 6), (⟨"PaidWhereMade$Waits", "prepare", "(I)V"⟩, 4), (⟨"PaidWhereMade$Waits", "stand", "(II)V"⟩, 4), (⟨"PaidWhereMade$Waits", "tryWalk", "(III)V"⟩, 4), (⟨"PaidWhereMade$Waits", "hoursOfWalk", "(II)I"⟩, 4), (⟨"PaidWhereMade$Lines", "seatNamed", "(I)I"⟩, 10), (⟨"PaidWhereMade$Lines", "seat", "(II)I"⟩, 10), (⟨"PaidWhereMade$Lines", "bitOf", "(I)I"⟩, 10), (⟨"PaidWhereMade$Lines", "wrongIfTogether", "(I)I"⟩, 10), (⟨"PaidWhereMade$Lines", "fewestOfSet", "(I)I"⟩, 10), (⟨"PaidWhereMade$Lines", "meetingsBetween", "(II)I"⟩, 10), (⟨"PaidWhereMade", "lookAtSetting", "(I)I"⟩, 8), (⟨"PaidWhereMadeModel", "isIn", "(III)Z"⟩, 67), (⟨"PaidWhereMadeModel", "isSpot", "(I)Z"⟩, 67), (⟨"PaidWhereMadeModel", "isOne", "(I)Z"⟩, 67), (⟨"PaidWhereMadeModel", "leastOf", "(I)I"⟩, 67)]
theorem lw_r4 : ∀ q ∈ lw_privs_4, lw_okq q := List.forall_mem_cons.mpr ⟨lw_p48, List.forall_mem_cons.mpr ⟨lw_p49, List.forall_mem_cons.mpr ⟨lw_p50, List.forall_mem_cons.mpr ⟨lw_p51, List.forall_mem_cons.mpr ⟨lw_p52, List.forall_mem_cons.mpr ⟨lw_p53, List.forall_mem_cons.mpr ⟨lw_p54, List.forall_mem_cons.mpr ⟨lw_p55, List.forall_mem_cons.mpr ⟨lw_p56, List.forall_mem_cons.mpr ⟨lw_p57, List.forall_mem_cons.mpr ⟨lw_p58, List.forall_mem_cons.mpr ⟨lw_p59, List.forall_mem_cons.mpr ⟨lw_p60, List.forall_mem_cons.mpr ⟨lw_p61, List.forall_mem_cons.mpr ⟨lw_p62, List.forall_mem_cons.mpr ⟨lw_p63, fun _ h => absurd h List.not_mem_nil⟩⟩⟩⟩⟩⟩⟩⟩⟩⟩⟩⟩⟩⟩⟩⟩
theorem lw_p64 : lw_okq (⟨"PaidWhereMadeModel", "mostOf", "(I)I"⟩, 67) := ⟨⟨by decide +kernel, by decide +kernel⟩, List.mem_of_getElem? (i := 1113) (by decide +kernel), List.mem_of_getElem? (i := 1362) (by decide +kernel), List.mem_of_getElem? (i := 1363) (by decide +kernel)⟩
theorem lw_p65 : lw_okq (⟨"PaidWhereMadeModel", "types", "(I)V"⟩, 67) := ⟨⟨by decide +kernel, by decide +kernel⟩, List.mem_of_getElem? (i := 1113) (by decide +kernel), List.mem_of_getElem? (i := 1374) (by decide +kernel), List.mem_of_getElem? (i := 1375) (by decide +kernel)⟩
theorem lw_p66 : lw_okq (⟨"PaidWhereMadeModel", "reads", "()V"⟩, 67) := ⟨⟨by decide +kernel, by decide +kernel⟩, List.mem_of_getElem? (i := 1113) (by decide +kernel), List.mem_of_getElem? (i := 1386) (by decide +kernel), List.mem_of_getElem? (i := 1387) (by decide +kernel)⟩
theorem lw_p67 : lw_okq (⟨"PaidWhereMadeModel", "raw", "(I)I"⟩, 67) := ⟨⟨by decide +kernel, by decide +kernel⟩, List.mem_of_getElem? (i := 1113) (by decide +kernel), List.mem_of_getElem? (i := 1390) (by decide +kernel), List.mem_of_getElem? (i := 1391) (by decide +kernel)⟩
theorem lw_p68 : lw_okq (⟨"PaidWhereMadeModel", "isLetter", "(I)Z"⟩, 67) := ⟨⟨by decide +kernel, by decide +kernel⟩, List.mem_of_getElem? (i := 1113) (by decide +kernel), List.mem_of_getElem? (i := 1394) (by decide +kernel), List.mem_of_getElem? (i := 1395) (by decide +kernel)⟩
theorem lw_p69 : lw_okq (⟨"PaidWhereMadeModel", "wordAt", "(II)I"⟩, 67) := ⟨⟨by decide +kernel, by decide +kernel⟩, List.mem_of_getElem? (i := 1113) (by decide +kernel), List.mem_of_getElem? (i := 1398) (by decide +kernel), List.mem_of_getElem? (i := 1399) (by decide +kernel)⟩
theorem lw_p70 : lw_okq (⟨"PaidWhereMadeModel", "isDigit", "(I)Z"⟩, 67) := ⟨⟨by decide +kernel, by decide +kernel⟩, List.mem_of_getElem? (i := 1113) (by decide +kernel), List.mem_of_getElem? (i := 1402) (by decide +kernel), List.mem_of_getElem? (i := 1403) (by decide +kernel)⟩
theorem lw_p71 : lw_okq (⟨"PaidWhereMadeModel", "isMarkSign", "(I)Z"⟩, 67) := ⟨⟨by decide +kernel, by decide +kernel⟩, List.mem_of_getElem? (i := 1113) (by decide +kernel), List.mem_of_getElem? (i := 1406) (by decide +kernel), List.mem_of_getElem? (i := 1407) (by decide +kernel)⟩
theorem lw_p72 : lw_okq (⟨"PaidWhereMadeModel", "readText", "()I"⟩, 67) := ⟨⟨by decide +kernel, by decide +kernel⟩, List.mem_of_getElem? (i := 1113) (by decide +kernel), List.mem_of_getElem? (i := 1410) (by decide +kernel), List.mem_of_getElem? (i := 1411) (by decide +kernel)⟩
theorem lw_p73 : lw_okq (⟨"PaidWhereMadeModel", "errs", "(I)I"⟩, 67) := ⟨⟨by decide +kernel, by decide +kernel⟩, List.mem_of_getElem? (i := 1113) (by decide +kernel), List.mem_of_getElem? (i := 1414) (by decide +kernel), List.mem_of_getElem? (i := 1415) (by decide +kernel)⟩
theorem lw_p74 : lw_okq (⟨"PaidWhereMadeModel", "isWord", "(I)Z"⟩, 67) := ⟨⟨by decide +kernel, by decide +kernel⟩, List.mem_of_getElem? (i := 1113) (by decide +kernel), List.mem_of_getElem? (i := 1418) (by decide +kernel), List.mem_of_getElem? (i := 1419) (by decide +kernel)⟩
theorem lw_p75 : lw_okq (⟨"PaidWhereMadeModel", "readAny", "()I"⟩, 67) := ⟨⟨by decide +kernel, by decide +kernel⟩, List.mem_of_getElem? (i := 1113) (by decide +kernel), List.mem_of_getElem? (i := 1422) (by decide +kernel), List.mem_of_getElem? (i := 1423) (by decide +kernel)⟩
theorem lw_p76 : lw_okq (⟨"PaidWhereMadeModel", "isSign", "(I)Z"⟩, 67) := ⟨⟨by decide +kernel, by decide +kernel⟩, List.mem_of_getElem? (i := 1113) (by decide +kernel), List.mem_of_getElem? (i := 1426) (by decide +kernel), List.mem_of_getElem? (i := 1427) (by decide +kernel)⟩
theorem lw_p77 : lw_okq (⟨"PaidWhereMadeModel", "waits", "(I)V"⟩, 67) := ⟨⟨by decide +kernel, by decide +kernel⟩, List.mem_of_getElem? (i := 1113) (by decide +kernel), List.mem_of_getElem? (i := 1430) (by decide +kernel), List.mem_of_getElem? (i := 1431) (by decide +kernel)⟩
theorem lw_p78 : lw_okq (⟨"PaidWhereMadeModel", "readCompared", "()I"⟩, 67) := ⟨⟨by decide +kernel, by decide +kernel⟩, List.mem_of_getElem? (i := 1113) (by decide +kernel), List.mem_of_getElem? (i := 1434) (by decide +kernel), List.mem_of_getElem? (i := 1435) (by decide +kernel)⟩
theorem lw_p79 : lw_okq (⟨"PaidWhereMadeModel", "readSum", "()I"⟩, 67) := ⟨⟨by decide +kernel, by decide +kernel⟩, List.mem_of_getElem? (i := 1113) (by decide +kernel), List.mem_of_getElem? (i := 1438) (by decide +kernel), List.mem_of_getElem? (i := 1439) (by decide +kernel)⟩
def lw_privs_5 : List (MethodName × Nat) := [(⟨"PaidWhereMadeModel", "mostOf", "(I)I"⟩, 67), (⟨"PaidWhereMadeModel", "types", "(I)V"⟩, 67), (⟨"PaidWhereMadeModel", "reads", "()V"⟩, 67), (⟨"PaidWhereMadeModel", "raw", "(I)I"⟩, 67), (⟨"PaidWhereMadeModel", "isLetter", "(I)Z"⟩, 67), (⟨"PaidWhereMadeModel", "wordAt", "(II)I"⟩, 67), (⟨"PaidWhereMadeModel", "isDigit", "(I)Z"⟩, 67), (⟨"PaidWhereMadeModel", "isMarkSign", "(I)Z"⟩, 67), (⟨"PaidWhereMadeModel", "readText", "()I"⟩, 67), (⟨"PaidWhereMadeModel", "errs", "(I)I"⟩, 67), (⟨"PaidWhereMadeModel", "isWord", "(I)Z"⟩, 67), (⟨"PaidWhereMadeModel", "readAny", "()I"⟩, 67), (⟨"PaidWhereMadeModel", "isSign", "(I)Z"⟩, 67), (⟨"PaidWhereMadeModel", "waits", "(I)V"⟩, 67), (⟨"PaidWhereMadeModel", "readCompared", "()I"⟩, 67), (⟨"PaidWhereMadeModel", "readSum", "()I"⟩, 67)]
theorem lw_r5 : ∀ q ∈ lw_privs_5, lw_okq q := List.forall_mem_cons.mpr ⟨lw_p64, List.forall_mem_cons.mpr ⟨lw_p65, List.forall_mem_cons.mpr ⟨lw_p66, List.forall_mem_cons.mpr ⟨lw_p67, List.forall_mem_cons.mpr ⟨lw_p68, List.forall_mem_cons.mpr ⟨lw_p69, List.forall_mem_cons.mpr ⟨lw_p70, List.forall_mem_cons.mpr ⟨lw_p71, List.forall_mem_cons.mpr ⟨lw_p72, List.forall_mem_cons.mpr ⟨lw_p73, List.forall_mem_cons.mpr ⟨lw_p74, List.forall_mem_cons.mpr ⟨lw_p75, List.forall_mem_cons.mpr ⟨lw_p76, List.forall_mem_cons.mpr ⟨lw_p77, List.forall_mem_cons.mpr ⟨lw_p78, List.forall_mem_cons.mpr ⟨lw_p79, fun _ h => absurd h List.not_mem_nil⟩⟩⟩⟩⟩⟩⟩⟩⟩⟩⟩⟩⟩⟩⟩⟩
theorem lw_p80 : lw_okq (⟨"PaidWhereMadeModel", "readProduct", "()I"⟩, 67) := ⟨⟨by decide +kernel, by decide +kernel⟩, List.mem_of_getElem? (i := 1113) (by decide +kernel), List.mem_of_getElem? (i := 1442) (by decide +kernel), List.mem_of_getElem? (i := 1443) (by decide +kernel)⟩
theorem lw_p81 : lw_okq (⟨"PaidWhereMadeModel", "readUnit", "()I"⟩, 67) := ⟨⟨by decide +kernel, by decide +kernel⟩, List.mem_of_getElem? (i := 1113) (by decide +kernel), List.mem_of_getElem? (i := 1446) (by decide +kernel), List.mem_of_getElem? (i := 1447) (by decide +kernel)⟩
theorem lw_p82 : lw_okq (⟨"PaidWhereMadeModel", "emits", "(II)V"⟩, 67) := ⟨⟨by decide +kernel, by decide +kernel⟩, List.mem_of_getElem? (i := 1113) (by decide +kernel), List.mem_of_getElem? (i := 1450) (by decide +kernel), List.mem_of_getElem? (i := 1451) (by decide +kernel)⟩
theorem lw_p83 : lw_okq (⟨"PaidWhereMadeModel", "settles", "(I)V"⟩, 67) := ⟨⟨by decide +kernel, by decide +kernel⟩, List.mem_of_getElem? (i := 1113) (by decide +kernel), List.mem_of_getElem? (i := 1454) (by decide +kernel), List.mem_of_getElem? (i := 1455) (by decide +kernel)⟩
theorem lw_p84 : lw_okq (⟨"PaidWhereMadeModel", "goesBy", "()I"⟩, 67) := ⟨⟨by decide +kernel, by decide +kernel⟩, List.mem_of_getElem? (i := 1113) (by decide +kernel), List.mem_of_getElem? (i := 1466) (by decide +kernel), List.mem_of_getElem? (i := 1467) (by decide +kernel)⟩
theorem lw_p85 : lw_okq (⟨"PaidWhereMadeModel", "draw", "(I)I"⟩, 67) := ⟨⟨by decide +kernel, by decide +kernel⟩, List.mem_of_getElem? (i := 1113) (by decide +kernel), List.mem_of_getElem? (i := 1470) (by decide +kernel), List.mem_of_getElem? (i := 1471) (by decide +kernel)⟩
theorem lw_p86 : lw_okq (⟨"PaidWhereMadeModel", "goes", "(Z)V"⟩, 67) := ⟨⟨by decide +kernel, by decide +kernel⟩, List.mem_of_getElem? (i := 1113) (by decide +kernel), List.mem_of_getElem? (i := 1476) (by decide +kernel), List.mem_of_getElem? (i := 1477) (by decide +kernel)⟩
theorem lw_p87 : lw_okq (⟨"PaidWhereMadeModel", "milesOf", "(II)I"⟩, 67) := ⟨⟨by decide +kernel, by decide +kernel⟩, List.mem_of_getElem? (i := 1113) (by decide +kernel), List.mem_of_getElem? (i := 1480) (by decide +kernel), List.mem_of_getElem? (i := 1481) (by decide +kernel)⟩
theorem lw_p88 : lw_okq (⟨"PaidWhereMadeModel", "cancelsAt", "(I)V"⟩, 67) := ⟨⟨by decide +kernel, by decide +kernel⟩, List.mem_of_getElem? (i := 1113) (by decide +kernel), List.mem_of_getElem? (i := 1484) (by decide +kernel), List.mem_of_getElem? (i := 1485) (by decide +kernel)⟩
theorem lw_p89 : lw_okq (⟨"PaidWhereMadeModel", "findsRound", "(II)Z"⟩, 67) := ⟨⟨by decide +kernel, by decide +kernel⟩, List.mem_of_getElem? (i := 1113) (by decide +kernel), List.mem_of_getElem? (i := 1488) (by decide +kernel), List.mem_of_getElem? (i := 1489) (by decide +kernel)⟩
theorem lw_p90 : lw_okq (⟨"PaidWhereMadeModel", "canBeNext", "(IIII)Z"⟩, 67) := ⟨⟨by decide +kernel, by decide +kernel⟩, List.mem_of_getElem? (i := 1113) (by decide +kernel), List.mem_of_getElem? (i := 1492) (by decide +kernel), List.mem_of_getElem? (i := 1493) (by decide +kernel)⟩
theorem lw_p91 : lw_okq (⟨"PaidWhereMadeModel", "isOpen", "(I)Z"⟩, 67) := ⟨⟨by decide +kernel, by decide +kernel⟩, List.mem_of_getElem? (i := 1113) (by decide +kernel), List.mem_of_getElem? (i := 1496) (by decide +kernel), List.mem_of_getElem? (i := 1497) (by decide +kernel)⟩
theorem lw_p92 : lw_okq (⟨"PaidWhereMadeModel", "areBothAt", "(II)Z"⟩, 67) := ⟨⟨by decide +kernel, by decide +kernel⟩, List.mem_of_getElem? (i := 1113) (by decide +kernel), List.mem_of_getElem? (i := 1500) (by decide +kernel), List.mem_of_getElem? (i := 1501) (by decide +kernel)⟩
theorem lw_p93 : lw_okq (⟨"PaidWhereMadeModel", "cancels", "(I)V"⟩, 67) := ⟨⟨by decide +kernel, by decide +kernel⟩, List.mem_of_getElem? (i := 1113) (by decide +kernel), List.mem_of_getElem? (i := 1504) (by decide +kernel), List.mem_of_getElem? (i := 1505) (by decide +kernel)⟩
theorem lw_p94 : lw_okq (⟨"PaidWhereMadeModel", "isPaid", "(II)V"⟩, 67) := ⟨⟨by decide +kernel, by decide +kernel⟩, List.mem_of_getElem? (i := 1113) (by decide +kernel), List.mem_of_getElem? (i := 1508) (by decide +kernel), List.mem_of_getElem? (i := 1509) (by decide +kernel)⟩
theorem lw_p95 : lw_okq (⟨"PaidWhereMadeModel", "pays", "(I)V"⟩, 67) := ⟨⟨by decide +kernel, by decide +kernel⟩, List.mem_of_getElem? (i := 1113) (by decide +kernel), List.mem_of_getElem? (i := 1512) (by decide +kernel), List.mem_of_getElem? (i := 1513) (by decide +kernel)⟩
def lw_privs_6 : List (MethodName × Nat) := [(⟨"PaidWhereMadeModel", "readProduct", "()I"⟩, 67), (⟨"PaidWhereMadeModel", "readUnit", "()I"⟩, 67), (⟨"PaidWhereMadeModel", "emits", "(II)V"⟩, 67), (⟨"PaidWhereMadeModel", "settles", "(I)V"⟩, 67), (⟨"PaidWhereMadeModel", "goesBy", "()I"⟩, 67), (⟨"PaidWhereMadeModel", "draw", "(I)I"⟩, 67), (⟨"PaidWhereMadeModel", "goes", "(Z)V"⟩, 67), (⟨"PaidWhereMadeModel", "milesOf", "(II)I"⟩, 67), (⟨"PaidWhereMadeModel", "cancelsAt", "(I)V"⟩, 67), (⟨"PaidWhereMadeModel", "findsRound", "(II)Z"⟩, 67), (⟨"PaidWhereMadeModel", "canBeNext", "(IIII)Z"⟩, 67), (⟨"PaidWhereMadeModel", "isOpen", "(I)Z"⟩, 67), (⟨"PaidWhereMadeModel", "areBothAt", "(II)Z"⟩, 67), (⟨"PaidWhereMadeModel", "cancels", "(I)V"⟩, 67), (⟨"PaidWhereMadeModel", "isPaid", "(II)V"⟩, 67), (⟨"PaidWhereMadeModel", "pays", "(I)V"⟩, 67)]
theorem lw_r6 : ∀ q ∈ lw_privs_6, lw_okq q := List.forall_mem_cons.mpr ⟨lw_p80, List.forall_mem_cons.mpr ⟨lw_p81, List.forall_mem_cons.mpr ⟨lw_p82, List.forall_mem_cons.mpr ⟨lw_p83, List.forall_mem_cons.mpr ⟨lw_p84, List.forall_mem_cons.mpr ⟨lw_p85, List.forall_mem_cons.mpr ⟨lw_p86, List.forall_mem_cons.mpr ⟨lw_p87, List.forall_mem_cons.mpr ⟨lw_p88, List.forall_mem_cons.mpr ⟨lw_p89, List.forall_mem_cons.mpr ⟨lw_p90, List.forall_mem_cons.mpr ⟨lw_p91, List.forall_mem_cons.mpr ⟨lw_p92, List.forall_mem_cons.mpr ⟨lw_p93, List.forall_mem_cons.mpr ⟨lw_p94, List.forall_mem_cons.mpr ⟨lw_p95, fun _ h => absurd h List.not_mem_nil⟩⟩⟩⟩⟩⟩⟩⟩⟩⟩⟩⟩⟩⟩⟩⟩
theorem lw_p96 : lw_okq (⟨"PaidWhereMadeModel", "lets", "(I)Z"⟩, 67) := ⟨⟨by decide +kernel, by decide +kernel⟩, List.mem_of_getElem? (i := 1113) (by decide +kernel), List.mem_of_getElem? (i := 1516) (by decide +kernel), List.mem_of_getElem? (i := 1517) (by decide +kernel)⟩
theorem lw_p97 : lw_okq (⟨"PaidWhereMadeModel", "hereAt", "(I)I"⟩, 67) := ⟨⟨by decide +kernel, by decide +kernel⟩, List.mem_of_getElem? (i := 1113) (by decide +kernel), List.mem_of_getElem? (i := 1520) (by decide +kernel), List.mem_of_getElem? (i := 1521) (by decide +kernel)⟩
theorem lw_p98 : lw_okq (⟨"PaidWhereMadeModel", "isSo", "(II)Z"⟩, 67) := ⟨⟨by decide +kernel, by decide +kernel⟩, List.mem_of_getElem? (i := 1113) (by decide +kernel), List.mem_of_getElem? (i := 1524) (by decide +kernel), List.mem_of_getElem? (i := 1525) (by decide +kernel)⟩
theorem lw_p99 : lw_okq (⟨"PaidWhereMadeModel", "twoOf", "(III)I"⟩, 67) := ⟨⟨by decide +kernel, by decide +kernel⟩, List.mem_of_getElem? (i := 1113) (by decide +kernel), List.mem_of_getElem? (i := 1528) (by decide +kernel), List.mem_of_getElem? (i := 1529) (by decide +kernel)⟩
theorem lw_p100 : lw_okq (⟨"PaidWhereMadeModel", "sumOf", "(IZ)I"⟩, 67) := ⟨⟨by decide +kernel, by decide +kernel⟩, List.mem_of_getElem? (i := 1113) (by decide +kernel), List.mem_of_getElem? (i := 1540) (by decide +kernel), List.mem_of_getElem? (i := 1541) (by decide +kernel)⟩
theorem lw_p101 : lw_okq (⟨"PaidWhereMadeModel", "takesOpen", "(I)V"⟩, 67) := ⟨⟨by decide +kernel, by decide +kernel⟩, List.mem_of_getElem? (i := 1113) (by decide +kernel), List.mem_of_getElem? (i := 1552) (by decide +kernel), List.mem_of_getElem? (i := 1553) (by decide +kernel)⟩
theorem lw_p102 : lw_okq (⟨"PaidWhereMadeModel", "areOnOne", "(I)Z"⟩, 67) := ⟨⟨by decide +kernel, by decide +kernel⟩, List.mem_of_getElem? (i := 1113) (by decide +kernel), List.mem_of_getElem? (i := 1556) (by decide +kernel), List.mem_of_getElem? (i := 1557) (by decide +kernel)⟩
theorem lw_p103 : lw_okq (⟨"PaidWhereMadeModel", "leastFor", "(I)I"⟩, 67) := ⟨⟨by decide +kernel, by decide +kernel⟩, List.mem_of_getElem? (i := 1113) (by decide +kernel), List.mem_of_getElem? (i := 1560) (by decide +kernel), List.mem_of_getElem? (i := 1561) (by decide +kernel)⟩
theorem lw_p104 : lw_okq (⟨"PaidWhereMadeModel", "greatest", "(II)I"⟩, 67) := ⟨⟨by decide +kernel, by decide +kernel⟩, List.mem_of_getElem? (i := 1113) (by decide +kernel), List.mem_of_getElem? (i := 1565) (by decide +kernel), List.mem_of_getElem? (i := 1566) (by decide +kernel)⟩
theorem lw_p105 : lw_okq (⟨"PaidWhereMadeModel", "costWith", "(II)I"⟩, 67) := ⟨⟨by decide +kernel, by decide +kernel⟩, List.mem_of_getElem? (i := 1113) (by decide +kernel), List.mem_of_getElem? (i := 1573) (by decide +kernel), List.mem_of_getElem? (i := 1574) (by decide +kernel)⟩
theorem lw_p106 : lw_okq (⟨"PaidWhereMadeModel", "ones", "(I)I"⟩, 67) := ⟨⟨by decide +kernel, by decide +kernel⟩, List.mem_of_getElem? (i := 1113) (by decide +kernel), List.mem_of_getElem? (i := 1577) (by decide +kernel), List.mem_of_getElem? (i := 1578) (by decide +kernel)⟩
theorem lw_p107 : lw_okq (⟨"PaidWhereMadeModel", "grown", "(II)I"⟩, 67) := ⟨⟨by decide +kernel, by decide +kernel⟩, List.mem_of_getElem? (i := 1113) (by decide +kernel), List.mem_of_getElem? (i := 1581) (by decide +kernel), List.mem_of_getElem? (i := 1582) (by decide +kernel)⟩
theorem lw_p108 : lw_okq (⟨"PaidWhereMadeModel", "tourFrom", "(II)I"⟩, 67) := ⟨⟨by decide +kernel, by decide +kernel⟩, List.mem_of_getElem? (i := 1113) (by decide +kernel), List.mem_of_getElem? (i := 1589) (by decide +kernel), List.mem_of_getElem? (i := 1590) (by decide +kernel)⟩
theorem lw_p109 : lw_okq (⟨"PaidWhereMadeModel", "factorial", "(I)I"⟩, 67) := ⟨⟨by decide +kernel, by decide +kernel⟩, List.mem_of_getElem? (i := 1113) (by decide +kernel), List.mem_of_getElem? (i := 1597) (by decide +kernel), List.mem_of_getElem? (i := 1598) (by decide +kernel)⟩
theorem lw_p110 : lw_okq (⟨"PaidWhereMadeModel", "coach", "(II)I"⟩, 67) := ⟨⟨by decide +kernel, by decide +kernel⟩, List.mem_of_getElem? (i := 1113) (by decide +kernel), List.mem_of_getElem? (i := 1601) (by decide +kernel), List.mem_of_getElem? (i := 1602) (by decide +kernel)⟩
theorem lw_p111 : lw_okq (⟨"PaidWhereMadeModel", "homesOf", "(I)I"⟩, 67) := ⟨⟨by decide +kernel, by decide +kernel⟩, List.mem_of_getElem? (i := 1113) (by decide +kernel), List.mem_of_getElem? (i := 1605) (by decide +kernel), List.mem_of_getElem? (i := 1606) (by decide +kernel)⟩
def lw_privs_7 : List (MethodName × Nat) := [(⟨"PaidWhereMadeModel", "lets", "(I)Z"⟩, 67), (⟨"PaidWhereMadeModel", "hereAt", "(I)I"⟩, 67), (⟨"PaidWhereMadeModel", "isSo", "(II)Z"⟩, 67), (⟨"PaidWhereMadeModel", "twoOf", "(III)I"⟩, 67), (⟨"PaidWhereMadeModel", "sumOf", "(IZ)I"⟩, 67), (⟨"PaidWhereMadeModel", "takesOpen", "(I)V"⟩, 67), (⟨"PaidWhereMadeModel", "areOnOne", "(I)Z"⟩, 67), (⟨"PaidWhereMadeModel", "leastFor", "(I)I"⟩, 67), (⟨"PaidWhereMadeModel", "greatest", "(II)I"⟩, 67), (⟨"PaidWhereMadeModel", "costWith", "(II)I"⟩, 67), (⟨"PaidWhereMadeModel", "ones", "(I)I"⟩, 67), (⟨"PaidWhereMadeModel", "grown", "(II)I"⟩, 67), (⟨"PaidWhereMadeModel", "tourFrom", "(II)I"⟩, 67), (⟨"PaidWhereMadeModel", "factorial", "(I)I"⟩, 67), (⟨"PaidWhereMadeModel", "coach", "(II)I"⟩, 67), (⟨"PaidWhereMadeModel", "homesOf", "(I)I"⟩, 67)]
theorem lw_r7 : ∀ q ∈ lw_privs_7, lw_okq q := List.forall_mem_cons.mpr ⟨lw_p96, List.forall_mem_cons.mpr ⟨lw_p97, List.forall_mem_cons.mpr ⟨lw_p98, List.forall_mem_cons.mpr ⟨lw_p99, List.forall_mem_cons.mpr ⟨lw_p100, List.forall_mem_cons.mpr ⟨lw_p101, List.forall_mem_cons.mpr ⟨lw_p102, List.forall_mem_cons.mpr ⟨lw_p103, List.forall_mem_cons.mpr ⟨lw_p104, List.forall_mem_cons.mpr ⟨lw_p105, List.forall_mem_cons.mpr ⟨lw_p106, List.forall_mem_cons.mpr ⟨lw_p107, List.forall_mem_cons.mpr ⟨lw_p108, List.forall_mem_cons.mpr ⟨lw_p109, List.forall_mem_cons.mpr ⟨lw_p110, List.forall_mem_cons.mpr ⟨lw_p111, fun _ h => absurd h List.not_mem_nil⟩⟩⟩⟩⟩⟩⟩⟩⟩⟩⟩⟩⟩⟩⟩⟩
theorem lw_p112 : lw_okq (⟨"PaidWhereMadeModel", "findsMissed", "(I)V"⟩, 67) := ⟨⟨by decide +kernel, by decide +kernel⟩, List.mem_of_getElem? (i := 1113) (by decide +kernel), List.mem_of_getElem? (i := 1618) (by decide +kernel), List.mem_of_getElem? (i := 1619) (by decide +kernel)⟩
theorem lw_p113 : lw_okq (⟨"PaidWhereMadeModel", "standing", "(II)J"⟩, 67) := ⟨⟨by decide +kernel, by decide +kernel⟩, List.mem_of_getElem? (i := 1113) (by decide +kernel), List.mem_of_getElem? (i := 1622) (by decide +kernel), List.mem_of_getElem? (i := 1623) (by decide +kernel)⟩
theorem lw_p114 : lw_okq (⟨"PaidWhereMadeModel", "walking", "(IIII)J"⟩, 67) := ⟨⟨by decide +kernel, by decide +kernel⟩, List.mem_of_getElem? (i := 1113) (by decide +kernel), List.mem_of_getElem? (i := 1627) (by decide +kernel), List.mem_of_getElem? (i := 1628) (by decide +kernel)⟩
theorem lw_p115 : lw_okq (⟨"PaidWhereMadeModel", "hoursOf", "(II)I"⟩, 67) := ⟨⟨by decide +kernel, by decide +kernel⟩, List.mem_of_getElem? (i := 1113) (by decide +kernel), List.mem_of_getElem? (i := 1631) (by decide +kernel), List.mem_of_getElem? (i := 1632) (by decide +kernel)⟩
theorem lw_p116 : lw_okq (⟨"PaidWhereMadeModel", "hundreds", "(I)J"⟩, 67) := ⟨⟨by decide +kernel, by decide +kernel⟩, List.mem_of_getElem? (i := 1113) (by decide +kernel), List.mem_of_getElem? (i := 1635) (by decide +kernel), List.mem_of_getElem? (i := 1636) (by decide +kernel)⟩
theorem lw_p117 : lw_okq (⟨"PaidWhereMadeModel", "placeIn", "(III)I"⟩, 67) := ⟨⟨by decide +kernel, by decide +kernel⟩, List.mem_of_getElem? (i := 1113) (by decide +kernel), List.mem_of_getElem? (i := 1639) (by decide +kernel), List.mem_of_getElem? (i := 1640) (by decide +kernel)⟩
theorem lw_p118 : lw_okq (⟨"PaidWhereMadeModel", "walksOn", "(II)V"⟩, 67) := ⟨⟨by decide +kernel, by decide +kernel⟩, List.mem_of_getElem? (i := 1113) (by decide +kernel), List.mem_of_getElem? (i := 1643) (by decide +kernel), List.mem_of_getElem? (i := 1644) (by decide +kernel)⟩
theorem lw_p119 : lw_okq (⟨"PaidWhereMadeModel", "wrongWith", "(I)I"⟩, 67) := ⟨⟨by decide +kernel, by decide +kernel⟩, List.mem_of_getElem? (i := 1113) (by decide +kernel), List.mem_of_getElem? (i := 1655) (by decide +kernel), List.mem_of_getElem? (i := 1656) (by decide +kernel)⟩
theorem lw_p120 : lw_okq (⟨"PaidWhereMadeModel", "kept", "(I)I"⟩, 67) := ⟨⟨by decide +kernel, by decide +kernel⟩, List.mem_of_getElem? (i := 1113) (by decide +kernel), List.mem_of_getElem? (i := 1663) (by decide +kernel), List.mem_of_getElem? (i := 1664) (by decide +kernel)⟩
theorem lw_p121 : lw_okq (⟨"PaidWhereMadeModel", "keepsDebts", "()V"⟩, 67) := ⟨⟨by decide +kernel, by decide +kernel⟩, List.mem_of_getElem? (i := 1113) (by decide +kernel), List.mem_of_getElem? (i := 1667) (by decide +kernel), List.mem_of_getElem? (i := 1668) (by decide +kernel)⟩
theorem lw_p122 : lw_okq (⟨"PaidWhereMadeModel", "keepsLaw", "()V"⟩, 67) := ⟨⟨by decide +kernel, by decide +kernel⟩, List.mem_of_getElem? (i := 1113) (by decide +kernel), List.mem_of_getElem? (i := 1671) (by decide +kernel), List.mem_of_getElem? (i := 1672) (by decide +kernel)⟩
def lw_privs_8 : List (MethodName × Nat) := [(⟨"PaidWhereMadeModel", "findsMissed", "(I)V"⟩, 67), (⟨"PaidWhereMadeModel", "standing", "(II)J"⟩, 67), (⟨"PaidWhereMadeModel", "walking", "(IIII)J"⟩, 67), (⟨"PaidWhereMadeModel", "hoursOf", "(II)I"⟩, 67), (⟨"PaidWhereMadeModel", "hundreds", "(I)J"⟩, 67), (⟨"PaidWhereMadeModel", "placeIn", "(III)I"⟩, 67), (⟨"PaidWhereMadeModel", "walksOn", "(II)V"⟩, 67), (⟨"PaidWhereMadeModel", "wrongWith", "(I)I"⟩, 67), (⟨"PaidWhereMadeModel", "kept", "(I)I"⟩, 67), (⟨"PaidWhereMadeModel", "keepsDebts", "()V"⟩, 67), (⟨"PaidWhereMadeModel", "keepsLaw", "()V"⟩, 67)]
theorem lw_r8 : ∀ q ∈ lw_privs_8, lw_okq q := List.forall_mem_cons.mpr ⟨lw_p112, List.forall_mem_cons.mpr ⟨lw_p113, List.forall_mem_cons.mpr ⟨lw_p114, List.forall_mem_cons.mpr ⟨lw_p115, List.forall_mem_cons.mpr ⟨lw_p116, List.forall_mem_cons.mpr ⟨lw_p117, List.forall_mem_cons.mpr ⟨lw_p118, List.forall_mem_cons.mpr ⟨lw_p119, List.forall_mem_cons.mpr ⟨lw_p120, List.forall_mem_cons.mpr ⟨lw_p121, List.forall_mem_cons.mpr ⟨lw_p122, fun _ h => absurd h List.not_mem_nil⟩⟩⟩⟩⟩⟩⟩⟩⟩⟩⟩
def lw_privs : List (MethodName × Nat) := lw_privs_1 ++ (lw_privs_2 ++ (lw_privs_3 ++ (lw_privs_4 ++ (lw_privs_5 ++ (lw_privs_6 ++ (lw_privs_7 ++ (lw_privs_8)))))))
def lw_tbl : List Cond := k2_sels lw_privs ++ tables_1
theorem lw_privs_ok : ∀ q ∈ lw_privs, lw_okq q := by
  show ∀ q ∈ lw_privs_1 ++ (lw_privs_2 ++ (lw_privs_3 ++ (lw_privs_4 ++ (lw_privs_5 ++ (lw_privs_6 ++ (lw_privs_7 ++ (lw_privs_8))))))), lw_okq q
  exact List.forall_mem_append.mpr ⟨lw_r1, List.forall_mem_append.mpr ⟨lw_r2, List.forall_mem_append.mpr ⟨lw_r3, List.forall_mem_append.mpr ⟨lw_r4, List.forall_mem_append.mpr ⟨lw_r5, List.forall_mem_append.mpr ⟨lw_r6, List.forall_mem_append.mpr ⟨lw_r7, lw_r8⟩⟩⟩⟩⟩⟩⟩
end
section
/-! the classes, their fields, the methods: names (by program out of the claim's texts) -/
def pT_0 : u_T := fun k => match k with
  | 0 => ("PaidWhereMade$Debts", "count", "I", false)
  | 1 => ("PaidWhereMade$Debts", "debtor", "[I", true)
  | 2 => ("PaidWhereMade$Debts", "creditor", "[I", true)
  | 3 => ("PaidWhereMade$Debts", "coins", "[I", true)
  | 4 => ("PaidWhereMade$Debts", "place", "[I", true)
  | 5 => ("PaidWhereMade$Debts", "made", "[I", true)
  | 6 => ("PaidWhereMade$Debts", "paidOn", "[I", true)
  | _ => ("PaidWhereMade$Debts", "how", "[I", true)
def pt_0 : Nat → FieldType := fun k => match k with
  | 0 => .int
  | 1 => .array .int
  | 2 => .array .int
  | 3 => .array .int
  | 4 => .array .int
  | 5 => .array .int
  | 6 => .array .int
  | _ => .array .int
theorem pn_0 : ∀ a, a < 8 → ∀ b, b < 8 → a ≠ b → (pT_0 a).2.1 ≠ (pT_0 b).2.1 := by decide +kernel
theorem pt_0_ok : ∀ k, k < 8 → parseFieldDescriptor (pT_0 k).2.2.1 = some (pt_0 k) := by decide +kernel
def pT_1 : u_T := fun k => match k with
  | 0 => ("PaidWhereMade$Law", "lines", "I", false)
  | 1 => ("PaidWhereMade$Law", "size", "I", false)
  | 2 => ("PaidWhereMade$Law", "top", "I", false)
  | 3 => ("PaidWhereMade$Law", "words", "[I", true)
  | _ => ("PaidWhereMade$Law", "stack", "[I", true)
def pt_1 : Nat → FieldType := fun k => match k with
  | 0 => .int
  | 1 => .int
  | 2 => .int
  | 3 => .array .int
  | _ => .array .int
theorem pn_1 : ∀ a, a < 5 → ∀ b, b < 5 → a ≠ b → (pT_1 a).2.1 ≠ (pT_1 b).2.1 := by decide +kernel
theorem pt_1_ok : ∀ k, k < 5 → parseFieldDescriptor (pT_1 k).2.2.1 = some (pt_1 k) := by decide +kernel
def pT_2 : u_T := fun k => match k with
  | 0 => ("PaidWhereMade$LawReader", "fault", "I", false)
  | 1 => ("PaidWhereMade$LawReader", "faultPlace", "I", false)
  | 2 => ("PaidWhereMade$LawReader", "length", "I", false)
  | 3 => ("PaidWhereMade$LawReader", "tape", "[I", true)
  | 4 => ("PaidWhereMade$LawReader", "draft", "LPaidWhereMade$Law;", true)
  | 5 => ("PaidWhereMade$LawReader", "tokens", "[I", true)
  | 6 => ("PaidWhereMade$LawReader", "places", "[I", true)
  | 7 => ("PaidWhereMade$LawReader", "tokenCount", "I", false)
  | 8 => ("PaidWhereMade$LawReader", "at", "I", false)
  | _ => ("PaidWhereMade$LawReader", "token", "I", false)
def pt_2 : Nat → FieldType := fun k => match k with
  | 0 => .int
  | 1 => .int
  | 2 => .int
  | 3 => .array .int
  | 4 => .object "PaidWhereMade$Law"
  | 5 => .array .int
  | 6 => .array .int
  | 7 => .int
  | 8 => .int
  | _ => .int
theorem pn_2 : ∀ a, a < 10 → ∀ b, b < 10 → a ≠ b → (pT_2 a).2.1 ≠ (pT_2 b).2.1 := by decide +kernel
theorem pt_2_ok : ∀ k, k < 10 → parseFieldDescriptor (pT_2 k).2.2.1 = some (pt_2 k) := by decide +kernel
def pT_3 : u_T := fun k => match k with
  | 0 => ("PaidWhereMade$Lines", "count", "I", false)
  | 1 => ("PaidWhereMade$Lines", "day", "[I", true)
  | 2 => ("PaidWhereMade$Lines", "who", "[I", true)
  | 3 => ("PaidWhereMade$Lines", "other", "[I", true)
  | 4 => ("PaidWhereMade$Lines", "place", "[I", true)
  | 5 => ("PaidWhereMade$Lines", "named", "[I", true)
  | 6 => ("PaidWhereMade$Lines", "seats", "[I", true)
  | 7 => ("PaidWhereMade$Lines", "tally", "[I", true)
  | 8 => ("PaidWhereMade$Lines", "together", "[I", true)
  | _ => ("PaidWhereMade$Lines", "fewest", "[I", true)
def pt_3 : Nat → FieldType := fun k => match k with
  | 0 => .int
  | 1 => .array .int
  | 2 => .array .int
  | 3 => .array .int
  | 4 => .array .int
  | 5 => .array .int
  | 6 => .array .int
  | 7 => .array .int
  | 8 => .array .int
  | _ => .array .int
theorem pn_3 : ∀ a, a < 10 → ∀ b, b < 10 → a ≠ b → (pT_3 a).2.1 ≠ (pT_3 b).2.1 := by decide +kernel
theorem pt_3_ok : ∀ k, k < 10 → parseFieldDescriptor (pT_3 k).2.2.1 = some (pt_3 k) := by decide +kernel
def pT_4 : u_T := fun k => match k with
  | 0 => ("PaidWhereMade$People", "count", "I", false)
  | 1 => ("PaidWhereMade$People", "home", "[I", true)
  | 2 => ("PaidWhereMade$People", "coin", "[I", true)
  | 3 => ("PaidWhereMade$People", "age", "[I", true)
  | 4 => ("PaidWhereMade$People", "goal", "[I", true)
  | _ => ("PaidWhereMade$People", "stood", "[I", true)
def pt_4 : Nat → FieldType := fun k => match k with
  | 0 => .int
  | 1 => .array .int
  | 2 => .array .int
  | 3 => .array .int
  | 4 => .array .int
  | _ => .array .int
theorem pn_4 : ∀ a, a < 6 → ∀ b, b < 6 → a ≠ b → (pT_4 a).2.1 ≠ (pT_4 b).2.1 := by decide +kernel
theorem pt_4_ok : ∀ k, k < 6 → parseFieldDescriptor (pT_4 k).2.2.1 = some (pt_4 k) := by decide +kernel
def pT_5 : u_T := fun k => match k with
  | 0 => ("PaidWhereMade$Plans", "town", "LPaidWhereMade$Town;", true)
  | 1 => ("PaidWhereMade$Plans", "open", "[I", true)
  | 2 => ("PaidWhereMade$Plans", "openCount", "I", false)
  | 3 => ("PaidWhereMade$Plans", "clashes", "[I", true)
  | 4 => ("PaidWhereMade$Plans", "fits", "[Z", true)
  | 5 => ("PaidWhereMade$Plans", "least", "[I", true)
  | _ => ("PaidWhereMade$Plans", "grown", "[I", true)
def pt_5 : Nat → FieldType := fun k => match k with
  | 0 => .object "PaidWhereMade$Town"
  | 1 => .array .int
  | 2 => .int
  | 3 => .array .int
  | 4 => .array .boolean
  | 5 => .array .int
  | _ => .array .int
theorem pn_5 : ∀ a, a < 7 → ∀ b, b < 7 → a ≠ b → (pT_5 a).2.1 ≠ (pT_5 b).2.1 := by decide +kernel
theorem pt_5_ok : ∀ k, k < 7 → parseFieldDescriptor (pT_5 k).2.2.1 = some (pt_5 k) := by decide +kernel
def pT_6 : u_T := fun k => match k with
  | 0 => ("PaidWhereMade$Spots", "count", "I", false)
  | 1 => ("PaidWhereMade$Spots", "price", "[I", true)
  | 2 => ("PaidWhereMade$Spots", "miles", "[I", true)
  | _ => ("PaidWhereMade$Spots", "chances", "[I", true)
def pt_6 : Nat → FieldType := fun k => match k with
  | 0 => .int
  | 1 => .array .int
  | 2 => .array .int
  | _ => .array .int
theorem pn_6 : ∀ a, a < 4 → ∀ b, b < 4 → a ≠ b → (pT_6 a).2.1 ≠ (pT_6 b).2.1 := by decide +kernel
theorem pt_6_ok : ∀ k, k < 4 → parseFieldDescriptor (pT_6 k).2.2.1 = some (pt_6 k) := by decide +kernel
def pT_7 : u_T := fun k => match k with
  | 0 => ("PaidWhereMade$Sundays", "town", "LPaidWhereMade$Town;", true)
  | 1 => ("PaidWhereMade$Sundays", "facts", "[I", true)
  | 2 => ("PaidWhereMade$Sundays", "counts", "[Z", true)
  | 3 => ("PaidWhereMade$Sundays", "owes", "[I", true)
  | 4 => ("PaidWhereMade$Sundays", "round", "[I", true)
  | _ => ("PaidWhereMade$Sundays", "roundSize", "I", false)
def pt_7 : Nat → FieldType := fun k => match k with
  | 0 => .object "PaidWhereMade$Town"
  | 1 => .array .int
  | 2 => .array .boolean
  | 3 => .array .int
  | 4 => .array .int
  | _ => .int
theorem pn_7 : ∀ a, a < 6 → ∀ b, b < 6 → a ≠ b → (pT_7 a).2.1 ≠ (pT_7 b).2.1 := by decide +kernel
theorem pt_7_ok : ∀ k, k < 6 → parseFieldDescriptor (pT_7 k).2.2.1 = some (pt_7 k) := by decide +kernel
def pT_8 : u_T := fun k => match k with
  | 0 => ("PaidWhereMade$Tours", "town", "LPaidWhereMade$Town;", true)
  | 1 => ("PaidWhereMade$Tours", "stopCount", "I", false)
  | 2 => ("PaidWhereMade$Tours", "stops", "[I", true)
  | 3 => ("PaidWhereMade$Tours", "legs", "[I", true)
  | 4 => ("PaidWhereMade$Tours", "firstLegs", "[I", true)
  | _ => ("PaidWhereMade$Tours", "fewest", "[I", true)
def pt_8 : Nat → FieldType := fun k => match k with
  | 0 => .object "PaidWhereMade$Town"
  | 1 => .int
  | 2 => .array .int
  | 3 => .array .int
  | 4 => .array .int
  | _ => .array .int
theorem pn_8 : ∀ a, a < 6 → ∀ b, b < 6 → a ≠ b → (pT_8 a).2.1 ≠ (pT_8 b).2.1 := by decide +kernel
theorem pt_8_ok : ∀ k, k < 6 → parseFieldDescriptor (pT_8 k).2.2.1 = some (pt_8 k) := by decide +kernel
def pT_9 : u_T := fun k => match k with
  | 0 => ("PaidWhereMade$Town", "state", "I", false)
  | 1 => ("PaidWhereMade$Town", "sunday", "I", false)
  | 2 => ("PaidWhereMade$Town", "miles", "I", false)
  | 3 => ("PaidWhereMade$Town", "wasFog", "Z", false)
  | 4 => ("PaidWhereMade$Town", "settings", "[I", true)
  | 5 => ("PaidWhereMade$Town", "spots", "LPaidWhereMade$Spots;", true)
  | 6 => ("PaidWhereMade$Town", "people", "LPaidWhereMade$People;", true)
  | 7 => ("PaidWhereMade$Town", "debts", "LPaidWhereMade$Debts;", true)
  | 8 => ("PaidWhereMade$Town", "lines", "LPaidWhereMade$Lines;", true)
  | _ => ("PaidWhereMade$Town", "law", "LPaidWhereMade$Law;", true)
def pt_9 : Nat → FieldType := fun k => match k with
  | 0 => .int
  | 1 => .int
  | 2 => .int
  | 3 => .boolean
  | 4 => .array .int
  | 5 => .object "PaidWhereMade$Spots"
  | 6 => .object "PaidWhereMade$People"
  | 7 => .object "PaidWhereMade$Debts"
  | 8 => .object "PaidWhereMade$Lines"
  | _ => .object "PaidWhereMade$Law"
theorem pn_9 : ∀ a, a < 10 → ∀ b, b < 10 → a ≠ b → (pT_9 a).2.1 ≠ (pT_9 b).2.1 := by decide +kernel
theorem pt_9_ok : ∀ k, k < 10 → parseFieldDescriptor (pT_9 k).2.2.1 = some (pt_9 k) := by decide +kernel
def pT_10 : u_T := fun k => match k with
  | 0 => ("PaidWhereMade$Waits", "spots", "LPaidWhereMade$Spots;", true)
  | 1 => ("PaidWhereMade$Waits", "hours", "I", false)
  | 2 => ("PaidWhereMade$Waits", "chance", "[J", true)
  | _ => ("PaidWhereMade$Waits", "track", "[J", true)
def pt_10 : Nat → FieldType := fun k => match k with
  | 0 => .object "PaidWhereMade$Spots"
  | 1 => .int
  | 2 => .array .long
  | _ => .array .long
theorem pn_10 : ∀ a, a < 4 → ∀ b, b < 4 → a ≠ b → (pT_10 a).2.1 ≠ (pT_10 b).2.1 := by decide +kernel
theorem pt_10_ok : ∀ k, k < 4 → parseFieldDescriptor (pT_10 k).2.2.1 = some (pt_10 k) := by decide +kernel
def pT_11 : u_T := fun k => match k with
  | 0 => ("PaidWhereMade", "town", "LPaidWhereMade$Town;", true)
  | 1 => ("PaidWhereMade", "kept", "LPaidWhereMade$Town;", true)
  | 2 => ("PaidWhereMade", "isKept", "Z", false)
  | 3 => ("PaidWhereMade", "reader", "LPaidWhereMade$LawReader;", true)
  | 4 => ("PaidWhereMade", "sundays", "LPaidWhereMade$Sundays;", true)
  | 5 => ("PaidWhereMade", "plans", "LPaidWhereMade$Plans;", true)
  | 6 => ("PaidWhereMade", "tours", "LPaidWhereMade$Tours;", true)
  | _ => ("PaidWhereMade", "waits", "LPaidWhereMade$Waits;", true)
def pt_11 : Nat → FieldType := fun k => match k with
  | 0 => .object "PaidWhereMade$Town"
  | 1 => .object "PaidWhereMade$Town"
  | 2 => .boolean
  | 3 => .object "PaidWhereMade$LawReader"
  | 4 => .object "PaidWhereMade$Sundays"
  | 5 => .object "PaidWhereMade$Plans"
  | 6 => .object "PaidWhereMade$Tours"
  | _ => .object "PaidWhereMade$Waits"
theorem pn_11 : ∀ a, a < 8 → ∀ b, b < 8 → a ≠ b → (pT_11 a).2.1 ≠ (pT_11 b).2.1 := by decide +kernel
theorem pt_11_ok : ∀ k, k < 8 → parseFieldDescriptor (pT_11 k).2.2.1 = some (pt_11 k) := by decide +kernel
def pT_12 : u_T := fun k => match k with
  | 0 => ("PaidWhereMadeModel", "told", "I", false)
  | 1 => ("PaidWhereMadeModel", "state", "I", false)
  | 2 => ("PaidWhereMadeModel", "spots", "I", false)
  | 3 => ("PaidWhereMadeModel", "priceOf", "[I", true)
  | 4 => ("PaidWhereMadeModel", "wayOf", "[I", true)
  | 5 => ("PaidWhereMadeModel", "people", "I", false)
  | 6 => ("PaidWhereMadeModel", "homeOf", "[I", true)
  | 7 => ("PaidWhereMadeModel", "coinOf", "[I", true)
  | 8 => ("PaidWhereMadeModel", "ageOf", "[I", true)
  | 9 => ("PaidWhereMadeModel", "goalOf", "[I", true)
  | 10 => ("PaidWhereMadeModel", "stoodAt", "[I", true)
  | 11 => ("PaidWhereMadeModel", "debts", "I", false)
  | 12 => ("PaidWhereMadeModel", "debtor", "[I", true)
  | 13 => ("PaidWhereMadeModel", "creditor", "[I", true)
  | 14 => ("PaidWhereMadeModel", "coins", "[I", true)
  | 15 => ("PaidWhereMadeModel", "debtSpot", "[I", true)
  | 16 => ("PaidWhereMadeModel", "madeOn", "[I", true)
  | 17 => ("PaidWhereMadeModel", "paidOn", "[I", true)
  | 18 => ("PaidWhereMadeModel", "how", "[I", true)
  | 19 => ("PaidWhereMadeModel", "sunday", "I", false)
  | 20 => ("PaidWhereMadeModel", "miles", "I", false)
  | 21 => ("PaidWhereMadeModel", "wasFog", "I", false)
  | 22 => ("PaidWhereMadeModel", "settings", "[I", true)
  | 23 => ("PaidWhereMadeModel", "lines", "I", false)
  | 24 => ("PaidWhereMadeModel", "lineSunday", "[I", true)
  | 25 => ("PaidWhereMadeModel", "lineA", "[I", true)
  | 26 => ("PaidWhereMadeModel", "lineB", "[I", true)
  | 27 => ("PaidWhereMadeModel", "lineSpot", "[I", true)
  | 28 => ("PaidWhereMadeModel", "chances", "[I", true)
  | 29 => ("PaidWhereMadeModel", "tape", "[I", true)
  | 30 => ("PaidWhereMadeModel", "taped", "I", false)
  | 31 => ("PaidWhereMadeModel", "spot", "I", false)
  | 32 => ("PaidWhereMadeModel", "from", "I", false)
  | 33 => ("PaidWhereMadeModel", "token", "I", false)
  | 34 => ("PaidWhereMadeModel", "value", "I", false)
  | 35 => ("PaidWhereMadeModel", "words", "[I", true)
  | 36 => ("PaidWhereMadeModel", "lineMany", "I", false)
  | 37 => ("PaidWhereMadeModel", "lineWord", "[I", true)
  | 38 => ("PaidWhereMadeModel", "lineFrom", "[I", true)
  | 39 => ("PaidWhereMadeModel", "lineTo", "[I", true)
  | 40 => ("PaidWhereMadeModel", "op", "[I", true)
  | 41 => ("PaidWhereMadeModel", "arg", "[I", true)
  | 42 => ("PaidWhereMadeModel", "codes", "I", false)
  | 43 => ("PaidWhereMadeModel", "open", "I", false)
  | 44 => ("PaidWhereMadeModel", "pending", "[I", true)
  | 45 => ("PaidWhereMadeModel", "pendings", "I", false)
  | 46 => ("PaidWhereMadeModel", "readFault", "I", false)
  | 47 => ("PaidWhereMadeModel", "readPlace", "I", false)
  | 48 => ("PaidWhereMadeModel", "faultKind", "I", false)
  | 49 => ("PaidWhereMadeModel", "faultPlace", "I", false)
  | 50 => ("PaidWhereMadeModel", "asked", "[I", true)
  | 51 => ("PaidWhereMadeModel", "stack", "[I", true)
  | 52 => ("PaidWhereMadeModel", "row", "[I", true)
  | 53 => ("PaidWhereMadeModel", "paidNow", "I", false)
  | 54 => ("PaidWhereMadeModel", "openDebt", "[I", true)
  | 55 => ("PaidWhereMadeModel", "opens", "I", false)
  | 56 => ("PaidWhereMadeModel", "fewest", "[I", true)
  | 57 => ("PaidWhereMadeModel", "canBe", "[Z", true)
  | 58 => ("PaidWhereMadeModel", "cost", "[I", true)
  | 59 => ("PaidWhereMadeModel", "onward", "[I", true)
  | 60 => ("PaidWhereMadeModel", "missed", "[J", true)
  | 61 => ("PaidWhereMadeModel", "standsNow", "[I", true)
  | 62 => ("PaidWhereMadeModel", "seat", "[I", true)
  | 63 => ("PaidWhereMadeModel", "isTaking", "Z", false)
  | 64 => ("PaidWhereMadeModel", "hasImage", "Z", false)
  | 65 => ("PaidWhereMadeModel", "keptAt", "I", false)
  | _ => ("PaidWhereMadeModel", "images", "[I", true)
def pt_12 : Nat → FieldType := fun k => match k with
  | 0 => .int
  | 1 => .int
  | 2 => .int
  | 3 => .array .int
  | 4 => .array .int
  | 5 => .int
  | 6 => .array .int
  | 7 => .array .int
  | 8 => .array .int
  | 9 => .array .int
  | 10 => .array .int
  | 11 => .int
  | 12 => .array .int
  | 13 => .array .int
  | 14 => .array .int
  | 15 => .array .int
  | 16 => .array .int
  | 17 => .array .int
  | 18 => .array .int
  | 19 => .int
  | 20 => .int
  | 21 => .int
  | 22 => .array .int
  | 23 => .int
  | 24 => .array .int
  | 25 => .array .int
  | 26 => .array .int
  | 27 => .array .int
  | 28 => .array .int
  | 29 => .array .int
  | 30 => .int
  | 31 => .int
  | 32 => .int
  | 33 => .int
  | 34 => .int
  | 35 => .array .int
  | 36 => .int
  | 37 => .array .int
  | 38 => .array .int
  | 39 => .array .int
  | 40 => .array .int
  | 41 => .array .int
  | 42 => .int
  | 43 => .int
  | 44 => .array .int
  | 45 => .int
  | 46 => .int
  | 47 => .int
  | 48 => .int
  | 49 => .int
  | 50 => .array .int
  | 51 => .array .int
  | 52 => .array .int
  | 53 => .int
  | 54 => .array .int
  | 55 => .int
  | 56 => .array .int
  | 57 => .array .boolean
  | 58 => .array .int
  | 59 => .array .int
  | 60 => .array .long
  | 61 => .array .int
  | 62 => .array .int
  | 63 => .boolean
  | 64 => .boolean
  | 65 => .int
  | _ => .array .int
theorem pn_12 : ∀ a, a < 67 → ∀ b, b < 67 → a ≠ b → (pT_12 a).2.1 ≠ (pT_12 b).2.1 := by decide +kernel
theorem pt_12_ok : ∀ k, k < 67 → parseFieldDescriptor (pT_12 k).2.2.1 = some (pt_12 k) := by decide +kernel
abbrev pm_cls : List vw_C := [("PaidWhereMade$Debts", pT_0, 8), ("PaidWhereMade$Law", pT_1, 5), ("PaidWhereMade$LawReader", pT_2, 10), ("PaidWhereMade$Lines", pT_3, 10), ("PaidWhereMade$People", pT_4, 6), ("PaidWhereMade$Plans", pT_5, 7), ("PaidWhereMade$Spots", pT_6, 4), ("PaidWhereMade$Sundays", pT_7, 6), ("PaidWhereMade$Tours", pT_8, 6), ("PaidWhereMade$Town", pT_9, 10), ("PaidWhereMade$Waits", pT_10, 4), ("PaidWhereMade", pT_11, 8), ("PaidWhereMadeModel", pT_12, 67)]
/-- the names of all classes that have code, by number -/
def pm_cn : List String := ["PaidWhereMade$Debts", "PaidWhereMade$Law", "PaidWhereMade$LawReader", "PaidWhereMade$Lines", "PaidWhereMade$People", "PaidWhereMade$Plans", "PaidWhereMade$Spots", "PaidWhereMade$Sundays", "PaidWhereMade$Tours", "PaidWhereMade$Town", "PaidWhereMade$Waits", "PaidWhereMade", "PaidWhereMadeModel", "java/lang/Integer", "java/util/Arrays", "java/lang/String", "java/lang/StringLatin1", "jdk/internal/util/Preconditions", "PaidWhereMadeLaw"]
def pm_layw : List Cond := pm_cls.flatMap (fun q => u_ws q.1 q.2.1 q.2.2)
def pm_layh : List Nat := [256, 258, 260, 262, 264, 266, 268, 270, 324, 326, 328, 330, 332, 408, 410, 412, 414, 416, 418, 420, 422, 424, 426, 290, 292, 294, 296, 298, 300, 302, 304, 306, 308, 211, 213, 215, 217, 219, 221, 468, 470, 472, 474, 476, 478, 480, 177, 179, 181, 183, 441, 443, 445, 447, 449, 451, 495, 497, 499, 501, 503, 505, 367, 369, 371, 373, 375, 377, 379, 381, 383, 385, 518, 520, 522, 524, 536, 538, 540, 542, 544, 546, 548, 550, 1308, 1310, 1312, 1314, 1316, 1318, 1320, 1322, 1324, 1326, 1328, 1330, 1332, 1334, 1336, 1338, 1340, 1342, 1344, 1346, 1348, 1350, 1352, 1354, 1356, 1358, 1360, 1362, 1364, 1366, 1368, 1370, 1372, 1374, 1376, 1378, 1380, 1382, 1384, 1386, 1388, 1390, 1392, 1394, 1396, 1398, 1400, 1402, 1404, 1406, 1408, 1410, 1412, 1414, 1416, 1418, 1420, 1422, 1424, 1426, 1428, 1430, 1432, 1434, 1436, 1438, 1440]
set_option maxRecDepth 100000 in
theorem pm_lay_ok : pm_layw.map some = pm_layh.map (fun i => lw_tbl[i]?) := by decide +kernel
end
section
abbrev pm_I : Type := Nat × Instr × Nat × Nat × Nat × List Nat
/-- Debts.init -/
def pc_0 : List pm_I := [
  (0, .aload_n 0, 1, 0, 0, []),
  (1, .invokespecial 3, 3, 1004, 0, []),
  (4, .aload_n 0, 1, 0, 0, []),
  (5, .bipush 30, 2, 30, 0, []),
  (7, .newarray .int, 2, 0, 0, []),
  (9, .putfield 9, 3, 0, 1, [2]),
  (12, .aload_n 0, 1, 0, 0, []),
  (13, .bipush 30, 2, 30, 0, []),
  (15, .newarray .int, 2, 0, 0, []),
  (17, .putfield 15, 3, 0, 2, [2]),
  (20, .aload_n 0, 1, 0, 0, []),
  (21, .bipush 30, 2, 30, 0, []),
  (23, .newarray .int, 2, 0, 0, []),
  (25, .putfield 18, 3, 0, 3, [2]),
  (28, .aload_n 0, 1, 0, 0, []),
  (29, .bipush 30, 2, 30, 0, []),
  (31, .newarray .int, 2, 0, 0, []),
  (33, .putfield 21, 3, 0, 4, [2]),
  (36, .aload_n 0, 1, 0, 0, []),
  (37, .bipush 30, 2, 30, 0, []),
  (39, .newarray .int, 2, 0, 0, []),
  (41, .putfield 24, 3, 0, 5, [2]),
  (44, .aload_n 0, 1, 0, 0, []),
  (45, .bipush 30, 2, 30, 0, []),
  (47, .newarray .int, 2, 0, 0, []),
  (49, .putfield 27, 3, 0, 6, [2]),
  (52, .aload_n 0, 1, 0, 0, []),
  (53, .bipush 30, 2, 30, 0, []),
  (55, .newarray .int, 2, 0, 0, []),
  (57, .putfield 30, 3, 0, 7, [2]),
  (60, .return_, 1, 0, 0, [])]
/-- Debts.has -/
def pc_1 : List pm_I := [
  (0, .iload_n 1, 1, 0, 0, []),
  (1, .ifCond .lt 15, 3, 8, 0, []),
  (4, .iload_n 1, 1, 0, 0, []),
  (5, .aload_n 0, 1, 0, 0, []),
  (6, .getfield 33, 3, 0, 0, []),
  (9, .if_icmp .ge 7, 3, 8, 0, []),
  (12, .iconst 1, 1, 1, 0, []),
  (13, .goto 4, 3, 9, 0, []),
  (16, .iconst 0, 1, 0, 0, []),
  (17, .ireturn, 1, 0, 0, [])]
/-- Debts.add -/
def pc_2 : List pm_I := [
  (0, .iload_n 1, 1, 0, 0, []),
  (1, .iload_n 2, 1, 0, 0, []),
  (2, .if_icmp .eq 24, 3, 13, 0, []),
  (5, .iload_n 3, 1, 0, 0, []),
  (6, .iconst 1, 1, 1, 0, []),
  (7, .if_icmp .lt 19, 3, 13, 0, []),
  (10, .iload_n 3, 1, 0, 0, []),
  (11, .sipush 9999, 3, 9999, 0, []),
  (14, .if_icmp .gt 12, 3, 13, 0, []),
  (17, .aload_n 0, 1, 0, 0, []),
  (18, .getfield 33, 3, 0, 0, []),
  (21, .bipush 30, 2, 30, 0, []),
  (23, .if_icmp .lt 5, 3, 15, 0, []),
  (26, .iconst (-1), 1, 1, 1, []),
  (27, .ireturn, 1, 0, 0, []),
  (28, .aload_n 0, 1, 0, 0, []),
  (29, .getfield 9, 3, 0, 1, []),
  (32, .aload_n 0, 1, 0, 0, []),
  (33, .getfield 33, 3, 0, 0, []),
  (36, .iload_n 1, 1, 0, 0, []),
  (37, .iastore, 1, 0, 0, []),
  (38, .aload_n 0, 1, 0, 0, []),
  (39, .getfield 15, 3, 0, 2, []),
  (42, .aload_n 0, 1, 0, 0, []),
  (43, .getfield 33, 3, 0, 0, []),
  (46, .iload_n 2, 1, 0, 0, []),
  (47, .iastore, 1, 0, 0, []),
  (48, .aload_n 0, 1, 0, 0, []),
  (49, .getfield 18, 3, 0, 3, []),
  (52, .aload_n 0, 1, 0, 0, []),
  (53, .getfield 33, 3, 0, 0, []),
  (56, .iload_n 3, 1, 0, 0, []),
  (57, .iastore, 1, 0, 0, []),
  (58, .aload_n 0, 1, 0, 0, []),
  (59, .getfield 21, 3, 0, 4, []),
  (62, .aload_n 0, 1, 0, 0, []),
  (63, .getfield 33, 3, 0, 0, []),
  (66, .iload 4, 2, 0, 0, []),
  (68, .iastore, 1, 0, 0, []),
  (69, .aload_n 0, 1, 0, 0, []),
  (70, .getfield 24, 3, 0, 5, []),
  (73, .aload_n 0, 1, 0, 0, []),
  (74, .getfield 33, 3, 0, 0, []),
  (77, .iload 5, 2, 0, 0, []),
  (79, .iastore, 1, 0, 0, []),
  (80, .aload_n 0, 1, 0, 0, []),
  (81, .getfield 27, 3, 0, 6, []),
  (84, .aload_n 0, 1, 0, 0, []),
  (85, .getfield 33, 3, 0, 0, []),
  (88, .iconst (-1), 1, 1, 1, []),
  (89, .iastore, 1, 0, 0, []),
  (90, .aload_n 0, 1, 0, 0, []),
  (91, .getfield 30, 3, 0, 7, []),
  (94, .aload_n 0, 1, 0, 0, []),
  (95, .getfield 33, 3, 0, 0, []),
  (98, .iconst 0, 1, 0, 0, []),
  (99, .iastore, 1, 0, 0, []),
  (100, .aload_n 0, 1, 0, 0, []),
  (101, .dup, 1, 0, 0, []),
  (102, .getfield 33, 3, 0, 0, []),
  (105, .iconst 1, 1, 1, 0, []),
  (106, .iadd, 1, 0, 0, []),
  (107, .putfield 33, 3, 0, 0, [0]),
  (110, .aload_n 0, 1, 0, 0, []),
  (111, .getfield 33, 3, 0, 0, []),
  (114, .iconst 1, 1, 1, 0, []),
  (115, .isub, 1, 0, 0, []),
  (116, .ireturn, 1, 0, 0, [])]
/-- Debts.isOpen -/
def pc_3 : List pm_I := [
  (0, .iload_n 1, 1, 0, 0, []),
  (1, .ifCond .lt 24, 3, 13, 0, []),
  (4, .iload_n 1, 1, 0, 0, []),
  (5, .aload_n 0, 1, 0, 0, []),
  (6, .getfield 33, 3, 0, 0, []),
  (9, .if_icmp .ge 16, 3, 13, 0, []),
  (12, .aload_n 0, 1, 0, 0, []),
  (13, .getfield 30, 3, 0, 7, []),
  (16, .iload_n 1, 1, 0, 0, []),
  (17, .iaload, 1, 0, 0, []),
  (18, .ifCond .ne 7, 3, 13, 0, []),
  (21, .iconst 1, 1, 1, 0, []),
  (22, .goto 4, 3, 14, 0, []),
  (25, .iconst 0, 1, 0, 0, []),
  (26, .ireturn, 1, 0, 0, [])]
/-- Debts.close -/
def pc_4 : List pm_I := [
  (0, .aload_n 0, 1, 0, 0, []),
  (1, .iload_n 1, 1, 0, 0, []),
  (2, .invokevirtual 37, 3, 1, 1, [0]),
  (5, .ifCond .eq 17, 3, 14, 0, []),
  (8, .aload_n 0, 1, 0, 0, []),
  (9, .getfield 27, 3, 0, 6, []),
  (12, .iload_n 1, 1, 0, 0, []),
  (13, .iload_n 2, 1, 0, 0, []),
  (14, .iastore, 1, 0, 0, []),
  (15, .aload_n 0, 1, 0, 0, []),
  (16, .getfield 30, 3, 0, 7, []),
  (19, .iload_n 1, 1, 0, 0, []),
  (20, .iload_n 3, 1, 0, 0, []),
  (21, .iastore, 1, 0, 0, []),
  (22, .return_, 1, 0, 0, [])]
/-- Debts.countOpen -/
def pc_5 : List pm_I := [
  (0, .iconst 0, 1, 0, 0, []),
  (1, .istore_n 1, 1, 0, 0, []),
  (2, .iconst 0, 1, 0, 0, []),
  (3, .istore_n 2, 1, 0, 0, []),
  (4, .iload_n 2, 1, 0, 0, []),
  (5, .aload_n 0, 1, 0, 0, []),
  (6, .getfield 33, 3, 0, 0, []),
  (9, .if_icmp .ge 25, 3, 20, 0, []),
  (12, .iload_n 1, 1, 0, 0, []),
  (13, .aload_n 0, 1, 0, 0, []),
  (14, .iload_n 2, 1, 0, 0, []),
  (15, .invokevirtual 41, 3, 3, 1, [0]),
  (18, .ifCond .eq 7, 3, 15, 0, []),
  (21, .iconst 1, 1, 1, 0, []),
  (22, .goto 4, 3, 16, 0, []),
  (25, .iconst 0, 1, 0, 0, []),
  (26, .iadd, 1, 0, 0, []),
  (27, .istore_n 1, 1, 0, 0, []),
  (28, .iinc 2 1, 3, 0, 0, []),
  (31, .goto (-27), 3, 4, 0, []),
  (34, .iload_n 1, 1, 0, 0, []),
  (35, .ireturn, 1, 0, 0, [])]
/-- Debts.sumOwedBy -/
def pc_6 : List pm_I := [
  (0, .iconst 0, 1, 0, 0, []),
  (1, .istore_n 2, 1, 0, 0, []),
  (2, .iconst 0, 1, 0, 0, []),
  (3, .istore_n 3, 1, 0, 0, []),
  (4, .iload_n 3, 1, 0, 0, []),
  (5, .aload_n 0, 1, 0, 0, []),
  (6, .getfield 33, 3, 0, 0, []),
  (9, .if_icmp .ge 40, 3, 29, 0, []),
  (12, .iload_n 2, 1, 0, 0, []),
  (13, .aload_n 0, 1, 0, 0, []),
  (14, .iload_n 3, 1, 0, 0, []),
  (15, .invokevirtual 41, 3, 3, 1, [0]),
  (18, .ifCond .eq 22, 3, 24, 0, []),
  (21, .aload_n 0, 1, 0, 0, []),
  (22, .getfield 9, 3, 0, 1, []),
  (25, .iload_n 3, 1, 0, 0, []),
  (26, .iaload, 1, 0, 0, []),
  (27, .iload_n 1, 1, 0, 0, []),
  (28, .if_icmp .ne 12, 3, 24, 0, []),
  (31, .aload_n 0, 1, 0, 0, []),
  (32, .getfield 18, 3, 0, 3, []),
  (35, .iload_n 3, 1, 0, 0, []),
  (36, .iaload, 1, 0, 0, []),
  (37, .goto 4, 3, 25, 0, []),
  (40, .iconst 0, 1, 0, 0, []),
  (41, .iadd, 1, 0, 0, []),
  (42, .istore_n 2, 1, 0, 0, []),
  (43, .iinc 3 1, 3, 0, 0, []),
  (46, .goto (-42), 3, 4, 0, []),
  (49, .iload_n 2, 1, 0, 0, []),
  (50, .ireturn, 1, 0, 0, [])]
/-- Debts.sumOwedTo -/
def pc_7 : List pm_I := [
  (0, .iconst 0, 1, 0, 0, []),
  (1, .istore_n 2, 1, 0, 0, []),
  (2, .iconst 0, 1, 0, 0, []),
  (3, .istore_n 3, 1, 0, 0, []),
  (4, .iload_n 3, 1, 0, 0, []),
  (5, .aload_n 0, 1, 0, 0, []),
  (6, .getfield 33, 3, 0, 0, []),
  (9, .if_icmp .ge 40, 3, 29, 0, []),
  (12, .iload_n 2, 1, 0, 0, []),
  (13, .aload_n 0, 1, 0, 0, []),
  (14, .iload_n 3, 1, 0, 0, []),
  (15, .invokevirtual 41, 3, 3, 1, [0]),
  (18, .ifCond .eq 22, 3, 24, 0, []),
  (21, .aload_n 0, 1, 0, 0, []),
  (22, .getfield 15, 3, 0, 2, []),
  (25, .iload_n 3, 1, 0, 0, []),
  (26, .iaload, 1, 0, 0, []),
  (27, .iload_n 1, 1, 0, 0, []),
  (28, .if_icmp .ne 12, 3, 24, 0, []),
  (31, .aload_n 0, 1, 0, 0, []),
  (32, .getfield 18, 3, 0, 3, []),
  (35, .iload_n 3, 1, 0, 0, []),
  (36, .iaload, 1, 0, 0, []),
  (37, .goto 4, 3, 25, 0, []),
  (40, .iconst 0, 1, 0, 0, []),
  (41, .iadd, 1, 0, 0, []),
  (42, .istore_n 2, 1, 0, 0, []),
  (43, .iinc 3 1, 3, 0, 0, []),
  (46, .goto (-42), 3, 4, 0, []),
  (49, .iload_n 2, 1, 0, 0, []),
  (50, .ireturn, 1, 0, 0, [])]
/-- Debts.shareSomebody -/
def pc_8 : List pm_I := [
  (0, .aload_n 0, 1, 0, 0, []),
  (1, .getfield 9, 3, 0, 1, []),
  (4, .iload_n 1, 1, 0, 0, []),
  (5, .iaload, 1, 0, 0, []),
  (6, .aload_n 0, 1, 0, 0, []),
  (7, .getfield 9, 3, 0, 1, []),
  (10, .iload_n 2, 1, 0, 0, []),
  (11, .iaload, 1, 0, 0, []),
  (12, .if_icmp .eq 48, 3, 36, 0, []),
  (15, .aload_n 0, 1, 0, 0, []),
  (16, .getfield 9, 3, 0, 1, []),
  (19, .iload_n 1, 1, 0, 0, []),
  (20, .iaload, 1, 0, 0, []),
  (21, .aload_n 0, 1, 0, 0, []),
  (22, .getfield 15, 3, 0, 2, []),
  (25, .iload_n 2, 1, 0, 0, []),
  (26, .iaload, 1, 0, 0, []),
  (27, .if_icmp .eq 33, 3, 36, 0, []),
  (30, .aload_n 0, 1, 0, 0, []),
  (31, .getfield 15, 3, 0, 2, []),
  (34, .iload_n 1, 1, 0, 0, []),
  (35, .iaload, 1, 0, 0, []),
  (36, .aload_n 0, 1, 0, 0, []),
  (37, .getfield 9, 3, 0, 1, []),
  (40, .iload_n 2, 1, 0, 0, []),
  (41, .iaload, 1, 0, 0, []),
  (42, .if_icmp .eq 18, 3, 36, 0, []),
  (45, .aload_n 0, 1, 0, 0, []),
  (46, .getfield 15, 3, 0, 2, []),
  (49, .iload_n 1, 1, 0, 0, []),
  (50, .iaload, 1, 0, 0, []),
  (51, .aload_n 0, 1, 0, 0, []),
  (52, .getfield 15, 3, 0, 2, []),
  (55, .iload_n 2, 1, 0, 0, []),
  (56, .iaload, 1, 0, 0, []),
  (57, .if_icmp .ne 7, 3, 38, 0, []),
  (60, .iconst 1, 1, 1, 0, []),
  (61, .goto 4, 3, 39, 0, []),
  (64, .iconst 0, 1, 0, 0, []),
  (65, .ireturn, 1, 0, 0, [])]
/-- Debts.addInterest -/
def pc_9 : List pm_I := [
  (0, .iconst 0, 1, 0, 0, []),
  (1, .istore 4, 2, 0, 0, []),
  (3, .iload 4, 2, 0, 0, []),
  (5, .aload_n 0, 1, 0, 0, []),
  (6, .getfield 33, 3, 0, 0, []),
  (9, .if_icmp .ge 63, 3, 37, 0, []),
  (12, .iload_n 3, 1, 0, 0, []),
  (13, .ifCond .le 59, 3, 37, 0, []),
  (16, .aload_n 0, 1, 0, 0, []),
  (17, .iload 4, 2, 0, 0, []),
  (19, .invokevirtual 41, 3, 3, 1, [0]),
  (22, .ifCond .eq 44, 3, 35, 0, []),
  (25, .iload_n 2, 1, 0, 0, []),
  (26, .ifCond .le 40, 3, 35, 0, []),
  (29, .iload_n 1, 1, 0, 0, []),
  (30, .aload_n 0, 1, 0, 0, []),
  (31, .getfield 24, 3, 0, 5, []),
  (34, .iload 4, 2, 0, 0, []),
  (36, .iaload, 1, 0, 0, []),
  (37, .isub, 1, 0, 0, []),
  (38, .iload_n 2, 1, 0, 0, []),
  (39, .irem, 1, 0, 0, []),
  (40, .ifCond .ne 26, 3, 35, 0, []),
  (43, .aload_n 0, 1, 0, 0, []),
  (44, .getfield 18, 3, 0, 3, []),
  (47, .iload 4, 2, 0, 0, []),
  (49, .ldc 44, 2, 99999, 0, []),
  (51, .aload_n 0, 1, 0, 0, []),
  (52, .getfield 18, 3, 0, 3, []),
  (55, .iload 4, 2, 0, 0, []),
  (57, .iaload, 1, 0, 0, []),
  (58, .iload_n 3, 1, 0, 0, []),
  (59, .invokestatic 45, 3, 10, 2, []),
  (62, .invokestatic 49, 3, 1000, 2, []),
  (65, .iastore, 1, 0, 0, []),
  (66, .iinc 4 1, 3, 0, 0, []),
  (69, .goto (-66), 3, 2, 0, []),
  (72, .return_, 1, 0, 0, [])]
/-- Debts.grown -/
def pc_10 : List pm_I := [
  (0, .iload_n 0, 1, 0, 0, []),
  (1, .iload_n 0, 1, 0, 0, []),
  (2, .iload_n 1, 1, 0, 0, []),
  (3, .imul, 1, 0, 0, []),
  (4, .bipush 100, 2, 100, 0, []),
  (6, .idiv, 1, 0, 0, []),
  (7, .iadd, 1, 0, 0, []),
  (8, .ireturn, 1, 0, 0, [])]
/-- Debts.copyFrom -/
def pc_11 : List pm_I := [
  (0, .aload_n 0, 1, 0, 0, []),
  (1, .aload_n 1, 1, 0, 0, []),
  (2, .getfield 33, 3, 0, 0, []),
  (5, .putfield 33, 3, 0, 0, [0]),
  (8, .aload_n 1, 1, 0, 0, []),
  (9, .getfield 9, 3, 0, 1, []),
  (12, .aload_n 0, 1, 0, 0, []),
  (13, .getfield 9, 3, 0, 1, []),
  (16, .invokestatic 54, 3, 157, 2, []),
  (19, .aload_n 1, 1, 0, 0, []),
  (20, .getfield 15, 3, 0, 2, []),
  (23, .aload_n 0, 1, 0, 0, []),
  (24, .getfield 15, 3, 0, 2, []),
  (27, .invokestatic 54, 3, 157, 2, []),
  (30, .aload_n 1, 1, 0, 0, []),
  (31, .getfield 18, 3, 0, 3, []),
  (34, .aload_n 0, 1, 0, 0, []),
  (35, .getfield 18, 3, 0, 3, []),
  (38, .invokestatic 54, 3, 157, 2, []),
  (41, .aload_n 1, 1, 0, 0, []),
  (42, .getfield 21, 3, 0, 4, []),
  (45, .aload_n 0, 1, 0, 0, []),
  (46, .getfield 21, 3, 0, 4, []),
  (49, .invokestatic 54, 3, 157, 2, []),
  (52, .aload_n 1, 1, 0, 0, []),
  (53, .getfield 24, 3, 0, 5, []),
  (56, .aload_n 0, 1, 0, 0, []),
  (57, .getfield 24, 3, 0, 5, []),
  (60, .invokestatic 54, 3, 157, 2, []),
  (63, .aload_n 1, 1, 0, 0, []),
  (64, .getfield 27, 3, 0, 6, []),
  (67, .aload_n 0, 1, 0, 0, []),
  (68, .getfield 27, 3, 0, 6, []),
  (71, .invokestatic 54, 3, 157, 2, []),
  (74, .aload_n 1, 1, 0, 0, []),
  (75, .getfield 30, 3, 0, 7, []),
  (78, .aload_n 0, 1, 0, 0, []),
  (79, .getfield 30, 3, 0, 7, []),
  (82, .invokestatic 54, 3, 157, 2, []),
  (85, .return_, 1, 0, 0, [])]
/-- Law.init -/
def pc_12 : List pm_I := [
  (0, .aload_n 0, 1, 0, 0, []),
  (1, .invokespecial 3, 3, 1004, 0, []),
  (4, .aload_n 0, 1, 0, 0, []),
  (5, .sipush 400, 3, 400, 0, []),
  (8, .newarray .int, 2, 0, 0, []),
  (10, .putfield 9, 3, 1, 3, [2]),
  (13, .aload_n 0, 1, 0, 0, []),
  (14, .bipush 40, 2, 40, 0, []),
  (16, .newarray .int, 2, 0, 0, []),
  (18, .putfield 13, 3, 1, 4, [2]),
  (21, .return_, 1, 0, 0, [])]
/-- Law.clear -/
def pc_13 : List pm_I := [
  (0, .aload_n 0, 1, 0, 0, []),
  (1, .iconst 0, 1, 0, 0, []),
  (2, .putfield 16, 3, 1, 0, [0]),
  (5, .aload_n 0, 1, 0, 0, []),
  (6, .iconst 0, 1, 0, 0, []),
  (7, .putfield 20, 3, 1, 1, [0]),
  (10, .return_, 1, 0, 0, [])]
/-- Law.add -/
def pc_14 : List pm_I := [
  (0, .aload_n 0, 1, 0, 0, []),
  (1, .getfield 20, 3, 1, 1, []),
  (4, .aload_n 0, 1, 0, 0, []),
  (5, .getfield 9, 3, 1, 3, []),
  (8, .arraylength, 1, 0, 0, []),
  (9, .if_icmp .ge 23, 3, 18, 0, []),
  (12, .aload_n 0, 1, 0, 0, []),
  (13, .getfield 9, 3, 1, 3, []),
  (16, .aload_n 0, 1, 0, 0, []),
  (17, .getfield 20, 3, 1, 1, []),
  (20, .iload_n 1, 1, 0, 0, []),
  (21, .iastore, 1, 0, 0, []),
  (22, .aload_n 0, 1, 0, 0, []),
  (23, .dup, 1, 0, 0, []),
  (24, .getfield 20, 3, 1, 1, []),
  (27, .iconst 1, 1, 1, 0, []),
  (28, .iadd, 1, 0, 0, []),
  (29, .putfield 20, 3, 1, 1, [0]),
  (32, .return_, 1, 0, 0, [])]
/-- Law.addVerdict -/
def pc_15 : List pm_I := [
  (0, .aload_n 0, 1, 0, 0, []),
  (1, .iload_n 1, 1, 0, 0, []),
  (2, .invokevirtual 23, 3, 14, 1, [1]),
  (5, .aload_n 0, 1, 0, 0, []),
  (6, .dup, 1, 0, 0, []),
  (7, .getfield 16, 3, 1, 0, []),
  (10, .iconst 1, 1, 1, 0, []),
  (11, .iadd, 1, 0, 0, []),
  (12, .putfield 16, 3, 1, 0, [0]),
  (15, .return_, 1, 0, 0, [])]
/-- Law.lets -/
def pc_16 : List pm_I := [
  (0, .aload_n 0, 1, 0, 0, []),
  (1, .iconst 0, 1, 0, 0, []),
  (2, .putfield 27, 3, 1, 2, [0]),
  (5, .iconst 0, 1, 0, 0, []),
  (6, .istore_n 2, 1, 0, 0, []),
  (7, .iload_n 2, 1, 0, 0, []),
  (8, .aload_n 0, 1, 0, 0, []),
  (9, .getfield 20, 3, 1, 1, []),
  (12, .if_icmp .ge 60, 3, 41, 0, []),
  (15, .iload_n 2, 1, 0, 0, []),
  (16, .aload_n 0, 1, 0, 0, []),
  (17, .getfield 9, 3, 1, 3, []),
  (20, .arraylength, 1, 0, 0, []),
  (21, .if_icmp .ge 51, 3, 41, 0, []),
  (24, .aload_n 0, 1, 0, 0, []),
  (25, .getfield 9, 3, 1, 3, []),
  (28, .iload_n 2, 1, 0, 0, []),
  (29, .iaload, 1, 0, 0, []),
  (30, .istore_n 3, 1, 0, 0, []),
  (31, .iload_n 3, 1, 0, 0, []),
  (32, .iconst (-1), 1, 1, 1, []),
  (33, .if_icmp .eq 9, 3, 25, 0, []),
  (36, .iload_n 3, 1, 0, 0, []),
  (37, .bipush (-2), 2, 2, 1, []),
  (39, .if_icmp .ne 21, 3, 35, 0, []),
  (42, .aload_n 0, 1, 0, 0, []),
  (43, .invokevirtual 30, 3, 21, 0, [1]),
  (46, .ifCond .eq 20, 3, 39, 0, []),
  (49, .iload_n 3, 1, 0, 0, []),
  (50, .iconst (-1), 1, 1, 1, []),
  (51, .if_icmp .ne 7, 3, 33, 0, []),
  (54, .iconst 1, 1, 1, 0, []),
  (55, .goto 4, 3, 34, 0, []),
  (58, .iconst 0, 1, 0, 0, []),
  (59, .ireturn, 1, 0, 0, []),
  (60, .aload_n 0, 1, 0, 0, []),
  (61, .iload_n 3, 1, 0, 0, []),
  (62, .aload_n 1, 1, 0, 0, []),
  (63, .invokevirtual 34, 3, 17, 2, [1]),
  (66, .iinc 2 1, 3, 0, 0, []),
  (69, .goto (-62), 3, 5, 0, []),
  (72, .iconst 1, 1, 1, 0, []),
  (73, .ireturn, 1, 0, 0, [])]
/-- Law.step -/
def pc_17 : List pm_I := [
  (0, .iload_n 1, 1, 0, 0, []),
  (1, .ifCond .lt 11, 3, 6, 0, []),
  (4, .aload_n 0, 1, 0, 0, []),
  (5, .iload_n 1, 1, 0, 0, []),
  (6, .invokevirtual 38, 3, 20, 1, [1]),
  (9, .goto 82, 3, 49, 0, []),
  (12, .iload_n 1, 1, 0, 0, []),
  (13, .invokestatic 41, 3, 19, 1, []),
  (16, .ifCond .eq 28, 3, 25, 0, []),
  (19, .bipush (-7), 2, 7, 1, []),
  (21, .iload_n 1, 1, 0, 0, []),
  (22, .isub, 1, 0, 0, []),
  (23, .istore_n 3, 1, 0, 0, []),
  (24, .aload_n 0, 1, 0, 0, []),
  (25, .iload_n 3, 1, 0, 0, []),
  (26, .aload_n 2, 1, 0, 0, []),
  (27, .arraylength, 1, 0, 0, []),
  (28, .if_icmp .ge 9, 3, 22, 0, []),
  (31, .aload_n 2, 1, 0, 0, []),
  (32, .iload_n 3, 1, 0, 0, []),
  (33, .iaload, 1, 0, 0, []),
  (34, .goto 4, 3, 23, 0, []),
  (37, .iconst 0, 1, 0, 0, []),
  (38, .invokevirtual 38, 3, 20, 1, [1]),
  (41, .goto 50, 3, 49, 0, []),
  (44, .iload_n 1, 1, 0, 0, []),
  (45, .bipush (-6), 2, 6, 1, []),
  (47, .if_icmp .ne 22, 3, 37, 0, []),
  (50, .aload_n 0, 1, 0, 0, []),
  (51, .aload_n 0, 1, 0, 0, []),
  (52, .invokevirtual 30, 3, 21, 0, [1]),
  (55, .ifCond .ne 7, 3, 34, 0, []),
  (58, .iconst 1, 1, 1, 0, []),
  (59, .goto 4, 3, 35, 0, []),
  (62, .iconst 0, 1, 0, 0, []),
  (63, .invokevirtual 38, 3, 20, 1, [1]),
  (66, .goto 25, 3, 49, 0, []),
  (69, .aload_n 0, 1, 0, 0, []),
  (70, .invokevirtual 30, 3, 21, 0, [1]),
  (73, .istore_n 3, 1, 0, 0, []),
  (74, .aload_n 0, 1, 0, 0, []),
  (75, .invokevirtual 30, 3, 21, 0, [1]),
  (78, .istore 4, 2, 0, 0, []),
  (80, .aload_n 0, 1, 0, 0, []),
  (81, .iload_n 1, 1, 0, 0, []),
  (82, .iload 4, 2, 0, 0, []),
  (84, .iload_n 3, 1, 0, 0, []),
  (85, .invokestatic 45, 3, 18, 3, []),
  (88, .invokevirtual 38, 3, 20, 1, [1]),
  (91, .return_, 1, 0, 0, [])]
/-- Law.joined -/
def pc_18 : List pm_I := [
  (0, .iload_n 0, 1, 0, 0, []),
  (1, .tableswitch 153 (-24) (-4) #[142, 131, 153, 153, 119, 115, 111, 107, 153, 153, 153, 153, 153, 153, 153, 153, 153, 153, 153, 103, 99], 99, 44, 0, [37, 30, 44, 44, 22, 18, 14, 10, 44, 44, 44, 44, 44, 44, 44, 44, 44, 44, 44, 6, 2]),
  (100, .iload_n 1, 1, 0, 0, []),
  (101, .iload_n 2, 1, 0, 0, []),
  (102, .ior, 1, 0, 0, []),
  (103, .ireturn, 1, 0, 0, []),
  (104, .iload_n 1, 1, 0, 0, []),
  (105, .iload_n 2, 1, 0, 0, []),
  (106, .iand, 1, 0, 0, []),
  (107, .ireturn, 1, 0, 0, []),
  (108, .iload_n 1, 1, 0, 0, []),
  (109, .iload_n 2, 1, 0, 0, []),
  (110, .iadd, 1, 0, 0, []),
  (111, .ireturn, 1, 0, 0, []),
  (112, .iload_n 1, 1, 0, 0, []),
  (113, .iload_n 2, 1, 0, 0, []),
  (114, .isub, 1, 0, 0, []),
  (115, .ireturn, 1, 0, 0, []),
  (116, .iload_n 1, 1, 0, 0, []),
  (117, .iload_n 2, 1, 0, 0, []),
  (118, .imul, 1, 0, 0, []),
  (119, .ireturn, 1, 0, 0, []),
  (120, .iload_n 2, 1, 0, 0, []),
  (121, .ifCond .ne 7, 3, 26, 0, []),
  (124, .iconst 0, 1, 0, 0, []),
  (125, .goto 6, 3, 29, 0, []),
  (128, .iload_n 1, 1, 0, 0, []),
  (129, .iload_n 2, 1, 0, 0, []),
  (130, .idiv, 1, 0, 0, []),
  (131, .ireturn, 1, 0, 0, []),
  (132, .iload_n 1, 1, 0, 0, []),
  (133, .iload_n 2, 1, 0, 0, []),
  (134, .if_icmp .ge 7, 3, 35, 0, []),
  (137, .iconst 1, 1, 1, 0, []),
  (138, .goto 4, 3, 36, 0, []),
  (141, .iconst 0, 1, 0, 0, []),
  (142, .ireturn, 1, 0, 0, []),
  (143, .iload_n 1, 1, 0, 0, []),
  (144, .iload_n 2, 1, 0, 0, []),
  (145, .if_icmp .ne 7, 3, 42, 0, []),
  (148, .iconst 1, 1, 1, 0, []),
  (149, .goto 4, 3, 43, 0, []),
  (152, .iconst 0, 1, 0, 0, []),
  (153, .ireturn, 1, 0, 0, []),
  (154, .iload_n 1, 1, 0, 0, []),
  (155, .iload_n 2, 1, 0, 0, []),
  (156, .if_icmp .le 7, 3, 49, 0, []),
  (159, .iconst 1, 1, 1, 0, []),
  (160, .goto 4, 3, 50, 0, []),
  (163, .iconst 0, 1, 0, 0, []),
  (164, .ireturn, 1, 0, 0, [])]
/-- Law.isFact -/
def pc_19 : List pm_I := [
  (0, .iload_n 0, 1, 0, 0, []),
  (1, .bipush (-7), 2, 7, 1, []),
  (3, .if_icmp .gt 13, 3, 8, 0, []),
  (6, .iload_n 0, 1, 0, 0, []),
  (7, .bipush (-15), 2, 15, 1, []),
  (9, .if_icmp .lt 7, 3, 8, 0, []),
  (12, .iconst 1, 1, 1, 0, []),
  (13, .goto 4, 3, 9, 0, []),
  (16, .iconst 0, 1, 0, 0, []),
  (17, .ireturn, 1, 0, 0, [])]
/-- Law.push -/
def pc_20 : List pm_I := [
  (0, .aload_n 0, 1, 0, 0, []),
  (1, .getfield 27, 3, 1, 2, []),
  (4, .ifCond .lt 35, 3, 21, 0, []),
  (7, .aload_n 0, 1, 0, 0, []),
  (8, .getfield 27, 3, 1, 2, []),
  (11, .aload_n 0, 1, 0, 0, []),
  (12, .getfield 13, 3, 1, 4, []),
  (15, .arraylength, 1, 0, 0, []),
  (16, .if_icmp .ge 23, 3, 21, 0, []),
  (19, .aload_n 0, 1, 0, 0, []),
  (20, .getfield 13, 3, 1, 4, []),
  (23, .aload_n 0, 1, 0, 0, []),
  (24, .getfield 27, 3, 1, 2, []),
  (27, .iload_n 1, 1, 0, 0, []),
  (28, .iastore, 1, 0, 0, []),
  (29, .aload_n 0, 1, 0, 0, []),
  (30, .dup, 1, 0, 0, []),
  (31, .getfield 27, 3, 1, 2, []),
  (34, .iconst 1, 1, 1, 0, []),
  (35, .iadd, 1, 0, 0, []),
  (36, .putfield 27, 3, 1, 2, [0]),
  (39, .return_, 1, 0, 0, [])]
/-- Law.pop -/
def pc_21 : List pm_I := [
  (0, .aload_n 0, 1, 0, 0, []),
  (1, .getfield 27, 3, 1, 2, []),
  (4, .ifCond .le 15, 3, 9, 0, []),
  (7, .aload_n 0, 1, 0, 0, []),
  (8, .getfield 27, 3, 1, 2, []),
  (11, .aload_n 0, 1, 0, 0, []),
  (12, .getfield 13, 3, 1, 4, []),
  (15, .arraylength, 1, 0, 0, []),
  (16, .if_icmp .le 5, 3, 11, 0, []),
  (19, .iconst 0, 1, 0, 0, []),
  (20, .ireturn, 1, 0, 0, []),
  (21, .aload_n 0, 1, 0, 0, []),
  (22, .dup, 1, 0, 0, []),
  (23, .getfield 27, 3, 1, 2, []),
  (26, .iconst 1, 1, 1, 0, []),
  (27, .isub, 1, 0, 0, []),
  (28, .putfield 27, 3, 1, 2, [0]),
  (31, .aload_n 0, 1, 0, 0, []),
  (32, .getfield 13, 3, 1, 4, []),
  (35, .aload_n 0, 1, 0, 0, []),
  (36, .getfield 27, 3, 1, 2, []),
  (39, .iaload, 1, 0, 0, []),
  (40, .ireturn, 1, 0, 0, [])]
/-- Law.copyFrom -/
def pc_22 : List pm_I := [
  (0, .aload_n 0, 1, 0, 0, []),
  (1, .aload_n 1, 1, 0, 0, []),
  (2, .getfield 16, 3, 1, 0, []),
  (5, .putfield 16, 3, 1, 0, [0]),
  (8, .aload_n 0, 1, 0, 0, []),
  (9, .aload_n 1, 1, 0, 0, []),
  (10, .getfield 20, 3, 1, 1, []),
  (13, .putfield 20, 3, 1, 1, [0]),
  (16, .aload_n 1, 1, 0, 0, []),
  (17, .getfield 9, 3, 1, 3, []),
  (20, .aload_n 0, 1, 0, 0, []),
  (21, .getfield 9, 3, 1, 3, []),
  (24, .invokestatic 49, 3, 157, 2, []),
  (27, .return_, 1, 0, 0, [])]
/-- LawReader.init -/
def pc_23 : List pm_I := [
  (0, .aload_n 0, 1, 0, 0, []),
  (1, .invokespecial 3, 3, 1004, 0, []),
  (4, .aload_n 0, 1, 0, 0, []),
  (5, .iconst (-1), 1, 1, 1, []),
  (6, .putfield 9, 3, 2, 1, [0]),
  (9, .aload_n 0, 1, 0, 0, []),
  (10, .sipush 400, 3, 400, 0, []),
  (13, .newarray .int, 2, 0, 0, []),
  (15, .putfield 15, 3, 2, 3, [2]),
  (18, .aload_n 0, 1, 0, 0, []),
  (19, .new 19, 3, 1, 5, []),
  (22, .dup, 1, 0, 0, []),
  (23, .invokespecial 21, 3, 12, 0, []),
  (26, .putfield 22, 3, 2, 4, [2]),
  (29, .aload_n 0, 1, 0, 0, []),
  (30, .sipush 401, 3, 401, 0, []),
  (33, .newarray .int, 2, 0, 0, []),
  (35, .putfield 26, 3, 2, 5, [2]),
  (38, .aload_n 0, 1, 0, 0, []),
  (39, .sipush 401, 3, 401, 0, []),
  (42, .newarray .int, 2, 0, 0, []),
  (44, .putfield 29, 3, 2, 6, [2]),
  (47, .return_, 1, 0, 0, [])]
/-- LawReader.addNumbers -/
def pc_24 : List pm_I := [
  (0, .aload_n 0, 1, 0, 0, []),
  (1, .getfield 32, 3, 2, 2, []),
  (4, .bipush 20, 2, 20, 0, []),
  (6, .iadd, 1, 0, 0, []),
  (7, .sipush 400, 3, 400, 0, []),
  (10, .if_icmp .le 5, 3, 8, 0, []),
  (13, .iconst (-1), 1, 1, 1, []),
  (14, .ireturn, 1, 0, 0, []),
  (15, .aload_n 0, 1, 0, 0, []),
  (16, .iload_n 1, 1, 0, 0, []),
  (17, .invokevirtual 35, 3, 25, 1, [2]),
  (20, .aload_n 0, 1, 0, 0, []),
  (21, .iload_n 2, 1, 0, 0, []),
  (22, .invokevirtual 35, 3, 25, 1, [2]),
  (25, .aload_n 0, 1, 0, 0, []),
  (26, .iload_n 3, 1, 0, 0, []),
  (27, .invokevirtual 35, 3, 25, 1, [2]),
  (30, .aload_n 0, 1, 0, 0, []),
  (31, .iload 4, 2, 0, 0, []),
  (33, .invokevirtual 35, 3, 25, 1, [2]),
  (36, .aload_n 0, 1, 0, 0, []),
  (37, .iload 5, 2, 0, 0, []),
  (39, .invokevirtual 35, 3, 25, 1, [2]),
  (42, .aload_n 0, 1, 0, 0, []),
  (43, .getfield 32, 3, 2, 2, []),
  (46, .ireturn, 1, 0, 0, [])]
/-- LawReader.addBytes -/
def pc_25 : List pm_I := [
  (0, .bipush 24, 2, 24, 0, []),
  (2, .istore_n 2, 1, 0, 0, []),
  (3, .iload_n 2, 1, 0, 0, []),
  (4, .ifCond .lt 45, 3, 26, 0, []),
  (7, .aload_n 0, 1, 0, 0, []),
  (8, .getfield 32, 3, 2, 2, []),
  (11, .sipush 400, 3, 400, 0, []),
  (14, .if_icmp .ge 35, 3, 26, 0, []),
  (17, .aload_n 0, 1, 0, 0, []),
  (18, .getfield 15, 3, 2, 3, []),
  (21, .aload_n 0, 1, 0, 0, []),
  (22, .getfield 32, 3, 2, 2, []),
  (25, .iload_n 1, 1, 0, 0, []),
  (26, .iload_n 2, 1, 0, 0, []),
  (27, .iushr, 1, 0, 0, []),
  (28, .sipush 255, 3, 255, 0, []),
  (31, .iand, 1, 0, 0, []),
  (32, .iastore, 1, 0, 0, []),
  (33, .aload_n 0, 1, 0, 0, []),
  (34, .dup, 1, 0, 0, []),
  (35, .getfield 32, 3, 2, 2, []),
  (38, .iconst 1, 1, 1, 0, []),
  (39, .iadd, 1, 0, 0, []),
  (40, .putfield 32, 3, 2, 2, [0]),
  (43, .iinc 2 (-8), 3, 0, 0, []),
  (46, .goto (-43), 3, 2, 0, []),
  (49, .return_, 1, 0, 0, [])]
/-- LawReader.cut -/
def pc_26 : List pm_I := [
  (0, .iload_n 1, 1, 0, 0, []),
  (1, .ifCond .lt 11, 3, 6, 0, []),
  (4, .iload_n 1, 1, 0, 0, []),
  (5, .aload_n 0, 1, 0, 0, []),
  (6, .getfield 32, 3, 2, 2, []),
  (9, .if_icmp .le 5, 3, 8, 0, []),
  (12, .iconst 0, 1, 0, 0, []),
  (13, .ireturn, 1, 0, 0, []),
  (14, .aload_n 0, 1, 0, 0, []),
  (15, .iload_n 1, 1, 0, 0, []),
  (16, .putfield 32, 3, 2, 2, [0]),
  (19, .iconst 1, 1, 1, 0, []),
  (20, .ireturn, 1, 0, 0, [])]
/-- LawReader.readInto -/
def pc_27 : List pm_I := [
  (0, .aload_n 0, 1, 0, 0, []),
  (1, .invokevirtual 39, 3, 38, 0, [2]),
  (4, .aload_n 0, 1, 0, 0, []),
  (5, .iconst 0, 1, 0, 0, []),
  (6, .putfield 32, 3, 2, 2, [0]),
  (9, .aload_n 0, 1, 0, 0, []),
  (10, .iconst 0, 1, 0, 0, []),
  (11, .putfield 42, 3, 2, 0, [0]),
  (14, .aload_n 0, 1, 0, 0, []),
  (15, .iconst (-1), 1, 1, 1, []),
  (16, .putfield 9, 3, 2, 1, [0]),
  (19, .aload_n 0, 1, 0, 0, []),
  (20, .iconst 0, 1, 0, 0, []),
  (21, .putfield 45, 3, 2, 8, [0]),
  (24, .aload_n 0, 1, 0, 0, []),
  (25, .aload_n 0, 1, 0, 0, []),
  (26, .getfield 26, 3, 2, 5, []),
  (29, .iconst 0, 1, 0, 0, []),
  (30, .iaload, 1, 0, 0, []),
  (31, .putfield 48, 3, 2, 9, [0]),
  (34, .aload_n 0, 1, 0, 0, []),
  (35, .getfield 22, 3, 2, 4, []),
  (38, .invokevirtual 51, 3, 13, 0, [1]),
  (41, .iconst 0, 1, 0, 0, []),
  (42, .istore_n 2, 1, 0, 0, []),
  (43, .iload_n 2, 1, 0, 0, []),
  (44, .bipush 16, 2, 16, 0, []),
  (46, .if_icmp .gt 29, 3, 39, 0, []),
  (49, .aload_n 0, 1, 0, 0, []),
  (50, .getfield 42, 3, 2, 0, []),
  (53, .ifCond .ne 22, 3, 39, 0, []),
  (56, .aload_n 0, 1, 0, 0, []),
  (57, .getfield 48, 3, 2, 9, []),
  (60, .bipush (-26), 2, 26, 1, []),
  (62, .if_icmp .eq 13, 3, 39, 0, []),
  (65, .aload_n 0, 1, 0, 0, []),
  (66, .invokevirtual 54, 3, 31, 0, [2]),
  (69, .iinc 2 1, 3, 0, 0, []),
  (72, .goto (-29), 3, 25, 0, []),
  (75, .aload_n 0, 1, 0, 0, []),
  (76, .getfield 42, 3, 2, 0, []),
  (79, .ifCond .eq 5, 3, 44, 0, []),
  (82, .iconst (-1), 1, 1, 1, []),
  (83, .ireturn, 1, 0, 0, []),
  (84, .aload_n 1, 1, 0, 0, []),
  (85, .aload_n 0, 1, 0, 0, []),
  (86, .getfield 22, 3, 2, 4, []),
  (89, .invokevirtual 57, 3, 22, 1, [1]),
  (92, .aload_n 1, 1, 0, 0, []),
  (93, .getfield 61, 3, 1, 0, []),
  (96, .ireturn, 1, 0, 0, [])]
/-- LawReader.fail -/
def pc_28 : List pm_I := [
  (0, .aload_n 0, 1, 0, 0, []),
  (1, .getfield 42, 3, 2, 0, []),
  (4, .ifCond .ne 21, 3, 13, 0, []),
  (7, .aload_n 0, 1, 0, 0, []),
  (8, .iload_n 1, 1, 0, 0, []),
  (9, .putfield 42, 3, 2, 0, [0]),
  (12, .aload_n 0, 1, 0, 0, []),
  (13, .aload_n 0, 1, 0, 0, []),
  (14, .getfield 29, 3, 2, 6, []),
  (17, .aload_n 0, 1, 0, 0, []),
  (18, .getfield 45, 3, 2, 8, []),
  (21, .iaload, 1, 0, 0, []),
  (22, .putfield 9, 3, 2, 1, [0]),
  (25, .return_, 1, 0, 0, [])]
/-- LawReader.advance -/
def pc_29 : List pm_I := [
  (0, .aload_n 0, 1, 0, 0, []),
  (1, .getfield 45, 3, 2, 8, []),
  (4, .iconst 1, 1, 1, 0, []),
  (5, .iadd, 1, 0, 0, []),
  (6, .aload_n 0, 1, 0, 0, []),
  (7, .getfield 64, 3, 2, 7, []),
  (10, .if_icmp .ge 26, 3, 20, 0, []),
  (13, .aload_n 0, 1, 0, 0, []),
  (14, .dup, 1, 0, 0, []),
  (15, .getfield 45, 3, 2, 8, []),
  (18, .iconst 1, 1, 1, 0, []),
  (19, .iadd, 1, 0, 0, []),
  (20, .putfield 45, 3, 2, 8, [0]),
  (23, .aload_n 0, 1, 0, 0, []),
  (24, .aload_n 0, 1, 0, 0, []),
  (25, .getfield 26, 3, 2, 5, []),
  (28, .aload_n 0, 1, 0, 0, []),
  (29, .getfield 45, 3, 2, 8, []),
  (32, .iaload, 1, 0, 0, []),
  (33, .putfield 48, 3, 2, 9, [0]),
  (36, .return_, 1, 0, 0, [])]
/-- LawReader.expect -/
def pc_30 : List pm_I := [
  (0, .aload_n 0, 1, 0, 0, []),
  (1, .getfield 48, 3, 2, 9, []),
  (4, .iload_n 1, 1, 0, 0, []),
  (5, .if_icmp .ne 10, 3, 7, 0, []),
  (8, .aload_n 0, 1, 0, 0, []),
  (9, .invokevirtual 67, 3, 29, 0, [2]),
  (12, .goto 8, 3, 10, 0, []),
  (15, .aload_n 0, 1, 0, 0, []),
  (16, .iconst 1, 1, 1, 0, []),
  (17, .invokevirtual 70, 3, 28, 1, [2]),
  (20, .return_, 1, 0, 0, [])]
/-- LawReader.readLine -/
def pc_31 : List pm_I := [
  (0, .aload_n 0, 1, 0, 0, []),
  (1, .getfield 48, 3, 2, 9, []),
  (4, .istore_n 1, 1, 0, 0, []),
  (5, .iload_n 1, 1, 0, 0, []),
  (6, .iconst (-1), 1, 1, 1, []),
  (7, .if_icmp .eq 15, 3, 13, 0, []),
  (10, .iload_n 1, 1, 0, 0, []),
  (11, .bipush (-2), 2, 2, 1, []),
  (13, .if_icmp .eq 9, 3, 13, 0, []),
  (16, .aload_n 0, 1, 0, 0, []),
  (17, .iconst 1, 1, 1, 0, []),
  (18, .invokevirtual 70, 3, 28, 1, [2]),
  (21, .return_, 1, 0, 0, []),
  (22, .aload_n 0, 1, 0, 0, []),
  (23, .getfield 22, 3, 2, 4, []),
  (26, .getfield 61, 3, 1, 0, []),
  (29, .bipush 16, 2, 16, 0, []),
  (31, .if_icmp .lt 9, 3, 22, 0, []),
  (34, .aload_n 0, 1, 0, 0, []),
  (35, .iconst 3, 1, 3, 0, []),
  (36, .invokevirtual 70, 3, 28, 1, [2]),
  (39, .return_, 1, 0, 0, []),
  (40, .aload_n 0, 1, 0, 0, []),
  (41, .invokevirtual 67, 3, 29, 0, [2]),
  (44, .aload_n 0, 1, 0, 0, []),
  (45, .getfield 48, 3, 2, 9, []),
  (48, .bipush (-3), 2, 3, 1, []),
  (50, .if_icmp .ne 15, 3, 34, 0, []),
  (53, .aload_n 0, 1, 0, 0, []),
  (54, .invokevirtual 67, 3, 29, 0, [2]),
  (57, .aload_n 0, 1, 0, 0, []),
  (58, .iconst 0, 1, 0, 0, []),
  (59, .invokevirtual 73, 3, 32, 1, [2]),
  (62, .goto 11, 3, 38, 0, []),
  (65, .aload_n 0, 1, 0, 0, []),
  (66, .getfield 22, 3, 2, 4, []),
  (69, .iconst 1, 1, 1, 0, []),
  (70, .invokevirtual 76, 3, 14, 1, [1]),
  (73, .aload_n 0, 1, 0, 0, []),
  (74, .bipush (-16), 2, 16, 1, []),
  (76, .invokevirtual 79, 3, 30, 1, [2]),
  (79, .aload_n 0, 1, 0, 0, []),
  (80, .getfield 22, 3, 2, 4, []),
  (83, .iload_n 1, 1, 0, 0, []),
  (84, .invokevirtual 82, 3, 15, 1, [1]),
  (87, .return_, 1, 0, 0, [])]
/-- LawReader.readAny -/
def pc_32 : List pm_I := [
  (0, .iconst 0, 1, 0, 0, []),
  (1, .istore_n 2, 1, 0, 0, []),
  (2, .aload_n 0, 1, 0, 0, []),
  (3, .iload_n 1, 1, 0, 0, []),
  (4, .invokevirtual 85, 3, 33, 1, [2]),
  (7, .iconst 0, 1, 0, 0, []),
  (8, .istore_n 3, 1, 0, 0, []),
  (9, .iload_n 3, 1, 0, 0, []),
  (10, .sipush 400, 3, 400, 0, []),
  (13, .if_icmp .ge 104, 3, 58, 0, []),
  (16, .aload_n 0, 1, 0, 0, []),
  (17, .getfield 42, 3, 2, 0, []),
  (20, .ifCond .ne 97, 3, 58, 0, []),
  (23, .aload_n 0, 1, 0, 0, []),
  (24, .getfield 48, 3, 2, 9, []),
  (27, .bipush (-4), 2, 4, 1, []),
  (29, .if_icmp .eq 12, 3, 21, 0, []),
  (32, .aload_n 0, 1, 0, 0, []),
  (33, .getfield 48, 3, 2, 9, []),
  (36, .bipush (-5), 2, 5, 1, []),
  (38, .if_icmp .ne 79, 3, 58, 0, []),
  (41, .aload_n 0, 1, 0, 0, []),
  (42, .getfield 48, 3, 2, 9, []),
  (45, .bipush (-5), 2, 5, 1, []),
  (47, .if_icmp .ne 7, 3, 27, 0, []),
  (50, .iconst 1, 1, 1, 0, []),
  (51, .goto 4, 3, 28, 0, []),
  (54, .iconst 0, 1, 0, 0, []),
  (55, .istore 4, 2, 0, 0, []),
  (57, .iload_n 2, 1, 0, 0, []),
  (58, .ifCond .eq 17, 3, 37, 0, []),
  (61, .iload 4, 2, 0, 0, []),
  (63, .ifCond .ne 12, 3, 37, 0, []),
  (66, .aload_n 0, 1, 0, 0, []),
  (67, .getfield 22, 3, 2, 4, []),
  (70, .bipush (-4), 2, 4, 1, []),
  (72, .invokevirtual 76, 3, 14, 1, [1]),
  (75, .iload_n 2, 1, 0, 0, []),
  (76, .iload 4, 2, 0, 0, []),
  (78, .ifCond .ne 7, 3, 42, 0, []),
  (81, .iconst 1, 1, 1, 0, []),
  (82, .goto 4, 3, 43, 0, []),
  (85, .iconst 0, 1, 0, 0, []),
  (86, .ior, 1, 0, 0, []),
  (87, .istore_n 2, 1, 0, 0, []),
  (88, .aload_n 0, 1, 0, 0, []),
  (89, .invokevirtual 67, 3, 29, 0, [2]),
  (92, .aload_n 0, 1, 0, 0, []),
  (93, .iload_n 1, 1, 0, 0, []),
  (94, .invokevirtual 85, 3, 33, 1, [2]),
  (97, .iload 4, 2, 0, 0, []),
  (99, .ifCond .eq 12, 3, 56, 0, []),
  (102, .aload_n 0, 1, 0, 0, []),
  (103, .getfield 22, 3, 2, 4, []),
  (106, .bipush (-5), 2, 5, 1, []),
  (108, .invokevirtual 76, 3, 14, 1, [1]),
  (111, .iinc 3 1, 3, 0, 0, []),
  (114, .goto (-105), 3, 7, 0, []),
  (117, .iload_n 2, 1, 0, 0, []),
  (118, .ifCond .eq 12, 3, 64, 0, []),
  (121, .aload_n 0, 1, 0, 0, []),
  (122, .getfield 22, 3, 2, 4, []),
  (125, .bipush (-4), 2, 4, 1, []),
  (127, .invokevirtual 76, 3, 14, 1, [1]),
  (130, .return_, 1, 0, 0, [])]
/-- LawReader.readCondition -/
def pc_33 : List pm_I := [
  (0, .aload_n 0, 1, 0, 0, []),
  (1, .getfield 48, 3, 2, 9, []),
  (4, .bipush (-6), 2, 6, 1, []),
  (6, .if_icmp .eq 12, 3, 8, 0, []),
  (9, .aload_n 0, 1, 0, 0, []),
  (10, .getfield 48, 3, 2, 9, []),
  (13, .bipush (-21), 2, 21, 1, []),
  (15, .if_icmp .ne 9, 3, 12, 0, []),
  (18, .aload_n 0, 1, 0, 0, []),
  (19, .iload_n 1, 1, 0, 0, []),
  (20, .invokevirtual 88, 3, 34, 1, [2]),
  (23, .return_, 1, 0, 0, []),
  (24, .aload_n 0, 1, 0, 0, []),
  (25, .invokevirtual 91, 3, 35, 0, [2]),
  (28, .aload_n 0, 1, 0, 0, []),
  (29, .getfield 48, 3, 2, 9, []),
  (32, .istore_n 2, 1, 0, 0, []),
  (33, .iload_n 2, 1, 0, 0, []),
  (34, .bipush (-23), 2, 23, 1, []),
  (36, .if_icmp .eq 21, 3, 30, 0, []),
  (39, .iload_n 2, 1, 0, 0, []),
  (40, .bipush (-24), 2, 24, 1, []),
  (42, .if_icmp .eq 15, 3, 30, 0, []),
  (45, .iload_n 2, 1, 0, 0, []),
  (46, .bipush (-25), 2, 25, 1, []),
  (48, .if_icmp .eq 9, 3, 30, 0, []),
  (51, .aload_n 0, 1, 0, 0, []),
  (52, .iconst 1, 1, 1, 0, []),
  (53, .invokevirtual 70, 3, 28, 1, [2]),
  (56, .return_, 1, 0, 0, []),
  (57, .aload_n 0, 1, 0, 0, []),
  (58, .invokevirtual 67, 3, 29, 0, [2]),
  (61, .aload_n 0, 1, 0, 0, []),
  (62, .invokevirtual 91, 3, 35, 0, [2]),
  (65, .aload_n 0, 1, 0, 0, []),
  (66, .getfield 22, 3, 2, 4, []),
  (69, .iload_n 2, 1, 0, 0, []),
  (70, .invokevirtual 76, 3, 14, 1, [1]),
  (73, .return_, 1, 0, 0, [])]
/-- LawReader.readOpened -/
def pc_34 : List pm_I := [
  (0, .iload_n 1, 1, 0, 0, []),
  (1, .bipush 8, 2, 8, 0, []),
  (3, .if_icmp .lt 11, 3, 7, 0, []),
  (6, .aload_n 0, 1, 0, 0, []),
  (7, .iconst 3, 1, 3, 0, []),
  (8, .invokevirtual 70, 3, 28, 1, [2]),
  (11, .goto 52, 3, 33, 0, []),
  (14, .aload_n 0, 1, 0, 0, []),
  (15, .getfield 48, 3, 2, 9, []),
  (18, .bipush (-6), 2, 6, 1, []),
  (20, .if_icmp .ne 26, 3, 23, 0, []),
  (23, .aload_n 0, 1, 0, 0, []),
  (24, .invokevirtual 67, 3, 29, 0, [2]),
  (27, .aload_n 0, 1, 0, 0, []),
  (28, .iload_n 1, 1, 0, 0, []),
  (29, .iconst 1, 1, 1, 0, []),
  (30, .iadd, 1, 0, 0, []),
  (31, .invokevirtual 85, 3, 33, 1, [2]),
  (34, .aload_n 0, 1, 0, 0, []),
  (35, .getfield 22, 3, 2, 4, []),
  (38, .bipush (-6), 2, 6, 1, []),
  (40, .invokevirtual 76, 3, 14, 1, [1]),
  (43, .goto 20, 3, 33, 0, []),
  (46, .aload_n 0, 1, 0, 0, []),
  (47, .invokevirtual 67, 3, 29, 0, [2]),
  (50, .aload_n 0, 1, 0, 0, []),
  (51, .iload_n 1, 1, 0, 0, []),
  (52, .iconst 1, 1, 1, 0, []),
  (53, .iadd, 1, 0, 0, []),
  (54, .invokevirtual 73, 3, 32, 1, [2]),
  (57, .aload_n 0, 1, 0, 0, []),
  (58, .bipush (-22), 2, 22, 1, []),
  (60, .invokevirtual 79, 3, 30, 1, [2]),
  (63, .return_, 1, 0, 0, [])]
/-- LawReader.readSide -/
def pc_35 : List pm_I := [
  (0, .bipush (-27), 2, 27, 1, []),
  (2, .istore_n 1, 1, 0, 0, []),
  (3, .aload_n 0, 1, 0, 0, []),
  (4, .invokevirtual 94, 3, 37, 0, [2]),
  (7, .iconst 0, 1, 0, 0, []),
  (8, .istore_n 2, 1, 0, 0, []),
  (9, .iload_n 2, 1, 0, 0, []),
  (10, .sipush 400, 3, 400, 0, []),
  (13, .if_icmp .ge 119, 3, 65, 0, []),
  (16, .aload_n 0, 1, 0, 0, []),
  (17, .getfield 42, 3, 2, 0, []),
  (20, .ifCond .ne 112, 3, 65, 0, []),
  (23, .aload_n 0, 1, 0, 0, []),
  (24, .getfield 48, 3, 2, 9, []),
  (27, .bipush (-17), 2, 17, 1, []),
  (29, .if_icmp .gt 103, 3, 65, 0, []),
  (32, .aload_n 0, 1, 0, 0, []),
  (33, .getfield 48, 3, 2, 9, []),
  (36, .bipush (-20), 2, 20, 1, []),
  (38, .if_icmp .lt 94, 3, 65, 0, []),
  (41, .aload_n 0, 1, 0, 0, []),
  (42, .getfield 48, 3, 2, 9, []),
  (45, .istore_n 3, 1, 0, 0, []),
  (46, .iload_n 3, 1, 0, 0, []),
  (47, .bipush (-17), 2, 17, 1, []),
  (49, .if_icmp .eq 9, 3, 29, 0, []),
  (52, .iload_n 3, 1, 0, 0, []),
  (53, .bipush (-18), 2, 18, 1, []),
  (55, .if_icmp .ne 7, 3, 31, 0, []),
  (58, .iconst 1, 1, 1, 0, []),
  (59, .goto 4, 3, 32, 0, []),
  (62, .iconst 0, 1, 0, 0, []),
  (63, .istore 4, 2, 0, 0, []),
  (65, .iload 4, 2, 0, 0, []),
  (67, .ifCond .eq 17, 3, 42, 0, []),
  (70, .iload_n 1, 1, 0, 0, []),
  (71, .bipush (-27), 2, 27, 1, []),
  (73, .if_icmp .eq 11, 3, 42, 0, []),
  (76, .aload_n 0, 1, 0, 0, []),
  (77, .getfield 22, 3, 2, 4, []),
  (80, .iload_n 1, 1, 0, 0, []),
  (81, .invokevirtual 76, 3, 14, 1, [1]),
  (84, .iload 4, 2, 0, 0, []),
  (86, .ifCond .eq 7, 3, 46, 0, []),
  (89, .iload_n 3, 1, 0, 0, []),
  (90, .goto 4, 3, 47, 0, []),
  (93, .iload_n 1, 1, 0, 0, []),
  (94, .istore_n 1, 1, 0, 0, []),
  (95, .aload_n 0, 1, 0, 0, []),
  (96, .invokevirtual 67, 3, 29, 0, [2]),
  (99, .iload_n 3, 1, 0, 0, []),
  (100, .bipush (-20), 2, 20, 1, []),
  (102, .if_icmp .ne 7, 3, 55, 0, []),
  (105, .aload_n 0, 1, 0, 0, []),
  (106, .invokevirtual 97, 3, 36, 0, [2]),
  (109, .aload_n 0, 1, 0, 0, []),
  (110, .invokevirtual 94, 3, 37, 0, [2]),
  (113, .iload 4, 2, 0, 0, []),
  (115, .ifCond .ne 11, 3, 63, 0, []),
  (118, .aload_n 0, 1, 0, 0, []),
  (119, .getfield 22, 3, 2, 4, []),
  (122, .iload_n 3, 1, 0, 0, []),
  (123, .invokevirtual 76, 3, 14, 1, [1]),
  (126, .iinc 2 1, 3, 0, 0, []),
  (129, .goto (-120), 3, 6, 0, []),
  (132, .iload_n 1, 1, 0, 0, []),
  (133, .bipush (-27), 2, 27, 1, []),
  (135, .if_icmp .eq 11, 3, 72, 0, []),
  (138, .aload_n 0, 1, 0, 0, []),
  (139, .getfield 22, 3, 2, 4, []),
  (142, .iload_n 1, 1, 0, 0, []),
  (143, .invokevirtual 76, 3, 14, 1, [1]),
  (146, .return_, 1, 0, 0, [])]
/-- LawReader.checkDivisor -/
def pc_36 : List pm_I := [
  (0, .aload_n 0, 1, 0, 0, []),
  (1, .getfield 48, 3, 2, 9, []),
  (4, .ifCond .ge 11, 3, 7, 0, []),
  (7, .aload_n 0, 1, 0, 0, []),
  (8, .iconst 1, 1, 1, 0, []),
  (9, .invokevirtual 70, 3, 28, 1, [2]),
  (12, .goto 15, 3, 13, 0, []),
  (15, .aload_n 0, 1, 0, 0, []),
  (16, .getfield 48, 3, 2, 9, []),
  (19, .ifCond .ne 8, 3, 13, 0, []),
  (22, .aload_n 0, 1, 0, 0, []),
  (23, .iconst 2, 1, 2, 0, []),
  (24, .invokevirtual 70, 3, 28, 1, [2]),
  (27, .return_, 1, 0, 0, [])]
/-- LawReader.readUnit -/
def pc_37 : List pm_I := [
  (0, .aload_n 0, 1, 0, 0, []),
  (1, .getfield 48, 3, 2, 9, []),
  (4, .ifCond .ge 13, 3, 7, 0, []),
  (7, .aload_n 0, 1, 0, 0, []),
  (8, .getfield 48, 3, 2, 9, []),
  (11, .invokestatic 100, 3, 19, 1, []),
  (14, .ifCond .eq 21, 3, 15, 0, []),
  (17, .aload_n 0, 1, 0, 0, []),
  (18, .getfield 22, 3, 2, 4, []),
  (21, .aload_n 0, 1, 0, 0, []),
  (22, .getfield 48, 3, 2, 9, []),
  (25, .invokevirtual 76, 3, 14, 1, [1]),
  (28, .aload_n 0, 1, 0, 0, []),
  (29, .invokevirtual 67, 3, 29, 0, [2]),
  (32, .goto 8, 3, 18, 0, []),
  (35, .aload_n 0, 1, 0, 0, []),
  (36, .iconst 1, 1, 1, 0, []),
  (37, .invokevirtual 70, 3, 28, 1, [2]),
  (40, .return_, 1, 0, 0, [])]
/-- LawReader.splitTape -/
def pc_38 : List pm_I := [
  (0, .aload_n 0, 1, 0, 0, []),
  (1, .iconst 0, 1, 0, 0, []),
  (2, .putfield 64, 3, 2, 7, [0]),
  (5, .iconst 0, 1, 0, 0, []),
  (6, .istore_n 1, 1, 0, 0, []),
  (7, .iconst 0, 1, 0, 0, []),
  (8, .istore_n 2, 1, 0, 0, []),
  (9, .iload_n 2, 1, 0, 0, []),
  (10, .sipush 400, 3, 400, 0, []),
  (13, .if_icmp .ge 105, 3, 64, 0, []),
  (16, .iload_n 1, 1, 0, 0, []),
  (17, .aload_n 0, 1, 0, 0, []),
  (18, .getfield 32, 3, 2, 2, []),
  (21, .if_icmp .ge 97, 3, 64, 0, []),
  (24, .aload_n 0, 1, 0, 0, []),
  (25, .iload_n 1, 1, 0, 0, []),
  (26, .invokevirtual 104, 3, 40, 1, [2]),
  (29, .istore_n 3, 1, 0, 0, []),
  (30, .iload_n 1, 1, 0, 0, []),
  (31, .iconst 1, 1, 1, 0, []),
  (32, .iadd, 1, 0, 0, []),
  (33, .istore 4, 2, 0, 0, []),
  (35, .iload_n 3, 1, 0, 0, []),
  (36, .invokestatic 108, 3, 42, 1, []),
  (39, .ifCond .eq 25, 3, 37, 0, []),
  (42, .aload_n 0, 1, 0, 0, []),
  (43, .iload_n 1, 1, 0, 0, []),
  (44, .invokevirtual 111, 3, 44, 1, [2]),
  (47, .istore 4, 2, 0, 0, []),
  (49, .aload_n 0, 1, 0, 0, []),
  (50, .aload_n 0, 1, 0, 0, []),
  (51, .iload_n 1, 1, 0, 0, []),
  (52, .iload 4, 2, 0, 0, []),
  (54, .invokevirtual 114, 3, 46, 2, [2]),
  (57, .iload_n 1, 1, 0, 0, []),
  (58, .invokevirtual 118, 3, 39, 2, [2]),
  (61, .goto 48, 3, 60, 0, []),
  (64, .iload_n 3, 1, 0, 0, []),
  (65, .invokestatic 122, 3, 43, 1, []),
  (68, .ifCond .eq 25, 3, 52, 0, []),
  (71, .aload_n 0, 1, 0, 0, []),
  (72, .iload_n 1, 1, 0, 0, []),
  (73, .invokevirtual 125, 3, 45, 1, [2]),
  (76, .istore 4, 2, 0, 0, []),
  (78, .aload_n 0, 1, 0, 0, []),
  (79, .aload_n 0, 1, 0, 0, []),
  (80, .iload_n 1, 1, 0, 0, []),
  (81, .iload 4, 2, 0, 0, []),
  (83, .invokevirtual 128, 3, 48, 2, [2]),
  (86, .iload_n 1, 1, 0, 0, []),
  (87, .invokevirtual 118, 3, 39, 2, [2]),
  (90, .goto 19, 3, 60, 0, []),
  (93, .iload_n 3, 1, 0, 0, []),
  (94, .invokestatic 131, 3, 41, 1, []),
  (97, .ifCond .ne 12, 3, 60, 0, []),
  (100, .aload_n 0, 1, 0, 0, []),
  (101, .iload_n 3, 1, 0, 0, []),
  (102, .invokestatic 134, 3, 49, 1, []),
  (105, .iload_n 1, 1, 0, 0, []),
  (106, .invokevirtual 118, 3, 39, 2, [2]),
  (109, .iload 4, 2, 0, 0, []),
  (111, .istore_n 1, 1, 0, 0, []),
  (112, .iinc 2 1, 3, 0, 0, []),
  (115, .goto (-106), 3, 7, 0, []),
  (118, .aload_n 0, 1, 0, 0, []),
  (119, .bipush (-26), 2, 26, 1, []),
  (121, .aload_n 0, 1, 0, 0, []),
  (122, .getfield 32, 3, 2, 2, []),
  (125, .invokevirtual 118, 3, 39, 2, [2]),
  (128, .return_, 1, 0, 0, [])]
/-- LawReader.addToken -/
def pc_39 : List pm_I := [
  (0, .aload_n 0, 1, 0, 0, []),
  (1, .getfield 64, 3, 2, 7, []),
  (4, .aload_n 0, 1, 0, 0, []),
  (5, .getfield 26, 3, 2, 5, []),
  (8, .arraylength, 1, 0, 0, []),
  (9, .if_icmp .ge 33, 3, 24, 0, []),
  (12, .aload_n 0, 1, 0, 0, []),
  (13, .getfield 26, 3, 2, 5, []),
  (16, .aload_n 0, 1, 0, 0, []),
  (17, .getfield 64, 3, 2, 7, []),
  (20, .iload_n 1, 1, 0, 0, []),
  (21, .iastore, 1, 0, 0, []),
  (22, .aload_n 0, 1, 0, 0, []),
  (23, .getfield 29, 3, 2, 6, []),
  (26, .aload_n 0, 1, 0, 0, []),
  (27, .getfield 64, 3, 2, 7, []),
  (30, .iload_n 2, 1, 0, 0, []),
  (31, .iastore, 1, 0, 0, []),
  (32, .aload_n 0, 1, 0, 0, []),
  (33, .dup, 1, 0, 0, []),
  (34, .getfield 64, 3, 2, 7, []),
  (37, .iconst 1, 1, 1, 0, []),
  (38, .iadd, 1, 0, 0, []),
  (39, .putfield 64, 3, 2, 7, [0]),
  (42, .return_, 1, 0, 0, [])]
/-- LawReader.byteAt -/
def pc_40 : List pm_I := [
  (0, .iload_n 1, 1, 0, 0, []),
  (1, .ifCond .lt 27, 3, 14, 0, []),
  (4, .iload_n 1, 1, 0, 0, []),
  (5, .aload_n 0, 1, 0, 0, []),
  (6, .getfield 32, 3, 2, 2, []),
  (9, .if_icmp .ge 19, 3, 14, 0, []),
  (12, .iload_n 1, 1, 0, 0, []),
  (13, .sipush 400, 3, 400, 0, []),
  (16, .if_icmp .ge 12, 3, 14, 0, []),
  (19, .aload_n 0, 1, 0, 0, []),
  (20, .getfield 15, 3, 2, 3, []),
  (23, .iload_n 1, 1, 0, 0, []),
  (24, .iaload, 1, 0, 0, []),
  (25, .goto 4, 3, 15, 0, []),
  (28, .iconst (-1), 1, 1, 1, []),
  (29, .ireturn, 1, 0, 0, [])]
/-- LawReader.isBlank -/
def pc_41 : List pm_I := [
  (0, .iload_n 0, 1, 0, 0, []),
  (1, .bipush 32, 2, 32, 0, []),
  (3, .if_icmp .eq 9, 3, 6, 0, []),
  (6, .iload_n 0, 1, 0, 0, []),
  (7, .bipush 10, 2, 10, 0, []),
  (9, .if_icmp .ne 7, 3, 8, 0, []),
  (12, .iconst 1, 1, 1, 0, []),
  (13, .goto 4, 3, 9, 0, []),
  (16, .iconst 0, 1, 0, 0, []),
  (17, .ireturn, 1, 0, 0, [])]
/-- LawReader.isLetter -/
def pc_42 : List pm_I := [
  (0, .iload_n 0, 1, 0, 0, []),
  (1, .bipush 97, 2, 97, 0, []),
  (3, .if_icmp .lt 9, 3, 6, 0, []),
  (6, .iload_n 0, 1, 0, 0, []),
  (7, .bipush 122, 2, 122, 0, []),
  (9, .if_icmp .le 15, 3, 12, 0, []),
  (12, .iload_n 0, 1, 0, 0, []),
  (13, .bipush 65, 2, 65, 0, []),
  (15, .if_icmp .lt 13, 3, 14, 0, []),
  (18, .iload_n 0, 1, 0, 0, []),
  (19, .bipush 90, 2, 90, 0, []),
  (21, .if_icmp .gt 7, 3, 14, 0, []),
  (24, .iconst 1, 1, 1, 0, []),
  (25, .goto 4, 3, 15, 0, []),
  (28, .iconst 0, 1, 0, 0, []),
  (29, .ireturn, 1, 0, 0, [])]
/-- LawReader.isDigit -/
def pc_43 : List pm_I := [
  (0, .iload_n 0, 1, 0, 0, []),
  (1, .bipush 48, 2, 48, 0, []),
  (3, .if_icmp .lt 13, 3, 8, 0, []),
  (6, .iload_n 0, 1, 0, 0, []),
  (7, .bipush 57, 2, 57, 0, []),
  (9, .if_icmp .gt 7, 3, 8, 0, []),
  (12, .iconst 1, 1, 1, 0, []),
  (13, .goto 4, 3, 9, 0, []),
  (16, .iconst 0, 1, 0, 0, []),
  (17, .ireturn, 1, 0, 0, [])]
/-- LawReader.behindLetters -/
def pc_44 : List pm_I := [
  (0, .iload_n 1, 1, 0, 0, []),
  (1, .istore_n 2, 1, 0, 0, []),
  (2, .iconst 0, 1, 0, 0, []),
  (3, .istore_n 3, 1, 0, 0, []),
  (4, .iload_n 3, 1, 0, 0, []),
  (5, .sipush 400, 3, 400, 0, []),
  (8, .if_icmp .ge 23, 3, 15, 0, []),
  (11, .aload_n 0, 1, 0, 0, []),
  (12, .iload_n 2, 1, 0, 0, []),
  (13, .invokevirtual 104, 3, 40, 1, [2]),
  (16, .invokestatic 108, 3, 42, 1, []),
  (19, .ifCond .eq 12, 3, 15, 0, []),
  (22, .iinc 2 1, 3, 0, 0, []),
  (25, .iinc 3 1, 3, 0, 0, []),
  (28, .goto (-24), 3, 4, 0, []),
  (31, .iload_n 2, 1, 0, 0, []),
  (32, .ireturn, 1, 0, 0, [])]
/-- LawReader.behindDigits -/
def pc_45 : List pm_I := [
  (0, .iload_n 1, 1, 0, 0, []),
  (1, .istore_n 2, 1, 0, 0, []),
  (2, .iconst 0, 1, 0, 0, []),
  (3, .istore_n 3, 1, 0, 0, []),
  (4, .iload_n 3, 1, 0, 0, []),
  (5, .sipush 400, 3, 400, 0, []),
  (8, .if_icmp .ge 23, 3, 15, 0, []),
  (11, .aload_n 0, 1, 0, 0, []),
  (12, .iload_n 2, 1, 0, 0, []),
  (13, .invokevirtual 104, 3, 40, 1, [2]),
  (16, .invokestatic 122, 3, 43, 1, []),
  (19, .ifCond .eq 12, 3, 15, 0, []),
  (22, .iinc 2 1, 3, 0, 0, []),
  (25, .iinc 3 1, 3, 0, 0, []),
  (28, .goto (-24), 3, 4, 0, []),
  (31, .iload_n 2, 1, 0, 0, []),
  (32, .ireturn, 1, 0, 0, [])]
/-- LawReader.wordToken -/
def pc_46 : List pm_I := [
  (0, .iconst 0, 1, 0, 0, []),
  (1, .istore_n 3, 1, 0, 0, []),
  (2, .iconst 0, 1, 0, 0, []),
  (3, .istore 4, 2, 0, 0, []),
  (5, .iconst 0, 1, 0, 0, []),
  (6, .istore 5, 2, 0, 0, []),
  (8, .iload 5, 2, 0, 0, []),
  (10, .ldc 137, 2, 0, 7, []),
  (12, .invokevirtual 139, 3, 248, 0, [15]),
  (15, .if_icmp .ge 57, 3, 39, 0, []),
  (18, .ldc 137, 2, 0, 7, []),
  (20, .iload 5, 2, 0, 0, []),
  (22, .invokevirtual 144, 3, 250, 1, [15]),
  (25, .bipush 32, 2, 32, 0, []),
  (27, .if_icmp .ne 39, 3, 37, 0, []),
  (30, .iload 5, 2, 0, 0, []),
  (32, .iload 4, 2, 0, 0, []),
  (34, .isub, 1, 0, 0, []),
  (35, .iload_n 2, 1, 0, 0, []),
  (36, .iload_n 1, 1, 0, 0, []),
  (37, .isub, 1, 0, 0, []),
  (38, .if_icmp .ne 19, 3, 32, 0, []),
  (41, .aload_n 0, 1, 0, 0, []),
  (42, .iload_n 1, 1, 0, 0, []),
  (43, .iload 4, 2, 0, 0, []),
  (45, .iload 5, 2, 0, 0, []),
  (47, .invokevirtual 148, 3, 47, 3, [2]),
  (50, .ifCond .eq 7, 3, 32, 0, []),
  (53, .iconst (-1), 1, 1, 1, []),
  (54, .iload_n 3, 1, 0, 0, []),
  (55, .isub, 1, 0, 0, []),
  (56, .ireturn, 1, 0, 0, []),
  (57, .iinc 3 1, 3, 0, 0, []),
  (60, .iload 5, 2, 0, 0, []),
  (62, .iconst 1, 1, 1, 0, []),
  (63, .iadd, 1, 0, 0, []),
  (64, .istore 4, 2, 0, 0, []),
  (66, .iinc 5 1, 3, 0, 0, []),
  (69, .goto (-61), 3, 6, 0, []),
  (72, .bipush (-27), 2, 27, 1, []),
  (74, .ireturn, 1, 0, 0, [])]
/-- LawReader.isKeyword -/
def pc_47 : List pm_I := [
  (0, .iload_n 2, 1, 0, 0, []),
  (1, .istore 4, 2, 0, 0, []),
  (3, .iload 4, 2, 0, 0, []),
  (5, .iload_n 3, 1, 0, 0, []),
  (6, .if_icmp .ge 41, 3, 24, 0, []),
  (9, .iload 4, 2, 0, 0, []),
  (11, .ldc 137, 2, 0, 7, []),
  (13, .invokevirtual 139, 3, 248, 0, [15]),
  (16, .if_icmp .ge 31, 3, 24, 0, []),
  (19, .aload_n 0, 1, 0, 0, []),
  (20, .iload_n 1, 1, 0, 0, []),
  (21, .iload 4, 2, 0, 0, []),
  (23, .iadd, 1, 0, 0, []),
  (24, .iload_n 2, 1, 0, 0, []),
  (25, .isub, 1, 0, 0, []),
  (26, .invokevirtual 104, 3, 40, 1, [2]),
  (29, .ldc 137, 2, 0, 7, []),
  (31, .iload 4, 2, 0, 0, []),
  (33, .invokevirtual 144, 3, 250, 1, [15]),
  (36, .if_icmp .eq 5, 3, 22, 0, []),
  (39, .iconst 0, 1, 0, 0, []),
  (40, .ireturn, 1, 0, 0, []),
  (41, .iinc 4 1, 3, 0, 0, []),
  (44, .goto (-41), 3, 2, 0, []),
  (47, .iconst 1, 1, 1, 0, []),
  (48, .ireturn, 1, 0, 0, [])]
/-- LawReader.numberToken -/
def pc_48 : List pm_I := [
  (0, .iload_n 2, 1, 0, 0, []),
  (1, .iload_n 1, 1, 0, 0, []),
  (2, .isub, 1, 0, 0, []),
  (3, .iconst 4, 1, 4, 0, []),
  (4, .if_icmp .le 6, 3, 7, 0, []),
  (7, .bipush (-27), 2, 27, 1, []),
  (9, .ireturn, 1, 0, 0, []),
  (10, .iconst 0, 1, 0, 0, []),
  (11, .istore_n 3, 1, 0, 0, []),
  (12, .iload_n 1, 1, 0, 0, []),
  (13, .istore 4, 2, 0, 0, []),
  (15, .iload 4, 2, 0, 0, []),
  (17, .iload_n 2, 1, 0, 0, []),
  (18, .if_icmp .ge 24, 3, 26, 0, []),
  (21, .iload_n 3, 1, 0, 0, []),
  (22, .bipush 10, 2, 10, 0, []),
  (24, .imul, 1, 0, 0, []),
  (25, .aload_n 0, 1, 0, 0, []),
  (26, .iload 4, 2, 0, 0, []),
  (28, .invokevirtual 104, 3, 40, 1, [2]),
  (31, .iadd, 1, 0, 0, []),
  (32, .bipush 48, 2, 48, 0, []),
  (34, .isub, 1, 0, 0, []),
  (35, .istore_n 3, 1, 0, 0, []),
  (36, .iinc 4 1, 3, 0, 0, []),
  (39, .goto (-24), 3, 11, 0, []),
  (42, .iload_n 3, 1, 0, 0, []),
  (43, .ireturn, 1, 0, 0, [])]
/-- LawReader.signToken -/
def pc_49 : List pm_I := [
  (0, .iconst 0, 1, 0, 0, []),
  (1, .istore_n 1, 1, 0, 0, []),
  (2, .iload_n 1, 1, 0, 0, []),
  (3, .ldc 152, 2, 1, 7, []),
  (5, .invokevirtual 139, 3, 248, 0, [15]),
  (8, .if_icmp .ge 24, 3, 17, 0, []),
  (11, .ldc 152, 2, 1, 7, []),
  (13, .iload_n 1, 1, 0, 0, []),
  (14, .invokevirtual 144, 3, 250, 1, [15]),
  (17, .iload_n 0, 1, 0, 0, []),
  (18, .if_icmp .ne 8, 3, 15, 0, []),
  (21, .bipush (-16), 2, 16, 1, []),
  (23, .iload_n 1, 1, 0, 0, []),
  (24, .isub, 1, 0, 0, []),
  (25, .ireturn, 1, 0, 0, []),
  (26, .iinc 1 1, 3, 0, 0, []),
  (29, .goto (-27), 3, 2, 0, []),
  (32, .bipush (-27), 2, 27, 1, []),
  (34, .ireturn, 1, 0, 0, [])]
/-- Lines.init -/
def pc_50 : List pm_I := [
  (0, .aload_n 0, 1, 0, 0, []),
  (1, .invokespecial 3, 3, 1004, 0, []),
  (4, .aload_n 0, 1, 0, 0, []),
  (5, .bipush 30, 2, 30, 0, []),
  (7, .newarray .int, 2, 0, 0, []),
  (9, .putfield 9, 3, 3, 1, [2]),
  (12, .aload_n 0, 1, 0, 0, []),
  (13, .bipush 30, 2, 30, 0, []),
  (15, .newarray .int, 2, 0, 0, []),
  (17, .putfield 15, 3, 3, 2, [2]),
  (20, .aload_n 0, 1, 0, 0, []),
  (21, .bipush 30, 2, 30, 0, []),
  (23, .newarray .int, 2, 0, 0, []),
  (25, .putfield 18, 3, 3, 3, [2]),
  (28, .aload_n 0, 1, 0, 0, []),
  (29, .bipush 30, 2, 30, 0, []),
  (31, .newarray .int, 2, 0, 0, []),
  (33, .putfield 21, 3, 3, 4, [2]),
  (36, .aload_n 0, 1, 0, 0, []),
  (37, .bipush 30, 2, 30, 0, []),
  (39, .newarray .int, 2, 0, 0, []),
  (41, .putfield 24, 3, 3, 5, [2]),
  (44, .aload_n 0, 1, 0, 0, []),
  (45, .bipush 10, 2, 10, 0, []),
  (47, .newarray .int, 2, 0, 0, []),
  (49, .putfield 27, 3, 3, 6, [2]),
  (52, .aload_n 0, 1, 0, 0, []),
  (53, .bipush 10, 2, 10, 0, []),
  (55, .newarray .int, 2, 0, 0, []),
  (57, .putfield 30, 3, 3, 7, [2]),
  (60, .aload_n 0, 1, 0, 0, []),
  (61, .bipush 32, 2, 32, 0, []),
  (63, .newarray .int, 2, 0, 0, []),
  (65, .putfield 33, 3, 3, 8, [2]),
  (68, .aload_n 0, 1, 0, 0, []),
  (69, .bipush 32, 2, 32, 0, []),
  (71, .newarray .int, 2, 0, 0, []),
  (73, .putfield 36, 3, 3, 9, [2]),
  (76, .return_, 1, 0, 0, [])]
/-- Lines.add -/
def pc_51 : List pm_I := [
  (0, .aload_n 0, 1, 0, 0, []),
  (1, .getfield 39, 3, 3, 0, []),
  (4, .bipush 30, 2, 30, 0, []),
  (6, .if_icmp .lt 5, 3, 6, 0, []),
  (9, .iconst (-1), 1, 1, 1, []),
  (10, .ireturn, 1, 0, 0, []),
  (11, .aload_n 0, 1, 0, 0, []),
  (12, .getfield 9, 3, 3, 1, []),
  (15, .aload_n 0, 1, 0, 0, []),
  (16, .getfield 39, 3, 3, 0, []),
  (19, .iload_n 1, 1, 0, 0, []),
  (20, .iastore, 1, 0, 0, []),
  (21, .aload_n 0, 1, 0, 0, []),
  (22, .getfield 15, 3, 3, 2, []),
  (25, .aload_n 0, 1, 0, 0, []),
  (26, .getfield 39, 3, 3, 0, []),
  (29, .iload_n 2, 1, 0, 0, []),
  (30, .iastore, 1, 0, 0, []),
  (31, .aload_n 0, 1, 0, 0, []),
  (32, .getfield 18, 3, 3, 3, []),
  (35, .aload_n 0, 1, 0, 0, []),
  (36, .getfield 39, 3, 3, 0, []),
  (39, .iload_n 3, 1, 0, 0, []),
  (40, .iastore, 1, 0, 0, []),
  (41, .aload_n 0, 1, 0, 0, []),
  (42, .getfield 21, 3, 3, 4, []),
  (45, .aload_n 0, 1, 0, 0, []),
  (46, .getfield 39, 3, 3, 0, []),
  (49, .iload 4, 2, 0, 0, []),
  (51, .iastore, 1, 0, 0, []),
  (52, .aload_n 0, 1, 0, 0, []),
  (53, .dup, 1, 0, 0, []),
  (54, .getfield 39, 3, 3, 0, []),
  (57, .iconst 1, 1, 1, 0, []),
  (58, .iadd, 1, 0, 0, []),
  (59, .putfield 39, 3, 3, 0, [0]),
  (62, .aload_n 0, 1, 0, 0, []),
  (63, .getfield 39, 3, 3, 0, []),
  (66, .iconst 1, 1, 1, 0, []),
  (67, .isub, 1, 0, 0, []),
  (68, .ireturn, 1, 0, 0, [])]
/-- Lines.fewestWrong -/
def pc_52 : List pm_I := [
  (0, .aload_n 0, 1, 0, 0, []),
  (1, .iload_n 1, 1, 0, 0, []),
  (2, .invokevirtual 43, 3, 53, 1, [3]),
  (5, .istore_n 2, 1, 0, 0, []),
  (6, .iload_n 2, 1, 0, 0, []),
  (7, .iconst 5, 1, 5, 0, []),
  (8, .if_icmp .le 5, 3, 9, 0, []),
  (11, .iconst (-1), 1, 1, 1, []),
  (12, .ireturn, 1, 0, 0, []),
  (13, .iconst 1, 1, 1, 0, []),
  (14, .iload_n 2, 1, 0, 0, []),
  (15, .ishl, 1, 0, 0, []),
  (16, .iconst 1, 1, 1, 0, []),
  (17, .isub, 1, 0, 0, []),
  (18, .istore_n 3, 1, 0, 0, []),
  (19, .aload_n 0, 1, 0, 0, []),
  (20, .getfield 36, 3, 3, 9, []),
  (23, .iconst 0, 1, 0, 0, []),
  (24, .iconst 0, 1, 0, 0, []),
  (25, .iastore, 1, 0, 0, []),
  (26, .iconst 1, 1, 1, 0, []),
  (27, .istore 4, 2, 0, 0, []),
  (29, .iload 4, 2, 0, 0, []),
  (31, .iload_n 3, 1, 0, 0, []),
  (32, .if_icmp .gt 22, 3, 34, 0, []),
  (35, .aload_n 0, 1, 0, 0, []),
  (36, .getfield 33, 3, 3, 8, []),
  (39, .iload 4, 2, 0, 0, []),
  (41, .aload_n 0, 1, 0, 0, []),
  (42, .iload 4, 2, 0, 0, []),
  (44, .invokevirtual 47, 3, 57, 1, [3]),
  (47, .iastore, 1, 0, 0, []),
  (48, .iinc 4 1, 3, 0, 0, []),
  (51, .goto (-22), 3, 22, 0, []),
  (54, .iconst 1, 1, 1, 0, []),
  (55, .istore 4, 2, 0, 0, []),
  (57, .iload 4, 2, 0, 0, []),
  (59, .iload_n 3, 1, 0, 0, []),
  (60, .if_icmp .gt 22, 3, 48, 0, []),
  (63, .aload_n 0, 1, 0, 0, []),
  (64, .getfield 36, 3, 3, 9, []),
  (67, .iload 4, 2, 0, 0, []),
  (69, .aload_n 0, 1, 0, 0, []),
  (70, .iload 4, 2, 0, 0, []),
  (72, .invokevirtual 50, 3, 56, 1, [3]),
  (75, .iastore, 1, 0, 0, []),
  (76, .iinc 4 1, 3, 0, 0, []),
  (79, .goto (-22), 3, 36, 0, []),
  (82, .aload_n 0, 1, 0, 0, []),
  (83, .getfield 36, 3, 3, 9, []),
  (86, .iload_n 3, 1, 0, 0, []),
  (87, .iaload, 1, 0, 0, []),
  (88, .ireturn, 1, 0, 0, [])]
/-- Lines.seatNamed -/
def pc_53 : List pm_I := [
  (0, .aload_n 0, 1, 0, 0, []),
  (1, .getfield 27, 3, 3, 6, []),
  (4, .iconst (-1), 1, 1, 1, []),
  (5, .invokestatic 53, 3, 247, 2, []),
  (8, .iconst 0, 1, 0, 0, []),
  (9, .istore_n 2, 1, 0, 0, []),
  (10, .iconst 0, 1, 0, 0, []),
  (11, .istore_n 3, 1, 0, 0, []),
  (12, .iload_n 3, 1, 0, 0, []),
  (13, .aload_n 0, 1, 0, 0, []),
  (14, .getfield 39, 3, 3, 0, []),
  (17, .if_icmp .ge 77, 3, 58, 0, []),
  (20, .aload_n 0, 1, 0, 0, []),
  (21, .getfield 24, 3, 3, 5, []),
  (24, .iload_n 3, 1, 0, 0, []),
  (25, .iconst 0, 1, 0, 0, []),
  (26, .iastore, 1, 0, 0, []),
  (27, .aload_n 0, 1, 0, 0, []),
  (28, .getfield 9, 3, 3, 1, []),
  (31, .iload_n 3, 1, 0, 0, []),
  (32, .iaload, 1, 0, 0, []),
  (33, .iload_n 1, 1, 0, 0, []),
  (34, .if_icmp .ne 54, 3, 56, 0, []),
  (37, .aload_n 0, 1, 0, 0, []),
  (38, .aload_n 0, 1, 0, 0, []),
  (39, .getfield 15, 3, 3, 2, []),
  (42, .iload_n 3, 1, 0, 0, []),
  (43, .iaload, 1, 0, 0, []),
  (44, .iload_n 2, 1, 0, 0, []),
  (45, .invokevirtual 59, 3, 54, 2, [3]),
  (48, .istore_n 2, 1, 0, 0, []),
  (49, .aload_n 0, 1, 0, 0, []),
  (50, .aload_n 0, 1, 0, 0, []),
  (51, .getfield 18, 3, 3, 3, []),
  (54, .iload_n 3, 1, 0, 0, []),
  (55, .iaload, 1, 0, 0, []),
  (56, .iload_n 2, 1, 0, 0, []),
  (57, .invokevirtual 59, 3, 54, 2, [3]),
  (60, .istore_n 2, 1, 0, 0, []),
  (61, .aload_n 0, 1, 0, 0, []),
  (62, .getfield 24, 3, 3, 5, []),
  (65, .iload_n 3, 1, 0, 0, []),
  (66, .aload_n 0, 1, 0, 0, []),
  (67, .aload_n 0, 1, 0, 0, []),
  (68, .getfield 15, 3, 3, 2, []),
  (71, .iload_n 3, 1, 0, 0, []),
  (72, .iaload, 1, 0, 0, []),
  (73, .invokevirtual 63, 3, 55, 1, [3]),
  (76, .aload_n 0, 1, 0, 0, []),
  (77, .aload_n 0, 1, 0, 0, []),
  (78, .getfield 18, 3, 3, 3, []),
  (81, .iload_n 3, 1, 0, 0, []),
  (82, .iaload, 1, 0, 0, []),
  (83, .invokevirtual 63, 3, 55, 1, [3]),
  (86, .ior, 1, 0, 0, []),
  (87, .iastore, 1, 0, 0, []),
  (88, .iinc 3 1, 3, 0, 0, []),
  (91, .goto (-79), 3, 8, 0, []),
  (94, .iload_n 2, 1, 0, 0, []),
  (95, .ireturn, 1, 0, 0, [])]
/-- Lines.seat -/
def pc_54 : List pm_I := [
  (0, .iload_n 1, 1, 0, 0, []),
  (1, .ifCond .lt 19, 3, 11, 0, []),
  (4, .iload_n 1, 1, 0, 0, []),
  (5, .bipush 10, 2, 10, 0, []),
  (7, .if_icmp .ge 13, 3, 11, 0, []),
  (10, .aload_n 0, 1, 0, 0, []),
  (11, .getfield 27, 3, 3, 6, []),
  (14, .iload_n 1, 1, 0, 0, []),
  (15, .iaload, 1, 0, 0, []),
  (16, .iconst (-1), 1, 1, 1, []),
  (17, .if_icmp .eq 5, 3, 13, 0, []),
  (20, .iload_n 2, 1, 0, 0, []),
  (21, .ireturn, 1, 0, 0, []),
  (22, .aload_n 0, 1, 0, 0, []),
  (23, .getfield 27, 3, 3, 6, []),
  (26, .iload_n 1, 1, 0, 0, []),
  (27, .iload_n 2, 1, 0, 0, []),
  (28, .iastore, 1, 0, 0, []),
  (29, .iload_n 2, 1, 0, 0, []),
  (30, .iconst 1, 1, 1, 0, []),
  (31, .iadd, 1, 0, 0, []),
  (32, .ireturn, 1, 0, 0, [])]
/-- Lines.bitOf -/
def pc_55 : List pm_I := [
  (0, .iload_n 1, 1, 0, 0, []),
  (1, .ifCond .lt 19, 3, 11, 0, []),
  (4, .iload_n 1, 1, 0, 0, []),
  (5, .bipush 10, 2, 10, 0, []),
  (7, .if_icmp .ge 13, 3, 11, 0, []),
  (10, .aload_n 0, 1, 0, 0, []),
  (11, .getfield 27, 3, 3, 6, []),
  (14, .iload_n 1, 1, 0, 0, []),
  (15, .iaload, 1, 0, 0, []),
  (16, .iconst (-1), 1, 1, 1, []),
  (17, .if_icmp .ne 7, 3, 13, 0, []),
  (20, .iconst 0, 1, 0, 0, []),
  (21, .goto 11, 3, 19, 0, []),
  (24, .iconst 1, 1, 1, 0, []),
  (25, .aload_n 0, 1, 0, 0, []),
  (26, .getfield 27, 3, 3, 6, []),
  (29, .iload_n 1, 1, 0, 0, []),
  (30, .iaload, 1, 0, 0, []),
  (31, .ishl, 1, 0, 0, []),
  (32, .ireturn, 1, 0, 0, [])]
/-- Lines.fewestOfSet -/
def pc_56 : List pm_I := [
  (0, .iload_n 1, 1, 0, 0, []),
  (1, .iload_n 1, 1, 0, 0, []),
  (2, .ineg, 1, 0, 0, []),
  (3, .iand, 1, 0, 0, []),
  (4, .istore_n 2, 1, 0, 0, []),
  (5, .iload_n 1, 1, 0, 0, []),
  (6, .iload_n 2, 1, 0, 0, []),
  (7, .iconst (-1), 1, 1, 1, []),
  (8, .ixor, 1, 0, 0, []),
  (9, .iand, 1, 0, 0, []),
  (10, .istore_n 3, 1, 0, 0, []),
  (11, .aload_n 0, 1, 0, 0, []),
  (12, .getfield 33, 3, 3, 8, []),
  (15, .iload_n 1, 1, 0, 0, []),
  (16, .iaload, 1, 0, 0, []),
  (17, .istore 4, 2, 0, 0, []),
  (19, .iload_n 3, 1, 0, 0, []),
  (20, .istore 5, 2, 0, 0, []),
  (22, .iload 5, 2, 0, 0, []),
  (24, .ifCond .le 57, 3, 52, 0, []),
  (27, .iload_n 1, 1, 0, 0, []),
  (28, .iload 5, 2, 0, 0, []),
  (30, .iconst (-1), 1, 1, 1, []),
  (31, .ixor, 1, 0, 0, []),
  (32, .iand, 1, 0, 0, []),
  (33, .istore 6, 2, 0, 0, []),
  (35, .aload_n 0, 1, 0, 0, []),
  (36, .getfield 33, 3, 3, 8, []),
  (39, .iload 6, 2, 0, 0, []),
  (41, .iaload, 1, 0, 0, []),
  (42, .aload_n 0, 1, 0, 0, []),
  (43, .getfield 36, 3, 3, 9, []),
  (46, .iload 5, 2, 0, 0, []),
  (48, .iaload, 1, 0, 0, []),
  (49, .iadd, 1, 0, 0, []),
  (50, .aload_n 0, 1, 0, 0, []),
  (51, .iload 6, 2, 0, 0, []),
  (53, .iload 5, 2, 0, 0, []),
  (55, .invokevirtual 66, 3, 58, 2, [3]),
  (58, .iadd, 1, 0, 0, []),
  (59, .istore 7, 2, 0, 0, []),
  (61, .iload 4, 2, 0, 0, []),
  (63, .iload 7, 2, 0, 0, []),
  (65, .invokestatic 69, 3, 1000, 2, []),
  (68, .istore 4, 2, 0, 0, []),
  (70, .iload 5, 2, 0, 0, []),
  (72, .iconst 1, 1, 1, 0, []),
  (73, .isub, 1, 0, 0, []),
  (74, .iload_n 3, 1, 0, 0, []),
  (75, .iand, 1, 0, 0, []),
  (76, .istore 5, 2, 0, 0, []),
  (78, .goto (-56), 3, 18, 0, []),
  (81, .iload 4, 2, 0, 0, []),
  (83, .ireturn, 1, 0, 0, [])]
/-- Lines.wrongIfTogether -/
def pc_57 : List pm_I := [
  (0, .aload_n 0, 1, 0, 0, []),
  (1, .getfield 30, 3, 3, 7, []),
  (4, .iconst 0, 1, 0, 0, []),
  (5, .invokestatic 53, 3, 247, 2, []),
  (8, .iconst 0, 1, 0, 0, []),
  (9, .istore_n 2, 1, 0, 0, []),
  (10, .iconst 0, 1, 0, 0, []),
  (11, .istore_n 3, 1, 0, 0, []),
  (12, .iconst 0, 1, 0, 0, []),
  (13, .istore 4, 2, 0, 0, []),
  (15, .iload 4, 2, 0, 0, []),
  (17, .aload_n 0, 1, 0, 0, []),
  (18, .getfield 39, 3, 3, 0, []),
  (21, .if_icmp .ge 91, 3, 62, 0, []),
  (24, .aload_n 0, 1, 0, 0, []),
  (25, .getfield 21, 3, 3, 4, []),
  (28, .iload 4, 2, 0, 0, []),
  (30, .iaload, 1, 0, 0, []),
  (31, .ifCond .lt 19, 3, 27, 0, []),
  (34, .aload_n 0, 1, 0, 0, []),
  (35, .getfield 21, 3, 3, 4, []),
  (38, .iload 4, 2, 0, 0, []),
  (40, .iaload, 1, 0, 0, []),
  (41, .bipush 10, 2, 10, 0, []),
  (43, .if_icmp .ge 7, 3, 27, 0, []),
  (46, .iconst 1, 1, 1, 0, []),
  (47, .goto 4, 3, 28, 0, []),
  (50, .iconst 0, 1, 0, 0, []),
  (51, .istore 5, 2, 0, 0, []),
  (53, .iload 5, 2, 0, 0, []),
  (55, .ifCond .eq 51, 3, 60, 0, []),
  (58, .aload_n 0, 1, 0, 0, []),
  (59, .getfield 24, 3, 3, 5, []),
  (62, .iload 4, 2, 0, 0, []),
  (64, .iaload, 1, 0, 0, []),
  (65, .iload_n 1, 1, 0, 0, []),
  (66, .iand, 1, 0, 0, []),
  (67, .ifCond .eq 39, 3, 60, 0, []),
  (70, .iinc 2 1, 3, 0, 0, []),
  (73, .aload_n 0, 1, 0, 0, []),
  (74, .getfield 30, 3, 3, 7, []),
  (77, .aload_n 0, 1, 0, 0, []),
  (78, .getfield 21, 3, 3, 4, []),
  (81, .iload 4, 2, 0, 0, []),
  (83, .iaload, 1, 0, 0, []),
  (84, .dup2, 1, 0, 0, []),
  (85, .iaload, 1, 0, 0, []),
  (86, .iconst 1, 1, 1, 0, []),
  (87, .iadd, 1, 0, 0, []),
  (88, .iastore, 1, 0, 0, []),
  (89, .iload_n 3, 1, 0, 0, []),
  (90, .aload_n 0, 1, 0, 0, []),
  (91, .getfield 30, 3, 3, 7, []),
  (94, .aload_n 0, 1, 0, 0, []),
  (95, .getfield 21, 3, 3, 4, []),
  (98, .iload 4, 2, 0, 0, []),
  (100, .iaload, 1, 0, 0, []),
  (101, .iaload, 1, 0, 0, []),
  (102, .invokestatic 74, 3, 1001, 2, []),
  (105, .istore_n 3, 1, 0, 0, []),
  (106, .iinc 4 1, 3, 0, 0, []),
  (109, .goto (-94), 3, 10, 0, []),
  (112, .iload_n 2, 1, 0, 0, []),
  (113, .iload_n 3, 1, 0, 0, []),
  (114, .isub, 1, 0, 0, []),
  (115, .ireturn, 1, 0, 0, [])]
/-- Lines.meetingsBetween -/
def pc_58 : List pm_I := [
  (0, .iconst 0, 1, 0, 0, []),
  (1, .istore_n 3, 1, 0, 0, []),
  (2, .iconst 0, 1, 0, 0, []),
  (3, .istore 4, 2, 0, 0, []),
  (5, .iload 4, 2, 0, 0, []),
  (7, .aload_n 0, 1, 0, 0, []),
  (8, .getfield 39, 3, 3, 0, []),
  (11, .if_icmp .ge 41, 3, 30, 0, []),
  (14, .iload_n 3, 1, 0, 0, []),
  (15, .aload_n 0, 1, 0, 0, []),
  (16, .getfield 24, 3, 3, 5, []),
  (19, .iload 4, 2, 0, 0, []),
  (21, .iaload, 1, 0, 0, []),
  (22, .iload_n 1, 1, 0, 0, []),
  (23, .iand, 1, 0, 0, []),
  (24, .ifCond .eq 19, 3, 25, 0, []),
  (27, .aload_n 0, 1, 0, 0, []),
  (28, .getfield 24, 3, 3, 5, []),
  (31, .iload 4, 2, 0, 0, []),
  (33, .iaload, 1, 0, 0, []),
  (34, .iload_n 2, 1, 0, 0, []),
  (35, .iand, 1, 0, 0, []),
  (36, .ifCond .eq 7, 3, 25, 0, []),
  (39, .iconst 1, 1, 1, 0, []),
  (40, .goto 4, 3, 26, 0, []),
  (43, .iconst 0, 1, 0, 0, []),
  (44, .iadd, 1, 0, 0, []),
  (45, .istore_n 3, 1, 0, 0, []),
  (46, .iinc 4 1, 3, 0, 0, []),
  (49, .goto (-44), 3, 4, 0, []),
  (52, .iload_n 3, 1, 0, 0, []),
  (53, .ireturn, 1, 0, 0, [])]
/-- Lines.copyFrom -/
def pc_59 : List pm_I := [
  (0, .aload_n 0, 1, 0, 0, []),
  (1, .aload_n 1, 1, 0, 0, []),
  (2, .getfield 39, 3, 3, 0, []),
  (5, .putfield 39, 3, 3, 0, [0]),
  (8, .aload_n 1, 1, 0, 0, []),
  (9, .getfield 9, 3, 3, 1, []),
  (12, .aload_n 0, 1, 0, 0, []),
  (13, .getfield 9, 3, 3, 1, []),
  (16, .invokestatic 77, 3, 157, 2, []),
  (19, .aload_n 1, 1, 0, 0, []),
  (20, .getfield 15, 3, 3, 2, []),
  (23, .aload_n 0, 1, 0, 0, []),
  (24, .getfield 15, 3, 3, 2, []),
  (27, .invokestatic 77, 3, 157, 2, []),
  (30, .aload_n 1, 1, 0, 0, []),
  (31, .getfield 18, 3, 3, 3, []),
  (34, .aload_n 0, 1, 0, 0, []),
  (35, .getfield 18, 3, 3, 3, []),
  (38, .invokestatic 77, 3, 157, 2, []),
  (41, .aload_n 1, 1, 0, 0, []),
  (42, .getfield 21, 3, 3, 4, []),
  (45, .aload_n 0, 1, 0, 0, []),
  (46, .getfield 21, 3, 3, 4, []),
  (49, .invokestatic 77, 3, 157, 2, []),
  (52, .return_, 1, 0, 0, [])]
/-- People.init -/
def pc_60 : List pm_I := [
  (0, .aload_n 0, 1, 0, 0, []),
  (1, .invokespecial 3, 3, 1004, 0, []),
  (4, .aload_n 0, 1, 0, 0, []),
  (5, .bipush 10, 2, 10, 0, []),
  (7, .newarray .int, 2, 0, 0, []),
  (9, .putfield 9, 3, 4, 1, [2]),
  (12, .aload_n 0, 1, 0, 0, []),
  (13, .bipush 10, 2, 10, 0, []),
  (15, .newarray .int, 2, 0, 0, []),
  (17, .putfield 15, 3, 4, 2, [2]),
  (20, .aload_n 0, 1, 0, 0, []),
  (21, .bipush 10, 2, 10, 0, []),
  (23, .newarray .int, 2, 0, 0, []),
  (25, .putfield 18, 3, 4, 3, [2]),
  (28, .aload_n 0, 1, 0, 0, []),
  (29, .bipush 10, 2, 10, 0, []),
  (31, .newarray .int, 2, 0, 0, []),
  (33, .putfield 21, 3, 4, 4, [2]),
  (36, .aload_n 0, 1, 0, 0, []),
  (37, .bipush 10, 2, 10, 0, []),
  (39, .newarray .int, 2, 0, 0, []),
  (41, .putfield 24, 3, 4, 5, [2]),
  (44, .return_, 1, 0, 0, [])]
/-- People.has -/
def pc_61 : List pm_I := [
  (0, .iload_n 1, 1, 0, 0, []),
  (1, .ifCond .lt 15, 3, 8, 0, []),
  (4, .iload_n 1, 1, 0, 0, []),
  (5, .aload_n 0, 1, 0, 0, []),
  (6, .getfield 27, 3, 4, 0, []),
  (9, .if_icmp .ge 7, 3, 8, 0, []),
  (12, .iconst 1, 1, 1, 0, []),
  (13, .goto 4, 3, 9, 0, []),
  (16, .iconst 0, 1, 0, 0, []),
  (17, .ireturn, 1, 0, 0, [])]
/-- People.add -/
def pc_62 : List pm_I := [
  (0, .iload_n 2, 1, 0, 0, []),
  (1, .ifCond .lt 23, 3, 12, 0, []),
  (4, .iload_n 2, 1, 0, 0, []),
  (5, .ldc 31, 2, 99999, 0, []),
  (7, .if_icmp .gt 17, 3, 12, 0, []),
  (10, .iload_n 3, 1, 0, 0, []),
  (11, .ifCond .lt 13, 3, 12, 0, []),
  (14, .iload_n 3, 1, 0, 0, []),
  (15, .bipush 99, 2, 99, 0, []),
  (17, .if_icmp .gt 7, 3, 12, 0, []),
  (20, .iconst 1, 1, 1, 0, []),
  (21, .goto 4, 3, 13, 0, []),
  (24, .iconst 0, 1, 0, 0, []),
  (25, .istore 4, 2, 0, 0, []),
  (27, .iload 4, 2, 0, 0, []),
  (29, .ifCond .eq 12, 3, 20, 0, []),
  (32, .aload_n 0, 1, 0, 0, []),
  (33, .getfield 27, 3, 4, 0, []),
  (36, .bipush 10, 2, 10, 0, []),
  (38, .if_icmp .lt 5, 3, 22, 0, []),
  (41, .iconst (-1), 1, 1, 1, []),
  (42, .ireturn, 1, 0, 0, []),
  (43, .aload_n 0, 1, 0, 0, []),
  (44, .getfield 9, 3, 4, 1, []),
  (47, .aload_n 0, 1, 0, 0, []),
  (48, .getfield 27, 3, 4, 0, []),
  (51, .iload_n 1, 1, 0, 0, []),
  (52, .iastore, 1, 0, 0, []),
  (53, .aload_n 0, 1, 0, 0, []),
  (54, .getfield 15, 3, 4, 2, []),
  (57, .aload_n 0, 1, 0, 0, []),
  (58, .getfield 27, 3, 4, 0, []),
  (61, .iload_n 2, 1, 0, 0, []),
  (62, .iastore, 1, 0, 0, []),
  (63, .aload_n 0, 1, 0, 0, []),
  (64, .getfield 18, 3, 4, 3, []),
  (67, .aload_n 0, 1, 0, 0, []),
  (68, .getfield 27, 3, 4, 0, []),
  (71, .iload_n 3, 1, 0, 0, []),
  (72, .iastore, 1, 0, 0, []),
  (73, .aload_n 0, 1, 0, 0, []),
  (74, .getfield 21, 3, 4, 4, []),
  (77, .aload_n 0, 1, 0, 0, []),
  (78, .getfield 27, 3, 4, 0, []),
  (81, .iload_n 1, 1, 0, 0, []),
  (82, .iastore, 1, 0, 0, []),
  (83, .aload_n 0, 1, 0, 0, []),
  (84, .getfield 24, 3, 4, 5, []),
  (87, .aload_n 0, 1, 0, 0, []),
  (88, .getfield 27, 3, 4, 0, []),
  (91, .iconst (-1), 1, 1, 1, []),
  (92, .iastore, 1, 0, 0, []),
  (93, .aload_n 0, 1, 0, 0, []),
  (94, .dup, 1, 0, 0, []),
  (95, .getfield 27, 3, 4, 0, []),
  (98, .iconst 1, 1, 1, 0, []),
  (99, .iadd, 1, 0, 0, []),
  (100, .putfield 27, 3, 4, 0, [0]),
  (103, .aload_n 0, 1, 0, 0, []),
  (104, .getfield 27, 3, 4, 0, []),
  (107, .iconst 1, 1, 1, 0, []),
  (108, .isub, 1, 0, 0, []),
  (109, .ireturn, 1, 0, 0, [])]
/-- People.aimHome -/
def pc_63 : List pm_I := [
  (0, .aload_n 0, 1, 0, 0, []),
  (1, .getfield 9, 3, 4, 1, []),
  (4, .aload_n 0, 1, 0, 0, []),
  (5, .getfield 21, 3, 4, 4, []),
  (8, .invokestatic 32, 3, 157, 2, []),
  (11, .return_, 1, 0, 0, [])]
/-- People.countAt -/
def pc_64 : List pm_I := [
  (0, .iconst 0, 1, 0, 0, []),
  (1, .istore_n 2, 1, 0, 0, []),
  (2, .iconst 0, 1, 0, 0, []),
  (3, .istore_n 3, 1, 0, 0, []),
  (4, .iload_n 3, 1, 0, 0, []),
  (5, .aload_n 0, 1, 0, 0, []),
  (6, .getfield 27, 3, 4, 0, []),
  (9, .if_icmp .ge 27, 3, 22, 0, []),
  (12, .iload_n 2, 1, 0, 0, []),
  (13, .aload_n 0, 1, 0, 0, []),
  (14, .getfield 24, 3, 4, 5, []),
  (17, .iload_n 3, 1, 0, 0, []),
  (18, .iaload, 1, 0, 0, []),
  (19, .iload_n 1, 1, 0, 0, []),
  (20, .if_icmp .ne 7, 3, 17, 0, []),
  (23, .iconst 1, 1, 1, 0, []),
  (24, .goto 4, 3, 18, 0, []),
  (27, .iconst 0, 1, 0, 0, []),
  (28, .iadd, 1, 0, 0, []),
  (29, .istore_n 2, 1, 0, 0, []),
  (30, .iinc 3 1, 3, 0, 0, []),
  (33, .goto (-29), 3, 4, 0, []),
  (36, .iload_n 2, 1, 0, 0, []),
  (37, .ireturn, 1, 0, 0, [])]
/-- People.homesOf -/
def pc_65 : List pm_I := [
  (0, .iconst 0, 1, 0, 0, []),
  (1, .istore_n 2, 1, 0, 0, []),
  (2, .iconst 0, 1, 0, 0, []),
  (3, .istore_n 3, 1, 0, 0, []),
  (4, .iload_n 3, 1, 0, 0, []),
  (5, .aload_n 0, 1, 0, 0, []),
  (6, .getfield 27, 3, 4, 0, []),
  (9, .if_icmp .ge 32, 3, 25, 0, []),
  (12, .iload_n 2, 1, 0, 0, []),
  (13, .iload_n 3, 1, 0, 0, []),
  (14, .iload_n 1, 1, 0, 0, []),
  (15, .invokestatic 36, 3, 156, 2, []),
  (18, .ifCond .eq 14, 3, 20, 0, []),
  (21, .iconst 1, 1, 1, 0, []),
  (22, .aload_n 0, 1, 0, 0, []),
  (23, .getfield 9, 3, 4, 1, []),
  (26, .iload_n 3, 1, 0, 0, []),
  (27, .iaload, 1, 0, 0, []),
  (28, .ishl, 1, 0, 0, []),
  (29, .goto 4, 3, 21, 0, []),
  (32, .iconst 0, 1, 0, 0, []),
  (33, .ior, 1, 0, 0, []),
  (34, .istore_n 2, 1, 0, 0, []),
  (35, .iinc 3 1, 3, 0, 0, []),
  (38, .goto (-34), 3, 4, 0, []),
  (41, .iload_n 2, 1, 0, 0, []),
  (42, .ireturn, 1, 0, 0, [])]
/-- People.copyFrom -/
def pc_66 : List pm_I := [
  (0, .aload_n 0, 1, 0, 0, []),
  (1, .aload_n 1, 1, 0, 0, []),
  (2, .getfield 27, 3, 4, 0, []),
  (5, .putfield 27, 3, 4, 0, [0]),
  (8, .aload_n 1, 1, 0, 0, []),
  (9, .getfield 9, 3, 4, 1, []),
  (12, .aload_n 0, 1, 0, 0, []),
  (13, .getfield 9, 3, 4, 1, []),
  (16, .invokestatic 32, 3, 157, 2, []),
  (19, .aload_n 1, 1, 0, 0, []),
  (20, .getfield 15, 3, 4, 2, []),
  (23, .aload_n 0, 1, 0, 0, []),
  (24, .getfield 15, 3, 4, 2, []),
  (27, .invokestatic 32, 3, 157, 2, []),
  (30, .aload_n 1, 1, 0, 0, []),
  (31, .getfield 18, 3, 4, 3, []),
  (34, .aload_n 0, 1, 0, 0, []),
  (35, .getfield 18, 3, 4, 3, []),
  (38, .invokestatic 32, 3, 157, 2, []),
  (41, .aload_n 1, 1, 0, 0, []),
  (42, .getfield 21, 3, 4, 4, []),
  (45, .aload_n 0, 1, 0, 0, []),
  (46, .getfield 21, 3, 4, 4, []),
  (49, .invokestatic 32, 3, 157, 2, []),
  (52, .aload_n 1, 1, 0, 0, []),
  (53, .getfield 24, 3, 4, 5, []),
  (56, .aload_n 0, 1, 0, 0, []),
  (57, .getfield 24, 3, 4, 5, []),
  (60, .invokestatic 32, 3, 157, 2, []),
  (63, .return_, 1, 0, 0, [])]
/-- Plans.init -/
def pc_67 : List pm_I := [
  (0, .aload_n 0, 1, 0, 0, []),
  (1, .invokespecial 3, 3, 1004, 0, []),
  (4, .aload_n 0, 1, 0, 0, []),
  (5, .bipush 10, 2, 10, 0, []),
  (7, .newarray .int, 2, 0, 0, []),
  (9, .putfield 11, 3, 5, 1, [2]),
  (12, .aload_n 0, 1, 0, 0, []),
  (13, .bipush 10, 2, 10, 0, []),
  (15, .newarray .int, 2, 0, 0, []),
  (17, .putfield 15, 3, 5, 3, [2]),
  (20, .aload_n 0, 1, 0, 0, []),
  (21, .sipush 1024, 3, 1024, 0, []),
  (24, .newarray .boolean, 2, 0, 0, []),
  (26, .putfield 18, 3, 5, 4, [2]),
  (29, .aload_n 0, 1, 0, 0, []),
  (30, .sipush 1024, 3, 1024, 0, []),
  (33, .newarray .int, 2, 0, 0, []),
  (35, .putfield 22, 3, 5, 5, [2]),
  (38, .aload_n 0, 1, 0, 0, []),
  (39, .bipush 64, 2, 64, 0, []),
  (41, .newarray .int, 2, 0, 0, []),
  (43, .putfield 25, 3, 5, 6, [2]),
  (46, .aload_n 0, 1, 0, 0, []),
  (47, .aload_n 1, 1, 0, 0, []),
  (48, .putfield 28, 3, 5, 0, [2]),
  (51, .return_, 1, 0, 0, [])]
/-- Plans.clearing -/
def pc_68 : List pm_I := [
  (0, .aload_n 0, 1, 0, 0, []),
  (1, .iconst (-1), 1, 1, 1, []),
  (2, .bipush 10, 2, 10, 0, []),
  (4, .invokevirtual 32, 3, 69, 2, [5]),
  (7, .ifCond .ne 5, 3, 7, 0, []),
  (10, .iconst (-1), 1, 1, 1, []),
  (11, .ireturn, 1, 0, 0, []),
  (12, .iconst 1, 1, 1, 0, []),
  (13, .aload_n 0, 1, 0, 0, []),
  (14, .getfield 36, 3, 5, 2, []),
  (17, .ishl, 1, 0, 0, []),
  (18, .iconst 1, 1, 1, 0, []),
  (19, .isub, 1, 0, 0, []),
  (20, .istore_n 2, 1, 0, 0, []),
  (21, .aload_n 0, 1, 0, 0, []),
  (22, .invokevirtual 40, 3, 70, 0, [5]),
  (25, .aload_n 0, 1, 0, 0, []),
  (26, .iload_n 2, 1, 0, 0, []),
  (27, .invokevirtual 43, 3, 71, 1, [5]),
  (30, .iload_n 1, 1, 0, 0, []),
  (31, .ifCond .ne 10, 3, 26, 0, []),
  (34, .aload_n 0, 1, 0, 0, []),
  (35, .getfield 22, 3, 5, 5, []),
  (38, .iload_n 2, 1, 0, 0, []),
  (39, .iaload, 1, 0, 0, []),
  (40, .ireturn, 1, 0, 0, []),
  (41, .iload_n 1, 1, 0, 0, []),
  (42, .bipush 10, 2, 10, 0, []),
  (44, .if_icmp .lt 28, 3, 44, 0, []),
  (47, .iload_n 1, 1, 0, 0, []),
  (48, .bipush 10, 2, 10, 0, []),
  (50, .isub, 1, 0, 0, []),
  (51, .aload_n 0, 1, 0, 0, []),
  (52, .getfield 22, 3, 5, 5, []),
  (55, .iload_n 2, 1, 0, 0, []),
  (56, .iaload, 1, 0, 0, []),
  (57, .if_icmp .ge 15, 3, 44, 0, []),
  (60, .aload_n 0, 1, 0, 0, []),
  (61, .iload_n 1, 1, 0, 0, []),
  (62, .bipush 10, 2, 10, 0, []),
  (64, .isub, 1, 0, 0, []),
  (65, .iload_n 2, 1, 0, 0, []),
  (66, .invokevirtual 47, 3, 73, 2, [5]),
  (69, .goto 4, 3, 45, 0, []),
  (72, .iconst (-1), 1, 1, 1, []),
  (73, .ireturn, 1, 0, 0, [])]
/-- Plans.gatherOpen -/
def pc_69 : List pm_I := [
  (0, .aload_n 0, 1, 0, 0, []),
  (1, .iconst 0, 1, 0, 0, []),
  (2, .putfield 36, 3, 5, 2, [0]),
  (5, .iconst 0, 1, 0, 0, []),
  (6, .istore_n 3, 1, 0, 0, []),
  (7, .iload_n 3, 1, 0, 0, []),
  (8, .aload_n 0, 1, 0, 0, []),
  (9, .getfield 28, 3, 5, 0, []),
  (12, .getfield 51, 3, 9, 7, []),
  (15, .getfield 57, 3, 0, 0, []),
  (18, .if_icmp .ge 86, 3, 54, 0, []),
  (21, .aload_n 0, 1, 0, 0, []),
  (22, .getfield 28, 3, 5, 0, []),
  (25, .getfield 51, 3, 9, 7, []),
  (28, .iload_n 3, 1, 0, 0, []),
  (29, .invokevirtual 62, 3, 3, 1, [0]),
  (32, .ifCond .eq 66, 3, 52, 0, []),
  (35, .iload_n 1, 1, 0, 0, []),
  (36, .iconst (-1), 1, 1, 1, []),
  (37, .if_icmp .eq 19, 3, 28, 0, []),
  (40, .aload_n 0, 1, 0, 0, []),
  (41, .getfield 28, 3, 5, 0, []),
  (44, .getfield 51, 3, 9, 7, []),
  (47, .getfield 66, 3, 0, 1, []),
  (50, .iload_n 3, 1, 0, 0, []),
  (51, .iaload, 1, 0, 0, []),
  (52, .iload_n 1, 1, 0, 0, []),
  (53, .if_icmp .ne 45, 3, 52, 0, []),
  (56, .aload_n 0, 1, 0, 0, []),
  (57, .getfield 36, 3, 5, 2, []),
  (60, .iload_n 2, 1, 0, 0, []),
  (61, .if_icmp .ge 15, 3, 38, 0, []),
  (64, .aload_n 0, 1, 0, 0, []),
  (65, .getfield 36, 3, 5, 2, []),
  (68, .aload_n 0, 1, 0, 0, []),
  (69, .getfield 11, 3, 5, 1, []),
  (72, .arraylength, 1, 0, 0, []),
  (73, .if_icmp .lt 5, 3, 40, 0, []),
  (76, .iconst 0, 1, 0, 0, []),
  (77, .ireturn, 1, 0, 0, []),
  (78, .aload_n 0, 1, 0, 0, []),
  (79, .getfield 11, 3, 5, 1, []),
  (82, .aload_n 0, 1, 0, 0, []),
  (83, .getfield 36, 3, 5, 2, []),
  (86, .iload_n 3, 1, 0, 0, []),
  (87, .iastore, 1, 0, 0, []),
  (88, .aload_n 0, 1, 0, 0, []),
  (89, .dup, 1, 0, 0, []),
  (90, .getfield 36, 3, 5, 2, []),
  (93, .iconst 1, 1, 1, 0, []),
  (94, .iadd, 1, 0, 0, []),
  (95, .putfield 36, 3, 5, 2, [0]),
  (98, .iinc 3 1, 3, 0, 0, []),
  (101, .goto (-94), 3, 5, 0, []),
  (104, .iconst 1, 1, 1, 0, []),
  (105, .ireturn, 1, 0, 0, [])]
/-- Plans.noteClashes -/
def pc_70 : List pm_I := [
  (0, .iconst 0, 1, 0, 0, []),
  (1, .istore_n 1, 1, 0, 0, []),
  (2, .iload_n 1, 1, 0, 0, []),
  (3, .aload_n 0, 1, 0, 0, []),
  (4, .getfield 36, 3, 5, 2, []),
  (7, .if_icmp .ge 120, 3, 71, 0, []),
  (10, .aload_n 0, 1, 0, 0, []),
  (11, .getfield 15, 3, 5, 3, []),
  (14, .iload_n 1, 1, 0, 0, []),
  (15, .iconst 0, 1, 0, 0, []),
  (16, .iastore, 1, 0, 0, []),
  (17, .iconst 0, 1, 0, 0, []),
  (18, .istore_n 2, 1, 0, 0, []),
  (19, .iload_n 2, 1, 0, 0, []),
  (20, .aload_n 0, 1, 0, 0, []),
  (21, .getfield 36, 3, 5, 2, []),
  (24, .if_icmp .ge 97, 3, 69, 0, []),
  (27, .aload_n 0, 1, 0, 0, []),
  (28, .getfield 28, 3, 5, 0, []),
  (31, .getfield 51, 3, 9, 7, []),
  (34, .getfield 69, 3, 0, 4, []),
  (37, .aload_n 0, 1, 0, 0, []),
  (38, .getfield 11, 3, 5, 1, []),
  (41, .iload_n 1, 1, 0, 0, []),
  (42, .iaload, 1, 0, 0, []),
  (43, .iaload, 1, 0, 0, []),
  (44, .aload_n 0, 1, 0, 0, []),
  (45, .getfield 28, 3, 5, 0, []),
  (48, .getfield 51, 3, 9, 7, []),
  (51, .getfield 69, 3, 0, 4, []),
  (54, .aload_n 0, 1, 0, 0, []),
  (55, .getfield 11, 3, 5, 1, []),
  (58, .iload_n 2, 1, 0, 0, []),
  (59, .iaload, 1, 0, 0, []),
  (60, .iaload, 1, 0, 0, []),
  (61, .if_icmp .eq 7, 3, 38, 0, []),
  (64, .iconst 1, 1, 1, 0, []),
  (65, .goto 4, 3, 39, 0, []),
  (68, .iconst 0, 1, 0, 0, []),
  (69, .istore_n 3, 1, 0, 0, []),
  (70, .aload_n 0, 1, 0, 0, []),
  (71, .getfield 15, 3, 5, 3, []),
  (74, .iload_n 1, 1, 0, 0, []),
  (75, .dup2, 1, 0, 0, []),
  (76, .iaload, 1, 0, 0, []),
  (77, .iload_n 3, 1, 0, 0, []),
  (78, .ifCond .eq 34, 3, 64, 0, []),
  (81, .aload_n 0, 1, 0, 0, []),
  (82, .getfield 28, 3, 5, 0, []),
  (85, .getfield 51, 3, 9, 7, []),
  (88, .aload_n 0, 1, 0, 0, []),
  (89, .getfield 11, 3, 5, 1, []),
  (92, .iload_n 1, 1, 0, 0, []),
  (93, .iaload, 1, 0, 0, []),
  (94, .aload_n 0, 1, 0, 0, []),
  (95, .getfield 11, 3, 5, 1, []),
  (98, .iload_n 2, 1, 0, 0, []),
  (99, .iaload, 1, 0, 0, []),
  (100, .invokevirtual 72, 3, 8, 2, [0]),
  (103, .ifCond .eq 9, 3, 64, 0, []),
  (106, .iconst 1, 1, 1, 0, []),
  (107, .iload_n 2, 1, 0, 0, []),
  (108, .ishl, 1, 0, 0, []),
  (109, .goto 4, 3, 65, 0, []),
  (112, .iconst 0, 1, 0, 0, []),
  (113, .ior, 1, 0, 0, []),
  (114, .iastore, 1, 0, 0, []),
  (115, .iinc 2 1, 3, 0, 0, []),
  (118, .goto (-99), 3, 13, 0, []),
  (121, .iinc 1 1, 3, 0, 0, []),
  (124, .goto (-122), 3, 2, 0, []),
  (127, .return_, 1, 0, 0, [])]
/-- Plans.countSundays -/
def pc_71 : List pm_I := [
  (0, .aload_n 0, 1, 0, 0, []),
  (1, .getfield 18, 3, 5, 4, []),
  (4, .iconst 0, 1, 0, 0, []),
  (5, .iconst 1, 1, 1, 0, []),
  (6, .bastore, 1, 0, 0, []),
  (7, .aload_n 0, 1, 0, 0, []),
  (8, .getfield 22, 3, 5, 5, []),
  (11, .iconst 0, 1, 0, 0, []),
  (12, .iconst 0, 1, 0, 0, []),
  (13, .iastore, 1, 0, 0, []),
  (14, .iconst 1, 1, 1, 0, []),
  (15, .istore_n 2, 1, 0, 0, []),
  (16, .iload_n 2, 1, 0, 0, []),
  (17, .iload_n 1, 1, 0, 0, []),
  (18, .if_icmp .gt 89, 3, 67, 0, []),
  (21, .iload_n 2, 1, 0, 0, []),
  (22, .iload_n 2, 1, 0, 0, []),
  (23, .ineg, 1, 0, 0, []),
  (24, .iand, 1, 0, 0, []),
  (25, .istore_n 3, 1, 0, 0, []),
  (26, .iload_n 2, 1, 0, 0, []),
  (27, .iload_n 3, 1, 0, 0, []),
  (28, .iconst (-1), 1, 1, 1, []),
  (29, .ixor, 1, 0, 0, []),
  (30, .iand, 1, 0, 0, []),
  (31, .istore 4, 2, 0, 0, []),
  (33, .iload_n 3, 1, 0, 0, []),
  (34, .iconst 1, 1, 1, 0, []),
  (35, .isub, 1, 0, 0, []),
  (36, .invokestatic 75, 3, 255, 1, []),
  (39, .istore 5, 2, 0, 0, []),
  (41, .aload_n 0, 1, 0, 0, []),
  (42, .getfield 18, 3, 5, 4, []),
  (45, .iload_n 2, 1, 0, 0, []),
  (46, .aload_n 0, 1, 0, 0, []),
  (47, .getfield 18, 3, 5, 4, []),
  (50, .iload 4, 2, 0, 0, []),
  (52, .baload, 1, 0, 0, []),
  (53, .ifCond .eq 20, 3, 48, 0, []),
  (56, .aload_n 0, 1, 0, 0, []),
  (57, .getfield 15, 3, 5, 3, []),
  (60, .iload 5, 2, 0, 0, []),
  (62, .iaload, 1, 0, 0, []),
  (63, .iload 4, 2, 0, 0, []),
  (65, .iand, 1, 0, 0, []),
  (66, .ifCond .ne 7, 3, 48, 0, []),
  (69, .iconst 1, 1, 1, 0, []),
  (70, .goto 4, 3, 49, 0, []),
  (73, .iconst 0, 1, 0, 0, []),
  (74, .bastore, 1, 0, 0, []),
  (75, .aload_n 0, 1, 0, 0, []),
  (76, .getfield 22, 3, 5, 5, []),
  (79, .iload_n 2, 1, 0, 0, []),
  (80, .aload_n 0, 1, 0, 0, []),
  (81, .getfield 18, 3, 5, 4, []),
  (84, .iload_n 2, 1, 0, 0, []),
  (85, .baload, 1, 0, 0, []),
  (86, .ifCond .eq 7, 3, 60, 0, []),
  (89, .iconst 1, 1, 1, 0, []),
  (90, .goto 10, 3, 64, 0, []),
  (93, .aload_n 0, 1, 0, 0, []),
  (94, .iload_n 3, 1, 0, 0, []),
  (95, .iload 4, 2, 0, 0, []),
  (97, .invokevirtual 81, 3, 72, 2, [5]),
  (100, .iastore, 1, 0, 0, []),
  (101, .iinc 2 1, 3, 0, 0, []),
  (104, .goto (-88), 3, 12, 0, []),
  (107, .return_, 1, 0, 0, [])]
/-- Plans.fewestSundays -/
def pc_72 : List pm_I := [
  (0, .bipush 10, 2, 10, 0, []),
  (2, .istore_n 3, 1, 0, 0, []),
  (3, .iload_n 2, 1, 0, 0, []),
  (4, .istore 4, 2, 0, 0, []),
  (6, .iload 4, 2, 0, 0, []),
  (8, .ifCond .le 44, 3, 33, 0, []),
  (11, .aload_n 0, 1, 0, 0, []),
  (12, .getfield 18, 3, 5, 4, []),
  (15, .iload_n 1, 1, 0, 0, []),
  (16, .iload_n 2, 1, 0, 0, []),
  (17, .iload 4, 2, 0, 0, []),
  (19, .iconst (-1), 1, 1, 1, []),
  (20, .ixor, 1, 0, 0, []),
  (21, .iand, 1, 0, 0, []),
  (22, .ior, 1, 0, 0, []),
  (23, .baload, 1, 0, 0, []),
  (24, .ifCond .eq 17, 3, 26, 0, []),
  (27, .iload_n 3, 1, 0, 0, []),
  (28, .iconst 1, 1, 1, 0, []),
  (29, .aload_n 0, 1, 0, 0, []),
  (30, .getfield 22, 3, 5, 5, []),
  (33, .iload 4, 2, 0, 0, []),
  (35, .iaload, 1, 0, 0, []),
  (36, .iadd, 1, 0, 0, []),
  (37, .invokestatic 84, 3, 1000, 2, []),
  (40, .istore_n 3, 1, 0, 0, []),
  (41, .iload 4, 2, 0, 0, []),
  (43, .iconst 1, 1, 1, 0, []),
  (44, .isub, 1, 0, 0, []),
  (45, .iload_n 2, 1, 0, 0, []),
  (46, .iand, 1, 0, 0, []),
  (47, .istore 4, 2, 0, 0, []),
  (49, .goto (-43), 3, 4, 0, []),
  (52, .iload_n 3, 1, 0, 0, []),
  (53, .ireturn, 1, 0, 0, [])]
/-- Plans.setOfSunday -/
def pc_73 : List pm_I := [
  (0, .iload_n 2, 1, 0, 0, []),
  (1, .istore_n 3, 1, 0, 0, []),
  (2, .iconst 0, 1, 0, 0, []),
  (3, .istore 4, 2, 0, 0, []),
  (5, .iconst 0, 1, 0, 0, []),
  (6, .istore 5, 2, 0, 0, []),
  (8, .iload 5, 2, 0, 0, []),
  (10, .iload_n 1, 1, 0, 0, []),
  (11, .if_icmp .gt 30, 3, 24, 0, []),
  (14, .iload 5, 2, 0, 0, []),
  (16, .bipush 10, 2, 10, 0, []),
  (18, .if_icmp .ge 23, 3, 24, 0, []),
  (21, .aload_n 0, 1, 0, 0, []),
  (22, .iload_n 3, 1, 0, 0, []),
  (23, .invokevirtual 89, 3, 74, 1, [5]),
  (26, .istore 4, 2, 0, 0, []),
  (28, .iload_n 3, 1, 0, 0, []),
  (29, .iload 4, 2, 0, 0, []),
  (31, .iconst (-1), 1, 1, 1, []),
  (32, .ixor, 1, 0, 0, []),
  (33, .iand, 1, 0, 0, []),
  (34, .istore_n 3, 1, 0, 0, []),
  (35, .iinc 5 1, 3, 0, 0, []),
  (38, .goto (-30), 3, 6, 0, []),
  (41, .iload 4, 2, 0, 0, []),
  (43, .ireturn, 1, 0, 0, [])]
/-- Plans.greatestSet -/
def pc_74 : List pm_I := [
  (0, .iload_n 1, 1, 0, 0, []),
  (1, .istore_n 2, 1, 0, 0, []),
  (2, .iload_n 2, 1, 0, 0, []),
  (3, .ifCond .le 44, 3, 33, 0, []),
  (6, .aload_n 0, 1, 0, 0, []),
  (7, .getfield 18, 3, 5, 4, []),
  (10, .iload_n 2, 1, 0, 0, []),
  (11, .baload, 1, 0, 0, []),
  (12, .ifCond .eq 26, 3, 26, 0, []),
  (15, .aload_n 0, 1, 0, 0, []),
  (16, .getfield 22, 3, 5, 5, []),
  (19, .iload_n 1, 1, 0, 0, []),
  (20, .iload_n 2, 1, 0, 0, []),
  (21, .iconst (-1), 1, 1, 1, []),
  (22, .ixor, 1, 0, 0, []),
  (23, .iand, 1, 0, 0, []),
  (24, .iaload, 1, 0, 0, []),
  (25, .aload_n 0, 1, 0, 0, []),
  (26, .getfield 22, 3, 5, 5, []),
  (29, .iload_n 1, 1, 0, 0, []),
  (30, .iaload, 1, 0, 0, []),
  (31, .iconst 1, 1, 1, 0, []),
  (32, .isub, 1, 0, 0, []),
  (33, .if_icmp .ne 5, 3, 26, 0, []),
  (36, .iload_n 2, 1, 0, 0, []),
  (37, .ireturn, 1, 0, 0, []),
  (38, .iload_n 2, 1, 0, 0, []),
  (39, .iconst 1, 1, 1, 0, []),
  (40, .isub, 1, 0, 0, []),
  (41, .iload_n 1, 1, 0, 0, []),
  (42, .iand, 1, 0, 0, []),
  (43, .istore_n 2, 1, 0, 0, []),
  (44, .goto (-42), 3, 2, 0, []),
  (47, .iconst 0, 1, 0, 0, []),
  (48, .ireturn, 1, 0, 0, [])]
/-- Plans.paying -/
def pc_75 : List pm_I := [
  (0, .aload_n 0, 1, 0, 0, []),
  (1, .iload_n 1, 1, 0, 0, []),
  (2, .bipush 8, 2, 8, 0, []),
  (4, .invokevirtual 32, 3, 69, 2, [5]),
  (7, .ifCond .ne 5, 3, 7, 0, []),
  (10, .iconst (-1), 1, 1, 1, []),
  (11, .ireturn, 1, 0, 0, []),
  (12, .aload_n 0, 1, 0, 0, []),
  (13, .invokevirtual 92, 3, 76, 0, [5]),
  (16, .iconst 1, 1, 1, 0, []),
  (17, .aload_n 0, 1, 0, 0, []),
  (18, .getfield 36, 3, 5, 2, []),
  (21, .ishl, 1, 0, 0, []),
  (22, .iconst 1, 1, 1, 0, []),
  (23, .isub, 1, 0, 0, []),
  (24, .istore_n 3, 1, 0, 0, []),
  (25, .aload_n 0, 1, 0, 0, []),
  (26, .getfield 22, 3, 5, 5, []),
  (29, .iload_n 3, 1, 0, 0, []),
  (30, .iconst 0, 1, 0, 0, []),
  (31, .iastore, 1, 0, 0, []),
  (32, .iload_n 3, 1, 0, 0, []),
  (33, .iconst 1, 1, 1, 0, []),
  (34, .isub, 1, 0, 0, []),
  (35, .istore 4, 2, 0, 0, []),
  (37, .iload 4, 2, 0, 0, []),
  (39, .ifCond .lt 22, 3, 36, 0, []),
  (42, .aload_n 0, 1, 0, 0, []),
  (43, .getfield 22, 3, 5, 5, []),
  (46, .iload 4, 2, 0, 0, []),
  (48, .aload_n 0, 1, 0, 0, []),
  (49, .iload 4, 2, 0, 0, []),
  (51, .invokevirtual 95, 3, 77, 1, [5]),
  (54, .iastore, 1, 0, 0, []),
  (55, .iinc 4 (-1), 3, 0, 0, []),
  (58, .goto (-21), 3, 25, 0, []),
  (61, .iload_n 2, 1, 0, 0, []),
  (62, .ifCond .ne 10, 3, 43, 0, []),
  (65, .aload_n 0, 1, 0, 0, []),
  (66, .getfield 22, 3, 5, 5, []),
  (69, .iconst 0, 1, 0, 0, []),
  (70, .iaload, 1, 0, 0, []),
  (71, .ireturn, 1, 0, 0, []),
  (72, .iload_n 2, 1, 0, 0, []),
  (73, .bipush 10, 2, 10, 0, []),
  (75, .if_icmp .lt 25, 3, 58, 0, []),
  (78, .iload_n 2, 1, 0, 0, []),
  (79, .bipush 10, 2, 10, 0, []),
  (81, .isub, 1, 0, 0, []),
  (82, .aload_n 0, 1, 0, 0, []),
  (83, .getfield 36, 3, 5, 2, []),
  (86, .if_icmp .ge 14, 3, 58, 0, []),
  (89, .aload_n 0, 1, 0, 0, []),
  (90, .iload_n 2, 1, 0, 0, []),
  (91, .bipush 10, 2, 10, 0, []),
  (93, .isub, 1, 0, 0, []),
  (94, .invokevirtual 98, 3, 79, 1, [5]),
  (97, .goto 4, 3, 59, 0, []),
  (100, .iconst (-1), 1, 1, 1, []),
  (101, .ireturn, 1, 0, 0, [])]
/-- Plans.growDebts -/
def pc_76 : List pm_I := [
  (0, .iconst 0, 1, 0, 0, []),
  (1, .istore_n 1, 1, 0, 0, []),
  (2, .iload_n 1, 1, 0, 0, []),
  (3, .aload_n 0, 1, 0, 0, []),
  (4, .getfield 36, 3, 5, 2, []),
  (7, .if_icmp .ge 69, 3, 43, 0, []),
  (10, .aload_n 0, 1, 0, 0, []),
  (11, .getfield 28, 3, 5, 0, []),
  (14, .getfield 51, 3, 9, 7, []),
  (17, .getfield 101, 3, 0, 3, []),
  (20, .aload_n 0, 1, 0, 0, []),
  (21, .getfield 11, 3, 5, 1, []),
  (24, .iload_n 1, 1, 0, 0, []),
  (25, .iaload, 1, 0, 0, []),
  (26, .iaload, 1, 0, 0, []),
  (27, .istore_n 2, 1, 0, 0, []),
  (28, .iconst 0, 1, 0, 0, []),
  (29, .istore_n 3, 1, 0, 0, []),
  (30, .iload_n 3, 1, 0, 0, []),
  (31, .aload_n 0, 1, 0, 0, []),
  (32, .getfield 36, 3, 5, 2, []),
  (35, .if_icmp .ge 35, 3, 41, 0, []),
  (38, .aload_n 0, 1, 0, 0, []),
  (39, .getfield 25, 3, 5, 6, []),
  (42, .iload_n 3, 1, 0, 0, []),
  (43, .bipush 8, 2, 8, 0, []),
  (45, .imul, 1, 0, 0, []),
  (46, .iload_n 1, 1, 0, 0, []),
  (47, .iadd, 1, 0, 0, []),
  (48, .iload_n 2, 1, 0, 0, []),
  (49, .iastore, 1, 0, 0, []),
  (50, .iload_n 2, 1, 0, 0, []),
  (51, .aload_n 0, 1, 0, 0, []),
  (52, .getfield 28, 3, 5, 0, []),
  (55, .getfield 104, 3, 9, 4, []),
  (58, .iconst 1, 1, 1, 0, []),
  (59, .iaload, 1, 0, 0, []),
  (60, .invokestatic 107, 3, 10, 2, []),
  (63, .istore_n 2, 1, 0, 0, []),
  (64, .iinc 3 1, 3, 0, 0, []),
  (67, .goto (-37), 3, 18, 0, []),
  (70, .iinc 1 1, 3, 0, 0, []),
  (73, .goto (-71), 3, 2, 0, []),
  (76, .return_, 1, 0, 0, [])]
/-- Plans.leastBehind -/
def pc_77 : List pm_I := [
  (0, .ldc 109, 2, 2147483647, 0, []),
  (2, .istore_n 2, 1, 0, 0, []),
  (3, .iconst 0, 1, 0, 0, []),
  (4, .istore_n 3, 1, 0, 0, []),
  (5, .iload_n 3, 1, 0, 0, []),
  (6, .aload_n 0, 1, 0, 0, []),
  (7, .getfield 36, 3, 5, 2, []),
  (10, .if_icmp .ge 28, 3, 21, 0, []),
  (13, .iload_n 3, 1, 0, 0, []),
  (14, .iload_n 1, 1, 0, 0, []),
  (15, .invokestatic 110, 3, 156, 2, []),
  (18, .ifCond .ne 14, 3, 19, 0, []),
  (21, .iload_n 2, 1, 0, 0, []),
  (22, .aload_n 0, 1, 0, 0, []),
  (23, .iload_n 1, 1, 0, 0, []),
  (24, .iload_n 3, 1, 0, 0, []),
  (25, .invokevirtual 113, 3, 78, 2, [5]),
  (28, .invokestatic 84, 3, 1000, 2, []),
  (31, .istore_n 2, 1, 0, 0, []),
  (32, .iinc 3 1, 3, 0, 0, []),
  (35, .goto (-30), 3, 4, 0, []),
  (38, .iload_n 2, 1, 0, 0, []),
  (39, .ireturn, 1, 0, 0, [])]
/-- Plans.costWithNext -/
def pc_78 : List pm_I := [
  (0, .aload_n 0, 1, 0, 0, []),
  (1, .getfield 25, 3, 5, 6, []),
  (4, .iload_n 1, 1, 0, 0, []),
  (5, .invokestatic 75, 3, 255, 1, []),
  (8, .bipush 8, 2, 8, 0, []),
  (10, .imul, 1, 0, 0, []),
  (11, .iload_n 2, 1, 0, 0, []),
  (12, .iadd, 1, 0, 0, []),
  (13, .iaload, 1, 0, 0, []),
  (14, .aload_n 0, 1, 0, 0, []),
  (15, .getfield 22, 3, 5, 5, []),
  (18, .iload_n 1, 1, 0, 0, []),
  (19, .iconst 1, 1, 1, 0, []),
  (20, .iload_n 2, 1, 0, 0, []),
  (21, .ishl, 1, 0, 0, []),
  (22, .ior, 1, 0, 0, []),
  (23, .iaload, 1, 0, 0, []),
  (24, .iadd, 1, 0, 0, []),
  (25, .ireturn, 1, 0, 0, [])]
/-- Plans.debtInOrder -/
def pc_79 : List pm_I := [
  (0, .iconst 0, 1, 0, 0, []),
  (1, .istore_n 2, 1, 0, 0, []),
  (2, .iconst (-1), 1, 1, 1, []),
  (3, .istore_n 3, 1, 0, 0, []),
  (4, .iconst 0, 1, 0, 0, []),
  (5, .istore 4, 2, 0, 0, []),
  (7, .iload 4, 2, 0, 0, []),
  (9, .iload_n 1, 1, 0, 0, []),
  (10, .if_icmp .gt 30, 3, 25, 0, []),
  (13, .iload 4, 2, 0, 0, []),
  (15, .aload_n 0, 1, 0, 0, []),
  (16, .getfield 36, 3, 5, 2, []),
  (19, .if_icmp .ge 21, 3, 25, 0, []),
  (22, .aload_n 0, 1, 0, 0, []),
  (23, .iload_n 2, 1, 0, 0, []),
  (24, .invokevirtual 116, 3, 80, 1, [5]),
  (27, .istore_n 3, 1, 0, 0, []),
  (28, .iload_n 2, 1, 0, 0, []),
  (29, .iconst 1, 1, 1, 0, []),
  (30, .iload_n 3, 1, 0, 0, []),
  (31, .ishl, 1, 0, 0, []),
  (32, .ior, 1, 0, 0, []),
  (33, .istore_n 2, 1, 0, 0, []),
  (34, .iinc 4 1, 3, 0, 0, []),
  (37, .goto (-30), 3, 6, 0, []),
  (40, .iload_n 3, 1, 0, 0, []),
  (41, .ifCond .lt 20, 3, 36, 0, []),
  (44, .iload_n 3, 1, 0, 0, []),
  (45, .aload_n 0, 1, 0, 0, []),
  (46, .getfield 36, 3, 5, 2, []),
  (49, .if_icmp .ge 12, 3, 36, 0, []),
  (52, .aload_n 0, 1, 0, 0, []),
  (53, .getfield 11, 3, 5, 1, []),
  (56, .iload_n 3, 1, 0, 0, []),
  (57, .iaload, 1, 0, 0, []),
  (58, .goto 4, 3, 37, 0, []),
  (61, .iconst (-1), 1, 1, 1, []),
  (62, .ireturn, 1, 0, 0, [])]
/-- Plans.firstOfLeast -/
def pc_80 : List pm_I := [
  (0, .iconst 0, 1, 0, 0, []),
  (1, .istore_n 2, 1, 0, 0, []),
  (2, .iload_n 2, 1, 0, 0, []),
  (3, .aload_n 0, 1, 0, 0, []),
  (4, .getfield 36, 3, 5, 2, []),
  (7, .if_icmp .ge 34, 3, 23, 0, []),
  (10, .iload_n 2, 1, 0, 0, []),
  (11, .iload_n 1, 1, 0, 0, []),
  (12, .invokestatic 110, 3, 156, 2, []),
  (15, .ifCond .ne 20, 3, 21, 0, []),
  (18, .aload_n 0, 1, 0, 0, []),
  (19, .iload_n 1, 1, 0, 0, []),
  (20, .iload_n 2, 1, 0, 0, []),
  (21, .invokevirtual 113, 3, 78, 2, [5]),
  (24, .aload_n 0, 1, 0, 0, []),
  (25, .getfield 22, 3, 5, 5, []),
  (28, .iload_n 1, 1, 0, 0, []),
  (29, .iaload, 1, 0, 0, []),
  (30, .if_icmp .ne 5, 3, 21, 0, []),
  (33, .iload_n 2, 1, 0, 0, []),
  (34, .ireturn, 1, 0, 0, []),
  (35, .iinc 2 1, 3, 0, 0, []),
  (38, .goto (-36), 3, 2, 0, []),
  (41, .iconst 0, 1, 0, 0, []),
  (42, .ireturn, 1, 0, 0, [])]
/-- Spots.init -/
def pc_81 : List pm_I := [
  (0, .aload_n 0, 1, 0, 0, []),
  (1, .invokespecial 3, 3, 1004, 0, []),
  (4, .aload_n 0, 1, 0, 0, []),
  (5, .bipush 10, 2, 10, 0, []),
  (7, .newarray .int, 2, 0, 0, []),
  (9, .putfield 9, 3, 6, 1, [2]),
  (12, .aload_n 0, 1, 0, 0, []),
  (13, .bipush 100, 2, 100, 0, []),
  (15, .newarray .int, 2, 0, 0, []),
  (17, .putfield 15, 3, 6, 2, [2]),
  (20, .aload_n 0, 1, 0, 0, []),
  (21, .bipush 80, 2, 80, 0, []),
  (23, .newarray .int, 2, 0, 0, []),
  (25, .putfield 18, 3, 6, 3, [2]),
  (28, .aload_n 0, 1, 0, 0, []),
  (29, .getfield 15, 3, 6, 2, []),
  (32, .bipush 9, 2, 9, 0, []),
  (34, .invokestatic 21, 3, 247, 2, []),
  (37, .iconst 0, 1, 0, 0, []),
  (38, .istore_n 1, 1, 0, 0, []),
  (39, .iload_n 1, 1, 0, 0, []),
  (40, .bipush 10, 2, 10, 0, []),
  (42, .if_icmp .ge 21, 3, 34, 0, []),
  (45, .aload_n 0, 1, 0, 0, []),
  (46, .getfield 15, 3, 6, 2, []),
  (49, .iload_n 1, 1, 0, 0, []),
  (50, .bipush 10, 2, 10, 0, []),
  (52, .imul, 1, 0, 0, []),
  (53, .iload_n 1, 1, 0, 0, []),
  (54, .iadd, 1, 0, 0, []),
  (55, .iconst 0, 1, 0, 0, []),
  (56, .iastore, 1, 0, 0, []),
  (57, .iinc 1 1, 3, 0, 0, []),
  (60, .goto (-21), 3, 20, 0, []),
  (63, .return_, 1, 0, 0, [])]
/-- Spots.has -/
def pc_82 : List pm_I := [
  (0, .iload_n 1, 1, 0, 0, []),
  (1, .ifCond .lt 15, 3, 8, 0, []),
  (4, .iload_n 1, 1, 0, 0, []),
  (5, .aload_n 0, 1, 0, 0, []),
  (6, .getfield 27, 3, 6, 0, []),
  (9, .if_icmp .ge 7, 3, 8, 0, []),
  (12, .iconst 1, 1, 1, 0, []),
  (13, .goto 4, 3, 9, 0, []),
  (16, .iconst 0, 1, 0, 0, []),
  (17, .ireturn, 1, 0, 0, [])]
/-- Spots.add -/
def pc_83 : List pm_I := [
  (0, .iload_n 1, 1, 0, 0, []),
  (1, .ifCond .lt 18, 3, 9, 0, []),
  (4, .iload_n 1, 1, 0, 0, []),
  (5, .bipush 99, 2, 99, 0, []),
  (7, .if_icmp .gt 12, 3, 9, 0, []),
  (10, .aload_n 0, 1, 0, 0, []),
  (11, .getfield 27, 3, 6, 0, []),
  (14, .bipush 10, 2, 10, 0, []),
  (16, .if_icmp .lt 5, 3, 11, 0, []),
  (19, .iconst (-1), 1, 1, 1, []),
  (20, .ireturn, 1, 0, 0, []),
  (21, .aload_n 0, 1, 0, 0, []),
  (22, .getfield 9, 3, 6, 1, []),
  (25, .aload_n 0, 1, 0, 0, []),
  (26, .getfield 27, 3, 6, 0, []),
  (29, .iload_n 1, 1, 0, 0, []),
  (30, .iastore, 1, 0, 0, []),
  (31, .aload_n 0, 1, 0, 0, []),
  (32, .dup, 1, 0, 0, []),
  (33, .getfield 27, 3, 6, 0, []),
  (36, .iconst 1, 1, 1, 0, []),
  (37, .iadd, 1, 0, 0, []),
  (38, .putfield 27, 3, 6, 0, [0]),
  (41, .aload_n 0, 1, 0, 0, []),
  (42, .getfield 27, 3, 6, 0, []),
  (45, .iconst 1, 1, 1, 0, []),
  (46, .isub, 1, 0, 0, []),
  (47, .ireturn, 1, 0, 0, [])]
/-- Spots.tellMiles -/
def pc_84 : List pm_I := [
  (0, .aload_n 0, 1, 0, 0, []),
  (1, .iload_n 1, 1, 0, 0, []),
  (2, .invokevirtual 31, 3, 82, 1, [6]),
  (5, .ifCond .eq 26, 3, 16, 0, []),
  (8, .aload_n 0, 1, 0, 0, []),
  (9, .iload_n 2, 1, 0, 0, []),
  (10, .invokevirtual 31, 3, 82, 1, [6]),
  (13, .ifCond .eq 18, 3, 16, 0, []),
  (16, .iload_n 1, 1, 0, 0, []),
  (17, .iload_n 2, 1, 0, 0, []),
  (18, .if_icmp .eq 13, 3, 16, 0, []),
  (21, .iload_n 3, 1, 0, 0, []),
  (22, .ifCond .lt 9, 3, 16, 0, []),
  (25, .iload_n 3, 1, 0, 0, []),
  (26, .bipush 99, 2, 99, 0, []),
  (28, .if_icmp .le 5, 3, 18, 0, []),
  (31, .iconst 0, 1, 0, 0, []),
  (32, .ireturn, 1, 0, 0, []),
  (33, .aload_n 0, 1, 0, 0, []),
  (34, .getfield 15, 3, 6, 2, []),
  (37, .iload_n 1, 1, 0, 0, []),
  (38, .bipush 10, 2, 10, 0, []),
  (40, .imul, 1, 0, 0, []),
  (41, .iload_n 2, 1, 0, 0, []),
  (42, .iadd, 1, 0, 0, []),
  (43, .iload_n 3, 1, 0, 0, []),
  (44, .iastore, 1, 0, 0, []),
  (45, .aload_n 0, 1, 0, 0, []),
  (46, .getfield 15, 3, 6, 2, []),
  (49, .iload_n 2, 1, 0, 0, []),
  (50, .bipush 10, 2, 10, 0, []),
  (52, .imul, 1, 0, 0, []),
  (53, .iload_n 1, 1, 0, 0, []),
  (54, .iadd, 1, 0, 0, []),
  (55, .iload_n 3, 1, 0, 0, []),
  (56, .iastore, 1, 0, 0, []),
  (57, .iconst 1, 1, 1, 0, []),
  (58, .ireturn, 1, 0, 0, [])]
/-- Spots.milesBetween -/
def pc_85 : List pm_I := [
  (0, .aload_n 0, 1, 0, 0, []),
  (1, .iload_n 1, 1, 0, 0, []),
  (2, .invokevirtual 31, 3, 82, 1, [6]),
  (5, .ifCond .eq 25, 3, 17, 0, []),
  (8, .aload_n 0, 1, 0, 0, []),
  (9, .iload_n 2, 1, 0, 0, []),
  (10, .invokevirtual 31, 3, 82, 1, [6]),
  (13, .ifCond .eq 17, 3, 17, 0, []),
  (16, .aload_n 0, 1, 0, 0, []),
  (17, .getfield 15, 3, 6, 2, []),
  (20, .iload_n 1, 1, 0, 0, []),
  (21, .bipush 10, 2, 10, 0, []),
  (23, .imul, 1, 0, 0, []),
  (24, .iload_n 2, 1, 0, 0, []),
  (25, .iadd, 1, 0, 0, []),
  (26, .iaload, 1, 0, 0, []),
  (27, .goto 4, 3, 18, 0, []),
  (30, .iconst 0, 1, 0, 0, []),
  (31, .ireturn, 1, 0, 0, [])]
/-- Spots.tellChance -/
def pc_86 : List pm_I := [
  (0, .aload_n 0, 1, 0, 0, []),
  (1, .iload_n 1, 1, 0, 0, []),
  (2, .invokevirtual 31, 3, 82, 1, [6]),
  (5, .ifCond .eq 23, 3, 14, 0, []),
  (8, .iload_n 2, 1, 0, 0, []),
  (9, .ifCond .lt 19, 3, 14, 0, []),
  (12, .iload_n 2, 1, 0, 0, []),
  (13, .bipush 8, 2, 8, 0, []),
  (15, .if_icmp .ge 13, 3, 14, 0, []),
  (18, .iload_n 3, 1, 0, 0, []),
  (19, .ifCond .lt 9, 3, 14, 0, []),
  (22, .iload_n 3, 1, 0, 0, []),
  (23, .bipush 100, 2, 100, 0, []),
  (25, .if_icmp .le 5, 3, 16, 0, []),
  (28, .iconst 0, 1, 0, 0, []),
  (29, .ireturn, 1, 0, 0, []),
  (30, .iconst 0, 1, 0, 0, []),
  (31, .istore 4, 2, 0, 0, []),
  (33, .iconst 0, 1, 0, 0, []),
  (34, .istore 5, 2, 0, 0, []),
  (36, .iload 5, 2, 0, 0, []),
  (38, .aload_n 0, 1, 0, 0, []),
  (39, .getfield 27, 3, 6, 0, []),
  (42, .if_icmp .ge 31, 3, 38, 0, []),
  (45, .iload 4, 2, 0, 0, []),
  (47, .iload 5, 2, 0, 0, []),
  (49, .iload_n 1, 1, 0, 0, []),
  (50, .if_icmp .ne 7, 3, 30, 0, []),
  (53, .iconst 0, 1, 0, 0, []),
  (54, .goto 10, 3, 34, 0, []),
  (57, .aload_n 0, 1, 0, 0, []),
  (58, .iload 5, 2, 0, 0, []),
  (60, .iload_n 2, 1, 0, 0, []),
  (61, .invokevirtual 35, 3, 87, 2, [6]),
  (64, .iadd, 1, 0, 0, []),
  (65, .istore 4, 2, 0, 0, []),
  (67, .iinc 5 1, 3, 0, 0, []),
  (70, .goto (-34), 3, 20, 0, []),
  (73, .iload 4, 2, 0, 0, []),
  (75, .iload_n 3, 1, 0, 0, []),
  (76, .iadd, 1, 0, 0, []),
  (77, .bipush 100, 2, 100, 0, []),
  (79, .if_icmp .le 5, 3, 45, 0, []),
  (82, .iconst 0, 1, 0, 0, []),
  (83, .ireturn, 1, 0, 0, []),
  (84, .aload_n 0, 1, 0, 0, []),
  (85, .getfield 18, 3, 6, 3, []),
  (88, .iload_n 1, 1, 0, 0, []),
  (89, .bipush 8, 2, 8, 0, []),
  (91, .imul, 1, 0, 0, []),
  (92, .iload_n 2, 1, 0, 0, []),
  (93, .iadd, 1, 0, 0, []),
  (94, .iload_n 3, 1, 0, 0, []),
  (95, .iastore, 1, 0, 0, []),
  (96, .iconst 1, 1, 1, 0, []),
  (97, .ireturn, 1, 0, 0, [])]
/-- Spots.chanceAt -/
def pc_87 : List pm_I := [
  (0, .aload_n 0, 1, 0, 0, []),
  (1, .iload_n 1, 1, 0, 0, []),
  (2, .invokevirtual 31, 3, 82, 1, [6]),
  (5, .ifCond .eq 27, 3, 18, 0, []),
  (8, .iload_n 2, 1, 0, 0, []),
  (9, .ifCond .lt 23, 3, 18, 0, []),
  (12, .iload_n 2, 1, 0, 0, []),
  (13, .bipush 8, 2, 8, 0, []),
  (15, .if_icmp .ge 17, 3, 18, 0, []),
  (18, .aload_n 0, 1, 0, 0, []),
  (19, .getfield 18, 3, 6, 3, []),
  (22, .iload_n 1, 1, 0, 0, []),
  (23, .bipush 8, 2, 8, 0, []),
  (25, .imul, 1, 0, 0, []),
  (26, .iload_n 2, 1, 0, 0, []),
  (27, .iadd, 1, 0, 0, []),
  (28, .iaload, 1, 0, 0, []),
  (29, .goto 4, 3, 19, 0, []),
  (32, .iconst 0, 1, 0, 0, []),
  (33, .ireturn, 1, 0, 0, [])]
/-- Spots.copyFrom -/
def pc_88 : List pm_I := [
  (0, .aload_n 0, 1, 0, 0, []),
  (1, .aload_n 1, 1, 0, 0, []),
  (2, .getfield 27, 3, 6, 0, []),
  (5, .putfield 27, 3, 6, 0, [0]),
  (8, .aload_n 1, 1, 0, 0, []),
  (9, .getfield 9, 3, 6, 1, []),
  (12, .aload_n 0, 1, 0, 0, []),
  (13, .getfield 9, 3, 6, 1, []),
  (16, .invokestatic 39, 3, 157, 2, []),
  (19, .aload_n 1, 1, 0, 0, []),
  (20, .getfield 15, 3, 6, 2, []),
  (23, .aload_n 0, 1, 0, 0, []),
  (24, .getfield 15, 3, 6, 2, []),
  (27, .invokestatic 39, 3, 157, 2, []),
  (30, .aload_n 1, 1, 0, 0, []),
  (31, .getfield 18, 3, 6, 3, []),
  (34, .aload_n 0, 1, 0, 0, []),
  (35, .getfield 18, 3, 6, 3, []),
  (38, .invokestatic 39, 3, 157, 2, []),
  (41, .return_, 1, 0, 0, [])]
/-- Sundays.init -/
def pc_89 : List pm_I := [
  (0, .aload_n 0, 1, 0, 0, []),
  (1, .invokespecial 3, 3, 1004, 0, []),
  (4, .aload_n 0, 1, 0, 0, []),
  (5, .bipush 9, 2, 9, 0, []),
  (7, .newarray .int, 2, 0, 0, []),
  (9, .putfield 11, 3, 7, 1, [2]),
  (12, .aload_n 0, 1, 0, 0, []),
  (13, .bipush 30, 2, 30, 0, []),
  (15, .newarray .boolean, 2, 0, 0, []),
  (17, .putfield 17, 3, 7, 2, [2]),
  (20, .aload_n 0, 1, 0, 0, []),
  (21, .bipush 10, 2, 10, 0, []),
  (23, .newarray .int, 2, 0, 0, []),
  (25, .putfield 21, 3, 7, 3, [2]),
  (28, .aload_n 0, 1, 0, 0, []),
  (29, .bipush 10, 2, 10, 0, []),
  (31, .newarray .int, 2, 0, 0, []),
  (33, .putfield 24, 3, 7, 4, [2]),
  (36, .aload_n 0, 1, 0, 0, []),
  (37, .aload_n 1, 1, 0, 0, []),
  (38, .putfield 27, 3, 7, 0, [2]),
  (41, .return_, 1, 0, 0, [])]
/-- Sundays.goBy -/
def pc_90 : List pm_I := [
  (0, .aload_n 0, 1, 0, 0, []),
  (1, .invokevirtual 31, 3, 91, 0, [7]),
  (4, .aload_n 0, 1, 0, 0, []),
  (5, .getfield 27, 3, 7, 0, []),
  (8, .getfield 34, 3, 9, 4, []),
  (11, .iconst 2, 1, 2, 0, []),
  (12, .iaload, 1, 0, 0, []),
  (13, .iconst 1, 1, 1, 0, []),
  (14, .if_icmp .ne 10, 3, 12, 0, []),
  (17, .aload_n 0, 1, 0, 0, []),
  (18, .invokevirtual 39, 3, 96, 0, [7]),
  (21, .goto 4, 3, 13, 0, []),
  (24, .iconst 0, 1, 0, 0, []),
  (25, .istore_n 1, 1, 0, 0, []),
  (26, .iload_n 1, 1, 0, 0, []),
  (27, .aload_n 0, 1, 0, 0, []),
  (28, .invokevirtual 43, 3, 93, 0, [7]),
  (31, .iadd, 1, 0, 0, []),
  (32, .istore_n 1, 1, 0, 0, []),
  (33, .aload_n 0, 1, 0, 0, []),
  (34, .getfield 27, 3, 7, 0, []),
  (37, .dup, 1, 0, 0, []),
  (38, .getfield 46, 3, 9, 1, []),
  (41, .iconst 1, 1, 1, 0, []),
  (42, .iadd, 1, 0, 0, []),
  (43, .putfield 46, 3, 9, 1, [0]),
  (46, .aload_n 0, 1, 0, 0, []),
  (47, .getfield 27, 3, 7, 0, []),
  (50, .getfield 50, 3, 9, 7, []),
  (53, .aload_n 0, 1, 0, 0, []),
  (54, .getfield 27, 3, 7, 0, []),
  (57, .getfield 46, 3, 9, 1, []),
  (60, .aload_n 0, 1, 0, 0, []),
  (61, .getfield 27, 3, 7, 0, []),
  (64, .getfield 34, 3, 9, 4, []),
  (67, .iconst 3, 1, 3, 0, []),
  (68, .iaload, 1, 0, 0, []),
  (69, .aload_n 0, 1, 0, 0, []),
  (70, .getfield 27, 3, 7, 0, []),
  (73, .getfield 34, 3, 9, 4, []),
  (76, .iconst 1, 1, 1, 0, []),
  (77, .iaload, 1, 0, 0, []),
  (78, .invokevirtual 54, 3, 9, 3, [0]),
  (81, .aload_n 0, 1, 0, 0, []),
  (82, .getfield 27, 3, 7, 0, []),
  (85, .getfield 60, 3, 9, 6, []),
  (88, .invokevirtual 64, 3, 63, 0, [4]),
  (91, .iload_n 1, 1, 0, 0, []),
  (92, .ireturn, 1, 0, 0, [])]
/-- Sundays.sendOut -/
def pc_91 : List pm_I := [
  (0, .aload_n 0, 1, 0, 0, []),
  (1, .getfield 27, 3, 7, 0, []),
  (4, .getfield 34, 3, 9, 4, []),
  (7, .iconst 0, 1, 0, 0, []),
  (8, .iaload, 1, 0, 0, []),
  (9, .istore_n 1, 1, 0, 0, []),
  (10, .aload_n 0, 1, 0, 0, []),
  (11, .getfield 27, 3, 7, 0, []),
  (14, .iload_n 1, 1, 0, 0, []),
  (15, .ifCond .le 20, 3, 18, 0, []),
  (18, .aload_n 0, 1, 0, 0, []),
  (19, .getfield 27, 3, 7, 0, []),
  (22, .bipush 100, 2, 100, 0, []),
  (24, .invokevirtual 69, 3, 118, 1, [9]),
  (27, .iload_n 1, 1, 0, 0, []),
  (28, .if_icmp .ge 7, 3, 18, 0, []),
  (31, .iconst 1, 1, 1, 0, []),
  (32, .goto 4, 3, 19, 0, []),
  (35, .iconst 0, 1, 0, 0, []),
  (36, .putfield 73, 3, 9, 3, [1]),
  (39, .iconst 0, 1, 0, 0, []),
  (40, .istore_n 2, 1, 0, 0, []),
  (41, .iload_n 2, 1, 0, 0, []),
  (42, .aload_n 0, 1, 0, 0, []),
  (43, .getfield 27, 3, 7, 0, []),
  (46, .getfield 60, 3, 9, 6, []),
  (49, .getfield 77, 3, 4, 0, []),
  (52, .if_icmp .ge 87, 3, 68, 0, []),
  (55, .aload_n 0, 1, 0, 0, []),
  (56, .getfield 27, 3, 7, 0, []),
  (59, .getfield 60, 3, 9, 6, []),
  (62, .getfield 80, 3, 4, 5, []),
  (65, .iload_n 2, 1, 0, 0, []),
  (66, .aload_n 0, 1, 0, 0, []),
  (67, .getfield 27, 3, 7, 0, []),
  (70, .getfield 60, 3, 9, 6, []),
  (73, .getfield 83, 3, 4, 1, []),
  (76, .iload_n 2, 1, 0, 0, []),
  (77, .iaload, 1, 0, 0, []),
  (78, .iastore, 1, 0, 0, []),
  (79, .aload_n 0, 1, 0, 0, []),
  (80, .getfield 27, 3, 7, 0, []),
  (83, .getfield 73, 3, 9, 3, []),
  (86, .ifCond .ne 47, 3, 66, 0, []),
  (89, .aload_n 0, 1, 0, 0, []),
  (90, .getfield 27, 3, 7, 0, []),
  (93, .getfield 60, 3, 9, 6, []),
  (96, .getfield 86, 3, 4, 4, []),
  (99, .iload_n 2, 1, 0, 0, []),
  (100, .iaload, 1, 0, 0, []),
  (101, .aload_n 0, 1, 0, 0, []),
  (102, .getfield 27, 3, 7, 0, []),
  (105, .getfield 60, 3, 9, 6, []),
  (108, .getfield 83, 3, 4, 1, []),
  (111, .iload_n 2, 1, 0, 0, []),
  (112, .iaload, 1, 0, 0, []),
  (113, .if_icmp .eq 20, 3, 66, 0, []),
  (116, .aload_n 0, 1, 0, 0, []),
  (117, .iload_n 2, 1, 0, 0, []),
  (118, .aload_n 0, 1, 0, 0, []),
  (119, .getfield 27, 3, 7, 0, []),
  (122, .getfield 60, 3, 9, 6, []),
  (125, .getfield 86, 3, 4, 4, []),
  (128, .iload_n 2, 1, 0, 0, []),
  (129, .iaload, 1, 0, 0, []),
  (130, .invokevirtual 89, 3, 92, 2, [7]),
  (133, .iinc 2 1, 3, 0, 0, []),
  (136, .goto (-95), 3, 22, 0, []),
  (139, .return_, 1, 0, 0, [])]
/-- Sundays.sendAway -/
def pc_92 : List pm_I := [
  (0, .aload_n 0, 1, 0, 0, []),
  (1, .getfield 27, 3, 7, 0, []),
  (4, .getfield 93, 3, 9, 5, []),
  (7, .iload_n 2, 1, 0, 0, []),
  (8, .invokevirtual 97, 3, 82, 1, [6]),
  (11, .ifCond .eq 107, 3, 60, 0, []),
  (14, .aload_n 0, 1, 0, 0, []),
  (15, .getfield 27, 3, 7, 0, []),
  (18, .getfield 60, 3, 9, 6, []),
  (21, .getfield 103, 3, 4, 2, []),
  (24, .iload_n 1, 1, 0, 0, []),
  (25, .iaload, 1, 0, 0, []),
  (26, .aload_n 0, 1, 0, 0, []),
  (27, .getfield 27, 3, 7, 0, []),
  (30, .getfield 93, 3, 9, 5, []),
  (33, .getfield 106, 3, 6, 1, []),
  (36, .iload_n 2, 1, 0, 0, []),
  (37, .iaload, 1, 0, 0, []),
  (38, .if_icmp .lt 80, 3, 60, 0, []),
  (41, .aload_n 0, 1, 0, 0, []),
  (42, .getfield 27, 3, 7, 0, []),
  (45, .getfield 60, 3, 9, 6, []),
  (48, .getfield 103, 3, 4, 2, []),
  (51, .iload_n 1, 1, 0, 0, []),
  (52, .dup2, 1, 0, 0, []),
  (53, .iaload, 1, 0, 0, []),
  (54, .aload_n 0, 1, 0, 0, []),
  (55, .getfield 27, 3, 7, 0, []),
  (58, .getfield 93, 3, 9, 5, []),
  (61, .getfield 106, 3, 6, 1, []),
  (64, .iload_n 2, 1, 0, 0, []),
  (65, .iaload, 1, 0, 0, []),
  (66, .isub, 1, 0, 0, []),
  (67, .iastore, 1, 0, 0, []),
  (68, .aload_n 0, 1, 0, 0, []),
  (69, .getfield 27, 3, 7, 0, []),
  (72, .getfield 60, 3, 9, 6, []),
  (75, .getfield 80, 3, 4, 5, []),
  (78, .iload_n 1, 1, 0, 0, []),
  (79, .iload_n 2, 1, 0, 0, []),
  (80, .iastore, 1, 0, 0, []),
  (81, .aload_n 0, 1, 0, 0, []),
  (82, .getfield 27, 3, 7, 0, []),
  (85, .dup, 1, 0, 0, []),
  (86, .getfield 109, 3, 9, 2, []),
  (89, .iconst 2, 1, 2, 0, []),
  (90, .aload_n 0, 1, 0, 0, []),
  (91, .getfield 27, 3, 7, 0, []),
  (94, .getfield 93, 3, 9, 5, []),
  (97, .aload_n 0, 1, 0, 0, []),
  (98, .getfield 27, 3, 7, 0, []),
  (101, .getfield 60, 3, 9, 6, []),
  (104, .getfield 83, 3, 4, 1, []),
  (107, .iload_n 1, 1, 0, 0, []),
  (108, .iaload, 1, 0, 0, []),
  (109, .iload_n 2, 1, 0, 0, []),
  (110, .invokevirtual 112, 3, 85, 2, [6]),
  (113, .imul, 1, 0, 0, []),
  (114, .iadd, 1, 0, 0, []),
  (115, .putfield 109, 3, 9, 2, [0]),
  (118, .return_, 1, 0, 0, [])]
/-- Sundays.payAll -/
def pc_93 : List pm_I := [
  (0, .iconst 0, 1, 0, 0, []),
  (1, .istore_n 1, 1, 0, 0, []),
  (2, .iconst 0, 1, 0, 0, []),
  (3, .istore_n 2, 1, 0, 0, []),
  (4, .iload_n 2, 1, 0, 0, []),
  (5, .aload_n 0, 1, 0, 0, []),
  (6, .getfield 27, 3, 7, 0, []),
  (9, .getfield 50, 3, 9, 7, []),
  (12, .getfield 116, 3, 0, 0, []),
  (15, .if_icmp .ge 136, 3, 77, 0, []),
  (18, .aload_n 0, 1, 0, 0, []),
  (19, .getfield 27, 3, 7, 0, []),
  (22, .getfield 50, 3, 9, 7, []),
  (25, .getfield 117, 3, 0, 1, []),
  (28, .iload_n 2, 1, 0, 0, []),
  (29, .iaload, 1, 0, 0, []),
  (30, .istore_n 3, 1, 0, 0, []),
  (31, .aload_n 0, 1, 0, 0, []),
  (32, .getfield 27, 3, 7, 0, []),
  (35, .getfield 50, 3, 9, 7, []),
  (38, .getfield 120, 3, 0, 3, []),
  (41, .iload_n 2, 1, 0, 0, []),
  (42, .iaload, 1, 0, 0, []),
  (43, .istore 4, 2, 0, 0, []),
  (45, .aload_n 0, 1, 0, 0, []),
  (46, .iload_n 2, 1, 0, 0, []),
  (47, .invokevirtual 123, 3, 94, 1, [7]),
  (50, .ifCond .eq 95, 3, 75, 0, []),
  (53, .aload_n 0, 1, 0, 0, []),
  (54, .getfield 27, 3, 7, 0, []),
  (57, .getfield 60, 3, 9, 6, []),
  (60, .getfield 103, 3, 4, 2, []),
  (63, .iload_n 3, 1, 0, 0, []),
  (64, .iaload, 1, 0, 0, []),
  (65, .iload 4, 2, 0, 0, []),
  (67, .if_icmp .lt 78, 3, 75, 0, []),
  (70, .aload_n 0, 1, 0, 0, []),
  (71, .iload_n 2, 1, 0, 0, []),
  (72, .invokevirtual 126, 3, 95, 1, [7]),
  (75, .ifCond .eq 70, 3, 75, 0, []),
  (78, .aload_n 0, 1, 0, 0, []),
  (79, .getfield 27, 3, 7, 0, []),
  (82, .getfield 60, 3, 9, 6, []),
  (85, .getfield 103, 3, 4, 2, []),
  (88, .iload_n 3, 1, 0, 0, []),
  (89, .dup2, 1, 0, 0, []),
  (90, .iaload, 1, 0, 0, []),
  (91, .iload 4, 2, 0, 0, []),
  (93, .isub, 1, 0, 0, []),
  (94, .iastore, 1, 0, 0, []),
  (95, .aload_n 0, 1, 0, 0, []),
  (96, .getfield 27, 3, 7, 0, []),
  (99, .getfield 60, 3, 9, 6, []),
  (102, .getfield 103, 3, 4, 2, []),
  (105, .aload_n 0, 1, 0, 0, []),
  (106, .getfield 27, 3, 7, 0, []),
  (109, .getfield 50, 3, 9, 7, []),
  (112, .getfield 129, 3, 0, 2, []),
  (115, .iload_n 2, 1, 0, 0, []),
  (116, .iaload, 1, 0, 0, []),
  (117, .dup2, 1, 0, 0, []),
  (118, .iaload, 1, 0, 0, []),
  (119, .iload 4, 2, 0, 0, []),
  (121, .iadd, 1, 0, 0, []),
  (122, .iastore, 1, 0, 0, []),
  (123, .aload_n 0, 1, 0, 0, []),
  (124, .getfield 27, 3, 7, 0, []),
  (127, .getfield 50, 3, 9, 7, []),
  (130, .iload_n 2, 1, 0, 0, []),
  (131, .aload_n 0, 1, 0, 0, []),
  (132, .getfield 27, 3, 7, 0, []),
  (135, .getfield 46, 3, 9, 1, []),
  (138, .iconst 1, 1, 1, 0, []),
  (139, .invokevirtual 132, 3, 4, 3, [0]),
  (142, .iinc 1 1, 3, 0, 0, []),
  (145, .iinc 2 1, 3, 0, 0, []),
  (148, .goto (-144), 3, 4, 0, []),
  (151, .iload_n 1, 1, 0, 0, []),
  (152, .ireturn, 1, 0, 0, [])]
/-- Sundays.bothStandThere -/
def pc_94 : List pm_I := [
  (0, .aload_n 0, 1, 0, 0, []),
  (1, .getfield 27, 3, 7, 0, []),
  (4, .getfield 50, 3, 9, 7, []),
  (7, .getfield 135, 3, 0, 4, []),
  (10, .iload_n 1, 1, 0, 0, []),
  (11, .iaload, 1, 0, 0, []),
  (12, .istore_n 2, 1, 0, 0, []),
  (13, .aload_n 0, 1, 0, 0, []),
  (14, .getfield 27, 3, 7, 0, []),
  (17, .getfield 50, 3, 9, 7, []),
  (20, .iload_n 1, 1, 0, 0, []),
  (21, .invokevirtual 138, 3, 3, 1, [0]),
  (24, .ifCond .eq 61, 3, 41, 0, []),
  (27, .aload_n 0, 1, 0, 0, []),
  (28, .getfield 27, 3, 7, 0, []),
  (31, .getfield 60, 3, 9, 6, []),
  (34, .getfield 80, 3, 4, 5, []),
  (37, .aload_n 0, 1, 0, 0, []),
  (38, .getfield 27, 3, 7, 0, []),
  (41, .getfield 50, 3, 9, 7, []),
  (44, .getfield 117, 3, 0, 1, []),
  (47, .iload_n 1, 1, 0, 0, []),
  (48, .iaload, 1, 0, 0, []),
  (49, .iaload, 1, 0, 0, []),
  (50, .iload_n 2, 1, 0, 0, []),
  (51, .if_icmp .ne 34, 3, 41, 0, []),
  (54, .aload_n 0, 1, 0, 0, []),
  (55, .getfield 27, 3, 7, 0, []),
  (58, .getfield 60, 3, 9, 6, []),
  (61, .getfield 80, 3, 4, 5, []),
  (64, .aload_n 0, 1, 0, 0, []),
  (65, .getfield 27, 3, 7, 0, []),
  (68, .getfield 50, 3, 9, 7, []),
  (71, .getfield 129, 3, 0, 2, []),
  (74, .iload_n 1, 1, 0, 0, []),
  (75, .iaload, 1, 0, 0, []),
  (76, .iaload, 1, 0, 0, []),
  (77, .iload_n 2, 1, 0, 0, []),
  (78, .if_icmp .ne 7, 3, 41, 0, []),
  (81, .iconst 1, 1, 1, 0, []),
  (82, .goto 4, 3, 42, 0, []),
  (85, .iconst 0, 1, 0, 0, []),
  (86, .ireturn, 1, 0, 0, [])]
/-- Sundays.lawLets -/
def pc_95 : List pm_I := [
  (0, .aload_n 0, 1, 0, 0, []),
  (1, .getfield 27, 3, 7, 0, []),
  (4, .getfield 50, 3, 9, 7, []),
  (7, .getfield 117, 3, 0, 1, []),
  (10, .iload_n 1, 1, 0, 0, []),
  (11, .iaload, 1, 0, 0, []),
  (12, .istore_n 2, 1, 0, 0, []),
  (13, .aload_n 0, 1, 0, 0, []),
  (14, .getfield 11, 3, 7, 1, []),
  (17, .iconst 0, 1, 0, 0, []),
  (18, .aload_n 0, 1, 0, 0, []),
  (19, .getfield 27, 3, 7, 0, []),
  (22, .getfield 50, 3, 9, 7, []),
  (25, .getfield 120, 3, 0, 3, []),
  (28, .iload_n 1, 1, 0, 0, []),
  (29, .iaload, 1, 0, 0, []),
  (30, .iastore, 1, 0, 0, []),
  (31, .aload_n 0, 1, 0, 0, []),
  (32, .getfield 11, 3, 7, 1, []),
  (35, .iconst 1, 1, 1, 0, []),
  (36, .aload_n 0, 1, 0, 0, []),
  (37, .getfield 27, 3, 7, 0, []),
  (40, .getfield 46, 3, 9, 1, []),
  (43, .aload_n 0, 1, 0, 0, []),
  (44, .getfield 27, 3, 7, 0, []),
  (47, .getfield 50, 3, 9, 7, []),
  (50, .getfield 141, 3, 0, 5, []),
  (53, .iload_n 1, 1, 0, 0, []),
  (54, .iaload, 1, 0, 0, []),
  (55, .isub, 1, 0, 0, []),
  (56, .iastore, 1, 0, 0, []),
  (57, .aload_n 0, 1, 0, 0, []),
  (58, .getfield 11, 3, 7, 1, []),
  (61, .iconst 2, 1, 2, 0, []),
  (62, .aload_n 0, 1, 0, 0, []),
  (63, .getfield 27, 3, 7, 0, []),
  (66, .getfield 60, 3, 9, 6, []),
  (69, .getfield 103, 3, 4, 2, []),
  (72, .iload_n 2, 1, 0, 0, []),
  (73, .iaload, 1, 0, 0, []),
  (74, .iastore, 1, 0, 0, []),
  (75, .aload_n 0, 1, 0, 0, []),
  (76, .getfield 11, 3, 7, 1, []),
  (79, .iconst 3, 1, 3, 0, []),
  (80, .aload_n 0, 1, 0, 0, []),
  (81, .getfield 27, 3, 7, 0, []),
  (84, .getfield 50, 3, 9, 7, []),
  (87, .getfield 135, 3, 0, 4, []),
  (90, .iload_n 1, 1, 0, 0, []),
  (91, .iaload, 1, 0, 0, []),
  (92, .iastore, 1, 0, 0, []),
  (93, .aload_n 0, 1, 0, 0, []),
  (94, .getfield 11, 3, 7, 1, []),
  (97, .iconst 4, 1, 4, 0, []),
  (98, .aload_n 0, 1, 0, 0, []),
  (99, .getfield 27, 3, 7, 0, []),
  (102, .getfield 60, 3, 9, 6, []),
  (105, .getfield 144, 3, 4, 3, []),
  (108, .iload_n 2, 1, 0, 0, []),
  (109, .iaload, 1, 0, 0, []),
  (110, .iastore, 1, 0, 0, []),
  (111, .aload_n 0, 1, 0, 0, []),
  (112, .getfield 11, 3, 7, 1, []),
  (115, .iconst 5, 1, 5, 0, []),
  (116, .aload_n 0, 1, 0, 0, []),
  (117, .getfield 27, 3, 7, 0, []),
  (120, .getfield 60, 3, 9, 6, []),
  (123, .aload_n 0, 1, 0, 0, []),
  (124, .getfield 27, 3, 7, 0, []),
  (127, .getfield 50, 3, 9, 7, []),
  (130, .getfield 135, 3, 0, 4, []),
  (133, .iload_n 1, 1, 0, 0, []),
  (134, .iaload, 1, 0, 0, []),
  (135, .invokevirtual 147, 3, 64, 1, [4]),
  (138, .iastore, 1, 0, 0, []),
  (139, .aload_n 0, 1, 0, 0, []),
  (140, .getfield 11, 3, 7, 1, []),
  (143, .bipush 6, 2, 6, 0, []),
  (145, .iload_n 2, 1, 0, 0, []),
  (146, .iastore, 1, 0, 0, []),
  (147, .aload_n 0, 1, 0, 0, []),
  (148, .getfield 11, 3, 7, 1, []),
  (151, .bipush 7, 2, 7, 0, []),
  (153, .aload_n 0, 1, 0, 0, []),
  (154, .getfield 27, 3, 7, 0, []),
  (157, .getfield 50, 3, 9, 7, []),
  (160, .getfield 129, 3, 0, 2, []),
  (163, .iload_n 1, 1, 0, 0, []),
  (164, .iaload, 1, 0, 0, []),
  (165, .iastore, 1, 0, 0, []),
  (166, .aload_n 0, 1, 0, 0, []),
  (167, .getfield 11, 3, 7, 1, []),
  (170, .bipush 8, 2, 8, 0, []),
  (172, .aload_n 0, 1, 0, 0, []),
  (173, .getfield 27, 3, 7, 0, []),
  (176, .getfield 46, 3, 9, 1, []),
  (179, .iastore, 1, 0, 0, []),
  (180, .aload_n 0, 1, 0, 0, []),
  (181, .getfield 27, 3, 7, 0, []),
  (184, .getfield 150, 3, 9, 9, []),
  (187, .aload_n 0, 1, 0, 0, []),
  (188, .getfield 11, 3, 7, 1, []),
  (191, .invokevirtual 154, 3, 16, 1, [1]),
  (194, .ireturn, 1, 0, 0, [])]
/-- Sundays.cancelAll -/
def pc_96 : List pm_I := [
  (0, .iconst 0, 1, 0, 0, []),
  (1, .istore_n 1, 1, 0, 0, []),
  (2, .aload_n 0, 1, 0, 0, []),
  (3, .invokevirtual 158, 3, 97, 0, [7]),
  (6, .istore_n 2, 1, 0, 0, []),
  (7, .iconst 0, 1, 0, 0, []),
  (8, .istore_n 3, 1, 0, 0, []),
  (9, .iload_n 3, 1, 0, 0, []),
  (10, .aload_n 0, 1, 0, 0, []),
  (11, .getfield 27, 3, 7, 0, []),
  (14, .getfield 93, 3, 9, 5, []),
  (17, .getfield 161, 3, 6, 0, []),
  (20, .if_icmp .ge 48, 3, 35, 0, []),
  (23, .iconst 0, 1, 0, 0, []),
  (24, .istore 4, 2, 0, 0, []),
  (26, .iload 4, 2, 0, 0, []),
  (28, .bipush 30, 2, 30, 0, []),
  (30, .if_icmp .ge 32, 3, 33, 0, []),
  (33, .iload_n 3, 1, 0, 0, []),
  (34, .iload_n 2, 1, 0, 0, []),
  (35, .invokestatic 162, 3, 156, 2, []),
  (38, .ifCond .eq 24, 3, 33, 0, []),
  (41, .aload_n 0, 1, 0, 0, []),
  (42, .iload_n 3, 1, 0, 0, []),
  (43, .invokevirtual 166, 3, 98, 1, [7]),
  (46, .ifCond .eq 16, 3, 33, 0, []),
  (49, .iload_n 1, 1, 0, 0, []),
  (50, .aload_n 0, 1, 0, 0, []),
  (51, .invokevirtual 169, 3, 103, 0, [7]),
  (54, .iadd, 1, 0, 0, []),
  (55, .istore_n 1, 1, 0, 0, []),
  (56, .iinc 4 1, 3, 0, 0, []),
  (59, .goto (-33), 3, 15, 0, []),
  (62, .iinc 3 1, 3, 0, 0, []),
  (65, .goto (-56), 3, 7, 0, []),
  (68, .iload_n 1, 1, 0, 0, []),
  (69, .ireturn, 1, 0, 0, [])]
/-- Sundays.spotsWithTwoDebts -/
def pc_97 : List pm_I := [
  (0, .iconst 0, 1, 0, 0, []),
  (1, .istore_n 1, 1, 0, 0, []),
  (2, .iconst 0, 1, 0, 0, []),
  (3, .istore_n 2, 1, 0, 0, []),
  (4, .iconst 0, 1, 0, 0, []),
  (5, .istore_n 3, 1, 0, 0, []),
  (6, .iload_n 3, 1, 0, 0, []),
  (7, .aload_n 0, 1, 0, 0, []),
  (8, .getfield 27, 3, 7, 0, []),
  (11, .getfield 50, 3, 9, 7, []),
  (14, .getfield 116, 3, 0, 0, []),
  (17, .if_icmp .ge 45, 3, 37, 0, []),
  (20, .aload_n 0, 1, 0, 0, []),
  (21, .iload_n 3, 1, 0, 0, []),
  (22, .invokevirtual 123, 3, 94, 1, [7]),
  (25, .ifCond .eq 31, 3, 35, 0, []),
  (28, .iconst 1, 1, 1, 0, []),
  (29, .aload_n 0, 1, 0, 0, []),
  (30, .getfield 27, 3, 7, 0, []),
  (33, .getfield 50, 3, 9, 7, []),
  (36, .getfield 135, 3, 0, 4, []),
  (39, .iload_n 3, 1, 0, 0, []),
  (40, .iaload, 1, 0, 0, []),
  (41, .ishl, 1, 0, 0, []),
  (42, .istore 4, 2, 0, 0, []),
  (44, .iload_n 2, 1, 0, 0, []),
  (45, .iload_n 1, 1, 0, 0, []),
  (46, .iload 4, 2, 0, 0, []),
  (48, .iand, 1, 0, 0, []),
  (49, .ior, 1, 0, 0, []),
  (50, .istore_n 2, 1, 0, 0, []),
  (51, .iload_n 1, 1, 0, 0, []),
  (52, .iload 4, 2, 0, 0, []),
  (54, .ior, 1, 0, 0, []),
  (55, .istore_n 1, 1, 0, 0, []),
  (56, .iinc 3 1, 3, 0, 0, []),
  (59, .goto (-53), 3, 6, 0, []),
  (62, .iload_n 2, 1, 0, 0, []),
  (63, .ireturn, 1, 0, 0, [])]
/-- Sundays.findRound -/
def pc_98 : List pm_I := [
  (0, .aload_n 0, 1, 0, 0, []),
  (1, .iload_n 1, 1, 0, 0, []),
  (2, .invokevirtual 172, 3, 99, 1, [7]),
  (5, .bipush 99, 2, 99, 0, []),
  (7, .istore_n 2, 1, 0, 0, []),
  (8, .iconst (-1), 1, 1, 1, []),
  (9, .istore_n 3, 1, 0, 0, []),
  (10, .iconst 0, 1, 0, 0, []),
  (11, .istore 4, 2, 0, 0, []),
  (13, .iload 4, 2, 0, 0, []),
  (15, .aload_n 0, 1, 0, 0, []),
  (16, .getfield 27, 3, 7, 0, []),
  (19, .getfield 50, 3, 9, 7, []),
  (22, .getfield 116, 3, 0, 0, []),
  (25, .if_icmp .ge 65, 3, 46, 0, []),
  (28, .aload_n 0, 1, 0, 0, []),
  (29, .getfield 17, 3, 7, 2, []),
  (32, .iload 4, 2, 0, 0, []),
  (34, .baload, 1, 0, 0, []),
  (35, .ifCond .eq 49, 3, 44, 0, []),
  (38, .iconst 1, 1, 1, 0, []),
  (39, .aload_n 0, 1, 0, 0, []),
  (40, .aload_n 0, 1, 0, 0, []),
  (41, .getfield 27, 3, 7, 0, []),
  (44, .getfield 50, 3, 9, 7, []),
  (47, .getfield 129, 3, 0, 2, []),
  (50, .iload 4, 2, 0, 0, []),
  (52, .iaload, 1, 0, 0, []),
  (53, .aload_n 0, 1, 0, 0, []),
  (54, .getfield 27, 3, 7, 0, []),
  (57, .getfield 50, 3, 9, 7, []),
  (60, .getfield 117, 3, 0, 1, []),
  (63, .iload 4, 2, 0, 0, []),
  (65, .iaload, 1, 0, 0, []),
  (66, .invokevirtual 176, 3, 100, 2, [7]),
  (69, .iadd, 1, 0, 0, []),
  (70, .istore 5, 2, 0, 0, []),
  (72, .iload 5, 2, 0, 0, []),
  (74, .iload_n 2, 1, 0, 0, []),
  (75, .if_icmp .ge 9, 3, 44, 0, []),
  (78, .iload 5, 2, 0, 0, []),
  (80, .istore_n 2, 1, 0, 0, []),
  (81, .iload 4, 2, 0, 0, []),
  (83, .istore_n 3, 1, 0, 0, []),
  (84, .iinc 4 1, 3, 0, 0, []),
  (87, .goto (-74), 3, 9, 0, []),
  (90, .iload_n 3, 1, 0, 0, []),
  (91, .iconst (-1), 1, 1, 1, []),
  (92, .if_icmp .ne 5, 3, 51, 0, []),
  (95, .iconst 0, 1, 0, 0, []),
  (96, .ireturn, 1, 0, 0, []),
  (97, .aload_n 0, 1, 0, 0, []),
  (98, .iload_n 3, 1, 0, 0, []),
  (99, .iload_n 2, 1, 0, 0, []),
  (100, .invokevirtual 179, 3, 101, 2, [7]),
  (103, .iconst 1, 1, 1, 0, []),
  (104, .ireturn, 1, 0, 0, [])]
/-- Sundays.noteWhoOwes -/
def pc_99 : List pm_I := [
  (0, .aload_n 0, 1, 0, 0, []),
  (1, .getfield 21, 3, 7, 3, []),
  (4, .iconst 0, 1, 0, 0, []),
  (5, .invokestatic 182, 3, 247, 2, []),
  (8, .iconst 0, 1, 0, 0, []),
  (9, .istore_n 2, 1, 0, 0, []),
  (10, .iload_n 2, 1, 0, 0, []),
  (11, .aload_n 0, 1, 0, 0, []),
  (12, .getfield 27, 3, 7, 0, []),
  (15, .getfield 50, 3, 9, 7, []),
  (18, .getfield 116, 3, 0, 0, []),
  (21, .if_icmp .ge 87, 3, 58, 0, []),
  (24, .aload_n 0, 1, 0, 0, []),
  (25, .getfield 17, 3, 7, 2, []),
  (28, .iload_n 2, 1, 0, 0, []),
  (29, .aload_n 0, 1, 0, 0, []),
  (30, .getfield 27, 3, 7, 0, []),
  (33, .getfield 50, 3, 9, 7, []),
  (36, .getfield 135, 3, 0, 4, []),
  (39, .iload_n 2, 1, 0, 0, []),
  (40, .iaload, 1, 0, 0, []),
  (41, .iload_n 1, 1, 0, 0, []),
  (42, .if_icmp .ne 15, 3, 29, 0, []),
  (45, .aload_n 0, 1, 0, 0, []),
  (46, .iload_n 2, 1, 0, 0, []),
  (47, .invokevirtual 123, 3, 94, 1, [7]),
  (50, .ifCond .eq 7, 3, 29, 0, []),
  (53, .iconst 1, 1, 1, 0, []),
  (54, .goto 4, 3, 30, 0, []),
  (57, .iconst 0, 1, 0, 0, []),
  (58, .bastore, 1, 0, 0, []),
  (59, .aload_n 0, 1, 0, 0, []),
  (60, .getfield 17, 3, 7, 2, []),
  (63, .iload_n 2, 1, 0, 0, []),
  (64, .baload, 1, 0, 0, []),
  (65, .ifCond .eq 37, 3, 56, 0, []),
  (68, .aload_n 0, 1, 0, 0, []),
  (69, .getfield 21, 3, 7, 3, []),
  (72, .aload_n 0, 1, 0, 0, []),
  (73, .getfield 27, 3, 7, 0, []),
  (76, .getfield 50, 3, 9, 7, []),
  (79, .getfield 117, 3, 0, 1, []),
  (82, .iload_n 2, 1, 0, 0, []),
  (83, .iaload, 1, 0, 0, []),
  (84, .dup2, 1, 0, 0, []),
  (85, .iaload, 1, 0, 0, []),
  (86, .iconst 1, 1, 1, 0, []),
  (87, .aload_n 0, 1, 0, 0, []),
  (88, .getfield 27, 3, 7, 0, []),
  (91, .getfield 50, 3, 9, 7, []),
  (94, .getfield 129, 3, 0, 2, []),
  (97, .iload_n 2, 1, 0, 0, []),
  (98, .iaload, 1, 0, 0, []),
  (99, .ishl, 1, 0, 0, []),
  (100, .ior, 1, 0, 0, []),
  (101, .iastore, 1, 0, 0, []),
  (102, .iinc 2 1, 3, 0, 0, []),
  (105, .goto (-95), 3, 6, 0, []),
  (108, .return_, 1, 0, 0, [])]
/-- Sundays.stepsBetween -/
def pc_100 : List pm_I := [
  (0, .iconst 1, 1, 1, 0, []),
  (1, .iload_n 1, 1, 0, 0, []),
  (2, .ishl, 1, 0, 0, []),
  (3, .istore_n 3, 1, 0, 0, []),
  (4, .iconst 0, 1, 0, 0, []),
  (5, .istore 4, 2, 0, 0, []),
  (7, .iload 4, 2, 0, 0, []),
  (9, .bipush 10, 2, 10, 0, []),
  (11, .if_icmp .ge 84, 3, 49, 0, []),
  (14, .iload_n 2, 1, 0, 0, []),
  (15, .iload_n 3, 1, 0, 0, []),
  (16, .invokestatic 162, 3, 156, 2, []),
  (19, .ifCond .eq 6, 3, 15, 0, []),
  (22, .iload 4, 2, 0, 0, []),
  (24, .ireturn, 1, 0, 0, []),
  (25, .iload_n 3, 1, 0, 0, []),
  (26, .istore 5, 2, 0, 0, []),
  (28, .iconst 0, 1, 0, 0, []),
  (29, .istore 6, 2, 0, 0, []),
  (31, .iload 6, 2, 0, 0, []),
  (33, .aload_n 0, 1, 0, 0, []),
  (34, .getfield 27, 3, 7, 0, []),
  (37, .getfield 60, 3, 9, 6, []),
  (40, .getfield 77, 3, 4, 0, []),
  (43, .if_icmp .ge 34, 3, 40, 0, []),
  (46, .iload 5, 2, 0, 0, []),
  (48, .iload 6, 2, 0, 0, []),
  (50, .iload_n 3, 1, 0, 0, []),
  (51, .invokestatic 162, 3, 156, 2, []),
  (54, .ifCond .eq 13, 3, 35, 0, []),
  (57, .aload_n 0, 1, 0, 0, []),
  (58, .getfield 21, 3, 7, 3, []),
  (61, .iload 6, 2, 0, 0, []),
  (63, .iaload, 1, 0, 0, []),
  (64, .goto 4, 3, 36, 0, []),
  (67, .iconst 0, 1, 0, 0, []),
  (68, .ior, 1, 0, 0, []),
  (69, .istore 5, 2, 0, 0, []),
  (71, .iinc 6 1, 3, 0, 0, []),
  (74, .goto (-43), 3, 19, 0, []),
  (77, .iload 5, 2, 0, 0, []),
  (79, .iload_n 3, 1, 0, 0, []),
  (80, .if_icmp .ne 6, 3, 45, 0, []),
  (83, .bipush 99, 2, 99, 0, []),
  (85, .ireturn, 1, 0, 0, []),
  (86, .iload 5, 2, 0, 0, []),
  (88, .istore_n 3, 1, 0, 0, []),
  (89, .iinc 4 1, 3, 0, 0, []),
  (92, .goto (-85), 3, 6, 0, []),
  (95, .bipush 99, 2, 99, 0, []),
  (97, .ireturn, 1, 0, 0, [])]
/-- Sundays.traceRound -/
def pc_101 : List pm_I := [
  (0, .aload_n 0, 1, 0, 0, []),
  (1, .getfield 24, 3, 7, 4, []),
  (4, .iconst 0, 1, 0, 0, []),
  (5, .iload_n 1, 1, 0, 0, []),
  (6, .iastore, 1, 0, 0, []),
  (7, .aload_n 0, 1, 0, 0, []),
  (8, .iconst 1, 1, 1, 0, []),
  (9, .putfield 188, 3, 7, 5, [0]),
  (12, .aload_n 0, 1, 0, 0, []),
  (13, .getfield 27, 3, 7, 0, []),
  (16, .getfield 50, 3, 9, 7, []),
  (19, .getfield 117, 3, 0, 1, []),
  (22, .iload_n 1, 1, 0, 0, []),
  (23, .iaload, 1, 0, 0, []),
  (24, .istore_n 3, 1, 0, 0, []),
  (25, .aload_n 0, 1, 0, 0, []),
  (26, .getfield 27, 3, 7, 0, []),
  (29, .getfield 50, 3, 9, 7, []),
  (32, .getfield 129, 3, 0, 2, []),
  (35, .iload_n 1, 1, 0, 0, []),
  (36, .iaload, 1, 0, 0, []),
  (37, .istore 4, 2, 0, 0, []),
  (39, .iload_n 2, 1, 0, 0, []),
  (40, .iconst 1, 1, 1, 0, []),
  (41, .isub, 1, 0, 0, []),
  (42, .istore 5, 2, 0, 0, []),
  (44, .iload 5, 2, 0, 0, []),
  (46, .ifCond .le 77, 3, 67, 0, []),
  (49, .aload_n 0, 1, 0, 0, []),
  (50, .getfield 188, 3, 7, 5, []),
  (53, .aload_n 0, 1, 0, 0, []),
  (54, .getfield 24, 3, 7, 4, []),
  (57, .arraylength, 1, 0, 0, []),
  (58, .if_icmp .ge 65, 3, 67, 0, []),
  (61, .aload_n 0, 1, 0, 0, []),
  (62, .iload 4, 2, 0, 0, []),
  (64, .iload_n 3, 1, 0, 0, []),
  (65, .iload 5, 2, 0, 0, []),
  (67, .iconst 1, 1, 1, 0, []),
  (68, .isub, 1, 0, 0, []),
  (69, .invokevirtual 191, 3, 102, 3, [7]),
  (72, .istore 6, 2, 0, 0, []),
  (74, .iload 6, 2, 0, 0, []),
  (76, .iconst (-1), 1, 1, 1, []),
  (77, .if_icmp .ne 4, 3, 46, 0, []),
  (80, .return_, 1, 0, 0, []),
  (81, .aload_n 0, 1, 0, 0, []),
  (82, .getfield 24, 3, 7, 4, []),
  (85, .aload_n 0, 1, 0, 0, []),
  (86, .getfield 188, 3, 7, 5, []),
  (89, .iload 6, 2, 0, 0, []),
  (91, .iastore, 1, 0, 0, []),
  (92, .aload_n 0, 1, 0, 0, []),
  (93, .dup, 1, 0, 0, []),
  (94, .getfield 188, 3, 7, 5, []),
  (97, .iconst 1, 1, 1, 0, []),
  (98, .iadd, 1, 0, 0, []),
  (99, .putfield 188, 3, 7, 5, [0]),
  (102, .aload_n 0, 1, 0, 0, []),
  (103, .getfield 27, 3, 7, 0, []),
  (106, .getfield 50, 3, 9, 7, []),
  (109, .getfield 129, 3, 0, 2, []),
  (112, .iload 6, 2, 0, 0, []),
  (114, .iaload, 1, 0, 0, []),
  (115, .istore 4, 2, 0, 0, []),
  (117, .iinc 5 (-1), 3, 0, 0, []),
  (120, .goto (-76), 3, 26, 0, []),
  (123, .return_, 1, 0, 0, [])]
/-- Sundays.leastDebtTowards -/
def pc_102 : List pm_I := [
  (0, .iconst 0, 1, 0, 0, []),
  (1, .istore 4, 2, 0, 0, []),
  (3, .iload 4, 2, 0, 0, []),
  (5, .aload_n 0, 1, 0, 0, []),
  (6, .getfield 27, 3, 7, 0, []),
  (9, .getfield 50, 3, 9, 7, []),
  (12, .getfield 116, 3, 0, 0, []),
  (15, .if_icmp .ge 73, 3, 42, 0, []),
  (18, .aload_n 0, 1, 0, 0, []),
  (19, .getfield 17, 3, 7, 2, []),
  (22, .iload 4, 2, 0, 0, []),
  (24, .baload, 1, 0, 0, []),
  (25, .ifCond .eq 24, 3, 23, 0, []),
  (28, .aload_n 0, 1, 0, 0, []),
  (29, .getfield 27, 3, 7, 0, []),
  (32, .getfield 50, 3, 9, 7, []),
  (35, .getfield 117, 3, 0, 1, []),
  (38, .iload 4, 2, 0, 0, []),
  (40, .iaload, 1, 0, 0, []),
  (41, .iload_n 1, 1, 0, 0, []),
  (42, .if_icmp .ne 7, 3, 23, 0, []),
  (45, .iconst 1, 1, 1, 0, []),
  (46, .goto 4, 3, 24, 0, []),
  (49, .iconst 0, 1, 0, 0, []),
  (50, .istore 5, 2, 0, 0, []),
  (52, .iload 5, 2, 0, 0, []),
  (54, .ifCond .eq 28, 3, 40, 0, []),
  (57, .aload_n 0, 1, 0, 0, []),
  (58, .aload_n 0, 1, 0, 0, []),
  (59, .getfield 27, 3, 7, 0, []),
  (62, .getfield 50, 3, 9, 7, []),
  (65, .getfield 129, 3, 0, 2, []),
  (68, .iload 4, 2, 0, 0, []),
  (70, .iaload, 1, 0, 0, []),
  (71, .iload_n 2, 1, 0, 0, []),
  (72, .invokevirtual 176, 3, 100, 2, [7]),
  (75, .iload_n 3, 1, 0, 0, []),
  (76, .if_icmp .ne 6, 3, 40, 0, []),
  (79, .iload 4, 2, 0, 0, []),
  (81, .ireturn, 1, 0, 0, []),
  (82, .iinc 4 1, 3, 0, 0, []),
  (85, .goto (-82), 3, 2, 0, []),
  (88, .iconst (-1), 1, 1, 1, []),
  (89, .ireturn, 1, 0, 0, [])]
/-- Sundays.cancelRound -/
def pc_103 : List pm_I := [
  (0, .ldc 197, 2, 2147483647, 0, []),
  (2, .istore_n 1, 1, 0, 0, []),
  (3, .iconst 0, 1, 0, 0, []),
  (4, .istore_n 2, 1, 0, 0, []),
  (5, .iload_n 2, 1, 0, 0, []),
  (6, .aload_n 0, 1, 0, 0, []),
  (7, .getfield 188, 3, 7, 5, []),
  (10, .if_icmp .ge 31, 3, 22, 0, []),
  (13, .iload_n 1, 1, 0, 0, []),
  (14, .aload_n 0, 1, 0, 0, []),
  (15, .getfield 27, 3, 7, 0, []),
  (18, .getfield 50, 3, 9, 7, []),
  (21, .getfield 120, 3, 0, 3, []),
  (24, .aload_n 0, 1, 0, 0, []),
  (25, .getfield 24, 3, 7, 4, []),
  (28, .iload_n 2, 1, 0, 0, []),
  (29, .iaload, 1, 0, 0, []),
  (30, .iaload, 1, 0, 0, []),
  (31, .invokestatic 198, 3, 1000, 2, []),
  (34, .istore_n 1, 1, 0, 0, []),
  (35, .iinc 2 1, 3, 0, 0, []),
  (38, .goto (-33), 3, 4, 0, []),
  (41, .iconst 0, 1, 0, 0, []),
  (42, .istore_n 2, 1, 0, 0, []),
  (43, .iconst 0, 1, 0, 0, []),
  (44, .istore_n 3, 1, 0, 0, []),
  (45, .iload_n 3, 1, 0, 0, []),
  (46, .aload_n 0, 1, 0, 0, []),
  (47, .getfield 188, 3, 7, 5, []),
  (50, .if_icmp .ge 73, 3, 64, 0, []),
  (53, .aload_n 0, 1, 0, 0, []),
  (54, .getfield 24, 3, 7, 4, []),
  (57, .iload_n 3, 1, 0, 0, []),
  (58, .iaload, 1, 0, 0, []),
  (59, .istore 4, 2, 0, 0, []),
  (61, .aload_n 0, 1, 0, 0, []),
  (62, .getfield 27, 3, 7, 0, []),
  (65, .getfield 50, 3, 9, 7, []),
  (68, .getfield 120, 3, 0, 3, []),
  (71, .iload 4, 2, 0, 0, []),
  (73, .dup2, 1, 0, 0, []),
  (74, .iaload, 1, 0, 0, []),
  (75, .iload_n 1, 1, 0, 0, []),
  (76, .isub, 1, 0, 0, []),
  (77, .iastore, 1, 0, 0, []),
  (78, .aload_n 0, 1, 0, 0, []),
  (79, .getfield 27, 3, 7, 0, []),
  (82, .getfield 50, 3, 9, 7, []),
  (85, .getfield 120, 3, 0, 3, []),
  (88, .iload 4, 2, 0, 0, []),
  (90, .iaload, 1, 0, 0, []),
  (91, .ifCond .ne 26, 3, 62, 0, []),
  (94, .aload_n 0, 1, 0, 0, []),
  (95, .getfield 27, 3, 7, 0, []),
  (98, .getfield 50, 3, 9, 7, []),
  (101, .iload 4, 2, 0, 0, []),
  (103, .aload_n 0, 1, 0, 0, []),
  (104, .getfield 27, 3, 7, 0, []),
  (107, .getfield 46, 3, 9, 1, []),
  (110, .iconst 2, 1, 2, 0, []),
  (111, .invokevirtual 132, 3, 4, 3, [0]),
  (114, .iinc 2 1, 3, 0, 0, []),
  (117, .iinc 3 1, 3, 0, 0, []),
  (120, .goto (-75), 3, 26, 0, []),
  (123, .iload_n 2, 1, 0, 0, []),
  (124, .ireturn, 1, 0, 0, [])]
/-- Tours.init -/
def pc_104 : List pm_I := [
  (0, .aload_n 0, 1, 0, 0, []),
  (1, .invokespecial 3, 3, 1004, 0, []),
  (4, .aload_n 0, 1, 0, 0, []),
  (5, .bipush 9, 2, 9, 0, []),
  (7, .newarray .int, 2, 0, 0, []),
  (9, .putfield 11, 3, 8, 2, [2]),
  (12, .aload_n 0, 1, 0, 0, []),
  (13, .bipush 81, 2, 81, 0, []),
  (15, .newarray .int, 2, 0, 0, []),
  (17, .putfield 15, 3, 8, 3, [2]),
  (20, .aload_n 0, 1, 0, 0, []),
  (21, .bipush 9, 2, 9, 0, []),
  (23, .newarray .int, 2, 0, 0, []),
  (25, .putfield 18, 3, 8, 4, [2]),
  (28, .aload_n 0, 1, 0, 0, []),
  (29, .sipush 4608, 3, 4608, 0, []),
  (32, .newarray .int, 2, 0, 0, []),
  (34, .putfield 21, 3, 8, 5, [2]),
  (37, .aload_n 0, 1, 0, 0, []),
  (38, .aload_n 1, 1, 0, 0, []),
  (39, .putfield 24, 3, 8, 0, [2]),
  (42, .return_, 1, 0, 0, [])]
/-- Tours.prepare -/
def pc_105 : List pm_I := [
  (0, .aload_n 0, 1, 0, 0, []),
  (1, .iconst 0, 1, 0, 0, []),
  (2, .putfield 28, 3, 8, 1, [0]),
  (5, .iconst 0, 1, 0, 0, []),
  (6, .istore_n 3, 1, 0, 0, []),
  (7, .iload_n 3, 1, 0, 0, []),
  (8, .aload_n 0, 1, 0, 0, []),
  (9, .getfield 24, 3, 8, 0, []),
  (12, .getfield 32, 3, 9, 5, []),
  (15, .getfield 38, 3, 6, 0, []),
  (18, .if_icmp .ge 51, 3, 36, 0, []),
  (21, .iload_n 3, 1, 0, 0, []),
  (22, .iload_n 1, 1, 0, 0, []),
  (23, .if_icmp .eq 40, 3, 34, 0, []),
  (26, .iload_n 3, 1, 0, 0, []),
  (27, .iload_n 2, 1, 0, 0, []),
  (28, .invokestatic 43, 3, 156, 2, []),
  (31, .ifCond .eq 32, 3, 34, 0, []),
  (34, .aload_n 0, 1, 0, 0, []),
  (35, .getfield 28, 3, 8, 1, []),
  (38, .bipush 9, 2, 9, 0, []),
  (40, .if_icmp .ge 23, 3, 34, 0, []),
  (43, .aload_n 0, 1, 0, 0, []),
  (44, .getfield 11, 3, 8, 2, []),
  (47, .aload_n 0, 1, 0, 0, []),
  (48, .getfield 28, 3, 8, 1, []),
  (51, .iload_n 3, 1, 0, 0, []),
  (52, .iastore, 1, 0, 0, []),
  (53, .aload_n 0, 1, 0, 0, []),
  (54, .dup, 1, 0, 0, []),
  (55, .getfield 28, 3, 8, 1, []),
  (58, .iconst 1, 1, 1, 0, []),
  (59, .iadd, 1, 0, 0, []),
  (60, .putfield 28, 3, 8, 1, [0]),
  (63, .iinc 3 1, 3, 0, 0, []),
  (66, .goto (-59), 3, 5, 0, []),
  (69, .aload_n 0, 1, 0, 0, []),
  (70, .iload_n 1, 1, 0, 0, []),
  (71, .invokevirtual 47, 3, 106, 1, [8]),
  (74, .iconst 1, 1, 1, 0, []),
  (75, .istore_n 3, 1, 0, 0, []),
  (76, .iload_n 3, 1, 0, 0, []),
  (77, .iconst 1, 1, 1, 0, []),
  (78, .aload_n 0, 1, 0, 0, []),
  (79, .getfield 28, 3, 8, 1, []),
  (82, .ishl, 1, 0, 0, []),
  (83, .if_icmp .ge 62, 3, 79, 0, []),
  (86, .iconst 0, 1, 0, 0, []),
  (87, .istore 4, 2, 0, 0, []),
  (89, .iload 4, 2, 0, 0, []),
  (91, .aload_n 0, 1, 0, 0, []),
  (92, .getfield 28, 3, 8, 1, []),
  (95, .if_icmp .ge 44, 3, 77, 0, []),
  (98, .iload 4, 2, 0, 0, []),
  (100, .iload_n 3, 1, 0, 0, []),
  (101, .invokestatic 43, 3, 156, 2, []),
  (104, .ifCond .eq 29, 3, 75, 0, []),
  (107, .aload_n 0, 1, 0, 0, []),
  (108, .getfield 21, 3, 8, 5, []),
  (111, .iload_n 3, 1, 0, 0, []),
  (112, .bipush 9, 2, 9, 0, []),
  (114, .imul, 1, 0, 0, []),
  (115, .iload 4, 2, 0, 0, []),
  (117, .iadd, 1, 0, 0, []),
  (118, .aload_n 0, 1, 0, 0, []),
  (119, .iload 4, 2, 0, 0, []),
  (121, .iload_n 3, 1, 0, 0, []),
  (122, .iconst 1, 1, 1, 0, []),
  (123, .iload 4, 2, 0, 0, []),
  (125, .ishl, 1, 0, 0, []),
  (126, .iconst (-1), 1, 1, 1, []),
  (127, .ixor, 1, 0, 0, []),
  (128, .iand, 1, 0, 0, []),
  (129, .invokevirtual 51, 3, 107, 2, [8]),
  (132, .iastore, 1, 0, 0, []),
  (133, .iinc 4 1, 3, 0, 0, []),
  (136, .goto (-47), 3, 49, 0, []),
  (139, .iinc 3 1, 3, 0, 0, []),
  (142, .goto (-66), 3, 41, 0, []),
  (145, .return_, 1, 0, 0, [])]
/-- Tours.noteLegs -/
def pc_106 : List pm_I := [
  (0, .iconst 0, 1, 0, 0, []),
  (1, .istore_n 2, 1, 0, 0, []),
  (2, .iload_n 2, 1, 0, 0, []),
  (3, .aload_n 0, 1, 0, 0, []),
  (4, .getfield 28, 3, 8, 1, []),
  (7, .if_icmp .ge 81, 3, 49, 0, []),
  (10, .aload_n 0, 1, 0, 0, []),
  (11, .getfield 18, 3, 8, 4, []),
  (14, .iload_n 2, 1, 0, 0, []),
  (15, .aload_n 0, 1, 0, 0, []),
  (16, .getfield 24, 3, 8, 0, []),
  (19, .getfield 32, 3, 9, 5, []),
  (22, .iload_n 1, 1, 0, 0, []),
  (23, .aload_n 0, 1, 0, 0, []),
  (24, .getfield 11, 3, 8, 2, []),
  (27, .iload_n 2, 1, 0, 0, []),
  (28, .iaload, 1, 0, 0, []),
  (29, .invokevirtual 55, 3, 85, 2, [6]),
  (32, .iastore, 1, 0, 0, []),
  (33, .iconst 0, 1, 0, 0, []),
  (34, .istore_n 3, 1, 0, 0, []),
  (35, .iload_n 3, 1, 0, 0, []),
  (36, .aload_n 0, 1, 0, 0, []),
  (37, .getfield 28, 3, 8, 1, []),
  (40, .if_icmp .ge 42, 3, 47, 0, []),
  (43, .aload_n 0, 1, 0, 0, []),
  (44, .getfield 15, 3, 8, 3, []),
  (47, .iload_n 2, 1, 0, 0, []),
  (48, .bipush 9, 2, 9, 0, []),
  (50, .imul, 1, 0, 0, []),
  (51, .iload_n 3, 1, 0, 0, []),
  (52, .iadd, 1, 0, 0, []),
  (53, .aload_n 0, 1, 0, 0, []),
  (54, .getfield 24, 3, 8, 0, []),
  (57, .getfield 32, 3, 9, 5, []),
  (60, .aload_n 0, 1, 0, 0, []),
  (61, .getfield 11, 3, 8, 2, []),
  (64, .iload_n 2, 1, 0, 0, []),
  (65, .iaload, 1, 0, 0, []),
  (66, .aload_n 0, 1, 0, 0, []),
  (67, .getfield 11, 3, 8, 2, []),
  (70, .iload_n 3, 1, 0, 0, []),
  (71, .iaload, 1, 0, 0, []),
  (72, .invokevirtual 55, 3, 85, 2, [6]),
  (75, .iastore, 1, 0, 0, []),
  (76, .iinc 3 1, 3, 0, 0, []),
  (79, .goto (-44), 3, 21, 0, []),
  (82, .iinc 2 1, 3, 0, 0, []),
  (85, .goto (-83), 3, 2, 0, []),
  (88, .return_, 1, 0, 0, [])]
/-- Tours.fewestTo -/
def pc_107 : List pm_I := [
  (0, .iload_n 2, 1, 0, 0, []),
  (1, .ifCond .ne 10, 3, 7, 0, []),
  (4, .aload_n 0, 1, 0, 0, []),
  (5, .getfield 18, 3, 8, 4, []),
  (8, .iload_n 1, 1, 0, 0, []),
  (9, .iaload, 1, 0, 0, []),
  (10, .ireturn, 1, 0, 0, []),
  (11, .ldc 60, 2, 2147483647, 0, []),
  (13, .istore_n 3, 1, 0, 0, []),
  (14, .iconst 0, 1, 0, 0, []),
  (15, .istore 4, 2, 0, 0, []),
  (17, .iload 4, 2, 0, 0, []),
  (19, .aload_n 0, 1, 0, 0, []),
  (20, .getfield 28, 3, 8, 1, []),
  (23, .if_icmp .ge 49, 3, 44, 0, []),
  (26, .iload_n 2, 1, 0, 0, []),
  (27, .iload 4, 2, 0, 0, []),
  (29, .ishr, 1, 0, 0, []),
  (30, .iconst 1, 1, 1, 0, []),
  (31, .iand, 1, 0, 0, []),
  (32, .iconst 1, 1, 1, 0, []),
  (33, .if_icmp .ne 33, 3, 42, 0, []),
  (36, .iload_n 3, 1, 0, 0, []),
  (37, .aload_n 0, 1, 0, 0, []),
  (38, .getfield 21, 3, 8, 5, []),
  (41, .iload_n 2, 1, 0, 0, []),
  (42, .bipush 9, 2, 9, 0, []),
  (44, .imul, 1, 0, 0, []),
  (45, .iload 4, 2, 0, 0, []),
  (47, .iadd, 1, 0, 0, []),
  (48, .iaload, 1, 0, 0, []),
  (49, .aload_n 0, 1, 0, 0, []),
  (50, .getfield 15, 3, 8, 3, []),
  (53, .iload_n 1, 1, 0, 0, []),
  (54, .bipush 9, 2, 9, 0, []),
  (56, .imul, 1, 0, 0, []),
  (57, .iload 4, 2, 0, 0, []),
  (59, .iadd, 1, 0, 0, []),
  (60, .iaload, 1, 0, 0, []),
  (61, .iadd, 1, 0, 0, []),
  (62, .invokestatic 61, 3, 1000, 2, []),
  (65, .istore_n 3, 1, 0, 0, []),
  (66, .iinc 4 1, 3, 0, 0, []),
  (69, .goto (-52), 3, 11, 0, []),
  (72, .iload_n 3, 1, 0, 0, []),
  (73, .ireturn, 1, 0, 0, [])]
/-- Tours.fewestMiles -/
def pc_108 : List pm_I := [
  (0, .iconst 0, 1, 0, 0, []),
  (1, .istore_n 2, 1, 0, 0, []),
  (2, .iconst 0, 1, 0, 0, []),
  (3, .istore_n 3, 1, 0, 0, []),
  (4, .iload_n 3, 1, 0, 0, []),
  (5, .aload_n 0, 1, 0, 0, []),
  (6, .getfield 28, 3, 8, 1, []),
  (9, .if_icmp .ge 32, 3, 25, 0, []),
  (12, .iload_n 2, 1, 0, 0, []),
  (13, .aload_n 0, 1, 0, 0, []),
  (14, .getfield 11, 3, 8, 2, []),
  (17, .iload_n 3, 1, 0, 0, []),
  (18, .iaload, 1, 0, 0, []),
  (19, .iload_n 1, 1, 0, 0, []),
  (20, .invokestatic 43, 3, 156, 2, []),
  (23, .ifCond .eq 9, 3, 20, 0, []),
  (26, .iconst 1, 1, 1, 0, []),
  (27, .iload_n 3, 1, 0, 0, []),
  (28, .ishl, 1, 0, 0, []),
  (29, .goto 4, 3, 21, 0, []),
  (32, .iconst 0, 1, 0, 0, []),
  (33, .ior, 1, 0, 0, []),
  (34, .istore_n 2, 1, 0, 0, []),
  (35, .iinc 3 1, 3, 0, 0, []),
  (38, .goto (-34), 3, 4, 0, []),
  (41, .iload_n 2, 1, 0, 0, []),
  (42, .ifCond .ne 5, 3, 29, 0, []),
  (45, .iconst 0, 1, 0, 0, []),
  (46, .ireturn, 1, 0, 0, []),
  (47, .ldc 60, 2, 2147483647, 0, []),
  (49, .istore_n 3, 1, 0, 0, []),
  (50, .iconst 0, 1, 0, 0, []),
  (51, .istore 4, 2, 0, 0, []),
  (53, .iload 4, 2, 0, 0, []),
  (55, .aload_n 0, 1, 0, 0, []),
  (56, .getfield 28, 3, 8, 1, []),
  (59, .if_icmp .ge 43, 3, 59, 0, []),
  (62, .iload 4, 2, 0, 0, []),
  (64, .iload_n 2, 1, 0, 0, []),
  (65, .invokestatic 43, 3, 156, 2, []),
  (68, .ifCond .eq 28, 3, 57, 0, []),
  (71, .iload_n 3, 1, 0, 0, []),
  (72, .aload_n 0, 1, 0, 0, []),
  (73, .getfield 21, 3, 8, 5, []),
  (76, .iload_n 2, 1, 0, 0, []),
  (77, .bipush 9, 2, 9, 0, []),
  (79, .imul, 1, 0, 0, []),
  (80, .iload 4, 2, 0, 0, []),
  (82, .iadd, 1, 0, 0, []),
  (83, .iaload, 1, 0, 0, []),
  (84, .aload_n 0, 1, 0, 0, []),
  (85, .getfield 18, 3, 8, 4, []),
  (88, .iload 4, 2, 0, 0, []),
  (90, .iaload, 1, 0, 0, []),
  (91, .iadd, 1, 0, 0, []),
  (92, .invokestatic 61, 3, 1000, 2, []),
  (95, .istore_n 3, 1, 0, 0, []),
  (96, .iinc 4 1, 3, 0, 0, []),
  (99, .goto (-46), 3, 33, 0, []),
  (102, .iload_n 3, 1, 0, 0, []),
  (103, .ireturn, 1, 0, 0, [])]
/-- Tours.coachShare -/
def pc_109 : List pm_I := [
  (0, .iload_n 2, 1, 0, 0, []),
  (1, .invokestatic 66, 3, 255, 1, []),
  (4, .istore 5, 2, 0, 0, []),
  (6, .iload_n 3, 1, 0, 0, []),
  (7, .iload_n 2, 1, 0, 0, []),
  (8, .invokestatic 43, 3, 156, 2, []),
  (11, .ifCond .eq 10, 3, 10, 0, []),
  (14, .iload 5, 2, 0, 0, []),
  (16, .bipush 6, 2, 6, 0, []),
  (18, .if_icmp .le 5, 3, 12, 0, []),
  (21, .iconst (-1), 1, 1, 1, []),
  (22, .ireturn, 1, 0, 0, []),
  (23, .aload_n 0, 1, 0, 0, []),
  (24, .iload_n 1, 1, 0, 0, []),
  (25, .aload_n 0, 1, 0, 0, []),
  (26, .getfield 24, 3, 8, 0, []),
  (29, .getfield 70, 3, 9, 6, []),
  (32, .iload_n 2, 1, 0, 0, []),
  (33, .invokevirtual 74, 3, 65, 1, [4]),
  (36, .invokevirtual 79, 3, 105, 2, [8]),
  (39, .aload_n 0, 1, 0, 0, []),
  (40, .iload_n 2, 1, 0, 0, []),
  (41, .iconst 1, 1, 1, 0, []),
  (42, .iload_n 3, 1, 0, 0, []),
  (43, .ishl, 1, 0, 0, []),
  (44, .iconst (-1), 1, 1, 1, []),
  (45, .ixor, 1, 0, 0, []),
  (46, .iand, 1, 0, 0, []),
  (47, .iload_n 3, 1, 0, 0, []),
  (48, .iload 5, 2, 0, 0, []),
  (50, .invokevirtual 83, 3, 110, 3, [8]),
  (53, .istore 6, 2, 0, 0, []),
  (55, .iload 5, 2, 0, 0, []),
  (57, .invokestatic 87, 3, 112, 1, []),
  (60, .istore 7, 2, 0, 0, []),
  (62, .iload 6, 2, 0, 0, []),
  (64, .invokestatic 90, 3, 1002, 1, []),
  (67, .iload 7, 2, 0, 0, []),
  (69, .invokestatic 93, 3, 113, 2, []),
  (72, .istore 8, 2, 0, 0, []),
  (74, .iload 8, 2, 0, 0, []),
  (76, .ifCond .gt 5, 3, 44, 0, []),
  (79, .iconst (-1), 1, 1, 1, []),
  (80, .ireturn, 1, 0, 0, []),
  (81, .iload 4, 2, 0, 0, []),
  (83, .ifCond .eq 8, 3, 48, 0, []),
  (86, .iload 6, 2, 0, 0, []),
  (88, .goto 5, 3, 49, 0, []),
  (91, .iload 7, 2, 0, 0, []),
  (93, .iload 8, 2, 0, 0, []),
  (95, .idiv, 1, 0, 0, []),
  (96, .ireturn, 1, 0, 0, [])]
/-- Tours.sumOverOrders -/
def pc_110 : List pm_I := [
  (0, .iconst 0, 1, 0, 0, []),
  (1, .istore 4, 2, 0, 0, []),
  (3, .iload_n 1, 1, 0, 0, []),
  (4, .istore 5, 2, 0, 0, []),
  (6, .iload 5, 2, 0, 0, []),
  (8, .ifCond .lt 67, 3, 43, 0, []),
  (11, .iload 5, 2, 0, 0, []),
  (13, .iload_n 1, 1, 0, 0, []),
  (14, .iconst (-1), 1, 1, 1, []),
  (15, .ixor, 1, 0, 0, []),
  (16, .iand, 1, 0, 0, []),
  (17, .ifCond .ne 52, 3, 41, 0, []),
  (20, .iload 5, 2, 0, 0, []),
  (22, .invokestatic 66, 3, 255, 1, []),
  (25, .istore 6, 2, 0, 0, []),
  (27, .aload_n 0, 1, 0, 0, []),
  (28, .iload 5, 2, 0, 0, []),
  (30, .iconst 1, 1, 1, 0, []),
  (31, .iload_n 2, 1, 0, 0, []),
  (32, .ishl, 1, 0, 0, []),
  (33, .ior, 1, 0, 0, []),
  (34, .invokevirtual 96, 3, 111, 1, [8]),
  (37, .aload_n 0, 1, 0, 0, []),
  (38, .iload 5, 2, 0, 0, []),
  (40, .invokevirtual 96, 3, 111, 1, [8]),
  (43, .isub, 1, 0, 0, []),
  (44, .istore 7, 2, 0, 0, []),
  (46, .iload 4, 2, 0, 0, []),
  (48, .iload 6, 2, 0, 0, []),
  (50, .invokestatic 87, 3, 112, 1, []),
  (53, .iload_n 3, 1, 0, 0, []),
  (54, .iconst 1, 1, 1, 0, []),
  (55, .isub, 1, 0, 0, []),
  (56, .iload 6, 2, 0, 0, []),
  (58, .isub, 1, 0, 0, []),
  (59, .invokestatic 87, 3, 112, 1, []),
  (62, .imul, 1, 0, 0, []),
  (63, .iload 7, 2, 0, 0, []),
  (65, .imul, 1, 0, 0, []),
  (66, .iadd, 1, 0, 0, []),
  (67, .istore 4, 2, 0, 0, []),
  (69, .iinc 5 (-1), 3, 0, 0, []),
  (72, .goto (-66), 3, 4, 0, []),
  (75, .iload 4, 2, 0, 0, []),
  (77, .ireturn, 1, 0, 0, [])]
/-- Tours.coachCost -/
def pc_111 : List pm_I := [
  (0, .aload_n 0, 1, 0, 0, []),
  (1, .aload_n 0, 1, 0, 0, []),
  (2, .getfield 24, 3, 8, 0, []),
  (5, .getfield 70, 3, 9, 6, []),
  (8, .iload_n 1, 1, 0, 0, []),
  (9, .invokevirtual 74, 3, 65, 1, [4]),
  (12, .invokevirtual 99, 3, 108, 1, [8]),
  (15, .ireturn, 1, 0, 0, [])]
/-- Tours.ordersOf -/
def pc_112 : List pm_I := [
  (0, .iconst 1, 1, 1, 0, []),
  (1, .istore_n 1, 1, 0, 0, []),
  (2, .iconst 2, 1, 2, 0, []),
  (3, .istore_n 2, 1, 0, 0, []),
  (4, .iload_n 2, 1, 0, 0, []),
  (5, .iload_n 0, 1, 0, 0, []),
  (6, .if_icmp .gt 13, 3, 13, 0, []),
  (9, .iload_n 1, 1, 0, 0, []),
  (10, .iload_n 2, 1, 0, 0, []),
  (11, .imul, 1, 0, 0, []),
  (12, .istore_n 1, 1, 0, 0, []),
  (13, .iinc 2 1, 3, 0, 0, []),
  (16, .goto (-12), 3, 4, 0, []),
  (19, .iload_n 1, 1, 0, 0, []),
  (20, .ireturn, 1, 0, 0, [])]
/-- Tours.commonPart -/
def pc_113 : List pm_I := [
  (0, .iload_n 0, 1, 0, 0, []),
  (1, .istore_n 2, 1, 0, 0, []),
  (2, .iload_n 1, 1, 0, 0, []),
  (3, .istore_n 3, 1, 0, 0, []),
  (4, .iconst 0, 1, 0, 0, []),
  (5, .istore 4, 2, 0, 0, []),
  (7, .iload 4, 2, 0, 0, []),
  (9, .bipush 100, 2, 100, 0, []),
  (11, .if_icmp .ge 23, 3, 21, 0, []),
  (14, .iload_n 3, 1, 0, 0, []),
  (15, .ifCond .eq 19, 3, 21, 0, []),
  (18, .iload_n 2, 1, 0, 0, []),
  (19, .iload_n 3, 1, 0, 0, []),
  (20, .irem, 1, 0, 0, []),
  (21, .istore 5, 2, 0, 0, []),
  (23, .iload_n 3, 1, 0, 0, []),
  (24, .istore_n 2, 1, 0, 0, []),
  (25, .iload 5, 2, 0, 0, []),
  (27, .istore_n 3, 1, 0, 0, []),
  (28, .iinc 4 1, 3, 0, 0, []),
  (31, .goto (-24), 3, 6, 0, []),
  (34, .iload_n 2, 1, 0, 0, []),
  (35, .ireturn, 1, 0, 0, [])]
/-- Town.init -/
def pc_114 : List pm_I := [
  (0, .aload_n 0, 1, 0, 0, []),
  (1, .invokespecial 3, 3, 1004, 0, []),
  (4, .aload_n 0, 1, 0, 0, []),
  (5, .iconst 4, 1, 4, 0, []),
  (6, .newarray .int, 2, 0, 0, []),
  (8, .putfield 9, 3, 9, 4, [2]),
  (11, .aload_n 0, 1, 0, 0, []),
  (12, .new 15, 3, 6, 4, []),
  (15, .dup, 1, 0, 0, []),
  (16, .invokespecial 17, 3, 81, 0, []),
  (19, .putfield 18, 3, 9, 5, [2]),
  (22, .aload_n 0, 1, 0, 0, []),
  (23, .new 22, 3, 4, 6, []),
  (26, .dup, 1, 0, 0, []),
  (27, .invokespecial 24, 3, 60, 0, []),
  (30, .putfield 25, 3, 9, 6, [2]),
  (33, .aload_n 0, 1, 0, 0, []),
  (34, .new 29, 3, 0, 8, []),
  (37, .dup, 1, 0, 0, []),
  (38, .invokespecial 31, 3, 0, 0, []),
  (41, .putfield 32, 3, 9, 7, [2]),
  (44, .aload_n 0, 1, 0, 0, []),
  (45, .new 36, 3, 3, 10, []),
  (48, .dup, 1, 0, 0, []),
  (49, .invokespecial 38, 3, 50, 0, []),
  (52, .putfield 39, 3, 9, 8, [2]),
  (55, .aload_n 0, 1, 0, 0, []),
  (56, .new 43, 3, 1, 5, []),
  (59, .dup, 1, 0, 0, []),
  (60, .invokespecial 45, 3, 12, 0, []),
  (63, .putfield 46, 3, 9, 9, [2]),
  (66, .aload_n 0, 1, 0, 0, []),
  (67, .getfield 9, 3, 9, 4, []),
  (70, .iconst 3, 1, 3, 0, []),
  (71, .iconst 4, 1, 4, 0, []),
  (72, .iastore, 1, 0, 0, []),
  (73, .return_, 1, 0, 0, [])]
/-- Town.tellSetting -/
def pc_115 : List pm_I := [
  (0, .iload_n 1, 1, 0, 0, []),
  (1, .ifCond .lt 24, 3, 13, 0, []),
  (4, .iload_n 1, 1, 0, 0, []),
  (5, .iconst 4, 1, 4, 0, []),
  (6, .if_icmp .ge 19, 3, 13, 0, []),
  (9, .iload_n 2, 1, 0, 0, []),
  (10, .iload_n 1, 1, 0, 0, []),
  (11, .invokestatic 50, 3, 116, 1, []),
  (14, .if_icmp .lt 11, 3, 13, 0, []),
  (17, .iload_n 2, 1, 0, 0, []),
  (18, .iload_n 1, 1, 0, 0, []),
  (19, .invokestatic 54, 3, 117, 1, []),
  (22, .if_icmp .le 5, 3, 15, 0, []),
  (25, .iconst 0, 1, 0, 0, []),
  (26, .ireturn, 1, 0, 0, []),
  (27, .aload_n 0, 1, 0, 0, []),
  (28, .getfield 9, 3, 9, 4, []),
  (31, .iload_n 1, 1, 0, 0, []),
  (32, .iload_n 2, 1, 0, 0, []),
  (33, .iastore, 1, 0, 0, []),
  (34, .iconst 1, 1, 1, 0, []),
  (35, .ireturn, 1, 0, 0, [])]
/-- Town.leastSetting -/
def pc_116 : List pm_I := [
  (0, .iload_n 0, 1, 0, 0, []),
  (1, .iconst 3, 1, 3, 0, []),
  (2, .if_icmp .ne 7, 3, 5, 0, []),
  (5, .iconst 1, 1, 1, 0, []),
  (6, .goto 4, 3, 6, 0, []),
  (9, .iconst 0, 1, 0, 0, []),
  (10, .ireturn, 1, 0, 0, [])]
/-- Town.greatestSetting -/
def pc_117 : List pm_I := [
  (0, .iload_n 0, 1, 0, 0, []),
  (1, .tableswitch 35 0 2 #[27, 30, 33], 27, 8, 0, [2, 4, 6]),
  (28, .bipush 100, 2, 100, 0, []),
  (30, .ireturn, 1, 0, 0, []),
  (31, .bipush 99, 2, 99, 0, []),
  (33, .ireturn, 1, 0, 0, []),
  (34, .iconst 1, 1, 1, 0, []),
  (35, .ireturn, 1, 0, 0, []),
  (36, .bipush 52, 2, 52, 0, []),
  (38, .ireturn, 1, 0, 0, [])]
/-- Town.draw -/
def pc_118 : List pm_I := [
  (0, .aload_n 0, 1, 0, 0, []),
  (1, .ldc 57, 2, 1664525, 0, []),
  (3, .aload_n 0, 1, 0, 0, []),
  (4, .getfield 58, 3, 9, 0, []),
  (7, .imul, 1, 0, 0, []),
  (8, .ldc 62, 2, 1013904223, 0, []),
  (10, .iadd, 1, 0, 0, []),
  (11, .putfield 58, 3, 9, 0, [0]),
  (14, .iload_n 1, 1, 0, 0, []),
  (15, .ifCond .le 15, 3, 17, 0, []),
  (18, .aload_n 0, 1, 0, 0, []),
  (19, .getfield 58, 3, 9, 0, []),
  (22, .bipush 8, 2, 8, 0, []),
  (24, .iushr, 1, 0, 0, []),
  (25, .iload_n 1, 1, 0, 0, []),
  (26, .irem, 1, 0, 0, []),
  (27, .goto 4, 3, 18, 0, []),
  (30, .iconst 0, 1, 0, 0, []),
  (31, .ireturn, 1, 0, 0, [])]
/-- Town.copyFrom -/
def pc_119 : List pm_I := [
  (0, .aload_n 0, 1, 0, 0, []),
  (1, .aload_n 1, 1, 0, 0, []),
  (2, .getfield 58, 3, 9, 0, []),
  (5, .putfield 58, 3, 9, 0, [0]),
  (8, .aload_n 0, 1, 0, 0, []),
  (9, .aload_n 1, 1, 0, 0, []),
  (10, .getfield 63, 3, 9, 1, []),
  (13, .putfield 63, 3, 9, 1, [0]),
  (16, .aload_n 0, 1, 0, 0, []),
  (17, .aload_n 1, 1, 0, 0, []),
  (18, .getfield 66, 3, 9, 2, []),
  (21, .putfield 66, 3, 9, 2, [0]),
  (24, .aload_n 0, 1, 0, 0, []),
  (25, .aload_n 1, 1, 0, 0, []),
  (26, .getfield 69, 3, 9, 3, []),
  (29, .putfield 69, 3, 9, 3, [1]),
  (32, .aload_n 1, 1, 0, 0, []),
  (33, .getfield 9, 3, 9, 4, []),
  (36, .aload_n 0, 1, 0, 0, []),
  (37, .getfield 9, 3, 9, 4, []),
  (40, .invokestatic 73, 3, 157, 2, []),
  (43, .aload_n 0, 1, 0, 0, []),
  (44, .getfield 18, 3, 9, 5, []),
  (47, .aload_n 1, 1, 0, 0, []),
  (48, .getfield 18, 3, 9, 5, []),
  (51, .invokevirtual 77, 3, 88, 1, [6]),
  (54, .aload_n 0, 1, 0, 0, []),
  (55, .getfield 25, 3, 9, 6, []),
  (58, .aload_n 1, 1, 0, 0, []),
  (59, .getfield 25, 3, 9, 6, []),
  (62, .invokevirtual 81, 3, 66, 1, [4]),
  (65, .aload_n 0, 1, 0, 0, []),
  (66, .getfield 32, 3, 9, 7, []),
  (69, .aload_n 1, 1, 0, 0, []),
  (70, .getfield 32, 3, 9, 7, []),
  (73, .invokevirtual 84, 3, 11, 1, [0]),
  (76, .aload_n 0, 1, 0, 0, []),
  (77, .getfield 39, 3, 9, 8, []),
  (80, .aload_n 1, 1, 0, 0, []),
  (81, .getfield 39, 3, 9, 8, []),
  (84, .invokevirtual 87, 3, 59, 1, [3]),
  (87, .aload_n 0, 1, 0, 0, []),
  (88, .getfield 46, 3, 9, 9, []),
  (91, .aload_n 1, 1, 0, 0, []),
  (92, .getfield 46, 3, 9, 9, []),
  (95, .invokevirtual 90, 3, 22, 1, [1]),
  (98, .return_, 1, 0, 0, [])]
/-- Waits.init -/
def pc_120 : List pm_I := [
  (0, .aload_n 0, 1, 0, 0, []),
  (1, .invokespecial 3, 3, 1004, 0, []),
  (4, .aload_n 0, 1, 0, 0, []),
  (5, .bipush 90, 2, 90, 0, []),
  (7, .newarray .long, 2, 0, 0, []),
  (9, .putfield 9, 3, 10, 2, [2]),
  (12, .aload_n 0, 1, 0, 0, []),
  (13, .bipush 90, 2, 90, 0, []),
  (15, .newarray .long, 2, 0, 0, []),
  (17, .putfield 15, 3, 10, 3, [2]),
  (20, .aload_n 0, 1, 0, 0, []),
  (21, .aload_n 1, 1, 0, 0, []),
  (22, .putfield 18, 3, 10, 0, [2]),
  (25, .return_, 1, 0, 0, [])]
/-- Waits.answer -/
def pc_121 : List pm_I := [
  (0, .iload_n 3, 1, 0, 0, []),
  (1, .ifCond .eq 21, 3, 12, 0, []),
  (4, .iload_n 3, 1, 0, 0, []),
  (5, .bipush 10, 2, 10, 0, []),
  (7, .if_icmp .lt 11, 3, 10, 0, []),
  (10, .iload_n 3, 1, 0, 0, []),
  (11, .bipush 10, 2, 10, 0, []),
  (13, .isub, 1, 0, 0, []),
  (14, .iload_n 2, 1, 0, 0, []),
  (15, .if_icmp .lt 7, 3, 12, 0, []),
  (18, .ldc2_w 22, 3, 1, 1, []),
  (21, .lreturn, 1, 0, 0, []),
  (22, .aload_n 0, 1, 0, 0, []),
  (23, .iload_n 2, 1, 0, 0, []),
  (24, .invokevirtual 24, 3, 122, 1, [10]),
  (27, .iload_n 3, 1, 0, 0, []),
  (28, .ifCond .ne 10, 3, 22, 0, []),
  (31, .aload_n 0, 1, 0, 0, []),
  (32, .getfield 9, 3, 10, 2, []),
  (35, .iload_n 1, 1, 0, 0, []),
  (36, .laload, 1, 0, 0, []),
  (37, .lreturn, 1, 0, 0, []),
  (38, .aload_n 0, 1, 0, 0, []),
  (39, .getfield 15, 3, 10, 3, []),
  (42, .iload_n 1, 1, 0, 0, []),
  (43, .laload, 1, 0, 0, []),
  (44, .iconst 4, 1, 4, 0, []),
  (45, .iload_n 2, 1, 0, 0, []),
  (46, .iconst 1, 1, 1, 0, []),
  (47, .isub, 1, 0, 0, []),
  (48, .iload_n 3, 1, 0, 0, []),
  (49, .bipush 10, 2, 10, 0, []),
  (51, .isub, 1, 0, 0, []),
  (52, .isub, 1, 0, 0, []),
  (53, .imul, 1, 0, 0, []),
  (54, .lshr, 1, 0, 0, []),
  (55, .ldc2_w 28, 3, 15, 0, []),
  (58, .land, 1, 0, 0, []),
  (59, .lreturn, 1, 0, 0, [])]
/-- Waits.prepare -/
def pc_122 : List pm_I := [
  (0, .aload_n 0, 1, 0, 0, []),
  (1, .iload_n 1, 1, 0, 0, []),
  (2, .putfield 30, 3, 10, 1, [0]),
  (5, .iconst 0, 1, 0, 0, []),
  (6, .istore_n 2, 1, 0, 0, []),
  (7, .iload_n 2, 1, 0, 0, []),
  (8, .aload_n 0, 1, 0, 0, []),
  (9, .getfield 18, 3, 10, 0, []),
  (12, .getfield 34, 3, 6, 0, []),
  (15, .if_icmp .ge 33, 3, 30, 0, []),
  (18, .aload_n 0, 1, 0, 0, []),
  (19, .getfield 9, 3, 10, 2, []),
  (22, .iload_n 1, 1, 0, 0, []),
  (23, .bipush 10, 2, 10, 0, []),
  (25, .imul, 1, 0, 0, []),
  (26, .iload_n 2, 1, 0, 0, []),
  (27, .iadd, 1, 0, 0, []),
  (28, .lconst 1, 1, 1, 0, []),
  (29, .lastore, 1, 0, 0, []),
  (30, .aload_n 0, 1, 0, 0, []),
  (31, .getfield 15, 3, 10, 3, []),
  (34, .iload_n 1, 1, 0, 0, []),
  (35, .bipush 10, 2, 10, 0, []),
  (37, .imul, 1, 0, 0, []),
  (38, .iload_n 2, 1, 0, 0, []),
  (39, .iadd, 1, 0, 0, []),
  (40, .lconst 0, 1, 0, 0, []),
  (41, .lastore, 1, 0, 0, []),
  (42, .iinc 2 1, 3, 0, 0, []),
  (45, .goto (-38), 3, 5, 0, []),
  (48, .iload_n 1, 1, 0, 0, []),
  (49, .iconst 1, 1, 1, 0, []),
  (50, .isub, 1, 0, 0, []),
  (51, .istore_n 2, 1, 0, 0, []),
  (52, .iload_n 2, 1, 0, 0, []),
  (53, .ifCond .lt 63, 3, 65, 0, []),
  (56, .iconst 0, 1, 0, 0, []),
  (57, .istore_n 3, 1, 0, 0, []),
  (58, .iload_n 3, 1, 0, 0, []),
  (59, .aload_n 0, 1, 0, 0, []),
  (60, .getfield 18, 3, 10, 0, []),
  (63, .getfield 34, 3, 6, 0, []),
  (66, .if_icmp .ge 44, 3, 63, 0, []),
  (69, .aload_n 0, 1, 0, 0, []),
  (70, .iload_n 2, 1, 0, 0, []),
  (71, .iload_n 3, 1, 0, 0, []),
  (72, .invokevirtual 39, 3, 123, 2, [10]),
  (75, .iconst 0, 1, 0, 0, []),
  (76, .istore 4, 2, 0, 0, []),
  (78, .iload 4, 2, 0, 0, []),
  (80, .aload_n 0, 1, 0, 0, []),
  (81, .getfield 18, 3, 10, 0, []),
  (84, .getfield 34, 3, 6, 0, []),
  (87, .if_icmp .ge 17, 3, 61, 0, []),
  (90, .aload_n 0, 1, 0, 0, []),
  (91, .iload_n 2, 1, 0, 0, []),
  (92, .iload_n 3, 1, 0, 0, []),
  (93, .iload 4, 2, 0, 0, []),
  (95, .invokevirtual 43, 3, 124, 3, [10]),
  (98, .iinc 4 1, 3, 0, 0, []),
  (101, .goto (-23), 3, 49, 0, []),
  (104, .iinc 3 1, 3, 0, 0, []),
  (107, .goto (-49), 3, 38, 0, []),
  (110, .iinc 2 (-1), 3, 0, 0, []),
  (113, .goto (-61), 3, 34, 0, []),
  (116, .return_, 1, 0, 0, [])]
/-- Waits.stand -/
def pc_123 : List pm_I := [
  (0, .iload_n 1, 1, 0, 0, []),
  (1, .bipush 10, 2, 10, 0, []),
  (3, .imul, 1, 0, 0, []),
  (4, .iload_n 2, 1, 0, 0, []),
  (5, .iadd, 1, 0, 0, []),
  (6, .istore_n 3, 1, 0, 0, []),
  (7, .iload_n 3, 1, 0, 0, []),
  (8, .bipush 10, 2, 10, 0, []),
  (10, .iadd, 1, 0, 0, []),
  (11, .istore 4, 2, 0, 0, []),
  (13, .bipush 100, 2, 100, 0, []),
  (15, .aload_n 0, 1, 0, 0, []),
  (16, .getfield 18, 3, 10, 0, []),
  (19, .iload_n 2, 1, 0, 0, []),
  (20, .iload_n 1, 1, 0, 0, []),
  (21, .invokevirtual 47, 3, 87, 2, [6]),
  (24, .isub, 1, 0, 0, []),
  (25, .istore 5, 2, 0, 0, []),
  (27, .iload 5, 2, 0, 0, []),
  (29, .ifCond .ne 18, 3, 29, 0, []),
  (32, .iload_n 2, 1, 0, 0, []),
  (33, .aload_n 0, 1, 0, 0, []),
  (34, .getfield 30, 3, 10, 1, []),
  (37, .iload_n 1, 1, 0, 0, []),
  (38, .isub, 1, 0, 0, []),
  (39, .iconst 1, 1, 1, 0, []),
  (40, .isub, 1, 0, 0, []),
  (41, .invokestatic 51, 3, 126, 2, []),
  (44, .goto 10, 3, 33, 0, []),
  (47, .aload_n 0, 1, 0, 0, []),
  (48, .getfield 15, 3, 10, 3, []),
  (51, .iload 4, 2, 0, 0, []),
  (53, .laload, 1, 0, 0, []),
  (54, .lstore 6, 2, 0, 0, []),
  (56, .aload_n 0, 1, 0, 0, []),
  (57, .getfield 9, 3, 10, 2, []),
  (60, .iload_n 3, 1, 0, 0, []),
  (61, .iload 5, 2, 0, 0, []),
  (63, .i2l, 1, 0, 0, []),
  (64, .aload_n 0, 1, 0, 0, []),
  (65, .getfield 9, 3, 10, 2, []),
  (68, .iload 4, 2, 0, 0, []),
  (70, .laload, 1, 0, 0, []),
  (71, .lmul, 1, 0, 0, []),
  (72, .lastore, 1, 0, 0, []),
  (73, .aload_n 0, 1, 0, 0, []),
  (74, .getfield 15, 3, 10, 3, []),
  (77, .iload_n 3, 1, 0, 0, []),
  (78, .iload_n 2, 1, 0, 0, []),
  (79, .i2l, 1, 0, 0, []),
  (80, .iconst 4, 1, 4, 0, []),
  (81, .aload_n 0, 1, 0, 0, []),
  (82, .getfield 30, 3, 10, 1, []),
  (85, .iload_n 1, 1, 0, 0, []),
  (86, .isub, 1, 0, 0, []),
  (87, .iconst 1, 1, 1, 0, []),
  (88, .isub, 1, 0, 0, []),
  (89, .imul, 1, 0, 0, []),
  (90, .lshl, 1, 0, 0, []),
  (91, .lload 6, 2, 0, 0, []),
  (93, .lor, 1, 0, 0, []),
  (94, .lastore, 1, 0, 0, []),
  (95, .return_, 1, 0, 0, [])]
/-- Waits.tryWalk -/
def pc_124 : List pm_I := [
  (0, .iload_n 1, 1, 0, 0, []),
  (1, .aload_n 0, 1, 0, 0, []),
  (2, .iload_n 2, 1, 0, 0, []),
  (3, .iload_n 3, 1, 0, 0, []),
  (4, .invokevirtual 55, 3, 125, 2, [10]),
  (7, .iadd, 1, 0, 0, []),
  (8, .istore 4, 2, 0, 0, []),
  (10, .iload_n 2, 1, 0, 0, []),
  (11, .iload_n 3, 1, 0, 0, []),
  (12, .if_icmp .eq 12, 3, 14, 0, []),
  (15, .iload 4, 2, 0, 0, []),
  (17, .aload_n 0, 1, 0, 0, []),
  (18, .getfield 30, 3, 10, 1, []),
  (21, .if_icmp .le 4, 3, 15, 0, []),
  (24, .return_, 1, 0, 0, []),
  (25, .iload_n 1, 1, 0, 0, []),
  (26, .bipush 10, 2, 10, 0, []),
  (28, .imul, 1, 0, 0, []),
  (29, .iload_n 2, 1, 0, 0, []),
  (30, .iadd, 1, 0, 0, []),
  (31, .istore 5, 2, 0, 0, []),
  (33, .iload 4, 2, 0, 0, []),
  (35, .bipush 10, 2, 10, 0, []),
  (37, .imul, 1, 0, 0, []),
  (38, .iload_n 3, 1, 0, 0, []),
  (39, .iadd, 1, 0, 0, []),
  (40, .istore 6, 2, 0, 0, []),
  (42, .aload_n 0, 1, 0, 0, []),
  (43, .getfield 9, 3, 10, 2, []),
  (46, .iload 6, 2, 0, 0, []),
  (48, .laload, 1, 0, 0, []),
  (49, .lstore 7, 2, 0, 0, []),
  (51, .iload_n 1, 1, 0, 0, []),
  (52, .istore 9, 2, 0, 0, []),
  (54, .iload 9, 2, 0, 0, []),
  (56, .iload 4, 2, 0, 0, []),
  (58, .if_icmp .ge 17, 3, 43, 0, []),
  (61, .lload 7, 2, 0, 0, []),
  (63, .ldc2_w 58, 3, 100, 0, []),
  (66, .lmul, 1, 0, 0, []),
  (67, .lstore 7, 2, 0, 0, []),
  (69, .iinc 9 1, 3, 0, 0, []),
  (72, .goto (-18), 3, 34, 0, []),
  (75, .bipush 10, 2, 10, 0, []),
  (77, .iload 4, 2, 0, 0, []),
  (79, .iload_n 1, 1, 0, 0, []),
  (80, .isub, 1, 0, 0, []),
  (81, .invokestatic 51, 3, 126, 2, []),
  (84, .iconst 4, 1, 4, 0, []),
  (85, .aload_n 0, 1, 0, 0, []),
  (86, .getfield 30, 3, 10, 1, []),
  (89, .iload 4, 2, 0, 0, []),
  (91, .isub, 1, 0, 0, []),
  (92, .imul, 1, 0, 0, []),
  (93, .lshl, 1, 0, 0, []),
  (94, .aload_n 0, 1, 0, 0, []),
  (95, .getfield 15, 3, 10, 3, []),
  (98, .iload 6, 2, 0, 0, []),
  (100, .laload, 1, 0, 0, []),
  (101, .lor, 1, 0, 0, []),
  (102, .lstore 9, 2, 0, 0, []),
  (104, .lload 7, 2, 0, 0, []),
  (106, .aload_n 0, 1, 0, 0, []),
  (107, .getfield 9, 3, 10, 2, []),
  (110, .iload 5, 2, 0, 0, []),
  (112, .laload, 1, 0, 0, []),
  (113, .lcmp, 1, 0, 0, []),
  (114, .ifCond .lt 29, 3, 82, 0, []),
  (117, .lload 7, 2, 0, 0, []),
  (119, .aload_n 0, 1, 0, 0, []),
  (120, .getfield 9, 3, 10, 2, []),
  (123, .iload 5, 2, 0, 0, []),
  (125, .laload, 1, 0, 0, []),
  (126, .lcmp, 1, 0, 0, []),
  (127, .ifCond .ne 34, 3, 92, 0, []),
  (130, .lload 9, 2, 0, 0, []),
  (132, .aload_n 0, 1, 0, 0, []),
  (133, .getfield 15, 3, 10, 3, []),
  (136, .iload 5, 2, 0, 0, []),
  (138, .laload, 1, 0, 0, []),
  (139, .lcmp, 1, 0, 0, []),
  (140, .ifCond .ge 21, 3, 92, 0, []),
  (143, .aload_n 0, 1, 0, 0, []),
  (144, .getfield 9, 3, 10, 2, []),
  (147, .iload 5, 2, 0, 0, []),
  (149, .lload 7, 2, 0, 0, []),
  (151, .lastore, 1, 0, 0, []),
  (152, .aload_n 0, 1, 0, 0, []),
  (153, .getfield 15, 3, 10, 3, []),
  (156, .iload 5, 2, 0, 0, []),
  (158, .lload 9, 2, 0, 0, []),
  (160, .lastore, 1, 0, 0, []),
  (161, .return_, 1, 0, 0, [])]
/-- Waits.hoursOfWalk -/
def pc_125 : List pm_I := [
  (0, .iconst 1, 1, 1, 0, []),
  (1, .aload_n 0, 1, 0, 0, []),
  (2, .getfield 18, 3, 10, 0, []),
  (5, .iload_n 1, 1, 0, 0, []),
  (6, .iload_n 2, 1, 0, 0, []),
  (7, .invokevirtual 60, 3, 85, 2, [6]),
  (10, .bipush 10, 2, 10, 0, []),
  (12, .iadd, 1, 0, 0, []),
  (13, .iconst 1, 1, 1, 0, []),
  (14, .isub, 1, 0, 0, []),
  (15, .bipush 10, 2, 10, 0, []),
  (17, .idiv, 1, 0, 0, []),
  (18, .invokestatic 63, 3, 1001, 2, []),
  (21, .ireturn, 1, 0, 0, [])]
/-- Waits.repeated -/
def pc_126 : List pm_I := [
  (0, .lconst 0, 1, 0, 0, []),
  (1, .lstore_n 2, 1, 0, 0, []),
  (2, .iconst 0, 1, 0, 0, []),
  (3, .istore 4, 2, 0, 0, []),
  (5, .iload 4, 2, 0, 0, []),
  (7, .iload_n 1, 1, 0, 0, []),
  (8, .if_icmp .ge 16, 3, 16, 0, []),
  (11, .lload_n 2, 1, 0, 0, []),
  (12, .iconst 4, 1, 4, 0, []),
  (13, .lshl, 1, 0, 0, []),
  (14, .iload_n 0, 1, 0, 0, []),
  (15, .i2l, 1, 0, 0, []),
  (16, .lor, 1, 0, 0, []),
  (17, .lstore_n 2, 1, 0, 0, []),
  (18, .iinc 4 1, 3, 0, 0, []),
  (21, .goto (-16), 3, 4, 0, []),
  (24, .lload_n 2, 1, 0, 0, []),
  (25, .lreturn, 1, 0, 0, [])]
/-- PaidWhereMade.init -/
def pc_127 : List pm_I := [
  (0, .aload_n 0, 1, 0, 0, []),
  (1, .invokespecial 3, 3, 1004, 0, []),
  (4, .aload_n 0, 1, 0, 0, []),
  (5, .new 9, 3, 9, 10, []),
  (8, .dup, 1, 0, 0, []),
  (9, .invokespecial 11, 3, 114, 0, []),
  (12, .putfield 12, 3, 11, 0, [2]),
  (15, .aload_n 0, 1, 0, 0, []),
  (16, .new 9, 3, 9, 10, []),
  (19, .dup, 1, 0, 0, []),
  (20, .invokespecial 11, 3, 114, 0, []),
  (23, .putfield 16, 3, 11, 1, [2]),
  (26, .aload_n 0, 1, 0, 0, []),
  (27, .iconst 0, 1, 0, 0, []),
  (28, .putfield 19, 3, 11, 2, [1]),
  (31, .aload_n 0, 1, 0, 0, []),
  (32, .new 23, 3, 2, 10, []),
  (35, .dup, 1, 0, 0, []),
  (36, .invokespecial 25, 3, 23, 0, []),
  (39, .putfield 26, 3, 11, 3, [2]),
  (42, .aload_n 0, 1, 0, 0, []),
  (43, .new 30, 3, 7, 6, []),
  (46, .dup, 1, 0, 0, []),
  (47, .aload_n 0, 1, 0, 0, []),
  (48, .getfield 12, 3, 11, 0, []),
  (51, .invokespecial 32, 3, 89, 1, []),
  (54, .putfield 35, 3, 11, 4, [2]),
  (57, .aload_n 0, 1, 0, 0, []),
  (58, .new 39, 3, 5, 7, []),
  (61, .dup, 1, 0, 0, []),
  (62, .aload_n 0, 1, 0, 0, []),
  (63, .getfield 12, 3, 11, 0, []),
  (66, .invokespecial 41, 3, 67, 1, []),
  (69, .putfield 42, 3, 11, 5, [2]),
  (72, .aload_n 0, 1, 0, 0, []),
  (73, .new 46, 3, 8, 6, []),
  (76, .dup, 1, 0, 0, []),
  (77, .aload_n 0, 1, 0, 0, []),
  (78, .getfield 12, 3, 11, 0, []),
  (81, .invokespecial 48, 3, 104, 1, []),
  (84, .putfield 49, 3, 11, 6, [2]),
  (87, .aload_n 0, 1, 0, 0, []),
  (88, .new 53, 3, 10, 4, []),
  (91, .dup, 1, 0, 0, []),
  (92, .aload_n 0, 1, 0, 0, []),
  (93, .getfield 12, 3, 11, 0, []),
  (96, .getfield 55, 3, 9, 5, []),
  (99, .invokespecial 59, 3, 120, 1, []),
  (102, .putfield 62, 3, 11, 7, [2]),
  (105, .return_, 1, 0, 0, [])]
/-- PaidWhereMade.state -/
def pc_128 : List pm_I := [
  (0, .aload_n 0, 1, 0, 0, []),
  (1, .getfield 12, 3, 11, 0, []),
  (4, .getfield 66, 3, 9, 0, []),
  (7, .istore_n 2, 1, 0, 0, []),
  (8, .aload_n 0, 1, 0, 0, []),
  (9, .getfield 12, 3, 11, 0, []),
  (12, .iload_n 1, 1, 0, 0, []),
  (13, .putfield 66, 3, 9, 0, [0]),
  (16, .iload_n 2, 1, 0, 0, []),
  (17, .ireturn, 1, 0, 0, [])]
/-- PaidWhereMade.spot -/
def pc_129 : List pm_I := [
  (0, .aload_n 0, 1, 0, 0, []),
  (1, .getfield 12, 3, 11, 0, []),
  (4, .getfield 55, 3, 9, 5, []),
  (7, .iload_n 1, 1, 0, 0, []),
  (8, .invokevirtual 70, 3, 83, 1, [6]),
  (11, .ireturn, 1, 0, 0, [])]
/-- PaidWhereMade.way -/
def pc_130 : List pm_I := [
  (0, .aload_n 0, 1, 0, 0, []),
  (1, .getfield 12, 3, 11, 0, []),
  (4, .getfield 55, 3, 9, 5, []),
  (7, .iload_n 1, 1, 0, 0, []),
  (8, .iload_n 2, 1, 0, 0, []),
  (9, .iload_n 3, 1, 0, 0, []),
  (10, .invokevirtual 76, 3, 84, 3, [6]),
  (13, .ireturn, 1, 0, 0, [])]
/-- PaidWhereMade.person -/
def pc_131 : List pm_I := [
  (0, .aload_n 0, 1, 0, 0, []),
  (1, .getfield 12, 3, 11, 0, []),
  (4, .getfield 55, 3, 9, 5, []),
  (7, .iload_n 1, 1, 0, 0, []),
  (8, .invokevirtual 80, 3, 82, 1, [6]),
  (11, .ifCond .eq 19, 3, 14, 0, []),
  (14, .aload_n 0, 1, 0, 0, []),
  (15, .getfield 12, 3, 11, 0, []),
  (18, .getfield 84, 3, 9, 6, []),
  (21, .iload_n 1, 1, 0, 0, []),
  (22, .iload_n 2, 1, 0, 0, []),
  (23, .iload_n 3, 1, 0, 0, []),
  (24, .invokevirtual 88, 3, 62, 3, [4]),
  (27, .goto 4, 3, 15, 0, []),
  (30, .iconst (-1), 1, 1, 1, []),
  (31, .ireturn, 1, 0, 0, [])]
/-- PaidWhereMade.debt -/
def pc_132 : List pm_I := [
  (0, .aload_n 0, 1, 0, 0, []),
  (1, .getfield 12, 3, 11, 0, []),
  (4, .getfield 84, 3, 9, 6, []),
  (7, .iload_n 1, 1, 0, 0, []),
  (8, .invokevirtual 93, 3, 61, 1, [4]),
  (11, .ifCond .eq 36, 3, 20, 0, []),
  (14, .aload_n 0, 1, 0, 0, []),
  (15, .getfield 12, 3, 11, 0, []),
  (18, .getfield 84, 3, 9, 6, []),
  (21, .iload_n 2, 1, 0, 0, []),
  (22, .invokevirtual 93, 3, 61, 1, [4]),
  (25, .ifCond .eq 22, 3, 20, 0, []),
  (28, .aload_n 0, 1, 0, 0, []),
  (29, .getfield 12, 3, 11, 0, []),
  (32, .getfield 55, 3, 9, 5, []),
  (35, .iload 4, 2, 0, 0, []),
  (37, .invokevirtual 80, 3, 82, 1, [6]),
  (40, .ifCond .eq 7, 3, 20, 0, []),
  (43, .iconst 1, 1, 1, 0, []),
  (44, .goto 4, 3, 21, 0, []),
  (47, .iconst 0, 1, 0, 0, []),
  (48, .istore 5, 2, 0, 0, []),
  (50, .iload 5, 2, 0, 0, []),
  (52, .ifCond .eq 28, 3, 36, 0, []),
  (55, .aload_n 0, 1, 0, 0, []),
  (56, .getfield 12, 3, 11, 0, []),
  (59, .getfield 94, 3, 9, 7, []),
  (62, .iload_n 1, 1, 0, 0, []),
  (63, .iload_n 2, 1, 0, 0, []),
  (64, .iload_n 3, 1, 0, 0, []),
  (65, .iload 4, 2, 0, 0, []),
  (67, .aload_n 0, 1, 0, 0, []),
  (68, .getfield 12, 3, 11, 0, []),
  (71, .getfield 98, 3, 9, 1, []),
  (74, .invokevirtual 101, 3, 2, 5, [0]),
  (77, .goto 4, 3, 37, 0, []),
  (80, .iconst (-1), 1, 1, 1, []),
  (81, .ireturn, 1, 0, 0, [])]
/-- PaidWhereMade.set -/
def pc_133 : List pm_I := [
  (0, .aload_n 0, 1, 0, 0, []),
  (1, .getfield 12, 3, 11, 0, []),
  (4, .iload_n 1, 1, 0, 0, []),
  (5, .iload_n 2, 1, 0, 0, []),
  (6, .invokevirtual 106, 3, 115, 2, [9]),
  (9, .ireturn, 1, 0, 0, [])]
/-- PaidWhereMade.goal -/
def pc_134 : List pm_I := [
  (0, .aload_n 0, 1, 0, 0, []),
  (1, .getfield 12, 3, 11, 0, []),
  (4, .getfield 84, 3, 9, 6, []),
  (7, .iload_n 1, 1, 0, 0, []),
  (8, .invokevirtual 93, 3, 61, 1, [4]),
  (11, .ifCond .eq 17, 3, 12, 0, []),
  (14, .aload_n 0, 1, 0, 0, []),
  (15, .getfield 12, 3, 11, 0, []),
  (18, .getfield 55, 3, 9, 5, []),
  (21, .iload_n 2, 1, 0, 0, []),
  (22, .invokevirtual 80, 3, 82, 1, [6]),
  (25, .ifCond .ne 5, 3, 14, 0, []),
  (28, .iconst 0, 1, 0, 0, []),
  (29, .ireturn, 1, 0, 0, []),
  (30, .aload_n 0, 1, 0, 0, []),
  (31, .getfield 12, 3, 11, 0, []),
  (34, .getfield 84, 3, 9, 6, []),
  (37, .getfield 110, 3, 4, 4, []),
  (40, .iload_n 1, 1, 0, 0, []),
  (41, .iload_n 2, 1, 0, 0, []),
  (42, .iastore, 1, 0, 0, []),
  (43, .iconst 1, 1, 1, 0, []),
  (44, .ireturn, 1, 0, 0, [])]
/-- PaidWhereMade.feed -/
def pc_135 : List pm_I := [
  (0, .aload_n 0, 1, 0, 0, []),
  (1, .getfield 26, 3, 11, 3, []),
  (4, .iload_n 1, 1, 0, 0, []),
  (5, .iload_n 2, 1, 0, 0, []),
  (6, .iload_n 3, 1, 0, 0, []),
  (7, .iload 4, 2, 0, 0, []),
  (9, .iload 5, 2, 0, 0, []),
  (11, .invokevirtual 114, 3, 24, 5, [2]),
  (14, .ireturn, 1, 0, 0, [])]
/-- PaidWhereMade.end -/
def pc_136 : List pm_I := [
  (0, .aload_n 0, 1, 0, 0, []),
  (1, .getfield 26, 3, 11, 3, []),
  (4, .iload_n 1, 1, 0, 0, []),
  (5, .invokevirtual 117, 3, 26, 1, [2]),
  (8, .ireturn, 1, 0, 0, [])]
/-- PaidWhereMade.text -/
def pc_137 : List pm_I := [
  (0, .aload_n 0, 1, 0, 0, []),
  (1, .getfield 26, 3, 11, 3, []),
  (4, .aload_n 0, 1, 0, 0, []),
  (5, .getfield 12, 3, 11, 0, []),
  (8, .getfield 120, 3, 9, 9, []),
  (11, .invokevirtual 124, 3, 27, 1, [2]),
  (14, .ireturn, 1, 0, 0, [])]
/-- PaidWhereMade.fault -/
def pc_138 : List pm_I := [
  (0, .iload_n 1, 1, 0, 0, []),
  (1, .lookupswitch 43 #[(0, 27), (1, 35)], 27, 10, 0, [2, 6]),
  (28, .aload_n 0, 1, 0, 0, []),
  (29, .getfield 26, 3, 11, 3, []),
  (32, .getfield 128, 3, 2, 0, []),
  (35, .ireturn, 1, 0, 0, []),
  (36, .aload_n 0, 1, 0, 0, []),
  (37, .getfield 26, 3, 11, 3, []),
  (40, .getfield 131, 3, 2, 1, []),
  (43, .ireturn, 1, 0, 0, []),
  (44, .iconst (-1), 1, 1, 1, []),
  (45, .ireturn, 1, 0, 0, [])]
/-- PaidWhereMade.sunday -/
def pc_139 : List pm_I := [
  (0, .aload_n 0, 1, 0, 0, []),
  (1, .getfield 12, 3, 11, 0, []),
  (4, .getfield 98, 3, 9, 1, []),
  (7, .sipush 9999, 3, 9999, 0, []),
  (10, .if_icmp .ge 13, 3, 9, 0, []),
  (13, .aload_n 0, 1, 0, 0, []),
  (14, .getfield 35, 3, 11, 4, []),
  (17, .invokevirtual 134, 3, 90, 0, [7]),
  (20, .goto 4, 3, 10, 0, []),
  (23, .iconst (-1), 1, 1, 1, []),
  (24, .ireturn, 1, 0, 0, [])]
/-- PaidWhereMade.pass -/
def pc_140 : List pm_I := [
  (0, .iload_n 1, 1, 0, 0, []),
  (1, .iconst 1, 1, 1, 0, []),
  (2, .if_icmp .lt 25, 3, 13, 0, []),
  (5, .iload_n 1, 1, 0, 0, []),
  (6, .sipush 400, 3, 400, 0, []),
  (9, .if_icmp .gt 18, 3, 13, 0, []),
  (12, .aload_n 0, 1, 0, 0, []),
  (13, .getfield 12, 3, 11, 0, []),
  (16, .getfield 98, 3, 9, 1, []),
  (19, .iload_n 1, 1, 0, 0, []),
  (20, .iadd, 1, 0, 0, []),
  (21, .sipush 9999, 3, 9999, 0, []),
  (24, .if_icmp .le 5, 3, 15, 0, []),
  (27, .iconst (-1), 1, 1, 1, []),
  (28, .ireturn, 1, 0, 0, []),
  (29, .aload_n 0, 1, 0, 0, []),
  (30, .getfield 12, 3, 11, 0, []),
  (33, .getfield 84, 3, 9, 6, []),
  (36, .invokevirtual 138, 3, 63, 0, [4]),
  (39, .iconst 0, 1, 0, 0, []),
  (40, .istore_n 2, 1, 0, 0, []),
  (41, .iconst 0, 1, 0, 0, []),
  (42, .istore_n 3, 1, 0, 0, []),
  (43, .iload_n 3, 1, 0, 0, []),
  (44, .iload_n 1, 1, 0, 0, []),
  (45, .if_icmp .ge 19, 3, 34, 0, []),
  (48, .iload_n 2, 1, 0, 0, []),
  (49, .aload_n 0, 1, 0, 0, []),
  (50, .getfield 35, 3, 11, 4, []),
  (53, .invokevirtual 134, 3, 90, 0, [7]),
  (56, .iadd, 1, 0, 0, []),
  (57, .istore_n 2, 1, 0, 0, []),
  (58, .iinc 3 1, 3, 0, 0, []),
  (61, .goto (-18), 3, 23, 0, []),
  (64, .iload_n 2, 1, 0, 0, []),
  (65, .ireturn, 1, 0, 0, [])]
/-- PaidWhereMade.of -/
def pc_141 : List pm_I := [
  (0, .aload_n 0, 1, 0, 0, []),
  (1, .getfield 12, 3, 11, 0, []),
  (4, .getfield 84, 3, 9, 6, []),
  (7, .iload_n 1, 1, 0, 0, []),
  (8, .invokevirtual 93, 3, 61, 1, [4]),
  (11, .ifCond .ne 6, 3, 8, 0, []),
  (14, .bipush (-2), 2, 2, 1, []),
  (16, .ireturn, 1, 0, 0, []),
  (17, .iload_n 2, 1, 0, 0, []),
  (18, .tableswitch 131 0 6 #[42, 55, 68, 81, 94, 107, 119], 42, 57, 0, [10, 17, 24, 31, 38, 45, 51]),
  (60, .aload_n 0, 1, 0, 0, []),
  (61, .getfield 12, 3, 11, 0, []),
  (64, .getfield 84, 3, 9, 6, []),
  (67, .getfield 141, 3, 4, 1, []),
  (70, .iload_n 1, 1, 0, 0, []),
  (71, .iaload, 1, 0, 0, []),
  (72, .ireturn, 1, 0, 0, []),
  (73, .aload_n 0, 1, 0, 0, []),
  (74, .getfield 12, 3, 11, 0, []),
  (77, .getfield 84, 3, 9, 6, []),
  (80, .getfield 144, 3, 4, 2, []),
  (83, .iload_n 1, 1, 0, 0, []),
  (84, .iaload, 1, 0, 0, []),
  (85, .ireturn, 1, 0, 0, []),
  (86, .aload_n 0, 1, 0, 0, []),
  (87, .getfield 12, 3, 11, 0, []),
  (90, .getfield 84, 3, 9, 6, []),
  (93, .getfield 147, 3, 4, 3, []),
  (96, .iload_n 1, 1, 0, 0, []),
  (97, .iaload, 1, 0, 0, []),
  (98, .ireturn, 1, 0, 0, []),
  (99, .aload_n 0, 1, 0, 0, []),
  (100, .getfield 12, 3, 11, 0, []),
  (103, .getfield 84, 3, 9, 6, []),
  (106, .getfield 110, 3, 4, 4, []),
  (109, .iload_n 1, 1, 0, 0, []),
  (110, .iaload, 1, 0, 0, []),
  (111, .ireturn, 1, 0, 0, []),
  (112, .aload_n 0, 1, 0, 0, []),
  (113, .getfield 12, 3, 11, 0, []),
  (116, .getfield 84, 3, 9, 6, []),
  (119, .getfield 150, 3, 4, 5, []),
  (122, .iload_n 1, 1, 0, 0, []),
  (123, .iaload, 1, 0, 0, []),
  (124, .ireturn, 1, 0, 0, []),
  (125, .aload_n 0, 1, 0, 0, []),
  (126, .getfield 12, 3, 11, 0, []),
  (129, .getfield 94, 3, 9, 7, []),
  (132, .iload_n 1, 1, 0, 0, []),
  (133, .invokevirtual 153, 3, 6, 1, [0]),
  (136, .ireturn, 1, 0, 0, []),
  (137, .aload_n 0, 1, 0, 0, []),
  (138, .getfield 12, 3, 11, 0, []),
  (141, .getfield 94, 3, 9, 7, []),
  (144, .iload_n 1, 1, 0, 0, []),
  (145, .invokevirtual 156, 3, 7, 1, [0]),
  (148, .ireturn, 1, 0, 0, []),
  (149, .bipush (-2), 2, 2, 1, []),
  (151, .ireturn, 1, 0, 0, [])]
/-- PaidWhereMade.owed -/
def pc_142 : List pm_I := [
  (0, .aload_n 0, 1, 0, 0, []),
  (1, .getfield 12, 3, 11, 0, []),
  (4, .getfield 94, 3, 9, 7, []),
  (7, .iload_n 1, 1, 0, 0, []),
  (8, .invokevirtual 159, 3, 1, 1, [0]),
  (11, .ifCond .ne 6, 3, 8, 0, []),
  (14, .bipush (-2), 2, 2, 1, []),
  (16, .ireturn, 1, 0, 0, []),
  (17, .iload_n 2, 1, 0, 0, []),
  (18, .tableswitch 168 0 7 #[46, 59, 72, 85, 98, 111, 124, 137], 46, 74, 0, [10, 17, 24, 31, 38, 45, 52, 59]),
  (64, .aload_n 0, 1, 0, 0, []),
  (65, .getfield 12, 3, 11, 0, []),
  (68, .getfield 94, 3, 9, 7, []),
  (71, .getfield 160, 3, 0, 1, []),
  (74, .iload_n 1, 1, 0, 0, []),
  (75, .iaload, 1, 0, 0, []),
  (76, .ireturn, 1, 0, 0, []),
  (77, .aload_n 0, 1, 0, 0, []),
  (78, .getfield 12, 3, 11, 0, []),
  (81, .getfield 94, 3, 9, 7, []),
  (84, .getfield 163, 3, 0, 2, []),
  (87, .iload_n 1, 1, 0, 0, []),
  (88, .iaload, 1, 0, 0, []),
  (89, .ireturn, 1, 0, 0, []),
  (90, .aload_n 0, 1, 0, 0, []),
  (91, .getfield 12, 3, 11, 0, []),
  (94, .getfield 94, 3, 9, 7, []),
  (97, .getfield 166, 3, 0, 3, []),
  (100, .iload_n 1, 1, 0, 0, []),
  (101, .iaload, 1, 0, 0, []),
  (102, .ireturn, 1, 0, 0, []),
  (103, .aload_n 0, 1, 0, 0, []),
  (104, .getfield 12, 3, 11, 0, []),
  (107, .getfield 94, 3, 9, 7, []),
  (110, .getfield 169, 3, 0, 4, []),
  (113, .iload_n 1, 1, 0, 0, []),
  (114, .iaload, 1, 0, 0, []),
  (115, .ireturn, 1, 0, 0, []),
  (116, .aload_n 0, 1, 0, 0, []),
  (117, .getfield 12, 3, 11, 0, []),
  (120, .getfield 94, 3, 9, 7, []),
  (123, .getfield 172, 3, 0, 5, []),
  (126, .iload_n 1, 1, 0, 0, []),
  (127, .iaload, 1, 0, 0, []),
  (128, .ireturn, 1, 0, 0, []),
  (129, .aload_n 0, 1, 0, 0, []),
  (130, .getfield 12, 3, 11, 0, []),
  (133, .getfield 94, 3, 9, 7, []),
  (136, .getfield 175, 3, 0, 6, []),
  (139, .iload_n 1, 1, 0, 0, []),
  (140, .iaload, 1, 0, 0, []),
  (141, .ireturn, 1, 0, 0, []),
  (142, .aload_n 0, 1, 0, 0, []),
  (143, .getfield 12, 3, 11, 0, []),
  (146, .getfield 94, 3, 9, 7, []),
  (149, .getfield 178, 3, 0, 7, []),
  (152, .iload_n 1, 1, 0, 0, []),
  (153, .iaload, 1, 0, 0, []),
  (154, .ireturn, 1, 0, 0, []),
  (155, .aload_n 0, 1, 0, 0, []),
  (156, .getfield 12, 3, 11, 0, []),
  (159, .getfield 94, 3, 9, 7, []),
  (162, .iload_n 1, 1, 0, 0, []),
  (163, .invokevirtual 181, 3, 3, 1, [0]),
  (166, .ifCond .eq 18, 3, 72, 0, []),
  (169, .aload_n 0, 1, 0, 0, []),
  (170, .getfield 35, 3, 11, 4, []),
  (173, .iload_n 1, 1, 0, 0, []),
  (174, .invokevirtual 184, 3, 95, 1, [7]),
  (177, .ifCond .eq 7, 3, 72, 0, []),
  (180, .iconst 1, 1, 1, 0, []),
  (181, .goto 4, 3, 73, 0, []),
  (184, .iconst 0, 1, 0, 0, []),
  (185, .ireturn, 1, 0, 0, []),
  (186, .bipush (-2), 2, 2, 1, []),
  (188, .ireturn, 1, 0, 0, [])]
/-- PaidWhereMade.cleared -/
def pc_143 : List pm_I := [
  (0, .aload_n 0, 1, 0, 0, []),
  (1, .getfield 42, 3, 11, 5, []),
  (4, .iload_n 1, 1, 0, 0, []),
  (5, .invokevirtual 187, 3, 68, 1, [5]),
  (8, .ireturn, 1, 0, 0, [])]
/-- PaidWhereMade.first -/
def pc_144 : List pm_I := [
  (0, .aload_n 0, 1, 0, 0, []),
  (1, .getfield 12, 3, 11, 0, []),
  (4, .getfield 84, 3, 9, 6, []),
  (7, .iload_n 1, 1, 0, 0, []),
  (8, .invokevirtual 93, 3, 61, 1, [4]),
  (11, .ifCond .eq 15, 3, 12, 0, []),
  (14, .aload_n 0, 1, 0, 0, []),
  (15, .getfield 42, 3, 11, 5, []),
  (18, .iload_n 1, 1, 0, 0, []),
  (19, .iload_n 2, 1, 0, 0, []),
  (20, .invokevirtual 190, 3, 75, 2, [5]),
  (23, .goto 4, 3, 13, 0, []),
  (26, .iconst (-1), 1, 1, 1, []),
  (27, .ireturn, 1, 0, 0, [])]
/-- PaidWhereMade.tour -/
def pc_145 : List pm_I := [
  (0, .aload_n 0, 1, 0, 0, []),
  (1, .getfield 12, 3, 11, 0, []),
  (4, .getfield 55, 3, 9, 5, []),
  (7, .iload_n 1, 1, 0, 0, []),
  (8, .invokevirtual 80, 3, 82, 1, [6]),
  (11, .ifCond .eq 20, 3, 13, 0, []),
  (14, .iload_n 2, 1, 0, 0, []),
  (15, .aload_n 0, 1, 0, 0, []),
  (16, .getfield 12, 3, 11, 0, []),
  (19, .getfield 55, 3, 9, 5, []),
  (22, .getfield 194, 3, 6, 0, []),
  (25, .invokestatic 197, 3, 155, 2, []),
  (28, .ifCond .ne 5, 3, 15, 0, []),
  (31, .iconst (-1), 1, 1, 1, []),
  (32, .ireturn, 1, 0, 0, []),
  (33, .aload_n 0, 1, 0, 0, []),
  (34, .getfield 49, 3, 11, 6, []),
  (37, .iload_n 1, 1, 0, 0, []),
  (38, .iload_n 2, 1, 0, 0, []),
  (39, .invokevirtual 200, 3, 105, 2, [8]),
  (42, .aload_n 0, 1, 0, 0, []),
  (43, .getfield 49, 3, 11, 6, []),
  (46, .iload_n 2, 1, 0, 0, []),
  (47, .invokevirtual 204, 3, 108, 1, [8]),
  (50, .ireturn, 1, 0, 0, [])]
/-- PaidWhereMade.share -/
def pc_146 : List pm_I := [
  (0, .aload_n 0, 1, 0, 0, []),
  (1, .getfield 12, 3, 11, 0, []),
  (4, .getfield 55, 3, 9, 5, []),
  (7, .iload_n 1, 1, 0, 0, []),
  (8, .invokevirtual 80, 3, 82, 1, [6]),
  (11, .ifCond .eq 38, 3, 21, 0, []),
  (14, .iload_n 2, 1, 0, 0, []),
  (15, .aload_n 0, 1, 0, 0, []),
  (16, .getfield 12, 3, 11, 0, []),
  (19, .getfield 84, 3, 9, 6, []),
  (22, .getfield 207, 3, 4, 0, []),
  (25, .invokestatic 197, 3, 155, 2, []),
  (28, .ifCond .eq 21, 3, 21, 0, []),
  (31, .aload_n 0, 1, 0, 0, []),
  (32, .getfield 12, 3, 11, 0, []),
  (35, .getfield 84, 3, 9, 6, []),
  (38, .iload_n 3, 1, 0, 0, []),
  (39, .invokevirtual 93, 3, 61, 1, [4]),
  (42, .ifCond .eq 7, 3, 21, 0, []),
  (45, .iconst 1, 1, 1, 0, []),
  (46, .goto 4, 3, 22, 0, []),
  (49, .iconst 0, 1, 0, 0, []),
  (50, .istore 5, 2, 0, 0, []),
  (52, .iload 5, 2, 0, 0, []),
  (54, .ifCond .eq 14, 3, 30, 0, []),
  (57, .iload 4, 2, 0, 0, []),
  (59, .ifCond .eq 11, 3, 32, 0, []),
  (62, .iload 4, 2, 0, 0, []),
  (64, .iconst 1, 1, 1, 0, []),
  (65, .if_icmp .eq 5, 3, 32, 0, []),
  (68, .iconst (-1), 1, 1, 1, []),
  (69, .ireturn, 1, 0, 0, []),
  (70, .aload_n 0, 1, 0, 0, []),
  (71, .getfield 49, 3, 11, 6, []),
  (74, .iload_n 1, 1, 0, 0, []),
  (75, .iload_n 2, 1, 0, 0, []),
  (76, .iload_n 3, 1, 0, 0, []),
  (77, .iload 4, 2, 0, 0, []),
  (79, .ifCond .ne 7, 3, 41, 0, []),
  (82, .iconst 1, 1, 1, 0, []),
  (83, .goto 4, 3, 42, 0, []),
  (86, .iconst 0, 1, 0, 0, []),
  (87, .invokevirtual 208, 3, 109, 4, [8]),
  (90, .ireturn, 1, 0, 0, [])]
/-- PaidWhereMade.chance -/
def pc_147 : List pm_I := [
  (0, .aload_n 0, 1, 0, 0, []),
  (1, .getfield 12, 3, 11, 0, []),
  (4, .getfield 55, 3, 9, 5, []),
  (7, .iload_n 1, 1, 0, 0, []),
  (8, .iload_n 2, 1, 0, 0, []),
  (9, .iload_n 3, 1, 0, 0, []),
  (10, .invokevirtual 212, 3, 86, 3, [6]),
  (13, .ireturn, 1, 0, 0, [])]
/-- PaidWhereMade.waiting -/
def pc_148 : List pm_I := [
  (0, .aload_n 0, 1, 0, 0, []),
  (1, .getfield 12, 3, 11, 0, []),
  (4, .getfield 55, 3, 9, 5, []),
  (7, .iload_n 1, 1, 0, 0, []),
  (8, .invokevirtual 80, 3, 82, 1, [6]),
  (11, .ifCond .eq 14, 3, 12, 0, []),
  (14, .iload_n 2, 1, 0, 0, []),
  (15, .iconst 1, 1, 1, 0, []),
  (16, .if_icmp .lt 9, 3, 12, 0, []),
  (19, .iload_n 2, 1, 0, 0, []),
  (20, .bipush 8, 2, 8, 0, []),
  (22, .if_icmp .le 7, 3, 14, 0, []),
  (25, .ldc2_w 215, 3, 1, 1, []),
  (28, .lreturn, 1, 0, 0, []),
  (29, .aload_n 0, 1, 0, 0, []),
  (30, .getfield 62, 3, 11, 7, []),
  (33, .iload_n 1, 1, 0, 0, []),
  (34, .iload_n 2, 1, 0, 0, []),
  (35, .iload_n 3, 1, 0, 0, []),
  (36, .invokevirtual 217, 3, 121, 3, [10]),
  (39, .lreturn, 1, 0, 0, [])]
/-- PaidWhereMade.line -/
def pc_149 : List pm_I := [
  (0, .iload_n 3, 1, 0, 0, []),
  (1, .iconst (-1), 1, 1, 1, []),
  (2, .if_icmp .ne 22, 3, 11, 0, []),
  (5, .aload_n 0, 1, 0, 0, []),
  (6, .getfield 12, 3, 11, 0, []),
  (9, .getfield 55, 3, 9, 5, []),
  (12, .iload 4, 2, 0, 0, []),
  (14, .invokevirtual 80, 3, 82, 1, [6]),
  (17, .ifCond .eq 7, 3, 11, 0, []),
  (20, .iconst 1, 1, 1, 0, []),
  (21, .goto 4, 3, 12, 0, []),
  (24, .iconst 0, 1, 0, 0, []),
  (25, .istore 5, 2, 0, 0, []),
  (27, .iload 4, 2, 0, 0, []),
  (29, .iconst (-1), 1, 1, 1, []),
  (30, .if_icmp .ne 26, 3, 27, 0, []),
  (33, .aload_n 0, 1, 0, 0, []),
  (34, .getfield 12, 3, 11, 0, []),
  (37, .getfield 84, 3, 9, 6, []),
  (40, .iload_n 3, 1, 0, 0, []),
  (41, .invokevirtual 93, 3, 61, 1, [4]),
  (44, .ifCond .eq 12, 3, 27, 0, []),
  (47, .iload_n 2, 1, 0, 0, []),
  (48, .iload_n 3, 1, 0, 0, []),
  (49, .if_icmp .eq 7, 3, 27, 0, []),
  (52, .iconst 1, 1, 1, 0, []),
  (53, .goto 4, 3, 28, 0, []),
  (56, .iconst 0, 1, 0, 0, []),
  (57, .istore 6, 2, 0, 0, []),
  (59, .iload_n 1, 1, 0, 0, []),
  (60, .invokestatic 221, 3, 154, 1, []),
  (63, .ifCond .eq 27, 3, 42, 0, []),
  (66, .aload_n 0, 1, 0, 0, []),
  (67, .getfield 12, 3, 11, 0, []),
  (70, .getfield 84, 3, 9, 6, []),
  (73, .iload_n 2, 1, 0, 0, []),
  (74, .invokevirtual 93, 3, 61, 1, [4]),
  (77, .ifCond .eq 13, 3, 42, 0, []),
  (80, .iload 5, 2, 0, 0, []),
  (82, .ifCond .ne 10, 3, 44, 0, []),
  (85, .iload 6, 2, 0, 0, []),
  (87, .ifCond .ne 5, 3, 44, 0, []),
  (90, .iconst (-1), 1, 1, 1, []),
  (91, .ireturn, 1, 0, 0, []),
  (92, .aload_n 0, 1, 0, 0, []),
  (93, .getfield 12, 3, 11, 0, []),
  (96, .getfield 224, 3, 9, 8, []),
  (99, .iload_n 1, 1, 0, 0, []),
  (100, .iload_n 2, 1, 0, 0, []),
  (101, .iload_n 3, 1, 0, 0, []),
  (102, .iload 4, 2, 0, 0, []),
  (104, .invokevirtual 228, 3, 51, 4, [3]),
  (107, .ireturn, 1, 0, 0, [])]
/-- PaidWhereMade.wrong -/
def pc_150 : List pm_I := [
  (0, .iload_n 1, 1, 0, 0, []),
  (1, .invokestatic 221, 3, 154, 1, []),
  (4, .ifCond .eq 17, 3, 9, 0, []),
  (7, .aload_n 0, 1, 0, 0, []),
  (8, .getfield 12, 3, 11, 0, []),
  (11, .getfield 224, 3, 9, 8, []),
  (14, .iload_n 1, 1, 0, 0, []),
  (15, .invokevirtual 233, 3, 52, 1, [3]),
  (18, .goto 4, 3, 10, 0, []),
  (21, .iconst (-1), 1, 1, 1, []),
  (22, .ireturn, 1, 0, 0, [])]
/-- PaidWhereMade.image -/
def pc_151 : List pm_I := [
  (0, .iload_n 1, 1, 0, 0, []),
  (1, .ifCond .eq 22, 3, 11, 0, []),
  (4, .aload_n 0, 1, 0, 0, []),
  (5, .getfield 16, 3, 11, 1, []),
  (8, .aload_n 0, 1, 0, 0, []),
  (9, .getfield 12, 3, 11, 0, []),
  (12, .invokevirtual 236, 3, 119, 1, [9]),
  (15, .aload_n 0, 1, 0, 0, []),
  (16, .iconst 1, 1, 1, 0, []),
  (17, .putfield 19, 3, 11, 2, [1]),
  (20, .goto 21, 3, 19, 0, []),
  (23, .aload_n 0, 1, 0, 0, []),
  (24, .getfield 19, 3, 11, 2, []),
  (27, .ifCond .eq 14, 3, 19, 0, []),
  (30, .aload_n 0, 1, 0, 0, []),
  (31, .getfield 12, 3, 11, 0, []),
  (34, .aload_n 0, 1, 0, 0, []),
  (35, .getfield 16, 3, 11, 1, []),
  (38, .invokevirtual 236, 3, 119, 1, [9]),
  (41, .aload_n 0, 1, 0, 0, []),
  (42, .getfield 19, 3, 11, 2, []),
  (45, .ireturn, 1, 0, 0, [])]
/-- PaidWhereMade.look -/
def pc_152 : List pm_I := [
  (0, .iload_n 1, 1, 0, 0, []),
  (1, .tableswitch 161 0 9 #[55, 66, 77, 88, 99, 107, 115, 123, 134, 145], 55, 52, 0, [2, 7, 12, 17, 22, 26, 30, 34, 39, 44]),
  (56, .aload_n 0, 1, 0, 0, []),
  (57, .getfield 12, 3, 11, 0, []),
  (60, .getfield 55, 3, 9, 5, []),
  (63, .getfield 194, 3, 6, 0, []),
  (66, .ireturn, 1, 0, 0, []),
  (67, .aload_n 0, 1, 0, 0, []),
  (68, .getfield 12, 3, 11, 0, []),
  (71, .getfield 84, 3, 9, 6, []),
  (74, .getfield 207, 3, 4, 0, []),
  (77, .ireturn, 1, 0, 0, []),
  (78, .aload_n 0, 1, 0, 0, []),
  (79, .getfield 12, 3, 11, 0, []),
  (82, .getfield 94, 3, 9, 7, []),
  (85, .getfield 239, 3, 0, 0, []),
  (88, .ireturn, 1, 0, 0, []),
  (89, .aload_n 0, 1, 0, 0, []),
  (90, .getfield 12, 3, 11, 0, []),
  (93, .getfield 94, 3, 9, 7, []),
  (96, .invokevirtual 240, 3, 5, 0, [0]),
  (99, .ireturn, 1, 0, 0, []),
  (100, .aload_n 0, 1, 0, 0, []),
  (101, .getfield 12, 3, 11, 0, []),
  (104, .getfield 98, 3, 9, 1, []),
  (107, .ireturn, 1, 0, 0, []),
  (108, .aload_n 0, 1, 0, 0, []),
  (109, .getfield 12, 3, 11, 0, []),
  (112, .getfield 243, 3, 9, 2, []),
  (115, .ireturn, 1, 0, 0, []),
  (116, .aload_n 0, 1, 0, 0, []),
  (117, .getfield 12, 3, 11, 0, []),
  (120, .getfield 66, 3, 9, 0, []),
  (123, .ireturn, 1, 0, 0, []),
  (124, .aload_n 0, 1, 0, 0, []),
  (125, .getfield 12, 3, 11, 0, []),
  (128, .getfield 224, 3, 9, 8, []),
  (131, .getfield 246, 3, 3, 0, []),
  (134, .ireturn, 1, 0, 0, []),
  (135, .aload_n 0, 1, 0, 0, []),
  (136, .getfield 12, 3, 11, 0, []),
  (139, .getfield 120, 3, 9, 9, []),
  (142, .getfield 247, 3, 1, 0, []),
  (145, .ireturn, 1, 0, 0, []),
  (146, .aload_n 0, 1, 0, 0, []),
  (147, .getfield 12, 3, 11, 0, []),
  (150, .getfield 251, 3, 9, 3, []),
  (153, .ifCond .eq 7, 3, 50, 0, []),
  (156, .iconst 1, 1, 1, 0, []),
  (157, .goto 4, 3, 51, 0, []),
  (160, .iconst 0, 1, 0, 0, []),
  (161, .ireturn, 1, 0, 0, []),
  (162, .aload_n 0, 1, 0, 0, []),
  (163, .iload_n 1, 1, 0, 0, []),
  (164, .invokevirtual 254, 3, 153, 1, [11]),
  (167, .ireturn, 1, 0, 0, [])]
/-- PaidWhereMade.lookAtSetting -/
def pc_153 : List pm_I := [
  (0, .iload_n 1, 1, 0, 0, []),
  (1, .bipush 20, 2, 20, 0, []),
  (3, .if_icmp .lt 9, 3, 6, 0, []),
  (6, .iload_n 1, 1, 0, 0, []),
  (7, .bipush 24, 2, 24, 0, []),
  (9, .if_icmp .lt 5, 3, 8, 0, []),
  (12, .iconst (-1), 1, 1, 1, []),
  (13, .ireturn, 1, 0, 0, []),
  (14, .aload_n 0, 1, 0, 0, []),
  (15, .getfield 12, 3, 11, 0, []),
  (18, .getfield 257, 3, 9, 4, []),
  (21, .iload_n 1, 1, 0, 0, []),
  (22, .bipush 20, 2, 20, 0, []),
  (24, .isub, 1, 0, 0, []),
  (25, .iaload, 1, 0, 0, []),
  (26, .ireturn, 1, 0, 0, [])]
/-- PaidWhereMade.isSunday -/
def pc_154 : List pm_I := [
  (0, .iload_n 0, 1, 0, 0, []),
  (1, .ifCond .lt 14, 3, 7, 0, []),
  (4, .iload_n 0, 1, 0, 0, []),
  (5, .sipush 9999, 3, 9999, 0, []),
  (8, .if_icmp .gt 7, 3, 7, 0, []),
  (11, .iconst 1, 1, 1, 0, []),
  (12, .goto 4, 3, 8, 0, []),
  (15, .iconst 0, 1, 0, 0, []),
  (16, .ireturn, 1, 0, 0, [])]
/-- PaidWhereMade.isSetOf -/
def pc_155 : List pm_I := [
  (0, .iload_n 0, 1, 0, 0, []),
  (1, .ifCond .lt 14, 3, 9, 0, []),
  (4, .iload_n 0, 1, 0, 0, []),
  (5, .iconst 1, 1, 1, 0, []),
  (6, .iload_n 1, 1, 0, 0, []),
  (7, .ishl, 1, 0, 0, []),
  (8, .if_icmp .ge 7, 3, 9, 0, []),
  (11, .iconst 1, 1, 1, 0, []),
  (12, .goto 4, 3, 10, 0, []),
  (15, .iconst 0, 1, 0, 0, []),
  (16, .ireturn, 1, 0, 0, [])]
/-- PaidWhereMade.isIn -/
def pc_156 : List pm_I := [
  (0, .iload_n 1, 1, 0, 0, []),
  (1, .iload_n 0, 1, 0, 0, []),
  (2, .ishr, 1, 0, 0, []),
  (3, .iconst 1, 1, 1, 0, []),
  (4, .iand, 1, 0, 0, []),
  (5, .iconst 1, 1, 1, 0, []),
  (6, .if_icmp .ne 7, 3, 9, 0, []),
  (9, .iconst 1, 1, 1, 0, []),
  (10, .goto 4, 3, 10, 0, []),
  (13, .iconst 0, 1, 0, 0, []),
  (14, .ireturn, 1, 0, 0, [])]
/-- PaidWhereMade.copyRow -/
def pc_157 : List pm_I := [
  (0, .aload_n 0, 1, 0, 0, []),
  (1, .iconst 0, 1, 0, 0, []),
  (2, .aload_n 1, 1, 0, 0, []),
  (3, .iconst 0, 1, 0, 0, []),
  (4, .aload_n 0, 1, 0, 0, []),
  (5, .arraylength, 1, 0, 0, []),
  (6, .aload_n 1, 1, 0, 0, []),
  (7, .arraylength, 1, 0, 0, []),
  (8, .invokestatic 260, 3, 1000, 2, []),
  (11, .invokestatic 265, 3, 1003, 5, []),
  (14, .return_, 1, 0, 0, [])]
/-- Model.init -/
def pc_158 : List pm_I := [
  (0, .aload_n 0, 1, 0, 0, []),
  (1, .invokespecial 1, 3, 1004, 0, []),
  (4, .aload_n 0, 1, 0, 0, []),
  (5, .bipush 10, 2, 10, 0, []),
  (7, .newarray .int, 2, 0, 0, []),
  (9, .putfield 7, 3, 12, 3, [2]),
  (12, .aload_n 0, 1, 0, 0, []),
  (13, .bipush 100, 2, 100, 0, []),
  (15, .newarray .int, 2, 0, 0, []),
  (17, .putfield 13, 3, 12, 4, [2]),
  (20, .aload_n 0, 1, 0, 0, []),
  (21, .bipush 10, 2, 10, 0, []),
  (23, .newarray .int, 2, 0, 0, []),
  (25, .putfield 16, 3, 12, 6, [2]),
  (28, .aload_n 0, 1, 0, 0, []),
  (29, .bipush 10, 2, 10, 0, []),
  (31, .newarray .int, 2, 0, 0, []),
  (33, .putfield 19, 3, 12, 7, [2]),
  (36, .aload_n 0, 1, 0, 0, []),
  (37, .bipush 10, 2, 10, 0, []),
  (39, .newarray .int, 2, 0, 0, []),
  (41, .putfield 22, 3, 12, 8, [2]),
  (44, .aload_n 0, 1, 0, 0, []),
  (45, .bipush 10, 2, 10, 0, []),
  (47, .newarray .int, 2, 0, 0, []),
  (49, .putfield 25, 3, 12, 9, [2]),
  (52, .aload_n 0, 1, 0, 0, []),
  (53, .bipush 10, 2, 10, 0, []),
  (55, .newarray .int, 2, 0, 0, []),
  (57, .putfield 28, 3, 12, 10, [2]),
  (60, .aload_n 0, 1, 0, 0, []),
  (61, .bipush 30, 2, 30, 0, []),
  (63, .newarray .int, 2, 0, 0, []),
  (65, .putfield 31, 3, 12, 12, [2]),
  (68, .aload_n 0, 1, 0, 0, []),
  (69, .bipush 30, 2, 30, 0, []),
  (71, .newarray .int, 2, 0, 0, []),
  (73, .putfield 34, 3, 12, 13, [2]),
  (76, .aload_n 0, 1, 0, 0, []),
  (77, .bipush 30, 2, 30, 0, []),
  (79, .newarray .int, 2, 0, 0, []),
  (81, .putfield 37, 3, 12, 14, [2]),
  (84, .aload_n 0, 1, 0, 0, []),
  (85, .bipush 30, 2, 30, 0, []),
  (87, .newarray .int, 2, 0, 0, []),
  (89, .putfield 40, 3, 12, 15, [2]),
  (92, .aload_n 0, 1, 0, 0, []),
  (93, .bipush 30, 2, 30, 0, []),
  (95, .newarray .int, 2, 0, 0, []),
  (97, .putfield 43, 3, 12, 16, [2]),
  (100, .aload_n 0, 1, 0, 0, []),
  (101, .bipush 30, 2, 30, 0, []),
  (103, .newarray .int, 2, 0, 0, []),
  (105, .putfield 46, 3, 12, 17, [2]),
  (108, .aload_n 0, 1, 0, 0, []),
  (109, .bipush 30, 2, 30, 0, []),
  (111, .newarray .int, 2, 0, 0, []),
  (113, .putfield 49, 3, 12, 18, [2]),
  (116, .aload_n 0, 1, 0, 0, []),
  (117, .iconst 4, 1, 4, 0, []),
  (118, .newarray .int, 2, 0, 0, []),
  (120, .dup, 1, 0, 0, []),
  (121, .iconst 0, 1, 0, 0, []),
  (122, .iconst 0, 1, 0, 0, []),
  (123, .iastore, 1, 0, 0, []),
  (124, .dup, 1, 0, 0, []),
  (125, .iconst 1, 1, 1, 0, []),
  (126, .iconst 0, 1, 0, 0, []),
  (127, .iastore, 1, 0, 0, []),
  (128, .dup, 1, 0, 0, []),
  (129, .iconst 2, 1, 2, 0, []),
  (130, .iconst 0, 1, 0, 0, []),
  (131, .iastore, 1, 0, 0, []),
  (132, .dup, 1, 0, 0, []),
  (133, .iconst 3, 1, 3, 0, []),
  (134, .iconst 4, 1, 4, 0, []),
  (135, .iastore, 1, 0, 0, []),
  (136, .putfield 52, 3, 12, 22, [2]),
  (139, .aload_n 0, 1, 0, 0, []),
  (140, .bipush 30, 2, 30, 0, []),
  (142, .newarray .int, 2, 0, 0, []),
  (144, .putfield 55, 3, 12, 24, [2]),
  (147, .aload_n 0, 1, 0, 0, []),
  (148, .bipush 30, 2, 30, 0, []),
  (150, .newarray .int, 2, 0, 0, []),
  (152, .putfield 58, 3, 12, 25, [2]),
  (155, .aload_n 0, 1, 0, 0, []),
  (156, .bipush 30, 2, 30, 0, []),
  (158, .newarray .int, 2, 0, 0, []),
  (160, .putfield 61, 3, 12, 26, [2]),
  (163, .aload_n 0, 1, 0, 0, []),
  (164, .bipush 30, 2, 30, 0, []),
  (166, .newarray .int, 2, 0, 0, []),
  (168, .putfield 64, 3, 12, 27, [2]),
  (171, .aload_n 0, 1, 0, 0, []),
  (172, .bipush 80, 2, 80, 0, []),
  (174, .newarray .int, 2, 0, 0, []),
  (176, .putfield 67, 3, 12, 28, [2]),
  (179, .aload_n 0, 1, 0, 0, []),
  (180, .sipush 400, 3, 400, 0, []),
  (183, .newarray .int, 2, 0, 0, []),
  (185, .putfield 70, 3, 12, 29, [2]),
  (188, .aload_n 0, 1, 0, 0, []),
  (189, .bipush 80, 2, 80, 0, []),
  (191, .newarray .int, 2, 0, 0, []),
  (193, .dup, 1, 0, 0, []),
  (194, .iconst 0, 1, 0, 0, []),
  (195, .bipush 32, 2, 32, 0, []),
  (197, .iastore, 1, 0, 0, []),
  (198, .dup, 1, 0, 0, []),
  (199, .iconst 1, 1, 1, 0, []),
  (200, .bipush 112, 2, 112, 0, []),
  (202, .iastore, 1, 0, 0, []),
  (203, .dup, 1, 0, 0, []),
  (204, .iconst 2, 1, 2, 0, []),
  (205, .bipush 97, 2, 97, 0, []),
  (207, .iastore, 1, 0, 0, []),
  (208, .dup, 1, 0, 0, []),
  (209, .iconst 3, 1, 3, 0, []),
  (210, .bipush 121, 2, 121, 0, []),
  (212, .iastore, 1, 0, 0, []),
  (213, .dup, 1, 0, 0, []),
  (214, .iconst 4, 1, 4, 0, []),
  (215, .bipush 32, 2, 32, 0, []),
  (217, .iastore, 1, 0, 0, []),
  (218, .dup, 1, 0, 0, []),
  (219, .iconst 5, 1, 5, 0, []),
  (220, .bipush 98, 2, 98, 0, []),
  (222, .iastore, 1, 0, 0, []),
  (223, .dup, 1, 0, 0, []),
  (224, .bipush 6, 2, 6, 0, []),
  (226, .bipush 97, 2, 97, 0, []),
  (228, .iastore, 1, 0, 0, []),
  (229, .dup, 1, 0, 0, []),
  (230, .bipush 7, 2, 7, 0, []),
  (232, .bipush 114, 2, 114, 0, []),
  (234, .iastore, 1, 0, 0, []),
  (235, .dup, 1, 0, 0, []),
  (236, .bipush 8, 2, 8, 0, []),
  (238, .bipush 32, 2, 32, 0, []),
  (240, .iastore, 1, 0, 0, []),
  (241, .dup, 1, 0, 0, []),
  (242, .bipush 9, 2, 9, 0, []),
  (244, .bipush 119, 2, 119, 0, []),
  (246, .iastore, 1, 0, 0, []),
  (247, .dup, 1, 0, 0, []),
  (248, .bipush 10, 2, 10, 0, []),
  (250, .bipush 104, 2, 104, 0, []),
  (252, .iastore, 1, 0, 0, []),
  (253, .dup, 1, 0, 0, []),
  (254, .bipush 11, 2, 11, 0, []),
  (256, .bipush 101, 2, 101, 0, []),
  (258, .iastore, 1, 0, 0, []),
  (259, .dup, 1, 0, 0, []),
  (260, .bipush 12, 2, 12, 0, []),
  (262, .bipush 110, 2, 110, 0, []),
  (264, .iastore, 1, 0, 0, []),
  (265, .dup, 1, 0, 0, []),
  (266, .bipush 13, 2, 13, 0, []),
  (268, .bipush 32, 2, 32, 0, []),
  (270, .iastore, 1, 0, 0, []),
  (271, .dup, 1, 0, 0, []),
  (272, .bipush 14, 2, 14, 0, []),
  (274, .bipush 111, 2, 111, 0, []),
  (276, .iastore, 1, 0, 0, []),
  (277, .dup, 1, 0, 0, []),
  (278, .bipush 15, 2, 15, 0, []),
  (280, .bipush 114, 2, 114, 0, []),
  (282, .iastore, 1, 0, 0, []),
  (283, .dup, 1, 0, 0, []),
  (284, .bipush 16, 2, 16, 0, []),
  (286, .bipush 32, 2, 32, 0, []),
  (288, .iastore, 1, 0, 0, []),
  (289, .dup, 1, 0, 0, []),
  (290, .bipush 17, 2, 17, 0, []),
  (292, .bipush 97, 2, 97, 0, []),
  (294, .iastore, 1, 0, 0, []),
  (295, .dup, 1, 0, 0, []),
  (296, .bipush 18, 2, 18, 0, []),
  (298, .bipush 110, 2, 110, 0, []),
  (300, .iastore, 1, 0, 0, []),
  (301, .dup, 1, 0, 0, []),
  (302, .bipush 19, 2, 19, 0, []),
  (304, .bipush 100, 2, 100, 0, []),
  (306, .iastore, 1, 0, 0, []),
  (307, .dup, 1, 0, 0, []),
  (308, .bipush 20, 2, 20, 0, []),
  (310, .bipush 32, 2, 32, 0, []),
  (312, .iastore, 1, 0, 0, []),
  (313, .dup, 1, 0, 0, []),
  (314, .bipush 21, 2, 21, 0, []),
  (316, .bipush 110, 2, 110, 0, []),
  (318, .iastore, 1, 0, 0, []),
  (319, .dup, 1, 0, 0, []),
  (320, .bipush 22, 2, 22, 0, []),
  (322, .bipush 111, 2, 111, 0, []),
  (324, .iastore, 1, 0, 0, []),
  (325, .dup, 1, 0, 0, []),
  (326, .bipush 23, 2, 23, 0, []),
  (328, .bipush 116, 2, 116, 0, []),
  (330, .iastore, 1, 0, 0, []),
  (331, .dup, 1, 0, 0, []),
  (332, .bipush 24, 2, 24, 0, []),
  (334, .bipush 32, 2, 32, 0, []),
  (336, .iastore, 1, 0, 0, []),
  (337, .dup, 1, 0, 0, []),
  (338, .bipush 25, 2, 25, 0, []),
  (340, .bipush 99, 2, 99, 0, []),
  (342, .iastore, 1, 0, 0, []),
  (343, .dup, 1, 0, 0, []),
  (344, .bipush 26, 2, 26, 0, []),
  (346, .bipush 111, 2, 111, 0, []),
  (348, .iastore, 1, 0, 0, []),
  (349, .dup, 1, 0, 0, []),
  (350, .bipush 27, 2, 27, 0, []),
  (352, .bipush 105, 2, 105, 0, []),
  (354, .iastore, 1, 0, 0, []),
  (355, .dup, 1, 0, 0, []),
  (356, .bipush 28, 2, 28, 0, []),
  (358, .bipush 110, 2, 110, 0, []),
  (360, .iastore, 1, 0, 0, []),
  (361, .dup, 1, 0, 0, []),
  (362, .bipush 29, 2, 29, 0, []),
  (364, .bipush 115, 2, 115, 0, []),
  (366, .iastore, 1, 0, 0, []),
  (367, .dup, 1, 0, 0, []),
  (368, .bipush 30, 2, 30, 0, []),
  (370, .bipush 32, 2, 32, 0, []),
  (372, .iastore, 1, 0, 0, []),
  (373, .dup, 1, 0, 0, []),
  (374, .bipush 31, 2, 31, 0, []),
  (376, .bipush 97, 2, 97, 0, []),
  (378, .iastore, 1, 0, 0, []),
  (379, .dup, 1, 0, 0, []),
  (380, .bipush 32, 2, 32, 0, []),
  (382, .bipush 103, 2, 103, 0, []),
  (384, .iastore, 1, 0, 0, []),
  (385, .dup, 1, 0, 0, []),
  (386, .bipush 33, 2, 33, 0, []),
  (388, .bipush 101, 2, 101, 0, []),
  (390, .iastore, 1, 0, 0, []),
  (391, .dup, 1, 0, 0, []),
  (392, .bipush 34, 2, 34, 0, []),
  (394, .bipush 32, 2, 32, 0, []),
  (396, .iastore, 1, 0, 0, []),
  (397, .dup, 1, 0, 0, []),
  (398, .bipush 35, 2, 35, 0, []),
  (400, .bipush 112, 2, 112, 0, []),
  (402, .iastore, 1, 0, 0, []),
  (403, .dup, 1, 0, 0, []),
  (404, .bipush 36, 2, 36, 0, []),
  (406, .bipush 117, 2, 117, 0, []),
  (408, .iastore, 1, 0, 0, []),
  (409, .dup, 1, 0, 0, []),
  (410, .bipush 37, 2, 37, 0, []),
  (412, .bipush 114, 2, 114, 0, []),
  (414, .iastore, 1, 0, 0, []),
  (415, .dup, 1, 0, 0, []),
  (416, .bipush 38, 2, 38, 0, []),
  (418, .bipush 115, 2, 115, 0, []),
  (420, .iastore, 1, 0, 0, []),
  (421, .dup, 1, 0, 0, []),
  (422, .bipush 39, 2, 39, 0, []),
  (424, .bipush 101, 2, 101, 0, []),
  (426, .iastore, 1, 0, 0, []),
  (427, .dup, 1, 0, 0, []),
  (428, .bipush 40, 2, 40, 0, []),
  (430, .bipush 32, 2, 32, 0, []),
  (432, .iastore, 1, 0, 0, []),
  (433, .dup, 1, 0, 0, []),
  (434, .bipush 41, 2, 41, 0, []),
  (436, .bipush 115, 2, 115, 0, []),
  (438, .iastore, 1, 0, 0, []),
  (439, .dup, 1, 0, 0, []),
  (440, .bipush 42, 2, 42, 0, []),
  (442, .bipush 112, 2, 112, 0, []),
  (444, .iastore, 1, 0, 0, []),
  (445, .dup, 1, 0, 0, []),
  (446, .bipush 43, 2, 43, 0, []),
  (448, .bipush 111, 2, 111, 0, []),
  (450, .iastore, 1, 0, 0, []),
  (451, .dup, 1, 0, 0, []),
  (452, .bipush 44, 2, 44, 0, []),
  (454, .bipush 116, 2, 116, 0, []),
  (456, .iastore, 1, 0, 0, []),
  (457, .dup, 1, 0, 0, []),
  (458, .bipush 45, 2, 45, 0, []),
  (460, .bipush 32, 2, 32, 0, []),
  (462, .iastore, 1, 0, 0, []),
  (463, .dup, 1, 0, 0, []),
  (464, .bipush 46, 2, 46, 0, []),
  (466, .bipush 121, 2, 121, 0, []),
  (468, .iastore, 1, 0, 0, []),
  (469, .dup, 1, 0, 0, []),
  (470, .bipush 47, 2, 47, 0, []),
  (472, .bipush 101, 2, 101, 0, []),
  (474, .iastore, 1, 0, 0, []),
  (475, .dup, 1, 0, 0, []),
  (476, .bipush 48, 2, 48, 0, []),
  (478, .bipush 97, 2, 97, 0, []),
  (480, .iastore, 1, 0, 0, []),
  (481, .dup, 1, 0, 0, []),
  (482, .bipush 49, 2, 49, 0, []),
  (484, .bipush 114, 2, 114, 0, []),
  (486, .iastore, 1, 0, 0, []),
  (487, .dup, 1, 0, 0, []),
  (488, .bipush 50, 2, 50, 0, []),
  (490, .bipush 115, 2, 115, 0, []),
  (492, .iastore, 1, 0, 0, []),
  (493, .dup, 1, 0, 0, []),
  (494, .bipush 51, 2, 51, 0, []),
  (496, .bipush 32, 2, 32, 0, []),
  (498, .iastore, 1, 0, 0, []),
  (499, .dup, 1, 0, 0, []),
  (500, .bipush 52, 2, 52, 0, []),
  (502, .bipush 104, 2, 104, 0, []),
  (504, .iastore, 1, 0, 0, []),
  (505, .dup, 1, 0, 0, []),
  (506, .bipush 53, 2, 53, 0, []),
  (508, .bipush 101, 2, 101, 0, []),
  (510, .iastore, 1, 0, 0, []),
  (511, .dup, 1, 0, 0, []),
  (512, .bipush 54, 2, 54, 0, []),
  (514, .bipush 114, 2, 114, 0, []),
  (516, .iastore, 1, 0, 0, []),
  (517, .dup, 1, 0, 0, []),
  (518, .bipush 55, 2, 55, 0, []),
  (520, .bipush 101, 2, 101, 0, []),
  (522, .iastore, 1, 0, 0, []),
  (523, .dup, 1, 0, 0, []),
  (524, .bipush 56, 2, 56, 0, []),
  (526, .bipush 32, 2, 32, 0, []),
  (528, .iastore, 1, 0, 0, []),
  (529, .dup, 1, 0, 0, []),
  (530, .bipush 57, 2, 57, 0, []),
  (532, .bipush 100, 2, 100, 0, []),
  (534, .iastore, 1, 0, 0, []),
  (535, .dup, 1, 0, 0, []),
  (536, .bipush 58, 2, 58, 0, []),
  (538, .bipush 101, 2, 101, 0, []),
  (540, .iastore, 1, 0, 0, []),
  (541, .dup, 1, 0, 0, []),
  (542, .bipush 59, 2, 59, 0, []),
  (544, .bipush 98, 2, 98, 0, []),
  (546, .iastore, 1, 0, 0, []),
  (547, .dup, 1, 0, 0, []),
  (548, .bipush 60, 2, 60, 0, []),
  (550, .bipush 116, 2, 116, 0, []),
  (552, .iastore, 1, 0, 0, []),
  (553, .dup, 1, 0, 0, []),
  (554, .bipush 61, 2, 61, 0, []),
  (556, .bipush 111, 2, 111, 0, []),
  (558, .iastore, 1, 0, 0, []),
  (559, .dup, 1, 0, 0, []),
  (560, .bipush 62, 2, 62, 0, []),
  (562, .bipush 114, 2, 114, 0, []),
  (564, .iastore, 1, 0, 0, []),
  (565, .dup, 1, 0, 0, []),
  (566, .bipush 63, 2, 63, 0, []),
  (568, .bipush 32, 2, 32, 0, []),
  (570, .iastore, 1, 0, 0, []),
  (571, .dup, 1, 0, 0, []),
  (572, .bipush 64, 2, 64, 0, []),
  (574, .bipush 99, 2, 99, 0, []),
  (576, .iastore, 1, 0, 0, []),
  (577, .dup, 1, 0, 0, []),
  (578, .bipush 65, 2, 65, 0, []),
  (580, .bipush 114, 2, 114, 0, []),
  (582, .iastore, 1, 0, 0, []),
  (583, .dup, 1, 0, 0, []),
  (584, .bipush 66, 2, 66, 0, []),
  (586, .bipush 101, 2, 101, 0, []),
  (588, .iastore, 1, 0, 0, []),
  (589, .dup, 1, 0, 0, []),
  (590, .bipush 67, 2, 67, 0, []),
  (592, .bipush 100, 2, 100, 0, []),
  (594, .iastore, 1, 0, 0, []),
  (595, .dup, 1, 0, 0, []),
  (596, .bipush 68, 2, 68, 0, []),
  (598, .bipush 105, 2, 105, 0, []),
  (600, .iastore, 1, 0, 0, []),
  (601, .dup, 1, 0, 0, []),
  (602, .bipush 69, 2, 69, 0, []),
  (604, .bipush 116, 2, 116, 0, []),
  (606, .iastore, 1, 0, 0, []),
  (607, .dup, 1, 0, 0, []),
  (608, .bipush 70, 2, 70, 0, []),
  (610, .bipush 111, 2, 111, 0, []),
  (612, .iastore, 1, 0, 0, []),
  (613, .dup, 1, 0, 0, []),
  (614, .bipush 71, 2, 71, 0, []),
  (616, .bipush 114, 2, 114, 0, []),
  (618, .iastore, 1, 0, 0, []),
  (619, .dup, 1, 0, 0, []),
  (620, .bipush 72, 2, 72, 0, []),
  (622, .bipush 32, 2, 32, 0, []),
  (624, .iastore, 1, 0, 0, []),
  (625, .dup, 1, 0, 0, []),
  (626, .bipush 73, 2, 73, 0, []),
  (628, .bipush 115, 2, 115, 0, []),
  (630, .iastore, 1, 0, 0, []),
  (631, .dup, 1, 0, 0, []),
  (632, .bipush 74, 2, 74, 0, []),
  (634, .bipush 117, 2, 117, 0, []),
  (636, .iastore, 1, 0, 0, []),
  (637, .dup, 1, 0, 0, []),
  (638, .bipush 75, 2, 75, 0, []),
  (640, .bipush 110, 2, 110, 0, []),
  (642, .iastore, 1, 0, 0, []),
  (643, .dup, 1, 0, 0, []),
  (644, .bipush 76, 2, 76, 0, []),
  (646, .bipush 100, 2, 100, 0, []),
  (648, .iastore, 1, 0, 0, []),
  (649, .dup, 1, 0, 0, []),
  (650, .bipush 77, 2, 77, 0, []),
  (652, .bipush 97, 2, 97, 0, []),
  (654, .iastore, 1, 0, 0, []),
  (655, .dup, 1, 0, 0, []),
  (656, .bipush 78, 2, 78, 0, []),
  (658, .bipush 121, 2, 121, 0, []),
  (660, .iastore, 1, 0, 0, []),
  (661, .dup, 1, 0, 0, []),
  (662, .bipush 79, 2, 79, 0, []),
  (664, .bipush 32, 2, 32, 0, []),
  (666, .iastore, 1, 0, 0, []),
  (667, .putfield 73, 3, 12, 35, [2]),
  (670, .aload_n 0, 1, 0, 0, []),
  (671, .bipush 32, 2, 32, 0, []),
  (673, .newarray .int, 2, 0, 0, []),
  (675, .putfield 76, 3, 12, 37, [2]),
  (678, .aload_n 0, 1, 0, 0, []),
  (679, .bipush 32, 2, 32, 0, []),
  (681, .newarray .int, 2, 0, 0, []),
  (683, .putfield 79, 3, 12, 38, [2]),
  (686, .aload_n 0, 1, 0, 0, []),
  (687, .bipush 32, 2, 32, 0, []),
  (689, .newarray .int, 2, 0, 0, []),
  (691, .putfield 82, 3, 12, 39, [2]),
  (694, .aload_n 0, 1, 0, 0, []),
  (695, .sipush 800, 3, 800, 0, []),
  (698, .newarray .int, 2, 0, 0, []),
  (700, .putfield 85, 3, 12, 40, [2]),
  (703, .aload_n 0, 1, 0, 0, []),
  (704, .sipush 800, 3, 800, 0, []),
  (707, .newarray .int, 2, 0, 0, []),
  (709, .putfield 88, 3, 12, 41, [2]),
  (712, .aload_n 0, 1, 0, 0, []),
  (713, .bipush 40, 2, 40, 0, []),
  (715, .newarray .int, 2, 0, 0, []),
  (717, .putfield 91, 3, 12, 44, [2]),
  (720, .aload_n 0, 1, 0, 0, []),
  (721, .iconst (-1), 1, 1, 1, []),
  (722, .putfield 94, 3, 12, 49, [0]),
  (725, .aload_n 0, 1, 0, 0, []),
  (726, .bipush 9, 2, 9, 0, []),
  (728, .newarray .int, 2, 0, 0, []),
  (730, .putfield 98, 3, 12, 50, [2]),
  (733, .aload_n 0, 1, 0, 0, []),
  (734, .sipush 420, 3, 420, 0, []),
  (737, .newarray .int, 2, 0, 0, []),
  (739, .putfield 101, 3, 12, 51, [2]),
  (742, .aload_n 0, 1, 0, 0, []),
  (743, .bipush 10, 2, 10, 0, []),
  (745, .newarray .int, 2, 0, 0, []),
  (747, .putfield 104, 3, 12, 52, [2]),
  (750, .aload_n 0, 1, 0, 0, []),
  (751, .bipush 30, 2, 30, 0, []),
  (753, .newarray .int, 2, 0, 0, []),
  (755, .putfield 107, 3, 12, 54, [2]),
  (758, .aload_n 0, 1, 0, 0, []),
  (759, .sipush 1024, 3, 1024, 0, []),
  (762, .newarray .int, 2, 0, 0, []),
  (764, .putfield 110, 3, 12, 56, [2]),
  (767, .aload_n 0, 1, 0, 0, []),
  (768, .sipush 1024, 3, 1024, 0, []),
  (771, .newarray .boolean, 2, 0, 0, []),
  (773, .putfield 113, 3, 12, 57, [2]),
  (776, .aload_n 0, 1, 0, 0, []),
  (777, .sipush 256, 3, 256, 0, []),
  (780, .newarray .int, 2, 0, 0, []),
  (782, .putfield 117, 3, 12, 58, [2]),
  (785, .aload_n 0, 1, 0, 0, []),
  (786, .sipush 10240, 3, 10240, 0, []),
  (789, .newarray .int, 2, 0, 0, []),
  (791, .putfield 120, 3, 12, 59, [2]),
  (794, .aload_n 0, 1, 0, 0, []),
  (795, .sipush 160, 3, 160, 0, []),
  (798, .newarray .long, 2, 0, 0, []),
  (800, .putfield 123, 3, 12, 60, [2]),
  (803, .aload_n 0, 1, 0, 0, []),
  (804, .bipush 16, 2, 16, 0, []),
  (806, .newarray .int, 2, 0, 0, []),
  (808, .putfield 127, 3, 12, 61, [2]),
  (811, .aload_n 0, 1, 0, 0, []),
  (812, .bipush 10, 2, 10, 0, []),
  (814, .newarray .int, 2, 0, 0, []),
  (816, .putfield 130, 3, 12, 62, [2]),
  (819, .aload_n 0, 1, 0, 0, []),
  (820, .sipush 1700, 3, 1700, 0, []),
  (823, .newarray .int, 2, 0, 0, []),
  (825, .putfield 133, 3, 12, 66, [2]),
  (828, .return_, 1, 0, 0, [])]
/-- Model.isIn -/
def pc_159 : List pm_I := [
  (0, .iload_n 1, 1, 0, 0, []),
  (1, .iload_n 2, 1, 0, 0, []),
  (2, .if_icmp .lt 12, 3, 8, 0, []),
  (5, .iload_n 1, 1, 0, 0, []),
  (6, .iload_n 3, 1, 0, 0, []),
  (7, .if_icmp .gt 7, 3, 8, 0, []),
  (10, .iconst 1, 1, 1, 0, []),
  (11, .goto 4, 3, 9, 0, []),
  (14, .iconst 0, 1, 0, 0, []),
  (15, .ireturn, 1, 0, 0, [])]
/-- Model.ones -/
def pc_160 : List pm_I := [
  (0, .iconst 0, 1, 0, 0, []),
  (1, .istore_n 2, 1, 0, 0, []),
  (2, .iload_n 1, 1, 0, 0, []),
  (3, .istore_n 3, 1, 0, 0, []),
  (4, .iload_n 3, 1, 0, 0, []),
  (5, .ifCond .eq 16, 3, 17, 0, []),
  (8, .iload_n 2, 1, 0, 0, []),
  (9, .iconst 1, 1, 1, 0, []),
  (10, .iadd, 1, 0, 0, []),
  (11, .istore_n 2, 1, 0, 0, []),
  (12, .iload_n 3, 1, 0, 0, []),
  (13, .iload_n 3, 1, 0, 0, []),
  (14, .iconst 1, 1, 1, 0, []),
  (15, .isub, 1, 0, 0, []),
  (16, .iand, 1, 0, 0, []),
  (17, .istore_n 3, 1, 0, 0, []),
  (18, .goto (-14), 3, 4, 0, []),
  (21, .iload_n 2, 1, 0, 0, []),
  (22, .ireturn, 1, 0, 0, [])]
/-- Model.state -/
def pc_161 : List pm_I := [
  (0, .aload_n 0, 1, 0, 0, []),
  (1, .iconst 0, 1, 0, 0, []),
  (2, .putfield 136, 3, 12, 0, [0]),
  (5, .aload_n 0, 1, 0, 0, []),
  (6, .getfield 139, 3, 12, 1, []),
  (9, .istore_n 2, 1, 0, 0, []),
  (10, .aload_n 0, 1, 0, 0, []),
  (11, .iload_n 1, 1, 0, 0, []),
  (12, .putfield 139, 3, 12, 1, [0]),
  (15, .iload_n 2, 1, 0, 0, []),
  (16, .ireturn, 1, 0, 0, [])]
/-- Model.draw -/
def pc_162 : List pm_I := [
  (0, .aload_n 0, 1, 0, 0, []),
  (1, .ldc 142, 2, 1664525, 0, []),
  (3, .aload_n 0, 1, 0, 0, []),
  (4, .getfield 139, 3, 12, 1, []),
  (7, .imul, 1, 0, 0, []),
  (8, .ldc 143, 2, 1013904223, 0, []),
  (10, .iadd, 1, 0, 0, []),
  (11, .putfield 139, 3, 12, 1, [0]),
  (14, .aload_n 0, 1, 0, 0, []),
  (15, .getfield 139, 3, 12, 1, []),
  (18, .bipush 8, 2, 8, 0, []),
  (20, .iushr, 1, 0, 0, []),
  (21, .iload_n 1, 1, 0, 0, []),
  (22, .irem, 1, 0, 0, []),
  (23, .ireturn, 1, 0, 0, [])]
/-- Model.isSpot -/
def pc_163 : List pm_I := [
  (0, .iload_n 1, 1, 0, 0, []),
  (1, .ifCond .lt 15, 3, 8, 0, []),
  (4, .iload_n 1, 1, 0, 0, []),
  (5, .aload_n 0, 1, 0, 0, []),
  (6, .getfield 144, 3, 12, 2, []),
  (9, .if_icmp .ge 7, 3, 8, 0, []),
  (12, .iconst 1, 1, 1, 0, []),
  (13, .goto 4, 3, 9, 0, []),
  (16, .iconst 0, 1, 0, 0, []),
  (17, .ireturn, 1, 0, 0, [])]
/-- Model.isOne -/
def pc_164 : List pm_I := [
  (0, .iload_n 1, 1, 0, 0, []),
  (1, .ifCond .lt 15, 3, 8, 0, []),
  (4, .iload_n 1, 1, 0, 0, []),
  (5, .aload_n 0, 1, 0, 0, []),
  (6, .getfield 147, 3, 12, 5, []),
  (9, .if_icmp .ge 7, 3, 8, 0, []),
  (12, .iconst 1, 1, 1, 0, []),
  (13, .goto 4, 3, 9, 0, []),
  (16, .iconst 0, 1, 0, 0, []),
  (17, .ireturn, 1, 0, 0, [])]
/-- Model.milesOf -/
def pc_165 : List pm_I := [
  (0, .iload_n 1, 1, 0, 0, []),
  (1, .iload_n 2, 1, 0, 0, []),
  (2, .if_icmp .ne 7, 3, 5, 0, []),
  (5, .iconst 0, 1, 0, 0, []),
  (6, .goto 17, 3, 15, 0, []),
  (9, .bipush 9, 2, 9, 0, []),
  (11, .aload_n 0, 1, 0, 0, []),
  (12, .getfield 13, 3, 12, 4, []),
  (15, .bipush 10, 2, 10, 0, []),
  (17, .iload_n 1, 1, 0, 0, []),
  (18, .imul, 1, 0, 0, []),
  (19, .iload_n 2, 1, 0, 0, []),
  (20, .iadd, 1, 0, 0, []),
  (21, .iaload, 1, 0, 0, []),
  (22, .iadd, 1, 0, 0, []),
  (23, .ireturn, 1, 0, 0, [])]
/-- Model.spot -/
def pc_166 : List pm_I := [
  (0, .aload_n 0, 1, 0, 0, []),
  (1, .iconst 0, 1, 0, 0, []),
  (2, .putfield 136, 3, 12, 0, [0]),
  (5, .aload_n 0, 1, 0, 0, []),
  (6, .iload_n 1, 1, 0, 0, []),
  (7, .iconst 0, 1, 0, 0, []),
  (8, .bipush 99, 2, 99, 0, []),
  (10, .invokevirtual 150, 3, 159, 3, [12]),
  (13, .ifCond .eq 12, 3, 13, 0, []),
  (16, .aload_n 0, 1, 0, 0, []),
  (17, .getfield 144, 3, 12, 2, []),
  (20, .bipush 10, 2, 10, 0, []),
  (22, .if_icmp .ne 5, 3, 15, 0, []),
  (25, .iconst (-1), 1, 1, 1, []),
  (26, .ireturn, 1, 0, 0, []),
  (27, .aload_n 0, 1, 0, 0, []),
  (28, .getfield 7, 3, 12, 3, []),
  (31, .aload_n 0, 1, 0, 0, []),
  (32, .getfield 144, 3, 12, 2, []),
  (35, .iload_n 1, 1, 0, 0, []),
  (36, .iastore, 1, 0, 0, []),
  (37, .aload_n 0, 1, 0, 0, []),
  (38, .aload_n 0, 1, 0, 0, []),
  (39, .getfield 144, 3, 12, 2, []),
  (42, .iconst 1, 1, 1, 0, []),
  (43, .iadd, 1, 0, 0, []),
  (44, .putfield 144, 3, 12, 2, [0]),
  (47, .aload_n 0, 1, 0, 0, []),
  (48, .getfield 144, 3, 12, 2, []),
  (51, .iconst 1, 1, 1, 0, []),
  (52, .isub, 1, 0, 0, []),
  (53, .ireturn, 1, 0, 0, [])]
/-- Model.way -/
def pc_167 : List pm_I := [
  (0, .aload_n 0, 1, 0, 0, []),
  (1, .iconst 0, 1, 0, 0, []),
  (2, .putfield 136, 3, 12, 0, [0]),
  (5, .aload_n 0, 1, 0, 0, []),
  (6, .iload_n 1, 1, 0, 0, []),
  (7, .invokevirtual 154, 3, 163, 1, [12]),
  (10, .ifCond .eq 27, 3, 20, 0, []),
  (13, .aload_n 0, 1, 0, 0, []),
  (14, .iload_n 2, 1, 0, 0, []),
  (15, .invokevirtual 154, 3, 163, 1, [12]),
  (18, .ifCond .eq 19, 3, 20, 0, []),
  (21, .iload_n 1, 1, 0, 0, []),
  (22, .iload_n 2, 1, 0, 0, []),
  (23, .if_icmp .eq 14, 3, 20, 0, []),
  (26, .aload_n 0, 1, 0, 0, []),
  (27, .iload_n 3, 1, 0, 0, []),
  (28, .iconst 0, 1, 0, 0, []),
  (29, .bipush 99, 2, 99, 0, []),
  (31, .invokevirtual 150, 3, 159, 3, [12]),
  (34, .ifCond .ne 5, 3, 22, 0, []),
  (37, .iconst 0, 1, 0, 0, []),
  (38, .ireturn, 1, 0, 0, []),
  (39, .aload_n 0, 1, 0, 0, []),
  (40, .getfield 13, 3, 12, 4, []),
  (43, .bipush 10, 2, 10, 0, []),
  (45, .iload_n 1, 1, 0, 0, []),
  (46, .imul, 1, 0, 0, []),
  (47, .iload_n 2, 1, 0, 0, []),
  (48, .iadd, 1, 0, 0, []),
  (49, .iload_n 3, 1, 0, 0, []),
  (50, .bipush 9, 2, 9, 0, []),
  (52, .isub, 1, 0, 0, []),
  (53, .iastore, 1, 0, 0, []),
  (54, .aload_n 0, 1, 0, 0, []),
  (55, .getfield 13, 3, 12, 4, []),
  (58, .bipush 10, 2, 10, 0, []),
  (60, .iload_n 2, 1, 0, 0, []),
  (61, .imul, 1, 0, 0, []),
  (62, .iload_n 1, 1, 0, 0, []),
  (63, .iadd, 1, 0, 0, []),
  (64, .iload_n 3, 1, 0, 0, []),
  (65, .bipush 9, 2, 9, 0, []),
  (67, .isub, 1, 0, 0, []),
  (68, .iastore, 1, 0, 0, []),
  (69, .iconst 1, 1, 1, 0, []),
  (70, .ireturn, 1, 0, 0, [])]
/-- Model.person -/
def pc_168 : List pm_I := [
  (0, .aload_n 0, 1, 0, 0, []),
  (1, .iconst 0, 1, 0, 0, []),
  (2, .putfield 136, 3, 12, 0, [0]),
  (5, .aload_n 0, 1, 0, 0, []),
  (6, .iload_n 1, 1, 0, 0, []),
  (7, .invokevirtual 154, 3, 163, 1, [12]),
  (10, .ifCond .eq 34, 3, 23, 0, []),
  (13, .aload_n 0, 1, 0, 0, []),
  (14, .iload_n 2, 1, 0, 0, []),
  (15, .iconst 0, 1, 0, 0, []),
  (16, .ldc 158, 2, 99999, 0, []),
  (18, .invokevirtual 150, 3, 159, 3, [12]),
  (21, .ifCond .eq 23, 3, 23, 0, []),
  (24, .aload_n 0, 1, 0, 0, []),
  (25, .iload_n 3, 1, 0, 0, []),
  (26, .iconst 0, 1, 0, 0, []),
  (27, .bipush 99, 2, 99, 0, []),
  (29, .invokevirtual 150, 3, 159, 3, [12]),
  (32, .ifCond .eq 12, 3, 23, 0, []),
  (35, .aload_n 0, 1, 0, 0, []),
  (36, .getfield 147, 3, 12, 5, []),
  (39, .bipush 10, 2, 10, 0, []),
  (41, .if_icmp .ne 5, 3, 25, 0, []),
  (44, .iconst (-1), 1, 1, 1, []),
  (45, .ireturn, 1, 0, 0, []),
  (46, .aload_n 0, 1, 0, 0, []),
  (47, .getfield 16, 3, 12, 6, []),
  (50, .aload_n 0, 1, 0, 0, []),
  (51, .getfield 147, 3, 12, 5, []),
  (54, .iload_n 1, 1, 0, 0, []),
  (55, .iastore, 1, 0, 0, []),
  (56, .aload_n 0, 1, 0, 0, []),
  (57, .getfield 19, 3, 12, 7, []),
  (60, .aload_n 0, 1, 0, 0, []),
  (61, .getfield 147, 3, 12, 5, []),
  (64, .iload_n 2, 1, 0, 0, []),
  (65, .iastore, 1, 0, 0, []),
  (66, .aload_n 0, 1, 0, 0, []),
  (67, .getfield 22, 3, 12, 8, []),
  (70, .aload_n 0, 1, 0, 0, []),
  (71, .getfield 147, 3, 12, 5, []),
  (74, .iload_n 3, 1, 0, 0, []),
  (75, .iastore, 1, 0, 0, []),
  (76, .aload_n 0, 1, 0, 0, []),
  (77, .getfield 25, 3, 12, 9, []),
  (80, .aload_n 0, 1, 0, 0, []),
  (81, .getfield 147, 3, 12, 5, []),
  (84, .iload_n 1, 1, 0, 0, []),
  (85, .iastore, 1, 0, 0, []),
  (86, .aload_n 0, 1, 0, 0, []),
  (87, .aload_n 0, 1, 0, 0, []),
  (88, .getfield 147, 3, 12, 5, []),
  (91, .iconst 1, 1, 1, 0, []),
  (92, .iadd, 1, 0, 0, []),
  (93, .putfield 147, 3, 12, 5, [0]),
  (96, .aload_n 0, 1, 0, 0, []),
  (97, .getfield 147, 3, 12, 5, []),
  (100, .iconst 1, 1, 1, 0, []),
  (101, .isub, 1, 0, 0, []),
  (102, .ireturn, 1, 0, 0, [])]
/-- Model.debt -/
def pc_169 : List pm_I := [
  (0, .aload_n 0, 1, 0, 0, []),
  (1, .iconst 0, 1, 0, 0, []),
  (2, .putfield 136, 3, 12, 0, [0]),
  (5, .aload_n 0, 1, 0, 0, []),
  (6, .iload_n 1, 1, 0, 0, []),
  (7, .invokevirtual 159, 3, 164, 1, [12]),
  (10, .ifCond .eq 46, 3, 28, 0, []),
  (13, .aload_n 0, 1, 0, 0, []),
  (14, .iload_n 2, 1, 0, 0, []),
  (15, .invokevirtual 159, 3, 164, 1, [12]),
  (18, .ifCond .eq 38, 3, 28, 0, []),
  (21, .iload_n 1, 1, 0, 0, []),
  (22, .iload_n 2, 1, 0, 0, []),
  (23, .if_icmp .eq 33, 3, 28, 0, []),
  (26, .aload_n 0, 1, 0, 0, []),
  (27, .iload_n 3, 1, 0, 0, []),
  (28, .iconst 1, 1, 1, 0, []),
  (29, .sipush 9999, 3, 9999, 0, []),
  (32, .invokevirtual 150, 3, 159, 3, [12]),
  (35, .ifCond .eq 21, 3, 28, 0, []),
  (38, .aload_n 0, 1, 0, 0, []),
  (39, .iload 4, 2, 0, 0, []),
  (41, .invokevirtual 154, 3, 163, 1, [12]),
  (44, .ifCond .eq 12, 3, 28, 0, []),
  (47, .aload_n 0, 1, 0, 0, []),
  (48, .getfield 162, 3, 12, 11, []),
  (51, .bipush 30, 2, 30, 0, []),
  (53, .if_icmp .ne 5, 3, 30, 0, []),
  (56, .iconst (-1), 1, 1, 1, []),
  (57, .ireturn, 1, 0, 0, []),
  (58, .aload_n 0, 1, 0, 0, []),
  (59, .getfield 31, 3, 12, 12, []),
  (62, .aload_n 0, 1, 0, 0, []),
  (63, .getfield 162, 3, 12, 11, []),
  (66, .iload_n 1, 1, 0, 0, []),
  (67, .iastore, 1, 0, 0, []),
  (68, .aload_n 0, 1, 0, 0, []),
  (69, .getfield 34, 3, 12, 13, []),
  (72, .aload_n 0, 1, 0, 0, []),
  (73, .getfield 162, 3, 12, 11, []),
  (76, .iload_n 2, 1, 0, 0, []),
  (77, .iastore, 1, 0, 0, []),
  (78, .aload_n 0, 1, 0, 0, []),
  (79, .getfield 37, 3, 12, 14, []),
  (82, .aload_n 0, 1, 0, 0, []),
  (83, .getfield 162, 3, 12, 11, []),
  (86, .iload_n 3, 1, 0, 0, []),
  (87, .iastore, 1, 0, 0, []),
  (88, .aload_n 0, 1, 0, 0, []),
  (89, .getfield 40, 3, 12, 15, []),
  (92, .aload_n 0, 1, 0, 0, []),
  (93, .getfield 162, 3, 12, 11, []),
  (96, .iload 4, 2, 0, 0, []),
  (98, .iastore, 1, 0, 0, []),
  (99, .aload_n 0, 1, 0, 0, []),
  (100, .getfield 43, 3, 12, 16, []),
  (103, .aload_n 0, 1, 0, 0, []),
  (104, .getfield 162, 3, 12, 11, []),
  (107, .aload_n 0, 1, 0, 0, []),
  (108, .getfield 165, 3, 12, 19, []),
  (111, .iastore, 1, 0, 0, []),
  (112, .aload_n 0, 1, 0, 0, []),
  (113, .getfield 46, 3, 12, 17, []),
  (116, .aload_n 0, 1, 0, 0, []),
  (117, .getfield 162, 3, 12, 11, []),
  (120, .iconst (-1), 1, 1, 1, []),
  (121, .iastore, 1, 0, 0, []),
  (122, .aload_n 0, 1, 0, 0, []),
  (123, .getfield 49, 3, 12, 18, []),
  (126, .aload_n 0, 1, 0, 0, []),
  (127, .getfield 162, 3, 12, 11, []),
  (130, .iconst 0, 1, 0, 0, []),
  (131, .iastore, 1, 0, 0, []),
  (132, .aload_n 0, 1, 0, 0, []),
  (133, .aload_n 0, 1, 0, 0, []),
  (134, .getfield 162, 3, 12, 11, []),
  (137, .iconst 1, 1, 1, 0, []),
  (138, .iadd, 1, 0, 0, []),
  (139, .putfield 162, 3, 12, 11, [0]),
  (142, .aload_n 0, 1, 0, 0, []),
  (143, .getfield 162, 3, 12, 11, []),
  (146, .iconst 1, 1, 1, 0, []),
  (147, .isub, 1, 0, 0, []),
  (148, .ireturn, 1, 0, 0, [])]
/-- Model.leastOf -/
def pc_170 : List pm_I := [
  (0, .iload_n 1, 1, 0, 0, []),
  (1, .iconst 3, 1, 3, 0, []),
  (2, .if_icmp .ne 7, 3, 5, 0, []),
  (5, .iconst 1, 1, 1, 0, []),
  (6, .goto 4, 3, 6, 0, []),
  (9, .iconst 0, 1, 0, 0, []),
  (10, .ireturn, 1, 0, 0, [])]
/-- Model.mostOf -/
def pc_171 : List pm_I := [
  (0, .iload_n 1, 1, 0, 0, []),
  (1, .ifCond .ne 8, 3, 4, 0, []),
  (4, .bipush 100, 2, 100, 0, []),
  (6, .goto 24, 3, 15, 0, []),
  (9, .iload_n 1, 1, 0, 0, []),
  (10, .iconst 1, 1, 1, 0, []),
  (11, .if_icmp .ne 8, 3, 9, 0, []),
  (14, .bipush 99, 2, 99, 0, []),
  (16, .goto 14, 3, 15, 0, []),
  (19, .iload_n 1, 1, 0, 0, []),
  (20, .iconst 2, 1, 2, 0, []),
  (21, .if_icmp .ne 7, 3, 14, 0, []),
  (24, .iconst 1, 1, 1, 0, []),
  (25, .goto 5, 3, 15, 0, []),
  (28, .bipush 52, 2, 52, 0, []),
  (30, .ireturn, 1, 0, 0, [])]
/-- Model.set -/
def pc_172 : List pm_I := [
  (0, .aload_n 0, 1, 0, 0, []),
  (1, .iconst 0, 1, 0, 0, []),
  (2, .putfield 136, 3, 12, 0, [0]),
  (5, .aload_n 0, 1, 0, 0, []),
  (6, .iload_n 1, 1, 0, 0, []),
  (7, .iconst 0, 1, 0, 0, []),
  (8, .iconst 3, 1, 3, 0, []),
  (9, .invokevirtual 150, 3, 159, 3, [12]),
  (12, .ifCond .eq 21, 3, 19, 0, []),
  (15, .aload_n 0, 1, 0, 0, []),
  (16, .iload_n 2, 1, 0, 0, []),
  (17, .aload_n 0, 1, 0, 0, []),
  (18, .iload_n 1, 1, 0, 0, []),
  (19, .invokevirtual 168, 3, 170, 1, [12]),
  (22, .aload_n 0, 1, 0, 0, []),
  (23, .iload_n 1, 1, 0, 0, []),
  (24, .invokevirtual 172, 3, 171, 1, [12]),
  (27, .invokevirtual 150, 3, 159, 3, [12]),
  (30, .ifCond .ne 5, 3, 21, 0, []),
  (33, .iconst 0, 1, 0, 0, []),
  (34, .ireturn, 1, 0, 0, []),
  (35, .aload_n 0, 1, 0, 0, []),
  (36, .getfield 52, 3, 12, 22, []),
  (39, .iload_n 1, 1, 0, 0, []),
  (40, .iload_n 2, 1, 0, 0, []),
  (41, .iastore, 1, 0, 0, []),
  (42, .iconst 1, 1, 1, 0, []),
  (43, .ireturn, 1, 0, 0, [])]
/-- Model.goal -/
def pc_173 : List pm_I := [
  (0, .aload_n 0, 1, 0, 0, []),
  (1, .iconst 0, 1, 0, 0, []),
  (2, .putfield 136, 3, 12, 0, [0]),
  (5, .aload_n 0, 1, 0, 0, []),
  (6, .iload_n 1, 1, 0, 0, []),
  (7, .invokevirtual 159, 3, 164, 1, [12]),
  (10, .ifCond .eq 11, 3, 11, 0, []),
  (13, .aload_n 0, 1, 0, 0, []),
  (14, .iload_n 2, 1, 0, 0, []),
  (15, .invokevirtual 154, 3, 163, 1, [12]),
  (18, .ifCond .ne 5, 3, 13, 0, []),
  (21, .iconst 0, 1, 0, 0, []),
  (22, .ireturn, 1, 0, 0, []),
  (23, .aload_n 0, 1, 0, 0, []),
  (24, .getfield 25, 3, 12, 9, []),
  (27, .iload_n 1, 1, 0, 0, []),
  (28, .iload_n 2, 1, 0, 0, []),
  (29, .iastore, 1, 0, 0, []),
  (30, .iconst 1, 1, 1, 0, []),
  (31, .ireturn, 1, 0, 0, [])]
/-- Model.types -/
def pc_174 : List pm_I := [
  (0, .bipush 24, 2, 24, 0, []),
  (2, .istore_n 2, 1, 0, 0, []),
  (3, .iload_n 2, 1, 0, 0, []),
  (4, .ifCond .lt 35, 3, 22, 0, []),
  (7, .aload_n 0, 1, 0, 0, []),
  (8, .getfield 70, 3, 12, 29, []),
  (11, .aload_n 0, 1, 0, 0, []),
  (12, .getfield 175, 3, 12, 30, []),
  (15, .iload_n 1, 1, 0, 0, []),
  (16, .iload_n 2, 1, 0, 0, []),
  (17, .ishr, 1, 0, 0, []),
  (18, .sipush 255, 3, 255, 0, []),
  (21, .iand, 1, 0, 0, []),
  (22, .iastore, 1, 0, 0, []),
  (23, .aload_n 0, 1, 0, 0, []),
  (24, .aload_n 0, 1, 0, 0, []),
  (25, .getfield 175, 3, 12, 30, []),
  (28, .iconst 1, 1, 1, 0, []),
  (29, .iadd, 1, 0, 0, []),
  (30, .putfield 175, 3, 12, 30, [0]),
  (33, .iinc 2 (-8), 3, 0, 0, []),
  (36, .goto (-33), 3, 2, 0, []),
  (39, .return_, 1, 0, 0, [])]
/-- Model.feed -/
def pc_175 : List pm_I := [
  (0, .aload_n 0, 1, 0, 0, []),
  (1, .iconst 0, 1, 0, 0, []),
  (2, .putfield 136, 3, 12, 0, [0]),
  (5, .aload_n 0, 1, 0, 0, []),
  (6, .getfield 175, 3, 12, 30, []),
  (9, .sipush 380, 3, 380, 0, []),
  (12, .if_icmp .le 5, 3, 9, 0, []),
  (15, .iconst (-1), 1, 1, 1, []),
  (16, .ireturn, 1, 0, 0, []),
  (17, .aload_n 0, 1, 0, 0, []),
  (18, .iload_n 1, 1, 0, 0, []),
  (19, .invokevirtual 178, 3, 174, 1, [12]),
  (22, .aload_n 0, 1, 0, 0, []),
  (23, .iload_n 2, 1, 0, 0, []),
  (24, .invokevirtual 178, 3, 174, 1, [12]),
  (27, .aload_n 0, 1, 0, 0, []),
  (28, .iload_n 3, 1, 0, 0, []),
  (29, .invokevirtual 178, 3, 174, 1, [12]),
  (32, .aload_n 0, 1, 0, 0, []),
  (33, .iload 4, 2, 0, 0, []),
  (35, .invokevirtual 178, 3, 174, 1, [12]),
  (38, .aload_n 0, 1, 0, 0, []),
  (39, .iload 5, 2, 0, 0, []),
  (41, .invokevirtual 178, 3, 174, 1, [12]),
  (44, .aload_n 0, 1, 0, 0, []),
  (45, .getfield 175, 3, 12, 30, []),
  (48, .ireturn, 1, 0, 0, [])]
/-- Model.end -/
def pc_176 : List pm_I := [
  (0, .aload_n 0, 1, 0, 0, []),
  (1, .iconst 0, 1, 0, 0, []),
  (2, .putfield 136, 3, 12, 0, [0]),
  (5, .aload_n 0, 1, 0, 0, []),
  (6, .iload_n 1, 1, 0, 0, []),
  (7, .iconst 0, 1, 0, 0, []),
  (8, .aload_n 0, 1, 0, 0, []),
  (9, .getfield 175, 3, 12, 30, []),
  (12, .invokevirtual 150, 3, 159, 3, [12]),
  (15, .ifCond .ne 5, 3, 12, 0, []),
  (18, .iconst 0, 1, 0, 0, []),
  (19, .ireturn, 1, 0, 0, []),
  (20, .aload_n 0, 1, 0, 0, []),
  (21, .iload_n 1, 1, 0, 0, []),
  (22, .putfield 175, 3, 12, 30, [0]),
  (25, .iconst 1, 1, 1, 0, []),
  (26, .ireturn, 1, 0, 0, [])]
/-- Model.raw -/
def pc_177 : List pm_I := [
  (0, .iload_n 1, 1, 0, 0, []),
  (1, .aload_n 0, 1, 0, 0, []),
  (2, .getfield 175, 3, 12, 30, []),
  (5, .if_icmp .ge 12, 3, 9, 0, []),
  (8, .aload_n 0, 1, 0, 0, []),
  (9, .getfield 70, 3, 12, 29, []),
  (12, .iload_n 1, 1, 0, 0, []),
  (13, .iaload, 1, 0, 0, []),
  (14, .goto 4, 3, 10, 0, []),
  (17, .iconst (-1), 1, 1, 1, []),
  (18, .ireturn, 1, 0, 0, [])]
/-- Model.isLetter -/
def pc_178 : List pm_I := [
  (0, .aload_n 0, 1, 0, 0, []),
  (1, .iload_n 1, 1, 0, 0, []),
  (2, .bipush 97, 2, 97, 0, []),
  (4, .bipush 122, 2, 122, 0, []),
  (6, .invokevirtual 150, 3, 159, 3, [12]),
  (9, .ifCond .ne 15, 3, 12, 0, []),
  (12, .aload_n 0, 1, 0, 0, []),
  (13, .iload_n 1, 1, 0, 0, []),
  (14, .bipush 65, 2, 65, 0, []),
  (16, .bipush 90, 2, 90, 0, []),
  (18, .invokevirtual 150, 3, 159, 3, [12]),
  (21, .ifCond .eq 7, 3, 14, 0, []),
  (24, .iconst 1, 1, 1, 0, []),
  (25, .goto 4, 3, 15, 0, []),
  (28, .iconst 0, 1, 0, 0, []),
  (29, .ireturn, 1, 0, 0, [])]
/-- Model.isDigit -/
def pc_179 : List pm_I := [
  (0, .aload_n 0, 1, 0, 0, []),
  (1, .iload_n 1, 1, 0, 0, []),
  (2, .bipush 48, 2, 48, 0, []),
  (4, .bipush 57, 2, 57, 0, []),
  (6, .invokevirtual 150, 3, 159, 3, [12]),
  (9, .ireturn, 1, 0, 0, [])]
/-- Model.isMarkSign -/
def pc_180 : List pm_I := [
  (0, .iload_n 1, 1, 0, 0, []),
  (1, .bipush 59, 2, 59, 0, []),
  (3, .if_icmp .eq 57, 3, 30, 0, []),
  (6, .iload_n 1, 1, 0, 0, []),
  (7, .bipush 43, 2, 43, 0, []),
  (9, .if_icmp .eq 51, 3, 30, 0, []),
  (12, .iload_n 1, 1, 0, 0, []),
  (13, .bipush 45, 2, 45, 0, []),
  (15, .if_icmp .eq 45, 3, 30, 0, []),
  (18, .iload_n 1, 1, 0, 0, []),
  (19, .bipush 42, 2, 42, 0, []),
  (21, .if_icmp .eq 39, 3, 30, 0, []),
  (24, .iload_n 1, 1, 0, 0, []),
  (25, .bipush 47, 2, 47, 0, []),
  (27, .if_icmp .eq 33, 3, 30, 0, []),
  (30, .iload_n 1, 1, 0, 0, []),
  (31, .bipush 40, 2, 40, 0, []),
  (33, .if_icmp .eq 27, 3, 30, 0, []),
  (36, .iload_n 1, 1, 0, 0, []),
  (37, .bipush 41, 2, 41, 0, []),
  (39, .if_icmp .eq 21, 3, 30, 0, []),
  (42, .iload_n 1, 1, 0, 0, []),
  (43, .bipush 60, 2, 60, 0, []),
  (45, .if_icmp .eq 15, 3, 30, 0, []),
  (48, .iload_n 1, 1, 0, 0, []),
  (49, .bipush 61, 2, 61, 0, []),
  (51, .if_icmp .eq 9, 3, 30, 0, []),
  (54, .iload_n 1, 1, 0, 0, []),
  (55, .bipush 62, 2, 62, 0, []),
  (57, .if_icmp .ne 7, 3, 32, 0, []),
  (60, .iconst 1, 1, 1, 0, []),
  (61, .goto 4, 3, 33, 0, []),
  (64, .iconst 0, 1, 0, 0, []),
  (65, .ireturn, 1, 0, 0, [])]
/-- Model.wordAt -/
def pc_181 : List pm_I := [
  (0, .iconst (-1), 1, 1, 1, []),
  (1, .istore_n 3, 1, 0, 0, []),
  (2, .iconst 0, 1, 0, 0, []),
  (3, .istore 4, 2, 0, 0, []),
  (5, .iload 4, 2, 0, 0, []),
  (7, .bipush 79, 2, 79, 0, []),
  (9, .if_icmp .ge 108, 3, 71, 0, []),
  (12, .iconst 0, 1, 0, 0, []),
  (13, .istore 5, 2, 0, 0, []),
  (15, .iload_n 3, 1, 0, 0, []),
  (16, .iconst 1, 1, 1, 0, []),
  (17, .iadd, 1, 0, 0, []),
  (18, .istore_n 3, 1, 0, 0, []),
  (19, .iload_n 1, 1, 0, 0, []),
  (20, .iload 5, 2, 0, 0, []),
  (22, .iadd, 1, 0, 0, []),
  (23, .iload_n 2, 1, 0, 0, []),
  (24, .if_icmp .ge 36, 3, 38, 0, []),
  (27, .aload_n 0, 1, 0, 0, []),
  (28, .getfield 73, 3, 12, 35, []),
  (31, .iload 4, 2, 0, 0, []),
  (33, .iconst 1, 1, 1, 0, []),
  (34, .iadd, 1, 0, 0, []),
  (35, .iload 5, 2, 0, 0, []),
  (37, .iadd, 1, 0, 0, []),
  (38, .iaload, 1, 0, 0, []),
  (39, .aload_n 0, 1, 0, 0, []),
  (40, .getfield 70, 3, 12, 29, []),
  (43, .iload_n 1, 1, 0, 0, []),
  (44, .iload 5, 2, 0, 0, []),
  (46, .iadd, 1, 0, 0, []),
  (47, .iaload, 1, 0, 0, []),
  (48, .if_icmp .ne 12, 3, 38, 0, []),
  (51, .iload 5, 2, 0, 0, []),
  (53, .iconst 1, 1, 1, 0, []),
  (54, .iadd, 1, 0, 0, []),
  (55, .istore 5, 2, 0, 0, []),
  (57, .goto (-38), 3, 13, 0, []),
  (60, .iload_n 1, 1, 0, 0, []),
  (61, .iload 5, 2, 0, 0, []),
  (63, .iadd, 1, 0, 0, []),
  (64, .iload_n 2, 1, 0, 0, []),
  (65, .if_icmp .ne 22, 3, 55, 0, []),
  (68, .aload_n 0, 1, 0, 0, []),
  (69, .getfield 73, 3, 12, 35, []),
  (72, .iload 4, 2, 0, 0, []),
  (74, .iconst 1, 1, 1, 0, []),
  (75, .iadd, 1, 0, 0, []),
  (76, .iload 5, 2, 0, 0, []),
  (78, .iadd, 1, 0, 0, []),
  (79, .iaload, 1, 0, 0, []),
  (80, .bipush 32, 2, 32, 0, []),
  (82, .if_icmp .ne 5, 3, 55, 0, []),
  (85, .iload_n 3, 1, 0, 0, []),
  (86, .ireturn, 1, 0, 0, []),
  (87, .iload 4, 2, 0, 0, []),
  (89, .iconst 1, 1, 1, 0, []),
  (90, .iadd, 1, 0, 0, []),
  (91, .istore 4, 2, 0, 0, []),
  (93, .aload_n 0, 1, 0, 0, []),
  (94, .getfield 73, 3, 12, 35, []),
  (97, .iload 4, 2, 0, 0, []),
  (99, .iaload, 1, 0, 0, []),
  (100, .bipush 32, 2, 32, 0, []),
  (102, .if_icmp .eq 12, 3, 70, 0, []),
  (105, .iload 4, 2, 0, 0, []),
  (107, .iconst 1, 1, 1, 0, []),
  (108, .iadd, 1, 0, 0, []),
  (109, .istore 4, 2, 0, 0, []),
  (111, .goto (-18), 3, 59, 0, []),
  (114, .goto (-109), 3, 4, 0, []),
  (117, .iconst (-1), 1, 1, 1, []),
  (118, .ireturn, 1, 0, 0, [])]
/-- Model.reads -/
def pc_182 : List pm_I := [
  (0, .aload_n 0, 1, 0, 0, []),
  (1, .aload_n 0, 1, 0, 0, []),
  (2, .getfield 182, 3, 12, 31, []),
  (5, .invokevirtual 185, 3, 177, 1, [12]),
  (8, .bipush 32, 2, 32, 0, []),
  (10, .if_icmp .eq 16, 3, 12, 0, []),
  (13, .aload_n 0, 1, 0, 0, []),
  (14, .aload_n 0, 1, 0, 0, []),
  (15, .getfield 182, 3, 12, 31, []),
  (18, .invokevirtual 185, 3, 177, 1, [12]),
  (21, .bipush 10, 2, 10, 0, []),
  (23, .if_icmp .ne 16, 3, 19, 0, []),
  (26, .aload_n 0, 1, 0, 0, []),
  (27, .aload_n 0, 1, 0, 0, []),
  (28, .getfield 182, 3, 12, 31, []),
  (31, .iconst 1, 1, 1, 0, []),
  (32, .iadd, 1, 0, 0, []),
  (33, .putfield 182, 3, 12, 31, [0]),
  (36, .goto (-36), 3, 0, 0, []),
  (39, .aload_n 0, 1, 0, 0, []),
  (40, .aload_n 0, 1, 0, 0, []),
  (41, .getfield 182, 3, 12, 31, []),
  (44, .putfield 188, 3, 12, 32, [0]),
  (47, .aload_n 0, 1, 0, 0, []),
  (48, .iconst 1, 1, 1, 0, []),
  (49, .putfield 191, 3, 12, 33, [0]),
  (52, .aload_n 0, 1, 0, 0, []),
  (53, .aload_n 0, 1, 0, 0, []),
  (54, .getfield 182, 3, 12, 31, []),
  (57, .invokevirtual 185, 3, 177, 1, [12]),
  (60, .istore_n 1, 1, 0, 0, []),
  (61, .iload_n 1, 1, 0, 0, []),
  (62, .iconst (-1), 1, 1, 1, []),
  (63, .if_icmp .ne 9, 3, 38, 0, []),
  (66, .aload_n 0, 1, 0, 0, []),
  (67, .iconst 0, 1, 0, 0, []),
  (68, .putfield 191, 3, 12, 33, [0]),
  (71, .return_, 1, 0, 0, []),
  (72, .aload_n 0, 1, 0, 0, []),
  (73, .aload_n 0, 1, 0, 0, []),
  (74, .getfield 182, 3, 12, 31, []),
  (77, .iconst 1, 1, 1, 0, []),
  (78, .iadd, 1, 0, 0, []),
  (79, .putfield 182, 3, 12, 31, [0]),
  (82, .aload_n 0, 1, 0, 0, []),
  (83, .iload_n 1, 1, 0, 0, []),
  (84, .putfield 194, 3, 12, 34, [0]),
  (87, .aload_n 0, 1, 0, 0, []),
  (88, .iload_n 1, 1, 0, 0, []),
  (89, .invokevirtual 197, 3, 178, 1, [12]),
  (92, .ifCond .eq 63, 3, 81, 0, []),
  (95, .aload_n 0, 1, 0, 0, []),
  (96, .aload_n 0, 1, 0, 0, []),
  (97, .aload_n 0, 1, 0, 0, []),
  (98, .getfield 182, 3, 12, 31, []),
  (101, .invokevirtual 185, 3, 177, 1, [12]),
  (104, .invokevirtual 197, 3, 178, 1, [12]),
  (107, .ifCond .eq 16, 3, 65, 0, []),
  (110, .aload_n 0, 1, 0, 0, []),
  (111, .aload_n 0, 1, 0, 0, []),
  (112, .getfield 182, 3, 12, 31, []),
  (115, .iconst 1, 1, 1, 0, []),
  (116, .iadd, 1, 0, 0, []),
  (117, .putfield 182, 3, 12, 31, [0]),
  (120, .goto (-25), 3, 51, 0, []),
  (123, .aload_n 0, 1, 0, 0, []),
  (124, .aload_n 0, 1, 0, 0, []),
  (125, .aload_n 0, 1, 0, 0, []),
  (126, .getfield 188, 3, 12, 32, []),
  (129, .aload_n 0, 1, 0, 0, []),
  (130, .getfield 182, 3, 12, 31, []),
  (133, .invokevirtual 200, 3, 181, 2, [12]),
  (136, .putfield 194, 3, 12, 34, [0]),
  (139, .aload_n 0, 1, 0, 0, []),
  (140, .getfield 194, 3, 12, 34, []),
  (143, .iconst (-1), 1, 1, 1, []),
  (144, .if_icmp .eq 129, 3, 142, 0, []),
  (147, .aload_n 0, 1, 0, 0, []),
  (148, .iconst 2, 1, 2, 0, []),
  (149, .putfield 191, 3, 12, 33, [0]),
  (152, .goto 121, 3, 142, 0, []),
  (155, .aload_n 0, 1, 0, 0, []),
  (156, .iload_n 1, 1, 0, 0, []),
  (157, .invokevirtual 204, 3, 179, 1, [12]),
  (160, .ifCond .eq 100, 3, 135, 0, []),
  (163, .aload_n 0, 1, 0, 0, []),
  (164, .iload_n 1, 1, 0, 0, []),
  (165, .bipush 48, 2, 48, 0, []),
  (167, .isub, 1, 0, 0, []),
  (168, .putfield 194, 3, 12, 34, [0]),
  (171, .aload_n 0, 1, 0, 0, []),
  (172, .aload_n 0, 1, 0, 0, []),
  (173, .aload_n 0, 1, 0, 0, []),
  (174, .getfield 182, 3, 12, 31, []),
  (177, .invokevirtual 185, 3, 177, 1, [12]),
  (180, .invokevirtual 204, 3, 179, 1, [12]),
  (183, .ifCond .eq 56, 3, 124, 0, []),
  (186, .aload_n 0, 1, 0, 0, []),
  (187, .aload_n 0, 1, 0, 0, []),
  (188, .getfield 194, 3, 12, 34, []),
  (191, .sipush 10000, 3, 10000, 0, []),
  (194, .if_icmp .ge 25, 3, 114, 0, []),
  (197, .bipush 10, 2, 10, 0, []),
  (199, .aload_n 0, 1, 0, 0, []),
  (200, .getfield 194, 3, 12, 34, []),
  (203, .imul, 1, 0, 0, []),
  (204, .aload_n 0, 1, 0, 0, []),
  (205, .aload_n 0, 1, 0, 0, []),
  (206, .getfield 182, 3, 12, 31, []),
  (209, .invokevirtual 185, 3, 177, 1, [12]),
  (212, .iadd, 1, 0, 0, []),
  (213, .bipush 48, 2, 48, 0, []),
  (215, .isub, 1, 0, 0, []),
  (216, .goto 7, 3, 116, 0, []),
  (219, .aload_n 0, 1, 0, 0, []),
  (220, .getfield 194, 3, 12, 34, []),
  (223, .putfield 194, 3, 12, 34, [0]),
  (226, .aload_n 0, 1, 0, 0, []),
  (227, .aload_n 0, 1, 0, 0, []),
  (228, .getfield 182, 3, 12, 31, []),
  (231, .iconst 1, 1, 1, 0, []),
  (232, .iadd, 1, 0, 0, []),
  (233, .putfield 182, 3, 12, 31, [0]),
  (236, .goto (-65), 3, 90, 0, []),
  (239, .aload_n 0, 1, 0, 0, []),
  (240, .getfield 182, 3, 12, 31, []),
  (243, .aload_n 0, 1, 0, 0, []),
  (244, .getfield 188, 3, 12, 32, []),
  (247, .isub, 1, 0, 0, []),
  (248, .iconst 5, 1, 5, 0, []),
  (249, .if_icmp .ge 24, 3, 142, 0, []),
  (252, .aload_n 0, 1, 0, 0, []),
  (253, .iconst 3, 1, 3, 0, []),
  (254, .putfield 191, 3, 12, 33, [0]),
  (257, .goto 16, 3, 142, 0, []),
  (260, .aload_n 0, 1, 0, 0, []),
  (261, .iload_n 1, 1, 0, 0, []),
  (262, .invokevirtual 207, 3, 180, 1, [12]),
  (265, .ifCond .eq 8, 3, 142, 0, []),
  (268, .aload_n 0, 1, 0, 0, []),
  (269, .iconst 4, 1, 4, 0, []),
  (270, .putfield 191, 3, 12, 33, [0]),
  (273, .return_, 1, 0, 0, [])]
/-- Model.errs -/
def pc_183 : List pm_I := [
  (0, .aload_n 0, 1, 0, 0, []),
  (1, .iload_n 1, 1, 0, 0, []),
  (2, .putfield 210, 3, 12, 46, [0]),
  (5, .aload_n 0, 1, 0, 0, []),
  (6, .aload_n 0, 1, 0, 0, []),
  (7, .getfield 188, 3, 12, 32, []),
  (10, .putfield 213, 3, 12, 47, [0]),
  (13, .iconst (-1), 1, 1, 1, []),
  (14, .ireturn, 1, 0, 0, [])]
/-- Model.isWord -/
def pc_184 : List pm_I := [
  (0, .aload_n 0, 1, 0, 0, []),
  (1, .getfield 191, 3, 12, 33, []),
  (4, .iconst 2, 1, 2, 0, []),
  (5, .if_icmp .ne 15, 3, 10, 0, []),
  (8, .aload_n 0, 1, 0, 0, []),
  (9, .getfield 194, 3, 12, 34, []),
  (12, .iload_n 1, 1, 0, 0, []),
  (13, .if_icmp .ne 7, 3, 10, 0, []),
  (16, .iconst 1, 1, 1, 0, []),
  (17, .goto 4, 3, 11, 0, []),
  (20, .iconst 0, 1, 0, 0, []),
  (21, .ireturn, 1, 0, 0, [])]
/-- Model.isSign -/
def pc_185 : List pm_I := [
  (0, .aload_n 0, 1, 0, 0, []),
  (1, .getfield 191, 3, 12, 33, []),
  (4, .iconst 4, 1, 4, 0, []),
  (5, .if_icmp .ne 15, 3, 10, 0, []),
  (8, .aload_n 0, 1, 0, 0, []),
  (9, .getfield 194, 3, 12, 34, []),
  (12, .iload_n 1, 1, 0, 0, []),
  (13, .if_icmp .ne 7, 3, 10, 0, []),
  (16, .iconst 1, 1, 1, 0, []),
  (17, .goto 4, 3, 11, 0, []),
  (20, .iconst 0, 1, 0, 0, []),
  (21, .ireturn, 1, 0, 0, [])]
/-- Model.emits -/
def pc_186 : List pm_I := [
  (0, .aload_n 0, 1, 0, 0, []),
  (1, .getfield 85, 3, 12, 40, []),
  (4, .sipush 400, 3, 400, 0, []),
  (7, .aload_n 0, 1, 0, 0, []),
  (8, .getfield 216, 3, 12, 42, []),
  (11, .iadd, 1, 0, 0, []),
  (12, .iload_n 1, 1, 0, 0, []),
  (13, .iastore, 1, 0, 0, []),
  (14, .aload_n 0, 1, 0, 0, []),
  (15, .getfield 88, 3, 12, 41, []),
  (18, .sipush 400, 3, 400, 0, []),
  (21, .aload_n 0, 1, 0, 0, []),
  (22, .getfield 216, 3, 12, 42, []),
  (25, .iadd, 1, 0, 0, []),
  (26, .iload_n 2, 1, 0, 0, []),
  (27, .iastore, 1, 0, 0, []),
  (28, .aload_n 0, 1, 0, 0, []),
  (29, .aload_n 0, 1, 0, 0, []),
  (30, .getfield 216, 3, 12, 42, []),
  (33, .iconst 1, 1, 1, 0, []),
  (34, .iadd, 1, 0, 0, []),
  (35, .putfield 216, 3, 12, 42, [0]),
  (38, .return_, 1, 0, 0, [])]
/-- Model.readUnit -/
def pc_187 : List pm_I := [
  (0, .aload_n 0, 1, 0, 0, []),
  (1, .getfield 191, 3, 12, 33, []),
  (4, .iconst 2, 1, 2, 0, []),
  (5, .if_icmp .ne 16, 3, 10, 0, []),
  (8, .aload_n 0, 1, 0, 0, []),
  (9, .getfield 194, 3, 12, 34, []),
  (12, .bipush 6, 2, 6, 0, []),
  (14, .if_icmp .lt 7, 3, 10, 0, []),
  (17, .iconst 1, 1, 1, 0, []),
  (18, .goto 4, 3, 11, 0, []),
  (21, .iconst 0, 1, 0, 0, []),
  (22, .istore_n 1, 1, 0, 0, []),
  (23, .iload_n 1, 1, 0, 0, []),
  (24, .ifCond .ne 17, 3, 22, 0, []),
  (27, .aload_n 0, 1, 0, 0, []),
  (28, .getfield 191, 3, 12, 33, []),
  (31, .iconst 3, 1, 3, 0, []),
  (32, .if_icmp .eq 9, 3, 22, 0, []),
  (35, .aload_n 0, 1, 0, 0, []),
  (36, .iconst 1, 1, 1, 0, []),
  (37, .invokevirtual 219, 3, 183, 1, [12]),
  (40, .ireturn, 1, 0, 0, []),
  (41, .aload_n 0, 1, 0, 0, []),
  (42, .iload_n 1, 1, 0, 0, []),
  (43, .ifCond .eq 7, 3, 27, 0, []),
  (46, .iconst 1, 1, 1, 0, []),
  (47, .goto 4, 3, 28, 0, []),
  (50, .iconst 0, 1, 0, 0, []),
  (51, .iload_n 1, 1, 0, 0, []),
  (52, .ifCond .eq 13, 3, 35, 0, []),
  (55, .aload_n 0, 1, 0, 0, []),
  (56, .getfield 194, 3, 12, 34, []),
  (59, .bipush 6, 2, 6, 0, []),
  (61, .isub, 1, 0, 0, []),
  (62, .goto 7, 3, 37, 0, []),
  (65, .aload_n 0, 1, 0, 0, []),
  (66, .getfield 194, 3, 12, 34, []),
  (69, .invokevirtual 222, 3, 186, 2, [12]),
  (72, .aload_n 0, 1, 0, 0, []),
  (73, .invokevirtual 226, 3, 182, 0, [12]),
  (76, .iconst 0, 1, 0, 0, []),
  (77, .ireturn, 1, 0, 0, [])]
/-- Model.readProduct -/
def pc_188 : List pm_I := [
  (0, .aload_n 0, 1, 0, 0, []),
  (1, .invokevirtual 229, 3, 187, 0, [12]),
  (4, .iconst (-1), 1, 1, 1, []),
  (5, .if_icmp .ne 5, 3, 6, 0, []),
  (8, .iconst (-1), 1, 1, 1, []),
  (9, .ireturn, 1, 0, 0, []),
  (10, .aload_n 0, 1, 0, 0, []),
  (11, .bipush 42, 2, 42, 0, []),
  (13, .invokevirtual 233, 3, 185, 1, [12]),
  (16, .ifCond .ne 12, 3, 14, 0, []),
  (19, .aload_n 0, 1, 0, 0, []),
  (20, .bipush 47, 2, 47, 0, []),
  (22, .invokevirtual 233, 3, 185, 1, [12]),
  (25, .ifCond .eq 76, 3, 54, 0, []),
  (28, .aload_n 0, 1, 0, 0, []),
  (29, .bipush 42, 2, 42, 0, []),
  (31, .invokevirtual 233, 3, 185, 1, [12]),
  (34, .istore_n 1, 1, 0, 0, []),
  (35, .aload_n 0, 1, 0, 0, []),
  (36, .invokevirtual 226, 3, 182, 0, [12]),
  (39, .iload_n 1, 1, 0, 0, []),
  (40, .ifCond .ne 17, 3, 30, 0, []),
  (43, .aload_n 0, 1, 0, 0, []),
  (44, .getfield 191, 3, 12, 33, []),
  (47, .iconst 3, 1, 3, 0, []),
  (48, .if_icmp .eq 9, 3, 30, 0, []),
  (51, .aload_n 0, 1, 0, 0, []),
  (52, .iconst 1, 1, 1, 0, []),
  (53, .invokevirtual 219, 3, 183, 1, [12]),
  (56, .ireturn, 1, 0, 0, []),
  (57, .iload_n 1, 1, 0, 0, []),
  (58, .ifCond .ne 16, 3, 39, 0, []),
  (61, .aload_n 0, 1, 0, 0, []),
  (62, .getfield 194, 3, 12, 34, []),
  (65, .ifCond .ne 9, 3, 39, 0, []),
  (68, .aload_n 0, 1, 0, 0, []),
  (69, .iconst 2, 1, 2, 0, []),
  (70, .invokevirtual 219, 3, 183, 1, [12]),
  (73, .ireturn, 1, 0, 0, []),
  (74, .aload_n 0, 1, 0, 0, []),
  (75, .invokevirtual 229, 3, 187, 0, [12]),
  (78, .iconst (-1), 1, 1, 1, []),
  (79, .if_icmp .ne 5, 3, 45, 0, []),
  (82, .iconst (-1), 1, 1, 1, []),
  (83, .ireturn, 1, 0, 0, []),
  (84, .aload_n 0, 1, 0, 0, []),
  (85, .iload_n 1, 1, 0, 0, []),
  (86, .ifCond .eq 7, 3, 50, 0, []),
  (89, .iconst 4, 1, 4, 0, []),
  (90, .goto 4, 3, 51, 0, []),
  (93, .iconst 5, 1, 5, 0, []),
  (94, .iconst 0, 1, 0, 0, []),
  (95, .invokevirtual 222, 3, 186, 2, [12]),
  (98, .goto (-88), 3, 6, 0, []),
  (101, .iconst 0, 1, 0, 0, []),
  (102, .ireturn, 1, 0, 0, [])]
/-- Model.readSum -/
def pc_189 : List pm_I := [
  (0, .aload_n 0, 1, 0, 0, []),
  (1, .invokevirtual 236, 3, 188, 0, [12]),
  (4, .iconst (-1), 1, 1, 1, []),
  (5, .if_icmp .ne 5, 3, 6, 0, []),
  (8, .iconst (-1), 1, 1, 1, []),
  (9, .ireturn, 1, 0, 0, []),
  (10, .aload_n 0, 1, 0, 0, []),
  (11, .bipush 43, 2, 43, 0, []),
  (13, .invokevirtual 233, 3, 185, 1, [12]),
  (16, .ifCond .ne 12, 3, 14, 0, []),
  (19, .aload_n 0, 1, 0, 0, []),
  (20, .bipush 45, 2, 45, 0, []),
  (22, .invokevirtual 233, 3, 185, 1, [12]),
  (25, .ifCond .eq 41, 3, 35, 0, []),
  (28, .aload_n 0, 1, 0, 0, []),
  (29, .getfield 194, 3, 12, 34, []),
  (32, .bipush 43, 2, 43, 0, []),
  (34, .if_icmp .ne 7, 3, 20, 0, []),
  (37, .iconst 2, 1, 2, 0, []),
  (38, .goto 4, 3, 21, 0, []),
  (41, .iconst 3, 1, 3, 0, []),
  (42, .istore_n 1, 1, 0, 0, []),
  (43, .aload_n 0, 1, 0, 0, []),
  (44, .invokevirtual 226, 3, 182, 0, [12]),
  (47, .aload_n 0, 1, 0, 0, []),
  (48, .invokevirtual 236, 3, 188, 0, [12]),
  (51, .iconst (-1), 1, 1, 1, []),
  (52, .if_icmp .ne 5, 3, 30, 0, []),
  (55, .iconst (-1), 1, 1, 1, []),
  (56, .ireturn, 1, 0, 0, []),
  (57, .aload_n 0, 1, 0, 0, []),
  (58, .iload_n 1, 1, 0, 0, []),
  (59, .iconst 0, 1, 0, 0, []),
  (60, .invokevirtual 222, 3, 186, 2, [12]),
  (63, .goto (-53), 3, 6, 0, []),
  (66, .iconst 0, 1, 0, 0, []),
  (67, .ireturn, 1, 0, 0, [])]
/-- Model.readCompared -/
def pc_190 : List pm_I := [
  (0, .aload_n 0, 1, 0, 0, []),
  (1, .invokevirtual 239, 3, 189, 0, [12]),
  (4, .iconst (-1), 1, 1, 1, []),
  (5, .if_icmp .ne 5, 3, 6, 0, []),
  (8, .iconst (-1), 1, 1, 1, []),
  (9, .ireturn, 1, 0, 0, []),
  (10, .aload_n 0, 1, 0, 0, []),
  (11, .bipush 60, 2, 60, 0, []),
  (13, .invokevirtual 233, 3, 185, 1, [12]),
  (16, .ifCond .ne 27, 3, 22, 0, []),
  (19, .aload_n 0, 1, 0, 0, []),
  (20, .bipush 61, 2, 61, 0, []),
  (22, .invokevirtual 233, 3, 185, 1, [12]),
  (25, .ifCond .ne 18, 3, 22, 0, []),
  (28, .aload_n 0, 1, 0, 0, []),
  (29, .bipush 62, 2, 62, 0, []),
  (31, .invokevirtual 233, 3, 185, 1, [12]),
  (34, .ifCond .ne 9, 3, 22, 0, []),
  (37, .aload_n 0, 1, 0, 0, []),
  (38, .iconst 1, 1, 1, 0, []),
  (39, .invokevirtual 219, 3, 183, 1, [12]),
  (42, .ireturn, 1, 0, 0, []),
  (43, .aload_n 0, 1, 0, 0, []),
  (44, .getfield 194, 3, 12, 34, []),
  (47, .bipush 60, 2, 60, 0, []),
  (49, .if_icmp .ne 8, 3, 28, 0, []),
  (52, .bipush 6, 2, 6, 0, []),
  (54, .goto 19, 3, 35, 0, []),
  (57, .aload_n 0, 1, 0, 0, []),
  (58, .getfield 194, 3, 12, 34, []),
  (61, .bipush 61, 2, 61, 0, []),
  (63, .if_icmp .ne 8, 3, 34, 0, []),
  (66, .bipush 7, 2, 7, 0, []),
  (68, .goto 5, 3, 35, 0, []),
  (71, .bipush 8, 2, 8, 0, []),
  (73, .istore_n 1, 1, 0, 0, []),
  (74, .aload_n 0, 1, 0, 0, []),
  (75, .invokevirtual 226, 3, 182, 0, [12]),
  (78, .aload_n 0, 1, 0, 0, []),
  (79, .invokevirtual 239, 3, 189, 0, [12]),
  (82, .iconst (-1), 1, 1, 1, []),
  (83, .if_icmp .ne 5, 3, 44, 0, []),
  (86, .iconst (-1), 1, 1, 1, []),
  (87, .ireturn, 1, 0, 0, []),
  (88, .aload_n 0, 1, 0, 0, []),
  (89, .iload_n 1, 1, 0, 0, []),
  (90, .iconst 0, 1, 0, 0, []),
  (91, .invokevirtual 222, 3, 186, 2, [12]),
  (94, .iconst 0, 1, 0, 0, []),
  (95, .ireturn, 1, 0, 0, [])]
/-- Model.waits -/
def pc_191 : List pm_I := [
  (0, .aload_n 0, 1, 0, 0, []),
  (1, .getfield 91, 3, 12, 44, []),
  (4, .aload_n 0, 1, 0, 0, []),
  (5, .getfield 242, 3, 12, 45, []),
  (8, .iload_n 1, 1, 0, 0, []),
  (9, .iastore, 1, 0, 0, []),
  (10, .aload_n 0, 1, 0, 0, []),
  (11, .aload_n 0, 1, 0, 0, []),
  (12, .getfield 242, 3, 12, 45, []),
  (15, .iconst 1, 1, 1, 0, []),
  (16, .iadd, 1, 0, 0, []),
  (17, .putfield 242, 3, 12, 45, [0]),
  (20, .return_, 1, 0, 0, [])]
/-- Model.settles -/
def pc_192 : List pm_I := [
  (0, .aload_n 0, 1, 0, 0, []),
  (1, .getfield 242, 3, 12, 45, []),
  (4, .ifCond .le 53, 3, 32, 0, []),
  (7, .aload_n 0, 1, 0, 0, []),
  (8, .getfield 91, 3, 12, 44, []),
  (11, .aload_n 0, 1, 0, 0, []),
  (12, .getfield 242, 3, 12, 45, []),
  (15, .iconst 1, 1, 1, 0, []),
  (16, .isub, 1, 0, 0, []),
  (17, .iaload, 1, 0, 0, []),
  (18, .iload_n 1, 1, 0, 0, []),
  (19, .if_icmp .ne 38, 3, 32, 0, []),
  (22, .aload_n 0, 1, 0, 0, []),
  (23, .aload_n 0, 1, 0, 0, []),
  (24, .getfield 242, 3, 12, 45, []),
  (27, .iconst 1, 1, 1, 0, []),
  (28, .isub, 1, 0, 0, []),
  (29, .putfield 242, 3, 12, 45, [0]),
  (32, .aload_n 0, 1, 0, 0, []),
  (33, .iload_n 1, 1, 0, 0, []),
  (34, .iconst 0, 1, 0, 0, []),
  (35, .invokevirtual 222, 3, 186, 2, [12]),
  (38, .iload_n 1, 1, 0, 0, []),
  (39, .bipush 9, 2, 9, 0, []),
  (41, .if_icmp .ne (-41), 3, 0, 0, []),
  (44, .aload_n 0, 1, 0, 0, []),
  (45, .aload_n 0, 1, 0, 0, []),
  (46, .getfield 245, 3, 12, 43, []),
  (49, .iconst 1, 1, 1, 0, []),
  (50, .isub, 1, 0, 0, []),
  (51, .putfield 245, 3, 12, 43, [0]),
  (54, .goto (-54), 3, 0, 0, []),
  (57, .return_, 1, 0, 0, [])]
/-- Model.readAny -/
def pc_193 : List pm_I := [
  (0, .iconst 0, 1, 0, 0, []),
  (1, .istore_n 1, 1, 0, 0, []),
  (2, .aload_n 0, 1, 0, 0, []),
  (3, .iconst 0, 1, 0, 0, []),
  (4, .putfield 242, 3, 12, 45, [0]),
  (7, .iconst 1, 1, 1, 0, []),
  (8, .istore_n 2, 1, 0, 0, []),
  (9, .iload_n 2, 1, 0, 0, []),
  (10, .ifCond .eq 98, 3, 61, 0, []),
  (13, .aload_n 0, 1, 0, 0, []),
  (14, .iconst 5, 1, 5, 0, []),
  (15, .invokevirtual 248, 3, 184, 1, [12]),
  (18, .istore_n 3, 1, 0, 0, []),
  (19, .iload_n 3, 1, 0, 0, []),
  (20, .ifCond .ne 12, 3, 19, 0, []),
  (23, .aload_n 0, 1, 0, 0, []),
  (24, .bipush 40, 2, 40, 0, []),
  (26, .invokevirtual 233, 3, 185, 1, [12]),
  (29, .ifCond .eq 58, 3, 49, 0, []),
  (32, .aload_n 0, 1, 0, 0, []),
  (33, .getfield 245, 3, 12, 43, []),
  (36, .bipush 8, 2, 8, 0, []),
  (38, .if_icmp .ne 9, 3, 27, 0, []),
  (41, .aload_n 0, 1, 0, 0, []),
  (42, .iconst 3, 1, 3, 0, []),
  (43, .invokevirtual 219, 3, 183, 1, [12]),
  (46, .ireturn, 1, 0, 0, []),
  (47, .aload_n 0, 1, 0, 0, []),
  (48, .aload_n 0, 1, 0, 0, []),
  (49, .getfield 245, 3, 12, 43, []),
  (52, .iconst 1, 1, 1, 0, []),
  (53, .iadd, 1, 0, 0, []),
  (54, .putfield 245, 3, 12, 43, [0]),
  (57, .iload_n 3, 1, 0, 0, []),
  (58, .ifCond .ne 7, 3, 39, 0, []),
  (61, .iload_n 1, 1, 0, 0, []),
  (62, .iconst 1, 1, 1, 0, []),
  (63, .iadd, 1, 0, 0, []),
  (64, .istore_n 1, 1, 0, 0, []),
  (65, .aload_n 0, 1, 0, 0, []),
  (66, .iload_n 3, 1, 0, 0, []),
  (67, .ifCond .eq 8, 3, 44, 0, []),
  (70, .bipush 9, 2, 9, 0, []),
  (72, .goto 5, 3, 45, 0, []),
  (75, .bipush 12, 2, 12, 0, []),
  (77, .invokevirtual 251, 3, 191, 1, [12]),
  (80, .aload_n 0, 1, 0, 0, []),
  (81, .invokevirtual 226, 3, 182, 0, [12]),
  (84, .goto (-75), 3, 7, 0, []),
  (87, .aload_n 0, 1, 0, 0, []),
  (88, .invokevirtual 254, 3, 190, 0, [12]),
  (91, .iconst (-1), 1, 1, 1, []),
  (92, .if_icmp .ne 5, 3, 55, 0, []),
  (95, .iconst (-1), 1, 1, 1, []),
  (96, .ireturn, 1, 0, 0, []),
  (97, .aload_n 0, 1, 0, 0, []),
  (98, .bipush 9, 2, 9, 0, []),
  (100, .invokevirtual 257, 3, 192, 1, [12]),
  (103, .iconst 0, 1, 0, 0, []),
  (104, .istore_n 2, 1, 0, 0, []),
  (105, .goto (-96), 3, 7, 0, []),
  (108, .aload_n 0, 1, 0, 0, []),
  (109, .iconst 4, 1, 4, 0, []),
  (110, .invokevirtual 248, 3, 184, 1, [12]),
  (113, .ifCond .eq 24, 3, 76, 0, []),
  (116, .aload_n 0, 1, 0, 0, []),
  (117, .bipush 10, 2, 10, 0, []),
  (119, .invokevirtual 257, 3, 192, 1, [12]),
  (122, .aload_n 0, 1, 0, 0, []),
  (123, .bipush 10, 2, 10, 0, []),
  (125, .invokevirtual 251, 3, 191, 1, [12]),
  (128, .aload_n 0, 1, 0, 0, []),
  (129, .invokevirtual 226, 3, 182, 0, [12]),
  (132, .iconst 1, 1, 1, 0, []),
  (133, .istore_n 2, 1, 0, 0, []),
  (134, .goto (-125), 3, 7, 0, []),
  (137, .aload_n 0, 1, 0, 0, []),
  (138, .iconst 3, 1, 3, 0, []),
  (139, .invokevirtual 248, 3, 184, 1, [12]),
  (142, .ifCond .eq 30, 3, 94, 0, []),
  (145, .aload_n 0, 1, 0, 0, []),
  (146, .bipush 10, 2, 10, 0, []),
  (148, .invokevirtual 257, 3, 192, 1, [12]),
  (151, .aload_n 0, 1, 0, 0, []),
  (152, .bipush 11, 2, 11, 0, []),
  (154, .invokevirtual 257, 3, 192, 1, [12]),
  (157, .aload_n 0, 1, 0, 0, []),
  (158, .bipush 11, 2, 11, 0, []),
  (160, .invokevirtual 251, 3, 191, 1, [12]),
  (163, .aload_n 0, 1, 0, 0, []),
  (164, .invokevirtual 226, 3, 182, 0, [12]),
  (167, .iconst 1, 1, 1, 0, []),
  (168, .istore_n 2, 1, 0, 0, []),
  (169, .goto (-160), 3, 7, 0, []),
  (172, .aload_n 0, 1, 0, 0, []),
  (173, .bipush 10, 2, 10, 0, []),
  (175, .invokevirtual 257, 3, 192, 1, [12]),
  (178, .aload_n 0, 1, 0, 0, []),
  (179, .bipush 11, 2, 11, 0, []),
  (181, .invokevirtual 257, 3, 192, 1, [12]),
  (184, .iload_n 1, 1, 0, 0, []),
  (185, .ifCond .ne 5, 3, 104, 0, []),
  (188, .iconst 0, 1, 0, 0, []),
  (189, .ireturn, 1, 0, 0, []),
  (190, .aload_n 0, 1, 0, 0, []),
  (191, .bipush 41, 2, 41, 0, []),
  (193, .invokevirtual 233, 3, 185, 1, [12]),
  (196, .ifCond .ne 9, 3, 112, 0, []),
  (199, .aload_n 0, 1, 0, 0, []),
  (200, .iconst 1, 1, 1, 0, []),
  (201, .invokevirtual 219, 3, 183, 1, [12]),
  (204, .ireturn, 1, 0, 0, []),
  (205, .aload_n 0, 1, 0, 0, []),
  (206, .aload_n 0, 1, 0, 0, []),
  (207, .getfield 242, 3, 12, 45, []),
  (210, .iconst 1, 1, 1, 0, []),
  (211, .isub, 1, 0, 0, []),
  (212, .putfield 242, 3, 12, 45, [0]),
  (215, .iload_n 1, 1, 0, 0, []),
  (216, .iconst 1, 1, 1, 0, []),
  (217, .isub, 1, 0, 0, []),
  (218, .istore_n 1, 1, 0, 0, []),
  (219, .aload_n 0, 1, 0, 0, []),
  (220, .aload_n 0, 1, 0, 0, []),
  (221, .getfield 245, 3, 12, 43, []),
  (224, .iconst 1, 1, 1, 0, []),
  (225, .isub, 1, 0, 0, []),
  (226, .putfield 245, 3, 12, 43, [0]),
  (229, .aload_n 0, 1, 0, 0, []),
  (230, .bipush 9, 2, 9, 0, []),
  (232, .invokevirtual 257, 3, 192, 1, [12]),
  (235, .aload_n 0, 1, 0, 0, []),
  (236, .invokevirtual 226, 3, 182, 0, [12]),
  (239, .goto (-230), 3, 7, 0, [])]
/-- Model.readText -/
def pc_194 : List pm_I := [
  (0, .iconst 0, 1, 0, 0, []),
  (1, .istore_n 1, 1, 0, 0, []),
  (2, .aload_n 0, 1, 0, 0, []),
  (3, .getfield 191, 3, 12, 33, []),
  (6, .iconst 2, 1, 2, 0, []),
  (7, .if_icmp .ne 110, 3, 68, 0, []),
  (10, .aload_n 0, 1, 0, 0, []),
  (11, .getfield 194, 3, 12, 34, []),
  (14, .iconst 1, 1, 1, 0, []),
  (15, .if_icmp .gt 102, 3, 68, 0, []),
  (18, .iload_n 1, 1, 0, 0, []),
  (19, .bipush 16, 2, 16, 0, []),
  (21, .if_icmp .ne 9, 3, 17, 0, []),
  (24, .aload_n 0, 1, 0, 0, []),
  (25, .iconst 3, 1, 3, 0, []),
  (26, .invokevirtual 219, 3, 183, 1, [12]),
  (29, .ireturn, 1, 0, 0, []),
  (30, .bipush 16, 2, 16, 0, []),
  (32, .iload_n 1, 1, 0, 0, []),
  (33, .iadd, 1, 0, 0, []),
  (34, .istore_n 2, 1, 0, 0, []),
  (35, .aload_n 0, 1, 0, 0, []),
  (36, .getfield 76, 3, 12, 37, []),
  (39, .iload_n 2, 1, 0, 0, []),
  (40, .aload_n 0, 1, 0, 0, []),
  (41, .getfield 194, 3, 12, 34, []),
  (44, .iastore, 1, 0, 0, []),
  (45, .aload_n 0, 1, 0, 0, []),
  (46, .invokevirtual 226, 3, 182, 0, [12]),
  (49, .aload_n 0, 1, 0, 0, []),
  (50, .getfield 79, 3, 12, 38, []),
  (53, .iload_n 2, 1, 0, 0, []),
  (54, .aload_n 0, 1, 0, 0, []),
  (55, .getfield 216, 3, 12, 42, []),
  (58, .iastore, 1, 0, 0, []),
  (59, .aload_n 0, 1, 0, 0, []),
  (60, .iconst 2, 1, 2, 0, []),
  (61, .invokevirtual 248, 3, 184, 1, [12]),
  (64, .ifCond .eq 17, 3, 47, 0, []),
  (67, .aload_n 0, 1, 0, 0, []),
  (68, .invokevirtual 226, 3, 182, 0, [12]),
  (71, .aload_n 0, 1, 0, 0, []),
  (72, .invokevirtual 260, 3, 193, 0, [12]),
  (75, .iconst (-1), 1, 1, 1, []),
  (76, .if_icmp .ne 5, 3, 47, 0, []),
  (79, .iconst (-1), 1, 1, 1, []),
  (80, .ireturn, 1, 0, 0, []),
  (81, .aload_n 0, 1, 0, 0, []),
  (82, .getfield 82, 3, 12, 39, []),
  (85, .iload_n 2, 1, 0, 0, []),
  (86, .aload_n 0, 1, 0, 0, []),
  (87, .getfield 216, 3, 12, 42, []),
  (90, .iastore, 1, 0, 0, []),
  (91, .aload_n 0, 1, 0, 0, []),
  (92, .bipush 59, 2, 59, 0, []),
  (94, .invokevirtual 233, 3, 185, 1, [12]),
  (97, .ifCond .ne 9, 3, 61, 0, []),
  (100, .aload_n 0, 1, 0, 0, []),
  (101, .iconst 1, 1, 1, 0, []),
  (102, .invokevirtual 219, 3, 183, 1, [12]),
  (105, .ireturn, 1, 0, 0, []),
  (106, .aload_n 0, 1, 0, 0, []),
  (107, .invokevirtual 226, 3, 182, 0, [12]),
  (110, .iload_n 1, 1, 0, 0, []),
  (111, .iconst 1, 1, 1, 0, []),
  (112, .iadd, 1, 0, 0, []),
  (113, .istore_n 1, 1, 0, 0, []),
  (114, .goto (-112), 3, 2, 0, []),
  (117, .aload_n 0, 1, 0, 0, []),
  (118, .getfield 191, 3, 12, 33, []),
  (121, .ifCond .ne 7, 3, 73, 0, []),
  (124, .iload_n 1, 1, 0, 0, []),
  (125, .goto 8, 3, 76, 0, []),
  (128, .aload_n 0, 1, 0, 0, []),
  (129, .iconst 1, 1, 1, 0, []),
  (130, .invokevirtual 219, 3, 183, 1, [12]),
  (133, .ireturn, 1, 0, 0, [])]
/-- Model.text -/
def pc_195 : List pm_I := [
  (0, .aload_n 0, 1, 0, 0, []),
  (1, .iconst 0, 1, 0, 0, []),
  (2, .putfield 136, 3, 12, 0, [0]),
  (5, .aload_n 0, 1, 0, 0, []),
  (6, .iconst 0, 1, 0, 0, []),
  (7, .putfield 263, 3, 12, 48, [0]),
  (10, .aload_n 0, 1, 0, 0, []),
  (11, .iconst (-1), 1, 1, 1, []),
  (12, .putfield 94, 3, 12, 49, [0]),
  (15, .aload_n 0, 1, 0, 0, []),
  (16, .iconst 0, 1, 0, 0, []),
  (17, .putfield 182, 3, 12, 31, [0]),
  (20, .aload_n 0, 1, 0, 0, []),
  (21, .iconst 0, 1, 0, 0, []),
  (22, .putfield 216, 3, 12, 42, [0]),
  (25, .aload_n 0, 1, 0, 0, []),
  (26, .iconst 0, 1, 0, 0, []),
  (27, .putfield 245, 3, 12, 43, [0]),
  (30, .aload_n 0, 1, 0, 0, []),
  (31, .invokevirtual 226, 3, 182, 0, [12]),
  (34, .aload_n 0, 1, 0, 0, []),
  (35, .invokevirtual 266, 3, 194, 0, [12]),
  (38, .istore_n 1, 1, 0, 0, []),
  (39, .aload_n 0, 1, 0, 0, []),
  (40, .iconst 0, 1, 0, 0, []),
  (41, .putfield 175, 3, 12, 30, [0]),
  (44, .iload_n 1, 1, 0, 0, []),
  (45, .iconst (-1), 1, 1, 1, []),
  (46, .if_icmp .ne 21, 3, 39, 0, []),
  (49, .aload_n 0, 1, 0, 0, []),
  (50, .aload_n 0, 1, 0, 0, []),
  (51, .getfield 210, 3, 12, 46, []),
  (54, .putfield 263, 3, 12, 48, [0]),
  (57, .aload_n 0, 1, 0, 0, []),
  (58, .aload_n 0, 1, 0, 0, []),
  (59, .getfield 213, 3, 12, 47, []),
  (62, .putfield 94, 3, 12, 49, [0]),
  (65, .iconst (-1), 1, 1, 1, []),
  (66, .ireturn, 1, 0, 0, []),
  (67, .iconst 0, 1, 0, 0, []),
  (68, .istore_n 2, 1, 0, 0, []),
  (69, .iload_n 2, 1, 0, 0, []),
  (70, .iload_n 1, 1, 0, 0, []),
  (71, .if_icmp .ge 54, 3, 76, 0, []),
  (74, .aload_n 0, 1, 0, 0, []),
  (75, .getfield 76, 3, 12, 37, []),
  (78, .iload_n 2, 1, 0, 0, []),
  (79, .aload_n 0, 1, 0, 0, []),
  (80, .getfield 76, 3, 12, 37, []),
  (83, .bipush 16, 2, 16, 0, []),
  (85, .iload_n 2, 1, 0, 0, []),
  (86, .iadd, 1, 0, 0, []),
  (87, .iaload, 1, 0, 0, []),
  (88, .iastore, 1, 0, 0, []),
  (89, .aload_n 0, 1, 0, 0, []),
  (90, .getfield 79, 3, 12, 38, []),
  (93, .iload_n 2, 1, 0, 0, []),
  (94, .aload_n 0, 1, 0, 0, []),
  (95, .getfield 79, 3, 12, 38, []),
  (98, .bipush 16, 2, 16, 0, []),
  (100, .iload_n 2, 1, 0, 0, []),
  (101, .iadd, 1, 0, 0, []),
  (102, .iaload, 1, 0, 0, []),
  (103, .iastore, 1, 0, 0, []),
  (104, .aload_n 0, 1, 0, 0, []),
  (105, .getfield 82, 3, 12, 39, []),
  (108, .iload_n 2, 1, 0, 0, []),
  (109, .aload_n 0, 1, 0, 0, []),
  (110, .getfield 82, 3, 12, 39, []),
  (113, .bipush 16, 2, 16, 0, []),
  (115, .iload_n 2, 1, 0, 0, []),
  (116, .iadd, 1, 0, 0, []),
  (117, .iaload, 1, 0, 0, []),
  (118, .iastore, 1, 0, 0, []),
  (119, .iinc 2 1, 3, 0, 0, []),
  (122, .goto (-53), 3, 41, 0, []),
  (125, .iconst 0, 1, 0, 0, []),
  (126, .istore_n 2, 1, 0, 0, []),
  (127, .iload_n 2, 1, 0, 0, []),
  (128, .aload_n 0, 1, 0, 0, []),
  (129, .getfield 216, 3, 12, 42, []),
  (132, .if_icmp .ge 41, 3, 104, 0, []),
  (135, .aload_n 0, 1, 0, 0, []),
  (136, .getfield 85, 3, 12, 40, []),
  (139, .iload_n 2, 1, 0, 0, []),
  (140, .aload_n 0, 1, 0, 0, []),
  (141, .getfield 85, 3, 12, 40, []),
  (144, .sipush 400, 3, 400, 0, []),
  (147, .iload_n 2, 1, 0, 0, []),
  (148, .iadd, 1, 0, 0, []),
  (149, .iaload, 1, 0, 0, []),
  (150, .iastore, 1, 0, 0, []),
  (151, .aload_n 0, 1, 0, 0, []),
  (152, .getfield 88, 3, 12, 41, []),
  (155, .iload_n 2, 1, 0, 0, []),
  (156, .aload_n 0, 1, 0, 0, []),
  (157, .getfield 88, 3, 12, 41, []),
  (160, .sipush 400, 3, 400, 0, []),
  (163, .iload_n 2, 1, 0, 0, []),
  (164, .iadd, 1, 0, 0, []),
  (165, .iaload, 1, 0, 0, []),
  (166, .iastore, 1, 0, 0, []),
  (167, .iinc 2 1, 3, 0, 0, []),
  (170, .goto (-43), 3, 78, 0, []),
  (173, .aload_n 0, 1, 0, 0, []),
  (174, .iload_n 1, 1, 0, 0, []),
  (175, .putfield 269, 3, 12, 36, [0]),
  (178, .iload_n 1, 1, 0, 0, []),
  (179, .ireturn, 1, 0, 0, [])]
/-- Model.fault -/
def pc_196 : List pm_I := [
  (0, .aload_n 0, 1, 0, 0, []),
  (1, .iconst 0, 1, 0, 0, []),
  (2, .putfield 136, 3, 12, 0, [0]),
  (5, .iload_n 1, 1, 0, 0, []),
  (6, .ifCond .ne 10, 3, 8, 0, []),
  (9, .aload_n 0, 1, 0, 0, []),
  (10, .getfield 263, 3, 12, 48, []),
  (13, .goto 16, 3, 15, 0, []),
  (16, .iload_n 1, 1, 0, 0, []),
  (17, .iconst 1, 1, 1, 0, []),
  (18, .if_icmp .ne 10, 3, 14, 0, []),
  (21, .aload_n 0, 1, 0, 0, []),
  (22, .getfield 94, 3, 12, 49, []),
  (25, .goto 4, 3, 15, 0, []),
  (28, .iconst (-1), 1, 1, 1, []),
  (29, .ireturn, 1, 0, 0, [])]
/-- Model.twoOf -/
def pc_197 : List pm_I := [
  (0, .iload_n 1, 1, 0, 0, []),
  (1, .iconst 2, 1, 2, 0, []),
  (2, .if_icmp .ne 7, 3, 7, 0, []),
  (5, .iload_n 2, 1, 0, 0, []),
  (6, .iload_n 3, 1, 0, 0, []),
  (7, .iadd, 1, 0, 0, []),
  (8, .ireturn, 1, 0, 0, []),
  (9, .iload_n 1, 1, 0, 0, []),
  (10, .iconst 3, 1, 3, 0, []),
  (11, .if_icmp .ne 7, 3, 14, 0, []),
  (14, .iload_n 2, 1, 0, 0, []),
  (15, .iload_n 3, 1, 0, 0, []),
  (16, .isub, 1, 0, 0, []),
  (17, .ireturn, 1, 0, 0, []),
  (18, .iload_n 1, 1, 0, 0, []),
  (19, .iconst 4, 1, 4, 0, []),
  (20, .if_icmp .ne 7, 3, 21, 0, []),
  (23, .iload_n 2, 1, 0, 0, []),
  (24, .iload_n 3, 1, 0, 0, []),
  (25, .imul, 1, 0, 0, []),
  (26, .ireturn, 1, 0, 0, []),
  (27, .iload_n 1, 1, 0, 0, []),
  (28, .iconst 5, 1, 5, 0, []),
  (29, .if_icmp .ne 7, 3, 28, 0, []),
  (32, .iload_n 2, 1, 0, 0, []),
  (33, .iload_n 3, 1, 0, 0, []),
  (34, .idiv, 1, 0, 0, []),
  (35, .ireturn, 1, 0, 0, []),
  (36, .iload_n 1, 1, 0, 0, []),
  (37, .bipush 6, 2, 6, 0, []),
  (39, .if_icmp .ne 14, 3, 38, 0, []),
  (42, .iload_n 2, 1, 0, 0, []),
  (43, .iload_n 3, 1, 0, 0, []),
  (44, .if_icmp .ge 7, 3, 36, 0, []),
  (47, .iconst 1, 1, 1, 0, []),
  (48, .goto 4, 3, 37, 0, []),
  (51, .iconst 0, 1, 0, 0, []),
  (52, .ireturn, 1, 0, 0, []),
  (53, .iload_n 1, 1, 0, 0, []),
  (54, .bipush 7, 2, 7, 0, []),
  (56, .if_icmp .ne 14, 3, 48, 0, []),
  (59, .iload_n 2, 1, 0, 0, []),
  (60, .iload_n 3, 1, 0, 0, []),
  (61, .if_icmp .ne 7, 3, 46, 0, []),
  (64, .iconst 1, 1, 1, 0, []),
  (65, .goto 4, 3, 47, 0, []),
  (68, .iconst 0, 1, 0, 0, []),
  (69, .ireturn, 1, 0, 0, []),
  (70, .iload_n 1, 1, 0, 0, []),
  (71, .bipush 8, 2, 8, 0, []),
  (73, .if_icmp .ne 14, 3, 58, 0, []),
  (76, .iload_n 2, 1, 0, 0, []),
  (77, .iload_n 3, 1, 0, 0, []),
  (78, .if_icmp .le 7, 3, 56, 0, []),
  (81, .iconst 1, 1, 1, 0, []),
  (82, .goto 4, 3, 57, 0, []),
  (85, .iconst 0, 1, 0, 0, []),
  (86, .ireturn, 1, 0, 0, []),
  (87, .iload_n 1, 1, 0, 0, []),
  (88, .bipush 10, 2, 10, 0, []),
  (90, .if_icmp .ne 9, 3, 65, 0, []),
  (93, .iload_n 2, 1, 0, 0, []),
  (94, .iload_n 3, 1, 0, 0, []),
  (95, .imul, 1, 0, 0, []),
  (96, .goto 14, 3, 72, 0, []),
  (99, .iload_n 2, 1, 0, 0, []),
  (100, .iload_n 3, 1, 0, 0, []),
  (101, .iadd, 1, 0, 0, []),
  (102, .ifCond .le 7, 3, 71, 0, []),
  (105, .iconst 1, 1, 1, 0, []),
  (106, .goto 4, 3, 72, 0, []),
  (109, .iconst 0, 1, 0, 0, []),
  (110, .ireturn, 1, 0, 0, [])]
/-- Model.isSo -/
def pc_198 : List pm_I := [
  (0, .aload_n 0, 1, 0, 0, []),
  (1, .getfield 79, 3, 12, 38, []),
  (4, .iload_n 2, 1, 0, 0, []),
  (5, .iaload, 1, 0, 0, []),
  (6, .aload_n 0, 1, 0, 0, []),
  (7, .getfield 82, 3, 12, 39, []),
  (10, .iload_n 2, 1, 0, 0, []),
  (11, .iaload, 1, 0, 0, []),
  (12, .if_icmp .ne 5, 3, 11, 0, []),
  (15, .iconst 1, 1, 1, 0, []),
  (16, .ireturn, 1, 0, 0, []),
  (17, .iconst 0, 1, 0, 0, []),
  (18, .istore_n 3, 1, 0, 0, []),
  (19, .sipush 400, 3, 400, 0, []),
  (22, .iload_n 1, 1, 0, 0, []),
  (23, .imul, 1, 0, 0, []),
  (24, .aload_n 0, 1, 0, 0, []),
  (25, .getfield 79, 3, 12, 38, []),
  (28, .iload_n 2, 1, 0, 0, []),
  (29, .iaload, 1, 0, 0, []),
  (30, .iadd, 1, 0, 0, []),
  (31, .istore 4, 2, 0, 0, []),
  (33, .iload 4, 2, 0, 0, []),
  (35, .sipush 400, 3, 400, 0, []),
  (38, .iload_n 1, 1, 0, 0, []),
  (39, .imul, 1, 0, 0, []),
  (40, .aload_n 0, 1, 0, 0, []),
  (41, .getfield 82, 3, 12, 39, []),
  (44, .iload_n 2, 1, 0, 0, []),
  (45, .iaload, 1, 0, 0, []),
  (46, .iadd, 1, 0, 0, []),
  (47, .if_icmp .ge 145, 3, 118, 0, []),
  (50, .aload_n 0, 1, 0, 0, []),
  (51, .getfield 85, 3, 12, 40, []),
  (54, .iload 4, 2, 0, 0, []),
  (56, .iaload, 1, 0, 0, []),
  (57, .ifCond .eq 14, 3, 43, 0, []),
  (60, .aload_n 0, 1, 0, 0, []),
  (61, .getfield 85, 3, 12, 40, []),
  (64, .iload 4, 2, 0, 0, []),
  (66, .iaload, 1, 0, 0, []),
  (67, .iconst 1, 1, 1, 0, []),
  (68, .if_icmp .ne 48, 3, 69, 0, []),
  (71, .aload_n 0, 1, 0, 0, []),
  (72, .getfield 101, 3, 12, 51, []),
  (75, .iload_n 3, 1, 0, 0, []),
  (76, .aload_n 0, 1, 0, 0, []),
  (77, .getfield 85, 3, 12, 40, []),
  (80, .iload 4, 2, 0, 0, []),
  (82, .iaload, 1, 0, 0, []),
  (83, .ifCond .ne 13, 3, 56, 0, []),
  (86, .aload_n 0, 1, 0, 0, []),
  (87, .getfield 88, 3, 12, 41, []),
  (90, .iload 4, 2, 0, 0, []),
  (92, .iaload, 1, 0, 0, []),
  (93, .goto 15, 3, 63, 0, []),
  (96, .aload_n 0, 1, 0, 0, []),
  (97, .getfield 98, 3, 12, 50, []),
  (100, .aload_n 0, 1, 0, 0, []),
  (101, .getfield 88, 3, 12, 41, []),
  (104, .iload 4, 2, 0, 0, []),
  (106, .iaload, 1, 0, 0, []),
  (107, .iaload, 1, 0, 0, []),
  (108, .iastore, 1, 0, 0, []),
  (109, .iload_n 3, 1, 0, 0, []),
  (110, .iconst 1, 1, 1, 0, []),
  (111, .iadd, 1, 0, 0, []),
  (112, .istore_n 3, 1, 0, 0, []),
  (113, .goto 73, 3, 116, 0, []),
  (116, .aload_n 0, 1, 0, 0, []),
  (117, .getfield 85, 3, 12, 40, []),
  (120, .iload 4, 2, 0, 0, []),
  (122, .iaload, 1, 0, 0, []),
  (123, .bipush 9, 2, 9, 0, []),
  (125, .if_icmp .ne 24, 3, 90, 0, []),
  (128, .aload_n 0, 1, 0, 0, []),
  (129, .getfield 101, 3, 12, 51, []),
  (132, .iload_n 3, 1, 0, 0, []),
  (133, .iconst 1, 1, 1, 0, []),
  (134, .isub, 1, 0, 0, []),
  (135, .iconst 1, 1, 1, 0, []),
  (136, .aload_n 0, 1, 0, 0, []),
  (137, .getfield 101, 3, 12, 51, []),
  (140, .iload_n 3, 1, 0, 0, []),
  (141, .iconst 1, 1, 1, 0, []),
  (142, .isub, 1, 0, 0, []),
  (143, .iaload, 1, 0, 0, []),
  (144, .isub, 1, 0, 0, []),
  (145, .iastore, 1, 0, 0, []),
  (146, .goto 40, 3, 116, 0, []),
  (149, .iload_n 3, 1, 0, 0, []),
  (150, .iconst 1, 1, 1, 0, []),
  (151, .isub, 1, 0, 0, []),
  (152, .istore_n 3, 1, 0, 0, []),
  (153, .aload_n 0, 1, 0, 0, []),
  (154, .getfield 101, 3, 12, 51, []),
  (157, .iload_n 3, 1, 0, 0, []),
  (158, .iconst 1, 1, 1, 0, []),
  (159, .isub, 1, 0, 0, []),
  (160, .aload_n 0, 1, 0, 0, []),
  (161, .aload_n 0, 1, 0, 0, []),
  (162, .getfield 85, 3, 12, 40, []),
  (165, .iload 4, 2, 0, 0, []),
  (167, .iaload, 1, 0, 0, []),
  (168, .aload_n 0, 1, 0, 0, []),
  (169, .getfield 101, 3, 12, 51, []),
  (172, .iload_n 3, 1, 0, 0, []),
  (173, .iconst 1, 1, 1, 0, []),
  (174, .isub, 1, 0, 0, []),
  (175, .iaload, 1, 0, 0, []),
  (176, .aload_n 0, 1, 0, 0, []),
  (177, .getfield 101, 3, 12, 51, []),
  (180, .iload_n 3, 1, 0, 0, []),
  (181, .iaload, 1, 0, 0, []),
  (182, .invokevirtual 272, 3, 197, 3, [12]),
  (185, .iastore, 1, 0, 0, []),
  (186, .iinc 4 1, 3, 0, 0, []),
  (189, .goto (-156), 3, 22, 0, []),
  (192, .aload_n 0, 1, 0, 0, []),
  (193, .getfield 101, 3, 12, 51, []),
  (196, .iconst 0, 1, 0, 0, []),
  (197, .iaload, 1, 0, 0, []),
  (198, .ifCond .eq 7, 3, 125, 0, []),
  (201, .iconst 1, 1, 1, 0, []),
  (202, .goto 4, 3, 126, 0, []),
  (205, .iconst 0, 1, 0, 0, []),
  (206, .ireturn, 1, 0, 0, [])]
/-- Model.isOpen -/
def pc_199 : List pm_I := [
  (0, .aload_n 0, 1, 0, 0, []),
  (1, .getfield 49, 3, 12, 18, []),
  (4, .iload_n 1, 1, 0, 0, []),
  (5, .iaload, 1, 0, 0, []),
  (6, .ifCond .ne 7, 3, 7, 0, []),
  (9, .iconst 1, 1, 1, 0, []),
  (10, .goto 4, 3, 8, 0, []),
  (13, .iconst 0, 1, 0, 0, []),
  (14, .ireturn, 1, 0, 0, [])]
/-- Model.hereAt -/
def pc_200 : List pm_I := [
  (0, .iconst 0, 1, 0, 0, []),
  (1, .istore_n 2, 1, 0, 0, []),
  (2, .iconst 0, 1, 0, 0, []),
  (3, .istore_n 3, 1, 0, 0, []),
  (4, .iload_n 3, 1, 0, 0, []),
  (5, .aload_n 0, 1, 0, 0, []),
  (6, .getfield 147, 3, 12, 5, []),
  (9, .if_icmp .ge 25, 3, 22, 0, []),
  (12, .aload_n 0, 1, 0, 0, []),
  (13, .getfield 28, 3, 12, 10, []),
  (16, .iload_n 3, 1, 0, 0, []),
  (17, .iaload, 1, 0, 0, []),
  (18, .iload_n 1, 1, 0, 0, []),
  (19, .iconst 1, 1, 1, 0, []),
  (20, .iadd, 1, 0, 0, []),
  (21, .if_icmp .ne 7, 3, 20, 0, []),
  (24, .iload_n 2, 1, 0, 0, []),
  (25, .iconst 1, 1, 1, 0, []),
  (26, .iadd, 1, 0, 0, []),
  (27, .istore_n 2, 1, 0, 0, []),
  (28, .iinc 3 1, 3, 0, 0, []),
  (31, .goto (-27), 3, 4, 0, []),
  (34, .iload_n 2, 1, 0, 0, []),
  (35, .ireturn, 1, 0, 0, [])]
/-- Model.lets -/
def pc_201 : List pm_I := [
  (0, .aload_n 0, 1, 0, 0, []),
  (1, .getfield 98, 3, 12, 50, []),
  (4, .iconst 0, 1, 0, 0, []),
  (5, .aload_n 0, 1, 0, 0, []),
  (6, .getfield 37, 3, 12, 14, []),
  (9, .iload_n 1, 1, 0, 0, []),
  (10, .iaload, 1, 0, 0, []),
  (11, .iastore, 1, 0, 0, []),
  (12, .aload_n 0, 1, 0, 0, []),
  (13, .getfield 98, 3, 12, 50, []),
  (16, .iconst 1, 1, 1, 0, []),
  (17, .aload_n 0, 1, 0, 0, []),
  (18, .getfield 165, 3, 12, 19, []),
  (21, .aload_n 0, 1, 0, 0, []),
  (22, .getfield 43, 3, 12, 16, []),
  (25, .iload_n 1, 1, 0, 0, []),
  (26, .iaload, 1, 0, 0, []),
  (27, .isub, 1, 0, 0, []),
  (28, .iastore, 1, 0, 0, []),
  (29, .aload_n 0, 1, 0, 0, []),
  (30, .getfield 98, 3, 12, 50, []),
  (33, .iconst 2, 1, 2, 0, []),
  (34, .aload_n 0, 1, 0, 0, []),
  (35, .getfield 19, 3, 12, 7, []),
  (38, .aload_n 0, 1, 0, 0, []),
  (39, .getfield 31, 3, 12, 12, []),
  (42, .iload_n 1, 1, 0, 0, []),
  (43, .iaload, 1, 0, 0, []),
  (44, .iaload, 1, 0, 0, []),
  (45, .iastore, 1, 0, 0, []),
  (46, .aload_n 0, 1, 0, 0, []),
  (47, .getfield 98, 3, 12, 50, []),
  (50, .iconst 3, 1, 3, 0, []),
  (51, .aload_n 0, 1, 0, 0, []),
  (52, .getfield 40, 3, 12, 15, []),
  (55, .iload_n 1, 1, 0, 0, []),
  (56, .iaload, 1, 0, 0, []),
  (57, .iastore, 1, 0, 0, []),
  (58, .aload_n 0, 1, 0, 0, []),
  (59, .getfield 98, 3, 12, 50, []),
  (62, .iconst 4, 1, 4, 0, []),
  (63, .aload_n 0, 1, 0, 0, []),
  (64, .getfield 22, 3, 12, 8, []),
  (67, .aload_n 0, 1, 0, 0, []),
  (68, .getfield 31, 3, 12, 12, []),
  (71, .iload_n 1, 1, 0, 0, []),
  (72, .iaload, 1, 0, 0, []),
  (73, .iaload, 1, 0, 0, []),
  (74, .iastore, 1, 0, 0, []),
  (75, .aload_n 0, 1, 0, 0, []),
  (76, .getfield 98, 3, 12, 50, []),
  (79, .iconst 5, 1, 5, 0, []),
  (80, .aload_n 0, 1, 0, 0, []),
  (81, .aload_n 0, 1, 0, 0, []),
  (82, .getfield 40, 3, 12, 15, []),
  (85, .iload_n 1, 1, 0, 0, []),
  (86, .iaload, 1, 0, 0, []),
  (87, .invokevirtual 276, 3, 200, 1, [12]),
  (90, .iastore, 1, 0, 0, []),
  (91, .aload_n 0, 1, 0, 0, []),
  (92, .getfield 98, 3, 12, 50, []),
  (95, .bipush 6, 2, 6, 0, []),
  (97, .aload_n 0, 1, 0, 0, []),
  (98, .getfield 31, 3, 12, 12, []),
  (101, .iload_n 1, 1, 0, 0, []),
  (102, .iaload, 1, 0, 0, []),
  (103, .iastore, 1, 0, 0, []),
  (104, .aload_n 0, 1, 0, 0, []),
  (105, .getfield 98, 3, 12, 50, []),
  (108, .bipush 7, 2, 7, 0, []),
  (110, .aload_n 0, 1, 0, 0, []),
  (111, .getfield 34, 3, 12, 13, []),
  (114, .iload_n 1, 1, 0, 0, []),
  (115, .iaload, 1, 0, 0, []),
  (116, .iastore, 1, 0, 0, []),
  (117, .aload_n 0, 1, 0, 0, []),
  (118, .getfield 98, 3, 12, 50, []),
  (121, .bipush 8, 2, 8, 0, []),
  (123, .aload_n 0, 1, 0, 0, []),
  (124, .getfield 165, 3, 12, 19, []),
  (127, .iastore, 1, 0, 0, []),
  (128, .iconst 0, 1, 0, 0, []),
  (129, .istore_n 2, 1, 0, 0, []),
  (130, .iload_n 2, 1, 0, 0, []),
  (131, .aload_n 0, 1, 0, 0, []),
  (132, .getfield 269, 3, 12, 36, []),
  (135, .if_icmp .ge 33, 3, 103, 0, []),
  (138, .aload_n 0, 1, 0, 0, []),
  (139, .iconst 0, 1, 0, 0, []),
  (140, .iload_n 2, 1, 0, 0, []),
  (141, .invokevirtual 279, 3, 198, 2, [12]),
  (144, .ifCond .eq 18, 3, 101, 0, []),
  (147, .aload_n 0, 1, 0, 0, []),
  (148, .getfield 76, 3, 12, 37, []),
  (151, .iload_n 2, 1, 0, 0, []),
  (152, .iaload, 1, 0, 0, []),
  (153, .ifCond .ne 7, 3, 99, 0, []),
  (156, .iconst 1, 1, 1, 0, []),
  (157, .goto 4, 3, 100, 0, []),
  (160, .iconst 0, 1, 0, 0, []),
  (161, .ireturn, 1, 0, 0, []),
  (162, .iinc 2 1, 3, 0, 0, []),
  (165, .goto (-35), 3, 83, 0, []),
  (168, .iconst 1, 1, 1, 0, []),
  (169, .ireturn, 1, 0, 0, [])]
/-- Model.goes -/
def pc_202 : List pm_I := [
  (0, .iconst 0, 1, 0, 0, []),
  (1, .istore_n 2, 1, 0, 0, []),
  (2, .iload_n 2, 1, 0, 0, []),
  (3, .aload_n 0, 1, 0, 0, []),
  (4, .getfield 147, 3, 12, 5, []),
  (7, .if_icmp .ge 118, 3, 77, 0, []),
  (10, .iload_n 1, 1, 0, 0, []),
  (11, .ifCond .eq 12, 3, 13, 0, []),
  (14, .aload_n 0, 1, 0, 0, []),
  (15, .getfield 16, 3, 12, 6, []),
  (18, .iload_n 2, 1, 0, 0, []),
  (19, .iaload, 1, 0, 0, []),
  (20, .goto 9, 3, 17, 0, []),
  (23, .aload_n 0, 1, 0, 0, []),
  (24, .getfield 25, 3, 12, 9, []),
  (27, .iload_n 2, 1, 0, 0, []),
  (28, .iaload, 1, 0, 0, []),
  (29, .istore_n 3, 1, 0, 0, []),
  (30, .iload_n 3, 1, 0, 0, []),
  (31, .aload_n 0, 1, 0, 0, []),
  (32, .getfield 16, 3, 12, 6, []),
  (35, .iload_n 2, 1, 0, 0, []),
  (36, .iaload, 1, 0, 0, []),
  (37, .if_icmp .ne 7, 3, 26, 0, []),
  (40, .iconst 0, 1, 0, 0, []),
  (41, .goto 9, 3, 30, 0, []),
  (44, .aload_n 0, 1, 0, 0, []),
  (45, .getfield 7, 3, 12, 3, []),
  (48, .iload_n 3, 1, 0, 0, []),
  (49, .iaload, 1, 0, 0, []),
  (50, .istore 4, 2, 0, 0, []),
  (52, .aload_n 0, 1, 0, 0, []),
  (53, .getfield 19, 3, 12, 7, []),
  (56, .iload_n 2, 1, 0, 0, []),
  (57, .iaload, 1, 0, 0, []),
  (58, .iload 4, 2, 0, 0, []),
  (60, .if_icmp .ge 13, 3, 44, 0, []),
  (63, .aload_n 0, 1, 0, 0, []),
  (64, .getfield 16, 3, 12, 6, []),
  (67, .iload_n 2, 1, 0, 0, []),
  (68, .iaload, 1, 0, 0, []),
  (69, .istore_n 3, 1, 0, 0, []),
  (70, .iconst 0, 1, 0, 0, []),
  (71, .istore 4, 2, 0, 0, []),
  (73, .aload_n 0, 1, 0, 0, []),
  (74, .getfield 19, 3, 12, 7, []),
  (77, .iload_n 2, 1, 0, 0, []),
  (78, .aload_n 0, 1, 0, 0, []),
  (79, .getfield 19, 3, 12, 7, []),
  (82, .iload_n 2, 1, 0, 0, []),
  (83, .iaload, 1, 0, 0, []),
  (84, .iload 4, 2, 0, 0, []),
  (86, .isub, 1, 0, 0, []),
  (87, .iastore, 1, 0, 0, []),
  (88, .aload_n 0, 1, 0, 0, []),
  (89, .aload_n 0, 1, 0, 0, []),
  (90, .getfield 283, 3, 12, 20, []),
  (93, .iconst 2, 1, 2, 0, []),
  (94, .aload_n 0, 1, 0, 0, []),
  (95, .aload_n 0, 1, 0, 0, []),
  (96, .getfield 16, 3, 12, 6, []),
  (99, .iload_n 2, 1, 0, 0, []),
  (100, .iaload, 1, 0, 0, []),
  (101, .iload_n 3, 1, 0, 0, []),
  (102, .invokevirtual 286, 3, 165, 2, [12]),
  (105, .imul, 1, 0, 0, []),
  (106, .iadd, 1, 0, 0, []),
  (107, .putfield 283, 3, 12, 20, [0]),
  (110, .aload_n 0, 1, 0, 0, []),
  (111, .getfield 28, 3, 12, 10, []),
  (114, .iload_n 2, 1, 0, 0, []),
  (115, .iload_n 3, 1, 0, 0, []),
  (116, .iconst 1, 1, 1, 0, []),
  (117, .iadd, 1, 0, 0, []),
  (118, .iastore, 1, 0, 0, []),
  (119, .iinc 2 1, 3, 0, 0, []),
  (122, .goto (-120), 3, 2, 0, []),
  (125, .return_, 1, 0, 0, [])]
/-- Model.areBothAt -/
def pc_203 : List pm_I := [
  (0, .aload_n 0, 1, 0, 0, []),
  (1, .getfield 40, 3, 12, 15, []),
  (4, .iload_n 1, 1, 0, 0, []),
  (5, .iaload, 1, 0, 0, []),
  (6, .iload_n 2, 1, 0, 0, []),
  (7, .if_icmp .ne 41, 3, 30, 0, []),
  (10, .aload_n 0, 1, 0, 0, []),
  (11, .getfield 28, 3, 12, 10, []),
  (14, .aload_n 0, 1, 0, 0, []),
  (15, .getfield 31, 3, 12, 12, []),
  (18, .iload_n 1, 1, 0, 0, []),
  (19, .iaload, 1, 0, 0, []),
  (20, .iaload, 1, 0, 0, []),
  (21, .iload_n 2, 1, 0, 0, []),
  (22, .iconst 1, 1, 1, 0, []),
  (23, .iadd, 1, 0, 0, []),
  (24, .if_icmp .ne 24, 3, 30, 0, []),
  (27, .aload_n 0, 1, 0, 0, []),
  (28, .getfield 28, 3, 12, 10, []),
  (31, .aload_n 0, 1, 0, 0, []),
  (32, .getfield 34, 3, 12, 13, []),
  (35, .iload_n 1, 1, 0, 0, []),
  (36, .iaload, 1, 0, 0, []),
  (37, .iaload, 1, 0, 0, []),
  (38, .iload_n 2, 1, 0, 0, []),
  (39, .iconst 1, 1, 1, 0, []),
  (40, .iadd, 1, 0, 0, []),
  (41, .if_icmp .ne 7, 3, 30, 0, []),
  (44, .iconst 1, 1, 1, 0, []),
  (45, .goto 4, 3, 31, 0, []),
  (48, .iconst 0, 1, 0, 0, []),
  (49, .ireturn, 1, 0, 0, [])]
/-- Model.findsRound -/
def pc_204 : List pm_I := [
  (0, .iconst 0, 1, 0, 0, []),
  (1, .istore_n 3, 1, 0, 0, []),
  (2, .aload_n 0, 1, 0, 0, []),
  (3, .getfield 104, 3, 12, 52, []),
  (6, .iconst 0, 1, 0, 0, []),
  (7, .iconst (-1), 1, 1, 1, []),
  (8, .iastore, 1, 0, 0, []),
  (9, .iload_n 3, 1, 0, 0, []),
  (10, .ifCond .lt 95, 3, 66, 0, []),
  (13, .aload_n 0, 1, 0, 0, []),
  (14, .getfield 104, 3, 12, 52, []),
  (17, .iload_n 3, 1, 0, 0, []),
  (18, .iaload, 1, 0, 0, []),
  (19, .iconst 1, 1, 1, 0, []),
  (20, .iadd, 1, 0, 0, []),
  (21, .istore 4, 2, 0, 0, []),
  (23, .iload 4, 2, 0, 0, []),
  (25, .aload_n 0, 1, 0, 0, []),
  (26, .getfield 162, 3, 12, 11, []),
  (29, .if_icmp .ge 24, 3, 32, 0, []),
  (32, .aload_n 0, 1, 0, 0, []),
  (33, .iload 4, 2, 0, 0, []),
  (35, .iload_n 3, 1, 0, 0, []),
  (36, .iload_n 1, 1, 0, 0, []),
  (37, .iload_n 2, 1, 0, 0, []),
  (38, .invokevirtual 289, 3, 205, 4, [12]),
  (41, .ifCond .ne 12, 3, 32, 0, []),
  (44, .iload 4, 2, 0, 0, []),
  (46, .iconst 1, 1, 1, 0, []),
  (47, .iadd, 1, 0, 0, []),
  (48, .istore 4, 2, 0, 0, []),
  (50, .goto (-27), 3, 16, 0, []),
  (53, .iload 4, 2, 0, 0, []),
  (55, .aload_n 0, 1, 0, 0, []),
  (56, .getfield 162, 3, 12, 11, []),
  (59, .if_icmp .ne 10, 3, 41, 0, []),
  (62, .iload_n 3, 1, 0, 0, []),
  (63, .iconst 1, 1, 1, 0, []),
  (64, .isub, 1, 0, 0, []),
  (65, .istore_n 3, 1, 0, 0, []),
  (66, .goto (-57), 3, 7, 0, []),
  (69, .aload_n 0, 1, 0, 0, []),
  (70, .getfield 104, 3, 12, 52, []),
  (73, .iload_n 3, 1, 0, 0, []),
  (74, .iload 4, 2, 0, 0, []),
  (76, .iastore, 1, 0, 0, []),
  (77, .iload_n 3, 1, 0, 0, []),
  (78, .iload_n 2, 1, 0, 0, []),
  (79, .iconst 1, 1, 1, 0, []),
  (80, .isub, 1, 0, 0, []),
  (81, .if_icmp .ne 5, 3, 53, 0, []),
  (84, .iconst 1, 1, 1, 0, []),
  (85, .ireturn, 1, 0, 0, []),
  (86, .iload_n 3, 1, 0, 0, []),
  (87, .iconst 1, 1, 1, 0, []),
  (88, .iadd, 1, 0, 0, []),
  (89, .istore_n 3, 1, 0, 0, []),
  (90, .aload_n 0, 1, 0, 0, []),
  (91, .getfield 104, 3, 12, 52, []),
  (94, .iload_n 3, 1, 0, 0, []),
  (95, .aload_n 0, 1, 0, 0, []),
  (96, .getfield 104, 3, 12, 52, []),
  (99, .iconst 0, 1, 0, 0, []),
  (100, .iaload, 1, 0, 0, []),
  (101, .iastore, 1, 0, 0, []),
  (102, .goto (-93), 3, 7, 0, []),
  (105, .iconst 0, 1, 0, 0, []),
  (106, .ireturn, 1, 0, 0, [])]
/-- Model.canBeNext -/
def pc_205 : List pm_I := [
  (0, .aload_n 0, 1, 0, 0, []),
  (1, .iload_n 1, 1, 0, 0, []),
  (2, .invokevirtual 293, 3, 199, 1, [12]),
  (5, .ifCond .eq 12, 3, 9, 0, []),
  (8, .aload_n 0, 1, 0, 0, []),
  (9, .iload_n 1, 1, 0, 0, []),
  (10, .iload_n 3, 1, 0, 0, []),
  (11, .invokevirtual 296, 3, 203, 2, [12]),
  (14, .ifCond .ne 5, 3, 11, 0, []),
  (17, .iconst 0, 1, 0, 0, []),
  (18, .ireturn, 1, 0, 0, []),
  (19, .iload_n 2, 1, 0, 0, []),
  (20, .ifCond .ne 5, 3, 15, 0, []),
  (23, .iconst 1, 1, 1, 0, []),
  (24, .ireturn, 1, 0, 0, []),
  (25, .aload_n 0, 1, 0, 0, []),
  (26, .getfield 31, 3, 12, 12, []),
  (29, .iload_n 1, 1, 0, 0, []),
  (30, .iaload, 1, 0, 0, []),
  (31, .aload_n 0, 1, 0, 0, []),
  (32, .getfield 34, 3, 12, 13, []),
  (35, .aload_n 0, 1, 0, 0, []),
  (36, .getfield 104, 3, 12, 52, []),
  (39, .iload_n 2, 1, 0, 0, []),
  (40, .iconst 1, 1, 1, 0, []),
  (41, .isub, 1, 0, 0, []),
  (42, .iaload, 1, 0, 0, []),
  (43, .iaload, 1, 0, 0, []),
  (44, .if_icmp .eq 5, 3, 31, 0, []),
  (47, .iconst 0, 1, 0, 0, []),
  (48, .ireturn, 1, 0, 0, []),
  (49, .iload_n 2, 1, 0, 0, []),
  (50, .iload 4, 2, 0, 0, []),
  (52, .iconst 1, 1, 1, 0, []),
  (53, .isub, 1, 0, 0, []),
  (54, .if_icmp .ne 29, 3, 52, 0, []),
  (57, .aload_n 0, 1, 0, 0, []),
  (58, .getfield 34, 3, 12, 13, []),
  (61, .iload_n 1, 1, 0, 0, []),
  (62, .iaload, 1, 0, 0, []),
  (63, .aload_n 0, 1, 0, 0, []),
  (64, .getfield 31, 3, 12, 12, []),
  (67, .aload_n 0, 1, 0, 0, []),
  (68, .getfield 104, 3, 12, 52, []),
  (71, .iconst 0, 1, 0, 0, []),
  (72, .iaload, 1, 0, 0, []),
  (73, .iaload, 1, 0, 0, []),
  (74, .if_icmp .ne 7, 3, 50, 0, []),
  (77, .iconst 1, 1, 1, 0, []),
  (78, .goto 4, 3, 51, 0, []),
  (81, .iconst 0, 1, 0, 0, []),
  (82, .ireturn, 1, 0, 0, []),
  (83, .iconst 0, 1, 0, 0, []),
  (84, .istore 5, 2, 0, 0, []),
  (86, .iload 5, 2, 0, 0, []),
  (88, .iload_n 2, 1, 0, 0, []),
  (89, .if_icmp .ge 32, 3, 73, 0, []),
  (92, .aload_n 0, 1, 0, 0, []),
  (93, .getfield 34, 3, 12, 13, []),
  (96, .iload_n 1, 1, 0, 0, []),
  (97, .iaload, 1, 0, 0, []),
  (98, .aload_n 0, 1, 0, 0, []),
  (99, .getfield 31, 3, 12, 12, []),
  (102, .aload_n 0, 1, 0, 0, []),
  (103, .getfield 104, 3, 12, 52, []),
  (106, .iload 5, 2, 0, 0, []),
  (108, .iaload, 1, 0, 0, []),
  (109, .iaload, 1, 0, 0, []),
  (110, .if_icmp .ne 5, 3, 71, 0, []),
  (113, .iconst 0, 1, 0, 0, []),
  (114, .ireturn, 1, 0, 0, []),
  (115, .iinc 5 1, 3, 0, 0, []),
  (118, .goto (-32), 3, 54, 0, []),
  (121, .iconst 1, 1, 1, 0, []),
  (122, .ireturn, 1, 0, 0, [])]
/-- Model.isPaid -/
def pc_206 : List pm_I := [
  (0, .aload_n 0, 1, 0, 0, []),
  (1, .getfield 49, 3, 12, 18, []),
  (4, .iload_n 1, 1, 0, 0, []),
  (5, .iload_n 2, 1, 0, 0, []),
  (6, .iastore, 1, 0, 0, []),
  (7, .aload_n 0, 1, 0, 0, []),
  (8, .getfield 46, 3, 12, 17, []),
  (11, .iload_n 1, 1, 0, 0, []),
  (12, .aload_n 0, 1, 0, 0, []),
  (13, .getfield 165, 3, 12, 19, []),
  (16, .iastore, 1, 0, 0, []),
  (17, .aload_n 0, 1, 0, 0, []),
  (18, .aload_n 0, 1, 0, 0, []),
  (19, .getfield 299, 3, 12, 53, []),
  (22, .iconst 1, 1, 1, 0, []),
  (23, .iadd, 1, 0, 0, []),
  (24, .putfield 299, 3, 12, 53, [0]),
  (27, .return_, 1, 0, 0, [])]
/-- Model.cancels -/
def pc_207 : List pm_I := [
  (0, .aload_n 0, 1, 0, 0, []),
  (1, .getfield 37, 3, 12, 14, []),
  (4, .aload_n 0, 1, 0, 0, []),
  (5, .getfield 104, 3, 12, 52, []),
  (8, .iconst 0, 1, 0, 0, []),
  (9, .iaload, 1, 0, 0, []),
  (10, .iaload, 1, 0, 0, []),
  (11, .istore_n 2, 1, 0, 0, []),
  (12, .iconst 1, 1, 1, 0, []),
  (13, .istore_n 3, 1, 0, 0, []),
  (14, .iload_n 3, 1, 0, 0, []),
  (15, .iload_n 1, 1, 0, 0, []),
  (16, .if_icmp .ge 40, 3, 34, 0, []),
  (19, .aload_n 0, 1, 0, 0, []),
  (20, .getfield 37, 3, 12, 14, []),
  (23, .aload_n 0, 1, 0, 0, []),
  (24, .getfield 104, 3, 12, 52, []),
  (27, .iload_n 3, 1, 0, 0, []),
  (28, .iaload, 1, 0, 0, []),
  (29, .iaload, 1, 0, 0, []),
  (30, .iload_n 2, 1, 0, 0, []),
  (31, .if_icmp .ge 17, 3, 30, 0, []),
  (34, .aload_n 0, 1, 0, 0, []),
  (35, .getfield 37, 3, 12, 14, []),
  (38, .aload_n 0, 1, 0, 0, []),
  (39, .getfield 104, 3, 12, 52, []),
  (42, .iload_n 3, 1, 0, 0, []),
  (43, .iaload, 1, 0, 0, []),
  (44, .iaload, 1, 0, 0, []),
  (45, .goto 4, 3, 31, 0, []),
  (48, .iload_n 2, 1, 0, 0, []),
  (49, .istore_n 2, 1, 0, 0, []),
  (50, .iinc 3 1, 3, 0, 0, []),
  (53, .goto (-39), 3, 10, 0, []),
  (56, .iconst 0, 1, 0, 0, []),
  (57, .istore_n 3, 1, 0, 0, []),
  (58, .iload_n 3, 1, 0, 0, []),
  (59, .iload_n 1, 1, 0, 0, []),
  (60, .if_icmp .ge 58, 3, 72, 0, []),
  (63, .aload_n 0, 1, 0, 0, []),
  (64, .getfield 37, 3, 12, 14, []),
  (67, .aload_n 0, 1, 0, 0, []),
  (68, .getfield 104, 3, 12, 52, []),
  (71, .iload_n 3, 1, 0, 0, []),
  (72, .iaload, 1, 0, 0, []),
  (73, .aload_n 0, 1, 0, 0, []),
  (74, .getfield 37, 3, 12, 14, []),
  (77, .aload_n 0, 1, 0, 0, []),
  (78, .getfield 104, 3, 12, 52, []),
  (81, .iload_n 3, 1, 0, 0, []),
  (82, .iaload, 1, 0, 0, []),
  (83, .iaload, 1, 0, 0, []),
  (84, .iload_n 2, 1, 0, 0, []),
  (85, .isub, 1, 0, 0, []),
  (86, .iastore, 1, 0, 0, []),
  (87, .aload_n 0, 1, 0, 0, []),
  (88, .getfield 37, 3, 12, 14, []),
  (91, .aload_n 0, 1, 0, 0, []),
  (92, .getfield 104, 3, 12, 52, []),
  (95, .iload_n 3, 1, 0, 0, []),
  (96, .iaload, 1, 0, 0, []),
  (97, .iaload, 1, 0, 0, []),
  (98, .ifCond .ne 14, 3, 70, 0, []),
  (101, .aload_n 0, 1, 0, 0, []),
  (102, .aload_n 0, 1, 0, 0, []),
  (103, .getfield 104, 3, 12, 52, []),
  (106, .iload_n 3, 1, 0, 0, []),
  (107, .iaload, 1, 0, 0, []),
  (108, .iconst 2, 1, 2, 0, []),
  (109, .invokevirtual 302, 3, 206, 2, [12]),
  (112, .iinc 3 1, 3, 0, 0, []),
  (115, .goto (-57), 3, 36, 0, []),
  (118, .return_, 1, 0, 0, [])]
/-- Model.cancelsAt -/
def pc_208 : List pm_I := [
  (0, .iconst 2, 1, 2, 0, []),
  (1, .istore_n 2, 1, 0, 0, []),
  (2, .iload_n 2, 1, 0, 0, []),
  (3, .aload_n 0, 1, 0, 0, []),
  (4, .getfield 147, 3, 12, 5, []),
  (7, .if_icmp .gt 29, 3, 22, 0, []),
  (10, .aload_n 0, 1, 0, 0, []),
  (11, .iload_n 1, 1, 0, 0, []),
  (12, .iload_n 2, 1, 0, 0, []),
  (13, .invokevirtual 305, 3, 204, 2, [12]),
  (16, .ifCond .eq 13, 3, 17, 0, []),
  (19, .aload_n 0, 1, 0, 0, []),
  (20, .iload_n 2, 1, 0, 0, []),
  (21, .invokevirtual 308, 3, 207, 1, [12]),
  (24, .iconst 2, 1, 2, 0, []),
  (25, .istore_n 2, 1, 0, 0, []),
  (26, .goto (-24), 3, 2, 0, []),
  (29, .iload_n 2, 1, 0, 0, []),
  (30, .iconst 1, 1, 1, 0, []),
  (31, .iadd, 1, 0, 0, []),
  (32, .istore_n 2, 1, 0, 0, []),
  (33, .goto (-31), 3, 2, 0, []),
  (36, .return_, 1, 0, 0, [])]
/-- Model.pays -/
def pc_209 : List pm_I := [
  (0, .aload_n 0, 1, 0, 0, []),
  (1, .iload_n 1, 1, 0, 0, []),
  (2, .invokevirtual 293, 3, 199, 1, [12]),
  (5, .ifCond .eq 45, 3, 28, 0, []),
  (8, .aload_n 0, 1, 0, 0, []),
  (9, .iload_n 1, 1, 0, 0, []),
  (10, .aload_n 0, 1, 0, 0, []),
  (11, .getfield 40, 3, 12, 15, []),
  (14, .iload_n 1, 1, 0, 0, []),
  (15, .iaload, 1, 0, 0, []),
  (16, .invokevirtual 296, 3, 203, 2, [12]),
  (19, .ifCond .eq 31, 3, 28, 0, []),
  (22, .aload_n 0, 1, 0, 0, []),
  (23, .iload_n 1, 1, 0, 0, []),
  (24, .invokevirtual 311, 3, 201, 1, [12]),
  (27, .ifCond .eq 23, 3, 28, 0, []),
  (30, .aload_n 0, 1, 0, 0, []),
  (31, .getfield 19, 3, 12, 7, []),
  (34, .aload_n 0, 1, 0, 0, []),
  (35, .getfield 31, 3, 12, 12, []),
  (38, .iload_n 1, 1, 0, 0, []),
  (39, .iaload, 1, 0, 0, []),
  (40, .iaload, 1, 0, 0, []),
  (41, .aload_n 0, 1, 0, 0, []),
  (42, .getfield 37, 3, 12, 14, []),
  (45, .iload_n 1, 1, 0, 0, []),
  (46, .iaload, 1, 0, 0, []),
  (47, .if_icmp .ge 4, 3, 29, 0, []),
  (50, .return_, 1, 0, 0, []),
  (51, .aload_n 0, 1, 0, 0, []),
  (52, .getfield 19, 3, 12, 7, []),
  (55, .aload_n 0, 1, 0, 0, []),
  (56, .getfield 31, 3, 12, 12, []),
  (59, .iload_n 1, 1, 0, 0, []),
  (60, .iaload, 1, 0, 0, []),
  (61, .aload_n 0, 1, 0, 0, []),
  (62, .getfield 19, 3, 12, 7, []),
  (65, .aload_n 0, 1, 0, 0, []),
  (66, .getfield 31, 3, 12, 12, []),
  (69, .iload_n 1, 1, 0, 0, []),
  (70, .iaload, 1, 0, 0, []),
  (71, .iaload, 1, 0, 0, []),
  (72, .aload_n 0, 1, 0, 0, []),
  (73, .getfield 37, 3, 12, 14, []),
  (76, .iload_n 1, 1, 0, 0, []),
  (77, .iaload, 1, 0, 0, []),
  (78, .isub, 1, 0, 0, []),
  (79, .iastore, 1, 0, 0, []),
  (80, .aload_n 0, 1, 0, 0, []),
  (81, .getfield 19, 3, 12, 7, []),
  (84, .aload_n 0, 1, 0, 0, []),
  (85, .getfield 34, 3, 12, 13, []),
  (88, .iload_n 1, 1, 0, 0, []),
  (89, .iaload, 1, 0, 0, []),
  (90, .aload_n 0, 1, 0, 0, []),
  (91, .getfield 19, 3, 12, 7, []),
  (94, .aload_n 0, 1, 0, 0, []),
  (95, .getfield 34, 3, 12, 13, []),
  (98, .iload_n 1, 1, 0, 0, []),
  (99, .iaload, 1, 0, 0, []),
  (100, .iaload, 1, 0, 0, []),
  (101, .aload_n 0, 1, 0, 0, []),
  (102, .getfield 37, 3, 12, 14, []),
  (105, .iload_n 1, 1, 0, 0, []),
  (106, .iaload, 1, 0, 0, []),
  (107, .iadd, 1, 0, 0, []),
  (108, .iastore, 1, 0, 0, []),
  (109, .aload_n 0, 1, 0, 0, []),
  (110, .iload_n 1, 1, 0, 0, []),
  (111, .iconst 1, 1, 1, 0, []),
  (112, .invokevirtual 302, 3, 206, 2, [12]),
  (115, .return_, 1, 0, 0, [])]
/-- Model.goesBy -/
def pc_210 : List pm_I := [
  (0, .aload_n 0, 1, 0, 0, []),
  (1, .iconst 0, 1, 0, 0, []),
  (2, .putfield 299, 3, 12, 53, [0]),
  (5, .aload_n 0, 1, 0, 0, []),
  (6, .getfield 52, 3, 12, 22, []),
  (9, .iconst 0, 1, 0, 0, []),
  (10, .iaload, 1, 0, 0, []),
  (11, .ifCond .le 22, 3, 18, 0, []),
  (14, .aload_n 0, 1, 0, 0, []),
  (15, .bipush 100, 2, 100, 0, []),
  (17, .invokevirtual 314, 3, 162, 1, [12]),
  (20, .aload_n 0, 1, 0, 0, []),
  (21, .getfield 52, 3, 12, 22, []),
  (24, .iconst 0, 1, 0, 0, []),
  (25, .iaload, 1, 0, 0, []),
  (26, .if_icmp .ge 7, 3, 18, 0, []),
  (29, .iconst 1, 1, 1, 0, []),
  (30, .goto 4, 3, 19, 0, []),
  (33, .iconst 0, 1, 0, 0, []),
  (34, .istore_n 1, 1, 0, 0, []),
  (35, .aload_n 0, 1, 0, 0, []),
  (36, .iload_n 1, 1, 0, 0, []),
  (37, .ifCond .eq 7, 3, 25, 0, []),
  (40, .iconst 1, 1, 1, 0, []),
  (41, .goto 4, 3, 26, 0, []),
  (44, .iconst 0, 1, 0, 0, []),
  (45, .putfield 317, 3, 12, 21, [0]),
  (48, .aload_n 0, 1, 0, 0, []),
  (49, .iload_n 1, 1, 0, 0, []),
  (50, .invokevirtual 320, 3, 202, 1, [12]),
  (53, .iconst 0, 1, 0, 0, []),
  (54, .istore_n 2, 1, 0, 0, []),
  (55, .iload_n 2, 1, 0, 0, []),
  (56, .aload_n 0, 1, 0, 0, []),
  (57, .getfield 144, 3, 12, 2, []),
  (60, .if_icmp .ge 24, 3, 47, 0, []),
  (63, .aload_n 0, 1, 0, 0, []),
  (64, .getfield 52, 3, 12, 22, []),
  (67, .iconst 2, 1, 2, 0, []),
  (68, .iaload, 1, 0, 0, []),
  (69, .iconst 1, 1, 1, 0, []),
  (70, .if_icmp .ne 14, 3, 47, 0, []),
  (73, .aload_n 0, 1, 0, 0, []),
  (74, .iload_n 2, 1, 0, 0, []),
  (75, .invokevirtual 324, 3, 208, 1, [12]),
  (78, .iinc 2 1, 3, 0, 0, []),
  (81, .goto (-26), 3, 32, 0, []),
  (84, .iconst 0, 1, 0, 0, []),
  (85, .istore_n 2, 1, 0, 0, []),
  (86, .iload_n 2, 1, 0, 0, []),
  (87, .aload_n 0, 1, 0, 0, []),
  (88, .getfield 162, 3, 12, 11, []),
  (91, .if_icmp .ge 14, 3, 58, 0, []),
  (94, .aload_n 0, 1, 0, 0, []),
  (95, .iload_n 2, 1, 0, 0, []),
  (96, .invokevirtual 327, 3, 209, 1, [12]),
  (99, .iinc 2 1, 3, 0, 0, []),
  (102, .goto (-16), 3, 49, 0, []),
  (105, .aload_n 0, 1, 0, 0, []),
  (106, .aload_n 0, 1, 0, 0, []),
  (107, .getfield 165, 3, 12, 19, []),
  (110, .iconst 1, 1, 1, 0, []),
  (111, .iadd, 1, 0, 0, []),
  (112, .putfield 165, 3, 12, 19, [0]),
  (115, .iconst 0, 1, 0, 0, []),
  (116, .istore_n 2, 1, 0, 0, []),
  (117, .iload_n 2, 1, 0, 0, []),
  (118, .aload_n 0, 1, 0, 0, []),
  (119, .getfield 162, 3, 12, 11, []),
  (122, .if_icmp .ge 83, 3, 117, 0, []),
  (125, .aload_n 0, 1, 0, 0, []),
  (126, .iload_n 2, 1, 0, 0, []),
  (127, .invokevirtual 293, 3, 199, 1, [12]),
  (130, .ifCond .eq 69, 3, 115, 0, []),
  (133, .aload_n 0, 1, 0, 0, []),
  (134, .getfield 165, 3, 12, 19, []),
  (137, .aload_n 0, 1, 0, 0, []),
  (138, .getfield 43, 3, 12, 16, []),
  (141, .iload_n 2, 1, 0, 0, []),
  (142, .iaload, 1, 0, 0, []),
  (143, .isub, 1, 0, 0, []),
  (144, .aload_n 0, 1, 0, 0, []),
  (145, .getfield 52, 3, 12, 22, []),
  (148, .iconst 3, 1, 3, 0, []),
  (149, .iaload, 1, 0, 0, []),
  (150, .irem, 1, 0, 0, []),
  (151, .ifCond .eq 6, 3, 88, 0, []),
  (154, .goto 45, 3, 115, 0, []),
  (157, .aload_n 0, 1, 0, 0, []),
  (158, .getfield 37, 3, 12, 14, []),
  (161, .iload_n 2, 1, 0, 0, []),
  (162, .iaload, 1, 0, 0, []),
  (163, .aload_n 0, 1, 0, 0, []),
  (164, .getfield 37, 3, 12, 14, []),
  (167, .iload_n 2, 1, 0, 0, []),
  (168, .iaload, 1, 0, 0, []),
  (169, .aload_n 0, 1, 0, 0, []),
  (170, .getfield 52, 3, 12, 22, []),
  (173, .iconst 1, 1, 1, 0, []),
  (174, .iaload, 1, 0, 0, []),
  (175, .imul, 1, 0, 0, []),
  (176, .bipush 100, 2, 100, 0, []),
  (178, .idiv, 1, 0, 0, []),
  (179, .iadd, 1, 0, 0, []),
  (180, .istore_n 3, 1, 0, 0, []),
  (181, .aload_n 0, 1, 0, 0, []),
  (182, .getfield 37, 3, 12, 14, []),
  (185, .iload_n 2, 1, 0, 0, []),
  (186, .iload_n 3, 1, 0, 0, []),
  (187, .ldc 158, 2, 99999, 0, []),
  (189, .if_icmp .ge 7, 3, 113, 0, []),
  (192, .iload_n 3, 1, 0, 0, []),
  (193, .goto 5, 3, 114, 0, []),
  (196, .ldc 158, 2, 99999, 0, []),
  (198, .iastore, 1, 0, 0, []),
  (199, .iinc 2 1, 3, 0, 0, []),
  (202, .goto (-85), 3, 66, 0, []),
  (205, .iconst 0, 1, 0, 0, []),
  (206, .istore_n 2, 1, 0, 0, []),
  (207, .iload_n 2, 1, 0, 0, []),
  (208, .aload_n 0, 1, 0, 0, []),
  (209, .getfield 147, 3, 12, 5, []),
  (212, .if_icmp .ge 21, 3, 133, 0, []),
  (215, .aload_n 0, 1, 0, 0, []),
  (216, .getfield 25, 3, 12, 9, []),
  (219, .iload_n 2, 1, 0, 0, []),
  (220, .aload_n 0, 1, 0, 0, []),
  (221, .getfield 16, 3, 12, 6, []),
  (224, .iload_n 2, 1, 0, 0, []),
  (225, .iaload, 1, 0, 0, []),
  (226, .iastore, 1, 0, 0, []),
  (227, .iinc 2 1, 3, 0, 0, []),
  (230, .goto (-23), 3, 119, 0, []),
  (233, .aload_n 0, 1, 0, 0, []),
  (234, .getfield 299, 3, 12, 53, []),
  (237, .ireturn, 1, 0, 0, [])]
/-- Model.sunday -/
def pc_211 : List pm_I := [
  (0, .aload_n 0, 1, 0, 0, []),
  (1, .iconst 0, 1, 0, 0, []),
  (2, .putfield 136, 3, 12, 0, [0]),
  (5, .aload_n 0, 1, 0, 0, []),
  (6, .getfield 165, 3, 12, 19, []),
  (9, .sipush 9999, 3, 9999, 0, []),
  (12, .if_icmp .ne 7, 3, 9, 0, []),
  (15, .iconst (-1), 1, 1, 1, []),
  (16, .goto 7, 3, 11, 0, []),
  (19, .aload_n 0, 1, 0, 0, []),
  (20, .invokevirtual 330, 3, 210, 0, [12]),
  (23, .ireturn, 1, 0, 0, [])]
/-- Model.pass -/
def pc_212 : List pm_I := [
  (0, .aload_n 0, 1, 0, 0, []),
  (1, .iconst 0, 1, 0, 0, []),
  (2, .putfield 136, 3, 12, 0, [0]),
  (5, .aload_n 0, 1, 0, 0, []),
  (6, .iload_n 1, 1, 0, 0, []),
  (7, .iconst 1, 1, 1, 0, []),
  (8, .sipush 400, 3, 400, 0, []),
  (11, .invokevirtual 150, 3, 159, 3, [12]),
  (14, .ifCond .eq 15, 3, 15, 0, []),
  (17, .aload_n 0, 1, 0, 0, []),
  (18, .getfield 165, 3, 12, 19, []),
  (21, .iload_n 1, 1, 0, 0, []),
  (22, .iadd, 1, 0, 0, []),
  (23, .sipush 9999, 3, 9999, 0, []),
  (26, .if_icmp .le 5, 3, 17, 0, []),
  (29, .iconst (-1), 1, 1, 1, []),
  (30, .ireturn, 1, 0, 0, []),
  (31, .iconst 0, 1, 0, 0, []),
  (32, .istore_n 2, 1, 0, 0, []),
  (33, .iload_n 2, 1, 0, 0, []),
  (34, .aload_n 0, 1, 0, 0, []),
  (35, .getfield 147, 3, 12, 5, []),
  (38, .if_icmp .ge 21, 3, 33, 0, []),
  (41, .aload_n 0, 1, 0, 0, []),
  (42, .getfield 25, 3, 12, 9, []),
  (45, .iload_n 2, 1, 0, 0, []),
  (46, .aload_n 0, 1, 0, 0, []),
  (47, .getfield 16, 3, 12, 6, []),
  (50, .iload_n 2, 1, 0, 0, []),
  (51, .iaload, 1, 0, 0, []),
  (52, .iastore, 1, 0, 0, []),
  (53, .iinc 2 1, 3, 0, 0, []),
  (56, .goto (-23), 3, 19, 0, []),
  (59, .iconst 0, 1, 0, 0, []),
  (60, .istore_n 2, 1, 0, 0, []),
  (61, .iconst 0, 1, 0, 0, []),
  (62, .istore_n 3, 1, 0, 0, []),
  (63, .iload_n 3, 1, 0, 0, []),
  (64, .iload_n 1, 1, 0, 0, []),
  (65, .if_icmp .ge 16, 3, 47, 0, []),
  (68, .iload_n 2, 1, 0, 0, []),
  (69, .aload_n 0, 1, 0, 0, []),
  (70, .invokevirtual 330, 3, 210, 0, [12]),
  (73, .iadd, 1, 0, 0, []),
  (74, .istore_n 2, 1, 0, 0, []),
  (75, .iinc 3 1, 3, 0, 0, []),
  (78, .goto (-15), 3, 37, 0, []),
  (81, .iload_n 2, 1, 0, 0, []),
  (82, .ireturn, 1, 0, 0, [])]
/-- Model.sumOf -/
def pc_213 : List pm_I := [
  (0, .iconst 0, 1, 0, 0, []),
  (1, .istore_n 3, 1, 0, 0, []),
  (2, .iconst 0, 1, 0, 0, []),
  (3, .istore 4, 2, 0, 0, []),
  (5, .iload 4, 2, 0, 0, []),
  (7, .aload_n 0, 1, 0, 0, []),
  (8, .getfield 162, 3, 12, 11, []),
  (11, .if_icmp .ge 53, 3, 34, 0, []),
  (14, .aload_n 0, 1, 0, 0, []),
  (15, .iload 4, 2, 0, 0, []),
  (17, .invokevirtual 293, 3, 199, 1, [12]),
  (20, .ifCond .eq 38, 3, 32, 0, []),
  (23, .iload_n 2, 1, 0, 0, []),
  (24, .ifCond .eq 13, 3, 19, 0, []),
  (27, .aload_n 0, 1, 0, 0, []),
  (28, .getfield 31, 3, 12, 12, []),
  (31, .iload 4, 2, 0, 0, []),
  (33, .iaload, 1, 0, 0, []),
  (34, .goto 10, 3, 23, 0, []),
  (37, .aload_n 0, 1, 0, 0, []),
  (38, .getfield 34, 3, 12, 13, []),
  (41, .iload 4, 2, 0, 0, []),
  (43, .iaload, 1, 0, 0, []),
  (44, .iload_n 1, 1, 0, 0, []),
  (45, .if_icmp .ne 13, 3, 32, 0, []),
  (48, .iload_n 3, 1, 0, 0, []),
  (49, .aload_n 0, 1, 0, 0, []),
  (50, .getfield 37, 3, 12, 14, []),
  (53, .iload 4, 2, 0, 0, []),
  (55, .iaload, 1, 0, 0, []),
  (56, .iadd, 1, 0, 0, []),
  (57, .istore_n 3, 1, 0, 0, []),
  (58, .iinc 4 1, 3, 0, 0, []),
  (61, .goto (-56), 3, 4, 0, []),
  (64, .iload_n 3, 1, 0, 0, []),
  (65, .ireturn, 1, 0, 0, [])]
/-- Model.of -/
def pc_214 : List pm_I := [
  (0, .aload_n 0, 1, 0, 0, []),
  (1, .iconst 0, 1, 0, 0, []),
  (2, .putfield 136, 3, 12, 0, [0]),
  (5, .aload_n 0, 1, 0, 0, []),
  (6, .iload_n 1, 1, 0, 0, []),
  (7, .invokevirtual 159, 3, 164, 1, [12]),
  (10, .ifCond .ne 6, 3, 9, 0, []),
  (13, .bipush (-2), 2, 2, 1, []),
  (15, .ireturn, 1, 0, 0, []),
  (16, .iload_n 2, 1, 0, 0, []),
  (17, .ifCond .ne 10, 3, 16, 0, []),
  (20, .aload_n 0, 1, 0, 0, []),
  (21, .getfield 16, 3, 12, 6, []),
  (24, .iload_n 1, 1, 0, 0, []),
  (25, .iaload, 1, 0, 0, []),
  (26, .ireturn, 1, 0, 0, []),
  (27, .iload_n 2, 1, 0, 0, []),
  (28, .iconst 1, 1, 1, 0, []),
  (29, .if_icmp .ne 10, 3, 24, 0, []),
  (32, .aload_n 0, 1, 0, 0, []),
  (33, .getfield 19, 3, 12, 7, []),
  (36, .iload_n 1, 1, 0, 0, []),
  (37, .iaload, 1, 0, 0, []),
  (38, .ireturn, 1, 0, 0, []),
  (39, .iload_n 2, 1, 0, 0, []),
  (40, .iconst 2, 1, 2, 0, []),
  (41, .if_icmp .ne 10, 3, 32, 0, []),
  (44, .aload_n 0, 1, 0, 0, []),
  (45, .getfield 22, 3, 12, 8, []),
  (48, .iload_n 1, 1, 0, 0, []),
  (49, .iaload, 1, 0, 0, []),
  (50, .ireturn, 1, 0, 0, []),
  (51, .iload_n 2, 1, 0, 0, []),
  (52, .iconst 3, 1, 3, 0, []),
  (53, .if_icmp .ne 10, 3, 40, 0, []),
  (56, .aload_n 0, 1, 0, 0, []),
  (57, .getfield 25, 3, 12, 9, []),
  (60, .iload_n 1, 1, 0, 0, []),
  (61, .iaload, 1, 0, 0, []),
  (62, .ireturn, 1, 0, 0, []),
  (63, .iload_n 2, 1, 0, 0, []),
  (64, .iconst 4, 1, 4, 0, []),
  (65, .if_icmp .ne 12, 3, 50, 0, []),
  (68, .aload_n 0, 1, 0, 0, []),
  (69, .getfield 28, 3, 12, 10, []),
  (72, .iload_n 1, 1, 0, 0, []),
  (73, .iaload, 1, 0, 0, []),
  (74, .iconst 1, 1, 1, 0, []),
  (75, .isub, 1, 0, 0, []),
  (76, .ireturn, 1, 0, 0, []),
  (77, .iload_n 2, 1, 0, 0, []),
  (78, .iconst 5, 1, 5, 0, []),
  (79, .if_icmp .eq 9, 3, 56, 0, []),
  (82, .iload_n 2, 1, 0, 0, []),
  (83, .bipush 6, 2, 6, 0, []),
  (85, .if_icmp .ne 21, 3, 66, 0, []),
  (88, .aload_n 0, 1, 0, 0, []),
  (89, .iload_n 1, 1, 0, 0, []),
  (90, .iload_n 2, 1, 0, 0, []),
  (91, .iconst 5, 1, 5, 0, []),
  (92, .if_icmp .ne 7, 3, 63, 0, []),
  (95, .iconst 1, 1, 1, 0, []),
  (96, .goto 4, 3, 64, 0, []),
  (99, .iconst 0, 1, 0, 0, []),
  (100, .invokevirtual 333, 3, 213, 2, [12]),
  (103, .goto 5, 3, 67, 0, []),
  (106, .bipush (-2), 2, 2, 1, []),
  (108, .ireturn, 1, 0, 0, [])]
/-- Model.owed -/
def pc_215 : List pm_I := [
  (0, .aload_n 0, 1, 0, 0, []),
  (1, .iconst 0, 1, 0, 0, []),
  (2, .putfield 136, 3, 12, 0, [0]),
  (5, .aload_n 0, 1, 0, 0, []),
  (6, .iload_n 1, 1, 0, 0, []),
  (7, .iconst 0, 1, 0, 0, []),
  (8, .aload_n 0, 1, 0, 0, []),
  (9, .getfield 162, 3, 12, 11, []),
  (12, .iconst 1, 1, 1, 0, []),
  (13, .isub, 1, 0, 0, []),
  (14, .invokevirtual 150, 3, 159, 3, [12]),
  (17, .ifCond .ne 6, 3, 14, 0, []),
  (20, .bipush (-2), 2, 2, 1, []),
  (22, .ireturn, 1, 0, 0, []),
  (23, .iload_n 2, 1, 0, 0, []),
  (24, .ifCond .ne 10, 3, 21, 0, []),
  (27, .aload_n 0, 1, 0, 0, []),
  (28, .getfield 31, 3, 12, 12, []),
  (31, .iload_n 1, 1, 0, 0, []),
  (32, .iaload, 1, 0, 0, []),
  (33, .ireturn, 1, 0, 0, []),
  (34, .iload_n 2, 1, 0, 0, []),
  (35, .iconst 1, 1, 1, 0, []),
  (36, .if_icmp .ne 10, 3, 29, 0, []),
  (39, .aload_n 0, 1, 0, 0, []),
  (40, .getfield 34, 3, 12, 13, []),
  (43, .iload_n 1, 1, 0, 0, []),
  (44, .iaload, 1, 0, 0, []),
  (45, .ireturn, 1, 0, 0, []),
  (46, .iload_n 2, 1, 0, 0, []),
  (47, .iconst 2, 1, 2, 0, []),
  (48, .if_icmp .ne 10, 3, 37, 0, []),
  (51, .aload_n 0, 1, 0, 0, []),
  (52, .getfield 37, 3, 12, 14, []),
  (55, .iload_n 1, 1, 0, 0, []),
  (56, .iaload, 1, 0, 0, []),
  (57, .ireturn, 1, 0, 0, []),
  (58, .iload_n 2, 1, 0, 0, []),
  (59, .iconst 3, 1, 3, 0, []),
  (60, .if_icmp .ne 10, 3, 45, 0, []),
  (63, .aload_n 0, 1, 0, 0, []),
  (64, .getfield 40, 3, 12, 15, []),
  (67, .iload_n 1, 1, 0, 0, []),
  (68, .iaload, 1, 0, 0, []),
  (69, .ireturn, 1, 0, 0, []),
  (70, .iload_n 2, 1, 0, 0, []),
  (71, .iconst 4, 1, 4, 0, []),
  (72, .if_icmp .ne 10, 3, 53, 0, []),
  (75, .aload_n 0, 1, 0, 0, []),
  (76, .getfield 43, 3, 12, 16, []),
  (79, .iload_n 1, 1, 0, 0, []),
  (80, .iaload, 1, 0, 0, []),
  (81, .ireturn, 1, 0, 0, []),
  (82, .iload_n 2, 1, 0, 0, []),
  (83, .iconst 5, 1, 5, 0, []),
  (84, .if_icmp .ne 10, 3, 61, 0, []),
  (87, .aload_n 0, 1, 0, 0, []),
  (88, .getfield 46, 3, 12, 17, []),
  (91, .iload_n 1, 1, 0, 0, []),
  (92, .iaload, 1, 0, 0, []),
  (93, .ireturn, 1, 0, 0, []),
  (94, .iload_n 2, 1, 0, 0, []),
  (95, .bipush 6, 2, 6, 0, []),
  (97, .if_icmp .ne 10, 3, 69, 0, []),
  (100, .aload_n 0, 1, 0, 0, []),
  (101, .getfield 49, 3, 12, 18, []),
  (104, .iload_n 1, 1, 0, 0, []),
  (105, .iaload, 1, 0, 0, []),
  (106, .ireturn, 1, 0, 0, []),
  (107, .iload_n 2, 1, 0, 0, []),
  (108, .bipush 7, 2, 7, 0, []),
  (110, .if_icmp .ne 27, 3, 84, 0, []),
  (113, .aload_n 0, 1, 0, 0, []),
  (114, .iload_n 1, 1, 0, 0, []),
  (115, .invokevirtual 293, 3, 199, 1, [12]),
  (118, .ifCond .eq 15, 3, 82, 0, []),
  (121, .aload_n 0, 1, 0, 0, []),
  (122, .iload_n 1, 1, 0, 0, []),
  (123, .invokevirtual 311, 3, 201, 1, [12]),
  (126, .ifCond .eq 7, 3, 82, 0, []),
  (129, .iconst 1, 1, 1, 0, []),
  (130, .goto 9, 3, 85, 0, []),
  (133, .iconst 0, 1, 0, 0, []),
  (134, .goto 5, 3, 85, 0, []),
  (137, .bipush (-2), 2, 2, 1, []),
  (139, .ireturn, 1, 0, 0, [])]
/-- Model.areOnOne -/
def pc_216 : List pm_I := [
  (0, .iconst 0, 1, 0, 0, []),
  (1, .istore_n 2, 1, 0, 0, []),
  (2, .iload_n 2, 1, 0, 0, []),
  (3, .aload_n 0, 1, 0, 0, []),
  (4, .getfield 337, 3, 12, 55, []),
  (7, .if_icmp .ge 156, 3, 91, 0, []),
  (10, .iconst 0, 1, 0, 0, []),
  (11, .istore_n 3, 1, 0, 0, []),
  (12, .iload_n 3, 1, 0, 0, []),
  (13, .iload_n 2, 1, 0, 0, []),
  (14, .if_icmp .ge 143, 3, 89, 0, []),
  (17, .iload_n 1, 1, 0, 0, []),
  (18, .iload_n 2, 1, 0, 0, []),
  (19, .ishr, 1, 0, 0, []),
  (20, .iconst 1, 1, 1, 0, []),
  (21, .iand, 1, 0, 0, []),
  (22, .ifCond .eq 129, 3, 87, 0, []),
  (25, .iload_n 1, 1, 0, 0, []),
  (26, .iload_n 3, 1, 0, 0, []),
  (27, .ishr, 1, 0, 0, []),
  (28, .iconst 1, 1, 1, 0, []),
  (29, .iand, 1, 0, 0, []),
  (30, .ifCond .ne 6, 3, 24, 0, []),
  (33, .goto 118, 3, 87, 0, []),
  (36, .aload_n 0, 1, 0, 0, []),
  (37, .getfield 107, 3, 12, 54, []),
  (40, .iload_n 2, 1, 0, 0, []),
  (41, .iaload, 1, 0, 0, []),
  (42, .istore 4, 2, 0, 0, []),
  (44, .aload_n 0, 1, 0, 0, []),
  (45, .getfield 107, 3, 12, 54, []),
  (48, .iload_n 3, 1, 0, 0, []),
  (49, .iaload, 1, 0, 0, []),
  (50, .istore 5, 2, 0, 0, []),
  (52, .aload_n 0, 1, 0, 0, []),
  (53, .getfield 31, 3, 12, 12, []),
  (56, .iload 4, 2, 0, 0, []),
  (58, .iaload, 1, 0, 0, []),
  (59, .aload_n 0, 1, 0, 0, []),
  (60, .getfield 31, 3, 12, 12, []),
  (63, .iload 5, 2, 0, 0, []),
  (65, .iaload, 1, 0, 0, []),
  (66, .if_icmp .eq 54, 3, 70, 0, []),
  (69, .aload_n 0, 1, 0, 0, []),
  (70, .getfield 31, 3, 12, 12, []),
  (73, .iload 4, 2, 0, 0, []),
  (75, .iaload, 1, 0, 0, []),
  (76, .aload_n 0, 1, 0, 0, []),
  (77, .getfield 34, 3, 12, 13, []),
  (80, .iload 5, 2, 0, 0, []),
  (82, .iaload, 1, 0, 0, []),
  (83, .if_icmp .eq 37, 3, 70, 0, []),
  (86, .aload_n 0, 1, 0, 0, []),
  (87, .getfield 34, 3, 12, 13, []),
  (90, .iload 4, 2, 0, 0, []),
  (92, .iaload, 1, 0, 0, []),
  (93, .aload_n 0, 1, 0, 0, []),
  (94, .getfield 31, 3, 12, 12, []),
  (97, .iload 5, 2, 0, 0, []),
  (99, .iaload, 1, 0, 0, []),
  (100, .if_icmp .eq 20, 3, 70, 0, []),
  (103, .aload_n 0, 1, 0, 0, []),
  (104, .getfield 34, 3, 12, 13, []),
  (107, .iload 4, 2, 0, 0, []),
  (109, .iaload, 1, 0, 0, []),
  (110, .aload_n 0, 1, 0, 0, []),
  (111, .getfield 34, 3, 12, 13, []),
  (114, .iload 5, 2, 0, 0, []),
  (116, .iaload, 1, 0, 0, []),
  (117, .if_icmp .ne 7, 3, 72, 0, []),
  (120, .iconst 1, 1, 1, 0, []),
  (121, .goto 4, 3, 73, 0, []),
  (124, .iconst 0, 1, 0, 0, []),
  (125, .istore 6, 2, 0, 0, []),
  (127, .iload 6, 2, 0, 0, []),
  (129, .ifCond .eq 22, 3, 87, 0, []),
  (132, .aload_n 0, 1, 0, 0, []),
  (133, .getfield 40, 3, 12, 15, []),
  (136, .iload 4, 2, 0, 0, []),
  (138, .iaload, 1, 0, 0, []),
  (139, .aload_n 0, 1, 0, 0, []),
  (140, .getfield 40, 3, 12, 15, []),
  (143, .iload 5, 2, 0, 0, []),
  (145, .iaload, 1, 0, 0, []),
  (146, .if_icmp .eq 5, 3, 87, 0, []),
  (149, .iconst 0, 1, 0, 0, []),
  (150, .ireturn, 1, 0, 0, []),
  (151, .iinc 3 1, 3, 0, 0, []),
  (154, .goto (-142), 3, 8, 0, []),
  (157, .iinc 2 1, 3, 0, 0, []),
  (160, .goto (-158), 3, 2, 0, []),
  (163, .iconst 1, 1, 1, 0, []),
  (164, .ireturn, 1, 0, 0, [])]
/-- Model.greatest -/
def pc_217 : List pm_I := [
  (0, .iload_n 1, 1, 0, 0, []),
  (1, .istore_n 3, 1, 0, 0, []),
  (2, .iload_n 3, 1, 0, 0, []),
  (3, .ifCond .le 35, 3, 26, 0, []),
  (6, .aload_n 0, 1, 0, 0, []),
  (7, .getfield 113, 3, 12, 57, []),
  (10, .iload_n 3, 1, 0, 0, []),
  (11, .baload, 1, 0, 0, []),
  (12, .ifCond .eq 17, 3, 19, 0, []),
  (15, .aload_n 0, 1, 0, 0, []),
  (16, .getfield 110, 3, 12, 56, []),
  (19, .iload_n 1, 1, 0, 0, []),
  (20, .iload_n 3, 1, 0, 0, []),
  (21, .iconst (-1), 1, 1, 1, []),
  (22, .ixor, 1, 0, 0, []),
  (23, .iand, 1, 0, 0, []),
  (24, .iaload, 1, 0, 0, []),
  (25, .iload_n 2, 1, 0, 0, []),
  (26, .if_icmp .eq 12, 3, 26, 0, []),
  (29, .iload_n 3, 1, 0, 0, []),
  (30, .iconst 1, 1, 1, 0, []),
  (31, .isub, 1, 0, 0, []),
  (32, .iload_n 1, 1, 0, 0, []),
  (33, .iand, 1, 0, 0, []),
  (34, .istore_n 3, 1, 0, 0, []),
  (35, .goto (-33), 3, 2, 0, []),
  (38, .iload_n 3, 1, 0, 0, []),
  (39, .ireturn, 1, 0, 0, [])]
/-- Model.leastFor -/
def pc_218 : List pm_I := [
  (0, .ldc_w 340, 3, 1000000000, 0, []),
  (3, .istore_n 2, 1, 0, 0, []),
  (4, .iload_n 1, 1, 0, 0, []),
  (5, .istore_n 3, 1, 0, 0, []),
  (6, .iload_n 3, 1, 0, 0, []),
  (7, .ifCond .le 50, 3, 41, 0, []),
  (10, .aload_n 0, 1, 0, 0, []),
  (11, .getfield 113, 3, 12, 57, []),
  (14, .iload_n 3, 1, 0, 0, []),
  (15, .baload, 1, 0, 0, []),
  (16, .ifCond .eq 32, 3, 34, 0, []),
  (19, .aload_n 0, 1, 0, 0, []),
  (20, .getfield 110, 3, 12, 56, []),
  (23, .iload_n 1, 1, 0, 0, []),
  (24, .iload_n 3, 1, 0, 0, []),
  (25, .iconst (-1), 1, 1, 1, []),
  (26, .ixor, 1, 0, 0, []),
  (27, .iand, 1, 0, 0, []),
  (28, .iaload, 1, 0, 0, []),
  (29, .iconst 1, 1, 1, 0, []),
  (30, .iadd, 1, 0, 0, []),
  (31, .iload_n 2, 1, 0, 0, []),
  (32, .if_icmp .ge 16, 3, 34, 0, []),
  (35, .aload_n 0, 1, 0, 0, []),
  (36, .getfield 110, 3, 12, 56, []),
  (39, .iload_n 1, 1, 0, 0, []),
  (40, .iload_n 3, 1, 0, 0, []),
  (41, .iconst (-1), 1, 1, 1, []),
  (42, .ixor, 1, 0, 0, []),
  (43, .iand, 1, 0, 0, []),
  (44, .iaload, 1, 0, 0, []),
  (45, .iconst 1, 1, 1, 0, []),
  (46, .iadd, 1, 0, 0, []),
  (47, .istore_n 2, 1, 0, 0, []),
  (48, .iload_n 3, 1, 0, 0, []),
  (49, .iconst 1, 1, 1, 0, []),
  (50, .isub, 1, 0, 0, []),
  (51, .iload_n 1, 1, 0, 0, []),
  (52, .iand, 1, 0, 0, []),
  (53, .istore_n 3, 1, 0, 0, []),
  (54, .goto (-48), 3, 4, 0, []),
  (57, .iload_n 2, 1, 0, 0, []),
  (58, .ireturn, 1, 0, 0, [])]
/-- Model.takesOpen -/
def pc_219 : List pm_I := [
  (0, .aload_n 0, 1, 0, 0, []),
  (1, .iconst 0, 1, 0, 0, []),
  (2, .putfield 337, 3, 12, 55, [0]),
  (5, .iconst 0, 1, 0, 0, []),
  (6, .istore_n 2, 1, 0, 0, []),
  (7, .iload_n 2, 1, 0, 0, []),
  (8, .aload_n 0, 1, 0, 0, []),
  (9, .getfield 162, 3, 12, 11, []),
  (12, .if_icmp .ge 55, 3, 37, 0, []),
  (15, .aload_n 0, 1, 0, 0, []),
  (16, .iload_n 2, 1, 0, 0, []),
  (17, .invokevirtual 293, 3, 199, 1, [12]),
  (20, .ifCond .eq 41, 3, 35, 0, []),
  (23, .iload_n 1, 1, 0, 0, []),
  (24, .iconst (-1), 1, 1, 1, []),
  (25, .if_icmp .eq 16, 3, 23, 0, []),
  (28, .aload_n 0, 1, 0, 0, []),
  (29, .getfield 31, 3, 12, 12, []),
  (32, .iload_n 2, 1, 0, 0, []),
  (33, .iaload, 1, 0, 0, []),
  (34, .iload_n 1, 1, 0, 0, []),
  (35, .if_icmp .eq 6, 3, 23, 0, []),
  (38, .goto 23, 3, 35, 0, []),
  (41, .aload_n 0, 1, 0, 0, []),
  (42, .getfield 107, 3, 12, 54, []),
  (45, .aload_n 0, 1, 0, 0, []),
  (46, .getfield 337, 3, 12, 55, []),
  (49, .iload_n 2, 1, 0, 0, []),
  (50, .iastore, 1, 0, 0, []),
  (51, .aload_n 0, 1, 0, 0, []),
  (52, .aload_n 0, 1, 0, 0, []),
  (53, .getfield 337, 3, 12, 55, []),
  (56, .iconst 1, 1, 1, 0, []),
  (57, .iadd, 1, 0, 0, []),
  (58, .putfield 337, 3, 12, 55, [0]),
  (61, .iinc 2 1, 3, 0, 0, []),
  (64, .goto (-57), 3, 5, 0, []),
  (67, .return_, 1, 0, 0, [])]
/-- Model.cleared -/
def pc_220 : List pm_I := [
  (0, .aload_n 0, 1, 0, 0, []),
  (1, .iconst 0, 1, 0, 0, []),
  (2, .putfield 136, 3, 12, 0, [0]),
  (5, .aload_n 0, 1, 0, 0, []),
  (6, .iconst (-1), 1, 1, 1, []),
  (7, .invokevirtual 341, 3, 219, 1, [12]),
  (10, .aload_n 0, 1, 0, 0, []),
  (11, .getfield 337, 3, 12, 55, []),
  (14, .bipush 10, 2, 10, 0, []),
  (16, .if_icmp .le 5, 3, 12, 0, []),
  (19, .iconst (-1), 1, 1, 1, []),
  (20, .ireturn, 1, 0, 0, []),
  (21, .iconst 1, 1, 1, 0, []),
  (22, .aload_n 0, 1, 0, 0, []),
  (23, .getfield 337, 3, 12, 55, []),
  (26, .ishl, 1, 0, 0, []),
  (27, .iconst 1, 1, 1, 0, []),
  (28, .isub, 1, 0, 0, []),
  (29, .istore_n 2, 1, 0, 0, []),
  (30, .aload_n 0, 1, 0, 0, []),
  (31, .getfield 110, 3, 12, 56, []),
  (34, .iconst 0, 1, 0, 0, []),
  (35, .iconst 0, 1, 0, 0, []),
  (36, .iastore, 1, 0, 0, []),
  (37, .iconst 1, 1, 1, 0, []),
  (38, .istore_n 3, 1, 0, 0, []),
  (39, .iload_n 3, 1, 0, 0, []),
  (40, .iload_n 2, 1, 0, 0, []),
  (41, .if_icmp .gt 20, 3, 38, 0, []),
  (44, .aload_n 0, 1, 0, 0, []),
  (45, .getfield 113, 3, 12, 57, []),
  (48, .iload_n 3, 1, 0, 0, []),
  (49, .aload_n 0, 1, 0, 0, []),
  (50, .iload_n 3, 1, 0, 0, []),
  (51, .invokevirtual 344, 3, 216, 1, [12]),
  (54, .bastore, 1, 0, 0, []),
  (55, .iinc 3 1, 3, 0, 0, []),
  (58, .goto (-19), 3, 26, 0, []),
  (61, .iconst 1, 1, 1, 0, []),
  (62, .istore_n 3, 1, 0, 0, []),
  (63, .iload_n 3, 1, 0, 0, []),
  (64, .iload_n 2, 1, 0, 0, []),
  (65, .if_icmp .gt 20, 3, 52, 0, []),
  (68, .aload_n 0, 1, 0, 0, []),
  (69, .getfield 110, 3, 12, 56, []),
  (72, .iload_n 3, 1, 0, 0, []),
  (73, .aload_n 0, 1, 0, 0, []),
  (74, .iload_n 3, 1, 0, 0, []),
  (75, .invokevirtual 347, 3, 218, 1, [12]),
  (78, .iastore, 1, 0, 0, []),
  (79, .iinc 3 1, 3, 0, 0, []),
  (82, .goto (-19), 3, 40, 0, []),
  (85, .iload_n 1, 1, 0, 0, []),
  (86, .ifCond .ne 10, 3, 59, 0, []),
  (89, .aload_n 0, 1, 0, 0, []),
  (90, .getfield 110, 3, 12, 56, []),
  (93, .iload_n 2, 1, 0, 0, []),
  (94, .iaload, 1, 0, 0, []),
  (95, .ireturn, 1, 0, 0, []),
  (96, .aload_n 0, 1, 0, 0, []),
  (97, .iload_n 1, 1, 0, 0, []),
  (98, .bipush 10, 2, 10, 0, []),
  (100, .bipush 9, 2, 9, 0, []),
  (102, .aload_n 0, 1, 0, 0, []),
  (103, .getfield 110, 3, 12, 56, []),
  (106, .iload_n 2, 1, 0, 0, []),
  (107, .iaload, 1, 0, 0, []),
  (108, .iadd, 1, 0, 0, []),
  (109, .invokevirtual 150, 3, 159, 3, [12]),
  (112, .ifCond .ne 5, 3, 72, 0, []),
  (115, .iconst (-1), 1, 1, 1, []),
  (116, .ireturn, 1, 0, 0, []),
  (117, .iload_n 2, 1, 0, 0, []),
  (118, .istore_n 3, 1, 0, 0, []),
  (119, .iconst 0, 1, 0, 0, []),
  (120, .istore 4, 2, 0, 0, []),
  (122, .iconst 0, 1, 0, 0, []),
  (123, .istore 5, 2, 0, 0, []),
  (125, .iload 5, 2, 0, 0, []),
  (127, .iload_n 1, 1, 0, 0, []),
  (128, .bipush 10, 2, 10, 0, []),
  (130, .isub, 1, 0, 0, []),
  (131, .if_icmp .gt 31, 3, 101, 0, []),
  (134, .aload_n 0, 1, 0, 0, []),
  (135, .iload_n 3, 1, 0, 0, []),
  (136, .aload_n 0, 1, 0, 0, []),
  (137, .getfield 110, 3, 12, 56, []),
  (140, .iload_n 3, 1, 0, 0, []),
  (141, .iaload, 1, 0, 0, []),
  (142, .iconst 1, 1, 1, 0, []),
  (143, .isub, 1, 0, 0, []),
  (144, .invokevirtual 350, 3, 217, 2, [12]),
  (147, .istore 4, 2, 0, 0, []),
  (149, .iload_n 3, 1, 0, 0, []),
  (150, .iload 4, 2, 0, 0, []),
  (152, .iconst (-1), 1, 1, 1, []),
  (153, .ixor, 1, 0, 0, []),
  (154, .iand, 1, 0, 0, []),
  (155, .istore_n 3, 1, 0, 0, []),
  (156, .iinc 5 1, 3, 0, 0, []),
  (159, .goto (-34), 3, 78, 0, []),
  (162, .iload 4, 2, 0, 0, []),
  (164, .ireturn, 1, 0, 0, [])]
/-- Model.grown -/
def pc_221 : List pm_I := [
  (0, .aload_n 0, 1, 0, 0, []),
  (1, .getfield 37, 3, 12, 14, []),
  (4, .iload_n 1, 1, 0, 0, []),
  (5, .iaload, 1, 0, 0, []),
  (6, .istore_n 3, 1, 0, 0, []),
  (7, .iconst 0, 1, 0, 0, []),
  (8, .istore 4, 2, 0, 0, []),
  (10, .iload 4, 2, 0, 0, []),
  (12, .iload_n 2, 1, 0, 0, []),
  (13, .if_icmp .ge 23, 3, 23, 0, []),
  (16, .iload_n 3, 1, 0, 0, []),
  (17, .iload_n 3, 1, 0, 0, []),
  (18, .aload_n 0, 1, 0, 0, []),
  (19, .getfield 52, 3, 12, 22, []),
  (22, .iconst 1, 1, 1, 0, []),
  (23, .iaload, 1, 0, 0, []),
  (24, .imul, 1, 0, 0, []),
  (25, .bipush 100, 2, 100, 0, []),
  (27, .idiv, 1, 0, 0, []),
  (28, .iadd, 1, 0, 0, []),
  (29, .istore_n 3, 1, 0, 0, []),
  (30, .iinc 4 1, 3, 0, 0, []),
  (33, .goto (-23), 3, 7, 0, []),
  (36, .iload_n 3, 1, 0, 0, []),
  (37, .ireturn, 1, 0, 0, [])]
/-- Model.costWith -/
def pc_222 : List pm_I := [
  (0, .aload_n 0, 1, 0, 0, []),
  (1, .aload_n 0, 1, 0, 0, []),
  (2, .getfield 107, 3, 12, 54, []),
  (5, .iload_n 2, 1, 0, 0, []),
  (6, .iaload, 1, 0, 0, []),
  (7, .aload_n 0, 1, 0, 0, []),
  (8, .getfield 337, 3, 12, 55, []),
  (11, .aload_n 0, 1, 0, 0, []),
  (12, .iload_n 1, 1, 0, 0, []),
  (13, .invokevirtual 353, 3, 160, 1, [12]),
  (16, .isub, 1, 0, 0, []),
  (17, .invokevirtual 356, 3, 221, 2, [12]),
  (20, .aload_n 0, 1, 0, 0, []),
  (21, .getfield 117, 3, 12, 58, []),
  (24, .iload_n 1, 1, 0, 0, []),
  (25, .iconst 1, 1, 1, 0, []),
  (26, .iload_n 2, 1, 0, 0, []),
  (27, .ishl, 1, 0, 0, []),
  (28, .iconst (-1), 1, 1, 1, []),
  (29, .ixor, 1, 0, 0, []),
  (30, .iand, 1, 0, 0, []),
  (31, .iaload, 1, 0, 0, []),
  (32, .iadd, 1, 0, 0, []),
  (33, .ireturn, 1, 0, 0, [])]
/-- Model.first -/
def pc_223 : List pm_I := [
  (0, .aload_n 0, 1, 0, 0, []),
  (1, .iconst 0, 1, 0, 0, []),
  (2, .putfield 136, 3, 12, 0, [0]),
  (5, .aload_n 0, 1, 0, 0, []),
  (6, .iload_n 1, 1, 0, 0, []),
  (7, .invokevirtual 159, 3, 164, 1, [12]),
  (10, .ifCond .ne 5, 3, 9, 0, []),
  (13, .iconst (-1), 1, 1, 1, []),
  (14, .ireturn, 1, 0, 0, []),
  (15, .aload_n 0, 1, 0, 0, []),
  (16, .iload_n 1, 1, 0, 0, []),
  (17, .invokevirtual 341, 3, 219, 1, [12]),
  (20, .aload_n 0, 1, 0, 0, []),
  (21, .getfield 337, 3, 12, 55, []),
  (24, .bipush 8, 2, 8, 0, []),
  (26, .if_icmp .gt 24, 3, 27, 0, []),
  (29, .iload_n 2, 1, 0, 0, []),
  (30, .ifCond .eq 22, 3, 29, 0, []),
  (33, .aload_n 0, 1, 0, 0, []),
  (34, .iload_n 2, 1, 0, 0, []),
  (35, .bipush 10, 2, 10, 0, []),
  (37, .bipush 9, 2, 9, 0, []),
  (39, .aload_n 0, 1, 0, 0, []),
  (40, .getfield 337, 3, 12, 55, []),
  (43, .iadd, 1, 0, 0, []),
  (44, .invokevirtual 150, 3, 159, 3, [12]),
  (47, .ifCond .ne 5, 3, 29, 0, []),
  (50, .iconst (-1), 1, 1, 1, []),
  (51, .ireturn, 1, 0, 0, []),
  (52, .aload_n 0, 1, 0, 0, []),
  (53, .getfield 117, 3, 12, 58, []),
  (56, .iconst 0, 1, 0, 0, []),
  (57, .iconst 0, 1, 0, 0, []),
  (58, .iastore, 1, 0, 0, []),
  (59, .iconst 1, 1, 1, 0, []),
  (60, .istore_n 3, 1, 0, 0, []),
  (61, .iload_n 3, 1, 0, 0, []),
  (62, .iconst 1, 1, 1, 0, []),
  (63, .aload_n 0, 1, 0, 0, []),
  (64, .getfield 337, 3, 12, 55, []),
  (67, .ishl, 1, 0, 0, []),
  (68, .if_icmp .ge 75, 3, 81, 0, []),
  (71, .aload_n 0, 1, 0, 0, []),
  (72, .getfield 117, 3, 12, 58, []),
  (75, .iload_n 3, 1, 0, 0, []),
  (76, .ldc_w 340, 3, 1000000000, 0, []),
  (79, .iastore, 1, 0, 0, []),
  (80, .iconst 0, 1, 0, 0, []),
  (81, .istore 4, 2, 0, 0, []),
  (83, .iload 4, 2, 0, 0, []),
  (85, .aload_n 0, 1, 0, 0, []),
  (86, .getfield 337, 3, 12, 55, []),
  (89, .if_icmp .ge 48, 3, 79, 0, []),
  (92, .iload_n 3, 1, 0, 0, []),
  (93, .iload 4, 2, 0, 0, []),
  (95, .ishr, 1, 0, 0, []),
  (96, .iconst 1, 1, 1, 0, []),
  (97, .iand, 1, 0, 0, []),
  (98, .iconst 1, 1, 1, 0, []),
  (99, .if_icmp .ne 32, 3, 77, 0, []),
  (102, .aload_n 0, 1, 0, 0, []),
  (103, .iload_n 3, 1, 0, 0, []),
  (104, .iload 4, 2, 0, 0, []),
  (106, .invokevirtual 359, 3, 222, 2, [12]),
  (109, .aload_n 0, 1, 0, 0, []),
  (110, .getfield 117, 3, 12, 58, []),
  (113, .iload_n 3, 1, 0, 0, []),
  (114, .iaload, 1, 0, 0, []),
  (115, .if_icmp .ge 16, 3, 77, 0, []),
  (118, .aload_n 0, 1, 0, 0, []),
  (119, .getfield 117, 3, 12, 58, []),
  (122, .iload_n 3, 1, 0, 0, []),
  (123, .aload_n 0, 1, 0, 0, []),
  (124, .iload_n 3, 1, 0, 0, []),
  (125, .iload 4, 2, 0, 0, []),
  (127, .invokevirtual 359, 3, 222, 2, [12]),
  (130, .iastore, 1, 0, 0, []),
  (131, .iinc 4 1, 3, 0, 0, []),
  (134, .goto (-51), 3, 49, 0, []),
  (137, .iinc 3 1, 3, 0, 0, []),
  (140, .goto (-79), 3, 36, 0, []),
  (143, .iconst 1, 1, 1, 0, []),
  (144, .aload_n 0, 1, 0, 0, []),
  (145, .getfield 337, 3, 12, 55, []),
  (148, .ishl, 1, 0, 0, []),
  (149, .iconst 1, 1, 1, 0, []),
  (150, .isub, 1, 0, 0, []),
  (151, .istore_n 3, 1, 0, 0, []),
  (152, .iload_n 2, 1, 0, 0, []),
  (153, .ifCond .ne 10, 3, 95, 0, []),
  (156, .aload_n 0, 1, 0, 0, []),
  (157, .getfield 117, 3, 12, 58, []),
  (160, .iload_n 3, 1, 0, 0, []),
  (161, .iaload, 1, 0, 0, []),
  (162, .ireturn, 1, 0, 0, []),
  (163, .iconst 0, 1, 0, 0, []),
  (164, .istore 4, 2, 0, 0, []),
  (166, .iconst 0, 1, 0, 0, []),
  (167, .istore 5, 2, 0, 0, []),
  (169, .iload 5, 2, 0, 0, []),
  (171, .iload_n 2, 1, 0, 0, []),
  (172, .bipush 10, 2, 10, 0, []),
  (174, .isub, 1, 0, 0, []),
  (175, .if_icmp .gt 55, 3, 136, 0, []),
  (178, .iconst 0, 1, 0, 0, []),
  (179, .istore 4, 2, 0, 0, []),
  (181, .iload_n 3, 1, 0, 0, []),
  (182, .iload 4, 2, 0, 0, []),
  (184, .ishr, 1, 0, 0, []),
  (185, .iconst 1, 1, 1, 0, []),
  (186, .iand, 1, 0, 0, []),
  (187, .ifCond .eq 19, 3, 121, 0, []),
  (190, .aload_n 0, 1, 0, 0, []),
  (191, .iload_n 3, 1, 0, 0, []),
  (192, .iload 4, 2, 0, 0, []),
  (194, .invokevirtual 359, 3, 222, 2, [12]),
  (197, .aload_n 0, 1, 0, 0, []),
  (198, .getfield 117, 3, 12, 58, []),
  (201, .iload_n 3, 1, 0, 0, []),
  (202, .iaload, 1, 0, 0, []),
  (203, .if_icmp .eq 12, 3, 126, 0, []),
  (206, .iload 4, 2, 0, 0, []),
  (208, .iconst 1, 1, 1, 0, []),
  (209, .iadd, 1, 0, 0, []),
  (210, .istore 4, 2, 0, 0, []),
  (212, .goto (-31), 3, 106, 0, []),
  (215, .iload_n 3, 1, 0, 0, []),
  (216, .iconst 1, 1, 1, 0, []),
  (217, .iload 4, 2, 0, 0, []),
  (219, .ishl, 1, 0, 0, []),
  (220, .iconst (-1), 1, 1, 1, []),
  (221, .ixor, 1, 0, 0, []),
  (222, .iand, 1, 0, 0, []),
  (223, .istore_n 3, 1, 0, 0, []),
  (224, .iinc 5 1, 3, 0, 0, []),
  (227, .goto (-58), 3, 99, 0, []),
  (230, .aload_n 0, 1, 0, 0, []),
  (231, .getfield 107, 3, 12, 54, []),
  (234, .iload 4, 2, 0, 0, []),
  (236, .iaload, 1, 0, 0, []),
  (237, .ireturn, 1, 0, 0, [])]
/-- Model.tourFrom -/
def pc_224 : List pm_I := [
  (0, .iconst 0, 1, 0, 0, []),
  (1, .istore_n 3, 1, 0, 0, []),
  (2, .iload_n 3, 1, 0, 0, []),
  (3, .aload_n 0, 1, 0, 0, []),
  (4, .getfield 144, 3, 12, 2, []),
  (7, .if_icmp .ge 21, 3, 16, 0, []),
  (10, .aload_n 0, 1, 0, 0, []),
  (11, .getfield 120, 3, 12, 59, []),
  (14, .iload_n 3, 1, 0, 0, []),
  (15, .aload_n 0, 1, 0, 0, []),
  (16, .iload_n 3, 1, 0, 0, []),
  (17, .iload_n 1, 1, 0, 0, []),
  (18, .invokevirtual 286, 3, 165, 2, [12]),
  (21, .iastore, 1, 0, 0, []),
  (22, .iinc 3 1, 3, 0, 0, []),
  (25, .goto (-23), 3, 2, 0, []),
  (28, .iconst 1, 1, 1, 0, []),
  (29, .istore_n 3, 1, 0, 0, []),
  (30, .iload_n 3, 1, 0, 0, []),
  (31, .iconst 1, 1, 1, 0, []),
  (32, .aload_n 0, 1, 0, 0, []),
  (33, .getfield 144, 3, 12, 2, []),
  (36, .ishl, 1, 0, 0, []),
  (37, .if_icmp .ge 133, 3, 94, 0, []),
  (40, .iload_n 3, 1, 0, 0, []),
  (41, .iload_n 2, 1, 0, 0, []),
  (42, .iconst (-1), 1, 1, 1, []),
  (43, .ixor, 1, 0, 0, []),
  (44, .iand, 1, 0, 0, []),
  (45, .ifCond .eq 6, 3, 31, 0, []),
  (48, .goto 116, 3, 92, 0, []),
  (51, .iconst 0, 1, 0, 0, []),
  (52, .istore 4, 2, 0, 0, []),
  (54, .iload 4, 2, 0, 0, []),
  (56, .aload_n 0, 1, 0, 0, []),
  (57, .getfield 144, 3, 12, 2, []),
  (60, .if_icmp .ge 104, 3, 92, 0, []),
  (63, .ldc_w 340, 3, 1000000000, 0, []),
  (66, .istore 5, 2, 0, 0, []),
  (68, .iconst 0, 1, 0, 0, []),
  (69, .istore 6, 2, 0, 0, []),
  (71, .iload 6, 2, 0, 0, []),
  (73, .aload_n 0, 1, 0, 0, []),
  (74, .getfield 144, 3, 12, 2, []),
  (77, .if_icmp .ge 67, 3, 81, 0, []),
  (80, .iload_n 3, 1, 0, 0, []),
  (81, .iload 6, 2, 0, 0, []),
  (83, .ishr, 1, 0, 0, []),
  (84, .iconst 1, 1, 1, 0, []),
  (85, .iand, 1, 0, 0, []),
  (86, .ifCond .ne 6, 3, 52, 0, []),
  (89, .goto 49, 3, 79, 0, []),
  (92, .aload_n 0, 1, 0, 0, []),
  (93, .iload 4, 2, 0, 0, []),
  (95, .iload 6, 2, 0, 0, []),
  (97, .invokevirtual 286, 3, 165, 2, [12]),
  (100, .aload_n 0, 1, 0, 0, []),
  (101, .getfield 120, 3, 12, 59, []),
  (104, .bipush 10, 2, 10, 0, []),
  (106, .iload_n 3, 1, 0, 0, []),
  (107, .iconst 1, 1, 1, 0, []),
  (108, .iload 6, 2, 0, 0, []),
  (110, .ishl, 1, 0, 0, []),
  (111, .iconst (-1), 1, 1, 1, []),
  (112, .ixor, 1, 0, 0, []),
  (113, .iand, 1, 0, 0, []),
  (114, .imul, 1, 0, 0, []),
  (115, .iload 6, 2, 0, 0, []),
  (117, .iadd, 1, 0, 0, []),
  (118, .iaload, 1, 0, 0, []),
  (119, .iadd, 1, 0, 0, []),
  (120, .istore 7, 2, 0, 0, []),
  (122, .iload 7, 2, 0, 0, []),
  (124, .iload 5, 2, 0, 0, []),
  (126, .if_icmp .ge 8, 3, 77, 0, []),
  (129, .iload 7, 2, 0, 0, []),
  (131, .goto 5, 3, 78, 0, []),
  (134, .iload 5, 2, 0, 0, []),
  (136, .istore 5, 2, 0, 0, []),
  (138, .iinc 6 1, 3, 0, 0, []),
  (141, .goto (-70), 3, 41, 0, []),
  (144, .aload_n 0, 1, 0, 0, []),
  (145, .getfield 120, 3, 12, 59, []),
  (148, .bipush 10, 2, 10, 0, []),
  (150, .iload_n 3, 1, 0, 0, []),
  (151, .imul, 1, 0, 0, []),
  (152, .iload 4, 2, 0, 0, []),
  (154, .iadd, 1, 0, 0, []),
  (155, .iload 5, 2, 0, 0, []),
  (157, .iastore, 1, 0, 0, []),
  (158, .iinc 4 1, 3, 0, 0, []),
  (161, .goto (-107), 3, 33, 0, []),
  (164, .iinc 3 1, 3, 0, 0, []),
  (167, .goto (-137), 3, 18, 0, []),
  (170, .aload_n 0, 1, 0, 0, []),
  (171, .getfield 120, 3, 12, 59, []),
  (174, .bipush 10, 2, 10, 0, []),
  (176, .iload_n 2, 1, 0, 0, []),
  (177, .imul, 1, 0, 0, []),
  (178, .iload_n 1, 1, 0, 0, []),
  (179, .iadd, 1, 0, 0, []),
  (180, .iaload, 1, 0, 0, []),
  (181, .ireturn, 1, 0, 0, [])]
/-- Model.tour -/
def pc_225 : List pm_I := [
  (0, .aload_n 0, 1, 0, 0, []),
  (1, .iconst 0, 1, 0, 0, []),
  (2, .putfield 136, 3, 12, 0, [0]),
  (5, .aload_n 0, 1, 0, 0, []),
  (6, .iload_n 1, 1, 0, 0, []),
  (7, .invokevirtual 154, 3, 163, 1, [12]),
  (10, .ifCond .eq 35, 3, 29, 0, []),
  (13, .aload_n 0, 1, 0, 0, []),
  (14, .iload_n 2, 1, 0, 0, []),
  (15, .iconst 0, 1, 0, 0, []),
  (16, .iconst 1, 1, 1, 0, []),
  (17, .aload_n 0, 1, 0, 0, []),
  (18, .getfield 144, 3, 12, 2, []),
  (21, .ishl, 1, 0, 0, []),
  (22, .iconst 1, 1, 1, 0, []),
  (23, .isub, 1, 0, 0, []),
  (24, .invokevirtual 150, 3, 159, 3, [12]),
  (27, .ifCond .eq 18, 3, 29, 0, []),
  (30, .aload_n 0, 1, 0, 0, []),
  (31, .iload_n 1, 1, 0, 0, []),
  (32, .iload_n 2, 1, 0, 0, []),
  (33, .iconst 1, 1, 1, 0, []),
  (34, .iload_n 1, 1, 0, 0, []),
  (35, .ishl, 1, 0, 0, []),
  (36, .iconst (-1), 1, 1, 1, []),
  (37, .ixor, 1, 0, 0, []),
  (38, .iand, 1, 0, 0, []),
  (39, .invokevirtual 362, 3, 224, 2, [12]),
  (42, .goto 4, 3, 30, 0, []),
  (45, .iconst (-1), 1, 1, 1, []),
  (46, .ireturn, 1, 0, 0, [])]
/-- Model.homesOf -/
def pc_226 : List pm_I := [
  (0, .iconst 0, 1, 0, 0, []),
  (1, .istore_n 2, 1, 0, 0, []),
  (2, .iconst 0, 1, 0, 0, []),
  (3, .istore_n 3, 1, 0, 0, []),
  (4, .iload_n 3, 1, 0, 0, []),
  (5, .aload_n 0, 1, 0, 0, []),
  (6, .getfield 147, 3, 12, 5, []),
  (9, .if_icmp .ge 29, 3, 26, 0, []),
  (12, .iload_n 1, 1, 0, 0, []),
  (13, .iload_n 3, 1, 0, 0, []),
  (14, .ishr, 1, 0, 0, []),
  (15, .iconst 1, 1, 1, 0, []),
  (16, .iand, 1, 0, 0, []),
  (17, .iconst 1, 1, 1, 0, []),
  (18, .if_icmp .ne 14, 3, 24, 0, []),
  (21, .iload_n 2, 1, 0, 0, []),
  (22, .iconst 1, 1, 1, 0, []),
  (23, .aload_n 0, 1, 0, 0, []),
  (24, .getfield 16, 3, 12, 6, []),
  (27, .iload_n 3, 1, 0, 0, []),
  (28, .iaload, 1, 0, 0, []),
  (29, .ishl, 1, 0, 0, []),
  (30, .ior, 1, 0, 0, []),
  (31, .istore_n 2, 1, 0, 0, []),
  (32, .iinc 3 1, 3, 0, 0, []),
  (35, .goto (-31), 3, 4, 0, []),
  (38, .iload_n 2, 1, 0, 0, []),
  (39, .ireturn, 1, 0, 0, [])]
/-- Model.factorial -/
def pc_227 : List pm_I := [
  (0, .iconst 1, 1, 1, 0, []),
  (1, .istore_n 2, 1, 0, 0, []),
  (2, .iconst 2, 1, 2, 0, []),
  (3, .istore_n 3, 1, 0, 0, []),
  (4, .iload_n 3, 1, 0, 0, []),
  (5, .iload_n 1, 1, 0, 0, []),
  (6, .if_icmp .gt 13, 3, 13, 0, []),
  (9, .iload_n 2, 1, 0, 0, []),
  (10, .iload_n 3, 1, 0, 0, []),
  (11, .imul, 1, 0, 0, []),
  (12, .istore_n 2, 1, 0, 0, []),
  (13, .iinc 3 1, 3, 0, 0, []),
  (16, .goto (-12), 3, 4, 0, []),
  (19, .iload_n 2, 1, 0, 0, []),
  (20, .ireturn, 1, 0, 0, [])]
/-- Model.coach -/
def pc_228 : List pm_I := [
  (0, .aload_n 0, 1, 0, 0, []),
  (1, .iload_n 1, 1, 0, 0, []),
  (2, .aload_n 0, 1, 0, 0, []),
  (3, .iload_n 2, 1, 0, 0, []),
  (4, .invokevirtual 365, 3, 226, 1, [12]),
  (7, .iconst 1, 1, 1, 0, []),
  (8, .iload_n 1, 1, 0, 0, []),
  (9, .ishl, 1, 0, 0, []),
  (10, .iconst (-1), 1, 1, 1, []),
  (11, .ixor, 1, 0, 0, []),
  (12, .iand, 1, 0, 0, []),
  (13, .invokevirtual 362, 3, 224, 2, [12]),
  (16, .ireturn, 1, 0, 0, [])]
/-- Model.share -/
def pc_229 : List pm_I := [
  (0, .aload_n 0, 1, 0, 0, []),
  (1, .iconst 0, 1, 0, 0, []),
  (2, .putfield 136, 3, 12, 0, [0]),
  (5, .aload_n 0, 1, 0, 0, []),
  (6, .iload_n 1, 1, 0, 0, []),
  (7, .invokevirtual 154, 3, 163, 1, [12]),
  (10, .ifCond .eq 57, 3, 39, 0, []),
  (13, .aload_n 0, 1, 0, 0, []),
  (14, .iload_n 2, 1, 0, 0, []),
  (15, .iconst 1, 1, 1, 0, []),
  (16, .iconst 1, 1, 1, 0, []),
  (17, .aload_n 0, 1, 0, 0, []),
  (18, .getfield 147, 3, 12, 5, []),
  (21, .ishl, 1, 0, 0, []),
  (22, .iconst 1, 1, 1, 0, []),
  (23, .isub, 1, 0, 0, []),
  (24, .invokevirtual 150, 3, 159, 3, [12]),
  (27, .ifCond .eq 40, 3, 39, 0, []),
  (30, .aload_n 0, 1, 0, 0, []),
  (31, .iload_n 2, 1, 0, 0, []),
  (32, .invokevirtual 353, 3, 160, 1, [12]),
  (35, .bipush 6, 2, 6, 0, []),
  (37, .if_icmp .gt 30, 3, 39, 0, []),
  (40, .aload_n 0, 1, 0, 0, []),
  (41, .iload_n 3, 1, 0, 0, []),
  (42, .invokevirtual 159, 3, 164, 1, [12]),
  (45, .ifCond .eq 22, 3, 39, 0, []),
  (48, .iload_n 2, 1, 0, 0, []),
  (49, .iload_n 3, 1, 0, 0, []),
  (50, .ishr, 1, 0, 0, []),
  (51, .iconst 1, 1, 1, 0, []),
  (52, .iand, 1, 0, 0, []),
  (53, .ifCond .eq 14, 3, 39, 0, []),
  (56, .aload_n 0, 1, 0, 0, []),
  (57, .iload 4, 2, 0, 0, []),
  (59, .iconst 0, 1, 0, 0, []),
  (60, .iconst 1, 1, 1, 0, []),
  (61, .invokevirtual 150, 3, 159, 3, [12]),
  (64, .ifCond .ne 5, 3, 41, 0, []),
  (67, .iconst (-1), 1, 1, 1, []),
  (68, .ireturn, 1, 0, 0, []),
  (69, .iload_n 2, 1, 0, 0, []),
  (70, .iconst 1, 1, 1, 0, []),
  (71, .iload_n 3, 1, 0, 0, []),
  (72, .ishl, 1, 0, 0, []),
  (73, .iconst (-1), 1, 1, 1, []),
  (74, .ixor, 1, 0, 0, []),
  (75, .iand, 1, 0, 0, []),
  (76, .istore 5, 2, 0, 0, []),
  (78, .aload_n 0, 1, 0, 0, []),
  (79, .iload_n 2, 1, 0, 0, []),
  (80, .invokevirtual 353, 3, 160, 1, [12]),
  (83, .istore 6, 2, 0, 0, []),
  (85, .iconst 0, 1, 0, 0, []),
  (86, .istore 7, 2, 0, 0, []),
  (88, .iload 5, 2, 0, 0, []),
  (90, .istore 8, 2, 0, 0, []),
  (92, .iconst 1, 1, 1, 0, []),
  (93, .istore 9, 2, 0, 0, []),
  (95, .iload 9, 2, 0, 0, []),
  (97, .ifCond .eq 78, 3, 106, 0, []),
  (100, .iload 7, 2, 0, 0, []),
  (102, .aload_n 0, 1, 0, 0, []),
  (103, .aload_n 0, 1, 0, 0, []),
  (104, .iload 8, 2, 0, 0, []),
  (106, .invokevirtual 353, 3, 160, 1, [12]),
  (109, .invokevirtual 368, 3, 227, 1, [12]),
  (112, .aload_n 0, 1, 0, 0, []),
  (113, .iload 6, 2, 0, 0, []),
  (115, .iconst 1, 1, 1, 0, []),
  (116, .isub, 1, 0, 0, []),
  (117, .aload_n 0, 1, 0, 0, []),
  (118, .iload 8, 2, 0, 0, []),
  (120, .invokevirtual 353, 3, 160, 1, [12]),
  (123, .isub, 1, 0, 0, []),
  (124, .invokevirtual 368, 3, 227, 1, [12]),
  (127, .imul, 1, 0, 0, []),
  (128, .aload_n 0, 1, 0, 0, []),
  (129, .iload_n 1, 1, 0, 0, []),
  (130, .iload 8, 2, 0, 0, []),
  (132, .iconst 1, 1, 1, 0, []),
  (133, .iload_n 3, 1, 0, 0, []),
  (134, .ishl, 1, 0, 0, []),
  (135, .ior, 1, 0, 0, []),
  (136, .invokevirtual 371, 3, 228, 2, [12]),
  (139, .aload_n 0, 1, 0, 0, []),
  (140, .iload_n 1, 1, 0, 0, []),
  (141, .iload 8, 2, 0, 0, []),
  (143, .invokevirtual 371, 3, 228, 2, [12]),
  (146, .isub, 1, 0, 0, []),
  (147, .imul, 1, 0, 0, []),
  (148, .iadd, 1, 0, 0, []),
  (149, .istore 7, 2, 0, 0, []),
  (151, .iload 8, 2, 0, 0, []),
  (153, .ifCond .le 7, 3, 97, 0, []),
  (156, .iconst 1, 1, 1, 0, []),
  (157, .goto 4, 3, 98, 0, []),
  (160, .iconst 0, 1, 0, 0, []),
  (161, .istore 9, 2, 0, 0, []),
  (163, .iload 8, 2, 0, 0, []),
  (165, .iconst 1, 1, 1, 0, []),
  (166, .isub, 1, 0, 0, []),
  (167, .iload 5, 2, 0, 0, []),
  (169, .iand, 1, 0, 0, []),
  (170, .istore 8, 2, 0, 0, []),
  (172, .goto (-77), 3, 59, 0, []),
  (175, .iload 7, 2, 0, 0, []),
  (177, .ifCond .ge 9, 3, 111, 0, []),
  (180, .iload 7, 2, 0, 0, []),
  (182, .ineg, 1, 0, 0, []),
  (183, .goto 5, 3, 112, 0, []),
  (186, .iload 7, 2, 0, 0, []),
  (188, .istore 10, 2, 0, 0, []),
  (190, .aload_n 0, 1, 0, 0, []),
  (191, .iload 6, 2, 0, 0, []),
  (193, .invokevirtual 368, 3, 227, 1, [12]),
  (196, .istore 11, 2, 0, 0, []),
  (198, .iload 11, 2, 0, 0, []),
  (200, .ifCond .eq 21, 3, 128, 0, []),
  (203, .iload 10, 2, 0, 0, []),
  (205, .iload 11, 2, 0, 0, []),
  (207, .irem, 1, 0, 0, []),
  (208, .istore 12, 2, 0, 0, []),
  (210, .iload 11, 2, 0, 0, []),
  (212, .istore 10, 2, 0, 0, []),
  (214, .iload 12, 2, 0, 0, []),
  (216, .istore 11, 2, 0, 0, []),
  (218, .goto (-20), 3, 117, 0, []),
  (221, .iload 4, 2, 0, 0, []),
  (223, .ifCond .ne 11, 3, 134, 0, []),
  (226, .iload 7, 2, 0, 0, []),
  (228, .iload 10, 2, 0, 0, []),
  (230, .idiv, 1, 0, 0, []),
  (231, .goto 12, 3, 139, 0, []),
  (234, .aload_n 0, 1, 0, 0, []),
  (235, .iload 6, 2, 0, 0, []),
  (237, .invokevirtual 368, 3, 227, 1, [12]),
  (240, .iload 10, 2, 0, 0, []),
  (242, .idiv, 1, 0, 0, []),
  (243, .ireturn, 1, 0, 0, [])]
/-- Model.chance -/
def pc_230 : List pm_I := [
  (0, .aload_n 0, 1, 0, 0, []),
  (1, .iconst 0, 1, 0, 0, []),
  (2, .putfield 136, 3, 12, 0, [0]),
  (5, .aload_n 0, 1, 0, 0, []),
  (6, .iload_n 1, 1, 0, 0, []),
  (7, .invokevirtual 154, 3, 163, 1, [12]),
  (10, .ifCond .eq 25, 3, 19, 0, []),
  (13, .aload_n 0, 1, 0, 0, []),
  (14, .iload_n 2, 1, 0, 0, []),
  (15, .iconst 0, 1, 0, 0, []),
  (16, .bipush 7, 2, 7, 0, []),
  (18, .invokevirtual 150, 3, 159, 3, [12]),
  (21, .ifCond .eq 14, 3, 19, 0, []),
  (24, .aload_n 0, 1, 0, 0, []),
  (25, .iload_n 3, 1, 0, 0, []),
  (26, .iconst 0, 1, 0, 0, []),
  (27, .bipush 100, 2, 100, 0, []),
  (29, .invokevirtual 150, 3, 159, 3, [12]),
  (32, .ifCond .ne 5, 3, 21, 0, []),
  (35, .iconst 0, 1, 0, 0, []),
  (36, .ireturn, 1, 0, 0, []),
  (37, .iload_n 3, 1, 0, 0, []),
  (38, .istore 4, 2, 0, 0, []),
  (40, .iconst 0, 1, 0, 0, []),
  (41, .istore 5, 2, 0, 0, []),
  (43, .iload 5, 2, 0, 0, []),
  (45, .aload_n 0, 1, 0, 0, []),
  (46, .getfield 144, 3, 12, 2, []),
  (49, .if_icmp .ge 32, 3, 45, 0, []),
  (52, .iload 5, 2, 0, 0, []),
  (54, .iload_n 1, 1, 0, 0, []),
  (55, .if_icmp .eq 20, 3, 43, 0, []),
  (58, .iload 4, 2, 0, 0, []),
  (60, .aload_n 0, 1, 0, 0, []),
  (61, .getfield 67, 3, 12, 28, []),
  (64, .bipush 8, 2, 8, 0, []),
  (66, .iload 5, 2, 0, 0, []),
  (68, .imul, 1, 0, 0, []),
  (69, .iload_n 2, 1, 0, 0, []),
  (70, .iadd, 1, 0, 0, []),
  (71, .iaload, 1, 0, 0, []),
  (72, .iadd, 1, 0, 0, []),
  (73, .istore 4, 2, 0, 0, []),
  (75, .iinc 5 1, 3, 0, 0, []),
  (78, .goto (-35), 3, 25, 0, []),
  (81, .iload 4, 2, 0, 0, []),
  (83, .bipush 100, 2, 100, 0, []),
  (85, .if_icmp .le 5, 3, 50, 0, []),
  (88, .iconst 0, 1, 0, 0, []),
  (89, .ireturn, 1, 0, 0, []),
  (90, .aload_n 0, 1, 0, 0, []),
  (91, .getfield 67, 3, 12, 28, []),
  (94, .bipush 8, 2, 8, 0, []),
  (96, .iload_n 1, 1, 0, 0, []),
  (97, .imul, 1, 0, 0, []),
  (98, .iload_n 2, 1, 0, 0, []),
  (99, .iadd, 1, 0, 0, []),
  (100, .iload_n 3, 1, 0, 0, []),
  (101, .iastore, 1, 0, 0, []),
  (102, .iconst 1, 1, 1, 0, []),
  (103, .ireturn, 1, 0, 0, [])]
/-- Model.hoursOf -/
def pc_231 : List pm_I := [
  (0, .aload_n 0, 1, 0, 0, []),
  (1, .iload_n 1, 1, 0, 0, []),
  (2, .iload_n 2, 1, 0, 0, []),
  (3, .invokevirtual 286, 3, 165, 2, [12]),
  (6, .bipush 9, 2, 9, 0, []),
  (8, .iadd, 1, 0, 0, []),
  (9, .bipush 10, 2, 10, 0, []),
  (11, .idiv, 1, 0, 0, []),
  (12, .istore_n 3, 1, 0, 0, []),
  (13, .iload_n 3, 1, 0, 0, []),
  (14, .iconst 1, 1, 1, 0, []),
  (15, .if_icmp .ge 7, 3, 14, 0, []),
  (18, .iconst 1, 1, 1, 0, []),
  (19, .goto 4, 3, 15, 0, []),
  (22, .iload_n 3, 1, 0, 0, []),
  (23, .ireturn, 1, 0, 0, [])]
/-- Model.hundreds -/
def pc_232 : List pm_I := [
  (0, .lconst 1, 1, 1, 0, []),
  (1, .lstore_n 2, 1, 0, 0, []),
  (2, .iconst 0, 1, 0, 0, []),
  (3, .istore 4, 2, 0, 0, []),
  (5, .iload 4, 2, 0, 0, []),
  (7, .iload_n 1, 1, 0, 0, []),
  (8, .if_icmp .ge 15, 3, 13, 0, []),
  (11, .ldc2_w 374, 3, 100, 0, []),
  (14, .lload_n 2, 1, 0, 0, []),
  (15, .lmul, 1, 0, 0, []),
  (16, .lstore_n 2, 1, 0, 0, []),
  (17, .iinc 4 1, 3, 0, 0, []),
  (20, .goto (-15), 3, 4, 0, []),
  (23, .lload_n 2, 1, 0, 0, []),
  (24, .lreturn, 1, 0, 0, [])]
/-- Model.standing -/
def pc_233 : List pm_I := [
  (0, .ldc2_w 374, 3, 100, 0, []),
  (3, .aload_n 0, 1, 0, 0, []),
  (4, .getfield 67, 3, 12, 28, []),
  (7, .bipush 8, 2, 8, 0, []),
  (9, .iload_n 2, 1, 0, 0, []),
  (10, .imul, 1, 0, 0, []),
  (11, .iload_n 1, 1, 0, 0, []),
  (12, .iadd, 1, 0, 0, []),
  (13, .iaload, 1, 0, 0, []),
  (14, .i2l, 1, 0, 0, []),
  (15, .lsub, 1, 0, 0, []),
  (16, .aload_n 0, 1, 0, 0, []),
  (17, .getfield 123, 3, 12, 60, []),
  (20, .bipush 10, 2, 10, 0, []),
  (22, .iload_n 1, 1, 0, 0, []),
  (23, .iconst 1, 1, 1, 0, []),
  (24, .iadd, 1, 0, 0, []),
  (25, .imul, 1, 0, 0, []),
  (26, .iload_n 2, 1, 0, 0, []),
  (27, .iadd, 1, 0, 0, []),
  (28, .laload, 1, 0, 0, []),
  (29, .lmul, 1, 0, 0, []),
  (30, .lreturn, 1, 0, 0, [])]
/-- Model.walking -/
def pc_234 : List pm_I := [
  (0, .aload_n 0, 1, 0, 0, []),
  (1, .iload_n 2, 1, 0, 0, []),
  (2, .iload_n 3, 1, 0, 0, []),
  (3, .invokevirtual 376, 3, 231, 2, [12]),
  (6, .istore 5, 2, 0, 0, []),
  (8, .iload_n 1, 1, 0, 0, []),
  (9, .iload 5, 2, 0, 0, []),
  (11, .iadd, 1, 0, 0, []),
  (12, .iload 4, 2, 0, 0, []),
  (14, .if_icmp .le 16, 3, 18, 0, []),
  (17, .aload_n 0, 1, 0, 0, []),
  (18, .iload 4, 2, 0, 0, []),
  (20, .iload_n 1, 1, 0, 0, []),
  (21, .isub, 1, 0, 0, []),
  (22, .invokevirtual 379, 3, 232, 1, [12]),
  (25, .lconst 1, 1, 1, 0, []),
  (26, .ladd, 1, 0, 0, []),
  (27, .goto 24, 3, 32, 0, []),
  (30, .aload_n 0, 1, 0, 0, []),
  (31, .iload 5, 2, 0, 0, []),
  (33, .invokevirtual 379, 3, 232, 1, [12]),
  (36, .aload_n 0, 1, 0, 0, []),
  (37, .getfield 123, 3, 12, 60, []),
  (40, .bipush 10, 2, 10, 0, []),
  (42, .iload_n 1, 1, 0, 0, []),
  (43, .iload 5, 2, 0, 0, []),
  (45, .iadd, 1, 0, 0, []),
  (46, .imul, 1, 0, 0, []),
  (47, .iload_n 3, 1, 0, 0, []),
  (48, .iadd, 1, 0, 0, []),
  (49, .laload, 1, 0, 0, []),
  (50, .lmul, 1, 0, 0, []),
  (51, .lreturn, 1, 0, 0, [])]
/-- Model.findsMissed -/
def pc_235 : List pm_I := [
  (0, .iconst 0, 1, 0, 0, []),
  (1, .istore_n 2, 1, 0, 0, []),
  (2, .iload_n 2, 1, 0, 0, []),
  (3, .aload_n 0, 1, 0, 0, []),
  (4, .getfield 144, 3, 12, 2, []),
  (7, .if_icmp .ge 21, 3, 17, 0, []),
  (10, .aload_n 0, 1, 0, 0, []),
  (11, .getfield 123, 3, 12, 60, []),
  (14, .bipush 10, 2, 10, 0, []),
  (16, .iload_n 1, 1, 0, 0, []),
  (17, .imul, 1, 0, 0, []),
  (18, .iload_n 2, 1, 0, 0, []),
  (19, .iadd, 1, 0, 0, []),
  (20, .lconst 1, 1, 1, 0, []),
  (21, .lastore, 1, 0, 0, []),
  (22, .iinc 2 1, 3, 0, 0, []),
  (25, .goto (-23), 3, 2, 0, []),
  (28, .iload_n 1, 1, 0, 0, []),
  (29, .iconst 1, 1, 1, 0, []),
  (30, .isub, 1, 0, 0, []),
  (31, .istore_n 2, 1, 0, 0, []),
  (32, .iload_n 2, 1, 0, 0, []),
  (33, .ifCond .lt 96, 3, 74, 0, []),
  (36, .iconst 0, 1, 0, 0, []),
  (37, .istore_n 3, 1, 0, 0, []),
  (38, .iload_n 3, 1, 0, 0, []),
  (39, .aload_n 0, 1, 0, 0, []),
  (40, .getfield 144, 3, 12, 2, []),
  (43, .if_icmp .ge 80, 3, 72, 0, []),
  (46, .aload_n 0, 1, 0, 0, []),
  (47, .iload_n 2, 1, 0, 0, []),
  (48, .iload_n 3, 1, 0, 0, []),
  (49, .invokevirtual 383, 3, 233, 2, [12]),
  (52, .lstore 4, 2, 0, 0, []),
  (54, .iconst 0, 1, 0, 0, []),
  (55, .istore 6, 2, 0, 0, []),
  (57, .iload 6, 2, 0, 0, []),
  (59, .aload_n 0, 1, 0, 0, []),
  (60, .getfield 144, 3, 12, 2, []),
  (63, .if_icmp .ge 41, 3, 61, 0, []),
  (66, .iload 6, 2, 0, 0, []),
  (68, .iload_n 3, 1, 0, 0, []),
  (69, .if_icmp .eq 29, 3, 59, 0, []),
  (72, .aload_n 0, 1, 0, 0, []),
  (73, .iload_n 2, 1, 0, 0, []),
  (74, .iload_n 3, 1, 0, 0, []),
  (75, .iload 6, 2, 0, 0, []),
  (77, .iload_n 1, 1, 0, 0, []),
  (78, .invokevirtual 387, 3, 234, 4, [12]),
  (81, .lload 4, 2, 0, 0, []),
  (83, .lcmp, 1, 0, 0, []),
  (84, .ifCond .ge 14, 3, 59, 0, []),
  (87, .aload_n 0, 1, 0, 0, []),
  (88, .iload_n 2, 1, 0, 0, []),
  (89, .iload_n 3, 1, 0, 0, []),
  (90, .iload 6, 2, 0, 0, []),
  (92, .iload_n 1, 1, 0, 0, []),
  (93, .invokevirtual 387, 3, 234, 4, [12]),
  (96, .lstore 4, 2, 0, 0, []),
  (98, .iinc 6 1, 3, 0, 0, []),
  (101, .goto (-44), 3, 36, 0, []),
  (104, .aload_n 0, 1, 0, 0, []),
  (105, .getfield 123, 3, 12, 60, []),
  (108, .bipush 10, 2, 10, 0, []),
  (110, .iload_n 2, 1, 0, 0, []),
  (111, .imul, 1, 0, 0, []),
  (112, .iload_n 3, 1, 0, 0, []),
  (113, .iadd, 1, 0, 0, []),
  (114, .lload 4, 2, 0, 0, []),
  (116, .lastore, 1, 0, 0, []),
  (117, .iinc 3 1, 3, 0, 0, []),
  (120, .goto (-82), 3, 25, 0, []),
  (123, .iinc 2 (-1), 3, 0, 0, []),
  (126, .goto (-94), 3, 21, 0, []),
  (129, .return_, 1, 0, 0, [])]
/-- Model.placeIn -/
def pc_236 : List pm_I := [
  (0, .iconst 0, 1, 0, 0, []),
  (1, .istore 4, 2, 0, 0, []),
  (3, .iload 4, 2, 0, 0, []),
  (5, .iload_n 2, 1, 0, 0, []),
  (6, .if_icmp .gt 17, 3, 12, 0, []),
  (9, .aload_n 0, 1, 0, 0, []),
  (10, .getfield 127, 3, 12, 61, []),
  (13, .iload 4, 2, 0, 0, []),
  (15, .iconst 0, 1, 0, 0, []),
  (16, .iastore, 1, 0, 0, []),
  (17, .iinc 4 1, 3, 0, 0, []),
  (20, .goto (-17), 3, 2, 0, []),
  (23, .aload_n 0, 1, 0, 0, []),
  (24, .getfield 127, 3, 12, 61, []),
  (27, .iconst 0, 1, 0, 0, []),
  (28, .iconst 1, 1, 1, 0, []),
  (29, .iload_n 1, 1, 0, 0, []),
  (30, .ishl, 1, 0, 0, []),
  (31, .iastore, 1, 0, 0, []),
  (32, .bipush 10, 2, 10, 0, []),
  (34, .istore 4, 2, 0, 0, []),
  (36, .iconst 0, 1, 0, 0, []),
  (37, .istore 5, 2, 0, 0, []),
  (39, .iload 5, 2, 0, 0, []),
  (41, .iload_n 3, 1, 0, 0, []),
  (42, .if_icmp .gt 133, 3, 96, 0, []),
  (45, .bipush 10, 2, 10, 0, []),
  (47, .istore 4, 2, 0, 0, []),
  (49, .aload_n 0, 1, 0, 0, []),
  (50, .getfield 144, 3, 12, 2, []),
  (53, .iconst 1, 1, 1, 0, []),
  (54, .isub, 1, 0, 0, []),
  (55, .istore 6, 2, 0, 0, []),
  (57, .iload 6, 2, 0, 0, []),
  (59, .ifCond .lt 54, 3, 63, 0, []),
  (62, .aload_n 0, 1, 0, 0, []),
  (63, .getfield 127, 3, 12, 61, []),
  (66, .iload 5, 2, 0, 0, []),
  (68, .iaload, 1, 0, 0, []),
  (69, .iload 6, 2, 0, 0, []),
  (71, .ishr, 1, 0, 0, []),
  (72, .iconst 1, 1, 1, 0, []),
  (73, .iand, 1, 0, 0, []),
  (74, .iconst 1, 1, 1, 0, []),
  (75, .if_icmp .ne 32, 3, 61, 0, []),
  (78, .aload_n 0, 1, 0, 0, []),
  (79, .iload 5, 2, 0, 0, []),
  (81, .iload 6, 2, 0, 0, []),
  (83, .invokevirtual 383, 3, 233, 2, [12]),
  (86, .aload_n 0, 1, 0, 0, []),
  (87, .getfield 123, 3, 12, 60, []),
  (90, .bipush 10, 2, 10, 0, []),
  (92, .iload 5, 2, 0, 0, []),
  (94, .imul, 1, 0, 0, []),
  (95, .iload 6, 2, 0, 0, []),
  (97, .iadd, 1, 0, 0, []),
  (98, .laload, 1, 0, 0, []),
  (99, .lcmp, 1, 0, 0, []),
  (100, .ifCond .ne 7, 3, 61, 0, []),
  (103, .iload 6, 2, 0, 0, []),
  (105, .istore 4, 2, 0, 0, []),
  (107, .iinc 6 (-1), 3, 0, 0, []),
  (110, .goto (-53), 3, 33, 0, []),
  (113, .iload 4, 2, 0, 0, []),
  (115, .bipush 10, 2, 10, 0, []),
  (117, .if_icmp .ge 45, 3, 90, 0, []),
  (120, .iload 5, 2, 0, 0, []),
  (122, .iconst 1, 1, 1, 0, []),
  (123, .iadd, 1, 0, 0, []),
  (124, .istore 6, 2, 0, 0, []),
  (126, .iload 6, 2, 0, 0, []),
  (128, .iload_n 2, 1, 0, 0, []),
  (129, .if_icmp .gt 17, 3, 80, 0, []),
  (132, .aload_n 0, 1, 0, 0, []),
  (133, .getfield 127, 3, 12, 61, []),
  (136, .iload 6, 2, 0, 0, []),
  (138, .iconst 0, 1, 0, 0, []),
  (139, .iastore, 1, 0, 0, []),
  (140, .iinc 6 1, 3, 0, 0, []),
  (143, .goto (-17), 3, 70, 0, []),
  (146, .aload_n 0, 1, 0, 0, []),
  (147, .getfield 127, 3, 12, 61, []),
  (150, .iload 5, 2, 0, 0, []),
  (152, .iconst 1, 1, 1, 0, []),
  (153, .iadd, 1, 0, 0, []),
  (154, .iconst 1, 1, 1, 0, []),
  (155, .iload 4, 2, 0, 0, []),
  (157, .ishl, 1, 0, 0, []),
  (158, .iastore, 1, 0, 0, []),
  (159, .goto 10, 3, 94, 0, []),
  (162, .aload_n 0, 1, 0, 0, []),
  (163, .iload 5, 2, 0, 0, []),
  (165, .iload_n 2, 1, 0, 0, []),
  (166, .invokevirtual 391, 3, 237, 2, [12]),
  (169, .iinc 5 1, 3, 0, 0, []),
  (172, .goto (-133), 3, 23, 0, []),
  (175, .iload 4, 2, 0, 0, []),
  (177, .ireturn, 1, 0, 0, [])]
/-- Model.walksOn -/
def pc_237 : List pm_I := [
  (0, .iconst 0, 1, 0, 0, []),
  (1, .istore_n 3, 1, 0, 0, []),
  (2, .iload_n 3, 1, 0, 0, []),
  (3, .aload_n 0, 1, 0, 0, []),
  (4, .getfield 144, 3, 12, 2, []),
  (7, .if_icmp .ge 106, 3, 67, 0, []),
  (10, .aload_n 0, 1, 0, 0, []),
  (11, .getfield 127, 3, 12, 61, []),
  (14, .iload_n 1, 1, 0, 0, []),
  (15, .iaload, 1, 0, 0, []),
  (16, .iload_n 3, 1, 0, 0, []),
  (17, .ishr, 1, 0, 0, []),
  (18, .iconst 1, 1, 1, 0, []),
  (19, .iand, 1, 0, 0, []),
  (20, .ifCond .ne 6, 3, 16, 0, []),
  (23, .goto 84, 3, 65, 0, []),
  (26, .iconst 0, 1, 0, 0, []),
  (27, .istore 4, 2, 0, 0, []),
  (29, .iload 4, 2, 0, 0, []),
  (31, .aload_n 0, 1, 0, 0, []),
  (32, .getfield 144, 3, 12, 2, []),
  (35, .if_icmp .ge 72, 3, 65, 0, []),
  (38, .iload 4, 2, 0, 0, []),
  (40, .iload_n 3, 1, 0, 0, []),
  (41, .if_icmp .eq 60, 3, 63, 0, []),
  (44, .aload_n 0, 1, 0, 0, []),
  (45, .iload_n 1, 1, 0, 0, []),
  (46, .iload_n 3, 1, 0, 0, []),
  (47, .iload 4, 2, 0, 0, []),
  (49, .iload_n 2, 1, 0, 0, []),
  (50, .invokevirtual 387, 3, 234, 4, [12]),
  (53, .aload_n 0, 1, 0, 0, []),
  (54, .getfield 123, 3, 12, 60, []),
  (57, .bipush 10, 2, 10, 0, []),
  (59, .iload_n 1, 1, 0, 0, []),
  (60, .imul, 1, 0, 0, []),
  (61, .iload_n 3, 1, 0, 0, []),
  (62, .iadd, 1, 0, 0, []),
  (63, .laload, 1, 0, 0, []),
  (64, .lcmp, 1, 0, 0, []),
  (65, .ifCond .ne 36, 3, 63, 0, []),
  (68, .aload_n 0, 1, 0, 0, []),
  (69, .getfield 127, 3, 12, 61, []),
  (72, .iload_n 1, 1, 0, 0, []),
  (73, .aload_n 0, 1, 0, 0, []),
  (74, .iload_n 3, 1, 0, 0, []),
  (75, .iload 4, 2, 0, 0, []),
  (77, .invokevirtual 376, 3, 231, 2, [12]),
  (80, .iadd, 1, 0, 0, []),
  (81, .aload_n 0, 1, 0, 0, []),
  (82, .getfield 127, 3, 12, 61, []),
  (85, .iload_n 1, 1, 0, 0, []),
  (86, .aload_n 0, 1, 0, 0, []),
  (87, .iload_n 3, 1, 0, 0, []),
  (88, .iload 4, 2, 0, 0, []),
  (90, .invokevirtual 376, 3, 231, 2, [12]),
  (93, .iadd, 1, 0, 0, []),
  (94, .iaload, 1, 0, 0, []),
  (95, .iconst 1, 1, 1, 0, []),
  (96, .iload 4, 2, 0, 0, []),
  (98, .ishl, 1, 0, 0, []),
  (99, .ior, 1, 0, 0, []),
  (100, .iastore, 1, 0, 0, []),
  (101, .iinc 4 1, 3, 0, 0, []),
  (104, .goto (-75), 3, 18, 0, []),
  (107, .iinc 3 1, 3, 0, 0, []),
  (110, .goto (-108), 3, 2, 0, []),
  (113, .return_, 1, 0, 0, [])]
/-- Model.waiting -/
def pc_238 : List pm_I := [
  (0, .aload_n 0, 1, 0, 0, []),
  (1, .iconst 0, 1, 0, 0, []),
  (2, .putfield 136, 3, 12, 0, [0]),
  (5, .aload_n 0, 1, 0, 0, []),
  (6, .iload_n 1, 1, 0, 0, []),
  (7, .invokevirtual 154, 3, 163, 1, [12]),
  (10, .ifCond .eq 32, 3, 23, 0, []),
  (13, .aload_n 0, 1, 0, 0, []),
  (14, .iload_n 2, 1, 0, 0, []),
  (15, .iconst 1, 1, 1, 0, []),
  (16, .bipush 8, 2, 8, 0, []),
  (18, .invokevirtual 150, 3, 159, 3, [12]),
  (21, .ifCond .eq 21, 3, 23, 0, []),
  (24, .iload_n 3, 1, 0, 0, []),
  (25, .ifCond .eq 21, 3, 25, 0, []),
  (28, .aload_n 0, 1, 0, 0, []),
  (29, .iload_n 3, 1, 0, 0, []),
  (30, .bipush 10, 2, 10, 0, []),
  (32, .bipush 9, 2, 9, 0, []),
  (34, .iload_n 2, 1, 0, 0, []),
  (35, .iadd, 1, 0, 0, []),
  (36, .invokevirtual 150, 3, 159, 3, [12]),
  (39, .ifCond .ne 7, 3, 25, 0, []),
  (42, .ldc2_w 394, 3, 1, 1, []),
  (45, .lreturn, 1, 0, 0, []),
  (46, .aload_n 0, 1, 0, 0, []),
  (47, .iload_n 2, 1, 0, 0, []),
  (48, .invokevirtual 396, 3, 235, 1, [12]),
  (51, .iload_n 3, 1, 0, 0, []),
  (52, .ifCond .ne 12, 3, 35, 0, []),
  (55, .aload_n 0, 1, 0, 0, []),
  (56, .getfield 123, 3, 12, 60, []),
  (59, .iload_n 1, 1, 0, 0, []),
  (60, .laload, 1, 0, 0, []),
  (61, .goto 14, 3, 43, 0, []),
  (64, .aload_n 0, 1, 0, 0, []),
  (65, .iload_n 1, 1, 0, 0, []),
  (66, .iload_n 2, 1, 0, 0, []),
  (67, .iload_n 3, 1, 0, 0, []),
  (68, .bipush 10, 2, 10, 0, []),
  (70, .isub, 1, 0, 0, []),
  (71, .invokevirtual 399, 3, 236, 3, [12]),
  (74, .i2l, 1, 0, 0, []),
  (75, .lreturn, 1, 0, 0, [])]
/-- Model.line -/
def pc_239 : List pm_I := [
  (0, .aload_n 0, 1, 0, 0, []),
  (1, .iconst 0, 1, 0, 0, []),
  (2, .putfield 136, 3, 12, 0, [0]),
  (5, .iload 4, 2, 0, 0, []),
  (7, .iconst (-1), 1, 1, 1, []),
  (8, .if_icmp .ne 20, 3, 15, 0, []),
  (11, .aload_n 0, 1, 0, 0, []),
  (12, .iload_n 3, 1, 0, 0, []),
  (13, .invokevirtual 159, 3, 164, 1, [12]),
  (16, .ifCond .eq 12, 3, 15, 0, []),
  (19, .iload_n 2, 1, 0, 0, []),
  (20, .iload_n 3, 1, 0, 0, []),
  (21, .if_icmp .eq 7, 3, 15, 0, []),
  (24, .iconst 1, 1, 1, 0, []),
  (25, .goto 4, 3, 16, 0, []),
  (28, .iconst 0, 1, 0, 0, []),
  (29, .istore 5, 2, 0, 0, []),
  (31, .iload_n 3, 1, 0, 0, []),
  (32, .iconst (-1), 1, 1, 1, []),
  (33, .if_icmp .ne 16, 3, 26, 0, []),
  (36, .aload_n 0, 1, 0, 0, []),
  (37, .iload 4, 2, 0, 0, []),
  (39, .invokevirtual 154, 3, 163, 1, [12]),
  (42, .ifCond .eq 7, 3, 26, 0, []),
  (45, .iconst 1, 1, 1, 0, []),
  (46, .goto 4, 3, 27, 0, []),
  (49, .iconst 0, 1, 0, 0, []),
  (50, .istore 6, 2, 0, 0, []),
  (52, .aload_n 0, 1, 0, 0, []),
  (53, .iload_n 1, 1, 0, 0, []),
  (54, .iconst 0, 1, 0, 0, []),
  (55, .sipush 9999, 3, 9999, 0, []),
  (58, .invokevirtual 150, 3, 159, 3, [12]),
  (61, .ifCond .eq 30, 3, 46, 0, []),
  (64, .aload_n 0, 1, 0, 0, []),
  (65, .iload_n 2, 1, 0, 0, []),
  (66, .invokevirtual 159, 3, 164, 1, [12]),
  (69, .ifCond .eq 22, 3, 46, 0, []),
  (72, .iload 5, 2, 0, 0, []),
  (74, .ifCond .ne 8, 3, 42, 0, []),
  (77, .iload 6, 2, 0, 0, []),
  (79, .ifCond .eq 12, 3, 46, 0, []),
  (82, .aload_n 0, 1, 0, 0, []),
  (83, .getfield 402, 3, 12, 23, []),
  (86, .bipush 30, 2, 30, 0, []),
  (88, .if_icmp .ne 5, 3, 48, 0, []),
  (91, .iconst (-1), 1, 1, 1, []),
  (92, .ireturn, 1, 0, 0, []),
  (93, .aload_n 0, 1, 0, 0, []),
  (94, .getfield 55, 3, 12, 24, []),
  (97, .aload_n 0, 1, 0, 0, []),
  (98, .getfield 402, 3, 12, 23, []),
  (101, .iload_n 1, 1, 0, 0, []),
  (102, .iastore, 1, 0, 0, []),
  (103, .aload_n 0, 1, 0, 0, []),
  (104, .getfield 58, 3, 12, 25, []),
  (107, .aload_n 0, 1, 0, 0, []),
  (108, .getfield 402, 3, 12, 23, []),
  (111, .iload_n 2, 1, 0, 0, []),
  (112, .iastore, 1, 0, 0, []),
  (113, .aload_n 0, 1, 0, 0, []),
  (114, .getfield 61, 3, 12, 26, []),
  (117, .aload_n 0, 1, 0, 0, []),
  (118, .getfield 402, 3, 12, 23, []),
  (121, .iload_n 3, 1, 0, 0, []),
  (122, .iastore, 1, 0, 0, []),
  (123, .aload_n 0, 1, 0, 0, []),
  (124, .getfield 64, 3, 12, 27, []),
  (127, .aload_n 0, 1, 0, 0, []),
  (128, .getfield 402, 3, 12, 23, []),
  (131, .iload 4, 2, 0, 0, []),
  (133, .iastore, 1, 0, 0, []),
  (134, .aload_n 0, 1, 0, 0, []),
  (135, .aload_n 0, 1, 0, 0, []),
  (136, .getfield 402, 3, 12, 23, []),
  (139, .iconst 1, 1, 1, 0, []),
  (140, .iadd, 1, 0, 0, []),
  (141, .putfield 402, 3, 12, 23, [0]),
  (144, .aload_n 0, 1, 0, 0, []),
  (145, .getfield 402, 3, 12, 23, []),
  (148, .iconst 1, 1, 1, 0, []),
  (149, .isub, 1, 0, 0, []),
  (150, .ireturn, 1, 0, 0, [])]
/-- Model.wrongWith -/
def pc_240 : List pm_I := [
  (0, .iconst 0, 1, 0, 0, []),
  (1, .istore_n 2, 1, 0, 0, []),
  (2, .iconst 0, 1, 0, 0, []),
  (3, .istore_n 3, 1, 0, 0, []),
  (4, .iload_n 3, 1, 0, 0, []),
  (5, .aload_n 0, 1, 0, 0, []),
  (6, .getfield 402, 3, 12, 23, []),
  (9, .if_icmp .ge 101, 3, 64, 0, []),
  (12, .aload_n 0, 1, 0, 0, []),
  (13, .getfield 55, 3, 12, 24, []),
  (16, .iload_n 3, 1, 0, 0, []),
  (17, .iaload, 1, 0, 0, []),
  (18, .iload_n 1, 1, 0, 0, []),
  (19, .if_icmp .eq 6, 3, 15, 0, []),
  (22, .goto 82, 3, 62, 0, []),
  (25, .aload_n 0, 1, 0, 0, []),
  (26, .getfield 61, 3, 12, 26, []),
  (29, .iload_n 3, 1, 0, 0, []),
  (30, .iaload, 1, 0, 0, []),
  (31, .iconst (-1), 1, 1, 1, []),
  (32, .if_icmp .ne 31, 3, 37, 0, []),
  (35, .aload_n 0, 1, 0, 0, []),
  (36, .getfield 130, 3, 12, 62, []),
  (39, .aload_n 0, 1, 0, 0, []),
  (40, .getfield 58, 3, 12, 25, []),
  (43, .iload_n 3, 1, 0, 0, []),
  (44, .iaload, 1, 0, 0, []),
  (45, .iaload, 1, 0, 0, []),
  (46, .aload_n 0, 1, 0, 0, []),
  (47, .getfield 64, 3, 12, 27, []),
  (50, .iload_n 3, 1, 0, 0, []),
  (51, .iaload, 1, 0, 0, []),
  (52, .if_icmp .ne 7, 3, 35, 0, []),
  (55, .iconst 1, 1, 1, 0, []),
  (56, .goto 37, 3, 55, 0, []),
  (59, .iconst 0, 1, 0, 0, []),
  (60, .goto 33, 3, 55, 0, []),
  (63, .aload_n 0, 1, 0, 0, []),
  (64, .getfield 130, 3, 12, 62, []),
  (67, .aload_n 0, 1, 0, 0, []),
  (68, .getfield 58, 3, 12, 25, []),
  (71, .iload_n 3, 1, 0, 0, []),
  (72, .iaload, 1, 0, 0, []),
  (73, .iaload, 1, 0, 0, []),
  (74, .aload_n 0, 1, 0, 0, []),
  (75, .getfield 130, 3, 12, 62, []),
  (78, .aload_n 0, 1, 0, 0, []),
  (79, .getfield 61, 3, 12, 26, []),
  (82, .iload_n 3, 1, 0, 0, []),
  (83, .iaload, 1, 0, 0, []),
  (84, .iaload, 1, 0, 0, []),
  (85, .if_icmp .ne 7, 3, 54, 0, []),
  (88, .iconst 1, 1, 1, 0, []),
  (89, .goto 4, 3, 55, 0, []),
  (92, .iconst 0, 1, 0, 0, []),
  (93, .istore 4, 2, 0, 0, []),
  (95, .iload 4, 2, 0, 0, []),
  (97, .ifCond .ne 7, 3, 62, 0, []),
  (100, .iload_n 2, 1, 0, 0, []),
  (101, .iconst 1, 1, 1, 0, []),
  (102, .iadd, 1, 0, 0, []),
  (103, .istore_n 2, 1, 0, 0, []),
  (104, .iinc 3 1, 3, 0, 0, []),
  (107, .goto (-103), 3, 4, 0, []),
  (110, .iload_n 2, 1, 0, 0, []),
  (111, .ireturn, 1, 0, 0, [])]
/-- Model.wrong -/
def pc_241 : List pm_I := [
  (0, .aload_n 0, 1, 0, 0, []),
  (1, .iconst 0, 1, 0, 0, []),
  (2, .putfield 136, 3, 12, 0, [0]),
  (5, .aload_n 0, 1, 0, 0, []),
  (6, .iload_n 1, 1, 0, 0, []),
  (7, .iconst 0, 1, 0, 0, []),
  (8, .sipush 9999, 3, 9999, 0, []),
  (11, .invokevirtual 150, 3, 159, 3, [12]),
  (14, .ifCond .ne 5, 3, 11, 0, []),
  (17, .iconst (-1), 1, 1, 1, []),
  (18, .ireturn, 1, 0, 0, []),
  (19, .iconst 0, 1, 0, 0, []),
  (20, .istore_n 2, 1, 0, 0, []),
  (21, .iconst 0, 1, 0, 0, []),
  (22, .istore_n 3, 1, 0, 0, []),
  (23, .iload_n 3, 1, 0, 0, []),
  (24, .aload_n 0, 1, 0, 0, []),
  (25, .getfield 402, 3, 12, 23, []),
  (28, .if_icmp .ge 53, 3, 51, 0, []),
  (31, .aload_n 0, 1, 0, 0, []),
  (32, .getfield 55, 3, 12, 24, []),
  (35, .iload_n 3, 1, 0, 0, []),
  (36, .iaload, 1, 0, 0, []),
  (37, .iload_n 1, 1, 0, 0, []),
  (38, .if_icmp .ne 37, 3, 49, 0, []),
  (41, .iload_n 2, 1, 0, 0, []),
  (42, .iconst 1, 1, 1, 0, []),
  (43, .aload_n 0, 1, 0, 0, []),
  (44, .getfield 58, 3, 12, 25, []),
  (47, .iload_n 3, 1, 0, 0, []),
  (48, .iaload, 1, 0, 0, []),
  (49, .ishl, 1, 0, 0, []),
  (50, .ior, 1, 0, 0, []),
  (51, .aload_n 0, 1, 0, 0, []),
  (52, .getfield 61, 3, 12, 26, []),
  (55, .iload_n 3, 1, 0, 0, []),
  (56, .iaload, 1, 0, 0, []),
  (57, .iconst (-1), 1, 1, 1, []),
  (58, .if_icmp .ne 7, 3, 41, 0, []),
  (61, .iconst 0, 1, 0, 0, []),
  (62, .goto 11, 3, 47, 0, []),
  (65, .iconst 1, 1, 1, 0, []),
  (66, .aload_n 0, 1, 0, 0, []),
  (67, .getfield 61, 3, 12, 26, []),
  (70, .iload_n 3, 1, 0, 0, []),
  (71, .iaload, 1, 0, 0, []),
  (72, .ishl, 1, 0, 0, []),
  (73, .ior, 1, 0, 0, []),
  (74, .istore_n 2, 1, 0, 0, []),
  (75, .iinc 3 1, 3, 0, 0, []),
  (78, .goto (-55), 3, 15, 0, []),
  (81, .aload_n 0, 1, 0, 0, []),
  (82, .iload_n 2, 1, 0, 0, []),
  (83, .invokevirtual 353, 3, 160, 1, [12]),
  (86, .iconst 5, 1, 5, 0, []),
  (87, .if_icmp .le 5, 3, 58, 0, []),
  (90, .iconst (-1), 1, 1, 1, []),
  (91, .ireturn, 1, 0, 0, []),
  (92, .iconst 1, 1, 1, 0, []),
  (93, .istore_n 3, 1, 0, 0, []),
  (94, .iconst 0, 1, 0, 0, []),
  (95, .istore 4, 2, 0, 0, []),
  (97, .iload 4, 2, 0, 0, []),
  (99, .aload_n 0, 1, 0, 0, []),
  (100, .iload_n 2, 1, 0, 0, []),
  (101, .invokevirtual 353, 3, 160, 1, [12]),
  (104, .if_icmp .ge 16, 3, 74, 0, []),
  (107, .iload_n 3, 1, 0, 0, []),
  (108, .aload_n 0, 1, 0, 0, []),
  (109, .getfield 144, 3, 12, 2, []),
  (112, .imul, 1, 0, 0, []),
  (113, .istore_n 3, 1, 0, 0, []),
  (114, .iinc 4 1, 3, 0, 0, []),
  (117, .goto (-20), 3, 62, 0, []),
  (120, .ldc_w 340, 3, 1000000000, 0, []),
  (123, .istore 4, 2, 0, 0, []),
  (125, .iconst 0, 1, 0, 0, []),
  (126, .istore 5, 2, 0, 0, []),
  (128, .iload 5, 2, 0, 0, []),
  (130, .iload_n 3, 1, 0, 0, []),
  (131, .if_icmp .ge 89, 3, 124, 0, []),
  (134, .iload 5, 2, 0, 0, []),
  (136, .istore 6, 2, 0, 0, []),
  (138, .iconst 0, 1, 0, 0, []),
  (139, .istore 7, 2, 0, 0, []),
  (141, .iload 7, 2, 0, 0, []),
  (143, .aload_n 0, 1, 0, 0, []),
  (144, .getfield 147, 3, 12, 5, []),
  (147, .if_icmp .ge 44, 3, 111, 0, []),
  (150, .iload_n 2, 1, 0, 0, []),
  (151, .iload 7, 2, 0, 0, []),
  (153, .ishr, 1, 0, 0, []),
  (154, .iconst 1, 1, 1, 0, []),
  (155, .iand, 1, 0, 0, []),
  (156, .ifCond .ne 6, 3, 96, 0, []),
  (159, .goto 26, 3, 109, 0, []),
  (162, .aload_n 0, 1, 0, 0, []),
  (163, .getfield 130, 3, 12, 62, []),
  (166, .iload 7, 2, 0, 0, []),
  (168, .iload 6, 2, 0, 0, []),
  (170, .aload_n 0, 1, 0, 0, []),
  (171, .getfield 144, 3, 12, 2, []),
  (174, .irem, 1, 0, 0, []),
  (175, .iastore, 1, 0, 0, []),
  (176, .iload 6, 2, 0, 0, []),
  (178, .aload_n 0, 1, 0, 0, []),
  (179, .getfield 144, 3, 12, 2, []),
  (182, .idiv, 1, 0, 0, []),
  (183, .istore 6, 2, 0, 0, []),
  (185, .iinc 7 1, 3, 0, 0, []),
  (188, .goto (-47), 3, 85, 0, []),
  (191, .aload_n 0, 1, 0, 0, []),
  (192, .iload_n 1, 1, 0, 0, []),
  (193, .invokevirtual 405, 3, 240, 1, [12]),
  (196, .istore 7, 2, 0, 0, []),
  (198, .iload 7, 2, 0, 0, []),
  (200, .iload 4, 2, 0, 0, []),
  (202, .if_icmp .ge 8, 3, 120, 0, []),
  (205, .iload 7, 2, 0, 0, []),
  (207, .goto 5, 3, 121, 0, []),
  (210, .iload 4, 2, 0, 0, []),
  (212, .istore 4, 2, 0, 0, []),
  (214, .iinc 5 1, 3, 0, 0, []),
  (217, .goto (-89), 3, 78, 0, []),
  (220, .iload 4, 2, 0, 0, []),
  (222, .ireturn, 1, 0, 0, [])]
/-- Model.kept -/
def pc_242 : List pm_I := [
  (0, .aload_n 0, 1, 0, 0, []),
  (1, .aload_n 0, 1, 0, 0, []),
  (2, .getfield 408, 3, 12, 65, []),
  (5, .iconst 1, 1, 1, 0, []),
  (6, .iadd, 1, 0, 0, []),
  (7, .putfield 408, 3, 12, 65, [0]),
  (10, .aload_n 0, 1, 0, 0, []),
  (11, .getfield 411, 3, 12, 63, []),
  (14, .ifCond .ne 15, 3, 17, 0, []),
  (17, .aload_n 0, 1, 0, 0, []),
  (18, .getfield 133, 3, 12, 66, []),
  (21, .aload_n 0, 1, 0, 0, []),
  (22, .getfield 408, 3, 12, 65, []),
  (25, .iconst 1, 1, 1, 0, []),
  (26, .isub, 1, 0, 0, []),
  (27, .iaload, 1, 0, 0, []),
  (28, .ireturn, 1, 0, 0, []),
  (29, .aload_n 0, 1, 0, 0, []),
  (30, .getfield 133, 3, 12, 66, []),
  (33, .aload_n 0, 1, 0, 0, []),
  (34, .getfield 408, 3, 12, 65, []),
  (37, .iconst 1, 1, 1, 0, []),
  (38, .isub, 1, 0, 0, []),
  (39, .iload_n 1, 1, 0, 0, []),
  (40, .iastore, 1, 0, 0, []),
  (41, .iload_n 1, 1, 0, 0, []),
  (42, .ireturn, 1, 0, 0, [])]
/-- Model.keepsDebts -/
def pc_243 : List pm_I := [
  (0, .aload_n 0, 1, 0, 0, []),
  (1, .aload_n 0, 1, 0, 0, []),
  (2, .aload_n 0, 1, 0, 0, []),
  (3, .getfield 162, 3, 12, 11, []),
  (6, .invokevirtual 415, 3, 242, 1, [12]),
  (9, .putfield 162, 3, 12, 11, [0]),
  (12, .iconst 0, 1, 0, 0, []),
  (13, .istore_n 1, 1, 0, 0, []),
  (14, .iload_n 1, 1, 0, 0, []),
  (15, .bipush 30, 2, 30, 0, []),
  (17, .if_icmp .ge 121, 3, 83, 0, []),
  (20, .aload_n 0, 1, 0, 0, []),
  (21, .getfield 31, 3, 12, 12, []),
  (24, .iload_n 1, 1, 0, 0, []),
  (25, .aload_n 0, 1, 0, 0, []),
  (26, .aload_n 0, 1, 0, 0, []),
  (27, .getfield 31, 3, 12, 12, []),
  (30, .iload_n 1, 1, 0, 0, []),
  (31, .iaload, 1, 0, 0, []),
  (32, .invokevirtual 415, 3, 242, 1, [12]),
  (35, .iastore, 1, 0, 0, []),
  (36, .aload_n 0, 1, 0, 0, []),
  (37, .getfield 34, 3, 12, 13, []),
  (40, .iload_n 1, 1, 0, 0, []),
  (41, .aload_n 0, 1, 0, 0, []),
  (42, .aload_n 0, 1, 0, 0, []),
  (43, .getfield 34, 3, 12, 13, []),
  (46, .iload_n 1, 1, 0, 0, []),
  (47, .iaload, 1, 0, 0, []),
  (48, .invokevirtual 415, 3, 242, 1, [12]),
  (51, .iastore, 1, 0, 0, []),
  (52, .aload_n 0, 1, 0, 0, []),
  (53, .getfield 37, 3, 12, 14, []),
  (56, .iload_n 1, 1, 0, 0, []),
  (57, .aload_n 0, 1, 0, 0, []),
  (58, .aload_n 0, 1, 0, 0, []),
  (59, .getfield 37, 3, 12, 14, []),
  (62, .iload_n 1, 1, 0, 0, []),
  (63, .iaload, 1, 0, 0, []),
  (64, .invokevirtual 415, 3, 242, 1, [12]),
  (67, .iastore, 1, 0, 0, []),
  (68, .aload_n 0, 1, 0, 0, []),
  (69, .getfield 40, 3, 12, 15, []),
  (72, .iload_n 1, 1, 0, 0, []),
  (73, .aload_n 0, 1, 0, 0, []),
  (74, .aload_n 0, 1, 0, 0, []),
  (75, .getfield 40, 3, 12, 15, []),
  (78, .iload_n 1, 1, 0, 0, []),
  (79, .iaload, 1, 0, 0, []),
  (80, .invokevirtual 415, 3, 242, 1, [12]),
  (83, .iastore, 1, 0, 0, []),
  (84, .aload_n 0, 1, 0, 0, []),
  (85, .getfield 43, 3, 12, 16, []),
  (88, .iload_n 1, 1, 0, 0, []),
  (89, .aload_n 0, 1, 0, 0, []),
  (90, .aload_n 0, 1, 0, 0, []),
  (91, .getfield 43, 3, 12, 16, []),
  (94, .iload_n 1, 1, 0, 0, []),
  (95, .iaload, 1, 0, 0, []),
  (96, .invokevirtual 415, 3, 242, 1, [12]),
  (99, .iastore, 1, 0, 0, []),
  (100, .aload_n 0, 1, 0, 0, []),
  (101, .getfield 46, 3, 12, 17, []),
  (104, .iload_n 1, 1, 0, 0, []),
  (105, .aload_n 0, 1, 0, 0, []),
  (106, .aload_n 0, 1, 0, 0, []),
  (107, .getfield 46, 3, 12, 17, []),
  (110, .iload_n 1, 1, 0, 0, []),
  (111, .iaload, 1, 0, 0, []),
  (112, .invokevirtual 415, 3, 242, 1, [12]),
  (115, .iastore, 1, 0, 0, []),
  (116, .aload_n 0, 1, 0, 0, []),
  (117, .getfield 49, 3, 12, 18, []),
  (120, .iload_n 1, 1, 0, 0, []),
  (121, .aload_n 0, 1, 0, 0, []),
  (122, .aload_n 0, 1, 0, 0, []),
  (123, .getfield 49, 3, 12, 18, []),
  (126, .iload_n 1, 1, 0, 0, []),
  (127, .iaload, 1, 0, 0, []),
  (128, .invokevirtual 415, 3, 242, 1, [12]),
  (131, .iastore, 1, 0, 0, []),
  (132, .iinc 1 1, 3, 0, 0, []),
  (135, .goto (-121), 3, 8, 0, []),
  (138, .aload_n 0, 1, 0, 0, []),
  (139, .aload_n 0, 1, 0, 0, []),
  (140, .aload_n 0, 1, 0, 0, []),
  (141, .getfield 402, 3, 12, 23, []),
  (144, .invokevirtual 415, 3, 242, 1, [12]),
  (147, .putfield 402, 3, 12, 23, [0]),
  (150, .iconst 0, 1, 0, 0, []),
  (151, .istore_n 1, 1, 0, 0, []),
  (152, .iload_n 1, 1, 0, 0, []),
  (153, .bipush 30, 2, 30, 0, []),
  (155, .if_icmp .ge 73, 3, 136, 0, []),
  (158, .aload_n 0, 1, 0, 0, []),
  (159, .getfield 55, 3, 12, 24, []),
  (162, .iload_n 1, 1, 0, 0, []),
  (163, .aload_n 0, 1, 0, 0, []),
  (164, .aload_n 0, 1, 0, 0, []),
  (165, .getfield 55, 3, 12, 24, []),
  (168, .iload_n 1, 1, 0, 0, []),
  (169, .iaload, 1, 0, 0, []),
  (170, .invokevirtual 415, 3, 242, 1, [12]),
  (173, .iastore, 1, 0, 0, []),
  (174, .aload_n 0, 1, 0, 0, []),
  (175, .getfield 58, 3, 12, 25, []),
  (178, .iload_n 1, 1, 0, 0, []),
  (179, .aload_n 0, 1, 0, 0, []),
  (180, .aload_n 0, 1, 0, 0, []),
  (181, .getfield 58, 3, 12, 25, []),
  (184, .iload_n 1, 1, 0, 0, []),
  (185, .iaload, 1, 0, 0, []),
  (186, .invokevirtual 415, 3, 242, 1, [12]),
  (189, .iastore, 1, 0, 0, []),
  (190, .aload_n 0, 1, 0, 0, []),
  (191, .getfield 61, 3, 12, 26, []),
  (194, .iload_n 1, 1, 0, 0, []),
  (195, .aload_n 0, 1, 0, 0, []),
  (196, .aload_n 0, 1, 0, 0, []),
  (197, .getfield 61, 3, 12, 26, []),
  (200, .iload_n 1, 1, 0, 0, []),
  (201, .iaload, 1, 0, 0, []),
  (202, .invokevirtual 415, 3, 242, 1, [12]),
  (205, .iastore, 1, 0, 0, []),
  (206, .aload_n 0, 1, 0, 0, []),
  (207, .getfield 64, 3, 12, 27, []),
  (210, .iload_n 1, 1, 0, 0, []),
  (211, .aload_n 0, 1, 0, 0, []),
  (212, .aload_n 0, 1, 0, 0, []),
  (213, .getfield 64, 3, 12, 27, []),
  (216, .iload_n 1, 1, 0, 0, []),
  (217, .iaload, 1, 0, 0, []),
  (218, .invokevirtual 415, 3, 242, 1, [12]),
  (221, .iastore, 1, 0, 0, []),
  (222, .iinc 1 1, 3, 0, 0, []),
  (225, .goto (-73), 3, 91, 0, []),
  (228, .return_, 1, 0, 0, [])]
/-- Model.keepsLaw -/
def pc_244 : List pm_I := [
  (0, .aload_n 0, 1, 0, 0, []),
  (1, .aload_n 0, 1, 0, 0, []),
  (2, .aload_n 0, 1, 0, 0, []),
  (3, .getfield 269, 3, 12, 36, []),
  (6, .invokevirtual 415, 3, 242, 1, [12]),
  (9, .putfield 269, 3, 12, 36, [0]),
  (12, .iconst 0, 1, 0, 0, []),
  (13, .istore_n 1, 1, 0, 0, []),
  (14, .iload_n 1, 1, 0, 0, []),
  (15, .bipush 16, 2, 16, 0, []),
  (17, .if_icmp .ge 57, 3, 43, 0, []),
  (20, .aload_n 0, 1, 0, 0, []),
  (21, .getfield 76, 3, 12, 37, []),
  (24, .iload_n 1, 1, 0, 0, []),
  (25, .aload_n 0, 1, 0, 0, []),
  (26, .aload_n 0, 1, 0, 0, []),
  (27, .getfield 76, 3, 12, 37, []),
  (30, .iload_n 1, 1, 0, 0, []),
  (31, .iaload, 1, 0, 0, []),
  (32, .invokevirtual 415, 3, 242, 1, [12]),
  (35, .iastore, 1, 0, 0, []),
  (36, .aload_n 0, 1, 0, 0, []),
  (37, .getfield 79, 3, 12, 38, []),
  (40, .iload_n 1, 1, 0, 0, []),
  (41, .aload_n 0, 1, 0, 0, []),
  (42, .aload_n 0, 1, 0, 0, []),
  (43, .getfield 79, 3, 12, 38, []),
  (46, .iload_n 1, 1, 0, 0, []),
  (47, .iaload, 1, 0, 0, []),
  (48, .invokevirtual 415, 3, 242, 1, [12]),
  (51, .iastore, 1, 0, 0, []),
  (52, .aload_n 0, 1, 0, 0, []),
  (53, .getfield 82, 3, 12, 39, []),
  (56, .iload_n 1, 1, 0, 0, []),
  (57, .aload_n 0, 1, 0, 0, []),
  (58, .aload_n 0, 1, 0, 0, []),
  (59, .getfield 82, 3, 12, 39, []),
  (62, .iload_n 1, 1, 0, 0, []),
  (63, .iaload, 1, 0, 0, []),
  (64, .invokevirtual 415, 3, 242, 1, [12]),
  (67, .iastore, 1, 0, 0, []),
  (68, .iinc 1 1, 3, 0, 0, []),
  (71, .goto (-57), 3, 8, 0, []),
  (74, .iconst 0, 1, 0, 0, []),
  (75, .istore_n 1, 1, 0, 0, []),
  (76, .iload_n 1, 1, 0, 0, []),
  (77, .sipush 400, 3, 400, 0, []),
  (80, .if_icmp .ge 41, 3, 70, 0, []),
  (83, .aload_n 0, 1, 0, 0, []),
  (84, .getfield 85, 3, 12, 40, []),
  (87, .iload_n 1, 1, 0, 0, []),
  (88, .aload_n 0, 1, 0, 0, []),
  (89, .aload_n 0, 1, 0, 0, []),
  (90, .getfield 85, 3, 12, 40, []),
  (93, .iload_n 1, 1, 0, 0, []),
  (94, .iaload, 1, 0, 0, []),
  (95, .invokevirtual 415, 3, 242, 1, [12]),
  (98, .iastore, 1, 0, 0, []),
  (99, .aload_n 0, 1, 0, 0, []),
  (100, .getfield 88, 3, 12, 41, []),
  (103, .iload_n 1, 1, 0, 0, []),
  (104, .aload_n 0, 1, 0, 0, []),
  (105, .aload_n 0, 1, 0, 0, []),
  (106, .getfield 88, 3, 12, 41, []),
  (109, .iload_n 1, 1, 0, 0, []),
  (110, .iaload, 1, 0, 0, []),
  (111, .invokevirtual 415, 3, 242, 1, [12]),
  (114, .iastore, 1, 0, 0, []),
  (115, .iinc 1 1, 3, 0, 0, []),
  (118, .goto (-42), 3, 45, 0, []),
  (121, .return_, 1, 0, 0, [])]
/-- Model.image -/
def pc_245 : List pm_I := [
  (0, .aload_n 0, 1, 0, 0, []),
  (1, .iconst 0, 1, 0, 0, []),
  (2, .putfield 136, 3, 12, 0, [0]),
  (5, .iload_n 1, 1, 0, 0, []),
  (6, .ifCond .ne 12, 3, 10, 0, []),
  (9, .aload_n 0, 1, 0, 0, []),
  (10, .getfield 418, 3, 12, 64, []),
  (13, .ifCond .ne 5, 3, 10, 0, []),
  (16, .iconst 0, 1, 0, 0, []),
  (17, .ireturn, 1, 0, 0, []),
  (18, .aload_n 0, 1, 0, 0, []),
  (19, .iload_n 1, 1, 0, 0, []),
  (20, .putfield 411, 3, 12, 63, [1]),
  (23, .aload_n 0, 1, 0, 0, []),
  (24, .iconst 1, 1, 1, 0, []),
  (25, .putfield 418, 3, 12, 64, [1]),
  (28, .aload_n 0, 1, 0, 0, []),
  (29, .iconst 0, 1, 0, 0, []),
  (30, .putfield 408, 3, 12, 65, [0]),
  (33, .aload_n 0, 1, 0, 0, []),
  (34, .aload_n 0, 1, 0, 0, []),
  (35, .aload_n 0, 1, 0, 0, []),
  (36, .getfield 139, 3, 12, 1, []),
  (39, .invokevirtual 415, 3, 242, 1, [12]),
  (42, .putfield 139, 3, 12, 1, [0]),
  (45, .aload_n 0, 1, 0, 0, []),
  (46, .aload_n 0, 1, 0, 0, []),
  (47, .aload_n 0, 1, 0, 0, []),
  (48, .getfield 144, 3, 12, 2, []),
  (51, .invokevirtual 415, 3, 242, 1, [12]),
  (54, .putfield 144, 3, 12, 2, [0]),
  (57, .iconst 0, 1, 0, 0, []),
  (58, .istore_n 2, 1, 0, 0, []),
  (59, .iload_n 2, 1, 0, 0, []),
  (60, .bipush 10, 2, 10, 0, []),
  (62, .if_icmp .ge 25, 3, 48, 0, []),
  (65, .aload_n 0, 1, 0, 0, []),
  (66, .getfield 7, 3, 12, 3, []),
  (69, .iload_n 2, 1, 0, 0, []),
  (70, .aload_n 0, 1, 0, 0, []),
  (71, .aload_n 0, 1, 0, 0, []),
  (72, .getfield 7, 3, 12, 3, []),
  (75, .iload_n 2, 1, 0, 0, []),
  (76, .iaload, 1, 0, 0, []),
  (77, .invokevirtual 415, 3, 242, 1, [12]),
  (80, .iastore, 1, 0, 0, []),
  (81, .iinc 2 1, 3, 0, 0, []),
  (84, .goto (-25), 3, 33, 0, []),
  (87, .iconst 0, 1, 0, 0, []),
  (88, .istore_n 2, 1, 0, 0, []),
  (89, .iload_n 2, 1, 0, 0, []),
  (90, .bipush 100, 2, 100, 0, []),
  (92, .if_icmp .ge 25, 3, 65, 0, []),
  (95, .aload_n 0, 1, 0, 0, []),
  (96, .getfield 13, 3, 12, 4, []),
  (99, .iload_n 2, 1, 0, 0, []),
  (100, .aload_n 0, 1, 0, 0, []),
  (101, .aload_n 0, 1, 0, 0, []),
  (102, .getfield 13, 3, 12, 4, []),
  (105, .iload_n 2, 1, 0, 0, []),
  (106, .iaload, 1, 0, 0, []),
  (107, .invokevirtual 415, 3, 242, 1, [12]),
  (110, .iastore, 1, 0, 0, []),
  (111, .iinc 2 1, 3, 0, 0, []),
  (114, .goto (-25), 3, 50, 0, []),
  (117, .iconst 0, 1, 0, 0, []),
  (118, .istore_n 2, 1, 0, 0, []),
  (119, .iload_n 2, 1, 0, 0, []),
  (120, .bipush 80, 2, 80, 0, []),
  (122, .if_icmp .ge 25, 3, 82, 0, []),
  (125, .aload_n 0, 1, 0, 0, []),
  (126, .getfield 67, 3, 12, 28, []),
  (129, .iload_n 2, 1, 0, 0, []),
  (130, .aload_n 0, 1, 0, 0, []),
  (131, .aload_n 0, 1, 0, 0, []),
  (132, .getfield 67, 3, 12, 28, []),
  (135, .iload_n 2, 1, 0, 0, []),
  (136, .iaload, 1, 0, 0, []),
  (137, .invokevirtual 415, 3, 242, 1, [12]),
  (140, .iastore, 1, 0, 0, []),
  (141, .iinc 2 1, 3, 0, 0, []),
  (144, .goto (-25), 3, 67, 0, []),
  (147, .aload_n 0, 1, 0, 0, []),
  (148, .aload_n 0, 1, 0, 0, []),
  (149, .aload_n 0, 1, 0, 0, []),
  (150, .getfield 147, 3, 12, 5, []),
  (153, .invokevirtual 415, 3, 242, 1, [12]),
  (156, .putfield 147, 3, 12, 5, [0]),
  (159, .iconst 0, 1, 0, 0, []),
  (160, .istore_n 2, 1, 0, 0, []),
  (161, .iload_n 2, 1, 0, 0, []),
  (162, .bipush 10, 2, 10, 0, []),
  (164, .if_icmp .ge 89, 3, 145, 0, []),
  (167, .aload_n 0, 1, 0, 0, []),
  (168, .getfield 16, 3, 12, 6, []),
  (171, .iload_n 2, 1, 0, 0, []),
  (172, .aload_n 0, 1, 0, 0, []),
  (173, .aload_n 0, 1, 0, 0, []),
  (174, .getfield 16, 3, 12, 6, []),
  (177, .iload_n 2, 1, 0, 0, []),
  (178, .iaload, 1, 0, 0, []),
  (179, .invokevirtual 415, 3, 242, 1, [12]),
  (182, .iastore, 1, 0, 0, []),
  (183, .aload_n 0, 1, 0, 0, []),
  (184, .getfield 19, 3, 12, 7, []),
  (187, .iload_n 2, 1, 0, 0, []),
  (188, .aload_n 0, 1, 0, 0, []),
  (189, .aload_n 0, 1, 0, 0, []),
  (190, .getfield 19, 3, 12, 7, []),
  (193, .iload_n 2, 1, 0, 0, []),
  (194, .iaload, 1, 0, 0, []),
  (195, .invokevirtual 415, 3, 242, 1, [12]),
  (198, .iastore, 1, 0, 0, []),
  (199, .aload_n 0, 1, 0, 0, []),
  (200, .getfield 22, 3, 12, 8, []),
  (203, .iload_n 2, 1, 0, 0, []),
  (204, .aload_n 0, 1, 0, 0, []),
  (205, .aload_n 0, 1, 0, 0, []),
  (206, .getfield 22, 3, 12, 8, []),
  (209, .iload_n 2, 1, 0, 0, []),
  (210, .iaload, 1, 0, 0, []),
  (211, .invokevirtual 415, 3, 242, 1, [12]),
  (214, .iastore, 1, 0, 0, []),
  (215, .aload_n 0, 1, 0, 0, []),
  (216, .getfield 25, 3, 12, 9, []),
  (219, .iload_n 2, 1, 0, 0, []),
  (220, .aload_n 0, 1, 0, 0, []),
  (221, .aload_n 0, 1, 0, 0, []),
  (222, .getfield 25, 3, 12, 9, []),
  (225, .iload_n 2, 1, 0, 0, []),
  (226, .iaload, 1, 0, 0, []),
  (227, .invokevirtual 415, 3, 242, 1, [12]),
  (230, .iastore, 1, 0, 0, []),
  (231, .aload_n 0, 1, 0, 0, []),
  (232, .getfield 28, 3, 12, 10, []),
  (235, .iload_n 2, 1, 0, 0, []),
  (236, .aload_n 0, 1, 0, 0, []),
  (237, .aload_n 0, 1, 0, 0, []),
  (238, .getfield 28, 3, 12, 10, []),
  (241, .iload_n 2, 1, 0, 0, []),
  (242, .iaload, 1, 0, 0, []),
  (243, .invokevirtual 415, 3, 242, 1, [12]),
  (246, .iastore, 1, 0, 0, []),
  (247, .iinc 2 1, 3, 0, 0, []),
  (250, .goto (-89), 3, 90, 0, []),
  (253, .aload_n 0, 1, 0, 0, []),
  (254, .aload_n 0, 1, 0, 0, []),
  (255, .aload_n 0, 1, 0, 0, []),
  (256, .getfield 165, 3, 12, 19, []),
  (259, .invokevirtual 415, 3, 242, 1, [12]),
  (262, .putfield 165, 3, 12, 19, [0]),
  (265, .aload_n 0, 1, 0, 0, []),
  (266, .aload_n 0, 1, 0, 0, []),
  (267, .aload_n 0, 1, 0, 0, []),
  (268, .getfield 283, 3, 12, 20, []),
  (271, .invokevirtual 415, 3, 242, 1, [12]),
  (274, .putfield 283, 3, 12, 20, [0]),
  (277, .aload_n 0, 1, 0, 0, []),
  (278, .aload_n 0, 1, 0, 0, []),
  (279, .aload_n 0, 1, 0, 0, []),
  (280, .getfield 317, 3, 12, 21, []),
  (283, .invokevirtual 415, 3, 242, 1, [12]),
  (286, .putfield 317, 3, 12, 21, [0]),
  (289, .iconst 0, 1, 0, 0, []),
  (290, .istore_n 2, 1, 0, 0, []),
  (291, .iload_n 2, 1, 0, 0, []),
  (292, .iconst 4, 1, 4, 0, []),
  (293, .if_icmp .ge 25, 3, 180, 0, []),
  (296, .aload_n 0, 1, 0, 0, []),
  (297, .getfield 52, 3, 12, 22, []),
  (300, .iload_n 2, 1, 0, 0, []),
  (301, .aload_n 0, 1, 0, 0, []),
  (302, .aload_n 0, 1, 0, 0, []),
  (303, .getfield 52, 3, 12, 22, []),
  (306, .iload_n 2, 1, 0, 0, []),
  (307, .iaload, 1, 0, 0, []),
  (308, .invokevirtual 415, 3, 242, 1, [12]),
  (311, .iastore, 1, 0, 0, []),
  (312, .iinc 2 1, 3, 0, 0, []),
  (315, .goto (-24), 3, 165, 0, []),
  (318, .aload_n 0, 1, 0, 0, []),
  (319, .invokevirtual 421, 3, 243, 0, [12]),
  (322, .aload_n 0, 1, 0, 0, []),
  (323, .invokevirtual 424, 3, 244, 0, [12]),
  (326, .iconst 1, 1, 1, 0, []),
  (327, .ireturn, 1, 0, 0, [])]
/-- Model.look -/
def pc_246 : List pm_I := [
  (0, .aload_n 0, 1, 0, 0, []),
  (1, .iconst 0, 1, 0, 0, []),
  (2, .putfield 136, 3, 12, 0, [0]),
  (5, .iload_n 1, 1, 0, 0, []),
  (6, .ifCond .ne 8, 3, 8, 0, []),
  (9, .aload_n 0, 1, 0, 0, []),
  (10, .getfield 144, 3, 12, 2, []),
  (13, .ireturn, 1, 0, 0, []),
  (14, .iload_n 1, 1, 0, 0, []),
  (15, .iconst 1, 1, 1, 0, []),
  (16, .if_icmp .ne 8, 3, 14, 0, []),
  (19, .aload_n 0, 1, 0, 0, []),
  (20, .getfield 147, 3, 12, 5, []),
  (23, .ireturn, 1, 0, 0, []),
  (24, .iload_n 1, 1, 0, 0, []),
  (25, .iconst 2, 1, 2, 0, []),
  (26, .if_icmp .ne 8, 3, 20, 0, []),
  (29, .aload_n 0, 1, 0, 0, []),
  (30, .getfield 162, 3, 12, 11, []),
  (33, .ireturn, 1, 0, 0, []),
  (34, .iload_n 1, 1, 0, 0, []),
  (35, .iconst 3, 1, 3, 0, []),
  (36, .if_icmp .ne 13, 3, 29, 0, []),
  (39, .aload_n 0, 1, 0, 0, []),
  (40, .iconst (-1), 1, 1, 1, []),
  (41, .invokevirtual 341, 3, 219, 1, [12]),
  (44, .aload_n 0, 1, 0, 0, []),
  (45, .getfield 337, 3, 12, 55, []),
  (48, .ireturn, 1, 0, 0, []),
  (49, .iload_n 1, 1, 0, 0, []),
  (50, .iconst 4, 1, 4, 0, []),
  (51, .if_icmp .ne 8, 3, 35, 0, []),
  (54, .aload_n 0, 1, 0, 0, []),
  (55, .getfield 165, 3, 12, 19, []),
  (58, .ireturn, 1, 0, 0, []),
  (59, .iload_n 1, 1, 0, 0, []),
  (60, .iconst 5, 1, 5, 0, []),
  (61, .if_icmp .ne 8, 3, 41, 0, []),
  (64, .aload_n 0, 1, 0, 0, []),
  (65, .getfield 283, 3, 12, 20, []),
  (68, .ireturn, 1, 0, 0, []),
  (69, .iload_n 1, 1, 0, 0, []),
  (70, .bipush 6, 2, 6, 0, []),
  (72, .if_icmp .ne 8, 3, 47, 0, []),
  (75, .aload_n 0, 1, 0, 0, []),
  (76, .getfield 139, 3, 12, 1, []),
  (79, .ireturn, 1, 0, 0, []),
  (80, .iload_n 1, 1, 0, 0, []),
  (81, .bipush 7, 2, 7, 0, []),
  (83, .if_icmp .ne 8, 3, 53, 0, []),
  (86, .aload_n 0, 1, 0, 0, []),
  (87, .getfield 402, 3, 12, 23, []),
  (90, .ireturn, 1, 0, 0, []),
  (91, .iload_n 1, 1, 0, 0, []),
  (92, .bipush 8, 2, 8, 0, []),
  (94, .if_icmp .ne 8, 3, 59, 0, []),
  (97, .aload_n 0, 1, 0, 0, []),
  (98, .getfield 269, 3, 12, 36, []),
  (101, .ireturn, 1, 0, 0, []),
  (102, .iload_n 1, 1, 0, 0, []),
  (103, .bipush 9, 2, 9, 0, []),
  (105, .if_icmp .ne 10, 3, 65, 0, []),
  (108, .aload_n 0, 1, 0, 0, []),
  (109, .getfield 317, 3, 12, 21, []),
  (112, .goto 28, 3, 79, 0, []),
  (115, .aload_n 0, 1, 0, 0, []),
  (116, .iload_n 1, 1, 0, 0, []),
  (117, .bipush 20, 2, 20, 0, []),
  (119, .bipush 23, 2, 23, 0, []),
  (121, .invokevirtual 150, 3, 159, 3, [12]),
  (124, .ifCond .eq 15, 3, 78, 0, []),
  (127, .aload_n 0, 1, 0, 0, []),
  (128, .getfield 52, 3, 12, 22, []),
  (131, .iload_n 1, 1, 0, 0, []),
  (132, .bipush 20, 2, 20, 0, []),
  (134, .isub, 1, 0, 0, []),
  (135, .iaload, 1, 0, 0, []),
  (136, .goto 4, 3, 79, 0, []),
  (139, .iconst (-1), 1, 1, 1, []),
  (140, .ireturn, 1, 0, 0, [])]
/-- Arrays.fill -/
def pc_247 : List pm_I := [
  (0, .iconst 0, 1, 0, 0, []),
  (1, .istore_n 2, 1, 0, 0, []),
  (2, .aload_n 0, 1, 0, 0, []),
  (3, .arraylength, 1, 0, 0, []),
  (4, .istore_n 3, 1, 0, 0, []),
  (5, .iload_n 2, 1, 0, 0, []),
  (6, .iload_n 3, 1, 0, 0, []),
  (7, .if_icmp .ge 13, 3, 14, 0, []),
  (10, .aload_n 0, 1, 0, 0, []),
  (11, .iload_n 2, 1, 0, 0, []),
  (12, .iload_n 1, 1, 0, 0, []),
  (13, .iastore, 1, 0, 0, []),
  (14, .iinc 2 1, 3, 0, 0, []),
  (17, .goto (-12), 3, 5, 0, []),
  (20, .return_, 1, 0, 0, [])]
/-- String.length -/
def pc_248 : List pm_I := [
  (0, .aload_n 0, 1, 0, 0, []),
  (1, .getfield 9, 3, 50, 0, []),
  (4, .arraylength, 1, 0, 0, []),
  (5, .aload_n 0, 1, 0, 0, []),
  (6, .invokevirtual 335, 3, 249, 0, [15]),
  (9, .ishr, 1, 0, 0, []),
  (10, .ireturn, 1, 0, 0, [])]
/-- String.coder -/
def pc_249 : List pm_I := [
  (0, .getstatic 38, 3, 0, 0, []),
  (3, .ifCond .eq 10, 3, 5, 0, []),
  (6, .aload_n 0, 1, 0, 0, []),
  (7, .getfield 15, 3, 50, 1, []),
  (10, .goto 4, 3, 6, 0, []),
  (13, .iconst 1, 1, 1, 0, []),
  (14, .ireturn, 1, 0, 0, [])]
/-- String.charAt -/
def pc_250 : List pm_I := [
  (0, .aload_n 0, 1, 0, 0, []),
  (1, .invokevirtual 492, 3, 251, 0, [15]),
  (4, .ifCond .eq 12, 3, 8, 0, []),
  (7, .aload_n 0, 1, 0, 0, []),
  (8, .getfield 9, 3, 50, 0, []),
  (11, .iload_n 1, 1, 0, 0, []),
  (12, .invokestatic 495, 3, 252, 2, []),
  (15, .ireturn, 1, 0, 0, []),
  (16, .aload_n 0, 1, 0, 0, []),
  (17, .getfield 9, 3, 50, 0, []),
  (20, .iload_n 1, 1, 0, 0, []),
  (21, .invokestatic 498, 3, 9999, 2, []),
  (24, .ireturn, 1, 0, 0, [])]
/-- String.isLatin1 -/
def pc_251 : List pm_I := [
  (0, .getstatic 38, 3, 0, 0, []),
  (3, .ifCond .eq 14, 3, 7, 0, []),
  (6, .aload_n 0, 1, 0, 0, []),
  (7, .getfield 15, 3, 50, 1, []),
  (10, .ifCond .ne 7, 3, 7, 0, []),
  (13, .iconst 1, 1, 1, 0, []),
  (14, .goto 4, 3, 8, 0, []),
  (17, .iconst 0, 1, 0, 0, []),
  (18, .ireturn, 1, 0, 0, [])]
/-- StringLatin1.charAt -/
def pc_252 : List pm_I := [
  (0, .iload_n 1, 1, 0, 0, []),
  (1, .aload_n 0, 1, 0, 0, []),
  (2, .arraylength, 1, 0, 0, []),
  (3, .invokestatic 9, 3, 253, 2, []),
  (6, .aload_n 0, 1, 0, 0, []),
  (7, .iload_n 1, 1, 0, 0, []),
  (8, .baload, 1, 0, 0, []),
  (9, .sipush 255, 3, 255, 0, []),
  (12, .iand, 1, 0, 0, []),
  (13, .i2c, 1, 0, 0, []),
  (14, .ireturn, 1, 0, 0, [])]
/-- String.checkIndex -/
def pc_253 : List pm_I := [
  (0, .iload_n 0, 1, 0, 0, []),
  (1, .iload_n 1, 1, 0, 0, []),
  (2, .getstatic 1053, 3, 1, 0, []),
  (5, .invokestatic 1059, 3, 254, 3, []),
  (8, .pop, 1, 0, 0, []),
  (9, .return_, 1, 0, 0, [])]
/-- Preconditions.checkIndex -/
def pc_254 : List pm_I := [
  (0, .iload_n 0, 1, 0, 0, []),
  (1, .ifCond .lt 8, 3, 5, 0, []),
  (4, .iload_n 0, 1, 0, 0, []),
  (5, .iload_n 1, 1, 0, 0, []),
  (6, .if_icmp .lt 10, 3, 10, 0, []),
  (9, .aload_n 2, 1, 0, 0, []),
  (10, .iload_n 0, 1, 0, 0, []),
  (11, .iload_n 1, 1, 0, 0, []),
  (12, .invokestatic 95, 3, 9999, 0, []),
  (15, .athrow, 1, 0, 0, []),
  (16, .iload_n 0, 1, 0, 0, []),
  (17, .ireturn, 1, 0, 0, [])]
/-- Integer.bitCount -/
def pc_255 : List pm_I := [
  (0, .iload_n 0, 1, 0, 0, []),
  (1, .iload_n 0, 1, 0, 0, []),
  (2, .iconst 1, 1, 1, 0, []),
  (3, .iushr, 1, 0, 0, []),
  (4, .ldc_w 265, 3, 1431655765, 0, []),
  (7, .iand, 1, 0, 0, []),
  (8, .isub, 1, 0, 0, []),
  (9, .istore_n 0, 1, 0, 0, []),
  (10, .iload_n 0, 1, 0, 0, []),
  (11, .ldc_w 266, 3, 858993459, 0, []),
  (14, .iand, 1, 0, 0, []),
  (15, .iload_n 0, 1, 0, 0, []),
  (16, .iconst 2, 1, 2, 0, []),
  (17, .iushr, 1, 0, 0, []),
  (18, .ldc_w 266, 3, 858993459, 0, []),
  (21, .iand, 1, 0, 0, []),
  (22, .iadd, 1, 0, 0, []),
  (23, .istore_n 0, 1, 0, 0, []),
  (24, .iload_n 0, 1, 0, 0, []),
  (25, .iload_n 0, 1, 0, 0, []),
  (26, .iconst 4, 1, 4, 0, []),
  (27, .iushr, 1, 0, 0, []),
  (28, .iadd, 1, 0, 0, []),
  (29, .ldc_w 267, 3, 252645135, 0, []),
  (32, .iand, 1, 0, 0, []),
  (33, .istore_n 0, 1, 0, 0, []),
  (34, .iload_n 0, 1, 0, 0, []),
  (35, .iload_n 0, 1, 0, 0, []),
  (36, .bipush 8, 2, 8, 0, []),
  (38, .iushr, 1, 0, 0, []),
  (39, .iadd, 1, 0, 0, []),
  (40, .istore_n 0, 1, 0, 0, []),
  (41, .iload_n 0, 1, 0, 0, []),
  (42, .iload_n 0, 1, 0, 0, []),
  (43, .bipush 16, 2, 16, 0, []),
  (45, .iushr, 1, 0, 0, []),
  (46, .iadd, 1, 0, 0, []),
  (47, .istore_n 0, 1, 0, 0, []),
  (48, .iload_n 0, 1, 0, 0, []),
  (49, .bipush 63, 2, 63, 0, []),
  (51, .iand, 1, 0, 0, []),
  (52, .ireturn, 1, 0, 0, [])]
def pc_law : List pm_I := [
  (0, .new 7, 3, 11, 8, []),
  (3, .dup, 1, 0, 0, []),
  (4, .invokespecial 9, 3, 127, 0, []),
  (7, .astore_n 1, 1, 0, 0, []),
  (8, .new 10, 3, 12, 67, []),
  (11, .dup, 1, 0, 0, []),
  (12, .invokespecial 12, 3, 158, 0, []),
  (15, .astore_n 2, 1, 0, 0, []),
  (16, .iconst 0, 1, 0, 0, []),
  (17, .istore_n 3, 1, 0, 0, []),
  (18, .iload_n 3, 1, 0, 0, []),
  (19, .aload_n 0, 1, 0, 0, []),
  (20, .arraylength, 1, 0, 0, []),
  (21, .bipush 6, 2, 6, 0, []),
  (23, .isub, 1, 0, 0, []),
  (24, .if_icmp .gt 972, 3, 708, 0, []),
  (27, .aload_n 0, 1, 0, 0, []),
  (28, .iload_n 3, 1, 0, 0, []),
  (29, .iaload, 1, 0, 0, []),
  (30, .bipush 31, 2, 31, 0, []),
  (32, .iand, 1, 0, 0, []),
  (33, .tableswitch 957 0 24 #[115, 138, 161, 204, 247, 300, 333, 366, 429, 452, 465, 488, 501, 524, 557, 590, 613, 646, 679, 732, 775, 819, 872, 895, 934], 115, 706, 0, [22, 39, 56, 93, 130, 177, 204, 231, 288, 305, 312, 329, 336, 353, 380, 407, 424, 451, 478, 525, 562, 600, 647, 664, 689]),
  (148, .aload_n 1, 1, 0, 0, []),
  (149, .aload_n 0, 1, 0, 0, []),
  (150, .iload_n 3, 1, 0, 0, []),
  (151, .iconst 1, 1, 1, 0, []),
  (152, .iadd, 1, 0, 0, []),
  (153, .iaload, 1, 0, 0, []),
  (154, .invokevirtual 13, 3, 128, 1, [11]),
  (157, .aload_n 2, 1, 0, 0, []),
  (158, .aload_n 0, 1, 0, 0, []),
  (159, .iload_n 3, 1, 0, 0, []),
  (160, .iconst 1, 1, 1, 0, []),
  (161, .iadd, 1, 0, 0, []),
  (162, .iaload, 1, 0, 0, []),
  (163, .invokevirtual 17, 3, 161, 1, [12]),
  (166, .if_icmp .eq 824, 3, 706, 0, []),
  (169, .iconst 0, 1, 0, 0, []),
  (170, .ireturn, 1, 0, 0, []),
  (171, .aload_n 1, 1, 0, 0, []),
  (172, .aload_n 0, 1, 0, 0, []),
  (173, .iload_n 3, 1, 0, 0, []),
  (174, .iconst 1, 1, 1, 0, []),
  (175, .iadd, 1, 0, 0, []),
  (176, .iaload, 1, 0, 0, []),
  (177, .invokevirtual 18, 3, 129, 1, [11]),
  (180, .aload_n 2, 1, 0, 0, []),
  (181, .aload_n 0, 1, 0, 0, []),
  (182, .iload_n 3, 1, 0, 0, []),
  (183, .iconst 1, 1, 1, 0, []),
  (184, .iadd, 1, 0, 0, []),
  (185, .iaload, 1, 0, 0, []),
  (186, .invokevirtual 21, 3, 166, 1, [12]),
  (189, .if_icmp .eq 801, 3, 706, 0, []),
  (192, .iconst 0, 1, 0, 0, []),
  (193, .ireturn, 1, 0, 0, []),
  (194, .aload_n 1, 1, 0, 0, []),
  (195, .aload_n 0, 1, 0, 0, []),
  (196, .iload_n 3, 1, 0, 0, []),
  (197, .iconst 1, 1, 1, 0, []),
  (198, .iadd, 1, 0, 0, []),
  (199, .iaload, 1, 0, 0, []),
  (200, .aload_n 0, 1, 0, 0, []),
  (201, .iload_n 3, 1, 0, 0, []),
  (202, .iconst 2, 1, 2, 0, []),
  (203, .iadd, 1, 0, 0, []),
  (204, .iaload, 1, 0, 0, []),
  (205, .aload_n 0, 1, 0, 0, []),
  (206, .iload_n 3, 1, 0, 0, []),
  (207, .iconst 3, 1, 3, 0, []),
  (208, .iadd, 1, 0, 0, []),
  (209, .iaload, 1, 0, 0, []),
  (210, .invokevirtual 22, 3, 130, 3, [11]),
  (213, .aload_n 2, 1, 0, 0, []),
  (214, .aload_n 0, 1, 0, 0, []),
  (215, .iload_n 3, 1, 0, 0, []),
  (216, .iconst 1, 1, 1, 0, []),
  (217, .iadd, 1, 0, 0, []),
  (218, .iaload, 1, 0, 0, []),
  (219, .aload_n 0, 1, 0, 0, []),
  (220, .iload_n 3, 1, 0, 0, []),
  (221, .iconst 2, 1, 2, 0, []),
  (222, .iadd, 1, 0, 0, []),
  (223, .iaload, 1, 0, 0, []),
  (224, .aload_n 0, 1, 0, 0, []),
  (225, .iload_n 3, 1, 0, 0, []),
  (226, .iconst 3, 1, 3, 0, []),
  (227, .iadd, 1, 0, 0, []),
  (228, .iaload, 1, 0, 0, []),
  (229, .invokevirtual 26, 3, 167, 3, [12]),
  (232, .if_icmp .eq 758, 3, 706, 0, []),
  (235, .iconst 0, 1, 0, 0, []),
  (236, .ireturn, 1, 0, 0, []),
  (237, .aload_n 1, 1, 0, 0, []),
  (238, .aload_n 0, 1, 0, 0, []),
  (239, .iload_n 3, 1, 0, 0, []),
  (240, .iconst 1, 1, 1, 0, []),
  (241, .iadd, 1, 0, 0, []),
  (242, .iaload, 1, 0, 0, []),
  (243, .aload_n 0, 1, 0, 0, []),
  (244, .iload_n 3, 1, 0, 0, []),
  (245, .iconst 2, 1, 2, 0, []),
  (246, .iadd, 1, 0, 0, []),
  (247, .iaload, 1, 0, 0, []),
  (248, .aload_n 0, 1, 0, 0, []),
  (249, .iload_n 3, 1, 0, 0, []),
  (250, .iconst 3, 1, 3, 0, []),
  (251, .iadd, 1, 0, 0, []),
  (252, .iaload, 1, 0, 0, []),
  (253, .invokevirtual 27, 3, 131, 3, [11]),
  (256, .aload_n 2, 1, 0, 0, []),
  (257, .aload_n 0, 1, 0, 0, []),
  (258, .iload_n 3, 1, 0, 0, []),
  (259, .iconst 1, 1, 1, 0, []),
  (260, .iadd, 1, 0, 0, []),
  (261, .iaload, 1, 0, 0, []),
  (262, .aload_n 0, 1, 0, 0, []),
  (263, .iload_n 3, 1, 0, 0, []),
  (264, .iconst 2, 1, 2, 0, []),
  (265, .iadd, 1, 0, 0, []),
  (266, .iaload, 1, 0, 0, []),
  (267, .aload_n 0, 1, 0, 0, []),
  (268, .iload_n 3, 1, 0, 0, []),
  (269, .iconst 3, 1, 3, 0, []),
  (270, .iadd, 1, 0, 0, []),
  (271, .iaload, 1, 0, 0, []),
  (272, .invokevirtual 31, 3, 168, 3, [12]),
  (275, .if_icmp .eq 715, 3, 706, 0, []),
  (278, .iconst 0, 1, 0, 0, []),
  (279, .ireturn, 1, 0, 0, []),
  (280, .aload_n 1, 1, 0, 0, []),
  (281, .aload_n 0, 1, 0, 0, []),
  (282, .iload_n 3, 1, 0, 0, []),
  (283, .iconst 1, 1, 1, 0, []),
  (284, .iadd, 1, 0, 0, []),
  (285, .iaload, 1, 0, 0, []),
  (286, .aload_n 0, 1, 0, 0, []),
  (287, .iload_n 3, 1, 0, 0, []),
  (288, .iconst 2, 1, 2, 0, []),
  (289, .iadd, 1, 0, 0, []),
  (290, .iaload, 1, 0, 0, []),
  (291, .aload_n 0, 1, 0, 0, []),
  (292, .iload_n 3, 1, 0, 0, []),
  (293, .iconst 3, 1, 3, 0, []),
  (294, .iadd, 1, 0, 0, []),
  (295, .iaload, 1, 0, 0, []),
  (296, .aload_n 0, 1, 0, 0, []),
  (297, .iload_n 3, 1, 0, 0, []),
  (298, .iconst 4, 1, 4, 0, []),
  (299, .iadd, 1, 0, 0, []),
  (300, .iaload, 1, 0, 0, []),
  (301, .invokevirtual 32, 3, 132, 4, [11]),
  (304, .aload_n 2, 1, 0, 0, []),
  (305, .aload_n 0, 1, 0, 0, []),
  (306, .iload_n 3, 1, 0, 0, []),
  (307, .iconst 1, 1, 1, 0, []),
  (308, .iadd, 1, 0, 0, []),
  (309, .iaload, 1, 0, 0, []),
  (310, .aload_n 0, 1, 0, 0, []),
  (311, .iload_n 3, 1, 0, 0, []),
  (312, .iconst 2, 1, 2, 0, []),
  (313, .iadd, 1, 0, 0, []),
  (314, .iaload, 1, 0, 0, []),
  (315, .aload_n 0, 1, 0, 0, []),
  (316, .iload_n 3, 1, 0, 0, []),
  (317, .iconst 3, 1, 3, 0, []),
  (318, .iadd, 1, 0, 0, []),
  (319, .iaload, 1, 0, 0, []),
  (320, .aload_n 0, 1, 0, 0, []),
  (321, .iload_n 3, 1, 0, 0, []),
  (322, .iconst 4, 1, 4, 0, []),
  (323, .iadd, 1, 0, 0, []),
  (324, .iaload, 1, 0, 0, []),
  (325, .invokevirtual 36, 3, 169, 4, [12]),
  (328, .if_icmp .eq 662, 3, 706, 0, []),
  (331, .iconst 0, 1, 0, 0, []),
  (332, .ireturn, 1, 0, 0, []),
  (333, .aload_n 1, 1, 0, 0, []),
  (334, .aload_n 0, 1, 0, 0, []),
  (335, .iload_n 3, 1, 0, 0, []),
  (336, .iconst 1, 1, 1, 0, []),
  (337, .iadd, 1, 0, 0, []),
  (338, .iaload, 1, 0, 0, []),
  (339, .aload_n 0, 1, 0, 0, []),
  (340, .iload_n 3, 1, 0, 0, []),
  (341, .iconst 2, 1, 2, 0, []),
  (342, .iadd, 1, 0, 0, []),
  (343, .iaload, 1, 0, 0, []),
  (344, .invokevirtual 37, 3, 133, 2, [11]),
  (347, .aload_n 2, 1, 0, 0, []),
  (348, .aload_n 0, 1, 0, 0, []),
  (349, .iload_n 3, 1, 0, 0, []),
  (350, .iconst 1, 1, 1, 0, []),
  (351, .iadd, 1, 0, 0, []),
  (352, .iaload, 1, 0, 0, []),
  (353, .aload_n 0, 1, 0, 0, []),
  (354, .iload_n 3, 1, 0, 0, []),
  (355, .iconst 2, 1, 2, 0, []),
  (356, .iadd, 1, 0, 0, []),
  (357, .iaload, 1, 0, 0, []),
  (358, .invokevirtual 41, 3, 172, 2, [12]),
  (361, .if_icmp .eq 629, 3, 706, 0, []),
  (364, .iconst 0, 1, 0, 0, []),
  (365, .ireturn, 1, 0, 0, []),
  (366, .aload_n 1, 1, 0, 0, []),
  (367, .aload_n 0, 1, 0, 0, []),
  (368, .iload_n 3, 1, 0, 0, []),
  (369, .iconst 1, 1, 1, 0, []),
  (370, .iadd, 1, 0, 0, []),
  (371, .iaload, 1, 0, 0, []),
  (372, .aload_n 0, 1, 0, 0, []),
  (373, .iload_n 3, 1, 0, 0, []),
  (374, .iconst 2, 1, 2, 0, []),
  (375, .iadd, 1, 0, 0, []),
  (376, .iaload, 1, 0, 0, []),
  (377, .invokevirtual 42, 3, 134, 2, [11]),
  (380, .aload_n 2, 1, 0, 0, []),
  (381, .aload_n 0, 1, 0, 0, []),
  (382, .iload_n 3, 1, 0, 0, []),
  (383, .iconst 1, 1, 1, 0, []),
  (384, .iadd, 1, 0, 0, []),
  (385, .iaload, 1, 0, 0, []),
  (386, .aload_n 0, 1, 0, 0, []),
  (387, .iload_n 3, 1, 0, 0, []),
  (388, .iconst 2, 1, 2, 0, []),
  (389, .iadd, 1, 0, 0, []),
  (390, .iaload, 1, 0, 0, []),
  (391, .invokevirtual 45, 3, 173, 2, [12]),
  (394, .if_icmp .eq 596, 3, 706, 0, []),
  (397, .iconst 0, 1, 0, 0, []),
  (398, .ireturn, 1, 0, 0, []),
  (399, .aload_n 1, 1, 0, 0, []),
  (400, .aload_n 0, 1, 0, 0, []),
  (401, .iload_n 3, 1, 0, 0, []),
  (402, .iconst 1, 1, 1, 0, []),
  (403, .iadd, 1, 0, 0, []),
  (404, .iaload, 1, 0, 0, []),
  (405, .aload_n 0, 1, 0, 0, []),
  (406, .iload_n 3, 1, 0, 0, []),
  (407, .iconst 2, 1, 2, 0, []),
  (408, .iadd, 1, 0, 0, []),
  (409, .iaload, 1, 0, 0, []),
  (410, .aload_n 0, 1, 0, 0, []),
  (411, .iload_n 3, 1, 0, 0, []),
  (412, .iconst 3, 1, 3, 0, []),
  (413, .iadd, 1, 0, 0, []),
  (414, .iaload, 1, 0, 0, []),
  (415, .aload_n 0, 1, 0, 0, []),
  (416, .iload_n 3, 1, 0, 0, []),
  (417, .iconst 4, 1, 4, 0, []),
  (418, .iadd, 1, 0, 0, []),
  (419, .iaload, 1, 0, 0, []),
  (420, .aload_n 0, 1, 0, 0, []),
  (421, .iload_n 3, 1, 0, 0, []),
  (422, .iconst 5, 1, 5, 0, []),
  (423, .iadd, 1, 0, 0, []),
  (424, .iaload, 1, 0, 0, []),
  (425, .invokevirtual 46, 3, 135, 5, [11]),
  (428, .aload_n 2, 1, 0, 0, []),
  (429, .aload_n 0, 1, 0, 0, []),
  (430, .iload_n 3, 1, 0, 0, []),
  (431, .iconst 1, 1, 1, 0, []),
  (432, .iadd, 1, 0, 0, []),
  (433, .iaload, 1, 0, 0, []),
  (434, .aload_n 0, 1, 0, 0, []),
  (435, .iload_n 3, 1, 0, 0, []),
  (436, .iconst 2, 1, 2, 0, []),
  (437, .iadd, 1, 0, 0, []),
  (438, .iaload, 1, 0, 0, []),
  (439, .aload_n 0, 1, 0, 0, []),
  (440, .iload_n 3, 1, 0, 0, []),
  (441, .iconst 3, 1, 3, 0, []),
  (442, .iadd, 1, 0, 0, []),
  (443, .iaload, 1, 0, 0, []),
  (444, .aload_n 0, 1, 0, 0, []),
  (445, .iload_n 3, 1, 0, 0, []),
  (446, .iconst 4, 1, 4, 0, []),
  (447, .iadd, 1, 0, 0, []),
  (448, .iaload, 1, 0, 0, []),
  (449, .aload_n 0, 1, 0, 0, []),
  (450, .iload_n 3, 1, 0, 0, []),
  (451, .iconst 5, 1, 5, 0, []),
  (452, .iadd, 1, 0, 0, []),
  (453, .iaload, 1, 0, 0, []),
  (454, .invokevirtual 50, 3, 175, 5, [12]),
  (457, .if_icmp .eq 533, 3, 706, 0, []),
  (460, .iconst 0, 1, 0, 0, []),
  (461, .ireturn, 1, 0, 0, []),
  (462, .aload_n 1, 1, 0, 0, []),
  (463, .aload_n 0, 1, 0, 0, []),
  (464, .iload_n 3, 1, 0, 0, []),
  (465, .iconst 1, 1, 1, 0, []),
  (466, .iadd, 1, 0, 0, []),
  (467, .iaload, 1, 0, 0, []),
  (468, .invokevirtual 51, 3, 136, 1, [11]),
  (471, .aload_n 2, 1, 0, 0, []),
  (472, .aload_n 0, 1, 0, 0, []),
  (473, .iload_n 3, 1, 0, 0, []),
  (474, .iconst 1, 1, 1, 0, []),
  (475, .iadd, 1, 0, 0, []),
  (476, .iaload, 1, 0, 0, []),
  (477, .invokevirtual 55, 3, 176, 1, [12]),
  (480, .if_icmp .eq 510, 3, 706, 0, []),
  (483, .iconst 0, 1, 0, 0, []),
  (484, .ireturn, 1, 0, 0, []),
  (485, .aload_n 1, 1, 0, 0, []),
  (486, .invokevirtual 56, 3, 137, 0, [11]),
  (489, .aload_n 2, 1, 0, 0, []),
  (490, .invokevirtual 60, 3, 195, 0, [12]),
  (493, .if_icmp .eq 497, 3, 706, 0, []),
  (496, .iconst 0, 1, 0, 0, []),
  (497, .ireturn, 1, 0, 0, []),
  (498, .aload_n 1, 1, 0, 0, []),
  (499, .aload_n 0, 1, 0, 0, []),
  (500, .iload_n 3, 1, 0, 0, []),
  (501, .iconst 1, 1, 1, 0, []),
  (502, .iadd, 1, 0, 0, []),
  (503, .iaload, 1, 0, 0, []),
  (504, .invokevirtual 61, 3, 138, 1, [11]),
  (507, .aload_n 2, 1, 0, 0, []),
  (508, .aload_n 0, 1, 0, 0, []),
  (509, .iload_n 3, 1, 0, 0, []),
  (510, .iconst 1, 1, 1, 0, []),
  (511, .iadd, 1, 0, 0, []),
  (512, .iaload, 1, 0, 0, []),
  (513, .invokevirtual 64, 3, 196, 1, [12]),
  (516, .if_icmp .eq 474, 3, 706, 0, []),
  (519, .iconst 0, 1, 0, 0, []),
  (520, .ireturn, 1, 0, 0, []),
  (521, .aload_n 1, 1, 0, 0, []),
  (522, .invokevirtual 65, 3, 139, 0, [11]),
  (525, .aload_n 2, 1, 0, 0, []),
  (526, .invokevirtual 68, 3, 211, 0, [12]),
  (529, .if_icmp .eq 461, 3, 706, 0, []),
  (532, .iconst 0, 1, 0, 0, []),
  (533, .ireturn, 1, 0, 0, []),
  (534, .aload_n 1, 1, 0, 0, []),
  (535, .aload_n 0, 1, 0, 0, []),
  (536, .iload_n 3, 1, 0, 0, []),
  (537, .iconst 1, 1, 1, 0, []),
  (538, .iadd, 1, 0, 0, []),
  (539, .iaload, 1, 0, 0, []),
  (540, .invokevirtual 69, 3, 140, 1, [11]),
  (543, .aload_n 2, 1, 0, 0, []),
  (544, .aload_n 0, 1, 0, 0, []),
  (545, .iload_n 3, 1, 0, 0, []),
  (546, .iconst 1, 1, 1, 0, []),
  (547, .iadd, 1, 0, 0, []),
  (548, .iaload, 1, 0, 0, []),
  (549, .invokevirtual 72, 3, 212, 1, [12]),
  (552, .if_icmp .eq 438, 3, 706, 0, []),
  (555, .iconst 0, 1, 0, 0, []),
  (556, .ireturn, 1, 0, 0, []),
  (557, .aload_n 1, 1, 0, 0, []),
  (558, .aload_n 0, 1, 0, 0, []),
  (559, .iload_n 3, 1, 0, 0, []),
  (560, .iconst 1, 1, 1, 0, []),
  (561, .iadd, 1, 0, 0, []),
  (562, .iaload, 1, 0, 0, []),
  (563, .aload_n 0, 1, 0, 0, []),
  (564, .iload_n 3, 1, 0, 0, []),
  (565, .iconst 2, 1, 2, 0, []),
  (566, .iadd, 1, 0, 0, []),
  (567, .iaload, 1, 0, 0, []),
  (568, .invokevirtual 73, 3, 141, 2, [11]),
  (571, .aload_n 2, 1, 0, 0, []),
  (572, .aload_n 0, 1, 0, 0, []),
  (573, .iload_n 3, 1, 0, 0, []),
  (574, .iconst 1, 1, 1, 0, []),
  (575, .iadd, 1, 0, 0, []),
  (576, .iaload, 1, 0, 0, []),
  (577, .aload_n 0, 1, 0, 0, []),
  (578, .iload_n 3, 1, 0, 0, []),
  (579, .iconst 2, 1, 2, 0, []),
  (580, .iadd, 1, 0, 0, []),
  (581, .iaload, 1, 0, 0, []),
  (582, .invokevirtual 77, 3, 214, 2, [12]),
  (585, .if_icmp .eq 405, 3, 706, 0, []),
  (588, .iconst 0, 1, 0, 0, []),
  (589, .ireturn, 1, 0, 0, []),
  (590, .aload_n 1, 1, 0, 0, []),
  (591, .aload_n 0, 1, 0, 0, []),
  (592, .iload_n 3, 1, 0, 0, []),
  (593, .iconst 1, 1, 1, 0, []),
  (594, .iadd, 1, 0, 0, []),
  (595, .iaload, 1, 0, 0, []),
  (596, .aload_n 0, 1, 0, 0, []),
  (597, .iload_n 3, 1, 0, 0, []),
  (598, .iconst 2, 1, 2, 0, []),
  (599, .iadd, 1, 0, 0, []),
  (600, .iaload, 1, 0, 0, []),
  (601, .invokevirtual 78, 3, 142, 2, [11]),
  (604, .aload_n 2, 1, 0, 0, []),
  (605, .aload_n 0, 1, 0, 0, []),
  (606, .iload_n 3, 1, 0, 0, []),
  (607, .iconst 1, 1, 1, 0, []),
  (608, .iadd, 1, 0, 0, []),
  (609, .iaload, 1, 0, 0, []),
  (610, .aload_n 0, 1, 0, 0, []),
  (611, .iload_n 3, 1, 0, 0, []),
  (612, .iconst 2, 1, 2, 0, []),
  (613, .iadd, 1, 0, 0, []),
  (614, .iaload, 1, 0, 0, []),
  (615, .invokevirtual 81, 3, 215, 2, [12]),
  (618, .if_icmp .eq 372, 3, 706, 0, []),
  (621, .iconst 0, 1, 0, 0, []),
  (622, .ireturn, 1, 0, 0, []),
  (623, .aload_n 1, 1, 0, 0, []),
  (624, .aload_n 0, 1, 0, 0, []),
  (625, .iload_n 3, 1, 0, 0, []),
  (626, .iconst 1, 1, 1, 0, []),
  (627, .iadd, 1, 0, 0, []),
  (628, .iaload, 1, 0, 0, []),
  (629, .invokevirtual 82, 3, 143, 1, [11]),
  (632, .aload_n 2, 1, 0, 0, []),
  (633, .aload_n 0, 1, 0, 0, []),
  (634, .iload_n 3, 1, 0, 0, []),
  (635, .iconst 1, 1, 1, 0, []),
  (636, .iadd, 1, 0, 0, []),
  (637, .iaload, 1, 0, 0, []),
  (638, .invokevirtual 85, 3, 220, 1, [12]),
  (641, .if_icmp .eq 349, 3, 706, 0, []),
  (644, .iconst 0, 1, 0, 0, []),
  (645, .ireturn, 1, 0, 0, []),
  (646, .aload_n 1, 1, 0, 0, []),
  (647, .aload_n 0, 1, 0, 0, []),
  (648, .iload_n 3, 1, 0, 0, []),
  (649, .iconst 1, 1, 1, 0, []),
  (650, .iadd, 1, 0, 0, []),
  (651, .iaload, 1, 0, 0, []),
  (652, .aload_n 0, 1, 0, 0, []),
  (653, .iload_n 3, 1, 0, 0, []),
  (654, .iconst 2, 1, 2, 0, []),
  (655, .iadd, 1, 0, 0, []),
  (656, .iaload, 1, 0, 0, []),
  (657, .invokevirtual 86, 3, 144, 2, [11]),
  (660, .aload_n 2, 1, 0, 0, []),
  (661, .aload_n 0, 1, 0, 0, []),
  (662, .iload_n 3, 1, 0, 0, []),
  (663, .iconst 1, 1, 1, 0, []),
  (664, .iadd, 1, 0, 0, []),
  (665, .iaload, 1, 0, 0, []),
  (666, .aload_n 0, 1, 0, 0, []),
  (667, .iload_n 3, 1, 0, 0, []),
  (668, .iconst 2, 1, 2, 0, []),
  (669, .iadd, 1, 0, 0, []),
  (670, .iaload, 1, 0, 0, []),
  (671, .invokevirtual 89, 3, 223, 2, [12]),
  (674, .if_icmp .eq 316, 3, 706, 0, []),
  (677, .iconst 0, 1, 0, 0, []),
  (678, .ireturn, 1, 0, 0, []),
  (679, .aload_n 1, 1, 0, 0, []),
  (680, .aload_n 0, 1, 0, 0, []),
  (681, .iload_n 3, 1, 0, 0, []),
  (682, .iconst 1, 1, 1, 0, []),
  (683, .iadd, 1, 0, 0, []),
  (684, .iaload, 1, 0, 0, []),
  (685, .aload_n 0, 1, 0, 0, []),
  (686, .iload_n 3, 1, 0, 0, []),
  (687, .iconst 2, 1, 2, 0, []),
  (688, .iadd, 1, 0, 0, []),
  (689, .iaload, 1, 0, 0, []),
  (690, .invokevirtual 90, 3, 145, 2, [11]),
  (693, .aload_n 2, 1, 0, 0, []),
  (694, .aload_n 0, 1, 0, 0, []),
  (695, .iload_n 3, 1, 0, 0, []),
  (696, .iconst 1, 1, 1, 0, []),
  (697, .iadd, 1, 0, 0, []),
  (698, .iaload, 1, 0, 0, []),
  (699, .aload_n 0, 1, 0, 0, []),
  (700, .iload_n 3, 1, 0, 0, []),
  (701, .iconst 2, 1, 2, 0, []),
  (702, .iadd, 1, 0, 0, []),
  (703, .iaload, 1, 0, 0, []),
  (704, .invokevirtual 93, 3, 225, 2, [12]),
  (707, .if_icmp .eq 283, 3, 706, 0, []),
  (710, .iconst 0, 1, 0, 0, []),
  (711, .ireturn, 1, 0, 0, []),
  (712, .aload_n 1, 1, 0, 0, []),
  (713, .aload_n 0, 1, 0, 0, []),
  (714, .iload_n 3, 1, 0, 0, []),
  (715, .iconst 1, 1, 1, 0, []),
  (716, .iadd, 1, 0, 0, []),
  (717, .iaload, 1, 0, 0, []),
  (718, .aload_n 0, 1, 0, 0, []),
  (719, .iload_n 3, 1, 0, 0, []),
  (720, .iconst 2, 1, 2, 0, []),
  (721, .iadd, 1, 0, 0, []),
  (722, .iaload, 1, 0, 0, []),
  (723, .aload_n 0, 1, 0, 0, []),
  (724, .iload_n 3, 1, 0, 0, []),
  (725, .iconst 3, 1, 3, 0, []),
  (726, .iadd, 1, 0, 0, []),
  (727, .iaload, 1, 0, 0, []),
  (728, .aload_n 0, 1, 0, 0, []),
  (729, .iload_n 3, 1, 0, 0, []),
  (730, .iconst 4, 1, 4, 0, []),
  (731, .iadd, 1, 0, 0, []),
  (732, .iaload, 1, 0, 0, []),
  (733, .invokevirtual 94, 3, 146, 4, [11]),
  (736, .aload_n 2, 1, 0, 0, []),
  (737, .aload_n 0, 1, 0, 0, []),
  (738, .iload_n 3, 1, 0, 0, []),
  (739, .iconst 1, 1, 1, 0, []),
  (740, .iadd, 1, 0, 0, []),
  (741, .iaload, 1, 0, 0, []),
  (742, .aload_n 0, 1, 0, 0, []),
  (743, .iload_n 3, 1, 0, 0, []),
  (744, .iconst 2, 1, 2, 0, []),
  (745, .iadd, 1, 0, 0, []),
  (746, .iaload, 1, 0, 0, []),
  (747, .aload_n 0, 1, 0, 0, []),
  (748, .iload_n 3, 1, 0, 0, []),
  (749, .iconst 3, 1, 3, 0, []),
  (750, .iadd, 1, 0, 0, []),
  (751, .iaload, 1, 0, 0, []),
  (752, .aload_n 0, 1, 0, 0, []),
  (753, .iload_n 3, 1, 0, 0, []),
  (754, .iconst 4, 1, 4, 0, []),
  (755, .iadd, 1, 0, 0, []),
  (756, .iaload, 1, 0, 0, []),
  (757, .invokevirtual 97, 3, 229, 4, [12]),
  (760, .if_icmp .eq 230, 3, 706, 0, []),
  (763, .iconst 0, 1, 0, 0, []),
  (764, .ireturn, 1, 0, 0, []),
  (765, .aload_n 1, 1, 0, 0, []),
  (766, .aload_n 0, 1, 0, 0, []),
  (767, .iload_n 3, 1, 0, 0, []),
  (768, .iconst 1, 1, 1, 0, []),
  (769, .iadd, 1, 0, 0, []),
  (770, .iaload, 1, 0, 0, []),
  (771, .aload_n 0, 1, 0, 0, []),
  (772, .iload_n 3, 1, 0, 0, []),
  (773, .iconst 2, 1, 2, 0, []),
  (774, .iadd, 1, 0, 0, []),
  (775, .iaload, 1, 0, 0, []),
  (776, .aload_n 0, 1, 0, 0, []),
  (777, .iload_n 3, 1, 0, 0, []),
  (778, .iconst 3, 1, 3, 0, []),
  (779, .iadd, 1, 0, 0, []),
  (780, .iaload, 1, 0, 0, []),
  (781, .invokevirtual 98, 3, 147, 3, [11]),
  (784, .aload_n 2, 1, 0, 0, []),
  (785, .aload_n 0, 1, 0, 0, []),
  (786, .iload_n 3, 1, 0, 0, []),
  (787, .iconst 1, 1, 1, 0, []),
  (788, .iadd, 1, 0, 0, []),
  (789, .iaload, 1, 0, 0, []),
  (790, .aload_n 0, 1, 0, 0, []),
  (791, .iload_n 3, 1, 0, 0, []),
  (792, .iconst 2, 1, 2, 0, []),
  (793, .iadd, 1, 0, 0, []),
  (794, .iaload, 1, 0, 0, []),
  (795, .aload_n 0, 1, 0, 0, []),
  (796, .iload_n 3, 1, 0, 0, []),
  (797, .iconst 3, 1, 3, 0, []),
  (798, .iadd, 1, 0, 0, []),
  (799, .iaload, 1, 0, 0, []),
  (800, .invokevirtual 101, 3, 230, 3, [12]),
  (803, .if_icmp .eq 187, 3, 706, 0, []),
  (806, .iconst 0, 1, 0, 0, []),
  (807, .ireturn, 1, 0, 0, []),
  (808, .aload_n 1, 1, 0, 0, []),
  (809, .aload_n 0, 1, 0, 0, []),
  (810, .iload_n 3, 1, 0, 0, []),
  (811, .iconst 1, 1, 1, 0, []),
  (812, .iadd, 1, 0, 0, []),
  (813, .iaload, 1, 0, 0, []),
  (814, .aload_n 0, 1, 0, 0, []),
  (815, .iload_n 3, 1, 0, 0, []),
  (816, .iconst 2, 1, 2, 0, []),
  (817, .iadd, 1, 0, 0, []),
  (818, .iaload, 1, 0, 0, []),
  (819, .aload_n 0, 1, 0, 0, []),
  (820, .iload_n 3, 1, 0, 0, []),
  (821, .iconst 3, 1, 3, 0, []),
  (822, .iadd, 1, 0, 0, []),
  (823, .iaload, 1, 0, 0, []),
  (824, .invokevirtual 102, 3, 148, 3, [11]),
  (827, .aload_n 2, 1, 0, 0, []),
  (828, .aload_n 0, 1, 0, 0, []),
  (829, .iload_n 3, 1, 0, 0, []),
  (830, .iconst 1, 1, 1, 0, []),
  (831, .iadd, 1, 0, 0, []),
  (832, .iaload, 1, 0, 0, []),
  (833, .aload_n 0, 1, 0, 0, []),
  (834, .iload_n 3, 1, 0, 0, []),
  (835, .iconst 2, 1, 2, 0, []),
  (836, .iadd, 1, 0, 0, []),
  (837, .iaload, 1, 0, 0, []),
  (838, .aload_n 0, 1, 0, 0, []),
  (839, .iload_n 3, 1, 0, 0, []),
  (840, .iconst 3, 1, 3, 0, []),
  (841, .iadd, 1, 0, 0, []),
  (842, .iaload, 1, 0, 0, []),
  (843, .invokevirtual 106, 3, 238, 3, [12]),
  (846, .lcmp, 1, 0, 0, []),
  (847, .ifCond .eq 143, 3, 706, 0, []),
  (850, .iconst 0, 1, 0, 0, []),
  (851, .ireturn, 1, 0, 0, []),
  (852, .aload_n 1, 1, 0, 0, []),
  (853, .aload_n 0, 1, 0, 0, []),
  (854, .iload_n 3, 1, 0, 0, []),
  (855, .iconst 1, 1, 1, 0, []),
  (856, .iadd, 1, 0, 0, []),
  (857, .iaload, 1, 0, 0, []),
  (858, .aload_n 0, 1, 0, 0, []),
  (859, .iload_n 3, 1, 0, 0, []),
  (860, .iconst 2, 1, 2, 0, []),
  (861, .iadd, 1, 0, 0, []),
  (862, .iaload, 1, 0, 0, []),
  (863, .aload_n 0, 1, 0, 0, []),
  (864, .iload_n 3, 1, 0, 0, []),
  (865, .iconst 3, 1, 3, 0, []),
  (866, .iadd, 1, 0, 0, []),
  (867, .iaload, 1, 0, 0, []),
  (868, .aload_n 0, 1, 0, 0, []),
  (869, .iload_n 3, 1, 0, 0, []),
  (870, .iconst 4, 1, 4, 0, []),
  (871, .iadd, 1, 0, 0, []),
  (872, .iaload, 1, 0, 0, []),
  (873, .invokevirtual 107, 3, 149, 4, [11]),
  (876, .aload_n 2, 1, 0, 0, []),
  (877, .aload_n 0, 1, 0, 0, []),
  (878, .iload_n 3, 1, 0, 0, []),
  (879, .iconst 1, 1, 1, 0, []),
  (880, .iadd, 1, 0, 0, []),
  (881, .iaload, 1, 0, 0, []),
  (882, .aload_n 0, 1, 0, 0, []),
  (883, .iload_n 3, 1, 0, 0, []),
  (884, .iconst 2, 1, 2, 0, []),
  (885, .iadd, 1, 0, 0, []),
  (886, .iaload, 1, 0, 0, []),
  (887, .aload_n 0, 1, 0, 0, []),
  (888, .iload_n 3, 1, 0, 0, []),
  (889, .iconst 3, 1, 3, 0, []),
  (890, .iadd, 1, 0, 0, []),
  (891, .iaload, 1, 0, 0, []),
  (892, .aload_n 0, 1, 0, 0, []),
  (893, .iload_n 3, 1, 0, 0, []),
  (894, .iconst 4, 1, 4, 0, []),
  (895, .iadd, 1, 0, 0, []),
  (896, .iaload, 1, 0, 0, []),
  (897, .invokevirtual 110, 3, 239, 4, [12]),
  (900, .if_icmp .eq 90, 3, 706, 0, []),
  (903, .iconst 0, 1, 0, 0, []),
  (904, .ireturn, 1, 0, 0, []),
  (905, .aload_n 1, 1, 0, 0, []),
  (906, .aload_n 0, 1, 0, 0, []),
  (907, .iload_n 3, 1, 0, 0, []),
  (908, .iconst 1, 1, 1, 0, []),
  (909, .iadd, 1, 0, 0, []),
  (910, .iaload, 1, 0, 0, []),
  (911, .invokevirtual 111, 3, 150, 1, [11]),
  (914, .aload_n 2, 1, 0, 0, []),
  (915, .aload_n 0, 1, 0, 0, []),
  (916, .iload_n 3, 1, 0, 0, []),
  (917, .iconst 1, 1, 1, 0, []),
  (918, .iadd, 1, 0, 0, []),
  (919, .iaload, 1, 0, 0, []),
  (920, .invokevirtual 114, 3, 241, 1, [12]),
  (923, .if_icmp .eq 67, 3, 706, 0, []),
  (926, .iconst 0, 1, 0, 0, []),
  (927, .ireturn, 1, 0, 0, []),
  (928, .aload_n 1, 1, 0, 0, []),
  (929, .aload_n 0, 1, 0, 0, []),
  (930, .iload_n 3, 1, 0, 0, []),
  (931, .iconst 1, 1, 1, 0, []),
  (932, .iadd, 1, 0, 0, []),
  (933, .iaload, 1, 0, 0, []),
  (934, .ifCond .eq 7, 3, 673, 0, []),
  (937, .iconst 1, 1, 1, 0, []),
  (938, .goto 4, 3, 674, 0, []),
  (941, .iconst 0, 1, 0, 0, []),
  (942, .invokevirtual 115, 3, 151, 1, [11]),
  (945, .aload_n 2, 1, 0, 0, []),
  (946, .aload_n 0, 1, 0, 0, []),
  (947, .iload_n 3, 1, 0, 0, []),
  (948, .iconst 1, 1, 1, 0, []),
  (949, .iadd, 1, 0, 0, []),
  (950, .iaload, 1, 0, 0, []),
  (951, .ifCond .eq 7, 3, 684, 0, []),
  (954, .iconst 1, 1, 1, 0, []),
  (955, .goto 4, 3, 685, 0, []),
  (958, .iconst 0, 1, 0, 0, []),
  (959, .invokevirtual 119, 3, 245, 1, [12]),
  (962, .if_icmp .eq 28, 3, 706, 0, []),
  (965, .iconst 0, 1, 0, 0, []),
  (966, .ireturn, 1, 0, 0, []),
  (967, .aload_n 1, 1, 0, 0, []),
  (968, .aload_n 0, 1, 0, 0, []),
  (969, .iload_n 3, 1, 0, 0, []),
  (970, .iconst 1, 1, 1, 0, []),
  (971, .iadd, 1, 0, 0, []),
  (972, .iaload, 1, 0, 0, []),
  (973, .invokevirtual 120, 3, 152, 1, [11]),
  (976, .aload_n 2, 1, 0, 0, []),
  (977, .aload_n 0, 1, 0, 0, []),
  (978, .iload_n 3, 1, 0, 0, []),
  (979, .iconst 1, 1, 1, 0, []),
  (980, .iadd, 1, 0, 0, []),
  (981, .iaload, 1, 0, 0, []),
  (982, .invokevirtual 123, 3, 246, 1, [12]),
  (985, .if_icmp .eq 5, 3, 706, 0, []),
  (988, .iconst 0, 1, 0, 0, []),
  (989, .ireturn, 1, 0, 0, []),
  (990, .iinc 3 6, 3, 0, 0, []),
  (993, .goto (-975), 3, 10, 0, []),
  (996, .iconst 1, 1, 1, 0, []),
  (997, .ireturn, 1, 0, 0, [])]
end
section
abbrev pm_M : Type := MethodName × ByteArray × Nat × Option FieldType × Nat × List pm_I
def pm_tab_0 : List pm_M := [
  (⟨"PaidWhereMade$Debts", "<init>", "()V"⟩, prog_2_method_1_code, 1, none, 0, pc_0),
  (⟨"PaidWhereMade$Debts", "has", "(I)Z"⟩, prog_2_method_2_code, 2, (some .boolean), 0, pc_1),
  (⟨"PaidWhereMade$Debts", "add", "(IIIII)I"⟩, prog_2_method_3_code, 6, (some .int), 0, pc_2),
  (⟨"PaidWhereMade$Debts", "isOpen", "(I)Z"⟩, prog_2_method_4_code, 2, (some .boolean), 0, pc_3),
  (⟨"PaidWhereMade$Debts", "close", "(III)V"⟩, prog_2_method_5_code, 4, none, 0, pc_4),
  (⟨"PaidWhereMade$Debts", "countOpen", "()I"⟩, prog_2_method_6_code, 3, (some .int), 0, pc_5),
  (⟨"PaidWhereMade$Debts", "sumOwedBy", "(I)I"⟩, prog_2_method_7_code, 4, (some .int), 0, pc_6),
  (⟨"PaidWhereMade$Debts", "sumOwedTo", "(I)I"⟩, prog_2_method_8_code, 4, (some .int), 0, pc_7),
  (⟨"PaidWhereMade$Debts", "shareSomebody", "(II)Z"⟩, prog_2_method_9_code, 3, (some .boolean), 0, pc_8),
  (⟨"PaidWhereMade$Debts", "addInterest", "(III)V"⟩, prog_2_method_10_code, 5, none, 0, pc_9),
  (⟨"PaidWhereMade$Debts", "grown", "(II)I"⟩, prog_2_method_11_code, 2, (some .int), 0, pc_10),
  (⟨"PaidWhereMade$Debts", "copyFrom", "(LPaidWhereMade$Debts;)V"⟩, prog_2_method_12_code, 2, none, 0, pc_11),
  (⟨"PaidWhereMade$Law", "<init>", "()V"⟩, prog_3_method_1_code, 1, none, 1, pc_12),
  (⟨"PaidWhereMade$Law", "clear", "()V"⟩, prog_3_method_2_code, 1, none, 1, pc_13),
  (⟨"PaidWhereMade$Law", "add", "(I)V"⟩, prog_3_method_3_code, 2, none, 1, pc_14),
  (⟨"PaidWhereMade$Law", "addVerdict", "(I)V"⟩, prog_3_method_4_code, 2, none, 1, pc_15)]
def pm_tab_1 : List pm_M := [
  (⟨"PaidWhereMade$Law", "lets", "([I)Z"⟩, prog_3_method_5_code, 4, (some .boolean), 1, pc_16),
  (⟨"PaidWhereMade$Law", "step", "(I[I)V"⟩, prog_3_method_6_code, 5, none, 1, pc_17),
  (⟨"PaidWhereMade$Law", "joined", "(III)I"⟩, prog_3_method_7_code, 3, (some .int), 1, pc_18),
  (⟨"PaidWhereMade$Law", "isFact", "(I)Z"⟩, prog_3_method_8_code, 1, (some .boolean), 1, pc_19),
  (⟨"PaidWhereMade$Law", "push", "(I)V"⟩, prog_3_method_9_code, 2, none, 1, pc_20),
  (⟨"PaidWhereMade$Law", "pop", "()I"⟩, prog_3_method_10_code, 1, (some .int), 1, pc_21),
  (⟨"PaidWhereMade$Law", "copyFrom", "(LPaidWhereMade$Law;)V"⟩, prog_3_method_11_code, 2, none, 1, pc_22),
  (⟨"PaidWhereMade$LawReader", "<init>", "()V"⟩, prog_4_method_1_code, 1, none, 2, pc_23),
  (⟨"PaidWhereMade$LawReader", "addNumbers", "(IIIII)I"⟩, prog_4_method_2_code, 6, (some .int), 2, pc_24),
  (⟨"PaidWhereMade$LawReader", "addBytes", "(I)V"⟩, prog_4_method_3_code, 3, none, 2, pc_25),
  (⟨"PaidWhereMade$LawReader", "cut", "(I)Z"⟩, prog_4_method_4_code, 2, (some .boolean), 2, pc_26),
  (⟨"PaidWhereMade$LawReader", "readInto", "(LPaidWhereMade$Law;)I"⟩, prog_4_method_5_code, 3, (some .int), 2, pc_27),
  (⟨"PaidWhereMade$LawReader", "fail", "(I)V"⟩, prog_4_method_6_code, 2, none, 2, pc_28),
  (⟨"PaidWhereMade$LawReader", "advance", "()V"⟩, prog_4_method_7_code, 1, none, 2, pc_29),
  (⟨"PaidWhereMade$LawReader", "expect", "(I)V"⟩, prog_4_method_8_code, 2, none, 2, pc_30),
  (⟨"PaidWhereMade$LawReader", "readLine", "()V"⟩, prog_4_method_9_code, 2, none, 2, pc_31)]
def pm_tab_2 : List pm_M := [
  (⟨"PaidWhereMade$LawReader", "readAny", "(I)V"⟩, prog_4_method_10_code, 5, none, 2, pc_32),
  (⟨"PaidWhereMade$LawReader", "readCondition", "(I)V"⟩, prog_4_method_11_code, 3, none, 2, pc_33),
  (⟨"PaidWhereMade$LawReader", "readOpened", "(I)V"⟩, prog_4_method_12_code, 2, none, 2, pc_34),
  (⟨"PaidWhereMade$LawReader", "readSide", "()V"⟩, prog_4_method_13_code, 5, none, 2, pc_35),
  (⟨"PaidWhereMade$LawReader", "checkDivisor", "()V"⟩, prog_4_method_14_code, 1, none, 2, pc_36),
  (⟨"PaidWhereMade$LawReader", "readUnit", "()V"⟩, prog_4_method_15_code, 1, none, 2, pc_37),
  (⟨"PaidWhereMade$LawReader", "splitTape", "()V"⟩, prog_4_method_16_code, 5, none, 2, pc_38),
  (⟨"PaidWhereMade$LawReader", "addToken", "(II)V"⟩, prog_4_method_17_code, 3, none, 2, pc_39),
  (⟨"PaidWhereMade$LawReader", "byteAt", "(I)I"⟩, prog_4_method_18_code, 2, (some .int), 2, pc_40),
  (⟨"PaidWhereMade$LawReader", "isBlank", "(I)Z"⟩, prog_4_method_19_code, 1, (some .boolean), 2, pc_41),
  (⟨"PaidWhereMade$LawReader", "isLetter", "(I)Z"⟩, prog_4_method_20_code, 1, (some .boolean), 2, pc_42),
  (⟨"PaidWhereMade$LawReader", "isDigit", "(I)Z"⟩, prog_4_method_21_code, 1, (some .boolean), 2, pc_43),
  (⟨"PaidWhereMade$LawReader", "behindLetters", "(I)I"⟩, prog_4_method_22_code, 4, (some .int), 2, pc_44),
  (⟨"PaidWhereMade$LawReader", "behindDigits", "(I)I"⟩, prog_4_method_23_code, 4, (some .int), 2, pc_45),
  (⟨"PaidWhereMade$LawReader", "wordToken", "(II)I"⟩, prog_4_method_24_code, 6, (some .int), 2, pc_46),
  (⟨"PaidWhereMade$LawReader", "isKeyword", "(III)Z"⟩, prog_4_method_25_code, 5, (some .boolean), 2, pc_47)]
def pm_tab_3 : List pm_M := [
  (⟨"PaidWhereMade$LawReader", "numberToken", "(II)I"⟩, prog_4_method_26_code, 5, (some .int), 2, pc_48),
  (⟨"PaidWhereMade$LawReader", "signToken", "(I)I"⟩, prog_4_method_27_code, 2, (some .int), 2, pc_49),
  (⟨"PaidWhereMade$Lines", "<init>", "()V"⟩, prog_5_method_1_code, 1, none, 3, pc_50),
  (⟨"PaidWhereMade$Lines", "add", "(IIII)I"⟩, prog_5_method_2_code, 5, (some .int), 3, pc_51),
  (⟨"PaidWhereMade$Lines", "fewestWrong", "(I)I"⟩, prog_5_method_3_code, 5, (some .int), 3, pc_52),
  (⟨"PaidWhereMade$Lines", "seatNamed", "(I)I"⟩, prog_5_method_4_code, 4, (some .int), 3, pc_53),
  (⟨"PaidWhereMade$Lines", "seat", "(II)I"⟩, prog_5_method_5_code, 3, (some .int), 3, pc_54),
  (⟨"PaidWhereMade$Lines", "bitOf", "(I)I"⟩, prog_5_method_6_code, 2, (some .int), 3, pc_55),
  (⟨"PaidWhereMade$Lines", "fewestOfSet", "(I)I"⟩, prog_5_method_7_code, 8, (some .int), 3, pc_56),
  (⟨"PaidWhereMade$Lines", "wrongIfTogether", "(I)I"⟩, prog_5_method_8_code, 6, (some .int), 3, pc_57),
  (⟨"PaidWhereMade$Lines", "meetingsBetween", "(II)I"⟩, prog_5_method_9_code, 5, (some .int), 3, pc_58),
  (⟨"PaidWhereMade$Lines", "copyFrom", "(LPaidWhereMade$Lines;)V"⟩, prog_5_method_10_code, 2, none, 3, pc_59),
  (⟨"PaidWhereMade$People", "<init>", "()V"⟩, prog_6_method_1_code, 1, none, 4, pc_60),
  (⟨"PaidWhereMade$People", "has", "(I)Z"⟩, prog_6_method_2_code, 2, (some .boolean), 4, pc_61),
  (⟨"PaidWhereMade$People", "add", "(III)I"⟩, prog_6_method_3_code, 5, (some .int), 4, pc_62),
  (⟨"PaidWhereMade$People", "aimHome", "()V"⟩, prog_6_method_4_code, 1, none, 4, pc_63)]
def pm_tab_4 : List pm_M := [
  (⟨"PaidWhereMade$People", "countAt", "(I)I"⟩, prog_6_method_5_code, 4, (some .int), 4, pc_64),
  (⟨"PaidWhereMade$People", "homesOf", "(I)I"⟩, prog_6_method_6_code, 4, (some .int), 4, pc_65),
  (⟨"PaidWhereMade$People", "copyFrom", "(LPaidWhereMade$People;)V"⟩, prog_6_method_7_code, 2, none, 4, pc_66),
  (⟨"PaidWhereMade$Plans", "<init>", "(LPaidWhereMade$Town;)V"⟩, prog_7_method_1_code, 2, none, 5, pc_67),
  (⟨"PaidWhereMade$Plans", "clearing", "(I)I"⟩, prog_7_method_2_code, 3, (some .int), 5, pc_68),
  (⟨"PaidWhereMade$Plans", "gatherOpen", "(II)Z"⟩, prog_7_method_3_code, 4, (some .boolean), 5, pc_69),
  (⟨"PaidWhereMade$Plans", "noteClashes", "()V"⟩, prog_7_method_4_code, 4, none, 5, pc_70),
  (⟨"PaidWhereMade$Plans", "countSundays", "(I)V"⟩, prog_7_method_5_code, 6, none, 5, pc_71),
  (⟨"PaidWhereMade$Plans", "fewestSundays", "(II)I"⟩, prog_7_method_6_code, 5, (some .int), 5, pc_72),
  (⟨"PaidWhereMade$Plans", "setOfSunday", "(II)I"⟩, prog_7_method_7_code, 6, (some .int), 5, pc_73),
  (⟨"PaidWhereMade$Plans", "greatestSet", "(I)I"⟩, prog_7_method_8_code, 3, (some .int), 5, pc_74),
  (⟨"PaidWhereMade$Plans", "paying", "(II)I"⟩, prog_7_method_9_code, 5, (some .int), 5, pc_75),
  (⟨"PaidWhereMade$Plans", "growDebts", "()V"⟩, prog_7_method_10_code, 4, none, 5, pc_76),
  (⟨"PaidWhereMade$Plans", "leastBehind", "(I)I"⟩, prog_7_method_11_code, 4, (some .int), 5, pc_77),
  (⟨"PaidWhereMade$Plans", "costWithNext", "(II)I"⟩, prog_7_method_12_code, 3, (some .int), 5, pc_78),
  (⟨"PaidWhereMade$Plans", "debtInOrder", "(I)I"⟩, prog_7_method_13_code, 5, (some .int), 5, pc_79)]
def pm_tab_5 : List pm_M := [
  (⟨"PaidWhereMade$Plans", "firstOfLeast", "(I)I"⟩, prog_7_method_14_code, 3, (some .int), 5, pc_80),
  (⟨"PaidWhereMade$Spots", "<init>", "()V"⟩, prog_8_method_1_code, 2, none, 6, pc_81),
  (⟨"PaidWhereMade$Spots", "has", "(I)Z"⟩, prog_8_method_2_code, 2, (some .boolean), 6, pc_82),
  (⟨"PaidWhereMade$Spots", "add", "(I)I"⟩, prog_8_method_3_code, 2, (some .int), 6, pc_83),
  (⟨"PaidWhereMade$Spots", "tellMiles", "(III)Z"⟩, prog_8_method_4_code, 4, (some .boolean), 6, pc_84),
  (⟨"PaidWhereMade$Spots", "milesBetween", "(II)I"⟩, prog_8_method_5_code, 3, (some .int), 6, pc_85),
  (⟨"PaidWhereMade$Spots", "tellChance", "(III)Z"⟩, prog_8_method_6_code, 6, (some .boolean), 6, pc_86),
  (⟨"PaidWhereMade$Spots", "chanceAt", "(II)I"⟩, prog_8_method_7_code, 3, (some .int), 6, pc_87),
  (⟨"PaidWhereMade$Spots", "copyFrom", "(LPaidWhereMade$Spots;)V"⟩, prog_8_method_8_code, 2, none, 6, pc_88),
  (⟨"PaidWhereMade$Sundays", "<init>", "(LPaidWhereMade$Town;)V"⟩, prog_9_method_1_code, 2, none, 7, pc_89),
  (⟨"PaidWhereMade$Sundays", "goBy", "()I"⟩, prog_9_method_2_code, 2, (some .int), 7, pc_90),
  (⟨"PaidWhereMade$Sundays", "sendOut", "()V"⟩, prog_9_method_3_code, 3, none, 7, pc_91),
  (⟨"PaidWhereMade$Sundays", "sendAway", "(II)V"⟩, prog_9_method_4_code, 3, none, 7, pc_92),
  (⟨"PaidWhereMade$Sundays", "payAll", "()I"⟩, prog_9_method_5_code, 5, (some .int), 7, pc_93),
  (⟨"PaidWhereMade$Sundays", "bothStandThere", "(I)Z"⟩, prog_9_method_6_code, 3, (some .boolean), 7, pc_94),
  (⟨"PaidWhereMade$Sundays", "lawLets", "(I)Z"⟩, prog_9_method_7_code, 3, (some .boolean), 7, pc_95)]
def pm_tab_6 : List pm_M := [
  (⟨"PaidWhereMade$Sundays", "cancelAll", "()I"⟩, prog_9_method_8_code, 5, (some .int), 7, pc_96),
  (⟨"PaidWhereMade$Sundays", "spotsWithTwoDebts", "()I"⟩, prog_9_method_9_code, 5, (some .int), 7, pc_97),
  (⟨"PaidWhereMade$Sundays", "findRound", "(I)Z"⟩, prog_9_method_10_code, 6, (some .boolean), 7, pc_98),
  (⟨"PaidWhereMade$Sundays", "noteWhoOwes", "(I)V"⟩, prog_9_method_11_code, 3, none, 7, pc_99),
  (⟨"PaidWhereMade$Sundays", "stepsBetween", "(II)I"⟩, prog_9_method_12_code, 7, (some .int), 7, pc_100),
  (⟨"PaidWhereMade$Sundays", "traceRound", "(II)V"⟩, prog_9_method_13_code, 7, none, 7, pc_101),
  (⟨"PaidWhereMade$Sundays", "leastDebtTowards", "(III)I"⟩, prog_9_method_14_code, 6, (some .int), 7, pc_102),
  (⟨"PaidWhereMade$Sundays", "cancelRound", "()I"⟩, prog_9_method_15_code, 5, (some .int), 7, pc_103),
  (⟨"PaidWhereMade$Tours", "<init>", "(LPaidWhereMade$Town;)V"⟩, prog_10_method_1_code, 2, none, 8, pc_104),
  (⟨"PaidWhereMade$Tours", "prepare", "(II)V"⟩, prog_10_method_2_code, 5, none, 8, pc_105),
  (⟨"PaidWhereMade$Tours", "noteLegs", "(I)V"⟩, prog_10_method_3_code, 4, none, 8, pc_106),
  (⟨"PaidWhereMade$Tours", "fewestTo", "(II)I"⟩, prog_10_method_4_code, 5, (some .int), 8, pc_107),
  (⟨"PaidWhereMade$Tours", "fewestMiles", "(I)I"⟩, prog_10_method_5_code, 5, (some .int), 8, pc_108),
  (⟨"PaidWhereMade$Tours", "coachShare", "(IIIZ)I"⟩, prog_10_method_6_code, 9, (some .int), 8, pc_109),
  (⟨"PaidWhereMade$Tours", "sumOverOrders", "(III)I"⟩, prog_10_method_7_code, 8, (some .int), 8, pc_110),
  (⟨"PaidWhereMade$Tours", "coachCost", "(I)I"⟩, prog_10_method_8_code, 2, (some .int), 8, pc_111)]
def pm_tab_7 : List pm_M := [
  (⟨"PaidWhereMade$Tours", "ordersOf", "(I)I"⟩, prog_10_method_9_code, 3, (some .int), 8, pc_112),
  (⟨"PaidWhereMade$Tours", "commonPart", "(II)I"⟩, prog_10_method_10_code, 6, (some .int), 8, pc_113),
  (⟨"PaidWhereMade$Town", "<init>", "()V"⟩, prog_11_method_1_code, 1, none, 9, pc_114),
  (⟨"PaidWhereMade$Town", "tellSetting", "(II)Z"⟩, prog_11_method_2_code, 3, (some .boolean), 9, pc_115),
  (⟨"PaidWhereMade$Town", "leastSetting", "(I)I"⟩, prog_11_method_3_code, 1, (some .int), 9, pc_116),
  (⟨"PaidWhereMade$Town", "greatestSetting", "(I)I"⟩, prog_11_method_4_code, 1, (some .int), 9, pc_117),
  (⟨"PaidWhereMade$Town", "draw", "(I)I"⟩, prog_11_method_5_code, 2, (some .int), 9, pc_118),
  (⟨"PaidWhereMade$Town", "copyFrom", "(LPaidWhereMade$Town;)V"⟩, prog_11_method_6_code, 2, none, 9, pc_119),
  (⟨"PaidWhereMade$Waits", "<init>", "(LPaidWhereMade$Spots;)V"⟩, prog_12_method_1_code, 2, none, 10, pc_120),
  (⟨"PaidWhereMade$Waits", "answer", "(III)J"⟩, prog_12_method_2_code, 4, (some .long), 10, pc_121),
  (⟨"PaidWhereMade$Waits", "prepare", "(I)V"⟩, prog_12_method_3_code, 5, none, 10, pc_122),
  (⟨"PaidWhereMade$Waits", "stand", "(II)V"⟩, prog_12_method_4_code, 8, none, 10, pc_123),
  (⟨"PaidWhereMade$Waits", "tryWalk", "(III)V"⟩, prog_12_method_5_code, 11, none, 10, pc_124),
  (⟨"PaidWhereMade$Waits", "hoursOfWalk", "(II)I"⟩, prog_12_method_6_code, 3, (some .int), 10, pc_125),
  (⟨"PaidWhereMade$Waits", "repeated", "(II)J"⟩, prog_12_method_7_code, 5, (some .long), 10, pc_126),
  (⟨"PaidWhereMade", "<init>", "()V"⟩, prog_1_method_1_code, 1, none, 11, pc_127)]
def pm_tab_8 : List pm_M := [
  (⟨"PaidWhereMade", "state", "(I)I"⟩, prog_1_method_2_code, 3, (some .int), 11, pc_128),
  (⟨"PaidWhereMade", "spot", "(I)I"⟩, prog_1_method_3_code, 2, (some .int), 11, pc_129),
  (⟨"PaidWhereMade", "way", "(III)Z"⟩, prog_1_method_4_code, 4, (some .boolean), 11, pc_130),
  (⟨"PaidWhereMade", "person", "(III)I"⟩, prog_1_method_5_code, 4, (some .int), 11, pc_131),
  (⟨"PaidWhereMade", "debt", "(IIII)I"⟩, prog_1_method_6_code, 6, (some .int), 11, pc_132),
  (⟨"PaidWhereMade", "set", "(II)Z"⟩, prog_1_method_7_code, 3, (some .boolean), 11, pc_133),
  (⟨"PaidWhereMade", "goal", "(II)Z"⟩, prog_1_method_8_code, 3, (some .boolean), 11, pc_134),
  (⟨"PaidWhereMade", "feed", "(IIIII)I"⟩, prog_1_method_9_code, 6, (some .int), 11, pc_135),
  (⟨"PaidWhereMade", "end", "(I)Z"⟩, prog_1_method_10_code, 2, (some .boolean), 11, pc_136),
  (⟨"PaidWhereMade", "text", "()I"⟩, prog_1_method_11_code, 1, (some .int), 11, pc_137),
  (⟨"PaidWhereMade", "fault", "(I)I"⟩, prog_1_method_12_code, 2, (some .int), 11, pc_138),
  (⟨"PaidWhereMade", "sunday", "()I"⟩, prog_1_method_13_code, 1, (some .int), 11, pc_139),
  (⟨"PaidWhereMade", "pass", "(I)I"⟩, prog_1_method_14_code, 4, (some .int), 11, pc_140),
  (⟨"PaidWhereMade", "of", "(II)I"⟩, prog_1_method_15_code, 3, (some .int), 11, pc_141),
  (⟨"PaidWhereMade", "owed", "(II)I"⟩, prog_1_method_16_code, 3, (some .int), 11, pc_142),
  (⟨"PaidWhereMade", "cleared", "(I)I"⟩, prog_1_method_17_code, 2, (some .int), 11, pc_143)]
def pm_tab_9 : List pm_M := [
  (⟨"PaidWhereMade", "first", "(II)I"⟩, prog_1_method_18_code, 3, (some .int), 11, pc_144),
  (⟨"PaidWhereMade", "tour", "(II)I"⟩, prog_1_method_19_code, 3, (some .int), 11, pc_145),
  (⟨"PaidWhereMade", "share", "(IIII)I"⟩, prog_1_method_20_code, 6, (some .int), 11, pc_146),
  (⟨"PaidWhereMade", "chance", "(III)Z"⟩, prog_1_method_21_code, 4, (some .boolean), 11, pc_147),
  (⟨"PaidWhereMade", "waiting", "(III)J"⟩, prog_1_method_22_code, 4, (some .long), 11, pc_148),
  (⟨"PaidWhereMade", "line", "(IIII)I"⟩, prog_1_method_23_code, 7, (some .int), 11, pc_149),
  (⟨"PaidWhereMade", "wrong", "(I)I"⟩, prog_1_method_24_code, 2, (some .int), 11, pc_150),
  (⟨"PaidWhereMade", "image", "(Z)Z"⟩, prog_1_method_25_code, 2, (some .boolean), 11, pc_151),
  (⟨"PaidWhereMade", "look", "(I)I"⟩, prog_1_method_26_code, 2, (some .int), 11, pc_152),
  (⟨"PaidWhereMade", "lookAtSetting", "(I)I"⟩, prog_1_method_27_code, 2, (some .int), 11, pc_153),
  (⟨"PaidWhereMade", "isSunday", "(I)Z"⟩, prog_1_method_28_code, 1, (some .boolean), 11, pc_154),
  (⟨"PaidWhereMade", "isSetOf", "(II)Z"⟩, prog_1_method_29_code, 2, (some .boolean), 11, pc_155),
  (⟨"PaidWhereMade", "isIn", "(II)Z"⟩, prog_1_method_30_code, 2, (some .boolean), 11, pc_156),
  (⟨"PaidWhereMade", "copyRow", "([I[I)V"⟩, prog_1_method_31_code, 2, none, 11, pc_157),
  (⟨"PaidWhereMadeModel", "<init>", "()V"⟩, prog_14_method_1_code, 1, none, 12, pc_158),
  (⟨"PaidWhereMadeModel", "isIn", "(III)Z"⟩, prog_14_method_3_code, 4, (some .boolean), 12, pc_159)]
def pm_tab_10 : List pm_M := [
  (⟨"PaidWhereMadeModel", "ones", "(I)I"⟩, prog_14_method_4_code, 4, (some .int), 12, pc_160),
  (⟨"PaidWhereMadeModel", "state", "(I)I"⟩, prog_14_method_5_code, 3, (some .int), 12, pc_161),
  (⟨"PaidWhereMadeModel", "draw", "(I)I"⟩, prog_14_method_6_code, 2, (some .int), 12, pc_162),
  (⟨"PaidWhereMadeModel", "isSpot", "(I)Z"⟩, prog_14_method_7_code, 2, (some .boolean), 12, pc_163),
  (⟨"PaidWhereMadeModel", "isOne", "(I)Z"⟩, prog_14_method_8_code, 2, (some .boolean), 12, pc_164),
  (⟨"PaidWhereMadeModel", "milesOf", "(II)I"⟩, prog_14_method_9_code, 3, (some .int), 12, pc_165),
  (⟨"PaidWhereMadeModel", "spot", "(I)I"⟩, prog_14_method_10_code, 2, (some .int), 12, pc_166),
  (⟨"PaidWhereMadeModel", "way", "(III)Z"⟩, prog_14_method_11_code, 4, (some .boolean), 12, pc_167),
  (⟨"PaidWhereMadeModel", "person", "(III)I"⟩, prog_14_method_12_code, 4, (some .int), 12, pc_168),
  (⟨"PaidWhereMadeModel", "debt", "(IIII)I"⟩, prog_14_method_13_code, 5, (some .int), 12, pc_169),
  (⟨"PaidWhereMadeModel", "leastOf", "(I)I"⟩, prog_14_method_14_code, 2, (some .int), 12, pc_170),
  (⟨"PaidWhereMadeModel", "mostOf", "(I)I"⟩, prog_14_method_15_code, 2, (some .int), 12, pc_171),
  (⟨"PaidWhereMadeModel", "set", "(II)Z"⟩, prog_14_method_16_code, 3, (some .boolean), 12, pc_172),
  (⟨"PaidWhereMadeModel", "goal", "(II)Z"⟩, prog_14_method_17_code, 3, (some .boolean), 12, pc_173),
  (⟨"PaidWhereMadeModel", "types", "(I)V"⟩, prog_14_method_18_code, 3, none, 12, pc_174),
  (⟨"PaidWhereMadeModel", "feed", "(IIIII)I"⟩, prog_14_method_19_code, 6, (some .int), 12, pc_175)]
def pm_tab_11 : List pm_M := [
  (⟨"PaidWhereMadeModel", "end", "(I)Z"⟩, prog_14_method_20_code, 2, (some .boolean), 12, pc_176),
  (⟨"PaidWhereMadeModel", "raw", "(I)I"⟩, prog_14_method_21_code, 2, (some .int), 12, pc_177),
  (⟨"PaidWhereMadeModel", "isLetter", "(I)Z"⟩, prog_14_method_22_code, 2, (some .boolean), 12, pc_178),
  (⟨"PaidWhereMadeModel", "isDigit", "(I)Z"⟩, prog_14_method_23_code, 2, (some .boolean), 12, pc_179),
  (⟨"PaidWhereMadeModel", "isMarkSign", "(I)Z"⟩, prog_14_method_24_code, 2, (some .boolean), 12, pc_180),
  (⟨"PaidWhereMadeModel", "wordAt", "(II)I"⟩, prog_14_method_25_code, 6, (some .int), 12, pc_181),
  (⟨"PaidWhereMadeModel", "reads", "()V"⟩, prog_14_method_26_code, 2, none, 12, pc_182),
  (⟨"PaidWhereMadeModel", "errs", "(I)I"⟩, prog_14_method_27_code, 2, (some .int), 12, pc_183),
  (⟨"PaidWhereMadeModel", "isWord", "(I)Z"⟩, prog_14_method_28_code, 2, (some .boolean), 12, pc_184),
  (⟨"PaidWhereMadeModel", "isSign", "(I)Z"⟩, prog_14_method_29_code, 2, (some .boolean), 12, pc_185),
  (⟨"PaidWhereMadeModel", "emits", "(II)V"⟩, prog_14_method_30_code, 3, none, 12, pc_186),
  (⟨"PaidWhereMadeModel", "readUnit", "()I"⟩, prog_14_method_31_code, 2, (some .int), 12, pc_187),
  (⟨"PaidWhereMadeModel", "readProduct", "()I"⟩, prog_14_method_32_code, 2, (some .int), 12, pc_188),
  (⟨"PaidWhereMadeModel", "readSum", "()I"⟩, prog_14_method_33_code, 2, (some .int), 12, pc_189),
  (⟨"PaidWhereMadeModel", "readCompared", "()I"⟩, prog_14_method_34_code, 2, (some .int), 12, pc_190),
  (⟨"PaidWhereMadeModel", "waits", "(I)V"⟩, prog_14_method_35_code, 2, none, 12, pc_191)]
def pm_tab_12 : List pm_M := [
  (⟨"PaidWhereMadeModel", "settles", "(I)V"⟩, prog_14_method_36_code, 2, none, 12, pc_192),
  (⟨"PaidWhereMadeModel", "readAny", "()I"⟩, prog_14_method_37_code, 4, (some .int), 12, pc_193),
  (⟨"PaidWhereMadeModel", "readText", "()I"⟩, prog_14_method_38_code, 3, (some .int), 12, pc_194),
  (⟨"PaidWhereMadeModel", "text", "()I"⟩, prog_14_method_39_code, 3, (some .int), 12, pc_195),
  (⟨"PaidWhereMadeModel", "fault", "(I)I"⟩, prog_14_method_40_code, 2, (some .int), 12, pc_196),
  (⟨"PaidWhereMadeModel", "twoOf", "(III)I"⟩, prog_14_method_41_code, 4, (some .int), 12, pc_197),
  (⟨"PaidWhereMadeModel", "isSo", "(II)Z"⟩, prog_14_method_42_code, 5, (some .boolean), 12, pc_198),
  (⟨"PaidWhereMadeModel", "isOpen", "(I)Z"⟩, prog_14_method_43_code, 2, (some .boolean), 12, pc_199),
  (⟨"PaidWhereMadeModel", "hereAt", "(I)I"⟩, prog_14_method_44_code, 4, (some .int), 12, pc_200),
  (⟨"PaidWhereMadeModel", "lets", "(I)Z"⟩, prog_14_method_45_code, 3, (some .boolean), 12, pc_201),
  (⟨"PaidWhereMadeModel", "goes", "(Z)V"⟩, prog_14_method_46_code, 5, none, 12, pc_202),
  (⟨"PaidWhereMadeModel", "areBothAt", "(II)Z"⟩, prog_14_method_47_code, 3, (some .boolean), 12, pc_203),
  (⟨"PaidWhereMadeModel", "findsRound", "(II)Z"⟩, prog_14_method_48_code, 5, (some .boolean), 12, pc_204),
  (⟨"PaidWhereMadeModel", "canBeNext", "(IIII)Z"⟩, prog_14_method_49_code, 6, (some .boolean), 12, pc_205),
  (⟨"PaidWhereMadeModel", "isPaid", "(II)V"⟩, prog_14_method_50_code, 3, none, 12, pc_206),
  (⟨"PaidWhereMadeModel", "cancels", "(I)V"⟩, prog_14_method_51_code, 4, none, 12, pc_207)]
def pm_tab_13 : List pm_M := [
  (⟨"PaidWhereMadeModel", "cancelsAt", "(I)V"⟩, prog_14_method_52_code, 3, none, 12, pc_208),
  (⟨"PaidWhereMadeModel", "pays", "(I)V"⟩, prog_14_method_53_code, 2, none, 12, pc_209),
  (⟨"PaidWhereMadeModel", "goesBy", "()I"⟩, prog_14_method_54_code, 4, (some .int), 12, pc_210),
  (⟨"PaidWhereMadeModel", "sunday", "()I"⟩, prog_14_method_55_code, 1, (some .int), 12, pc_211),
  (⟨"PaidWhereMadeModel", "pass", "(I)I"⟩, prog_14_method_56_code, 4, (some .int), 12, pc_212),
  (⟨"PaidWhereMadeModel", "sumOf", "(IZ)I"⟩, prog_14_method_57_code, 5, (some .int), 12, pc_213),
  (⟨"PaidWhereMadeModel", "of", "(II)I"⟩, prog_14_method_58_code, 3, (some .int), 12, pc_214),
  (⟨"PaidWhereMadeModel", "owed", "(II)I"⟩, prog_14_method_59_code, 3, (some .int), 12, pc_215),
  (⟨"PaidWhereMadeModel", "areOnOne", "(I)Z"⟩, prog_14_method_60_code, 7, (some .boolean), 12, pc_216),
  (⟨"PaidWhereMadeModel", "greatest", "(II)I"⟩, prog_14_method_61_code, 4, (some .int), 12, pc_217),
  (⟨"PaidWhereMadeModel", "leastFor", "(I)I"⟩, prog_14_method_62_code, 4, (some .int), 12, pc_218),
  (⟨"PaidWhereMadeModel", "takesOpen", "(I)V"⟩, prog_14_method_63_code, 3, none, 12, pc_219),
  (⟨"PaidWhereMadeModel", "cleared", "(I)I"⟩, prog_14_method_64_code, 6, (some .int), 12, pc_220),
  (⟨"PaidWhereMadeModel", "grown", "(II)I"⟩, prog_14_method_65_code, 5, (some .int), 12, pc_221),
  (⟨"PaidWhereMadeModel", "costWith", "(II)I"⟩, prog_14_method_66_code, 3, (some .int), 12, pc_222),
  (⟨"PaidWhereMadeModel", "first", "(II)I"⟩, prog_14_method_67_code, 6, (some .int), 12, pc_223)]
def pm_tab_14 : List pm_M := [
  (⟨"PaidWhereMadeModel", "tourFrom", "(II)I"⟩, prog_14_method_68_code, 8, (some .int), 12, pc_224),
  (⟨"PaidWhereMadeModel", "tour", "(II)I"⟩, prog_14_method_69_code, 3, (some .int), 12, pc_225),
  (⟨"PaidWhereMadeModel", "homesOf", "(I)I"⟩, prog_14_method_70_code, 4, (some .int), 12, pc_226),
  (⟨"PaidWhereMadeModel", "factorial", "(I)I"⟩, prog_14_method_71_code, 4, (some .int), 12, pc_227),
  (⟨"PaidWhereMadeModel", "coach", "(II)I"⟩, prog_14_method_72_code, 3, (some .int), 12, pc_228),
  (⟨"PaidWhereMadeModel", "share", "(IIII)I"⟩, prog_14_method_73_code, 13, (some .int), 12, pc_229),
  (⟨"PaidWhereMadeModel", "chance", "(III)Z"⟩, prog_14_method_74_code, 6, (some .boolean), 12, pc_230),
  (⟨"PaidWhereMadeModel", "hoursOf", "(II)I"⟩, prog_14_method_75_code, 4, (some .int), 12, pc_231),
  (⟨"PaidWhereMadeModel", "hundreds", "(I)J"⟩, prog_14_method_76_code, 5, (some .long), 12, pc_232),
  (⟨"PaidWhereMadeModel", "standing", "(II)J"⟩, prog_14_method_77_code, 3, (some .long), 12, pc_233),
  (⟨"PaidWhereMadeModel", "walking", "(IIII)J"⟩, prog_14_method_78_code, 6, (some .long), 12, pc_234),
  (⟨"PaidWhereMadeModel", "findsMissed", "(I)V"⟩, prog_14_method_79_code, 7, none, 12, pc_235),
  (⟨"PaidWhereMadeModel", "placeIn", "(III)I"⟩, prog_14_method_80_code, 7, (some .int), 12, pc_236),
  (⟨"PaidWhereMadeModel", "walksOn", "(II)V"⟩, prog_14_method_81_code, 5, none, 12, pc_237),
  (⟨"PaidWhereMadeModel", "waiting", "(III)J"⟩, prog_14_method_82_code, 4, (some .long), 12, pc_238),
  (⟨"PaidWhereMadeModel", "line", "(IIII)I"⟩, prog_14_method_83_code, 7, (some .int), 12, pc_239)]
def pm_tab_15 : List pm_M := [
  (⟨"PaidWhereMadeModel", "wrongWith", "(I)I"⟩, prog_14_method_84_code, 5, (some .int), 12, pc_240),
  (⟨"PaidWhereMadeModel", "wrong", "(I)I"⟩, prog_14_method_85_code, 8, (some .int), 12, pc_241),
  (⟨"PaidWhereMadeModel", "kept", "(I)I"⟩, prog_14_method_86_code, 2, (some .int), 12, pc_242),
  (⟨"PaidWhereMadeModel", "keepsDebts", "()V"⟩, prog_14_method_87_code, 2, none, 12, pc_243),
  (⟨"PaidWhereMadeModel", "keepsLaw", "()V"⟩, prog_14_method_88_code, 2, none, 12, pc_244),
  (⟨"PaidWhereMadeModel", "image", "(Z)Z"⟩, prog_14_method_89_code, 3, (some .boolean), 12, pc_245),
  (⟨"PaidWhereMadeModel", "look", "(I)I"⟩, prog_14_method_90_code, 2, (some .int), 12, pc_246),
  (⟨"java/util/Arrays", "fill", "([II)V"⟩, prog_21_method_103_code, 4, none, 14, pc_247),
  (⟨"java/lang/String", "length", "()I"⟩, prog_17_method_54_code, 1, (some .int), 15, pc_248),
  (⟨"java/lang/String", "coder", "()B"⟩, prog_17_method_152_code, 1, (some .byte), 15, pc_249),
  (⟨"java/lang/String", "charAt", "(I)C"⟩, prog_17_method_56_code, 2, (some .char), 15, pc_250),
  (⟨"java/lang/String", "isLatin1", "()Z"⟩, prog_17_method_154_code, 1, (some .boolean), 15, pc_251),
  (⟨"java/lang/StringLatin1", "charAt", "([BI)C"⟩, prog_18_method_2_code, 2, (some .char), 16, pc_252),
  (⟨"java/lang/String", "checkIndex", "(II)V"⟩, prog_17_method_155_code, 2, none, 15, pc_253),
  (⟨"jdk/internal/util/Preconditions", "checkIndex", "(IILjava/util/function/BiFunction;)I"⟩, prog_22_method_11_code, 3, (some .int), 17, pc_254),
  (⟨"java/lang/Integer", "bitCount", "(I)I"⟩, prog_15_method_49_code, 1, (some .int), 13, pc_255)]
def pm_tab_16 : List pm_M := [
  (x, code, maxLocals, ret, 18, pc_law)]
def pm_tab : List pm_M := pm_tab_0 ++ (pm_tab_1 ++ (pm_tab_2 ++ (pm_tab_3 ++ (pm_tab_4 ++ (pm_tab_5 ++ (pm_tab_6 ++ (pm_tab_7 ++ (pm_tab_8 ++ (pm_tab_9 ++ (pm_tab_10 ++ (pm_tab_11 ++ (pm_tab_12 ++ (pm_tab_13 ++ (pm_tab_14 ++ (pm_tab_15 ++ (pm_tab_16))))))))))))))))
/-- the tables' words that go with every call -/
def pm_big : List Cond := lw_tbl.filter goodWord
theorem pm_mem {w : Cond} (i : Nat) (h : (decide (lw_tbl[i]? = some w) && goodWord w) = true) : w ∈ pm_big := by
  simp only [Bool.and_eq_true, decide_eq_true_eq] at h
  exact List.mem_filter.mpr ⟨List.mem_of_getElem? h.1, h.2⟩
def pm_yk (k : Nat) : MethodName := match pm_tab[k]? with | some M => M.1 | none => x
theorem pm_t1 : ∀ w ∈ tables_1_1, w ∈ lw_tbl := fun w h => by
  show w ∈ k2_sels lw_privs ++ (tables_1_1 ++ (tables_1_2 ++ (tables_1_3 ++ (tables_1_4 ++ (tables_1_5 ++ (tables_1_6 ++ (tables_1_7)))))))
  exact List.mem_append_right _ (List.mem_append_left _ h)
theorem pm_t2 : ∀ w ∈ tables_1_2, w ∈ lw_tbl := fun w h => by
  show w ∈ k2_sels lw_privs ++ (tables_1_1 ++ (tables_1_2 ++ (tables_1_3 ++ (tables_1_4 ++ (tables_1_5 ++ (tables_1_6 ++ (tables_1_7)))))))
  exact List.mem_append_right _ (List.mem_append_right _ (List.mem_append_left _ h))
theorem pm_t3 : ∀ w ∈ tables_1_3, w ∈ lw_tbl := fun w h => by
  show w ∈ k2_sels lw_privs ++ (tables_1_1 ++ (tables_1_2 ++ (tables_1_3 ++ (tables_1_4 ++ (tables_1_5 ++ (tables_1_6 ++ (tables_1_7)))))))
  exact List.mem_append_right _ (List.mem_append_right _ (List.mem_append_right _ (List.mem_append_left _ h)))
theorem pm_t4 : ∀ w ∈ tables_1_4, w ∈ lw_tbl := fun w h => by
  show w ∈ k2_sels lw_privs ++ (tables_1_1 ++ (tables_1_2 ++ (tables_1_3 ++ (tables_1_4 ++ (tables_1_5 ++ (tables_1_6 ++ (tables_1_7)))))))
  exact List.mem_append_right _ (List.mem_append_right _ (List.mem_append_right _ (List.mem_append_right _ (List.mem_append_left _ h))))
theorem pm_t5 : ∀ w ∈ tables_1_5, w ∈ lw_tbl := fun w h => by
  show w ∈ k2_sels lw_privs ++ (tables_1_1 ++ (tables_1_2 ++ (tables_1_3 ++ (tables_1_4 ++ (tables_1_5 ++ (tables_1_6 ++ (tables_1_7)))))))
  exact List.mem_append_right _ (List.mem_append_right _ (List.mem_append_right _ (List.mem_append_right _ (List.mem_append_right _ (List.mem_append_left _ h)))))
theorem pm_t6 : ∀ w ∈ tables_1_6, w ∈ lw_tbl := fun w h => by
  show w ∈ k2_sels lw_privs ++ (tables_1_1 ++ (tables_1_2 ++ (tables_1_3 ++ (tables_1_4 ++ (tables_1_5 ++ (tables_1_6 ++ (tables_1_7)))))))
  exact List.mem_append_right _ (List.mem_append_right _ (List.mem_append_right _ (List.mem_append_right _ (List.mem_append_right _ (List.mem_append_right _ (List.mem_append_left _ h))))))
theorem pm_t7 : ∀ w ∈ tables_1_7, w ∈ lw_tbl := fun w h => by
  show w ∈ k2_sels lw_privs ++ (tables_1_1 ++ (tables_1_2 ++ (tables_1_3 ++ (tables_1_4 ++ (tables_1_5 ++ (tables_1_6 ++ (tables_1_7)))))))
  exact List.mem_append_right _ (List.mem_append_right _ (List.mem_append_right _ (List.mem_append_right _ (List.mem_append_right _ (List.mem_append_right _ (List.mem_append_right _ (h)))))))
def pm_CDP (M : pm_M) : Prop := (Cond.code M.1 M.2.1 M.2.2.1 M.2.2.2.1) ∈ pm_big
theorem pm_cd_0 : pm_CDP (⟨"PaidWhereMade$Debts", "<init>", "()V"⟩, prog_2_method_1_code, 1, none, 0, pc_0) := List.mem_filter.mpr ⟨pm_t1 _ (List.mem_of_getElem? (i := 105) rfl), rfl⟩
theorem pm_cd_1 : pm_CDP (⟨"PaidWhereMade$Debts", "has", "(I)Z"⟩, prog_2_method_2_code, 2, (some .boolean), 0, pc_1) := List.mem_filter.mpr ⟨pm_t4 _ (List.mem_of_getElem? (i := 50) rfl), rfl⟩
theorem pm_cd_2 : pm_CDP (⟨"PaidWhereMade$Debts", "add", "(IIIII)I"⟩, prog_2_method_3_code, 6, (some .int), 0, pc_2) := List.mem_filter.mpr ⟨pm_t2 _ (List.mem_of_getElem? (i := 235) rfl), rfl⟩
theorem pm_cd_3 : pm_CDP (⟨"PaidWhereMade$Debts", "isOpen", "(I)Z"⟩, prog_2_method_4_code, 2, (some .boolean), 0, pc_3) := List.mem_filter.mpr ⟨pm_t4 _ (List.mem_of_getElem? (i := 12) rfl), rfl⟩
theorem pm_cd_4 : pm_CDP (⟨"PaidWhereMade$Debts", "close", "(III)V"⟩, prog_2_method_5_code, 4, none, 0, pc_4) := List.mem_filter.mpr ⟨pm_t4 _ (List.mem_of_getElem? (i := 46) rfl), rfl⟩
theorem pm_cd_5 : pm_CDP (⟨"PaidWhereMade$Debts", "countOpen", "()I"⟩, prog_2_method_6_code, 3, (some .int), 0, pc_5) := List.mem_filter.mpr ⟨pm_t5 _ (List.mem_of_getElem? (i := 147) rfl), rfl⟩
theorem pm_cd_6 : pm_CDP (⟨"PaidWhereMade$Debts", "sumOwedBy", "(I)I"⟩, prog_2_method_7_code, 4, (some .int), 0, pc_6) := List.mem_filter.mpr ⟨pm_t4 _ (List.mem_of_getElem? (i := 110) rfl), rfl⟩
theorem pm_cd_7 : pm_CDP (⟨"PaidWhereMade$Debts", "sumOwedTo", "(I)I"⟩, prog_2_method_8_code, 4, (some .int), 0, pc_7) := List.mem_filter.mpr ⟨pm_t4 _ (List.mem_of_getElem? (i := 114) rfl), rfl⟩
theorem pm_cd_8 : pm_CDP (⟨"PaidWhereMade$Debts", "shareSomebody", "(II)Z"⟩, prog_2_method_9_code, 3, (some .boolean), 0, pc_8) := List.mem_filter.mpr ⟨pm_t4 _ (List.mem_of_getElem? (i := 142) rfl), rfl⟩
theorem pm_cd_9 : pm_CDP (⟨"PaidWhereMade$Debts", "addInterest", "(III)V"⟩, prog_2_method_10_code, 5, none, 0, pc_9) := List.mem_filter.mpr ⟨pm_t4 _ (List.mem_of_getElem? (i := 86) rfl), rfl⟩
theorem pm_cd_10 : pm_CDP (⟨"PaidWhereMade$Debts", "grown", "(II)I"⟩, prog_2_method_11_code, 2, (some .int), 0, pc_10) := List.mem_filter.mpr ⟨pm_t4 _ (List.mem_of_getElem? (i := 91) rfl), rfl⟩
theorem pm_cd_11 : pm_CDP (⟨"PaidWhereMade$Debts", "copyFrom", "(LPaidWhereMade$Debts;)V"⟩, prog_2_method_12_code, 2, none, 0, pc_11) := List.mem_filter.mpr ⟨pm_t5 _ (List.mem_of_getElem? (i := 132) rfl), rfl⟩
theorem pm_cd_12 : pm_CDP (⟨"PaidWhereMade$Law", "<init>", "()V"⟩, prog_3_method_1_code, 1, none, 1, pc_12) := List.mem_filter.mpr ⟨pm_t1 _ (List.mem_of_getElem? (i := 192) rfl), rfl⟩
theorem pm_cd_13 : pm_CDP (⟨"PaidWhereMade$Law", "clear", "()V"⟩, prog_3_method_2_code, 1, none, 1, pc_13) := List.mem_filter.mpr ⟨pm_t3 _ (List.mem_of_getElem? (i := 139) rfl), rfl⟩
theorem pm_cd_14 : pm_CDP (⟨"PaidWhereMade$Law", "add", "(I)V"⟩, prog_3_method_3_code, 2, none, 1, pc_14) := List.mem_filter.mpr ⟨pm_t3 _ (List.mem_of_getElem? (i := 167) rfl), rfl⟩
theorem pm_cd_15 : pm_CDP (⟨"PaidWhereMade$Law", "addVerdict", "(I)V"⟩, prog_3_method_4_code, 2, none, 1, pc_15) := List.mem_filter.mpr ⟨pm_t3 _ (List.mem_of_getElem? (i := 190) rfl), rfl⟩
theorem pm_cd_16 : pm_CDP (⟨"PaidWhereMade$Law", "lets", "([I)Z"⟩, prog_3_method_5_code, 4, (some .boolean), 1, pc_16) := List.mem_filter.mpr ⟨pm_t4 _ (List.mem_of_getElem? (i := 66) rfl), rfl⟩
theorem pm_cd_17 : pm_CDP (⟨"PaidWhereMade$Law", "step", "(I[I)V"⟩, prog_3_method_6_code, 5, none, 1, pc_17) := List.mem_filter.mpr ⟨pm_t4 _ (List.mem_of_getElem? (i := 74) rfl), rfl⟩
theorem pm_cd_18 : pm_CDP (⟨"PaidWhereMade$Law", "joined", "(III)I"⟩, prog_3_method_7_code, 3, (some .int), 1, pc_18) := List.mem_filter.mpr ⟨pm_t4 _ (List.mem_of_getElem? (i := 82) rfl), rfl⟩
theorem pm_cd_19 : pm_CDP (⟨"PaidWhereMade$Law", "isFact", "(I)Z"⟩, prog_3_method_8_code, 1, (some .boolean), 1, pc_19) := List.mem_filter.mpr ⟨pm_t3 _ (List.mem_of_getElem? (i := 182) rfl), rfl⟩
theorem pm_cd_20 : pm_CDP (⟨"PaidWhereMade$Law", "push", "(I)V"⟩, prog_3_method_9_code, 2, none, 1, pc_20) := List.mem_filter.mpr ⟨pm_t4 _ (List.mem_of_getElem? (i := 78) rfl), rfl⟩
theorem pm_cd_21 : pm_CDP (⟨"PaidWhereMade$Law", "pop", "()I"⟩, prog_3_method_10_code, 1, (some .int), 1, pc_21) := List.mem_filter.mpr ⟨pm_t4 _ (List.mem_of_getElem? (i := 70) rfl), rfl⟩
theorem pm_cd_22 : pm_CDP (⟨"PaidWhereMade$Law", "copyFrom", "(LPaidWhereMade$Law;)V"⟩, prog_3_method_11_code, 2, none, 1, pc_22) := List.mem_filter.mpr ⟨pm_t3 _ (List.mem_of_getElem? (i := 195) rfl), rfl⟩
theorem pm_cd_23 : pm_CDP (⟨"PaidWhereMade$LawReader", "<init>", "()V"⟩, prog_4_method_1_code, 1, none, 2, pc_23) := List.mem_filter.mpr ⟨pm_t2 _ (List.mem_of_getElem? (i := 29) rfl), rfl⟩
theorem pm_cd_24 : pm_CDP (⟨"PaidWhereMade$LawReader", "addNumbers", "(IIIII)I"⟩, prog_4_method_2_code, 6, (some .int), 2, pc_24) := List.mem_filter.mpr ⟨pm_t3 _ (List.mem_of_getElem? (i := 21) rfl), rfl⟩
theorem pm_cd_25 : pm_CDP (⟨"PaidWhereMade$LawReader", "addBytes", "(I)V"⟩, prog_4_method_3_code, 3, none, 2, pc_25) := List.mem_filter.mpr ⟨pm_t3 _ (List.mem_of_getElem? (i := 25) rfl), rfl⟩
theorem pm_cd_26 : pm_CDP (⟨"PaidWhereMade$LawReader", "cut", "(I)Z"⟩, prog_4_method_4_code, 2, (some .boolean), 2, pc_26) := List.mem_filter.mpr ⟨pm_t3 _ (List.mem_of_getElem? (i := 33) rfl), rfl⟩
theorem pm_cd_27 : pm_CDP (⟨"PaidWhereMade$LawReader", "readInto", "(LPaidWhereMade$Law;)I"⟩, prog_4_method_5_code, 3, (some .int), 2, pc_27) := List.mem_filter.mpr ⟨pm_t3 _ (List.mem_of_getElem? (i := 41) rfl), rfl⟩
theorem pm_cd_28 : pm_CDP (⟨"PaidWhereMade$LawReader", "fail", "(I)V"⟩, prog_4_method_6_code, 2, none, 2, pc_28) := List.mem_filter.mpr ⟨pm_t3 _ (List.mem_of_getElem? (i := 147) rfl), rfl⟩
theorem pm_cd_29 : pm_CDP (⟨"PaidWhereMade$LawReader", "advance", "()V"⟩, prog_4_method_7_code, 1, none, 2, pc_29) := List.mem_filter.mpr ⟨pm_t3 _ (List.mem_of_getElem? (i := 151) rfl), rfl⟩
theorem pm_cd_30 : pm_CDP (⟨"PaidWhereMade$LawReader", "expect", "(I)V"⟩, prog_4_method_8_code, 2, none, 2, pc_30) := List.mem_filter.mpr ⟨pm_t3 _ (List.mem_of_getElem? (i := 171) rfl), rfl⟩
theorem pm_cd_31 : pm_CDP (⟨"PaidWhereMade$LawReader", "readLine", "()V"⟩, prog_4_method_9_code, 2, none, 2, pc_31) := List.mem_filter.mpr ⟨pm_t3 _ (List.mem_of_getElem? (i := 143) rfl), rfl⟩
theorem pm_cd_32 : pm_CDP (⟨"PaidWhereMade$LawReader", "readAny", "(I)V"⟩, prog_4_method_10_code, 5, none, 2, pc_32) := List.mem_filter.mpr ⟨pm_t3 _ (List.mem_of_getElem? (i := 155) rfl), rfl⟩
theorem pm_cd_33 : pm_CDP (⟨"PaidWhereMade$LawReader", "readCondition", "(I)V"⟩, prog_4_method_11_code, 3, none, 2, pc_33) := List.mem_filter.mpr ⟨pm_t3 _ (List.mem_of_getElem? (i := 159) rfl), rfl⟩
theorem pm_cd_34 : pm_CDP (⟨"PaidWhereMade$LawReader", "readOpened", "(I)V"⟩, prog_4_method_12_code, 2, none, 2, pc_34) := List.mem_filter.mpr ⟨pm_t3 _ (List.mem_of_getElem? (i := 163) rfl), rfl⟩
theorem pm_cd_35 : pm_CDP (⟨"PaidWhereMade$LawReader", "readSide", "()V"⟩, prog_4_method_13_code, 5, none, 2, pc_35) := List.mem_filter.mpr ⟨pm_t3 _ (List.mem_of_getElem? (i := 175) rfl), rfl⟩
theorem pm_cd_36 : pm_CDP (⟨"PaidWhereMade$LawReader", "checkDivisor", "()V"⟩, prog_4_method_14_code, 1, none, 2, pc_36) := List.mem_filter.mpr ⟨pm_t3 _ (List.mem_of_getElem? (i := 186) rfl), rfl⟩
theorem pm_cd_37 : pm_CDP (⟨"PaidWhereMade$LawReader", "readUnit", "()V"⟩, prog_4_method_15_code, 1, none, 2, pc_37) := List.mem_filter.mpr ⟨pm_t3 _ (List.mem_of_getElem? (i := 179) rfl), rfl⟩
theorem pm_cd_38 : pm_CDP (⟨"PaidWhereMade$LawReader", "splitTape", "()V"⟩, prog_4_method_16_code, 5, none, 2, pc_38) := List.mem_filter.mpr ⟨pm_t3 _ (List.mem_of_getElem? (i := 45) rfl), rfl⟩
theorem pm_cd_39 : pm_CDP (⟨"PaidWhereMade$LawReader", "addToken", "(II)V"⟩, prog_4_method_17_code, 3, none, 2, pc_39) := List.mem_filter.mpr ⟨pm_t3 _ (List.mem_of_getElem? (i := 117) rfl), rfl⟩
theorem pm_cd_40 : pm_CDP (⟨"PaidWhereMade$LawReader", "byteAt", "(I)I"⟩, prog_4_method_18_code, 2, (some .int), 2, pc_40) := List.mem_filter.mpr ⟨pm_t3 _ (List.mem_of_getElem? (i := 49) rfl), rfl⟩
theorem pm_cd_41 : pm_CDP (⟨"PaidWhereMade$LawReader", "isBlank", "(I)Z"⟩, prog_4_method_19_code, 1, (some .boolean), 2, pc_41) := List.mem_filter.mpr ⟨pm_t3 _ (List.mem_of_getElem? (i := 131) rfl), rfl⟩
theorem pm_cd_42 : pm_CDP (⟨"PaidWhereMade$LawReader", "isLetter", "(I)Z"⟩, prog_4_method_20_code, 1, (some .boolean), 2, pc_42) := List.mem_filter.mpr ⟨pm_t3 _ (List.mem_of_getElem? (i := 52) rfl), rfl⟩
theorem pm_cd_43 : pm_CDP (⟨"PaidWhereMade$LawReader", "isDigit", "(I)Z"⟩, prog_4_method_21_code, 1, (some .boolean), 2, pc_43) := List.mem_filter.mpr ⟨pm_t3 _ (List.mem_of_getElem? (i := 120) rfl), rfl⟩
theorem pm_cd_44 : pm_CDP (⟨"PaidWhereMade$LawReader", "behindLetters", "(I)I"⟩, prog_4_method_22_code, 4, (some .int), 2, pc_44) := List.mem_filter.mpr ⟨pm_t3 _ (List.mem_of_getElem? (i := 56) rfl), rfl⟩
theorem pm_cd_45 : pm_CDP (⟨"PaidWhereMade$LawReader", "behindDigits", "(I)I"⟩, prog_4_method_23_code, 4, (some .int), 2, pc_45) := List.mem_filter.mpr ⟨pm_t3 _ (List.mem_of_getElem? (i := 124) rfl), rfl⟩
theorem pm_cd_46 : pm_CDP (⟨"PaidWhereMade$LawReader", "wordToken", "(II)I"⟩, prog_4_method_24_code, 6, (some .int), 2, pc_46) := List.mem_filter.mpr ⟨pm_t3 _ (List.mem_of_getElem? (i := 60) rfl), rfl⟩
theorem pm_cd_47 : pm_CDP (⟨"PaidWhereMade$LawReader", "isKeyword", "(III)Z"⟩, prog_4_method_25_code, 5, (some .boolean), 2, pc_47) := List.mem_filter.mpr ⟨pm_t3 _ (List.mem_of_getElem? (i := 113) rfl), rfl⟩
theorem pm_cd_48 : pm_CDP (⟨"PaidWhereMade$LawReader", "numberToken", "(II)I"⟩, prog_4_method_26_code, 5, (some .int), 2, pc_48) := List.mem_filter.mpr ⟨pm_t3 _ (List.mem_of_getElem? (i := 128) rfl), rfl⟩
theorem pm_cd_49 : pm_CDP (⟨"PaidWhereMade$LawReader", "signToken", "(I)I"⟩, prog_4_method_27_code, 2, (some .int), 2, pc_49) := List.mem_filter.mpr ⟨pm_t3 _ (List.mem_of_getElem? (i := 134) rfl), rfl⟩
theorem pm_cd_50 : pm_CDP (⟨"PaidWhereMade$Lines", "<init>", "()V"⟩, prog_5_method_1_code, 1, none, 3, pc_50) := List.mem_filter.mpr ⟨pm_t1 _ (List.mem_of_getElem? (i := 154) rfl), rfl⟩
theorem pm_cd_51 : pm_CDP (⟨"PaidWhereMade$Lines", "add", "(IIII)I"⟩, prog_5_method_2_code, 5, (some .int), 3, pc_51) := List.mem_filter.mpr ⟨pm_t5 _ (List.mem_of_getElem? (i := 75) rfl), rfl⟩
theorem pm_cd_52 : pm_CDP (⟨"PaidWhereMade$Lines", "fewestWrong", "(I)I"⟩, prog_5_method_3_code, 5, (some .int), 3, pc_52) := List.mem_filter.mpr ⟨pm_t5 _ (List.mem_of_getElem? (i := 83) rfl), rfl⟩
theorem pm_cd_53 : pm_CDP (⟨"PaidWhereMade$Lines", "seatNamed", "(I)I"⟩, prog_5_method_4_code, 4, (some .int), 3, pc_53) := List.mem_filter.mpr ⟨pm_t5 _ (List.mem_of_getElem? (i := 87) rfl), rfl⟩
theorem pm_cd_54 : pm_CDP (⟨"PaidWhereMade$Lines", "seat", "(II)I"⟩, prog_5_method_5_code, 3, (some .int), 3, pc_54) := List.mem_filter.mpr ⟨pm_t5 _ (List.mem_of_getElem? (i := 92) rfl), rfl⟩
theorem pm_cd_55 : pm_CDP (⟨"PaidWhereMade$Lines", "bitOf", "(I)I"⟩, prog_5_method_6_code, 2, (some .int), 3, pc_55) := List.mem_filter.mpr ⟨pm_t5 _ (List.mem_of_getElem? (i := 96) rfl), rfl⟩
theorem pm_cd_56 : pm_CDP (⟨"PaidWhereMade$Lines", "fewestOfSet", "(I)I"⟩, prog_5_method_7_code, 8, (some .int), 3, pc_56) := List.mem_filter.mpr ⟨pm_t5 _ (List.mem_of_getElem? (i := 105) rfl), rfl⟩
theorem pm_cd_57 : pm_CDP (⟨"PaidWhereMade$Lines", "wrongIfTogether", "(I)I"⟩, prog_5_method_8_code, 6, (some .int), 3, pc_57) := List.mem_filter.mpr ⟨pm_t5 _ (List.mem_of_getElem? (i := 100) rfl), rfl⟩
theorem pm_cd_58 : pm_CDP (⟨"PaidWhereMade$Lines", "meetingsBetween", "(II)I"⟩, prog_5_method_9_code, 5, (some .int), 3, pc_58) := List.mem_filter.mpr ⟨pm_t5 _ (List.mem_of_getElem? (i := 109) rfl), rfl⟩
theorem pm_cd_59 : pm_CDP (⟨"PaidWhereMade$Lines", "copyFrom", "(LPaidWhereMade$Lines;)V"⟩, prog_5_method_10_code, 2, none, 3, pc_59) := List.mem_filter.mpr ⟨pm_t5 _ (List.mem_of_getElem? (i := 137) rfl), rfl⟩
theorem pm_cd_60 : pm_CDP (⟨"PaidWhereMade$People", "<init>", "()V"⟩, prog_6_method_1_code, 1, none, 4, pc_60) := List.mem_filter.mpr ⟨pm_t1 _ (List.mem_of_getElem? (i := 68) rfl), rfl⟩
theorem pm_cd_61 : pm_CDP (⟨"PaidWhereMade$People", "has", "(I)Z"⟩, prog_6_method_2_code, 2, (some .boolean), 4, pc_61) := List.mem_filter.mpr ⟨pm_t2 _ (List.mem_of_getElem? (i := 231) rfl), rfl⟩
theorem pm_cd_62 : pm_CDP (⟨"PaidWhereMade$People", "add", "(III)I"⟩, prog_6_method_3_code, 5, (some .int), 4, pc_62) := List.mem_filter.mpr ⟨pm_t2 _ (List.mem_of_getElem? (i := 222) rfl), rfl⟩
theorem pm_cd_63 : pm_CDP (⟨"PaidWhereMade$People", "aimHome", "()V"⟩, prog_6_method_4_code, 1, none, 4, pc_63) := List.mem_filter.mpr ⟨pm_t4 _ (List.mem_of_getElem? (i := 96) rfl), rfl⟩
theorem pm_cd_64 : pm_CDP (⟨"PaidWhereMade$People", "countAt", "(I)I"⟩, prog_6_method_5_code, 4, (some .int), 4, pc_64) := List.mem_filter.mpr ⟨pm_t4 _ (List.mem_of_getElem? (i := 62) rfl), rfl⟩
theorem pm_cd_65 : pm_CDP (⟨"PaidWhereMade$People", "homesOf", "(I)I"⟩, prog_6_method_6_code, 4, (some .int), 4, pc_65) := List.mem_filter.mpr ⟨pm_t4 _ (List.mem_of_getElem? (i := 236) rfl), rfl⟩
theorem pm_cd_66 : pm_CDP (⟨"PaidWhereMade$People", "copyFrom", "(LPaidWhereMade$People;)V"⟩, prog_6_method_7_code, 2, none, 4, pc_66) := List.mem_filter.mpr ⟨pm_t5 _ (List.mem_of_getElem? (i := 128) rfl), rfl⟩
theorem pm_cd_67 : pm_CDP (⟨"PaidWhereMade$Plans", "<init>", "(LPaidWhereMade$Town;)V"⟩, prog_7_method_1_code, 2, none, 5, pc_67) := List.mem_filter.mpr ⟨pm_t2 _ (List.mem_of_getElem? (i := 96) rfl), rfl⟩
theorem pm_cd_68 : pm_CDP (⟨"PaidWhereMade$Plans", "clearing", "(I)I"⟩, prog_7_method_2_code, 3, (some .int), 5, pc_68) := List.mem_filter.mpr ⟨pm_t4 _ (List.mem_of_getElem? (i := 129) rfl), rfl⟩
theorem pm_cd_69 : pm_CDP (⟨"PaidWhereMade$Plans", "gatherOpen", "(II)Z"⟩, prog_7_method_3_code, 4, (some .boolean), 5, pc_69) := List.mem_filter.mpr ⟨pm_t4 _ (List.mem_of_getElem? (i := 133) rfl), rfl⟩
theorem pm_cd_70 : pm_CDP (⟨"PaidWhereMade$Plans", "noteClashes", "()V"⟩, prog_7_method_4_code, 4, none, 5, pc_70) := List.mem_filter.mpr ⟨pm_t4 _ (List.mem_of_getElem? (i := 138) rfl), rfl⟩
theorem pm_cd_71 : pm_CDP (⟨"PaidWhereMade$Plans", "countSundays", "(I)V"⟩, prog_7_method_5_code, 6, none, 5, pc_71) := List.mem_filter.mpr ⟨pm_t4 _ (List.mem_of_getElem? (i := 146) rfl), rfl⟩
theorem pm_cd_72 : pm_CDP (⟨"PaidWhereMade$Plans", "fewestSundays", "(II)I"⟩, prog_7_method_6_code, 5, (some .int), 5, pc_72) := List.mem_filter.mpr ⟨pm_t4 _ (List.mem_of_getElem? (i := 156) rfl), rfl⟩
theorem pm_cd_73 : pm_CDP (⟨"PaidWhereMade$Plans", "setOfSunday", "(II)I"⟩, prog_7_method_7_code, 6, (some .int), 5, pc_73) := List.mem_filter.mpr ⟨pm_t4 _ (List.mem_of_getElem? (i := 161) rfl), rfl⟩
theorem pm_cd_74 : pm_CDP (⟨"PaidWhereMade$Plans", "greatestSet", "(I)I"⟩, prog_7_method_8_code, 3, (some .int), 5, pc_74) := List.mem_filter.mpr ⟨pm_t4 _ (List.mem_of_getElem? (i := 165) rfl), rfl⟩
theorem pm_cd_75 : pm_CDP (⟨"PaidWhereMade$Plans", "paying", "(II)I"⟩, prog_7_method_9_code, 5, (some .int), 5, pc_75) := List.mem_filter.mpr ⟨pm_t4 _ (List.mem_of_getElem? (i := 173) rfl), rfl⟩
theorem pm_cd_76 : pm_CDP (⟨"PaidWhereMade$Plans", "growDebts", "()V"⟩, prog_7_method_10_code, 4, none, 5, pc_76) := List.mem_filter.mpr ⟨pm_t4 _ (List.mem_of_getElem? (i := 177) rfl), rfl⟩
theorem pm_cd_77 : pm_CDP (⟨"PaidWhereMade$Plans", "leastBehind", "(I)I"⟩, prog_7_method_11_code, 4, (some .int), 5, pc_77) := List.mem_filter.mpr ⟨pm_t4 _ (List.mem_of_getElem? (i := 182) rfl), rfl⟩
theorem pm_cd_78 : pm_CDP (⟨"PaidWhereMade$Plans", "costWithNext", "(II)I"⟩, prog_7_method_12_code, 3, (some .int), 5, pc_78) := List.mem_filter.mpr ⟨pm_t4 _ (List.mem_of_getElem? (i := 188) rfl), rfl⟩
theorem pm_cd_79 : pm_CDP (⟨"PaidWhereMade$Plans", "debtInOrder", "(I)I"⟩, prog_7_method_13_code, 5, (some .int), 5, pc_79) := List.mem_filter.mpr ⟨pm_t4 _ (List.mem_of_getElem? (i := 192) rfl), rfl⟩
theorem pm_cd_80 : pm_CDP (⟨"PaidWhereMade$Plans", "firstOfLeast", "(I)I"⟩, prog_7_method_14_code, 3, (some .int), 5, pc_80) := List.mem_filter.mpr ⟨pm_t4 _ (List.mem_of_getElem? (i := 196) rfl), rfl⟩
theorem pm_cd_81 : pm_CDP (⟨"PaidWhereMade$Spots", "<init>", "()V"⟩, prog_8_method_1_code, 2, none, 6, pc_81) := List.mem_filter.mpr ⟨pm_t1 _ (List.mem_of_getElem? (i := 40) rfl), rfl⟩
theorem pm_cd_82 : pm_CDP (⟨"PaidWhereMade$Spots", "has", "(I)Z"⟩, prog_8_method_2_code, 2, (some .boolean), 6, pc_82) := List.mem_filter.mpr ⟨pm_t2 _ (List.mem_of_getElem? (i := 213) rfl), rfl⟩
theorem pm_cd_83 : pm_CDP (⟨"PaidWhereMade$Spots", "add", "(I)I"⟩, prog_8_method_3_code, 2, (some .int), 6, pc_83) := List.mem_filter.mpr ⟨pm_t2 _ (List.mem_of_getElem? (i := 201) rfl), rfl⟩
theorem pm_cd_84 : pm_CDP (⟨"PaidWhereMade$Spots", "tellMiles", "(III)Z"⟩, prog_8_method_4_code, 4, (some .boolean), 6, pc_84) := List.mem_filter.mpr ⟨pm_t2 _ (List.mem_of_getElem? (i := 209) rfl), rfl⟩
theorem pm_cd_85 : pm_CDP (⟨"PaidWhereMade$Spots", "milesBetween", "(II)I"⟩, prog_8_method_5_code, 3, (some .int), 6, pc_85) := List.mem_filter.mpr ⟨pm_t3 _ (List.mem_of_getElem? (i := 236) rfl), rfl⟩
theorem pm_cd_86 : pm_CDP (⟨"PaidWhereMade$Spots", "tellChance", "(III)Z"⟩, prog_8_method_6_code, 6, (some .boolean), 6, pc_86) := List.mem_filter.mpr ⟨pm_t5 _ (List.mem_of_getElem? (i := 24) rfl), rfl⟩
theorem pm_cd_87 : pm_CDP (⟨"PaidWhereMade$Spots", "chanceAt", "(II)I"⟩, prog_8_method_7_code, 3, (some .int), 6, pc_87) := List.mem_filter.mpr ⟨pm_t5 _ (List.mem_of_getElem? (i := 28) rfl), rfl⟩
theorem pm_cd_88 : pm_CDP (⟨"PaidWhereMade$Spots", "copyFrom", "(LPaidWhereMade$Spots;)V"⟩, prog_8_method_8_code, 2, none, 6, pc_88) := List.mem_filter.mpr ⟨pm_t5 _ (List.mem_of_getElem? (i := 123) rfl), rfl⟩
theorem pm_cd_89 : pm_CDP (⟨"PaidWhereMade$Sundays", "<init>", "(LPaidWhereMade$Town;)V"⟩, prog_9_method_1_code, 2, none, 7, pc_89) := List.mem_filter.mpr ⟨pm_t2 _ (List.mem_of_getElem? (i := 70) rfl), rfl⟩
theorem pm_cd_90 : pm_CDP (⟨"PaidWhereMade$Sundays", "goBy", "()I"⟩, prog_9_method_2_code, 2, (some .int), 7, pc_90) := List.mem_filter.mpr ⟨pm_t3 _ (List.mem_of_getElem? (i := 217) rfl), rfl⟩
theorem pm_cd_91 : pm_CDP (⟨"PaidWhereMade$Sundays", "sendOut", "()V"⟩, prog_9_method_3_code, 3, none, 7, pc_91) := List.mem_filter.mpr ⟨pm_t3 _ (List.mem_of_getElem? (i := 221) rfl), rfl⟩
theorem pm_cd_92 : pm_CDP (⟨"PaidWhereMade$Sundays", "sendAway", "(II)V"⟩, prog_9_method_4_code, 3, none, 7, pc_92) := List.mem_filter.mpr ⟨pm_t3 _ (List.mem_of_getElem? (i := 231) rfl), rfl⟩
theorem pm_cd_93 : pm_CDP (⟨"PaidWhereMade$Sundays", "payAll", "()I"⟩, prog_9_method_5_code, 5, (some .int), 7, pc_93) := List.mem_filter.mpr ⟨pm_t4 _ (List.mem_of_getElem? (i := 54) rfl), rfl⟩
theorem pm_cd_94 : pm_CDP (⟨"PaidWhereMade$Sundays", "bothStandThere", "(I)Z"⟩, prog_9_method_6_code, 3, (some .boolean), 7, pc_94) := List.mem_filter.mpr ⟨pm_t4 _ (List.mem_of_getElem? (i := 8) rfl), rfl⟩
theorem pm_cd_95 : pm_CDP (⟨"PaidWhereMade$Sundays", "lawLets", "(I)Z"⟩, prog_9_method_7_code, 3, (some .boolean), 7, pc_95) := List.mem_filter.mpr ⟨pm_t4 _ (List.mem_of_getElem? (i := 58) rfl), rfl⟩
theorem pm_cd_96 : pm_CDP (⟨"PaidWhereMade$Sundays", "cancelAll", "()I"⟩, prog_9_method_8_code, 5, (some .int), 7, pc_96) := List.mem_filter.mpr ⟨pm_t4 _ (List.mem_of_getElem? (i := 0) rfl), rfl⟩
theorem pm_cd_97 : pm_CDP (⟨"PaidWhereMade$Sundays", "spotsWithTwoDebts", "()I"⟩, prog_9_method_9_code, 5, (some .int), 7, pc_97) := List.mem_filter.mpr ⟨pm_t4 _ (List.mem_of_getElem? (i := 4) rfl), rfl⟩
theorem pm_cd_98 : pm_CDP (⟨"PaidWhereMade$Sundays", "findRound", "(I)Z"⟩, prog_9_method_10_code, 6, (some .boolean), 7, pc_98) := List.mem_filter.mpr ⟨pm_t4 _ (List.mem_of_getElem? (i := 19) rfl), rfl⟩
theorem pm_cd_99 : pm_CDP (⟨"PaidWhereMade$Sundays", "noteWhoOwes", "(I)V"⟩, prog_9_method_11_code, 3, none, 7, pc_99) := List.mem_filter.mpr ⟨pm_t4 _ (List.mem_of_getElem? (i := 23) rfl), rfl⟩
theorem pm_cd_100 : pm_CDP (⟨"PaidWhereMade$Sundays", "stepsBetween", "(II)I"⟩, prog_9_method_12_code, 7, (some .int), 7, pc_100) := List.mem_filter.mpr ⟨pm_t4 _ (List.mem_of_getElem? (i := 28) rfl), rfl⟩
theorem pm_cd_101 : pm_CDP (⟨"PaidWhereMade$Sundays", "traceRound", "(II)V"⟩, prog_9_method_13_code, 7, none, 7, pc_101) := List.mem_filter.mpr ⟨pm_t4 _ (List.mem_of_getElem? (i := 32) rfl), rfl⟩
theorem pm_cd_102 : pm_CDP (⟨"PaidWhereMade$Sundays", "leastDebtTowards", "(III)I"⟩, prog_9_method_14_code, 6, (some .int), 7, pc_102) := List.mem_filter.mpr ⟨pm_t4 _ (List.mem_of_getElem? (i := 36) rfl), rfl⟩
theorem pm_cd_103 : pm_CDP (⟨"PaidWhereMade$Sundays", "cancelRound", "()I"⟩, prog_9_method_15_code, 5, (some .int), 7, pc_103) := List.mem_filter.mpr ⟨pm_t4 _ (List.mem_of_getElem? (i := 40) rfl), rfl⟩
theorem pm_cd_104 : pm_CDP (⟨"PaidWhereMade$Tours", "<init>", "(LPaidWhereMade$Town;)V"⟩, prog_10_method_1_code, 2, none, 8, pc_104) := List.mem_filter.mpr ⟨pm_t2 _ (List.mem_of_getElem? (i := 124) rfl), rfl⟩
theorem pm_cd_105 : pm_CDP (⟨"PaidWhereMade$Tours", "prepare", "(II)V"⟩, prog_10_method_2_code, 5, none, 8, pc_105) := List.mem_filter.mpr ⟨pm_t4 _ (List.mem_of_getElem? (i := 207) rfl), rfl⟩
theorem pm_cd_106 : pm_CDP (⟨"PaidWhereMade$Tours", "noteLegs", "(I)V"⟩, prog_10_method_3_code, 4, none, 8, pc_106) := List.mem_filter.mpr ⟨pm_t4 _ (List.mem_of_getElem? (i := 212) rfl), rfl⟩
theorem pm_cd_107 : pm_CDP (⟨"PaidWhereMade$Tours", "fewestTo", "(II)I"⟩, prog_10_method_4_code, 5, (some .int), 8, pc_107) := List.mem_filter.mpr ⟨pm_t4 _ (List.mem_of_getElem? (i := 217) rfl), rfl⟩
theorem pm_cd_108 : pm_CDP (⟨"PaidWhereMade$Tours", "fewestMiles", "(I)I"⟩, prog_10_method_5_code, 5, (some .int), 8, pc_108) := List.mem_filter.mpr ⟨pm_t4 _ (List.mem_of_getElem? (i := 223) rfl), rfl⟩
theorem pm_cd_109 : pm_CDP (⟨"PaidWhereMade$Tours", "coachShare", "(IIIZ)I"⟩, prog_10_method_6_code, 9, (some .int), 8, pc_109) := List.mem_filter.mpr ⟨pm_t4 _ (List.mem_of_getElem? (i := 231) rfl), rfl⟩
theorem pm_cd_110 : pm_CDP (⟨"PaidWhereMade$Tours", "sumOverOrders", "(III)I"⟩, prog_10_method_7_code, 8, (some .int), 8, pc_110) := List.mem_filter.mpr ⟨pm_t5 _ (List.mem_of_getElem? (i := 2) rfl), rfl⟩
theorem pm_cd_111 : pm_CDP (⟨"PaidWhereMade$Tours", "coachCost", "(I)I"⟩, prog_10_method_8_code, 2, (some .int), 8, pc_111) := List.mem_filter.mpr ⟨pm_t5 _ (List.mem_of_getElem? (i := 6) rfl), rfl⟩
theorem pm_cd_112 : pm_CDP (⟨"PaidWhereMade$Tours", "ordersOf", "(I)I"⟩, prog_10_method_9_code, 3, (some .int), 8, pc_112) := List.mem_filter.mpr ⟨pm_t5 _ (List.mem_of_getElem? (i := 10) rfl), rfl⟩
theorem pm_cd_113 : pm_CDP (⟨"PaidWhereMade$Tours", "commonPart", "(II)I"⟩, prog_10_method_10_code, 6, (some .int), 8, pc_113) := List.mem_filter.mpr ⟨pm_t5 _ (List.mem_of_getElem? (i := 16) rfl), rfl⟩
theorem pm_cd_114 : pm_CDP (⟨"PaidWhereMade$Town", "<init>", "()V"⟩, prog_11_method_1_code, 1, none, 9, pc_114) := List.mem_filter.mpr ⟨pm_t1 _ (List.mem_of_getElem? (i := 34) rfl), rfl⟩
theorem pm_cd_115 : pm_CDP (⟨"PaidWhereMade$Town", "tellSetting", "(II)Z"⟩, prog_11_method_2_code, 3, (some .boolean), 9, pc_115) := List.mem_filter.mpr ⟨pm_t3 _ (List.mem_of_getElem? (i := 3) rfl), rfl⟩
theorem pm_cd_116 : pm_CDP (⟨"PaidWhereMade$Town", "leastSetting", "(I)I"⟩, prog_11_method_3_code, 1, (some .int), 9, pc_116) := List.mem_filter.mpr ⟨pm_t3 _ (List.mem_of_getElem? (i := 6) rfl), rfl⟩
theorem pm_cd_117 : pm_CDP (⟨"PaidWhereMade$Town", "greatestSetting", "(I)I"⟩, prog_11_method_4_code, 1, (some .int), 9, pc_117) := List.mem_filter.mpr ⟨pm_t3 _ (List.mem_of_getElem? (i := 9) rfl), rfl⟩
theorem pm_cd_118 : pm_CDP (⟨"PaidWhereMade$Town", "draw", "(I)I"⟩, prog_11_method_5_code, 2, (some .int), 9, pc_118) := List.mem_filter.mpr ⟨pm_t3 _ (List.mem_of_getElem? (i := 225) rfl), rfl⟩
theorem pm_cd_119 : pm_CDP (⟨"PaidWhereMade$Town", "copyFrom", "(LPaidWhereMade$Town;)V"⟩, prog_11_method_6_code, 2, none, 9, pc_119) := List.mem_filter.mpr ⟨pm_t5 _ (List.mem_of_getElem? (i := 118) rfl), rfl⟩
theorem pm_cd_120 : pm_CDP (⟨"PaidWhereMade$Waits", "<init>", "(LPaidWhereMade$Spots;)V"⟩, prog_12_method_1_code, 2, none, 10, pc_120) := List.mem_filter.mpr ⟨pm_t2 _ (List.mem_of_getElem? (i := 149) rfl), rfl⟩
theorem pm_cd_121 : pm_CDP (⟨"PaidWhereMade$Waits", "answer", "(III)J"⟩, prog_12_method_2_code, 4, (some .long), 10, pc_121) := List.mem_filter.mpr ⟨pm_t5 _ (List.mem_of_getElem? (i := 37) rfl), rfl⟩
theorem pm_cd_122 : pm_CDP (⟨"PaidWhereMade$Waits", "prepare", "(I)V"⟩, prog_12_method_3_code, 5, none, 10, pc_122) := List.mem_filter.mpr ⟨pm_t5 _ (List.mem_of_getElem? (i := 42) rfl), rfl⟩
theorem pm_cd_123 : pm_CDP (⟨"PaidWhereMade$Waits", "stand", "(II)V"⟩, prog_12_method_4_code, 8, none, 10, pc_123) := List.mem_filter.mpr ⟨pm_t5 _ (List.mem_of_getElem? (i := 46) rfl), rfl⟩
theorem pm_cd_124 : pm_CDP (⟨"PaidWhereMade$Waits", "tryWalk", "(III)V"⟩, prog_12_method_5_code, 11, none, 10, pc_124) := List.mem_filter.mpr ⟨pm_t5 _ (List.mem_of_getElem? (i := 54) rfl), rfl⟩
theorem pm_cd_125 : pm_CDP (⟨"PaidWhereMade$Waits", "hoursOfWalk", "(II)I"⟩, prog_12_method_6_code, 3, (some .int), 10, pc_125) := List.mem_filter.mpr ⟨pm_t5 _ (List.mem_of_getElem? (i := 58) rfl), rfl⟩
theorem pm_cd_126 : pm_CDP (⟨"PaidWhereMade$Waits", "repeated", "(II)J"⟩, prog_12_method_7_code, 5, (some .long), 10, pc_126) := List.mem_filter.mpr ⟨pm_t5 _ (List.mem_of_getElem? (i := 50) rfl), rfl⟩
theorem pm_cd_127 : pm_CDP (⟨"PaidWhereMade", "<init>", "()V"⟩, prog_1_method_1_code, 1, none, 11, pc_127) := List.mem_filter.mpr ⟨pm_t1 _ (List.mem_of_getElem? (i := 26) rfl), rfl⟩
theorem pm_cd_128 : pm_CDP (⟨"PaidWhereMade", "state", "(I)I"⟩, prog_1_method_2_code, 3, (some .int), 11, pc_128) := List.mem_filter.mpr ⟨pm_t2 _ (List.mem_of_getElem? (i := 193) rfl), rfl⟩
theorem pm_cd_129 : pm_CDP (⟨"PaidWhereMade", "spot", "(I)I"⟩, prog_1_method_3_code, 2, (some .int), 11, pc_129) := List.mem_filter.mpr ⟨pm_t2 _ (List.mem_of_getElem? (i := 197) rfl), rfl⟩
theorem pm_cd_130 : pm_CDP (⟨"PaidWhereMade", "way", "(III)Z"⟩, prog_1_method_4_code, 4, (some .boolean), 11, pc_130) := List.mem_filter.mpr ⟨pm_t2 _ (List.mem_of_getElem? (i := 205) rfl), rfl⟩
theorem pm_cd_131 : pm_CDP (⟨"PaidWhereMade", "person", "(III)I"⟩, prog_1_method_5_code, 4, (some .int), 11, pc_131) := List.mem_filter.mpr ⟨pm_t2 _ (List.mem_of_getElem? (i := 217) rfl), rfl⟩
theorem pm_cd_132 : pm_CDP (⟨"PaidWhereMade", "debt", "(IIII)I"⟩, prog_1_method_6_code, 6, (some .int), 11, pc_132) := List.mem_filter.mpr ⟨pm_t2 _ (List.mem_of_getElem? (i := 227) rfl), rfl⟩
theorem pm_cd_133 : pm_CDP (⟨"PaidWhereMade", "set", "(II)Z"⟩, prog_1_method_7_code, 3, (some .boolean), 11, pc_133) := List.mem_filter.mpr ⟨pm_t2 _ (List.mem_of_getElem? (i := 239) rfl), rfl⟩
theorem pm_cd_134 : pm_CDP (⟨"PaidWhereMade", "goal", "(II)Z"⟩, prog_1_method_8_code, 3, (some .boolean), 11, pc_134) := List.mem_filter.mpr ⟨pm_t3 _ (List.mem_of_getElem? (i := 13) rfl), rfl⟩
theorem pm_cd_135 : pm_CDP (⟨"PaidWhereMade", "feed", "(IIIII)I"⟩, prog_1_method_9_code, 6, (some .int), 11, pc_135) := List.mem_filter.mpr ⟨pm_t3 _ (List.mem_of_getElem? (i := 17) rfl), rfl⟩
theorem pm_cd_136 : pm_CDP (⟨"PaidWhereMade", "end", "(I)Z"⟩, prog_1_method_10_code, 2, (some .boolean), 11, pc_136) := List.mem_filter.mpr ⟨pm_t3 _ (List.mem_of_getElem? (i := 29) rfl), rfl⟩
theorem pm_cd_137 : pm_CDP (⟨"PaidWhereMade", "text", "()I"⟩, prog_1_method_11_code, 1, (some .int), 11, pc_137) := List.mem_filter.mpr ⟨pm_t3 _ (List.mem_of_getElem? (i := 37) rfl), rfl⟩
theorem pm_cd_138 : pm_CDP (⟨"PaidWhereMade", "fault", "(I)I"⟩, prog_1_method_12_code, 2, (some .int), 11, pc_138) := List.mem_filter.mpr ⟨pm_t3 _ (List.mem_of_getElem? (i := 209) rfl), rfl⟩
theorem pm_cd_139 : pm_CDP (⟨"PaidWhereMade", "sunday", "()I"⟩, prog_1_method_13_code, 1, (some .int), 11, pc_139) := List.mem_filter.mpr ⟨pm_t3 _ (List.mem_of_getElem? (i := 213) rfl), rfl⟩
theorem pm_cd_140 : pm_CDP (⟨"PaidWhereMade", "pass", "(I)I"⟩, prog_1_method_14_code, 4, (some .int), 11, pc_140) := List.mem_filter.mpr ⟨pm_t4 _ (List.mem_of_getElem? (i := 101) rfl), rfl⟩
theorem pm_cd_141 : pm_CDP (⟨"PaidWhereMade", "of", "(II)I"⟩, prog_1_method_15_code, 3, (some .int), 11, pc_141) := List.mem_filter.mpr ⟨pm_t4 _ (List.mem_of_getElem? (i := 106) rfl), rfl⟩
theorem pm_cd_142 : pm_CDP (⟨"PaidWhereMade", "owed", "(II)I"⟩, prog_1_method_16_code, 3, (some .int), 11, pc_142) := List.mem_filter.mpr ⟨pm_t4 _ (List.mem_of_getElem? (i := 118) rfl), rfl⟩
theorem pm_cd_143 : pm_CDP (⟨"PaidWhereMade", "cleared", "(I)I"⟩, prog_1_method_17_code, 2, (some .int), 11, pc_143) := List.mem_filter.mpr ⟨pm_t4 _ (List.mem_of_getElem? (i := 125) rfl), rfl⟩
theorem pm_cd_144 : pm_CDP (⟨"PaidWhereMade", "first", "(II)I"⟩, prog_1_method_18_code, 3, (some .int), 11, pc_144) := List.mem_filter.mpr ⟨pm_t4 _ (List.mem_of_getElem? (i := 169) rfl), rfl⟩
theorem pm_cd_145 : pm_CDP (⟨"PaidWhereMade", "tour", "(II)I"⟩, prog_1_method_19_code, 3, (some .int), 11, pc_145) := List.mem_filter.mpr ⟨pm_t4 _ (List.mem_of_getElem? (i := 200) rfl), rfl⟩
theorem pm_cd_146 : pm_CDP (⟨"PaidWhereMade", "share", "(IIII)I"⟩, prog_1_method_20_code, 6, (some .int), 11, pc_146) := List.mem_filter.mpr ⟨pm_t4 _ (List.mem_of_getElem? (i := 227) rfl), rfl⟩
theorem pm_cd_147 : pm_CDP (⟨"PaidWhereMade", "chance", "(III)Z"⟩, prog_1_method_21_code, 4, (some .boolean), 11, pc_147) := List.mem_filter.mpr ⟨pm_t5 _ (List.mem_of_getElem? (i := 20) rfl), rfl⟩
theorem pm_cd_148 : pm_CDP (⟨"PaidWhereMade", "waiting", "(III)J"⟩, prog_1_method_22_code, 4, (some .long), 11, pc_148) := List.mem_filter.mpr ⟨pm_t5 _ (List.mem_of_getElem? (i := 32) rfl), rfl⟩
theorem pm_cd_149 : pm_CDP (⟨"PaidWhereMade", "line", "(IIII)I"⟩, prog_1_method_23_code, 7, (some .int), 11, pc_149) := List.mem_filter.mpr ⟨pm_t5 _ (List.mem_of_getElem? (i := 68) rfl), rfl⟩
theorem pm_cd_150 : pm_CDP (⟨"PaidWhereMade", "wrong", "(I)I"⟩, prog_1_method_24_code, 2, (some .int), 11, pc_150) := List.mem_filter.mpr ⟨pm_t5 _ (List.mem_of_getElem? (i := 79) rfl), rfl⟩
theorem pm_cd_151 : pm_CDP (⟨"PaidWhereMade", "image", "(Z)Z"⟩, prog_1_method_25_code, 2, (some .boolean), 11, pc_151) := List.mem_filter.mpr ⟨pm_t5 _ (List.mem_of_getElem? (i := 114) rfl), rfl⟩
theorem pm_cd_152 : pm_CDP (⟨"PaidWhereMade", "look", "(I)I"⟩, prog_1_method_26_code, 2, (some .int), 11, pc_152) := List.mem_filter.mpr ⟨pm_t5 _ (List.mem_of_getElem? (i := 143) rfl), rfl⟩
theorem pm_cd_153 : pm_CDP (⟨"PaidWhereMade", "lookAtSetting", "(I)I"⟩, prog_1_method_27_code, 2, (some .int), 11, pc_153) := List.mem_filter.mpr ⟨pm_t5 _ (List.mem_of_getElem? (i := 151) rfl), rfl⟩
theorem pm_cd_154 : pm_CDP (⟨"PaidWhereMade", "isSunday", "(I)Z"⟩, prog_1_method_28_code, 1, (some .boolean), 11, pc_154) := List.mem_filter.mpr ⟨pm_t5 _ (List.mem_of_getElem? (i := 71) rfl), rfl⟩
theorem pm_cd_155 : pm_CDP (⟨"PaidWhereMade", "isSetOf", "(II)Z"⟩, prog_1_method_29_code, 2, (some .boolean), 11, pc_155) := List.mem_filter.mpr ⟨pm_t4 _ (List.mem_of_getElem? (i := 203) rfl), rfl⟩
theorem pm_cd_156 : pm_CDP (⟨"PaidWhereMade", "isIn", "(II)Z"⟩, prog_1_method_30_code, 2, (some .boolean), 11, pc_156) := List.mem_filter.mpr ⟨pm_t4 _ (List.mem_of_getElem? (i := 15) rfl), rfl⟩
theorem pm_cd_157 : pm_CDP (⟨"PaidWhereMade", "copyRow", "([I[I)V"⟩, prog_1_method_31_code, 2, none, 11, pc_157) := List.mem_filter.mpr ⟨pm_t3 _ (List.mem_of_getElem? (i := 198) rfl), rfl⟩
theorem pm_cd_158 : pm_CDP (⟨"PaidWhereMadeModel", "<init>", "()V"⟩, prog_14_method_1_code, 1, none, 12, pc_158) := List.mem_filter.mpr ⟨pm_t5 _ (List.mem_of_getElem? (i := 156) rfl), rfl⟩
theorem pm_cd_159 : pm_CDP (⟨"PaidWhereMadeModel", "isIn", "(III)Z"⟩, prog_14_method_3_code, 4, (some .boolean), 12, pc_159) := List.mem_filter.mpr ⟨pm_t6 _ (List.mem_of_getElem? (i := 131) rfl), rfl⟩
theorem pm_cd_160 : pm_CDP (⟨"PaidWhereMadeModel", "ones", "(I)I"⟩, prog_14_method_4_code, 4, (some .int), 12, pc_160) := List.mem_filter.mpr ⟨pm_t7 _ (List.mem_of_getElem? (i := 139) rfl), rfl⟩
theorem pm_cd_161 : pm_CDP (⟨"PaidWhereMadeModel", "state", "(I)I"⟩, prog_14_method_5_code, 3, (some .int), 12, pc_161) := List.mem_filter.mpr ⟨pm_t6 _ (List.mem_of_getElem? (i := 123) rfl), rfl⟩
theorem pm_cd_162 : pm_CDP (⟨"PaidWhereMadeModel", "draw", "(I)I"⟩, prog_14_method_6_code, 2, (some .int), 12, pc_162) := List.mem_filter.mpr ⟨pm_t7 _ (List.mem_of_getElem? (i := 32) rfl), rfl⟩
theorem pm_cd_163 : pm_CDP (⟨"PaidWhereMadeModel", "isSpot", "(I)Z"⟩, prog_14_method_7_code, 2, (some .boolean), 12, pc_163) := List.mem_filter.mpr ⟨pm_t6 _ (List.mem_of_getElem? (i := 139) rfl), rfl⟩
theorem pm_cd_164 : pm_CDP (⟨"PaidWhereMadeModel", "isOne", "(I)Z"⟩, prog_14_method_8_code, 2, (some .boolean), 12, pc_164) := List.mem_filter.mpr ⟨pm_t6 _ (List.mem_of_getElem? (i := 152) rfl), rfl⟩
theorem pm_cd_165 : pm_CDP (⟨"PaidWhereMadeModel", "milesOf", "(II)I"⟩, prog_14_method_9_code, 3, (some .int), 12, pc_165) := List.mem_filter.mpr ⟨pm_t7 _ (List.mem_of_getElem? (i := 42) rfl), rfl⟩
theorem pm_cd_166 : pm_CDP (⟨"PaidWhereMadeModel", "spot", "(I)I"⟩, prog_14_method_10_code, 2, (some .int), 12, pc_166) := List.mem_filter.mpr ⟨pm_t6 _ (List.mem_of_getElem? (i := 127) rfl), rfl⟩
theorem pm_cd_167 : pm_CDP (⟨"PaidWhereMadeModel", "way", "(III)Z"⟩, prog_14_method_11_code, 4, (some .boolean), 12, pc_167) := List.mem_filter.mpr ⟨pm_t6 _ (List.mem_of_getElem? (i := 135) rfl), rfl⟩
theorem pm_cd_168 : pm_CDP (⟨"PaidWhereMadeModel", "person", "(III)I"⟩, prog_14_method_12_code, 4, (some .int), 12, pc_168) := List.mem_filter.mpr ⟨pm_t6 _ (List.mem_of_getElem? (i := 143) rfl), rfl⟩
theorem pm_cd_169 : pm_CDP (⟨"PaidWhereMadeModel", "debt", "(IIII)I"⟩, prog_14_method_13_code, 5, (some .int), 12, pc_169) := List.mem_filter.mpr ⟨pm_t6 _ (List.mem_of_getElem? (i := 148) rfl), rfl⟩
theorem pm_cd_170 : pm_CDP (⟨"PaidWhereMadeModel", "leastOf", "(I)I"⟩, prog_14_method_14_code, 2, (some .int), 12, pc_170) := List.mem_filter.mpr ⟨pm_t6 _ (List.mem_of_getElem? (i := 160) rfl), rfl⟩
theorem pm_cd_171 : pm_CDP (⟨"PaidWhereMadeModel", "mostOf", "(I)I"⟩, prog_14_method_15_code, 2, (some .int), 12, pc_171) := List.mem_filter.mpr ⟨pm_t6 _ (List.mem_of_getElem? (i := 164) rfl), rfl⟩
theorem pm_cd_172 : pm_CDP (⟨"PaidWhereMadeModel", "set", "(II)Z"⟩, prog_14_method_16_code, 3, (some .boolean), 12, pc_172) := List.mem_filter.mpr ⟨pm_t6 _ (List.mem_of_getElem? (i := 156) rfl), rfl⟩
theorem pm_cd_173 : pm_CDP (⟨"PaidWhereMadeModel", "goal", "(II)Z"⟩, prog_14_method_17_code, 3, (some .boolean), 12, pc_173) := List.mem_filter.mpr ⟨pm_t6 _ (List.mem_of_getElem? (i := 168) rfl), rfl⟩
theorem pm_cd_174 : pm_CDP (⟨"PaidWhereMadeModel", "types", "(I)V"⟩, prog_14_method_18_code, 3, none, 12, pc_174) := List.mem_filter.mpr ⟨pm_t6 _ (List.mem_of_getElem? (i := 176) rfl), rfl⟩
theorem pm_cd_175 : pm_CDP (⟨"PaidWhereMadeModel", "feed", "(IIIII)I"⟩, prog_14_method_19_code, 6, (some .int), 12, pc_175) := List.mem_filter.mpr ⟨pm_t6 _ (List.mem_of_getElem? (i := 172) rfl), rfl⟩
theorem pm_cd_176 : pm_CDP (⟨"PaidWhereMadeModel", "end", "(I)Z"⟩, prog_14_method_20_code, 2, (some .boolean), 12, pc_176) := List.mem_filter.mpr ⟨pm_t6 _ (List.mem_of_getElem? (i := 180) rfl), rfl⟩
theorem pm_cd_177 : pm_CDP (⟨"PaidWhereMadeModel", "raw", "(I)I"⟩, prog_14_method_21_code, 2, (some .int), 12, pc_177) := List.mem_filter.mpr ⟨pm_t6 _ (List.mem_of_getElem? (i := 192) rfl), rfl⟩
theorem pm_cd_178 : pm_CDP (⟨"PaidWhereMadeModel", "isLetter", "(I)Z"⟩, prog_14_method_22_code, 2, (some .boolean), 12, pc_178) := List.mem_filter.mpr ⟨pm_t6 _ (List.mem_of_getElem? (i := 196) rfl), rfl⟩
theorem pm_cd_179 : pm_CDP (⟨"PaidWhereMadeModel", "isDigit", "(I)Z"⟩, prog_14_method_23_code, 2, (some .boolean), 12, pc_179) := List.mem_filter.mpr ⟨pm_t6 _ (List.mem_of_getElem? (i := 204) rfl), rfl⟩
theorem pm_cd_180 : pm_CDP (⟨"PaidWhereMadeModel", "isMarkSign", "(I)Z"⟩, prog_14_method_24_code, 2, (some .boolean), 12, pc_180) := List.mem_filter.mpr ⟨pm_t6 _ (List.mem_of_getElem? (i := 208) rfl), rfl⟩
theorem pm_cd_181 : pm_CDP (⟨"PaidWhereMadeModel", "wordAt", "(II)I"⟩, prog_14_method_25_code, 6, (some .int), 12, pc_181) := List.mem_filter.mpr ⟨pm_t6 _ (List.mem_of_getElem? (i := 200) rfl), rfl⟩
theorem pm_cd_182 : pm_CDP (⟨"PaidWhereMadeModel", "reads", "()V"⟩, prog_14_method_26_code, 2, none, 12, pc_182) := List.mem_filter.mpr ⟨pm_t6 _ (List.mem_of_getElem? (i := 188) rfl), rfl⟩
theorem pm_cd_183 : pm_CDP (⟨"PaidWhereMadeModel", "errs", "(I)I"⟩, prog_14_method_27_code, 2, (some .int), 12, pc_183) := List.mem_filter.mpr ⟨pm_t6 _ (List.mem_of_getElem? (i := 216) rfl), rfl⟩
theorem pm_cd_184 : pm_CDP (⟨"PaidWhereMadeModel", "isWord", "(I)Z"⟩, prog_14_method_28_code, 2, (some .boolean), 12, pc_184) := List.mem_filter.mpr ⟨pm_t6 _ (List.mem_of_getElem? (i := 220) rfl), rfl⟩
theorem pm_cd_185 : pm_CDP (⟨"PaidWhereMadeModel", "isSign", "(I)Z"⟩, prog_14_method_29_code, 2, (some .boolean), 12, pc_185) := List.mem_filter.mpr ⟨pm_t6 _ (List.mem_of_getElem? (i := 228) rfl), rfl⟩
theorem pm_cd_186 : pm_CDP (⟨"PaidWhereMadeModel", "emits", "(II)V"⟩, prog_14_method_30_code, 3, none, 12, pc_186) := List.mem_filter.mpr ⟨pm_t7 _ (List.mem_of_getElem? (i := 12) rfl), rfl⟩
theorem pm_cd_187 : pm_CDP (⟨"PaidWhereMadeModel", "readUnit", "()I"⟩, prog_14_method_31_code, 2, (some .int), 12, pc_187) := List.mem_filter.mpr ⟨pm_t7 _ (List.mem_of_getElem? (i := 8) rfl), rfl⟩
theorem pm_cd_188 : pm_CDP (⟨"PaidWhereMadeModel", "readProduct", "()I"⟩, prog_14_method_32_code, 2, (some .int), 12, pc_188) := List.mem_filter.mpr ⟨pm_t7 _ (List.mem_of_getElem? (i := 4) rfl), rfl⟩
theorem pm_cd_189 : pm_CDP (⟨"PaidWhereMadeModel", "readSum", "()I"⟩, prog_14_method_33_code, 2, (some .int), 12, pc_189) := List.mem_filter.mpr ⟨pm_t7 _ (List.mem_of_getElem? (i := 0) rfl), rfl⟩
theorem pm_cd_190 : pm_CDP (⟨"PaidWhereMadeModel", "readCompared", "()I"⟩, prog_14_method_34_code, 2, (some .int), 12, pc_190) := List.mem_filter.mpr ⟨pm_t6 _ (List.mem_of_getElem? (i := 236) rfl), rfl⟩
theorem pm_cd_191 : pm_CDP (⟨"PaidWhereMadeModel", "waits", "(I)V"⟩, prog_14_method_35_code, 2, none, 12, pc_191) := List.mem_filter.mpr ⟨pm_t6 _ (List.mem_of_getElem? (i := 232) rfl), rfl⟩
theorem pm_cd_192 : pm_CDP (⟨"PaidWhereMadeModel", "settles", "(I)V"⟩, prog_14_method_36_code, 2, none, 12, pc_192) := List.mem_filter.mpr ⟨pm_t7 _ (List.mem_of_getElem? (i := 16) rfl), rfl⟩
theorem pm_cd_193 : pm_CDP (⟨"PaidWhereMadeModel", "readAny", "()I"⟩, prog_14_method_37_code, 4, (some .int), 12, pc_193) := List.mem_filter.mpr ⟨pm_t6 _ (List.mem_of_getElem? (i := 224) rfl), rfl⟩
theorem pm_cd_194 : pm_CDP (⟨"PaidWhereMadeModel", "readText", "()I"⟩, prog_14_method_38_code, 3, (some .int), 12, pc_194) := List.mem_filter.mpr ⟨pm_t6 _ (List.mem_of_getElem? (i := 212) rfl), rfl⟩
theorem pm_cd_195 : pm_CDP (⟨"PaidWhereMadeModel", "text", "()I"⟩, prog_14_method_39_code, 3, (some .int), 12, pc_195) := List.mem_filter.mpr ⟨pm_t6 _ (List.mem_of_getElem? (i := 184) rfl), rfl⟩
theorem pm_cd_196 : pm_CDP (⟨"PaidWhereMadeModel", "fault", "(I)I"⟩, prog_14_method_40_code, 2, (some .int), 12, pc_196) := List.mem_filter.mpr ⟨pm_t7 _ (List.mem_of_getElem? (i := 20) rfl), rfl⟩
theorem pm_cd_197 : pm_CDP (⟨"PaidWhereMadeModel", "twoOf", "(III)I"⟩, prog_14_method_41_code, 4, (some .int), 12, pc_197) := List.mem_filter.mpr ⟨pm_t7 _ (List.mem_of_getElem? (i := 90) rfl), rfl⟩
theorem pm_cd_198 : pm_CDP (⟨"PaidWhereMadeModel", "isSo", "(II)Z"⟩, prog_14_method_42_code, 5, (some .boolean), 12, pc_198) := List.mem_filter.mpr ⟨pm_t7 _ (List.mem_of_getElem? (i := 86) rfl), rfl⟩
theorem pm_cd_199 : pm_CDP (⟨"PaidWhereMadeModel", "isOpen", "(I)Z"⟩, prog_14_method_43_code, 2, (some .boolean), 12, pc_199) := List.mem_filter.mpr ⟨pm_t7 _ (List.mem_of_getElem? (i := 58) rfl), rfl⟩
theorem pm_cd_200 : pm_CDP (⟨"PaidWhereMadeModel", "hereAt", "(I)I"⟩, prog_14_method_44_code, 4, (some .int), 12, pc_200) := List.mem_filter.mpr ⟨pm_t7 _ (List.mem_of_getElem? (i := 82) rfl), rfl⟩
theorem pm_cd_201 : pm_CDP (⟨"PaidWhereMadeModel", "lets", "(I)Z"⟩, prog_14_method_45_code, 3, (some .boolean), 12, pc_201) := List.mem_filter.mpr ⟨pm_t7 _ (List.mem_of_getElem? (i := 78) rfl), rfl⟩
theorem pm_cd_202 : pm_CDP (⟨"PaidWhereMadeModel", "goes", "(Z)V"⟩, prog_14_method_46_code, 5, none, 12, pc_202) := List.mem_filter.mpr ⟨pm_t7 _ (List.mem_of_getElem? (i := 38) rfl), rfl⟩
theorem pm_cd_203 : pm_CDP (⟨"PaidWhereMadeModel", "areBothAt", "(II)Z"⟩, prog_14_method_47_code, 3, (some .boolean), 12, pc_203) := List.mem_filter.mpr ⟨pm_t7 _ (List.mem_of_getElem? (i := 62) rfl), rfl⟩
theorem pm_cd_204 : pm_CDP (⟨"PaidWhereMadeModel", "findsRound", "(II)Z"⟩, prog_14_method_48_code, 5, (some .boolean), 12, pc_204) := List.mem_filter.mpr ⟨pm_t7 _ (List.mem_of_getElem? (i := 50) rfl), rfl⟩
theorem pm_cd_205 : pm_CDP (⟨"PaidWhereMadeModel", "canBeNext", "(IIII)Z"⟩, prog_14_method_49_code, 6, (some .boolean), 12, pc_205) := List.mem_filter.mpr ⟨pm_t7 _ (List.mem_of_getElem? (i := 54) rfl), rfl⟩
theorem pm_cd_206 : pm_CDP (⟨"PaidWhereMadeModel", "isPaid", "(II)V"⟩, prog_14_method_50_code, 3, none, 12, pc_206) := List.mem_filter.mpr ⟨pm_t7 _ (List.mem_of_getElem? (i := 70) rfl), rfl⟩
theorem pm_cd_207 : pm_CDP (⟨"PaidWhereMadeModel", "cancels", "(I)V"⟩, prog_14_method_51_code, 4, none, 12, pc_207) := List.mem_filter.mpr ⟨pm_t7 _ (List.mem_of_getElem? (i := 66) rfl), rfl⟩
theorem pm_cd_208 : pm_CDP (⟨"PaidWhereMadeModel", "cancelsAt", "(I)V"⟩, prog_14_method_52_code, 3, none, 12, pc_208) := List.mem_filter.mpr ⟨pm_t7 _ (List.mem_of_getElem? (i := 46) rfl), rfl⟩
theorem pm_cd_209 : pm_CDP (⟨"PaidWhereMadeModel", "pays", "(I)V"⟩, prog_14_method_53_code, 2, none, 12, pc_209) := List.mem_filter.mpr ⟨pm_t7 _ (List.mem_of_getElem? (i := 74) rfl), rfl⟩
theorem pm_cd_210 : pm_CDP (⟨"PaidWhereMadeModel", "goesBy", "()I"⟩, prog_14_method_54_code, 4, (some .int), 12, pc_210) := List.mem_filter.mpr ⟨pm_t7 _ (List.mem_of_getElem? (i := 28) rfl), rfl⟩
theorem pm_cd_211 : pm_CDP (⟨"PaidWhereMadeModel", "sunday", "()I"⟩, prog_14_method_55_code, 1, (some .int), 12, pc_211) := List.mem_filter.mpr ⟨pm_t7 _ (List.mem_of_getElem? (i := 24) rfl), rfl⟩
theorem pm_cd_212 : pm_CDP (⟨"PaidWhereMadeModel", "pass", "(I)I"⟩, prog_14_method_56_code, 4, (some .int), 12, pc_212) := List.mem_filter.mpr ⟨pm_t7 _ (List.mem_of_getElem? (i := 94) rfl), rfl⟩
theorem pm_cd_213 : pm_CDP (⟨"PaidWhereMadeModel", "sumOf", "(IZ)I"⟩, prog_14_method_57_code, 5, (some .int), 12, pc_213) := List.mem_filter.mpr ⟨pm_t7 _ (List.mem_of_getElem? (i := 102) rfl), rfl⟩
theorem pm_cd_214 : pm_CDP (⟨"PaidWhereMadeModel", "of", "(II)I"⟩, prog_14_method_58_code, 3, (some .int), 12, pc_214) := List.mem_filter.mpr ⟨pm_t7 _ (List.mem_of_getElem? (i := 98) rfl), rfl⟩
theorem pm_cd_215 : pm_CDP (⟨"PaidWhereMadeModel", "owed", "(II)I"⟩, prog_14_method_59_code, 3, (some .int), 12, pc_215) := List.mem_filter.mpr ⟨pm_t7 _ (List.mem_of_getElem? (i := 106) rfl), rfl⟩
theorem pm_cd_216 : pm_CDP (⟨"PaidWhereMadeModel", "areOnOne", "(I)Z"⟩, prog_14_method_60_code, 7, (some .boolean), 12, pc_216) := List.mem_filter.mpr ⟨pm_t7 _ (List.mem_of_getElem? (i := 118) rfl), rfl⟩
theorem pm_cd_217 : pm_CDP (⟨"PaidWhereMadeModel", "greatest", "(II)I"⟩, prog_14_method_61_code, 4, (some .int), 12, pc_217) := List.mem_filter.mpr ⟨pm_t7 _ (List.mem_of_getElem? (i := 127) rfl), rfl⟩
theorem pm_cd_218 : pm_CDP (⟨"PaidWhereMadeModel", "leastFor", "(I)I"⟩, prog_14_method_62_code, 4, (some .int), 12, pc_218) := List.mem_filter.mpr ⟨pm_t7 _ (List.mem_of_getElem? (i := 122) rfl), rfl⟩
theorem pm_cd_219 : pm_CDP (⟨"PaidWhereMadeModel", "takesOpen", "(I)V"⟩, prog_14_method_63_code, 3, none, 12, pc_219) := List.mem_filter.mpr ⟨pm_t7 _ (List.mem_of_getElem? (i := 114) rfl), rfl⟩
theorem pm_cd_220 : pm_CDP (⟨"PaidWhereMadeModel", "cleared", "(I)I"⟩, prog_14_method_64_code, 6, (some .int), 12, pc_220) := List.mem_filter.mpr ⟨pm_t7 _ (List.mem_of_getElem? (i := 110) rfl), rfl⟩
theorem pm_cd_221 : pm_CDP (⟨"PaidWhereMadeModel", "grown", "(II)I"⟩, prog_14_method_65_code, 5, (some .int), 12, pc_221) := List.mem_filter.mpr ⟨pm_t7 _ (List.mem_of_getElem? (i := 143) rfl), rfl⟩
theorem pm_cd_222 : pm_CDP (⟨"PaidWhereMadeModel", "costWith", "(II)I"⟩, prog_14_method_66_code, 3, (some .int), 12, pc_222) := List.mem_filter.mpr ⟨pm_t7 _ (List.mem_of_getElem? (i := 135) rfl), rfl⟩
theorem pm_cd_223 : pm_CDP (⟨"PaidWhereMadeModel", "first", "(II)I"⟩, prog_14_method_67_code, 6, (some .int), 12, pc_223) := List.mem_filter.mpr ⟨pm_t7 _ (List.mem_of_getElem? (i := 131) rfl), rfl⟩
theorem pm_cd_224 : pm_CDP (⟨"PaidWhereMadeModel", "tourFrom", "(II)I"⟩, prog_14_method_68_code, 8, (some .int), 12, pc_224) := List.mem_filter.mpr ⟨pm_t7 _ (List.mem_of_getElem? (i := 151) rfl), rfl⟩
theorem pm_cd_225 : pm_CDP (⟨"PaidWhereMadeModel", "tour", "(II)I"⟩, prog_14_method_69_code, 3, (some .int), 12, pc_225) := List.mem_filter.mpr ⟨pm_t7 _ (List.mem_of_getElem? (i := 147) rfl), rfl⟩
theorem pm_cd_226 : pm_CDP (⟨"PaidWhereMadeModel", "homesOf", "(I)I"⟩, prog_14_method_70_code, 4, (some .int), 12, pc_226) := List.mem_filter.mpr ⟨pm_t7 _ (List.mem_of_getElem? (i := 167) rfl), rfl⟩
theorem pm_cd_227 : pm_CDP (⟨"PaidWhereMadeModel", "factorial", "(I)I"⟩, prog_14_method_71_code, 4, (some .int), 12, pc_227) := List.mem_filter.mpr ⟨pm_t7 _ (List.mem_of_getElem? (i := 159) rfl), rfl⟩
theorem pm_cd_228 : pm_CDP (⟨"PaidWhereMadeModel", "coach", "(II)I"⟩, prog_14_method_72_code, 3, (some .int), 12, pc_228) := List.mem_filter.mpr ⟨pm_t7 _ (List.mem_of_getElem? (i := 163) rfl), rfl⟩
theorem pm_cd_229 : pm_CDP (⟨"PaidWhereMadeModel", "share", "(IIII)I"⟩, prog_14_method_73_code, 13, (some .int), 12, pc_229) := List.mem_filter.mpr ⟨pm_t7 _ (List.mem_of_getElem? (i := 155) rfl), rfl⟩
theorem pm_cd_230 : pm_CDP (⟨"PaidWhereMadeModel", "chance", "(III)Z"⟩, prog_14_method_74_code, 6, (some .boolean), 12, pc_230) := List.mem_filter.mpr ⟨pm_t7 _ (List.mem_of_getElem? (i := 171) rfl), rfl⟩
theorem pm_cd_231 : pm_CDP (⟨"PaidWhereMadeModel", "hoursOf", "(II)I"⟩, prog_14_method_75_code, 4, (some .int), 12, pc_231) := List.mem_filter.mpr ⟨pm_t7 _ (List.mem_of_getElem? (i := 193) rfl), rfl⟩
theorem pm_cd_232 : pm_CDP (⟨"PaidWhereMadeModel", "hundreds", "(I)J"⟩, prog_14_method_76_code, 5, (some .long), 12, pc_232) := List.mem_filter.mpr ⟨pm_t7 _ (List.mem_of_getElem? (i := 197) rfl), rfl⟩
theorem pm_cd_233 : pm_CDP (⟨"PaidWhereMadeModel", "standing", "(II)J"⟩, prog_14_method_77_code, 3, (some .long), 12, pc_233) := List.mem_filter.mpr ⟨pm_t7 _ (List.mem_of_getElem? (i := 184) rfl), rfl⟩
theorem pm_cd_234 : pm_CDP (⟨"PaidWhereMadeModel", "walking", "(IIII)J"⟩, prog_14_method_78_code, 6, (some .long), 12, pc_234) := List.mem_filter.mpr ⟨pm_t7 _ (List.mem_of_getElem? (i := 189) rfl), rfl⟩
theorem pm_cd_235 : pm_CDP (⟨"PaidWhereMadeModel", "findsMissed", "(I)V"⟩, prog_14_method_79_code, 7, none, 12, pc_235) := List.mem_filter.mpr ⟨pm_t7 _ (List.mem_of_getElem? (i := 180) rfl), rfl⟩
theorem pm_cd_236 : pm_CDP (⟨"PaidWhereMadeModel", "placeIn", "(III)I"⟩, prog_14_method_80_code, 7, (some .int), 12, pc_236) := List.mem_filter.mpr ⟨pm_t7 _ (List.mem_of_getElem? (i := 201) rfl), rfl⟩
theorem pm_cd_237 : pm_CDP (⟨"PaidWhereMadeModel", "walksOn", "(II)V"⟩, prog_14_method_81_code, 5, none, 12, pc_237) := List.mem_filter.mpr ⟨pm_t7 _ (List.mem_of_getElem? (i := 205) rfl), rfl⟩
theorem pm_cd_238 : pm_CDP (⟨"PaidWhereMadeModel", "waiting", "(III)J"⟩, prog_14_method_82_code, 4, (some .long), 12, pc_238) := List.mem_filter.mpr ⟨pm_t7 _ (List.mem_of_getElem? (i := 175) rfl), rfl⟩
theorem pm_cd_239 : pm_CDP (⟨"PaidWhereMadeModel", "line", "(IIII)I"⟩, prog_14_method_83_code, 7, (some .int), 12, pc_239) := List.mem_filter.mpr ⟨pm_t7 _ (List.mem_of_getElem? (i := 209) rfl), rfl⟩
theorem pm_cd_240 : pm_CDP (⟨"PaidWhereMadeModel", "wrongWith", "(I)I"⟩, prog_14_method_84_code, 5, (some .int), 12, pc_240) := List.mem_filter.mpr ⟨pm_t7 _ (List.mem_of_getElem? (i := 217) rfl), rfl⟩
theorem pm_cd_241 : pm_CDP (⟨"PaidWhereMadeModel", "wrong", "(I)I"⟩, prog_14_method_85_code, 8, (some .int), 12, pc_241) := List.mem_filter.mpr ⟨pm_t7 _ (List.mem_of_getElem? (i := 213) rfl), rfl⟩
theorem pm_cd_242 : pm_CDP (⟨"PaidWhereMadeModel", "kept", "(I)I"⟩, prog_14_method_86_code, 2, (some .int), 12, pc_242) := List.mem_filter.mpr ⟨pm_t7 _ (List.mem_of_getElem? (i := 225) rfl), rfl⟩
theorem pm_cd_243 : pm_CDP (⟨"PaidWhereMadeModel", "keepsDebts", "()V"⟩, prog_14_method_87_code, 2, none, 12, pc_243) := List.mem_filter.mpr ⟨pm_t7 _ (List.mem_of_getElem? (i := 229) rfl), rfl⟩
theorem pm_cd_244 : pm_CDP (⟨"PaidWhereMadeModel", "keepsLaw", "()V"⟩, prog_14_method_88_code, 2, none, 12, pc_244) := List.mem_filter.mpr ⟨pm_t7 _ (List.mem_of_getElem? (i := 233) rfl), rfl⟩
theorem pm_cd_245 : pm_CDP (⟨"PaidWhereMadeModel", "image", "(Z)Z"⟩, prog_14_method_89_code, 3, (some .boolean), 12, pc_245) := List.mem_filter.mpr ⟨pm_t7 _ (List.mem_of_getElem? (i := 221) rfl), rfl⟩
theorem pm_cd_246 : pm_CDP (⟨"PaidWhereMadeModel", "look", "(I)I"⟩, prog_14_method_90_code, 2, (some .int), 12, pc_246) := List.mem_filter.mpr ⟨pm_t7 _ (List.mem_of_getElem? (i := 237) rfl), rfl⟩
theorem pm_cd_247 : pm_CDP (⟨"java/util/Arrays", "fill", "([II)V"⟩, prog_21_method_103_code, 4, none, 14, pc_247) := List.mem_filter.mpr ⟨pm_t1 _ (List.mem_of_getElem? (i := 44) rfl), rfl⟩
theorem pm_cd_248 : pm_CDP (⟨"java/lang/String", "length", "()I"⟩, prog_17_method_54_code, 1, (some .int), 15, pc_248) := List.mem_filter.mpr ⟨pm_t3 _ (List.mem_of_getElem? (i := 65) rfl), rfl⟩
theorem pm_cd_249 : pm_CDP (⟨"java/lang/String", "coder", "()B"⟩, prog_17_method_152_code, 1, (some .byte), 15, pc_249) := List.mem_filter.mpr ⟨pm_t3 _ (List.mem_of_getElem? (i := 69) rfl), rfl⟩
theorem pm_cd_250 : pm_CDP (⟨"java/lang/String", "charAt", "(I)C"⟩, prog_17_method_56_code, 2, (some .char), 15, pc_250) := List.mem_filter.mpr ⟨pm_t3 _ (List.mem_of_getElem? (i := 75) rfl), rfl⟩
theorem pm_cd_251 : pm_CDP (⟨"java/lang/String", "isLatin1", "()Z"⟩, prog_17_method_154_code, 1, (some .boolean), 15, pc_251) := List.mem_filter.mpr ⟨pm_t3 _ (List.mem_of_getElem? (i := 79) rfl), rfl⟩
theorem pm_cd_252 : pm_CDP (⟨"java/lang/StringLatin1", "charAt", "([BI)C"⟩, prog_18_method_2_code, 2, (some .char), 16, pc_252) := List.mem_filter.mpr ⟨pm_t3 _ (List.mem_of_getElem? (i := 82) rfl), rfl⟩
theorem pm_cd_253 : pm_CDP (⟨"java/lang/String", "checkIndex", "(II)V"⟩, prog_17_method_155_code, 2, none, 15, pc_253) := List.mem_filter.mpr ⟨pm_t3 _ (List.mem_of_getElem? (i := 85) rfl), rfl⟩
theorem pm_cd_254 : pm_CDP (⟨"jdk/internal/util/Preconditions", "checkIndex", "(IILjava/util/function/BiFunction;)I"⟩, prog_22_method_11_code, 3, (some .int), 17, pc_254) := List.mem_filter.mpr ⟨pm_t3 _ (List.mem_of_getElem? (i := 90) rfl), rfl⟩
theorem pm_cd_255 : pm_CDP (⟨"java/lang/Integer", "bitCount", "(I)I"⟩, prog_15_method_49_code, 1, (some .int), 13, pc_255) := List.mem_filter.mpr ⟨pm_t4 _ (List.mem_of_getElem? (i := 149) rfl), rfl⟩
theorem pm_cdc_0 : ∀ M ∈ pm_tab_0, pm_CDP M := List.forall_mem_cons.mpr ⟨pm_cd_0, List.forall_mem_cons.mpr ⟨pm_cd_1, List.forall_mem_cons.mpr ⟨pm_cd_2, List.forall_mem_cons.mpr ⟨pm_cd_3, List.forall_mem_cons.mpr ⟨pm_cd_4, List.forall_mem_cons.mpr ⟨pm_cd_5, List.forall_mem_cons.mpr ⟨pm_cd_6, List.forall_mem_cons.mpr ⟨pm_cd_7, List.forall_mem_cons.mpr ⟨pm_cd_8, List.forall_mem_cons.mpr ⟨pm_cd_9, List.forall_mem_cons.mpr ⟨pm_cd_10, List.forall_mem_cons.mpr ⟨pm_cd_11, List.forall_mem_cons.mpr ⟨pm_cd_12, List.forall_mem_cons.mpr ⟨pm_cd_13, List.forall_mem_cons.mpr ⟨pm_cd_14, List.forall_mem_cons.mpr ⟨pm_cd_15, fun _ h => absurd h List.not_mem_nil⟩⟩⟩⟩⟩⟩⟩⟩⟩⟩⟩⟩⟩⟩⟩⟩
theorem pm_cdc_1 : ∀ M ∈ pm_tab_1, pm_CDP M := List.forall_mem_cons.mpr ⟨pm_cd_16, List.forall_mem_cons.mpr ⟨pm_cd_17, List.forall_mem_cons.mpr ⟨pm_cd_18, List.forall_mem_cons.mpr ⟨pm_cd_19, List.forall_mem_cons.mpr ⟨pm_cd_20, List.forall_mem_cons.mpr ⟨pm_cd_21, List.forall_mem_cons.mpr ⟨pm_cd_22, List.forall_mem_cons.mpr ⟨pm_cd_23, List.forall_mem_cons.mpr ⟨pm_cd_24, List.forall_mem_cons.mpr ⟨pm_cd_25, List.forall_mem_cons.mpr ⟨pm_cd_26, List.forall_mem_cons.mpr ⟨pm_cd_27, List.forall_mem_cons.mpr ⟨pm_cd_28, List.forall_mem_cons.mpr ⟨pm_cd_29, List.forall_mem_cons.mpr ⟨pm_cd_30, List.forall_mem_cons.mpr ⟨pm_cd_31, fun _ h => absurd h List.not_mem_nil⟩⟩⟩⟩⟩⟩⟩⟩⟩⟩⟩⟩⟩⟩⟩⟩
theorem pm_cdc_2 : ∀ M ∈ pm_tab_2, pm_CDP M := List.forall_mem_cons.mpr ⟨pm_cd_32, List.forall_mem_cons.mpr ⟨pm_cd_33, List.forall_mem_cons.mpr ⟨pm_cd_34, List.forall_mem_cons.mpr ⟨pm_cd_35, List.forall_mem_cons.mpr ⟨pm_cd_36, List.forall_mem_cons.mpr ⟨pm_cd_37, List.forall_mem_cons.mpr ⟨pm_cd_38, List.forall_mem_cons.mpr ⟨pm_cd_39, List.forall_mem_cons.mpr ⟨pm_cd_40, List.forall_mem_cons.mpr ⟨pm_cd_41, List.forall_mem_cons.mpr ⟨pm_cd_42, List.forall_mem_cons.mpr ⟨pm_cd_43, List.forall_mem_cons.mpr ⟨pm_cd_44, List.forall_mem_cons.mpr ⟨pm_cd_45, List.forall_mem_cons.mpr ⟨pm_cd_46, List.forall_mem_cons.mpr ⟨pm_cd_47, fun _ h => absurd h List.not_mem_nil⟩⟩⟩⟩⟩⟩⟩⟩⟩⟩⟩⟩⟩⟩⟩⟩
theorem pm_cdc_3 : ∀ M ∈ pm_tab_3, pm_CDP M := List.forall_mem_cons.mpr ⟨pm_cd_48, List.forall_mem_cons.mpr ⟨pm_cd_49, List.forall_mem_cons.mpr ⟨pm_cd_50, List.forall_mem_cons.mpr ⟨pm_cd_51, List.forall_mem_cons.mpr ⟨pm_cd_52, List.forall_mem_cons.mpr ⟨pm_cd_53, List.forall_mem_cons.mpr ⟨pm_cd_54, List.forall_mem_cons.mpr ⟨pm_cd_55, List.forall_mem_cons.mpr ⟨pm_cd_56, List.forall_mem_cons.mpr ⟨pm_cd_57, List.forall_mem_cons.mpr ⟨pm_cd_58, List.forall_mem_cons.mpr ⟨pm_cd_59, List.forall_mem_cons.mpr ⟨pm_cd_60, List.forall_mem_cons.mpr ⟨pm_cd_61, List.forall_mem_cons.mpr ⟨pm_cd_62, List.forall_mem_cons.mpr ⟨pm_cd_63, fun _ h => absurd h List.not_mem_nil⟩⟩⟩⟩⟩⟩⟩⟩⟩⟩⟩⟩⟩⟩⟩⟩
theorem pm_cdc_4 : ∀ M ∈ pm_tab_4, pm_CDP M := List.forall_mem_cons.mpr ⟨pm_cd_64, List.forall_mem_cons.mpr ⟨pm_cd_65, List.forall_mem_cons.mpr ⟨pm_cd_66, List.forall_mem_cons.mpr ⟨pm_cd_67, List.forall_mem_cons.mpr ⟨pm_cd_68, List.forall_mem_cons.mpr ⟨pm_cd_69, List.forall_mem_cons.mpr ⟨pm_cd_70, List.forall_mem_cons.mpr ⟨pm_cd_71, List.forall_mem_cons.mpr ⟨pm_cd_72, List.forall_mem_cons.mpr ⟨pm_cd_73, List.forall_mem_cons.mpr ⟨pm_cd_74, List.forall_mem_cons.mpr ⟨pm_cd_75, List.forall_mem_cons.mpr ⟨pm_cd_76, List.forall_mem_cons.mpr ⟨pm_cd_77, List.forall_mem_cons.mpr ⟨pm_cd_78, List.forall_mem_cons.mpr ⟨pm_cd_79, fun _ h => absurd h List.not_mem_nil⟩⟩⟩⟩⟩⟩⟩⟩⟩⟩⟩⟩⟩⟩⟩⟩
theorem pm_cdc_5 : ∀ M ∈ pm_tab_5, pm_CDP M := List.forall_mem_cons.mpr ⟨pm_cd_80, List.forall_mem_cons.mpr ⟨pm_cd_81, List.forall_mem_cons.mpr ⟨pm_cd_82, List.forall_mem_cons.mpr ⟨pm_cd_83, List.forall_mem_cons.mpr ⟨pm_cd_84, List.forall_mem_cons.mpr ⟨pm_cd_85, List.forall_mem_cons.mpr ⟨pm_cd_86, List.forall_mem_cons.mpr ⟨pm_cd_87, List.forall_mem_cons.mpr ⟨pm_cd_88, List.forall_mem_cons.mpr ⟨pm_cd_89, List.forall_mem_cons.mpr ⟨pm_cd_90, List.forall_mem_cons.mpr ⟨pm_cd_91, List.forall_mem_cons.mpr ⟨pm_cd_92, List.forall_mem_cons.mpr ⟨pm_cd_93, List.forall_mem_cons.mpr ⟨pm_cd_94, List.forall_mem_cons.mpr ⟨pm_cd_95, fun _ h => absurd h List.not_mem_nil⟩⟩⟩⟩⟩⟩⟩⟩⟩⟩⟩⟩⟩⟩⟩⟩
theorem pm_cdc_6 : ∀ M ∈ pm_tab_6, pm_CDP M := List.forall_mem_cons.mpr ⟨pm_cd_96, List.forall_mem_cons.mpr ⟨pm_cd_97, List.forall_mem_cons.mpr ⟨pm_cd_98, List.forall_mem_cons.mpr ⟨pm_cd_99, List.forall_mem_cons.mpr ⟨pm_cd_100, List.forall_mem_cons.mpr ⟨pm_cd_101, List.forall_mem_cons.mpr ⟨pm_cd_102, List.forall_mem_cons.mpr ⟨pm_cd_103, List.forall_mem_cons.mpr ⟨pm_cd_104, List.forall_mem_cons.mpr ⟨pm_cd_105, List.forall_mem_cons.mpr ⟨pm_cd_106, List.forall_mem_cons.mpr ⟨pm_cd_107, List.forall_mem_cons.mpr ⟨pm_cd_108, List.forall_mem_cons.mpr ⟨pm_cd_109, List.forall_mem_cons.mpr ⟨pm_cd_110, List.forall_mem_cons.mpr ⟨pm_cd_111, fun _ h => absurd h List.not_mem_nil⟩⟩⟩⟩⟩⟩⟩⟩⟩⟩⟩⟩⟩⟩⟩⟩
theorem pm_cdc_7 : ∀ M ∈ pm_tab_7, pm_CDP M := List.forall_mem_cons.mpr ⟨pm_cd_112, List.forall_mem_cons.mpr ⟨pm_cd_113, List.forall_mem_cons.mpr ⟨pm_cd_114, List.forall_mem_cons.mpr ⟨pm_cd_115, List.forall_mem_cons.mpr ⟨pm_cd_116, List.forall_mem_cons.mpr ⟨pm_cd_117, List.forall_mem_cons.mpr ⟨pm_cd_118, List.forall_mem_cons.mpr ⟨pm_cd_119, List.forall_mem_cons.mpr ⟨pm_cd_120, List.forall_mem_cons.mpr ⟨pm_cd_121, List.forall_mem_cons.mpr ⟨pm_cd_122, List.forall_mem_cons.mpr ⟨pm_cd_123, List.forall_mem_cons.mpr ⟨pm_cd_124, List.forall_mem_cons.mpr ⟨pm_cd_125, List.forall_mem_cons.mpr ⟨pm_cd_126, List.forall_mem_cons.mpr ⟨pm_cd_127, fun _ h => absurd h List.not_mem_nil⟩⟩⟩⟩⟩⟩⟩⟩⟩⟩⟩⟩⟩⟩⟩⟩
theorem pm_cdc_8 : ∀ M ∈ pm_tab_8, pm_CDP M := List.forall_mem_cons.mpr ⟨pm_cd_128, List.forall_mem_cons.mpr ⟨pm_cd_129, List.forall_mem_cons.mpr ⟨pm_cd_130, List.forall_mem_cons.mpr ⟨pm_cd_131, List.forall_mem_cons.mpr ⟨pm_cd_132, List.forall_mem_cons.mpr ⟨pm_cd_133, List.forall_mem_cons.mpr ⟨pm_cd_134, List.forall_mem_cons.mpr ⟨pm_cd_135, List.forall_mem_cons.mpr ⟨pm_cd_136, List.forall_mem_cons.mpr ⟨pm_cd_137, List.forall_mem_cons.mpr ⟨pm_cd_138, List.forall_mem_cons.mpr ⟨pm_cd_139, List.forall_mem_cons.mpr ⟨pm_cd_140, List.forall_mem_cons.mpr ⟨pm_cd_141, List.forall_mem_cons.mpr ⟨pm_cd_142, List.forall_mem_cons.mpr ⟨pm_cd_143, fun _ h => absurd h List.not_mem_nil⟩⟩⟩⟩⟩⟩⟩⟩⟩⟩⟩⟩⟩⟩⟩⟩
theorem pm_cdc_9 : ∀ M ∈ pm_tab_9, pm_CDP M := List.forall_mem_cons.mpr ⟨pm_cd_144, List.forall_mem_cons.mpr ⟨pm_cd_145, List.forall_mem_cons.mpr ⟨pm_cd_146, List.forall_mem_cons.mpr ⟨pm_cd_147, List.forall_mem_cons.mpr ⟨pm_cd_148, List.forall_mem_cons.mpr ⟨pm_cd_149, List.forall_mem_cons.mpr ⟨pm_cd_150, List.forall_mem_cons.mpr ⟨pm_cd_151, List.forall_mem_cons.mpr ⟨pm_cd_152, List.forall_mem_cons.mpr ⟨pm_cd_153, List.forall_mem_cons.mpr ⟨pm_cd_154, List.forall_mem_cons.mpr ⟨pm_cd_155, List.forall_mem_cons.mpr ⟨pm_cd_156, List.forall_mem_cons.mpr ⟨pm_cd_157, List.forall_mem_cons.mpr ⟨pm_cd_158, List.forall_mem_cons.mpr ⟨pm_cd_159, fun _ h => absurd h List.not_mem_nil⟩⟩⟩⟩⟩⟩⟩⟩⟩⟩⟩⟩⟩⟩⟩⟩
theorem pm_cdc_10 : ∀ M ∈ pm_tab_10, pm_CDP M := List.forall_mem_cons.mpr ⟨pm_cd_160, List.forall_mem_cons.mpr ⟨pm_cd_161, List.forall_mem_cons.mpr ⟨pm_cd_162, List.forall_mem_cons.mpr ⟨pm_cd_163, List.forall_mem_cons.mpr ⟨pm_cd_164, List.forall_mem_cons.mpr ⟨pm_cd_165, List.forall_mem_cons.mpr ⟨pm_cd_166, List.forall_mem_cons.mpr ⟨pm_cd_167, List.forall_mem_cons.mpr ⟨pm_cd_168, List.forall_mem_cons.mpr ⟨pm_cd_169, List.forall_mem_cons.mpr ⟨pm_cd_170, List.forall_mem_cons.mpr ⟨pm_cd_171, List.forall_mem_cons.mpr ⟨pm_cd_172, List.forall_mem_cons.mpr ⟨pm_cd_173, List.forall_mem_cons.mpr ⟨pm_cd_174, List.forall_mem_cons.mpr ⟨pm_cd_175, fun _ h => absurd h List.not_mem_nil⟩⟩⟩⟩⟩⟩⟩⟩⟩⟩⟩⟩⟩⟩⟩⟩
theorem pm_cdc_11 : ∀ M ∈ pm_tab_11, pm_CDP M := List.forall_mem_cons.mpr ⟨pm_cd_176, List.forall_mem_cons.mpr ⟨pm_cd_177, List.forall_mem_cons.mpr ⟨pm_cd_178, List.forall_mem_cons.mpr ⟨pm_cd_179, List.forall_mem_cons.mpr ⟨pm_cd_180, List.forall_mem_cons.mpr ⟨pm_cd_181, List.forall_mem_cons.mpr ⟨pm_cd_182, List.forall_mem_cons.mpr ⟨pm_cd_183, List.forall_mem_cons.mpr ⟨pm_cd_184, List.forall_mem_cons.mpr ⟨pm_cd_185, List.forall_mem_cons.mpr ⟨pm_cd_186, List.forall_mem_cons.mpr ⟨pm_cd_187, List.forall_mem_cons.mpr ⟨pm_cd_188, List.forall_mem_cons.mpr ⟨pm_cd_189, List.forall_mem_cons.mpr ⟨pm_cd_190, List.forall_mem_cons.mpr ⟨pm_cd_191, fun _ h => absurd h List.not_mem_nil⟩⟩⟩⟩⟩⟩⟩⟩⟩⟩⟩⟩⟩⟩⟩⟩
theorem pm_cdc_12 : ∀ M ∈ pm_tab_12, pm_CDP M := List.forall_mem_cons.mpr ⟨pm_cd_192, List.forall_mem_cons.mpr ⟨pm_cd_193, List.forall_mem_cons.mpr ⟨pm_cd_194, List.forall_mem_cons.mpr ⟨pm_cd_195, List.forall_mem_cons.mpr ⟨pm_cd_196, List.forall_mem_cons.mpr ⟨pm_cd_197, List.forall_mem_cons.mpr ⟨pm_cd_198, List.forall_mem_cons.mpr ⟨pm_cd_199, List.forall_mem_cons.mpr ⟨pm_cd_200, List.forall_mem_cons.mpr ⟨pm_cd_201, List.forall_mem_cons.mpr ⟨pm_cd_202, List.forall_mem_cons.mpr ⟨pm_cd_203, List.forall_mem_cons.mpr ⟨pm_cd_204, List.forall_mem_cons.mpr ⟨pm_cd_205, List.forall_mem_cons.mpr ⟨pm_cd_206, List.forall_mem_cons.mpr ⟨pm_cd_207, fun _ h => absurd h List.not_mem_nil⟩⟩⟩⟩⟩⟩⟩⟩⟩⟩⟩⟩⟩⟩⟩⟩
theorem pm_cdc_13 : ∀ M ∈ pm_tab_13, pm_CDP M := List.forall_mem_cons.mpr ⟨pm_cd_208, List.forall_mem_cons.mpr ⟨pm_cd_209, List.forall_mem_cons.mpr ⟨pm_cd_210, List.forall_mem_cons.mpr ⟨pm_cd_211, List.forall_mem_cons.mpr ⟨pm_cd_212, List.forall_mem_cons.mpr ⟨pm_cd_213, List.forall_mem_cons.mpr ⟨pm_cd_214, List.forall_mem_cons.mpr ⟨pm_cd_215, List.forall_mem_cons.mpr ⟨pm_cd_216, List.forall_mem_cons.mpr ⟨pm_cd_217, List.forall_mem_cons.mpr ⟨pm_cd_218, List.forall_mem_cons.mpr ⟨pm_cd_219, List.forall_mem_cons.mpr ⟨pm_cd_220, List.forall_mem_cons.mpr ⟨pm_cd_221, List.forall_mem_cons.mpr ⟨pm_cd_222, List.forall_mem_cons.mpr ⟨pm_cd_223, fun _ h => absurd h List.not_mem_nil⟩⟩⟩⟩⟩⟩⟩⟩⟩⟩⟩⟩⟩⟩⟩⟩
theorem pm_cdc_14 : ∀ M ∈ pm_tab_14, pm_CDP M := List.forall_mem_cons.mpr ⟨pm_cd_224, List.forall_mem_cons.mpr ⟨pm_cd_225, List.forall_mem_cons.mpr ⟨pm_cd_226, List.forall_mem_cons.mpr ⟨pm_cd_227, List.forall_mem_cons.mpr ⟨pm_cd_228, List.forall_mem_cons.mpr ⟨pm_cd_229, List.forall_mem_cons.mpr ⟨pm_cd_230, List.forall_mem_cons.mpr ⟨pm_cd_231, List.forall_mem_cons.mpr ⟨pm_cd_232, List.forall_mem_cons.mpr ⟨pm_cd_233, List.forall_mem_cons.mpr ⟨pm_cd_234, List.forall_mem_cons.mpr ⟨pm_cd_235, List.forall_mem_cons.mpr ⟨pm_cd_236, List.forall_mem_cons.mpr ⟨pm_cd_237, List.forall_mem_cons.mpr ⟨pm_cd_238, List.forall_mem_cons.mpr ⟨pm_cd_239, fun _ h => absurd h List.not_mem_nil⟩⟩⟩⟩⟩⟩⟩⟩⟩⟩⟩⟩⟩⟩⟩⟩
theorem pm_cdc_15 : ∀ M ∈ pm_tab_15, pm_CDP M := List.forall_mem_cons.mpr ⟨pm_cd_240, List.forall_mem_cons.mpr ⟨pm_cd_241, List.forall_mem_cons.mpr ⟨pm_cd_242, List.forall_mem_cons.mpr ⟨pm_cd_243, List.forall_mem_cons.mpr ⟨pm_cd_244, List.forall_mem_cons.mpr ⟨pm_cd_245, List.forall_mem_cons.mpr ⟨pm_cd_246, List.forall_mem_cons.mpr ⟨pm_cd_247, List.forall_mem_cons.mpr ⟨pm_cd_248, List.forall_mem_cons.mpr ⟨pm_cd_249, List.forall_mem_cons.mpr ⟨pm_cd_250, List.forall_mem_cons.mpr ⟨pm_cd_251, List.forall_mem_cons.mpr ⟨pm_cd_252, List.forall_mem_cons.mpr ⟨pm_cd_253, List.forall_mem_cons.mpr ⟨pm_cd_254, List.forall_mem_cons.mpr ⟨pm_cd_255, fun _ h => absurd h List.not_mem_nil⟩⟩⟩⟩⟩⟩⟩⟩⟩⟩⟩⟩⟩⟩⟩⟩
def pm_tabM : List pm_M := pm_tab_0 ++ (pm_tab_1 ++ (pm_tab_2 ++ (pm_tab_3 ++ (pm_tab_4 ++ (pm_tab_5 ++ (pm_tab_6 ++ (pm_tab_7 ++ (pm_tab_8 ++ (pm_tab_9 ++ (pm_tab_10 ++ (pm_tab_11 ++ (pm_tab_12 ++ (pm_tab_13 ++ (pm_tab_14 ++ (pm_tab_15)))))))))))))))
theorem pm_cd_ok : ∀ M ∈ pm_tabM, pm_CDP M := List.forall_mem_append.mpr ⟨pm_cdc_0, List.forall_mem_append.mpr ⟨pm_cdc_1, List.forall_mem_append.mpr ⟨pm_cdc_2, List.forall_mem_append.mpr ⟨pm_cdc_3, List.forall_mem_append.mpr ⟨pm_cdc_4, List.forall_mem_append.mpr ⟨pm_cdc_5, List.forall_mem_append.mpr ⟨pm_cdc_6, List.forall_mem_append.mpr ⟨pm_cdc_7, List.forall_mem_append.mpr ⟨pm_cdc_8, List.forall_mem_append.mpr ⟨pm_cdc_9, List.forall_mem_append.mpr ⟨pm_cdc_10, List.forall_mem_append.mpr ⟨pm_cdc_11, List.forall_mem_append.mpr ⟨pm_cdc_12, List.forall_mem_append.mpr ⟨pm_cdc_13, List.forall_mem_append.mpr ⟨pm_cdc_14, pm_cdc_15⟩⟩⟩⟩⟩⟩⟩⟩⟩⟩⟩⟩⟩⟩⟩
end
section
def pm_FL : List (Nat × Nat × Nat × Nat) := [(0, 9, 0, 1), (0, 15, 0, 2), (0, 18, 0, 3), (0, 21, 0, 4), (0, 24, 0, 5), (0, 27, 0, 6), (0, 30, 0, 7), (0, 33, 0, 0), (1, 9, 1, 3), (1, 13, 1, 4), (1, 16, 1, 0), (1, 20, 1, 1), (1, 27, 1, 2), (2, 9, 2, 1), (2, 15, 2, 3), (2, 22, 2, 4), (2, 26, 2, 5), (2, 29, 2, 6), (2, 32, 2, 2), (2, 42, 2, 0), (2, 45, 2, 8), (2, 48, 2, 9), (2, 61, 1, 0), (2, 64, 2, 7), (3, 9, 3, 1), (3, 15, 3, 2), (3, 18, 3, 3), (3, 21, 3, 4), (3, 24, 3, 5), (3, 27, 3, 6), (3, 30, 3, 7), (3, 33, 3, 8), (3, 36, 3, 9), (3, 39, 3, 0), (4, 9, 4, 1), (4, 15, 4, 2), (4, 18, 4, 3), (4, 21, 4, 4), (4, 24, 4, 5), (4, 27, 4, 0), (5, 11, 5, 1), (5, 15, 5, 3), (5, 18, 5, 4), (5, 22, 5, 5), (5, 25, 5, 6), (5, 28, 5, 0), (5, 36, 5, 2), (5, 51, 9, 7), (5, 57, 0, 0), (5, 66, 0, 1), (5, 69, 0, 4), (5, 101, 0, 3), (5, 104, 9, 4), (6, 9, 6, 1), (6, 15, 6, 2), (6, 18, 6, 3), (6, 27, 6, 0), (7, 11, 7, 1), (7, 17, 7, 2), (7, 21, 7, 3), (7, 24, 7, 4), (7, 27, 7, 0), (7, 34, 9, 4), (7, 46, 9, 1), (7, 50, 9, 7), (7, 60, 9, 6), (7, 73, 9, 3), (7, 77, 4, 0), (7, 80, 4, 5), (7, 83, 4, 1), (7, 86, 4, 4), (7, 93, 9, 5), (7, 103, 4, 2), (7, 106, 6, 1), (7, 109, 9, 2), (7, 116, 0, 0), (7, 117, 0, 1), (7, 120, 0, 3), (7, 129, 0, 2), (7, 135, 0, 4), (7, 141, 0, 5), (7, 144, 4, 3), (7, 150, 9, 9), (7, 161, 6, 0), (7, 188, 7, 5), (8, 11, 8, 2), (8, 15, 8, 3), (8, 18, 8, 4), (8, 21, 8, 5), (8, 24, 8, 0), (8, 28, 8, 1), (8, 32, 9, 5), (8, 38, 6, 0), (8, 70, 9, 6), (9, 9, 9, 4), (9, 18, 9, 5), (9, 25, 9, 6), (9, 32, 9, 7), (9, 39, 9, 8), (9, 46, 9, 9), (9, 58, 9, 0), (9, 63, 9, 1), (9, 66, 9, 2), (9, 69, 9, 3), (10, 9, 10, 2), (10, 15, 10, 3), (10, 18, 10, 0), (10, 30, 10, 1), (10, 34, 6, 0), (11, 12, 11, 0), (11, 16, 11, 1), (11, 19, 11, 2), (11, 26, 11, 3), (11, 35, 11, 4), (11, 42, 11, 5), (11, 49, 11, 6), (11, 55, 9, 5), (11, 62, 11, 7), (11, 66, 9, 0), (11, 84, 9, 6), (11, 94, 9, 7), (11, 98, 9, 1), (11, 110, 4, 4), (11, 120, 9, 9), (11, 128, 2, 0), (11, 131, 2, 1), (11, 141, 4, 1), (11, 144, 4, 2), (11, 147, 4, 3), (11, 150, 4, 5), (11, 160, 0, 1), (11, 163, 0, 2), (11, 166, 0, 3), (11, 169, 0, 4), (11, 172, 0, 5), (11, 175, 0, 6), (11, 178, 0, 7), (11, 194, 6, 0), (11, 207, 4, 0), (11, 224, 9, 8), (11, 239, 0, 0), (11, 243, 9, 2), (11, 246, 3, 0), (11, 247, 1, 0), (11, 251, 9, 3), (11, 257, 9, 4), (12, 7, 12, 3), (12, 13, 12, 4), (12, 16, 12, 6), (12, 19, 12, 7), (12, 22, 12, 8), (12, 25, 12, 9), (12, 28, 12, 10), (12, 31, 12, 12), (12, 34, 12, 13), (12, 37, 12, 14), (12, 40, 12, 15), (12, 43, 12, 16), (12, 46, 12, 17), (12, 49, 12, 18), (12, 52, 12, 22), (12, 55, 12, 24), (12, 58, 12, 25), (12, 61, 12, 26), (12, 64, 12, 27), (12, 67, 12, 28), (12, 70, 12, 29), (12, 73, 12, 35), (12, 76, 12, 37), (12, 79, 12, 38), (12, 82, 12, 39), (12, 85, 12, 40), (12, 88, 12, 41), (12, 91, 12, 44), (12, 94, 12, 49), (12, 98, 12, 50), (12, 101, 12, 51), (12, 104, 12, 52), (12, 107, 12, 54), (12, 110, 12, 56), (12, 113, 12, 57), (12, 117, 12, 58), (12, 120, 12, 59), (12, 123, 12, 60), (12, 127, 12, 61), (12, 130, 12, 62), (12, 133, 12, 66), (12, 136, 12, 0), (12, 139, 12, 1), (12, 144, 12, 2), (12, 147, 12, 5), (12, 162, 12, 11), (12, 165, 12, 19), (12, 175, 12, 30), (12, 182, 12, 31), (12, 188, 12, 32), (12, 191, 12, 33), (12, 194, 12, 34), (12, 210, 12, 46), (12, 213, 12, 47), (12, 216, 12, 42), (12, 242, 12, 45), (12, 245, 12, 43), (12, 263, 12, 48), (12, 269, 12, 36), (12, 283, 12, 20), (12, 299, 12, 53), (12, 317, 12, 21), (12, 337, 12, 55), (12, 402, 12, 23), (12, 408, 12, 65), (12, 411, 12, 63), (12, 418, 12, 64)]
def pm_FL_h : List Nat := [234, 238, 241, 245, 249, 252, 254, 230, 322, 323, 317, 320, 321, 398, 401, 402, 403, 404, 400, 396, 406, 407, 318, 405, 281, 282, 283, 284, 285, 286, 287, 288, 289, 279, 196, 199, 202, 205, 208, 193, 462, 464, 465, 466, 467, 461, 463, 360, 231, 235, 246, 243, 348, 173, 175, 176, 168, 436, 437, 438, 439, 435, 347, 337, 359, 355, 343, 194, 209, 197, 206, 353, 200, 174, 340, 232, 236, 242, 239, 247, 250, 203, 365, 171, 440, 491, 492, 493, 494, 489, 490, 352, 169, 357, 346, 350, 354, 358, 362, 364, 336, 338, 341, 344, 516, 517, 514, 515, 170, 528, 529, 530, 531, 532, 533, 534, 351, 535, 335, 356, 361, 339, 207, 366, 397, 399, 198, 201, 204, 210, 237, 240, 244, 248, 251, 253, 255, 172, 195, 363, 233, 342, 280, 319, 345, 349, 1244, 1245, 1247, 1248, 1249, 1250, 1251, 1253, 1254, 1255, 1256, 1257, 1258, 1259, 1263, 1265, 1266, 1267, 1268, 1269, 1270, 1276, 1278, 1279, 1280, 1281, 1282, 1285, 1290, 1291, 1292, 1293, 1295, 1297, 1298, 1299, 1300, 1301, 1302, 1303, 1307, 1241, 1242, 1243, 1246, 1252, 1260, 1271, 1272, 1273, 1274, 1275, 1287, 1288, 1283, 1286, 1284, 1289, 1277, 1261, 1294, 1262, 1296, 1264, 1306, 1304, 1305]
def pm_FL_w (q : Nat × Nat × Nat × Nat) : Cond := .fieldLink (pm_cn.getD q.1 "") q.2.1 ((pm_cls.getD q.2.2.1 ("", pT_0, 0)).2.1 q.2.2.2).1 ((pm_cls.getD q.2.2.1 ("", pT_0, 0)).2.1 q.2.2.2).2.1 ((pm_cls.getD q.2.2.1 ("", pT_0, 0)).2.1 q.2.2.2).2.2.1
set_option maxRecDepth 100000 in
theorem pm_FL_k : (pm_FL.zip pm_FL_h).all (fun q => decide (lw_tbl[q.2]? = some (pm_FL_w q.1)) && goodWord (pm_FL_w q.1)) = true ∧ pm_FL.length = pm_FL_h.length := by decide +kernel
theorem pm_FL_ok : ∀ q ∈ pm_FL, pm_FL_w q ∈ pm_big := by
  intro q hq
  obtain ⟨i, hi⟩ := List.getElem?_of_mem hq
  have hl : i < pm_FL.length := (List.getElem?_eq_some_iff.mp hi).1
  have h2 : ∃ j, pm_FL_h[i]? = some j := ⟨_, List.getElem?_eq_getElem (by rw [← pm_FL_k.2]; exact hl)⟩
  obtain ⟨j, hj⟩ := h2
  have hz : (q, j) ∈ pm_FL.zip pm_FL_h := List.mem_of_getElem? (i := i) (by rw [List.getElem?_zip_eq_some]; exact ⟨hi, hj⟩)
  exact pm_mem j (List.all_eq_true.mp pm_FL_k.1 (q, j) hz)
def pm_ML : List (Nat × Nat × Nat) := [(0, 37, 1), (0, 41, 3), (0, 45, 10), (1, 23, 14), (1, 30, 21), (1, 34, 17), (1, 38, 20), (1, 41, 19), (1, 45, 18), (2, 35, 25), (2, 39, 38), (2, 51, 13), (2, 54, 31), (2, 57, 22), (2, 67, 29), (2, 70, 28), (2, 73, 32), (2, 76, 14), (2, 79, 30), (2, 82, 15), (2, 85, 33), (2, 88, 34), (2, 91, 35), (2, 94, 37), (2, 97, 36), (2, 100, 19), (2, 104, 40), (2, 108, 42), (2, 111, 44), (2, 114, 46), (2, 118, 39), (2, 122, 43), (2, 125, 45), (2, 128, 48), (2, 131, 41), (2, 134, 49), (2, 139, 248), (2, 144, 250), (2, 148, 47), (3, 43, 53), (3, 47, 57), (3, 50, 56), (3, 53, 247), (3, 59, 54), (3, 63, 55), (3, 66, 58), (5, 32, 69), (5, 40, 70), (5, 43, 71), (5, 47, 73), (5, 62, 3), (5, 72, 8), (5, 75, 255), (5, 81, 72), (5, 89, 74), (5, 92, 76), (5, 95, 77), (5, 98, 79), (5, 107, 10), (5, 113, 78), (5, 116, 80), (6, 21, 247), (6, 31, 82), (6, 35, 87), (7, 31, 91), (7, 39, 96), (7, 43, 93), (7, 54, 9), (7, 64, 63), (7, 69, 118), (7, 89, 92), (7, 97, 82), (7, 112, 85), (7, 123, 94), (7, 126, 95), (7, 132, 4), (7, 138, 3), (7, 147, 64), (7, 154, 16), (7, 158, 97), (7, 166, 98), (7, 169, 103), (7, 172, 99), (7, 176, 100), (7, 179, 101), (7, 182, 247), (7, 191, 102), (8, 47, 106), (8, 51, 107), (8, 55, 85), (8, 66, 255), (8, 74, 65), (8, 79, 105), (8, 83, 110), (8, 87, 112), (8, 93, 113), (8, 96, 111), (8, 99, 108), (9, 17, 81), (9, 50, 116), (9, 54, 117), (9, 77, 88), (9, 81, 66), (9, 84, 11), (9, 87, 59), (9, 90, 22), (10, 24, 122), (10, 39, 123), (10, 43, 124), (10, 47, 87), (10, 51, 126), (10, 55, 125), (10, 60, 85), (11, 11, 114), (11, 32, 89), (11, 41, 67), (11, 48, 104), (11, 59, 120), (11, 70, 83), (11, 76, 84), (11, 80, 82), (11, 88, 62), (11, 93, 61), (11, 101, 2), (11, 106, 115), (11, 114, 24), (11, 117, 26), (11, 124, 27), (11, 134, 90), (11, 138, 63), (11, 153, 6), (11, 156, 7), (11, 159, 1), (11, 181, 3), (11, 184, 95), (11, 187, 68), (11, 190, 75), (11, 197, 155), (11, 200, 105), (11, 204, 108), (11, 208, 109), (11, 212, 86), (11, 217, 121), (11, 221, 154), (11, 228, 51), (11, 233, 52), (11, 236, 119), (11, 240, 5), (11, 254, 153), (12, 150, 159), (12, 154, 163), (12, 159, 164), (12, 168, 170), (12, 172, 171), (12, 178, 174), (12, 185, 177), (12, 197, 178), (12, 200, 181), (12, 204, 179), (12, 207, 180), (12, 219, 183), (12, 222, 186), (12, 226, 182), (12, 229, 187), (12, 233, 185), (12, 236, 188), (12, 239, 189), (12, 248, 184), (12, 251, 191), (12, 254, 190), (12, 257, 192), (12, 260, 193), (12, 266, 194), (12, 272, 197), (12, 276, 200), (12, 279, 198), (12, 286, 165), (12, 289, 205), (12, 293, 199), (12, 296, 203), (12, 302, 206), (12, 305, 204), (12, 308, 207), (12, 311, 201), (12, 314, 162), (12, 320, 202), (12, 324, 208), (12, 327, 209), (12, 330, 210), (12, 333, 213), (12, 341, 219), (12, 344, 216), (12, 347, 218), (12, 350, 217), (12, 353, 160), (12, 356, 221), (12, 359, 222), (12, 362, 224), (12, 365, 226), (12, 368, 227), (12, 371, 228), (12, 376, 231), (12, 379, 232), (12, 383, 233), (12, 387, 234), (12, 391, 237), (12, 396, 235), (12, 399, 236), (12, 405, 240), (12, 415, 242), (12, 421, 243), (12, 424, 244), (15, 335, 249), (15, 492, 251), (15, 495, 252), (16, 9, 253), (15, 1059, 254), (18, 9, 127), (18, 12, 158), (18, 13, 128), (18, 17, 161), (18, 18, 129), (18, 21, 166), (18, 22, 130), (18, 26, 167), (18, 27, 131), (18, 31, 168), (18, 32, 132), (18, 36, 169), (18, 37, 133), (18, 41, 172), (18, 42, 134), (18, 45, 173), (18, 46, 135), (18, 50, 175), (18, 51, 136), (18, 55, 176), (18, 56, 137), (18, 60, 195), (18, 61, 138), (18, 64, 196), (18, 65, 139), (18, 68, 211), (18, 69, 140), (18, 72, 212), (18, 73, 141), (18, 77, 214), (18, 78, 142), (18, 81, 215), (18, 82, 143), (18, 85, 220), (18, 86, 144), (18, 89, 223), (18, 90, 145), (18, 93, 225), (18, 94, 146), (18, 97, 229), (18, 98, 147), (18, 101, 230), (18, 102, 148), (18, 106, 238), (18, 107, 149), (18, 110, 239), (18, 111, 150), (18, 114, 241), (18, 115, 151), (18, 119, 245), (18, 120, 152), (18, 123, 246)]
def pm_ML_h : List Nat := [890, 930, 932, 794, 910, 914, 918, 922, 923, 625, 645, 739, 743, 795, 751, 747, 755, 767, 771, 790, 759, 763, 775, 779, 786, 783, 649, 653, 656, 660, 717, 721, 724, 728, 732, 735, 665, 675, 713, 1167, 1180, 1185, 1171, 1172, 1176, 1189, 973, 978, 986, 1001, 977, 982, 990, 996, 1005, 1017, 1022, 1032, 1021, 1028, 1036, 165, 573, 1108, 821, 840, 894, 926, 936, 825, 831, 835, 836, 848, 898, 886, 852, 902, 906, 844, 859, 880, 863, 868, 872, 867, 876, 1052, 1057, 1056, 1075, 1076, 1081, 1082, 1091, 1097, 1086, 1090, 161, 607, 610, 1203, 1208, 1212, 1217, 1222, 1122, 1126, 1134, 1130, 1131, 1138, 1142, 155, 431, 457, 485, 510, 561, 569, 581, 582, 591, 595, 603, 621, 633, 641, 817, 945, 950, 954, 962, 963, 964, 969, 1013, 1044, 1047, 1063, 1071, 1104, 1117, 1152, 1155, 1163, 1198, 1227, 1231, 1451, 1459, 1472, 1480, 1484, 1496, 1512, 1516, 1520, 1524, 1528, 1536, 1572, 1508, 1568, 1548, 1564, 1560, 1540, 1552, 1556, 1576, 1544, 1532, 1650, 1642, 1646, 1602, 1614, 1618, 1622, 1630, 1610, 1626, 1638, 1592, 1598, 1606, 1634, 1588, 1662, 1674, 1678, 1682, 1687, 1699, 1703, 1695, 1711, 1727, 1719, 1723, 1753, 1757, 1744, 1749, 1765, 1740, 1761, 1777, 1785, 1789, 1793, 669, 679, 683, 686, 691, 147, 1237, 553, 1443, 557, 1447, 565, 1455, 577, 1463, 587, 1468, 599, 1476, 613, 1488, 617, 1492, 629, 1500, 637, 1504, 809, 1580, 813, 1584, 941, 1654, 946, 1658, 958, 1666, 965, 1670, 1009, 1691, 1040, 1707, 1067, 1715, 1100, 1731, 1112, 1735, 1148, 1769, 1159, 1773, 1194, 1781, 1223, 1797]
def pm_ML_w (q : Nat × Nat × Nat) : Cond := .methodLink (pm_cn.getD q.1 "") q.2.1 (pm_yk q.2.2)
set_option maxRecDepth 100000 in
theorem pm_ML_k : (pm_ML.zip pm_ML_h).all (fun q => decide (lw_tbl[q.2]? = some (pm_ML_w q.1)) && goodWord (pm_ML_w q.1)) = true ∧ pm_ML.length = pm_ML_h.length := by decide +kernel
theorem pm_ML_ok : ∀ q ∈ pm_ML, pm_ML_w q ∈ pm_big := by
  intro q hq
  obtain ⟨i, hi⟩ := List.getElem?_of_mem hq
  have hl : i < pm_ML.length := (List.getElem?_eq_some_iff.mp hi).1
  have h2 : ∃ j, pm_ML_h[i]? = some j := ⟨_, List.getElem?_eq_getElem (by rw [← pm_ML_k.2]; exact hl)⟩
  obtain ⟨j, hj⟩ := h2
  have hz : (q, j) ∈ pm_ML.zip pm_ML_h := List.mem_of_getElem? (i := i) (by rw [List.getElem?_zip_eq_some]; exact ⟨hi, hj⟩)
  exact pm_mem j (List.all_eq_true.mp pm_ML_k.1 (q, j) hz)
def pm_MN : List (Nat × Nat × Nat) := [(0, 54, 157), (1, 49, 157), (2, 21, 12), (3, 77, 157), (4, 32, 157), (4, 36, 156), (5, 110, 156), (6, 39, 157), (7, 162, 156), (8, 43, 156), (9, 24, 60), (9, 31, 0), (9, 38, 50), (9, 45, 12), (9, 73, 157), (11, 25, 23)]
def pm_MN_w (q : Nat × Nat × Nat) : Cond := .methodLinkNest (pm_cn.getD q.1 "") q.2.1 (pm_yk q.2.2) "PaidWhereMade"
def pm_MN_h : List Nat := [1216, 799, 395, 1221, 940, 1080, 1027, 1207, 856, 1051, 189, 226, 275, 313, 1202, 390]
set_option maxRecDepth 100000 in
theorem pm_MN_k : (pm_MN.zip pm_MN_h).all (fun q => decide (lw_tbl[q.2]? = some (pm_MN_w q.1))) = true ∧ pm_MN.length = pm_MN_h.length := by decide +kernel
theorem pm_MN_ok : ∀ q ∈ pm_MN, pm_MN_w q ∈ lw_tbl := by
  intro q hq
  obtain ⟨i, hi⟩ := List.getElem?_of_mem hq
  have hl : i < pm_MN.length := (List.getElem?_eq_some_iff.mp hi).1
  have h2 : ∃ j, pm_MN_h[i]? = some j := ⟨_, List.getElem?_eq_getElem (by rw [← pm_MN_k.2]; exact hl)⟩
  obtain ⟨j, hj⟩ := h2
  have hz : (q, j) ∈ pm_MN.zip pm_MN_h := List.mem_of_getElem? (i := i) (by rw [List.getElem?_zip_eq_some]; exact ⟨hi, hj⟩)
  exact List.mem_of_getElem? (of_decide_eq_true (List.all_eq_true.mp pm_MN_k.1 (q, j) hz))
def pm_in_y (k : Nat) : MethodName := match k with | 1000 => Lib.Math.min.name | 1001 => Lib.Math.max.name | 1002 => Lib.Math.abs.name | 1003 => arraycopyName | _ => Lib.objectInit
def pm_MI : List (Nat × Nat × Nat) := [(0, 3, 1004), (0, 49, 1000), (1, 3, 1004), (2, 3, 1004), (3, 3, 1004), (3, 69, 1000), (3, 74, 1001), (4, 3, 1004), (5, 3, 1004), (5, 84, 1000), (6, 3, 1004), (7, 3, 1004), (7, 198, 1000), (8, 3, 1004), (8, 61, 1000), (8, 90, 1002), (9, 3, 1004), (10, 3, 1004), (10, 63, 1001), (11, 3, 1004), (11, 260, 1000), (11, 265, 1003), (12, 1, 1004)]
def pm_MI_h : List Nat := [229, 935, 316, 393, 278, 1193, 1184, 192, 460, 1000, 164, 434, 885, 488, 1062, 1094, 158, 513, 1143, 150, 802, 805, 1240]
def pm_MI_w (q : Nat × Nat × Nat) : Cond := .methodLink (pm_cn.getD q.1 "") q.2.1 (pm_in_y q.2.2)
set_option maxRecDepth 100000 in
theorem pm_MI_k : (pm_MI.zip pm_MI_h).all (fun q => decide (lw_tbl[q.2]? = some (pm_MI_w q.1)) && goodWord (pm_MI_w q.1)) = true ∧ pm_MI.length = pm_MI_h.length := by decide +kernel
theorem pm_MI_ok : ∀ q ∈ pm_MI, pm_MI_w q ∈ pm_big := by
  intro q hq
  obtain ⟨i, hi⟩ := List.getElem?_of_mem hq
  have hl : i < pm_MI.length := (List.getElem?_eq_some_iff.mp hi).1
  have h2 : ∃ j, pm_MI_h[i]? = some j := ⟨_, List.getElem?_eq_getElem (by rw [← pm_MI_k.2]; exact hl)⟩
  obtain ⟨j, hj⟩ := h2
  have hz : (q, j) ∈ pm_MI.zip pm_MI_h := List.mem_of_getElem? (i := i) (by rw [List.getElem?_zip_eq_some]; exact ⟨hi, hj⟩)
  exact pm_mem j (List.all_eq_true.mp pm_MI_k.1 (q, j) hz)
def pm_CL : List (Nat × Nat × Nat) := [(0, 44, 99999), (4, 31, 99999), (5, 109, 2147483647), (7, 197, 2147483647), (8, 60, 2147483647), (9, 57, 1664525), (9, 62, 1013904223), (12, 142, 1664525), (12, 143, 1013904223), (12, 158, 99999), (12, 340, 1000000000), (13, 265, 1431655765), (13, 266, 858993459), (13, 267, 252645135)]
def pm_CL_h : List Nat := [931, 586, 1026, 884, 1061, 829, 830, 1596, 1597, 1467, 1686, 993, 994, 995]
def pm_CL_w (q : Nat × Nat × Nat) : Cond := .constant (pm_cn.getD q.1 "") q.2.1 (nI q.2.2)
set_option maxRecDepth 100000 in
theorem pm_CL_k : (pm_CL.zip pm_CL_h).all (fun q => decide (lw_tbl[q.2]? = some (pm_CL_w q.1)) && goodWord (pm_CL_w q.1)) = true ∧ pm_CL.length = pm_CL_h.length := by decide +kernel
theorem pm_CL_ok : ∀ q ∈ pm_CL, pm_CL_w q ∈ pm_big := by
  intro q hq
  obtain ⟨i, hi⟩ := List.getElem?_of_mem hq
  have hl : i < pm_CL.length := (List.getElem?_eq_some_iff.mp hi).1
  have h2 : ∃ j, pm_CL_h[i]? = some j := ⟨_, List.getElem?_eq_getElem (by rw [← pm_CL_k.2]; exact hl)⟩
  obtain ⟨j, hj⟩ := h2
  have hz : (q, j) ∈ pm_CL.zip pm_CL_h := List.mem_of_getElem? (i := i) (by rw [List.getElem?_zip_eq_some]; exact ⟨hi, hj⟩)
  exact pm_mem j (List.all_eq_true.mp pm_CL_k.1 (q, j) hz)
def pm_NL : List (Nat × Nat × Nat × Nat) := [(10, 22, 1, 1), (10, 28, 15, 0), (10, 58, 100, 0), (11, 215, 1, 1), (12, 374, 100, 0), (12, 394, 1, 1)]
def pm_NL_h : List Nat := [1121, 1147, 1146, 1116, 1748, 1739]
def pm_NL_w (q : Nat × Nat × Nat × Nat) : Cond := .constantLong (pm_cn.getD q.1 "") q.2.1 (match q.2.2.2 with | 0 => lN q.2.2.1 | _ => -lN q.2.2.1)
set_option maxRecDepth 100000 in
theorem pm_NL_k : (pm_NL.zip pm_NL_h).all (fun q => decide (lw_tbl[q.2]? = some (pm_NL_w q.1)) && goodWord (pm_NL_w q.1)) = true ∧ pm_NL.length = pm_NL_h.length := by decide +kernel
theorem pm_NL_ok : ∀ q ∈ pm_NL, pm_NL_w q ∈ pm_big := by
  intro q hq
  obtain ⟨i, hi⟩ := List.getElem?_of_mem hq
  have hl : i < pm_NL.length := (List.getElem?_eq_some_iff.mp hi).1
  have h2 : ∃ j, pm_NL_h[i]? = some j := ⟨_, List.getElem?_eq_getElem (by rw [← pm_NL_k.2]; exact hl)⟩
  obtain ⟨j, hj⟩ := h2
  have hz : (q, j) ∈ pm_NL.zip pm_NL_h := List.mem_of_getElem? (i := i) (by rw [List.getElem?_zip_eq_some]; exact ⟨hi, hj⟩)
  exact pm_mem j (List.all_eq_true.mp pm_NL_k.1 (q, j) hz)
def pm_SF : List (Nat × Nat × Nat) := [(15, 9, 0), (15, 15, 1)]
def pm_SF_h : List Nat := [1801, 1802]
def pm_SF_w (q : Nat × Nat × Nat) : Cond := (match q.2.2 with | 0 => .fieldLink (pm_cn.getD q.1 "") q.2.1 "java/lang/String" "value" "[B" | _ => .fieldLink (pm_cn.getD q.1 "") q.2.1 "java/lang/String" "coder" "B")
set_option maxRecDepth 100000 in
theorem pm_SF_k : (pm_SF.zip pm_SF_h).all (fun q => decide (lw_tbl[q.2]? = some (pm_SF_w q.1)) && goodWord (pm_SF_w q.1)) = true ∧ pm_SF.length = pm_SF_h.length := by decide +kernel
theorem pm_SF_ok : ∀ q ∈ pm_SF, pm_SF_w q ∈ pm_big := by
  intro q hq
  obtain ⟨i, hi⟩ := List.getElem?_of_mem hq
  have hl : i < pm_SF.length := (List.getElem?_eq_some_iff.mp hi).1
  have h2 : ∃ j, pm_SF_h[i]? = some j := ⟨_, List.getElem?_eq_getElem (by rw [← pm_SF_k.2]; exact hl)⟩
  obtain ⟨j, hj⟩ := h2
  have hz : (q, j) ∈ pm_SF.zip pm_SF_h := List.mem_of_getElem? (i := i) (by rw [List.getElem?_zip_eq_some]; exact ⟨hi, hj⟩)
  exact pm_mem j (List.all_eq_true.mp pm_SF_k.1 (q, j) hz)
def pm_GL : List (Nat × Nat × Nat) := [(15, 38, 0), (15, 1053, 1)]
def pm_GL_h : List Nat := [673, 689]
def pm_GL_w (q : Nat × Nat × Nat) : Cond := (match q.2.2 with | 0 => .fieldLink (pm_cn.getD q.1 "") q.2.1 "java/lang/String" "COMPACT_STRINGS" "Z" | _ => .fieldLink (pm_cn.getD q.1 "") q.2.1 "jdk/internal/util/Preconditions" "SIOOBE_FORMATTER" "Ljava/util/function/BiFunction;")
set_option maxRecDepth 100000 in
theorem pm_GL_k : (pm_GL.zip pm_GL_h).all (fun q => decide (lw_tbl[q.2]? = some (pm_GL_w q.1)) && goodWord (pm_GL_w q.1)) = true ∧ pm_GL.length = pm_GL_h.length := by decide +kernel
theorem pm_GL_ok : ∀ q ∈ pm_GL, pm_GL_w q ∈ pm_big := by
  intro q hq
  obtain ⟨i, hi⟩ := List.getElem?_of_mem hq
  have hl : i < pm_GL.length := (List.getElem?_eq_some_iff.mp hi).1
  have h2 : ∃ j, pm_GL_h[i]? = some j := ⟨_, List.getElem?_eq_getElem (by rw [← pm_GL_k.2]; exact hl)⟩
  obtain ⟨j, hj⟩ := h2
  have hz : (q, j) ∈ pm_GL.zip pm_GL_h := List.mem_of_getElem? (i := i) (by rw [List.getElem?_zip_eq_some]; exact ⟨hi, hj⟩)
  exact pm_mem j (List.all_eq_true.mp pm_GL_k.1 (q, j) hz)
def pm_NW : List (Nat × Nat × Nat) := [(2, 19, 1), (9, 15, 6), (9, 22, 4), (9, 29, 0), (9, 36, 3), (9, 43, 1), (11, 9, 9), (11, 23, 2), (11, 30, 7), (11, 39, 5), (11, 46, 8), (11, 53, 10), (18, 7, 11), (18, 10, 12)]
def pm_NW_h : List Nat := [394, 159, 187, 224, 273, 311, 153, 388, 429, 455, 483, 508, 145, 1235]
def pm_NW_w (q : Nat × Nat × Nat) : Cond := .classLink (pm_cn.getD q.1 "") q.2.1 (pm_cls.getD q.2.2 ("", pT_0, 0)).1
set_option maxRecDepth 100000 in
theorem pm_NW_k : (pm_NW.zip pm_NW_h).all (fun q => decide (lw_tbl[q.2]? = some (pm_NW_w q.1)) && goodWord (pm_NW_w q.1)) = true ∧ pm_NW.length = pm_NW_h.length := by decide +kernel
theorem pm_NW_ok : ∀ q ∈ pm_NW, pm_NW_w q ∈ pm_big := by
  intro q hq
  obtain ⟨i, hi⟩ := List.getElem?_of_mem hq
  have hl : i < pm_NW.length := (List.getElem?_eq_some_iff.mp hi).1
  have h2 : ∃ j, pm_NW_h[i]? = some j := ⟨_, List.getElem?_eq_getElem (by rw [← pm_NW_k.2]; exact hl)⟩
  obtain ⟨j, hj⟩ := h2
  have hz : (q, j) ∈ pm_NW.zip pm_NW_h := List.mem_of_getElem? (i := i) (by rw [List.getElem?_zip_eq_some]; exact ⟨hi, hj⟩)
  exact pm_mem j (List.all_eq_true.mp pm_NW_k.1 (q, j) hz)
def pm_IC : List (Nat) := [(0), (1), (2), (3), (4), (5), (6), (7), (8), (9), (10), (11), (12)]
def pm_IC_h : List Nat := [225, 312, 389, 274, 188, 456, 160, 430, 484, 154, 509, 146, 1236]
def pm_IC_w (q : Nat) : Cond := .instantiable (pm_cls.getD q ("", pT_0, 0)).1 (pm_cls.getD q ("", pT_0, 0)).2.2
set_option maxRecDepth 100000 in
theorem pm_IC_k : (pm_IC.zip pm_IC_h).all (fun q => decide (lw_tbl[q.2]? = some (pm_IC_w q.1)) && goodWord (pm_IC_w q.1)) = true ∧ pm_IC.length = pm_IC_h.length := by decide +kernel
theorem pm_IC_ok : ∀ q ∈ pm_IC, pm_IC_w q ∈ pm_big := by
  intro q hq
  obtain ⟨i, hi⟩ := List.getElem?_of_mem hq
  have hl : i < pm_IC.length := (List.getElem?_eq_some_iff.mp hi).1
  have h2 : ∃ j, pm_IC_h[i]? = some j := ⟨_, List.getElem?_eq_getElem (by rw [← pm_IC_k.2]; exact hl)⟩
  obtain ⟨j, hj⟩ := h2
  have hz : (q, j) ∈ pm_IC.zip pm_IC_h := List.mem_of_getElem? (i := i) (by rw [List.getElem?_zip_eq_some]; exact ⟨hi, hj⟩)
  exact pm_mem j (List.all_eq_true.mp pm_IC_k.1 (q, j) hz)
def pm_IN : List (Nat) := [(0), (1), (2), (3), (4), (5), (6), (7), (8), (9), (10), (11), (12), (13), (14), (15), (16), (17), (18)]
def pm_IN_h : List Nat := [129, 131, 132, 130, 128, 134, 126, 133, 135, 125, 136, 124, 137, 144, 127, 138, 139, 140, 123]
def pm_IN_w (q : Nat) : Cond := .initialized (pm_cn.getD q "")
set_option maxRecDepth 100000 in
theorem pm_IN_k : (pm_IN.zip pm_IN_h).all (fun q => decide (lw_tbl[q.2]? = some (pm_IN_w q.1)) && goodWord (pm_IN_w q.1)) = true ∧ pm_IN.length = pm_IN_h.length := by decide +kernel
theorem pm_IN_ok : ∀ q ∈ pm_IN, pm_IN_w q ∈ pm_big := by
  intro q hq
  obtain ⟨i, hi⟩ := List.getElem?_of_mem hq
  have hl : i < pm_IN.length := (List.getElem?_eq_some_iff.mp hi).1
  have h2 : ∃ j, pm_IN_h[i]? = some j := ⟨_, List.getElem?_eq_getElem (by rw [← pm_IN_k.2]; exact hl)⟩
  obtain ⟨j, hj⟩ := h2
  have hz : (q, j) ∈ pm_IN.zip pm_IN_h := List.mem_of_getElem? (i := i) (by rw [List.getElem?_zip_eq_some]; exact ⟨hi, hj⟩)
  exact pm_mem j (List.all_eq_true.mp pm_IN_k.1 (q, j) hz)
def pm_KI : List (Nat) := [(0), (1), (2), (3), (4), (5), (6), (7), (8), (9), (11), (12), (13), (14), (15), (16), (17), (20), (21), (22), (23), (24), (25), (26), (27), (28), (29), (30), (31), (32), (33), (34), (35), (36), (37), (38), (39), (40), (44), (45), (46), (47), (48), (50), (51), (52), (53), (54), (55), (56), (57), (58), (59), (60), (61), (62), (63), (64), (65), (66), (67), (68), (69), (70), (71), (72), (73), (74), (75), (76), (77), (78), (79), (80), (81), (82), (83), (84), (85), (86), (87), (88), (89), (90), (91), (92), (93), (94), (95), (96), (97), (98), (99), (100), (101), (102), (103), (104), (105), (106), (107), (108), (109), (110), (111), (114), (115), (118), (119), (120), (121), (122), (123), (124), (125), (127), (128), (129), (130), (131), (132), (133), (134), (135), (136), (137), (138), (139), (140), (141), (142), (143), (144), (145), (146), (147), (148), (149), (150), (151), (152), (153), (158), (159), (160), (161), (162), (163), (164), (165), (166), (167), (168), (169), (170), (171), (172), (173), (174), (175), (176), (177), (178), (179), (180), (181), (182), (183), (184), (185), (186), (187), (188), (189), (190), (191), (192), (193), (194), (195), (196), (197), (198), (199), (200), (201), (202), (203), (204), (205), (206), (207), (208), (209), (210), (211), (212), (213), (214), (215), (216), (217), (218), (219), (220), (221), (222), (223), (224), (225), (226), (227), (228), (229), (230), (231), (232), (233), (234), (235), (236), (237), (238), (239), (240), (241), (242), (243), (244), (245), (246), (248), (249), (250), (251)]
def pm_KI_h : List Nat := [227, 891, 596, 853, 887, 1228, 951, 955, 983, 927, 1213, 314, 740, 768, 791, 907, 916, 920, 912, 796, 391, 622, 627, 634, 642, 749, 753, 773, 745, 757, 761, 765, 777, 788, 781, 647, 719, 651, 658, 726, 662, 715, 730, 276, 1156, 1164, 1169, 1174, 1178, 1187, 1182, 1191, 1218, 190, 592, 583, 937, 903, 1077, 1209, 458, 970, 975, 980, 988, 998, 1003, 1007, 1014, 1019, 1024, 1030, 1034, 1038, 162, 574, 562, 570, 837, 1105, 1109, 1204, 432, 818, 823, 833, 896, 850, 899, 842, 846, 861, 865, 870, 874, 878, 882, 486, 1048, 1054, 1059, 1064, 1072, 1084, 1088, 156, 604, 826, 1199, 511, 1118, 1124, 1128, 1136, 1140, 148, 554, 558, 566, 578, 588, 600, 614, 618, 630, 638, 810, 814, 942, 947, 959, 966, 1010, 1041, 1068, 1101, 1113, 1149, 1160, 1195, 1224, 1233, 1238, 1453, 1701, 1444, 1594, 1461, 1474, 1604, 1448, 1456, 1464, 1469, 1482, 1486, 1477, 1489, 1498, 1493, 1501, 1514, 1518, 1526, 1530, 1522, 1510, 1538, 1542, 1550, 1574, 1570, 1566, 1562, 1558, 1554, 1578, 1546, 1534, 1505, 1581, 1652, 1648, 1620, 1644, 1640, 1600, 1624, 1612, 1616, 1632, 1628, 1608, 1636, 1590, 1585, 1655, 1664, 1659, 1667, 1680, 1689, 1684, 1676, 1671, 1705, 1697, 1692, 1713, 1708, 1729, 1721, 1725, 1716, 1732, 1755, 1759, 1746, 1751, 1742, 1763, 1767, 1736, 1770, 1779, 1774, 1787, 1791, 1795, 1782, 1798, 666, 670, 676, 680]
def pm_KI_w (q : Nat) : Cond := .instanceMethod (pm_yk q)
set_option maxRecDepth 100000 in
theorem pm_KI_k : (pm_KI.zip pm_KI_h).all (fun q => decide (lw_tbl[q.2]? = some (pm_KI_w q.1)) && goodWord (pm_KI_w q.1)) = true ∧ pm_KI.length = pm_KI_h.length := by decide +kernel
theorem pm_KI_ok : ∀ q ∈ pm_KI, pm_KI_w q ∈ pm_big := by
  intro q hq
  obtain ⟨i, hi⟩ := List.getElem?_of_mem hq
  have hl : i < pm_KI.length := (List.getElem?_eq_some_iff.mp hi).1
  have h2 : ∃ j, pm_KI_h[i]? = some j := ⟨_, List.getElem?_eq_getElem (by rw [← pm_KI_k.2]; exact hl)⟩
  obtain ⟨j, hj⟩ := h2
  have hz : (q, j) ∈ pm_KI.zip pm_KI_h := List.mem_of_getElem? (i := i) (by rw [List.getElem?_zip_eq_some]; exact ⟨hi, hj⟩)
  exact pm_mem j (List.all_eq_true.mp pm_KI_k.1 (q, j) hz)
def pm_KS : List (Nat) := [(10), (18), (19), (41), (42), (43), (49), (112), (113), (116), (117), (126), (154), (155), (156), (157), (247), (252), (253), (254), (255)]
def pm_KS_h : List Nat := [933, 924, 784, 733, 654, 722, 736, 1092, 1098, 608, 611, 1132, 1153, 1045, 857, 800, 166, 684, 687, 692, 991]
def pm_KS_w (q : Nat) : Cond := .static (pm_yk q)
set_option maxRecDepth 100000 in
theorem pm_KS_k : (pm_KS.zip pm_KS_h).all (fun q => decide (lw_tbl[q.2]? = some (pm_KS_w q.1)) && goodWord (pm_KS_w q.1)) = true ∧ pm_KS.length = pm_KS_h.length := by decide +kernel
theorem pm_KS_ok : ∀ q ∈ pm_KS, pm_KS_w q ∈ pm_big := by
  intro q hq
  obtain ⟨i, hi⟩ := List.getElem?_of_mem hq
  have hl : i < pm_KS.length := (List.getElem?_eq_some_iff.mp hi).1
  have h2 : ∃ j, pm_KS_h[i]? = some j := ⟨_, List.getElem?_eq_getElem (by rw [← pm_KS_k.2]; exact hl)⟩
  obtain ⟨j, hj⟩ := h2
  have hz : (q, j) ∈ pm_KS.zip pm_KS_h := List.mem_of_getElem? (i := i) (by rw [List.getElem?_zip_eq_some]; exact ⟨hi, hj⟩)
  exact pm_mem j (List.all_eq_true.mp pm_KS_k.1 (q, j) hz)
def pm_KE : List (Nat) := [(1), (2), (3), (4), (5), (6), (7), (8), (9), (11), (13), (14), (15), (16), (17), (20), (21), (22), (24), (25), (26), (27), (28), (29), (30), (31), (32), (33), (34), (35), (36), (37), (38), (39), (40), (44), (45), (46), (47), (48), (51), (52), (53), (54), (55), (56), (57), (58), (59), (61), (62), (63), (64), (65), (66), (68), (69), (70), (71), (72), (73), (74), (75), (76), (77), (78), (79), (80), (82), (83), (84), (85), (86), (87), (88), (90), (91), (92), (93), (94), (95), (96), (97), (98), (99), (100), (101), (102), (103), (105), (106), (107), (108), (109), (110), (111), (115), (118), (119), (121), (122), (123), (124), (125), (128), (129), (130), (131), (132), (133), (134), (135), (136), (137), (138), (139), (140), (141), (142), (143), (144), (145), (146), (147), (148), (149), (150), (151), (152), (153), (159), (160), (161), (162), (163), (164), (165), (166), (167), (168), (169), (170), (171), (172), (173), (174), (175), (176), (177), (178), (179), (180), (181), (182), (183), (184), (185), (186), (187), (188), (189), (190), (191), (192), (193), (194), (195), (196), (197), (198), (199), (200), (201), (202), (203), (204), (205), (206), (207), (208), (209), (210), (211), (212), (213), (214), (215), (216), (217), (218), (219), (220), (221), (222), (223), (224), (225), (226), (227), (228), (229), (230), (231), (232), (233), (234), (235), (236), (237), (238), (239), (240), (241), (242), (243), (244), (245), (246), (248), (249), (250), (251)]
def pm_KE_h : List Nat := [892, 597, 854, 888, 1229, 952, 956, 984, 928, 1214, 741, 769, 792, 908, 32, 33, 31, 797, 623, 0, 635, 643, 10, 11, 15, 9, 12, 13, 14, 16, 18, 17, 1, 6, 2, 3, 7, 4, 5, 8, 1157, 1165, 53, 54, 55, 57, 56, 58, 1219, 593, 584, 938, 904, 1078, 1210, 971, 34, 35, 36, 37, 38, 39, 1015, 40, 41, 42, 43, 44, 575, 563, 571, 838, 1106, 1110, 1205, 819, 19, 20, 30, 23, 900, 21, 22, 24, 25, 26, 27, 28, 29, 1049, 45, 46, 1065, 1073, 47, 48, 605, 827, 1200, 1119, 49, 50, 51, 52, 555, 559, 567, 579, 589, 601, 615, 619, 631, 639, 811, 815, 943, 948, 960, 967, 1011, 1042, 1069, 1102, 1114, 1150, 1161, 1196, 1225, 59, 60, 106, 1445, 85, 61, 62, 87, 1449, 1457, 1465, 1470, 63, 64, 1478, 1490, 65, 1494, 1502, 67, 68, 70, 71, 69, 66, 73, 74, 76, 82, 81, 80, 79, 78, 77, 83, 75, 72, 1506, 1582, 99, 98, 91, 97, 96, 86, 92, 89, 90, 94, 93, 88, 95, 84, 1586, 1656, 100, 1660, 1668, 102, 104, 103, 101, 1672, 107, 105, 1693, 108, 1709, 111, 109, 110, 1717, 1733, 115, 116, 113, 114, 112, 117, 118, 1737, 1771, 119, 1775, 120, 121, 122, 1783, 1799, 667, 671, 677, 681]
def pm_KE_w (q : Nat) : Cond := .selects (pm_yk q).cls (pm_yk q) (pm_yk q)
set_option maxRecDepth 100000 in
theorem pm_KE_k : (pm_KE.zip pm_KE_h).all (fun q => decide (lw_tbl[q.2]? = some (pm_KE_w q.1)) && goodWord (pm_KE_w q.1)) = true ∧ pm_KE.length = pm_KE_h.length := by decide +kernel
theorem pm_KE_ok : ∀ q ∈ pm_KE, pm_KE_w q ∈ pm_big := by
  intro q hq
  obtain ⟨i, hi⟩ := List.getElem?_of_mem hq
  have hl : i < pm_KE.length := (List.getElem?_eq_some_iff.mp hi).1
  have h2 : ∃ j, pm_KE_h[i]? = some j := ⟨_, List.getElem?_eq_getElem (by rw [← pm_KE_k.2]; exact hl)⟩
  obtain ⟨j, hj⟩ := h2
  have hz : (q, j) ∈ pm_KE.zip pm_KE_h := List.mem_of_getElem? (i := i) (by rw [List.getElem?_zip_eq_some]; exact ⟨hi, hj⟩)
  exact pm_mem j (List.all_eq_true.mp pm_KE_k.1 (q, j) hz)
theorem pm_w_min_s : (.static Lib.Math.min.name : Cond) ∈ pm_big := pm_mem 803 (by decide +kernel)
theorem pm_w_min_c : (.code Lib.Math.min.name Lib.Math.min.code 2 (some .int) : Cond) ∈ pm_big := pm_mem 804 (by decide +kernel)
theorem pm_w_max_s : (.static Lib.Math.max.name : Cond) ∈ pm_big := pm_mem 1144 (by decide +kernel)
theorem pm_w_max_c : (.code Lib.Math.max.name Lib.Math.max.code 2 (some .int) : Cond) ∈ pm_big := pm_mem 1145 (by decide +kernel)
theorem pm_w_abs_s : (.static Lib.Math.abs.name : Cond) ∈ pm_big := pm_mem 1095 (by decide +kernel)
theorem pm_w_abs_c : (.code Lib.Math.abs.name Lib.Math.abs.code 1 (some .int) : Cond) ∈ pm_big := pm_mem 1096 (by decide +kernel)
theorem pm_w_math : (.initialized "java/lang/Math" : Cond) ∈ pm_big := pm_mem 142 (by decide +kernel)
theorem pm_w_sys : (.initialized "java/lang/System" : Cond) ∈ pm_big := pm_mem 143 (by decide +kernel)
theorem pm_w_ac_n : (.native arraycopyName : Cond) ∈ pm_big := pm_mem 807 (by decide +kernel)
theorem pm_w_ac_s : (.static arraycopyName : Cond) ∈ pm_big := pm_mem 806 (by decide +kernel)
theorem pm_w_oi : (.instanceMethod Lib.objectInit : Cond) ∈ pm_big := pm_mem 151 (by decide +kernel)
theorem pm_w_oc : (.code Lib.objectInit ⟨#[0xb1]⟩ 1 none : Cond) ∈ pm_big := pm_mem 152 (by decide +kernel)
theorem pm_w_a_int : (.arrayClass .int : Cond) ∈ pm_big := pm_mem 186 (by decide +kernel)
theorem pm_w_a_boolean : (.arrayClass .boolean : Cond) ∈ pm_big := pm_mem 454 (by decide +kernel)
theorem pm_w_a_long : (.arrayClass .long : Cond) ∈ pm_big := pm_mem 527 (by decide +kernel)
end
section
def pm_nth {α : Type} : List α → Nat → Option α
  | [], _ => none
  | a :: _, 0 => some a
  | _ :: l, n + 1 => pm_nth l n
def pm_iv (x y : Nat) : Int32 := match y with
  | 0 => nI x
  | _ => -nI x
def pm_lv (x y : Nat) : Int64 := match y with
  | 0 => lN x
  | _ => -lN x
end
section
/-! the tables' check: every row of every method's code is what the bytes decode to, its operands are what the tables say -/
def pm_tg (C : List pm_I) (t : Nat) (v : Int) : Bool := match pm_nth C t with
  | some e => decide ((e.1 : Int) = v)
  | none => false
def pm_dc (b : ByteArray) (pc : Nat) (ins : Instr) (len : Nat) : Bool := match decode b pc with
  | .ok q => decide (q.1 = ins) && decide (q.2 = len)
  | .error _ => false
def pm_chkp (x y : Nat) (zs : List Nat) (own : Nat) (nm : String) : Bool := match pm_nth pm_cls x with
  | some q => decide (y < q.2.2) && (match parseFieldDescriptor (q.2.1 y).2.2.1 with
    | some .int => decide (zs = [0]) && !(q.2.1 y).2.2.2
    | some .boolean => decide (zs = [1]) && !(q.2.1 y).2.2.2
    | some (.object _) => decide (zs = [2]) && (q.2.1 y).2.2.2 && decide (nm = "<init>") && decide ((q.2.1 y).1 = pm_cn.getD own "")
    | some (.array _) => decide (zs = [2]) && (q.2.1 y).2.2.2 && decide (nm = "<init>") && decide ((q.2.1 y).1 = pm_cn.getD own "")
    | _ => false)
  | none => false
/-- a call's row: the method's number of parameters, its class -/
def pm_chkc (x y : Nat) (b : pm_M → Bool) : Bool := match pm_nth pm_tab x with
  | some M => decide (M.1.cls ≠ "java/lang/invoke/MethodHandle") && decide (M.1.cls ≠ "java/lang/invoke/VarHandle") && decide ((parseMethodDescriptor M.1.desc).map (fun d => d.parameters.length) = some y) && decide (M.2.2.1 ≤ 40) && Nat.blt x 256 && b M
  | none => false
def pm_chk1 (M : pm_M) (idx : Nat) (i : pm_I) : Bool := match i with
  | (pc, ins, len, x, y, zs) => pm_dc M.2.1 pc ins len && match ins with
    | .goto off => pm_tg M.2.2.2.2.2 x (pc + off) && decide (len = 3)
    | .ifCond _ off => pm_tg M.2.2.2.2.2 x (pc + off) && pm_tg M.2.2.2.2.2 (idx + 1) (pc + 3) && decide (len = 3)
    | .if_icmp _ off => pm_tg M.2.2.2.2.2 x (pc + off) && pm_tg M.2.2.2.2.2 (idx + 1) (pc + 3) && decide (len = 3)
    | .tableswitch d lo hi offs => pm_tg M.2.2.2.2.2 x (pc + d) && decide (zs.length = offs.size) && decide (hi = lo + zs.length - 1) && decide (-1000 ≤ lo ∧ hi ≤ 1000) && (zs.zip offs.toList).all (fun q => pm_tg M.2.2.2.2.2 q.1 (pc + q.2))
    | .lookupswitch d ps => pm_tg M.2.2.2.2.2 x (pc + d) && decide (zs.length = ps.size) && (ps.toList.zip (ps.toList.drop 1)).all (fun (a, next) => a.1 < next.1) && (zs.zip ps.toList).all (fun q => pm_tg M.2.2.2.2.2 q.1 (pc + q.2.2) && decide (-1000 ≤ q.2.1 ∧ q.2.1 ≤ 1000))
    | .ireturn => decide (len = 1)
    | .lreturn => decide (len = 1)
    | .return_ => decide (len = 1)
    | .athrow => true
    | .getfield k => pm_tg M.2.2.2.2.2 (idx + 1) (pc + 3) && decide (len = 3) && (match x with
      | 50 => pm_SF.contains (M.2.2.2.2.1, k, y)
      | _ => pm_FL.contains (M.2.2.2.2.1, k, x, y) && (match pm_nth pm_cls x with
        | some q => decide (y < q.2.2)
        | none => false))
    | .putfield k => pm_tg M.2.2.2.2.2 (idx + 1) (pc + 3) && decide (len = 3) && pm_FL.contains (M.2.2.2.2.1, k, x, y) && pm_chkp x y zs M.2.2.2.2.1 M.1.name
    | .getstatic k => pm_tg M.2.2.2.2.2 (idx + 1) (pc + 3) && decide (len = 3) && pm_GL.contains (M.2.2.2.2.1, k, x)
    | .ldc k => pm_tg M.2.2.2.2.2 (idx + 1) (pc + 2) && decide (len = 2) && (match y with
      | 7 => decide (M.2.2.2.2.1 = 2) && (match x with
        | 0 => decide (k = 137)
        | 1 => decide (k = 152)
        | _ => false)
      | _ => pm_CL.contains (M.2.2.2.2.1, k, x))
    | .ldc_w k => pm_tg M.2.2.2.2.2 (idx + 1) (pc + 3) && decide (len = 3) && pm_CL.contains (M.2.2.2.2.1, k, x)
    | .ldc2_w k => pm_tg M.2.2.2.2.2 (idx + 1) (pc + 3) && decide (len = 3) && pm_NL.contains (M.2.2.2.2.1, k, x, y) && decide (y < 2)
    | .iconst n => pm_tg M.2.2.2.2.2 (idx + 1) (pc + 1) && decide (len = 1) && decide (Int32.ofInt n = pm_iv x y)
    | .bipush n => pm_tg M.2.2.2.2.2 (idx + 1) (pc + 2) && decide (len = 2) && decide ((Int8.ofInt n).toInt32 = pm_iv x y)
    | .sipush n => pm_tg M.2.2.2.2.2 (idx + 1) (pc + 3) && decide (len = 3) && decide ((Int16.ofInt n).toInt32 = pm_iv x y)
    | .lconst n => pm_tg M.2.2.2.2.2 (idx + 1) (pc + 1) && decide (len = 1) && decide (Int64.ofNat n.val = pm_lv x y)
    | .new k => pm_tg M.2.2.2.2.2 (idx + 1) (pc + 3) && decide (len = 3) && pm_NW.contains (M.2.2.2.2.1, k, x) && decide (x < 13)
    | .newarray _ => pm_tg M.2.2.2.2.2 (idx + 1) (pc + 2) && decide (len = 2)
    | .invokevirtual k => match x with
      | 9999 => true
      | _ => pm_tg M.2.2.2.2.2 (idx + 1) (pc + 3) && decide (len = 3) && pm_ML.contains (M.2.2.2.2.1, k, x) && pm_KI.contains x && pm_KE.contains x && pm_chkc x y (fun N => decide (zs = [N.2.2.2.2.1]))
    | .invokestatic k => match x with
      | 9999 => true
      | _ => pm_tg M.2.2.2.2.2 (idx + 1) (pc + 3) && decide (len = 3) && (match Nat.ble 1000 x with
        | true => pm_MI.contains (M.2.2.2.2.1, k, x)
        | false => pm_KS.contains x && (pm_ML.contains (M.2.2.2.2.1, k, x) || pm_MN.contains (M.2.2.2.2.1, k, x)) && pm_chkc x y (fun _ => true))
    | .invokespecial k => match x with
      | 9999 => true
      | 1004 => pm_tg M.2.2.2.2.2 (idx + 1) (pc + 3) && decide (len = 3) && pm_MI.contains (M.2.2.2.2.1, k, 1004)
      | _ => pm_tg M.2.2.2.2.2 (idx + 1) (pc + 3) && decide (len = 3) && pm_KI.contains x && (pm_ML.contains (M.2.2.2.2.1, k, x) || pm_MN.contains (M.2.2.2.2.1, k, x)) && pm_chkc x y (fun N => decide (N.1.name = "<init>") && decide (N.2.2.2.1 = none))
    | .aload _ | .iload _ | .lload _ | .astore _ | .istore _ | .lstore _ => pm_tg M.2.2.2.2.2 (idx + 1) (pc + 2) && decide (len = 2)
    | .iinc _ _ => pm_tg M.2.2.2.2.2 (idx + 1) (pc + 3) && decide (len = 3)
    | _ => pm_tg M.2.2.2.2.2 (idx + 1) (pc + 1) && decide (len = 1)
def pm_chk (M : pm_M) : Bool := (M.2.2.2.2.2.zipIdx).all (fun q => pm_chk1 M q.2 q.1) && decide (M.1.cls = pm_cn.getD M.2.2.2.2.1 "") && decide (M.2.2.2.2.1 < 19) && decide (plainName M.1.cls = true)
end
section
theorem pm_pcs {α : Type} (f : α → Bool) (l : List α) (a n : Nat) (h1 : ((l.drop a).take n).all f = true) (h2 : (l.drop (a + n)).all f = true) : (l.drop a).all f = true := by
  rw [← List.drop_drop] at h2
  rw [← List.take_append_drop n (l.drop a), List.all_append, h1, h2]
  rfl
theorem pm_pce {α : Type} (f : α → Bool) (l : List α) (a : Nat) (h : l.length ≤ a) : (l.drop a).all f = true := by
  rw [List.drop_eq_nil_of_le h]
  rfl
/-- a method's head: its class -/
def pm_chkh (M : pm_M) : Bool := decide (M.1.cls = pm_cn.getD M.2.2.2.2.1 "") && decide (M.2.2.2.2.1 < 19) && decide (plainName M.1.cls = true)
theorem pm_chkj {M : pm_M} (h : (M.2.2.2.2.2.zipIdx).all (fun q => pm_chk1 M q.2 q.1) = true) (h2 : pm_chkh M = true) : pm_chk M = true := by
  unfold pm_chk
  unfold pm_chkh at h2
  rw [h]
  simpa using h2
end
section
def pm_Mx_158 : pm_M := (⟨"PaidWhereMadeModel", "<init>", "()V"⟩, prog_14_method_1_code, 1, none, 12, pc_158)
set_option maxRecDepth 100000 in
theorem pm_ckr_158_0 : (((pm_Mx_158.2.2.2.2.2.zipIdx).drop 0).take 50).all (fun q => pm_chk1 pm_Mx_158 q.2 q.1) = true := by decide +kernel
set_option maxRecDepth 100000 in
theorem pm_ckr_158_50 : (((pm_Mx_158.2.2.2.2.2.zipIdx).drop 50).take 50).all (fun q => pm_chk1 pm_Mx_158 q.2 q.1) = true := by decide +kernel
set_option maxRecDepth 100000 in
theorem pm_ckr_158_100 : (((pm_Mx_158.2.2.2.2.2.zipIdx).drop 100).take 50).all (fun q => pm_chk1 pm_Mx_158 q.2 q.1) = true := by decide +kernel
set_option maxRecDepth 100000 in
theorem pm_ckr_158_150 : (((pm_Mx_158.2.2.2.2.2.zipIdx).drop 150).take 50).all (fun q => pm_chk1 pm_Mx_158 q.2 q.1) = true := by decide +kernel
set_option maxRecDepth 100000 in
theorem pm_ckr_158_200 : (((pm_Mx_158.2.2.2.2.2.zipIdx).drop 200).take 50).all (fun q => pm_chk1 pm_Mx_158 q.2 q.1) = true := by decide +kernel
set_option maxRecDepth 100000 in
theorem pm_ckr_158_250 : (((pm_Mx_158.2.2.2.2.2.zipIdx).drop 250).take 50).all (fun q => pm_chk1 pm_Mx_158 q.2 q.1) = true := by decide +kernel
set_option maxRecDepth 100000 in
theorem pm_ckr_158_300 : (((pm_Mx_158.2.2.2.2.2.zipIdx).drop 300).take 50).all (fun q => pm_chk1 pm_Mx_158 q.2 q.1) = true := by decide +kernel
set_option maxRecDepth 100000 in
theorem pm_ckr_158_350 : (((pm_Mx_158.2.2.2.2.2.zipIdx).drop 350).take 50).all (fun q => pm_chk1 pm_Mx_158 q.2 q.1) = true := by decide +kernel
set_option maxRecDepth 100000 in
theorem pm_ckr_158_400 : (((pm_Mx_158.2.2.2.2.2.zipIdx).drop 400).take 50).all (fun q => pm_chk1 pm_Mx_158 q.2 q.1) = true := by decide +kernel
set_option maxRecDepth 100000 in
theorem pm_ckr_158_450 : (((pm_Mx_158.2.2.2.2.2.zipIdx).drop 450).take 50).all (fun q => pm_chk1 pm_Mx_158 q.2 q.1) = true := by decide +kernel
set_option maxRecDepth 100000 in
theorem pm_ckr_158_500 : (((pm_Mx_158.2.2.2.2.2.zipIdx).drop 500).take 50).all (fun q => pm_chk1 pm_Mx_158 q.2 q.1) = true := by decide +kernel
set_option maxRecDepth 100000 in
theorem pm_ckm_158 : pm_chk pm_Mx_158 = true := pm_chkj (pm_pcs _ _ 0 50 pm_ckr_158_0 (pm_pcs _ _ 50 50 pm_ckr_158_50 (pm_pcs _ _ 100 50 pm_ckr_158_100 (pm_pcs _ _ 150 50 pm_ckr_158_150 (pm_pcs _ _ 200 50 pm_ckr_158_200 (pm_pcs _ _ 250 50 pm_ckr_158_250 (pm_pcs _ _ 300 50 pm_ckr_158_300 (pm_pcs _ _ 350 50 pm_ckr_158_350 (pm_pcs _ _ 400 50 pm_ckr_158_400 (pm_pcs _ _ 450 50 pm_ckr_158_450 (pm_pcs _ _ 500 50 pm_ckr_158_500 (pm_pce _ _ _ (by decide +kernel))))))))))))) (by decide +kernel)
end
section
def pm_Mx_245 : pm_M := (⟨"PaidWhereMadeModel", "image", "(Z)Z"⟩, prog_14_method_89_code, 3, (some .boolean), 12, pc_245)
set_option maxRecDepth 100000 in
theorem pm_ckr_245_0 : (((pm_Mx_245.2.2.2.2.2.zipIdx).drop 0).take 50).all (fun q => pm_chk1 pm_Mx_245 q.2 q.1) = true := by decide +kernel
set_option maxRecDepth 100000 in
theorem pm_ckr_245_50 : (((pm_Mx_245.2.2.2.2.2.zipIdx).drop 50).take 50).all (fun q => pm_chk1 pm_Mx_245 q.2 q.1) = true := by decide +kernel
set_option maxRecDepth 100000 in
theorem pm_ckr_245_100 : (((pm_Mx_245.2.2.2.2.2.zipIdx).drop 100).take 50).all (fun q => pm_chk1 pm_Mx_245 q.2 q.1) = true := by decide +kernel
set_option maxRecDepth 100000 in
theorem pm_ckr_245_150 : (((pm_Mx_245.2.2.2.2.2.zipIdx).drop 150).take 50).all (fun q => pm_chk1 pm_Mx_245 q.2 q.1) = true := by decide +kernel
set_option maxRecDepth 100000 in
theorem pm_ckm_245 : pm_chk pm_Mx_245 = true := pm_chkj (pm_pcs _ _ 0 50 pm_ckr_245_0 (pm_pcs _ _ 50 50 pm_ckr_245_50 (pm_pcs _ _ 100 50 pm_ckr_245_100 (pm_pcs _ _ 150 50 pm_ckr_245_150 (pm_pce _ _ _ (by decide +kernel)))))) (by decide +kernel)
end
section
def pm_Mx_law : pm_M := (x, code, maxLocals, ret, 18, pc_law)
set_option maxRecDepth 100000 in
theorem pm_ckr_law_0 : (((pm_Mx_law.2.2.2.2.2.zipIdx).drop 0).take 40).all (fun q => pm_chk1 pm_Mx_law q.2 q.1) = true := by decide +kernel
set_option maxRecDepth 100000 in
theorem pm_ckr_law_40 : (((pm_Mx_law.2.2.2.2.2.zipIdx).drop 40).take 40).all (fun q => pm_chk1 pm_Mx_law q.2 q.1) = true := by decide +kernel
set_option maxRecDepth 100000 in
theorem pm_ckr_law_80 : (((pm_Mx_law.2.2.2.2.2.zipIdx).drop 80).take 40).all (fun q => pm_chk1 pm_Mx_law q.2 q.1) = true := by decide +kernel
set_option maxRecDepth 100000 in
theorem pm_ckr_law_120 : (((pm_Mx_law.2.2.2.2.2.zipIdx).drop 120).take 40).all (fun q => pm_chk1 pm_Mx_law q.2 q.1) = true := by decide +kernel
set_option maxRecDepth 100000 in
theorem pm_ckr_law_160 : (((pm_Mx_law.2.2.2.2.2.zipIdx).drop 160).take 40).all (fun q => pm_chk1 pm_Mx_law q.2 q.1) = true := by decide +kernel
set_option maxRecDepth 100000 in
theorem pm_ckr_law_200 : (((pm_Mx_law.2.2.2.2.2.zipIdx).drop 200).take 40).all (fun q => pm_chk1 pm_Mx_law q.2 q.1) = true := by decide +kernel
set_option maxRecDepth 100000 in
theorem pm_ckr_law_240 : (((pm_Mx_law.2.2.2.2.2.zipIdx).drop 240).take 40).all (fun q => pm_chk1 pm_Mx_law q.2 q.1) = true := by decide +kernel
set_option maxRecDepth 100000 in
theorem pm_ckr_law_280 : (((pm_Mx_law.2.2.2.2.2.zipIdx).drop 280).take 40).all (fun q => pm_chk1 pm_Mx_law q.2 q.1) = true := by decide +kernel
set_option maxRecDepth 100000 in
theorem pm_ckr_law_320 : (((pm_Mx_law.2.2.2.2.2.zipIdx).drop 320).take 40).all (fun q => pm_chk1 pm_Mx_law q.2 q.1) = true := by decide +kernel
set_option maxRecDepth 100000 in
theorem pm_ckr_law_360 : (((pm_Mx_law.2.2.2.2.2.zipIdx).drop 360).take 40).all (fun q => pm_chk1 pm_Mx_law q.2 q.1) = true := by decide +kernel
set_option maxRecDepth 100000 in
theorem pm_ckr_law_400 : (((pm_Mx_law.2.2.2.2.2.zipIdx).drop 400).take 40).all (fun q => pm_chk1 pm_Mx_law q.2 q.1) = true := by decide +kernel
set_option maxRecDepth 100000 in
theorem pm_ckr_law_440 : (((pm_Mx_law.2.2.2.2.2.zipIdx).drop 440).take 40).all (fun q => pm_chk1 pm_Mx_law q.2 q.1) = true := by decide +kernel
set_option maxRecDepth 100000 in
theorem pm_ckr_law_480 : (((pm_Mx_law.2.2.2.2.2.zipIdx).drop 480).take 40).all (fun q => pm_chk1 pm_Mx_law q.2 q.1) = true := by decide +kernel
set_option maxRecDepth 100000 in
theorem pm_ckr_law_520 : (((pm_Mx_law.2.2.2.2.2.zipIdx).drop 520).take 40).all (fun q => pm_chk1 pm_Mx_law q.2 q.1) = true := by decide +kernel
set_option maxRecDepth 100000 in
theorem pm_ckr_law_560 : (((pm_Mx_law.2.2.2.2.2.zipIdx).drop 560).take 40).all (fun q => pm_chk1 pm_Mx_law q.2 q.1) = true := by decide +kernel
set_option maxRecDepth 100000 in
theorem pm_ckr_law_600 : (((pm_Mx_law.2.2.2.2.2.zipIdx).drop 600).take 40).all (fun q => pm_chk1 pm_Mx_law q.2 q.1) = true := by decide +kernel
set_option maxRecDepth 100000 in
theorem pm_ckr_law_640 : (((pm_Mx_law.2.2.2.2.2.zipIdx).drop 640).take 40).all (fun q => pm_chk1 pm_Mx_law q.2 q.1) = true := by decide +kernel
set_option maxRecDepth 100000 in
theorem pm_ckr_law_680 : (((pm_Mx_law.2.2.2.2.2.zipIdx).drop 680).take 40).all (fun q => pm_chk1 pm_Mx_law q.2 q.1) = true := by decide +kernel
set_option maxRecDepth 100000 in
theorem pm_ckm_law : pm_chk pm_Mx_law = true := pm_chkj (pm_pcs _ _ 0 40 pm_ckr_law_0 (pm_pcs _ _ 40 40 pm_ckr_law_40 (pm_pcs _ _ 80 40 pm_ckr_law_80 (pm_pcs _ _ 120 40 pm_ckr_law_120 (pm_pcs _ _ 160 40 pm_ckr_law_160 (pm_pcs _ _ 200 40 pm_ckr_law_200 (pm_pcs _ _ 240 40 pm_ckr_law_240 (pm_pcs _ _ 280 40 pm_ckr_law_280 (pm_pcs _ _ 320 40 pm_ckr_law_320 (pm_pcs _ _ 360 40 pm_ckr_law_360 (pm_pcs _ _ 400 40 pm_ckr_law_400 (pm_pcs _ _ 440 40 pm_ckr_law_440 (pm_pcs _ _ 480 40 pm_ckr_law_480 (pm_pcs _ _ 520 40 pm_ckr_law_520 (pm_pcs _ _ 560 40 pm_ckr_law_560 (pm_pcs _ _ 600 40 pm_ckr_law_600 (pm_pcs _ _ 640 40 pm_ckr_law_640 (pm_pcs _ _ 680 40 pm_ckr_law_680 (pm_pce _ _ _ (by decide +kernel)))))))))))))))))))) (by decide +kernel)
end
section
set_option maxRecDepth 100000 in
theorem pm_ck_0 : ∀ M ∈ pm_tab_0, pm_chk M = true := List.all_eq_true.mp (by decide +kernel)
set_option maxRecDepth 100000 in
theorem pm_ck_1 : ∀ M ∈ pm_tab_1, pm_chk M = true := List.all_eq_true.mp (by decide +kernel)
set_option maxRecDepth 100000 in
theorem pm_ck_2 : ∀ M ∈ pm_tab_2, pm_chk M = true := List.all_eq_true.mp (by decide +kernel)
set_option maxRecDepth 100000 in
theorem pm_ck_3 : ∀ M ∈ pm_tab_3, pm_chk M = true := List.all_eq_true.mp (by decide +kernel)
set_option maxRecDepth 100000 in
theorem pm_ck_4 : ∀ M ∈ pm_tab_4, pm_chk M = true := List.all_eq_true.mp (by decide +kernel)
end
section
set_option maxRecDepth 100000 in
theorem pm_ck_5 : ∀ M ∈ pm_tab_5, pm_chk M = true := List.all_eq_true.mp (by decide +kernel)
set_option maxRecDepth 100000 in
theorem pm_ck_6 : ∀ M ∈ pm_tab_6, pm_chk M = true := List.all_eq_true.mp (by decide +kernel)
set_option maxRecDepth 100000 in
theorem pm_ck_7 : ∀ M ∈ pm_tab_7, pm_chk M = true := List.all_eq_true.mp (by decide +kernel)
set_option maxRecDepth 100000 in
theorem pm_ck_8 : ∀ M ∈ pm_tab_8, pm_chk M = true := List.all_eq_true.mp (by decide +kernel)
set_option maxRecDepth 100000 in
theorem pm_ckm_144 : pm_chk (⟨"PaidWhereMade", "first", "(II)I"⟩, prog_1_method_18_code, 3, (some .int), 11, pc_144) = true := by decide +kernel
set_option maxRecDepth 100000 in
theorem pm_ckm_145 : pm_chk (⟨"PaidWhereMade", "tour", "(II)I"⟩, prog_1_method_19_code, 3, (some .int), 11, pc_145) = true := by decide +kernel
set_option maxRecDepth 100000 in
theorem pm_ckm_146 : pm_chk (⟨"PaidWhereMade", "share", "(IIII)I"⟩, prog_1_method_20_code, 6, (some .int), 11, pc_146) = true := by decide +kernel
set_option maxRecDepth 100000 in
theorem pm_ckm_147 : pm_chk (⟨"PaidWhereMade", "chance", "(III)Z"⟩, prog_1_method_21_code, 4, (some .boolean), 11, pc_147) = true := by decide +kernel
set_option maxRecDepth 100000 in
theorem pm_ckm_148 : pm_chk (⟨"PaidWhereMade", "waiting", "(III)J"⟩, prog_1_method_22_code, 4, (some .long), 11, pc_148) = true := by decide +kernel
set_option maxRecDepth 100000 in
theorem pm_ckm_149 : pm_chk (⟨"PaidWhereMade", "line", "(IIII)I"⟩, prog_1_method_23_code, 7, (some .int), 11, pc_149) = true := by decide +kernel
set_option maxRecDepth 100000 in
theorem pm_ckm_150 : pm_chk (⟨"PaidWhereMade", "wrong", "(I)I"⟩, prog_1_method_24_code, 2, (some .int), 11, pc_150) = true := by decide +kernel
set_option maxRecDepth 100000 in
theorem pm_ckm_151 : pm_chk (⟨"PaidWhereMade", "image", "(Z)Z"⟩, prog_1_method_25_code, 2, (some .boolean), 11, pc_151) = true := by decide +kernel
set_option maxRecDepth 100000 in
theorem pm_ckm_152 : pm_chk (⟨"PaidWhereMade", "look", "(I)I"⟩, prog_1_method_26_code, 2, (some .int), 11, pc_152) = true := by decide +kernel
set_option maxRecDepth 100000 in
theorem pm_ckm_153 : pm_chk (⟨"PaidWhereMade", "lookAtSetting", "(I)I"⟩, prog_1_method_27_code, 2, (some .int), 11, pc_153) = true := by decide +kernel
set_option maxRecDepth 100000 in
theorem pm_ckm_154 : pm_chk (⟨"PaidWhereMade", "isSunday", "(I)Z"⟩, prog_1_method_28_code, 1, (some .boolean), 11, pc_154) = true := by decide +kernel
set_option maxRecDepth 100000 in
theorem pm_ckm_155 : pm_chk (⟨"PaidWhereMade", "isSetOf", "(II)Z"⟩, prog_1_method_29_code, 2, (some .boolean), 11, pc_155) = true := by decide +kernel
set_option maxRecDepth 100000 in
theorem pm_ckm_156 : pm_chk (⟨"PaidWhereMade", "isIn", "(II)Z"⟩, prog_1_method_30_code, 2, (some .boolean), 11, pc_156) = true := by decide +kernel
set_option maxRecDepth 100000 in
theorem pm_ckm_157 : pm_chk (⟨"PaidWhereMade", "copyRow", "([I[I)V"⟩, prog_1_method_31_code, 2, none, 11, pc_157) = true := by decide +kernel
set_option maxRecDepth 100000 in
theorem pm_ckm_159 : pm_chk (⟨"PaidWhereMadeModel", "isIn", "(III)Z"⟩, prog_14_method_3_code, 4, (some .boolean), 12, pc_159) = true := by decide +kernel
theorem pm_ck_9 : ∀ M ∈ pm_tab_9, pm_chk M = true := List.forall_mem_cons.mpr ⟨pm_ckm_144, List.forall_mem_cons.mpr ⟨pm_ckm_145, List.forall_mem_cons.mpr ⟨pm_ckm_146, List.forall_mem_cons.mpr ⟨pm_ckm_147, List.forall_mem_cons.mpr ⟨pm_ckm_148, List.forall_mem_cons.mpr ⟨pm_ckm_149, List.forall_mem_cons.mpr ⟨pm_ckm_150, List.forall_mem_cons.mpr ⟨pm_ckm_151, List.forall_mem_cons.mpr ⟨pm_ckm_152, List.forall_mem_cons.mpr ⟨pm_ckm_153, List.forall_mem_cons.mpr ⟨pm_ckm_154, List.forall_mem_cons.mpr ⟨pm_ckm_155, List.forall_mem_cons.mpr ⟨pm_ckm_156, List.forall_mem_cons.mpr ⟨pm_ckm_157, List.forall_mem_cons.mpr ⟨pm_ckm_158, List.forall_mem_cons.mpr ⟨pm_ckm_159, fun _ h => absurd h List.not_mem_nil⟩⟩⟩⟩⟩⟩⟩⟩⟩⟩⟩⟩⟩⟩⟩⟩
end
section
set_option maxRecDepth 100000 in
theorem pm_ck_10 : ∀ M ∈ pm_tab_10, pm_chk M = true := List.all_eq_true.mp (by decide +kernel)
set_option maxRecDepth 100000 in
theorem pm_ck_11 : ∀ M ∈ pm_tab_11, pm_chk M = true := List.all_eq_true.mp (by decide +kernel)
set_option maxRecDepth 100000 in
theorem pm_ck_12 : ∀ M ∈ pm_tab_12, pm_chk M = true := List.all_eq_true.mp (by decide +kernel)
set_option maxRecDepth 100000 in
theorem pm_ck_13 : ∀ M ∈ pm_tab_13, pm_chk M = true := List.all_eq_true.mp (by decide +kernel)
set_option maxRecDepth 100000 in
theorem pm_ck_14 : ∀ M ∈ pm_tab_14, pm_chk M = true := List.all_eq_true.mp (by decide +kernel)
end
section
set_option maxRecDepth 100000 in
theorem pm_ckm_240 : pm_chk (⟨"PaidWhereMadeModel", "wrongWith", "(I)I"⟩, prog_14_method_84_code, 5, (some .int), 12, pc_240) = true := by decide +kernel
set_option maxRecDepth 100000 in
theorem pm_ckm_241 : pm_chk (⟨"PaidWhereMadeModel", "wrong", "(I)I"⟩, prog_14_method_85_code, 8, (some .int), 12, pc_241) = true := by decide +kernel
set_option maxRecDepth 100000 in
theorem pm_ckm_242 : pm_chk (⟨"PaidWhereMadeModel", "kept", "(I)I"⟩, prog_14_method_86_code, 2, (some .int), 12, pc_242) = true := by decide +kernel
set_option maxRecDepth 100000 in
theorem pm_ckm_243 : pm_chk (⟨"PaidWhereMadeModel", "keepsDebts", "()V"⟩, prog_14_method_87_code, 2, none, 12, pc_243) = true := by decide +kernel
set_option maxRecDepth 100000 in
theorem pm_ckm_244 : pm_chk (⟨"PaidWhereMadeModel", "keepsLaw", "()V"⟩, prog_14_method_88_code, 2, none, 12, pc_244) = true := by decide +kernel
set_option maxRecDepth 100000 in
theorem pm_ckm_246 : pm_chk (⟨"PaidWhereMadeModel", "look", "(I)I"⟩, prog_14_method_90_code, 2, (some .int), 12, pc_246) = true := by decide +kernel
set_option maxRecDepth 100000 in
theorem pm_ckm_247 : pm_chk (⟨"java/util/Arrays", "fill", "([II)V"⟩, prog_21_method_103_code, 4, none, 14, pc_247) = true := by decide +kernel
set_option maxRecDepth 100000 in
theorem pm_ckm_248 : pm_chk (⟨"java/lang/String", "length", "()I"⟩, prog_17_method_54_code, 1, (some .int), 15, pc_248) = true := by decide +kernel
set_option maxRecDepth 100000 in
theorem pm_ckm_249 : pm_chk (⟨"java/lang/String", "coder", "()B"⟩, prog_17_method_152_code, 1, (some .byte), 15, pc_249) = true := by decide +kernel
set_option maxRecDepth 100000 in
theorem pm_ckm_250 : pm_chk (⟨"java/lang/String", "charAt", "(I)C"⟩, prog_17_method_56_code, 2, (some .char), 15, pc_250) = true := by decide +kernel
set_option maxRecDepth 100000 in
theorem pm_ckm_251 : pm_chk (⟨"java/lang/String", "isLatin1", "()Z"⟩, prog_17_method_154_code, 1, (some .boolean), 15, pc_251) = true := by decide +kernel
set_option maxRecDepth 100000 in
theorem pm_ckm_252 : pm_chk (⟨"java/lang/StringLatin1", "charAt", "([BI)C"⟩, prog_18_method_2_code, 2, (some .char), 16, pc_252) = true := by decide +kernel
set_option maxRecDepth 100000 in
theorem pm_ckm_253 : pm_chk (⟨"java/lang/String", "checkIndex", "(II)V"⟩, prog_17_method_155_code, 2, none, 15, pc_253) = true := by decide +kernel
set_option maxRecDepth 100000 in
theorem pm_ckm_254 : pm_chk (⟨"jdk/internal/util/Preconditions", "checkIndex", "(IILjava/util/function/BiFunction;)I"⟩, prog_22_method_11_code, 3, (some .int), 17, pc_254) = true := by decide +kernel
set_option maxRecDepth 100000 in
theorem pm_ckm_255 : pm_chk (⟨"java/lang/Integer", "bitCount", "(I)I"⟩, prog_15_method_49_code, 1, (some .int), 13, pc_255) = true := by decide +kernel
theorem pm_ck_15 : ∀ M ∈ pm_tab_15, pm_chk M = true := List.forall_mem_cons.mpr ⟨pm_ckm_240, List.forall_mem_cons.mpr ⟨pm_ckm_241, List.forall_mem_cons.mpr ⟨pm_ckm_242, List.forall_mem_cons.mpr ⟨pm_ckm_243, List.forall_mem_cons.mpr ⟨pm_ckm_244, List.forall_mem_cons.mpr ⟨pm_ckm_245, List.forall_mem_cons.mpr ⟨pm_ckm_246, List.forall_mem_cons.mpr ⟨pm_ckm_247, List.forall_mem_cons.mpr ⟨pm_ckm_248, List.forall_mem_cons.mpr ⟨pm_ckm_249, List.forall_mem_cons.mpr ⟨pm_ckm_250, List.forall_mem_cons.mpr ⟨pm_ckm_251, List.forall_mem_cons.mpr ⟨pm_ckm_252, List.forall_mem_cons.mpr ⟨pm_ckm_253, List.forall_mem_cons.mpr ⟨pm_ckm_254, List.forall_mem_cons.mpr ⟨pm_ckm_255, fun _ h => absurd h List.not_mem_nil⟩⟩⟩⟩⟩⟩⟩⟩⟩⟩⟩⟩⟩⟩⟩⟩
end
section
theorem pm_ck : ∀ M ∈ pm_tab, pm_chk M = true := List.forall_mem_append.mpr ⟨pm_ck_0, List.forall_mem_append.mpr ⟨pm_ck_1, List.forall_mem_append.mpr ⟨pm_ck_2, List.forall_mem_append.mpr ⟨pm_ck_3, List.forall_mem_append.mpr ⟨pm_ck_4, List.forall_mem_append.mpr ⟨pm_ck_5, List.forall_mem_append.mpr ⟨pm_ck_6, List.forall_mem_append.mpr ⟨pm_ck_7, List.forall_mem_append.mpr ⟨pm_ck_8, List.forall_mem_append.mpr ⟨pm_ck_9, List.forall_mem_append.mpr ⟨pm_ck_10, List.forall_mem_append.mpr ⟨pm_ck_11, List.forall_mem_append.mpr ⟨pm_ck_12, List.forall_mem_append.mpr ⟨pm_ck_13, List.forall_mem_append.mpr ⟨pm_ck_14, List.forall_mem_append.mpr ⟨pm_ck_15, List.forall_mem_cons.mpr ⟨pm_ckm_law, fun _ h => absurd h List.not_mem_nil⟩⟩⟩⟩⟩⟩⟩⟩⟩⟩⟩⟩⟩⟩⟩⟩⟩
end
section
/-! THE ABSTRACT MACHINE. A heap is a list of cells; a reference is the place of its cell in it. A step, in continuation form, with any answer type. -/
abbrev pm_un : Value := .retAddr 7777
def pm_s1 (L : List Value) (i : Nat) (v : Value) : Option (List Value) := match pm_nth L i with
  | none => none
  | some _ => match i with
    | 0 => some (L.set 0 v)
    | j + 1 => match pm_nth L j with
      | some w => match Nat.beq w.category 1 with
        | true => some (L.set (j + 1) v)
        | false => none
      | none => none
def pm_s2 (L : List Value) (i : Nat) (v : Int64) : Option (List Value) := match pm_nth L (i + 1) with
  | none => none
  | some _ => match pm_s1 L i (.long v) with
    | none => none
    | some L1 => some (L1.set (i + 1) pm_un)
def pm_ldi (L : List Value) (i : Nat) (st : List Value) : Option (List Value × List Value) := match pm_nth L i with
  | some (.int v) => some (L, .int v :: st)
  | _ => none
def pm_ldl (L : List Value) (i : Nat) (st : List Value) : Option (List Value × List Value) := match pm_nth L i with
  | some (.long v) => some (L, .long v :: st)
  | _ => none
def pm_lda (L : List Value) (i : Nat) (st : List Value) : Option (List Value × List Value) := match pm_nth L i with
  | some (.ref v) => some (L, .ref v :: st)
  | some (.retAddr k) => match Nat.ble k 19 || Nat.beq k 30 with
    | true => some (L, .retAddr k :: st)
    | false => none
  | _ => none
def pm_sti (L : List Value) (i : Nat) (st : List Value) : Option (List Value × List Value) := match st with
  | .int v :: st => match pm_s1 L i (.int v) with
    | some L1 => some (L1, st)
    | none => none
  | _ => none
def pm_sta (L : List Value) (i : Nat) (st : List Value) : Option (List Value × List Value) := match st with
  | .ref v :: st => match pm_s1 L i (.ref v) with
    | some L1 => some (L1, st)
    | none => none
  | _ => none
def pm_stl (L : List Value) (i : Nat) (st : List Value) : Option (List Value × List Value) := match st with
  | .long v :: st => match pm_s2 L i v with
    | some L1 => some (L1, st)
    | none => none
  | _ => none
def pm_i2 (f : Int32 → Int32 → Int32) (L st : List Value) : Option (List Value × List Value) := match st with
  | .int b :: .int a :: st => some (L, .int (f a b) :: st)
  | _ => none
def pm_l2 (f : Int64 → Int64 → Int64) (L st : List Value) : Option (List Value × List Value) := match st with
  | .long b :: .long a :: st => some (L, .long (f a b) :: st)
  | _ => none
def pm_lsh (f : Int64 → Int64 → Int64) (L st : List Value) : Option (List Value × List Value) := match st with
  | .int b :: .long a :: st => some (L, .long (f a (b.toInt64 &&& 63)) :: st)
  | _ => none
def pm_ush (a b : Int32) : Int32 := (a.toUInt32 >>> (b.toUInt32 &&& Int32.toUInt32 31)).toInt32
def pm_iinc (L : List Value) (i : Nat) (n : Int) (st : List Value) : Option (List Value × List Value) := match pm_nth L i with
  | some (.int v) => match pm_s1 L i (.int (v + Int32.ofInt n)) with
    | some L1 => some (L1, st)
    | none => none
  | _ => none
/-- instructions that touch neither heap nor control -/
def pm_pu (ins : Instr) (x y : Nat) (L st : List Value) : Option (List Value × List Value) := match ins with
  | .iconst _ => some (L, .int (pm_iv x y) :: st)
  | .bipush _ => some (L, .int (pm_iv x y) :: st)
  | .sipush _ => some (L, .int (pm_iv x y) :: st)
  | .lconst _ => some (L, .long (pm_lv x y) :: st)
  | .ldc _ => match y with
    | 7 => some (L, .retAddr x :: st)
    | _ => some (L, .int (nI x) :: st)
  | .ldc_w _ => some (L, .int (nI x) :: st)
  | .ldc2_w _ => some (L, .long (pm_lv x y) :: st)
  | .getstatic _ => match x with
    | 0 => some (L, .int 1 :: st)
    | _ => some (L, .retAddr 20 :: st)
  | .iload_n k => pm_ldi L k.val st
  | .iload k => pm_ldi L k st
  | .lload_n k => pm_ldl L k.val st
  | .lload k => pm_ldl L k st
  | .aload_n k => pm_lda L k.val st
  | .aload k => pm_lda L k st
  | .istore_n k => pm_sti L k.val st
  | .istore k => pm_sti L k st
  | .lstore_n k => pm_stl L k.val st
  | .lstore k => pm_stl L k st
  | .astore_n k => pm_sta L k.val st
  | .astore k => pm_sta L k st
  | .iinc k n => pm_iinc L k n st
  | .iadd => pm_i2 (fun a b => a + b) L st
  | .isub => pm_i2 (fun a b => a - b) L st
  | .imul => pm_i2 (fun a b => a * b) L st
  | .iand => pm_i2 (fun a b => a &&& b) L st
  | .ior => pm_i2 (fun a b => a ||| b) L st
  | .ixor => pm_i2 (fun a b => a ^^^ b) L st
  | .ishl => pm_i2 (fun a b => a <<< (b &&& 31)) L st
  | .ishr => pm_i2 (fun a b => a >>> (b &&& 31)) L st
  | .iushr => pm_i2 pm_ush L st
  | .ineg => match st with
    | .int a :: st => some (L, .int (-a) :: st)
    | _ => none
  | .ladd => pm_l2 (fun a b => a + b) L st
  | .lsub => pm_l2 (fun a b => a - b) L st
  | .lmul => pm_l2 (fun a b => a * b) L st
  | .land => pm_l2 (fun a b => a &&& b) L st
  | .lor => pm_l2 (fun a b => a ||| b) L st
  | .lshl => pm_lsh (fun a b => a <<< b) L st
  | .lshr => pm_lsh (fun a b => a >>> b) L st
  | .lcmp => match st with
    | .long b :: .long a :: st => some (L, .int (lg_cmp a b) :: st)
    | _ => none
  | .i2l => match st with
    | .int a :: st => some (L, .long a.toInt64 :: st)
    | _ => none
  | .i2c => match st with
    | .int a :: st => some (L, .int (a.toUInt32 % 65536).toInt32 :: st)
    | _ => none
  | .dup => match st with
    | .int a :: st => some (L, .int a :: .int a :: st)
    | .ref a :: st => some (L, .ref a :: .ref a :: st)
    | _ => none
  | .dup2 => match st with
    | .int b :: .ref a :: st => some (L, .int b :: .ref a :: .int b :: .ref a :: st)
    | _ => none
  | .pop => match st with
    | .int _ :: st => some (L, st)
    | _ => none
  | _ => none
/-- heap operations: field (class, slot), put, int or boolean row (kind, length, contents), its new contents, long row, new contents, a new cell, the class of an object; the script -/
abbrev pm_O (η : Type) : Type := (η → Nat → Nat → Nat → Option Value) × (η → Nat → Nat → Nat → Value → Option η) × (η → Nat → Option (Nat × Nat × (Nat → Int32))) × (η → Nat → (Nat → Int32) → η) × (η → Nat → Option (Nat × (Nat → Int64))) × (η → Nat → (Nat → Int64) → η) × (η → va_E → Option (Nat × η)) × (η → Nat → Option Nat) × Option (Nat × (Nat → Int32))
def pm_cc (c : Jvm.ClassFile.Cond) (a b : Int32) : Prop := match c with
  | .eq => a = b
  | .ne => ¬ a = b
  | .lt => a < b
  | .ge => b ≤ a
  | .gt => b < a
  | .le => a ≤ b
def pm_cd (c : Jvm.ClassFile.Cond) (a b : Int32) : Decidable (pm_cc c a b) := match c with
  | .eq => inferInstanceAs (Decidable (a = b))
  | .ne => inferInstanceAs (Decidable (¬ a = b))
  | .lt => inferInstanceAs (Decidable (a < b))
  | .ge => inferInstanceAs (Decidable (b ≤ a))
  | .gt => inferInstanceAs (Decidable (b < a))
  | .le => inferInstanceAs (Decidable (a ≤ b))
def pm_sw {α : Type} (br : (c : Prop) → Decidable c → α → α → α) (a : Int32) (nx : Nat → α) (d : Nat) : List Int → List Nat → α
  | k :: ks, t :: ts => br (a = Int32.ofInt k) inferInstance (nx t) (pm_sw br a nx d ks ts)
  | _, _ => nx d
def pm_pop : Nat → List Value → List Value → Option (List Value × List Value)
  | 0, acc, st => some (acc, st)
  | n + 1, acc, v :: st => pm_pop n (v :: acc) st
  | _ + 1, _, [] => none
def pm_cs (st : List Value) : Nat := (st.map fun v => v.category).sum
def pm_rv (r : Option Value) (st : List Value) : List Value := r.toList ++ st
def pm_dfl (c : Nat) : List Value := match pm_nth pm_cls c with
  | some q => (List.range q.2.2).map fun j => match ((q.2.1 j).2.2.1 == "I") || ((q.2.1 j).2.2.1 == "Z") with
    | true => .int 0
    | false => .null
  | none => []
def pm_strs : List (List Nat) := ["pay bar when or and not coins age purse spot years here debtor creditor sunday ", ";+-*/()<=>"].map fun s => s.toList.map Char.toNat
section GO
variable {α η : Type} (O : pm_O η) (bad : α) (br : (c : Prop) → Decidable c → α → α → α)
def pm_min (a b : Int32) : Int32 := if b < a then b else a
def pm_max (a b : Int32) : Int32 := if a < b then b else a
def pm_abs (a : Int32) : Int32 := if 0 ≤ a then a else 0 - a
/-- getfield -/
def pm_gget (x y : Nat) (st : List Value) (h : η) (nx : List Value → η → α) : α := match st with
  | .ref p :: st => match O.1 h p x y with
    | some v => nx (v :: st) h
    | none => bad
  | .retAddr k :: st => match Nat.ble k 1 && Nat.beq x 50 with
    | true => match y with
      | 0 => nx (.retAddr (k + 10) :: st) h
      | _ => nx (.int 0 :: st) h
    | false => bad
  | _ => bad
def pm_gput (x y : Nat) (zs : List Nat) (st : List Value) (h : η) (nx : List Value → η → α) : α := match st with
  | v :: .ref p :: st => match O.2.1 h p x y v with
    | some h1 => match zs, v with
      | [0], .int _ => nx st h1
      | [1], .int w => br (w = 0 ∨ w = 1) inferInstance (nx st h1) bad
      | [2], .ref _ => nx st h1
      | _, _ => bad
    | none => bad
  | _ => bad
def pm_gald (kd : Nat) (st : List Value) (h : η) (nx : List Value → η → α) : α := match st with
  | .int j :: .ref p :: st => match O.2.2.1 h p with
    | some (k, n, f) => match Nat.beq k kd with
      | true => br (¬ (j < 0 ∨ n ≤ j.toNatClampNeg)) inferInstance (nx (.int (f j.toNatClampNeg) :: st) h) bad
      | false => bad
    | none => bad
  | .int j :: .retAddr k :: st => match kd with
    | 0 => match k with
      | 30 => match O.2.2.2.2.2.2.2.2 with
        | some z => br (¬ (j < 0 ∨ z.1 ≤ j.toNatClampNeg)) inferInstance (nx (.int (z.2 j.toNatClampNeg) :: st) h) bad
        | none => bad
      | _ => bad
    | _ => match pm_nth pm_strs (k - 10) with
      | some s => match Nat.ble 10 k with
        | true => br (¬ (j < 0 ∨ s.length ≤ j.toNatClampNeg)) inferInstance (nx (.int (nI (s.getD j.toNatClampNeg 0)) :: st) h) bad
        | false => bad
      | none => bad
  | _ => bad
def pm_gast (kd : Nat) (st : List Value) (h : η) (nx : List Value → η → α) : α := match st with
  | .int v :: .int j :: .ref p :: st => match O.2.2.1 h p with
    | some (k, n, f) => match Nat.beq k kd with
      | true => br (¬ (j < 0 ∨ n ≤ j.toNatClampNeg)) inferInstance (match kd with
          | 0 => nx st (O.2.2.2.1 h p (upd f j.toNatClampNeg v))
          | _ => br (v = 0 ∨ v = 1) inferInstance (nx st (O.2.2.2.1 h p (upd f j.toNatClampNeg v))) bad) bad
      | false => bad
    | none => bad
  | _ => bad
def pm_glld (st : List Value) (h : η) (nx : List Value → η → α) : α := match st with
  | .int j :: .ref p :: st => match O.2.2.2.2.1 h p with
    | some (n, f) => br (¬ (j < 0 ∨ n ≤ j.toNatClampNeg)) inferInstance (nx (.long (f j.toNatClampNeg) :: st) h) bad
    | none => bad
  | _ => bad
def pm_glst (st : List Value) (h : η) (nx : List Value → η → α) : α := match st with
  | .long v :: .int j :: .ref p :: st => match O.2.2.2.2.1 h p with
    | some (n, f) => br (¬ (j < 0 ∨ n ≤ j.toNatClampNeg)) inferInstance (nx st (O.2.2.2.2.2.1 h p (vp_updL f j.toNatClampNeg v))) bad
    | none => bad
  | _ => bad
def pm_glen (st : List Value) (h : η) (nx : List Value → η → α) : α := match st with
  | .ref p :: st => match O.2.2.1 h p with
    | some (k, n, _) => match Nat.ble k 1 with
      | true => nx (.int (nI n) :: st) h
      | false => bad
    | none => match O.2.2.2.2.1 h p with
      | some (n, _) => nx (.int (nI n) :: st) h
      | none => bad
  | .retAddr k :: st => match k with
    | 30 => match O.2.2.2.2.2.2.2.2 with
      | some z => nx (.int (nI z.1) :: st) h
      | none => bad
    | _ => match pm_nth pm_strs (k - 10) with
      | some s => match Nat.ble 10 k with
        | true => nx (.int (nI s.length) :: st) h
        | false => bad
      | none => bad
  | _ => bad
def pm_gdiv (f : Int32 → Int32 → Int32) (st : List Value) (h : η) (nx : List Value → η → α) : α := match st with
  | .int b :: .int a :: st => br (¬ b = 0) inferInstance (nx (.int (f a b) :: st) h) bad
  | _ => bad
def pm_gnew (x : Nat) (st : List Value) (h : η) (nx : List Value → η → α) : α := match O.2.2.2.2.2.2.1 h (.inr (x, pm_dfl x)) with
  | some (p, h1) => nx (.ref p :: st) h1
  | none => bad
def pm_gnwa (t : ArrayType) (st : List Value) (h : η) (nx : List Value → η → α) : α := match st with
  | .int n :: st => br (¬ n < 0 ∧ n.toNatClampNeg ≤ 20000) inferInstance (match t with
    | .int => match O.2.2.2.2.2.2.1 h (.inl (0, n.toNatClampNeg, .inl (fun _ => 0))) with
      | some (p, h1) => nx (.ref p :: st) h1
      | none => bad
    | .boolean => match O.2.2.2.2.2.2.1 h (.inl (1, n.toNatClampNeg, .inl (fun _ => 0))) with
      | some (p, h1) => nx (.ref p :: st) h1
      | none => bad
    | .long => match O.2.2.2.2.2.2.1 h (.inl (2, n.toNatClampNeg, .inr (.inl (fun _ => 0)))) with
      | some (p, h1) => nx (.ref p :: st) h1
      | none => bad
    | _ => bad) bad
  | _ => bad
/-- the library's own: min, max, abs, arraycopy; Object's constructor -/
def pm_gint (x : Nat) (st : List Value) (h : η) (nx : List Value → η → α) : α := match x with
  | 1000 => match st with
    | .int b :: .int a :: st => match Nat.ble (pm_cs st) 8 with
      | true => nx (.int (pm_min a b) :: st) h
      | false => bad
    | _ => bad
  | 1001 => match st with
    | .int b :: .int a :: st => match Nat.ble (pm_cs st) 8 with
      | true => nx (.int (pm_max a b) :: st) h
      | false => bad
    | _ => bad
  | 1002 => match st with
    | .int a :: st => match Nat.ble (pm_cs st) 8 with
      | true => nx (.int (pm_abs a) :: st) h
      | false => bad
    | _ => bad
  | 1003 => match st with
    | .int n :: .int dp :: .ref q :: .int sp :: .ref p :: st => match Nat.ble (pm_cs st) 8 with
      | true => match O.2.2.1 h p, O.2.2.1 h q with
        | some (0, n0, f), some (0, n1, g) => br (¬ sp < 0 ∧ ¬ dp < 0 ∧ ¬ n < 0 ∧ sp.toNatClampNeg + n.toNatClampNeg ≤ n0 ∧ dp.toNatClampNeg + n.toNatClampNeg ≤ n1) inferInstance (nx st (O.2.2.2.1 h q (va_cpy f g sp.toNatClampNeg dp.toNatClampNeg n.toNatClampNeg))) bad
        | _, _ => bad
      | false => bad
    | _ => bad
  | _ => bad
/-- calls of the table's methods: virtual, static, special -/
def pm_gcV (x y : Nat) (zs : List Nat) (st : List Value) (h : η) (nx : List Value → η → α) (cl : Nat → List Value → η → (Option Value → η → α) → α) : α := match Nat.ble x 255 with
  | false => bad
  | true => match pm_pop y [] st with
  | none => bad
  | some (As, rest) => match rest with
      | b :: rest => match Nat.ble (pm_cs rest) 8 with
        | true => match b with
          | .ref p => match O.2.2.2.2.2.2.2.1 h p, zs with
            | some ci, [cj] => match Nat.beq ci cj with
              | true => cl x (b :: As) h (fun r h1 => nx (pm_rv r rest) h1)
              | false => bad
            | _, _ => bad
          | .retAddr k => match Nat.ble k 1, zs with
            | true, [15] => cl x (b :: As) h (fun r h1 => nx (pm_rv r rest) h1)
            | _, _ => bad
          | _ => bad
        | false => bad
      | [] => bad
def pm_gcS (x y : Nat) (st : List Value) (h : η) (nx : List Value → η → α) (cl : Nat → List Value → η → (Option Value → η → α) → α) : α := match Nat.ble x 255 with
  | false => bad
  | true => match pm_pop y [] st with
  | none => bad
  | some (As, rest) => match Nat.ble (pm_cs rest) 8 with
      | true => cl x As h (fun r h1 => nx (pm_rv r rest) h1)
      | false => bad
def pm_gcI (x y : Nat) (st : List Value) (h : η) (nx : List Value → η → α) (cl : Nat → List Value → η → (Option Value → η → α) → α) : α := match Nat.ble x 255 with
  | false => bad
  | true => match pm_pop y [] st with
  | none => bad
  | some (As, rest) => match rest with
      | .ref p :: rest => match Nat.ble (pm_cs rest) 8 with
        | true => cl x (.ref p :: As) h (fun r h1 => nx (pm_rv r rest) h1)
        | false => bad
      | _ => bad
def pm_gret (rty : Option FieldType) (st : List Value) (h : η) (rt : Option Value → η → α) : α := match st with
  | [.int v] => match rty with
    | some .int => rt (some (.int v)) h
    | some .boolean => br (v = 0 ∨ v = 1) inferInstance (rt (some (.int v)) h) bad
    | some .byte => br (v = 0) inferInstance (rt (some (.int v)) h) bad
    | some .char => br (¬ v < 0 ∧ v < 256) inferInstance (rt (some (.int v)) h) bad
    | _ => bad
  | _ => bad
/-- one instruction -/
def pm_go (rty : Option FieldType) (idx : Nat) (i : pm_I) (L st : List Value) (h : η) (nx : Nat → List Value → List Value → η → α) (cl : Nat → List Value → η → (Option Value → η → α) → α) (rt : Option Value → η → α) : α := match i with
  | (_, ins, _, x, y, zs) => match ins with
    | .goto _ => nx x L st h
    | .ifCond c _ => match st with
      | .int a :: st => br (pm_cc c a 0) (pm_cd c a 0) (nx x L st h) (nx (idx + 1) L st h)
      | _ => bad
    | .if_icmp c _ => match st with
      | .int b :: .int a :: st => br (pm_cc c a b) (pm_cd c a b) (nx x L st h) (nx (idx + 1) L st h)
      | _ => bad
    | .tableswitch _ lo _ _ => match st with
      | .int a :: st => pm_sw br a (fun t => nx t L st h) x ((List.range zs.length).map (fun j => lo + Int.ofNat j)) zs
      | _ => bad
    | .lookupswitch _ ps => match st with
      | .int a :: st => pm_sw br a (fun t => nx t L st h) x (ps.toList.map Prod.fst) zs
      | _ => bad
    | .getfield _ => pm_gget O bad x y st h (nx (idx + 1) L)
    | .putfield _ => pm_gput O bad br x y zs st h (nx (idx + 1) L)
    | .iaload => pm_gald O bad br 0 st h (nx (idx + 1) L)
    | .baload => pm_gald O bad br 1 st h (nx (idx + 1) L)
    | .iastore => pm_gast O bad br 0 st h (nx (idx + 1) L)
    | .bastore => pm_gast O bad br 1 st h (nx (idx + 1) L)
    | .laload => pm_glld O bad br st h (nx (idx + 1) L)
    | .lastore => pm_glst O bad br st h (nx (idx + 1) L)
    | .arraylength => pm_glen O bad st h (nx (idx + 1) L)
    | .idiv => pm_gdiv bad br (fun a b => a / b) st h (nx (idx + 1) L)
    | .irem => pm_gdiv bad br (fun a b => a - a / b * b) st h (nx (idx + 1) L)
    | .new _ => pm_gnew O bad x st h (nx (idx + 1) L)
    | .newarray t => pm_gnwa O bad br t st h (nx (idx + 1) L)
    | .invokevirtual _ => pm_gcV O bad x y zs st h (nx (idx + 1) L) cl
    | .invokestatic _ => match Nat.ble 1000 x with
      | true => pm_gint O bad br x st h (nx (idx + 1) L)
      | false => pm_gcS bad x y st h (nx (idx + 1) L) cl
    | .invokespecial _ => match x with
      | 1004 => match st with
        | .ref _ :: st => match Nat.ble (pm_cs st) 8 with
          | true => nx (idx + 1) L st h
          | false => bad
        | _ => bad
      | _ => pm_gcI bad x y st h (nx (idx + 1) L) cl
    | .ireturn => pm_gret bad br rty st h rt
    | .lreturn => match st with
      | [.long v] => match rty with
        | some .long => rt (some (.long v)) h
        | _ => bad
      | _ => bad
    | .return_ => match st with
      | [] => match rty with
        | none => rt none h
        | _ => bad
      | _ => bad
    | ins => match pm_pu ins x y L st with
      | some (L1, st1) => nx (idx + 1) L1 st1 h
      | none => bad
end GO
/-- the list of cells as a heap -/
abbrev pm_H : Type := List va_E
def pm_OH (scr : Option (Nat × (Nat → Int32))) : pm_O pm_H :=
  (fun h p x y => match h[p]? with
    | some (.inr (c, fs)) => match Nat.beq c x with
      | true => fs[y]?
      | false => none
    | _ => none,
   fun h p x y v => match h[p]? with
    | some (.inr (c, fs)) => match Nat.beq c x with
      | true => match fs[y]? with
        | some _ => some (h.set p (.inr (c, fs.set y v)))
        | none => none
      | false => none
    | _ => none,
   fun h p => match h[p]? with
    | some (.inl (k, n, .inl f)) => some (k, n, f)
    | _ => none,
   fun h p f => match h[p]? with
    | some (.inl (k, n, .inl _)) => h.set p (.inl (k, n, .inl f))
    | _ => h,
   fun h p => match h[p]? with
    | some (.inl (2, n, .inr (.inl f))) => some (n, f)
    | _ => none,
   fun h p f => match h[p]? with
    | some (.inl (k, n, .inr (.inl _))) => h.set p (.inl (k, n, .inr (.inl f)))
    | _ => h,
   fun h c => some (h.length, h ++ [c]),
   fun h p => match h[p]? with
    | some (.inr (c, _)) => some c
    | _ => none,
   scr)
/-- weakest preconditions: conditions become implications -/
def pm_br (c : Prop) (_ : Decidable c) (a b : Prop) : Prop := (c → a) ∧ (¬ c → b)
end
section
/-! SOUNDNESS, 1: what the abstract things are on the machine -/
/-- the launch, the address of place 0, the classes' numbers and slots, the arrays' classes, the texts' addresses, a static, the script -/
abbrev pm_E : Type := Launch × Nat × (Nat → ClassId) × (Nat → Nat → Nat) × (Nat → ClassId) × (Nat → Nat) × (Nat → Nat) × Value × Nat × Nat × (Nat → Int32)
abbrev pe_D (E : pm_E) : va_G := (E.2.2.1, E.2.2.2.1)
abbrev pe_K (E : pm_E) : Nat → ClassId := E.2.2.2.2.1
abbrev pe_aK (E : pm_E) : Nat → Nat := E.2.2.2.2.2.1
abbrev pe_aV (E : pm_E) : Nat → Nat := E.2.2.2.2.2.2.1
abbrev pe_z (E : pm_E) : Value := E.2.2.2.2.2.2.2.1
abbrev pe_b (E : pm_E) : Nat := E.2.2.2.2.2.2.2.2.1
abbrev pe_n (E : pm_E) : Nat := E.2.2.2.2.2.2.2.2.2.1
abbrev pe_x (E : pm_E) : Nat → Int32 := E.2.2.2.2.2.2.2.2.2.2
abbrev pe_A (E : pm_E) : Nat → Prop := fun q => E.2.1 ≤ q
abbrev pe_ty (E : pm_E) : List (ClassId × FieldType) := [(pe_K E 0, .int), (pe_K E 1, .boolean), (pe_K E 2, .long)]
def pe_v (E : pm_E) (v : Value) : Value := match v with
  | .ref p => .ref (E.2.1 + p)
  | .retAddr k => if k < 10 then .ref (pe_aK E k) else if k < 20 then .ref (pe_aV E (k - 10)) else if k = 30 then .ref (pe_b E) else pe_z E
  | v => v
def pe_c (E : pm_E) (c : va_E) : va_E := match c with
  | .inl (k, a) => .inl (pe_K E k, a)
  | .inr (ci, fs) => .inr (ci, fs.map (pe_v E))
def pe_w (E : pm_E) (h : pm_H) : va_W := h.mapIdx (fun p c => (E.2.1 + p, pe_c E c))
theorem pe_w_get {E : pm_E} {h : pm_H} {p : Nat} {c : va_E} (hp : h[p]? = some c) : (pe_w E h)[p]? = some (E.2.1 + p, pe_c E c) := by
  simp [pe_w, List.getElem?_mapIdx, hp]
theorem pe_w_len {E : pm_E} {h : pm_H} : (pe_w E h).length = h.length := by simp [pe_w]
theorem pe_w_at {E : pm_E} {h : pm_H} {p : Nat} {q : Nat × va_E} (hp : (pe_w E h)[p]? = some q) : ∃ c, h[p]? = some c ∧ q = (E.2.1 + p, pe_c E c) := by
  simp only [pe_w, List.getElem?_mapIdx] at hp
  cases hc : h[p]? with
  | none => rw [hc] at hp; cases hp
  | some c => rw [hc] at hp; exact ⟨c, rfl, (Option.some.inj hp).symm⟩
theorem pe_w_set {E : pm_E} {h : pm_H} {p : Nat} {c : va_E} : pe_w E (h.set p c) = (pe_w E h).set p (E.2.1 + p, pe_c E c) := by
  apply List.ext_getElem?
  intro j
  simp only [pe_w, List.getElem?_mapIdx, List.getElem?_set, List.length_mapIdx]
  by_cases hj : p = j
  · subst hj
    by_cases hl : p < h.length <;> simp [hl]
  · simp [hj]
theorem pe_w_push {E : pm_E} {h : pm_H} {c : va_E} : pe_w E (h ++ [c]) = pe_w E h ++ [(E.2.1 + h.length, pe_c E c)] := by
  simp [pe_w, List.mapIdx_append]
theorem pe_w_D {E : pm_E} {h : pm_H} : va_D (pe_A E) (pe_w E h) := by
  refine ⟨fun i j p q hi hj e => ?_, fun k q hk => ?_⟩
  · obtain ⟨c, -, rfl⟩ := pe_w_at hi
    obtain ⟨c', -, rfl⟩ := pe_w_at hj
    have e2 : E.2.1 + i = E.2.1 + j := e
    omega
  · obtain ⟨c, -, rfl⟩ := pe_w_at hk
    exact Nat.le_add_right _ _
theorem pe_v_cat {E : pm_E} (hz : (pe_z E).category = 1) (v : Value) : (pe_v E v).category = v.category := by
  unfold pe_v
  split
  · rfl
  · split
    · rfl
    · split
      · rfl
      · split
        · rfl
        · exact hz
  · rfl
def pe_ls (E : pm_E) (L : List Value) : List (Nat × Value) := L.zipIdx.filterMap (fun q => if q.1 = pm_un then none else some (q.2, pe_v E q.1))
theorem pm_nth_eq {α : Type} (l : List α) (n : Nat) : pm_nth l n = l[n]? := by
  induction l generalizing n with
  | nil => cases n <;> rfl
  | cons a l ih => cases n with
    | zero => rfl
    | succ n => simp [pm_nth, ih]
theorem pe_ls_mem {E : pm_E} {L : List Value} {q : Nat × Value} : q ∈ pe_ls E L ↔ ∃ v, L[q.1]? = some v ∧ v ≠ pm_un ∧ q.2 = pe_v E v := by
  obtain ⟨i, w⟩ := q
  simp only [pe_ls, List.mem_filterMap, Prod.exists]
  constructor
  · rintro ⟨v, j, hm, h⟩
    rw [List.mem_zipIdx_iff_getElem?] at hm
    by_cases hu : v = pm_un
    · rw [if_pos hu] at h; cases h
    · rw [if_neg hu] at h
      cases h
      exact ⟨v, hm, hu, rfl⟩
  · rintro ⟨v, h1, h2, h3⟩
    refine ⟨v, i, ?_, ?_⟩
    · rw [List.mem_zipIdx_iff_getElem?]; exact h1
    · rw [if_neg h2]; simp [h3]
theorem pe_load {E : pm_E} {L : List Value} {ls : Array Slot} {n i : Nat} {v : Value} (hl : lv_has ls n (pe_ls E L)) (h : pm_nth L i = some v) (hu : v ≠ pm_un) : ls[i]? = some (.val (pe_v E v)) := by
  rw [pm_nth_eq] at h
  exact hl.2.2 (i, pe_v E v) (pe_ls_mem.mpr ⟨v, h, hu, rfl⟩)
theorem pm_has_of {ls : Array Slot} {n : Nat} {l l' : List (Nat × Value)} (h : lv_has ls n l) (hs : ∀ q ∈ l', q ∈ l) : lv_has ls n l' := ⟨h.1, h.2.1, fun q hq => h.2.2 q (hs q hq)⟩
theorem pm_s1_spec {L L1 : List Value} {i : Nat} {v : Value} (h : pm_s1 L i v = some L1) : i < L.length ∧ L1 = L.set i v ∧ ∀ j w, i = j + 1 → L[j]? = some w → w.category = 1 := by
  unfold pm_s1 at h
  split at h
  · cases h
  · rename_i hn
    rw [pm_nth_eq] at hn
    have hlt := (List.getElem?_eq_some_iff.mp hn).1
    split at h
    · cases h
      exact ⟨hlt, rfl, fun j w e => by cases e⟩
    · rename_i j
      split at h
      · rename_i w hw
        split at h
        · rename_i hb
          cases h
          refine ⟨hlt, rfl, fun j' w' e hw' => ?_⟩
          cases e
          rw [pm_nth_eq] at hw
          rw [hw] at hw'
          cases hw'
          exact Nat.eq_of_beq_eq_true hb
        · cases h
      · cases h
theorem pe_store1 {E : pm_E} (hz : (pe_z E).category = 1) {L L1 : List Value} {ls : Array Slot} {n i : Nat} {v w : Value} (h : pm_s1 L i v = some L1) (hw : w = pe_v E v) (hl : lv_has ls n ((i, w) :: (pe_ls E L).filter (fun q => !(q.1 == i) && !(q.1 + 1 == i && q.2.category == 2)))) : lv_has ls n (pe_ls E L1) := by
  obtain ⟨h1, rfl, h3⟩ := pm_s1_spec h
  subst hw
  refine pm_has_of hl (fun q hq => ?_)
  obtain ⟨u, hu1, hu2, hu3⟩ := pe_ls_mem.mp hq
  by_cases hj : q.1 = i
  · rw [hj, List.getElem?_set_self h1] at hu1
    cases hu1
    obtain ⟨q1, q2⟩ := q
    simp only at hj hu3
    subst hj; subst hu3
    exact List.mem_cons_self
  · rw [List.getElem?_set_ne (fun e => hj e.symm)] at hu1
    refine List.mem_cons_of_mem _ (List.mem_filter.mpr ⟨pe_ls_mem.mpr ⟨u, hu1, hu2, hu3⟩, ?_⟩)
    have hc : q.1 + 1 = i → q.2.category = 1 := fun e => by rw [hu3, pe_v_cat hz]; exact h3 q.1 u e.symm hu1
    by_cases he : q.1 + 1 = i
    · simp [hj, hc he]
    · simp [hj, he]
theorem pe_store2 {E : pm_E} (hz : (pe_z E).category = 1) {L L1 : List Value} {ls : Array Slot} {n i : Nat} {v : Int64} (h : pm_s2 L i v = some L1) (hl : lv_has ls n ((i, Value.long v) :: (pe_ls E L).filter (fun q => !(q.1 == i) && (!(q.1 == i + 1) && !(q.1 + 1 == i && q.2.category == 2))))) : lv_has ls n (pe_ls E L1) := by
  unfold pm_s2 at h
  split at h
  · cases h
  · rename_i hn
    split at h
    · cases h
    · rename_i L2 h2
      cases h
      obtain ⟨h1, rfl, h3⟩ := pm_s1_spec h2
      rw [pm_nth_eq] at hn
      have hlt := (List.getElem?_eq_some_iff.mp hn).1
      refine pm_has_of hl (fun q hq => ?_)
      obtain ⟨u, hu1, hu2, hu3⟩ := pe_ls_mem.mp hq
      have hj1 : q.1 ≠ i + 1 := fun e => by
        rw [e, List.getElem?_set_self (by simpa using hlt)] at hu1
        cases hu1
        exact hu2 rfl
      rw [List.getElem?_set_ne (fun e => hj1 e.symm)] at hu1
      by_cases hj : q.1 = i
      · rw [hj, List.getElem?_set_self h1] at hu1
        cases hu1
        obtain ⟨q1, q2⟩ := q
        simp only at hj hu3
        subst hj; subst hu3
        exact List.mem_cons_self
      · rw [List.getElem?_set_ne (fun e => hj e.symm)] at hu1
        refine List.mem_cons_of_mem _ (List.mem_filter.mpr ⟨pe_ls_mem.mpr ⟨u, hu1, hu2, hu3⟩, ?_⟩)
        have hc : q.1 + 1 = i → q.2.category = 1 := fun e => by rw [hu3, pe_v_cat hz]; exact h3 q.1 u e.symm hu1
        by_cases he : q.1 + 1 = i
        · simp [hj, hj1, hc he]
        · simp [hj, hj1, he]
theorem pm_s1_len {L L1 : List Value} {i : Nat} {v : Value} (h : pm_s1 L i v = some L1) : L1.length = L.length := by
  obtain ⟨-, rfl, -⟩ := pm_s1_spec h
  simp
theorem pm_s2_len {L L1 : List Value} {i : Nat} {v : Int64} (h : pm_s2 L i v = some L1) : L1.length = L.length ∧ i + 1 < L.length := by
  unfold pm_s2 at h
  split at h
  · cases h
  · rename_i hn
    split at h
    · cases h
    · rename_i L2 h2
      cases h
      rw [pm_nth_eq] at hn
      exact ⟨by simp [pm_s1_len h2], (List.getElem?_eq_some_iff.mp hn).1⟩
end
section
/-! SOUNDNESS, 2: the environment; instructions that touch neither heap nor control -/
def pm_kw : String := "pay bar when or and not coins age purse spot years here debtor creditor sunday "
def pm_sg : String := ";+-*/()<=>"
def pm_byt : List (List Int32) := pm_strs.map fun s => s.map nI
def pm_len : List Nat := pm_strs.map List.length
def pm_env (E : pm_E) (U : State) (H : Heap) : Prop :=
  va_K (pe_D E) pm_cls (pe_ty E) U ∧ vk_S 2 pm_len pm_byt (pe_aK E) (pe_aV E) (pe_A E) U H ∧ va_Z "java/lang/String" "COMPACT_STRINGS" "Z" (.int 1) (pe_A E) U H ∧ va_Z "jdk/internal/util/Preconditions" "SIOOBE_FORMATTER" "Ljava/util/function/BiFunction;" (pe_z E) (pe_A E) U H ∧ vk_R "PaidWhereMade$LawReader" 137 pm_kw (pe_aK E 0) U ∧ vk_R "PaidWhereMade$LawReader" 152 pm_sg (pe_aK E 1) U ∧ (∀ q ∈ pm_MN, va_Nw (pm_MN_w q) U) ∧ va_X (pe_b E) (pe_n E) (pe_x E) U H ∧ pe_b E < E.2.1 ∧ pe_b E < H.size ∧ (pe_z E = .null ∨ ∃ a, pe_z E = .ref a) ∧ E.2.1 ≤ H.size
theorem pm_env.zc {E : pm_E} {U : State} {H : Heap} (h : pm_env E U H) : (pe_z E).category = 1 := by
  obtain ⟨-, -, -, -, -, -, -, -, -, -, h, -⟩ := h
  rcases h with h | ⟨a, h⟩ <;> rw [h] <;> rfl
theorem pm_env.mv {E : pm_E} {s U : State} {H : Heap} (h : pm_env E s H) (hW : s.WarmedH U.vm) {H1 : Heap} (hz : H.size ≤ H1.size) (hq : ∀ a : Nat, a < H.size → ¬ pe_A E a → H1[a]? = H[a]?) : pm_env E U H1 := by
  obtain ⟨h1, h2, h3, h4, h5, h6, h7, h8, h9, h10, h11, h12⟩ := h
  refine ⟨va_K.moved hW.alike h1, (vk_S.moved hW.alike h2).kept hq, (va_Z.moved hW.alike h3).kept hq, (va_Z.moved hW.alike h4).kept hq, h5.warm hW, h6.warm hW, fun q hm => va_Nw.warmM hW (h7 q hm), (va_X.moved hW.alike h8).kept (hq _ h10 (Nat.not_le.mpr h9)), h9, Nat.lt_of_lt_of_le h10 hz, h11, Nat.le_trans h12 hz⟩
def pm_Fx (E : pm_E) (M : pm_M) (d : Nat) (p : Program) (R : Room) (s : State) (m : MethodId) (args : Array Value) (meth : Method) (c : Code) : Prop :=
  p.tables.exec = Jvm.exec ∧ c.code = M.2.1 ∧ c.maxLocals = M.2.2.1 ∧ s.vm.findClass M.1.cls = some m.cls ∧ (∀ w ∈ pm_big, w.before args s = true) ∧ meth.locks = false ∧ meth.sig.returnType = M.2.2.2.1 ∧ (M.1.name = "<init>" → meth.name = "<init>") ∧ d ≤ R.frames ∧ 64 * d ≤ R.locals ∧ pm_env E s s.heap
theorem pe_rest {E : pm_E} {st : List Value} {v : Value} : (v :: st).map (pe_v E) = pe_v E v :: st.map (pe_v E) := rfl
theorem pe_ra {E : pm_E} {k : Nat} (h : (Nat.ble k 19 || Nat.beq k 30) = true) : ∃ w, pe_v E (.retAddr k) = .ref w := by
  simp only [Bool.or_eq_true, Nat.ble_eq, Nat.beq_eq] at h
  unfold pe_v
  dsimp only
  split
  · exact ⟨_, rfl⟩
  · split
    · exact ⟨_, rfl⟩
    · rw [if_pos (by omega)]; exact ⟨_, rfl⟩
section PU
variable {E : pm_E} {M : pm_M} {d : Nat} {p : Program} {e : Env} {R : Room} {s : State} {m : MethodId} {args : Array Value} {below : List Frame} {meth : Method} {c : Code} {H : Heap} {locs : List Loc} {cells slots : Nat} {QQ : State → Prop}
/-- what the check says of the operands of a pure instruction -/
def pm_pchk (M : pm_M) (ins : Instr) (len x y : Nat) : Prop := match ins with
  | .ldc k => len = 2 ∧ ((y = 7 ∧ M.2.2.2.2.1 = 2 ∧ ((x = 0 ∧ k = 137) ∨ (x = 1 ∧ k = 152))) ∨ (y ≠ 7 ∧ (M.2.2.2.2.1, k, x) ∈ pm_CL))
  | .ldc_w k => len = 3 ∧ (M.2.2.2.2.1, k, x) ∈ pm_CL
  | .ldc2_w k => len = 3 ∧ (M.2.2.2.2.1, k, x, y) ∈ pm_NL ∧ y < 2
  | .getstatic k => len = 3 ∧ (M.2.2.2.2.1, k, x) ∈ pm_GL
  | .iconst n => len = 1 ∧ Int32.ofInt n = pm_iv x y
  | .bipush n => len = 2 ∧ (Int8.ofInt n).toInt32 = pm_iv x y
  | .sipush n => len = 3 ∧ (Int16.ofInt n).toInt32 = pm_iv x y
  | .lconst n => len = 1 ∧ Int64.ofNat n.val = pm_lv x y
  | .aload _ | .iload _ | .lload _ | .astore _ | .istore _ | .lstore _ => len = 2
  | .iinc _ _ => len = 3
  | _ => len = 1
set_option maxHeartbeats 4000000 in
theorem pm_pu_ok (F : pm_Fx E M d p R s m args meth c) (hown : M.1.cls = pm_cn.getD M.2.2.2.2.1 "") (hS : va_S (pe_A E) s.heap H locs) {pc len x y n : Nat} {ins : Instr} {L L1 st st1 : List Value} {ls : Array Slot}
    (hd : decode M.2.1 pc = .ok (ins, len)) (hc : pm_pchk M ins len x y) (hpu : pm_pu ins x y L st = some (L1, st1)) (hl : lv_has ls n (pe_ls E L)) (hn : L.length = n)
    (kk : ∀ ls' : Array Slot, L1.length = n → lv_has ls' n (pe_ls E L1) → W p E.1 e R s m args below meth c H locs cells slots QQ (F0 m (pc + len) ls' (st1.map (pe_v E)))) : W p E.1 e R s m args below meth c H locs cells slots QQ (F0 m pc ls (st.map (pe_v E))) := by
  obtain ⟨hx, hb, hml, ho, hts, hlk, hr, hnm, hf1, hf2, henv⟩ := F
  have hz := henv.zc
  unfold pm_pu at hpu
  split at hpu
  · cases hpu; obtain ⟨rfl, h2⟩ := hc; exact lv_iconst hx hb hd h2 (kk ls hn hl)
  · cases hpu; obtain ⟨rfl, h2⟩ := hc; exact lv_bipush hx hb hd h2 (kk ls hn hl)
  · cases hpu; obtain ⟨rfl, h2⟩ := hc; exact lv_sipush hx hb hd h2 (kk ls hn hl)
  · cases hpu; obtain ⟨rfl, h2⟩ := hc; exact lv_lconst hx hb hd h2 (kk ls hn hl)
  · obtain ⟨rfl, h2⟩ := hc
    split at hpu
    · cases hpu
      rcases h2 with ⟨-, hw, ⟨rfl, rfl⟩ | ⟨rfl, rfl⟩⟩ | ⟨h2, -⟩
      · exact va_ldcS hx hb (own := "PaidWhereMade$LawReader") (by rw [← ho, hown, hw]; rfl) henv.2.2.2.2.1 hd (kk ls hn hl)
      · exact va_ldcS hx hb (own := "PaidWhereMade$LawReader") (by rw [← ho, hown, hw]; rfl) henv.2.2.2.2.2.1 hd (kk ls hn hl)
      · exact absurd rfl h2
    · cases hpu
      rcases h2 with ⟨h2, -⟩ | ⟨-, h2⟩
      · rename_i hy; exact absurd h2 hy
      · exact lv_ldc hx hb ho (by rw [hown]; exact hts _ (pm_CL_ok _ h2)) hd (kk ls hn hl)
  · cases hpu; obtain ⟨rfl, h2⟩ := hc
    exact lv_ldcw hx hb ho (by rw [hown]; exact hts _ (pm_CL_ok _ h2)) hd (kk ls hn hl)
  · cases hpu; obtain ⟨rfl, h2, hy⟩ := hc
    refine lv_ldc2 hx hb ho (v := pm_lv x y) ?_ hd (kk ls hn hl)
    rw [hown]
    have h3 := hts _ (pm_NL_ok _ h2)
    rcases (show y = 0 ∨ y = 1 by omega) with rfl | rfl <;> exact h3
  · obtain ⟨rfl, h2⟩ := hc
    have h3 := hts _ (pm_GL_ok _ h2)
    split at hpu
    · cases hpu
      exact va_gets (C := "java/lang/String") (ref := "java/lang/String") hx hb henv.2.2.1 hS ho (by rw [hown]; exact h3) (fun _ h => h) hd (kk ls hn hl)
    · cases hpu
      rename_i hx0
      refine va_gets (C := "jdk/internal/util/Preconditions") (ref := "jdk/internal/util/Preconditions") hx hb henv.2.2.2.1 hS ho ?_ (fun _ h => h) hd (kk ls hn hl)
      rw [hown]
      unfold pm_GL_w at h3
      split at h3
      · rename_i e; exact absurd e hx0
      · exact h3
  · unfold pm_ldi at hpu; split at hpu
    · rename_i h2; cases hpu; cases hc; exact lv_iload_n hx hb hd rfl (pe_load hl h2 (by intro q; cases q)) (kk ls hn hl)
    · cases hpu
  · unfold pm_ldi at hpu; split at hpu
    · rename_i h2; cases hpu; cases hc; exact lv_iload hx hb hd (pe_load hl h2 (by intro q; cases q)) (kk ls hn hl)
    · cases hpu
  · unfold pm_ldl at hpu; split at hpu
    · rename_i h2; cases hpu; cases hc; exact lv_lload_n hx hb hd rfl (pe_load hl h2 (by intro q; cases q)) (kk ls hn hl)
    · cases hpu
  · unfold pm_ldl at hpu; split at hpu
    · rename_i h2; cases hpu; cases hc; exact lv_lload hx hb hd (pe_load hl h2 (by intro q; cases q)) (kk ls hn hl)
    · cases hpu
  · unfold pm_lda at hpu; split at hpu
    · rename_i h2; cases hpu; cases hc; exact lv_aload_n hx hb hd rfl (pe_load hl h2 (by intro q; cases q)) (kk ls hn hl)
    · rename_i k9 h2
      split at hpu
      · rename_i hk
        cases hpu; cases hc
        obtain ⟨w, hw⟩ := pe_ra (E := E) hk
        have h3 := pe_load hl h2 (by rintro q; cases q; revert hk; decide)
        rw [hw] at h3
        refine lv_aload_n hx hb hd rfl h3 ?_
        have h4 := kk ls hn hl
        rw [pe_rest, hw] at h4
        exact h4
      · cases hpu
    · cases hpu
  · unfold pm_lda at hpu; split at hpu
    · rename_i h2; cases hpu; cases hc; exact lv_aload hx hb hd (pe_load hl h2 (by intro q; cases q)) (kk ls hn hl)
    · rename_i k9 h2
      split at hpu
      · rename_i hk
        cases hpu; cases hc
        obtain ⟨w, hw⟩ := pe_ra (E := E) hk
        have h3 := pe_load hl h2 (by rintro q; cases q; revert hk; decide)
        rw [hw] at h3
        refine lv_aload hx hb hd h3 ?_
        have h4 := kk ls hn hl
        rw [pe_rest, hw] at h4
        exact h4
      · cases hpu
    · cases hpu
  · unfold pm_sti at hpu; split at hpu
    · split at hpu
      · rename_i h2; cases hpu; cases hc
        exact lv_istore_n hx hb hd rfl hl (by rw [← hn]; exact (pm_s1_spec h2).1) rfl (fun ls' hl' => kk ls' (by rw [pm_s1_len h2, hn]) (pe_store1 hz h2 rfl hl'))
      · cases hpu
    · cases hpu
  · unfold pm_sti at hpu; split at hpu
    · split at hpu
      · rename_i h2; cases hpu; cases hc
        exact lv_istore hx hb hd hl (by rw [← hn]; exact (pm_s1_spec h2).1) rfl (fun ls' hl' => kk ls' (by rw [pm_s1_len h2, hn]) (pe_store1 hz h2 rfl hl'))
      · cases hpu
    · cases hpu
  · unfold pm_stl at hpu; split at hpu
    · split at hpu
      · rename_i h2; cases hpu; cases hc
        exact lv_lstore_n hx hb hd rfl hl (by rw [← hn]; exact (pm_s2_len h2).2) rfl (fun ls' hl' => kk ls' (by rw [(pm_s2_len h2).1, hn]) (pe_store2 hz h2 hl'))
      · cases hpu
    · cases hpu
  · unfold pm_stl at hpu; split at hpu
    · split at hpu
      · rename_i h2; cases hpu; cases hc
        exact lv_lstore hx hb hd hl (by rw [← hn]; exact (pm_s2_len h2).2) rfl (fun ls' hl' => kk ls' (by rw [(pm_s2_len h2).1, hn]) (pe_store2 hz h2 hl'))
      · cases hpu
    · cases hpu
  · unfold pm_sta at hpu; split at hpu
    · split at hpu
      · rename_i h2; cases hpu; cases hc
        exact lv_astore_n hx hb hd rfl hl (by rw [← hn]; exact (pm_s1_spec h2).1) rfl (fun ls' hl' => kk ls' (by rw [pm_s1_len h2, hn]) (pe_store1 hz h2 rfl hl'))
      · cases hpu
    · cases hpu
  · unfold pm_sta at hpu; split at hpu
    · split at hpu
      · rename_i h2; cases hpu; cases hc
        exact lv_astore hx hb hd hl (by rw [← hn]; exact (pm_s1_spec h2).1) rfl (fun ls' hl' => kk ls' (by rw [pm_s1_len h2, hn]) (pe_store1 hz h2 rfl hl'))
      · cases hpu
    · cases hpu
  · unfold pm_iinc at hpu; split at hpu
    · rename_i h1
      split at hpu
      · rename_i h2; cases hpu; cases hc
        have hm : (_, Value.int _) ∈ pe_ls E L := pe_ls_mem.mpr ⟨_, (by rw [← pm_nth_eq]; exact h1), (by intro q; cases q), rfl⟩
        obtain ⟨j, hj⟩ := List.getElem?_of_mem hm
        exact lv_iinc hx hb hd hl hj rfl (by rw [← hn]; exact (pm_s1_spec h2).1) rfl (fun ls' hl' => kk ls' (by rw [pm_s1_len h2, hn]) (pe_store1 hz h2 rfl hl'))
      · cases hpu
    · cases hpu
  · unfold pm_i2 at hpu; split at hpu
    · cases hpu; cases hc; exact lv_iadd hx hb hd (kk ls hn hl)
    · cases hpu
  · unfold pm_i2 at hpu; split at hpu
    · cases hpu; cases hc; exact lv_isub hx hb hd (kk ls hn hl)
    · cases hpu
  · unfold pm_i2 at hpu; split at hpu
    · cases hpu; cases hc; exact lv_imul hx hb hd (kk ls hn hl)
    · cases hpu
  · unfold pm_i2 at hpu; split at hpu
    · cases hpu; cases hc; exact lv_iand hx hb hd (kk ls hn hl)
    · cases hpu
  · unfold pm_i2 at hpu; split at hpu
    · cases hpu; cases hc; exact lv_ior hx hb hd (kk ls hn hl)
    · cases hpu
  · unfold pm_i2 at hpu; split at hpu
    · cases hpu; cases hc; exact lv_ixor hx hb hd (kk ls hn hl)
    · cases hpu
  · unfold pm_i2 at hpu; split at hpu
    · cases hpu; cases hc; exact lv_ishl hx hb hd (kk ls hn hl)
    · cases hpu
  · unfold pm_i2 at hpu; split at hpu
    · cases hpu; cases hc; exact lv_ishr hx hb hd (kk ls hn hl)
    · cases hpu
  · unfold pm_i2 at hpu; split at hpu
    · cases hpu; cases hc; exact lv_iushr hx hb hd rfl (kk ls hn hl)
    · cases hpu
  · split at hpu
    · cases hpu; cases hc; exact lv_ineg hx hb hd (kk ls hn hl)
    · cases hpu
  · unfold pm_l2 at hpu; split at hpu
    · cases hpu; cases hc; exact lv_ladd hx hb hd (kk ls hn hl)
    · cases hpu
  · unfold pm_l2 at hpu; split at hpu
    · cases hpu; cases hc; exact lv_lsub hx hb hd (kk ls hn hl)
    · cases hpu
  · unfold pm_l2 at hpu; split at hpu
    · cases hpu; cases hc; exact lv_lmul hx hb hd (kk ls hn hl)
    · cases hpu
  · unfold pm_l2 at hpu; split at hpu
    · cases hpu; cases hc; exact lv_land hx hb hd (kk ls hn hl)
    · cases hpu
  · unfold pm_l2 at hpu; split at hpu
    · cases hpu; cases hc; exact lv_lor hx hb hd (kk ls hn hl)
    · cases hpu
  · unfold pm_lsh at hpu; split at hpu
    · cases hpu; cases hc; exact lv_lshl hx hb hd rfl (kk ls hn hl)
    · cases hpu
  · unfold pm_lsh at hpu; split at hpu
    · cases hpu; cases hc; exact lv_lshr hx hb hd rfl (kk ls hn hl)
    · cases hpu
  · split at hpu
    · cases hpu; cases hc; exact W.lcmp hx hb hd (kk ls hn hl)
    · cases hpu
  · split at hpu
    · cases hpu; cases hc; exact lv_i2l hx hb hd rfl (kk ls hn hl)
    · cases hpu
  · split at hpu
    · cases hpu; cases hc; exact lv_i2c hx hb hd rfl (kk ls hn hl)
    · cases hpu
  · split at hpu
    · cases hpu; cases hc; exact lv_dup hx hb hd rfl (kk ls hn hl)
    · cases hpu; cases hc; exact lv_dup hx hb hd rfl (kk ls hn hl)
    · cases hpu
  · split at hpu
    · cases hpu; cases hc; exact lv_dup2_11 hx hb hd rfl rfl (kk ls hn hl)
    · cases hpu
  · split at hpu
    · cases hpu; cases hc; exact lv_pop hx hb hd rfl (kk ls hn hl)
    · cases hpu
  · cases hpu
end PU
end
section
/-! SOUNDNESS, 3: the heap -/
/-- what the tables say of a class -/
theorem pm_cls_ok {ci : Nat} {q : vw_C} (h : pm_cls[ci]? = some q) : (∀ w ∈ u_ws q.1 q.2.1 q.2.2, w ∈ pm_big) ∧ (∃ ty : Nat → FieldType, (∀ k, k < q.2.2 → parseFieldDescriptor (q.2.1 k).2.2.1 = some (ty k)) ∧ ∀ j, j < q.2.2 → defaultValue (ty j) = vp_V (pm_dfl ci) j) ∧ (∀ a, a < q.2.2 → ∀ b, b < q.2.2 → a ≠ b → (q.2.1 a).2.1 ≠ (q.2.1 b).2.1) := by
  have hb : ∀ w ∈ pm_layw, w ∈ pm_big := by
    intro w hw
    have h1 : some w ∈ pm_layw.map some := List.mem_map.mpr ⟨w, hw, rfl⟩
    rw [pm_lay_ok] at h1
    obtain ⟨i, -, hi⟩ := List.mem_map.mp h1
    refine List.mem_filter.mpr ⟨List.mem_of_getElem? hi, ?_⟩
    obtain ⟨c, -, hc⟩ := List.mem_flatMap.mp hw
    obtain ⟨k, -, rfl⟩ := List.mem_map.mp hc
    unfold u_lay
    split <;> rfl
  have hu : ∀ w ∈ u_ws q.1 q.2.1 q.2.2, w ∈ pm_big := fun w hw => hb w (List.mem_flatMap.mpr ⟨q, List.mem_of_getElem? h, hw⟩)
  refine ⟨hu, ?_⟩
  match ci, h with
  | 0, h => cases h; exact ⟨⟨pt_0, pt_0_ok, by decide⟩, pn_0⟩
  | 1, h => cases h; exact ⟨⟨pt_1, pt_1_ok, by decide⟩, pn_1⟩
  | 2, h => cases h; exact ⟨⟨pt_2, pt_2_ok, by decide⟩, pn_2⟩
  | 3, h => cases h; exact ⟨⟨pt_3, pt_3_ok, by decide⟩, pn_3⟩
  | 4, h => cases h; exact ⟨⟨pt_4, pt_4_ok, by decide⟩, pn_4⟩
  | 5, h => cases h; exact ⟨⟨pt_5, pt_5_ok, by decide⟩, pn_5⟩
  | 6, h => cases h; exact ⟨⟨pt_6, pt_6_ok, by decide⟩, pn_6⟩
  | 7, h => cases h; exact ⟨⟨pt_7, pt_7_ok, by decide⟩, pn_7⟩
  | 8, h => cases h; exact ⟨⟨pt_8, pt_8_ok, by decide⟩, pn_8⟩
  | 9, h => cases h; exact ⟨⟨pt_9, pt_9_ok, by decide⟩, pn_9⟩
  | 10, h => cases h; exact ⟨⟨pt_10, pt_10_ok, by decide⟩, pn_10⟩
  | 11, h => cases h; exact ⟨⟨pt_11, pt_11_ok, by decide⟩, pn_11⟩
  | 12, h => cases h; exact ⟨⟨pt_12, pt_12_ok, by decide +kernel⟩, pn_12⟩
  | n + 13, h => simp [pm_cls] at h
section HP
variable {E : pm_E} {M : pm_M} {d : Nat} {p : Program} {e : Env} {R : Room} {s : State} {m : MethodId} {args : Array Value} {below : List Frame} {meth : Method} {c : Code} {H : Heap} {locs : List Loc} {cells slots : Nat} {QQ : State → Prop}
variable {pc x y : Nat} {ls : Array Slot} {st : List Value} {h : pm_H} {nx : List Value → pm_H → Prop} {scr : Option (Nat × (Nat → Int32))}
/-- the continuation of a heap instruction: whatever the heap has become, the machine goes on -/
abbrev pm_kk (E : pm_E) (p : Program) (e : Env) (R : Room) (s : State) (m : MethodId) (args : Array Value) (below : List Frame) (meth : Method) (c : Code) (QQ : State → Prop) (pc' : Nat) (ls : Array Slot) (h : pm_H) (nx : List Value → pm_H → Prop) (cells slots : Nat) : Prop :=
  ∀ (st1 : List Value) (h1 : pm_H) (H1 : Heap) (locs1 : List Loc), nx st1 h1 → h1.length = h.length → va_P (pe_D E) pm_cls (pe_w E h1) H1 → va_S (pe_A E) s.heap H1 locs1 → W p E.1 e R s m args below meth c H1 locs1 cells slots QQ (F0 m pc' ls (st1.map (pe_v E)))
theorem pm_strs_spec {k : Nat} {z : List Nat} (hk : Nat.ble 10 k = true) (hz : pm_nth pm_strs (k - 10) = some z) : k - 10 < 2 ∧ k < 20 ∧ pm_len.getD (k - 10) 0 = z.length ∧ ∀ j, (pm_byt.getD (k - 10) []).getD j 0 = nI (z.getD j 0) := by
  rw [pm_nth_eq] at hz
  have hl : k - 10 < 2 := (List.getElem?_eq_some_iff.mp hz).1
  have h10 : 10 ≤ k := Nat.le_of_ble_eq_true hk
  refine ⟨hl, by omega, ?_, fun j => ?_⟩
  · rw [pm_len, List.getD_eq_getElem?_getD, List.getElem?_map, hz]; rfl
  · rw [pm_byt, List.getD_eq_getElem?_getD (l := List.map _ _), List.getElem?_map, hz]
    show (z.map nI).getD j 0 = _
    rw [List.getD_eq_getElem?_getD, List.getD_eq_getElem?_getD, List.getElem?_map]
    cases z[j]? <;> rfl
theorem pm_gget_ok (F : pm_Fx E M d p R s m args meth c) (hown : M.1.cls = pm_cn.getD M.2.2.2.2.1 "") (hP : va_P (pe_D E) pm_cls (pe_w E h) H) (hS : va_S (pe_A E) s.heap H locs) {k : Nat} (hd : decode M.2.1 pc = .ok (.getfield k, 3))
    (hc : match x with | 50 => (M.2.2.2.2.1, k, y) ∈ pm_SF | _ => (M.2.2.2.2.1, k, x, y) ∈ pm_FL ∧ ∃ q, pm_cls[x]? = some q ∧ y < q.2.2)
    (hg : pm_gget (pm_OH scr) False x y st h nx) (kk : pm_kk E p e R s m args below meth c QQ (pc + 3) ls h nx cells slots) : W p E.1 e R s m args below meth c H locs cells slots QQ (F0 m pc ls (st.map (pe_v E))) := by
  obtain ⟨hx, hb, hml, ho, hts, hlk, hr, hnm, hf1, hf2, henv⟩ := F
  unfold pm_gget at hg
  split at hg
  · rename_i q st2
    split at hg
    · rename_i v hv
      dsimp only [pm_OH] at hv
      split at hv
      · rename_i ci fs hh
        split at hv
        · rename_i hcx
          have hcx := Nat.eq_of_beq_eq_true hcx
          subst hcx
          have hne : ci ≠ 50 := by
            intro e5; subst e5
            obtain ⟨r, h1, -⟩ := hP q _ (pe_w_get hh)
            simp [pm_cls] at h1
          have hc2 : (M.2.2.2.2.1, k, ci, y) ∈ pm_FL ∧ ∃ q, pm_cls[ci]? = some q ∧ y < q.2.2 := by
            split at hc
            · exact absurd rfl hne
            · exact hc
          obtain ⟨hc3, q5, hq5, hy⟩ := hc2
          have hlk2 := hts _ (pm_FL_ok _ hc3)
          have hgd : pm_cls.getD ci ("", pT_0, 0) = q5 := by rw [List.getD_eq_getElem?_getD, hq5]; rfl
          simp only [pm_FL_w, hgd] at hlk2
          obtain ⟨C, T, N⟩ := q5
          refine va_get (D := pe_D E) (ci := ci) (v := pe_v E v) (C := C) (T := T) (N := N) (ref := (T y).1) hx hb hts (pm_cls_ok hq5).1 ho henv.1 hP q (pe_w_get hh) hq5 y hy (by rw [hown]; exact hlk2) (fun _ h9 => h9) (by rw [List.getElem?_map, hv]; rfl) hd (kk _ _ _ _ hg rfl hP hS)
        · cases hv
      · cases hv
    · exact hg.elim
  · rename_i kq st2
    split at hg
    · rename_i hk
      simp only [Bool.and_eq_true] at hk
      have hk1 : kq ≤ 1 := Nat.le_of_ble_eq_true hk.1
      have hx5 := Nat.eq_of_beq_eq_true hk.2
      subst hx5
      have hc2 : (M.2.2.2.2.1, k, y) ∈ pm_SF := hc
      have hlk2 := hts _ (pm_SF_ok _ hc2)
      have hsv : pe_v E (.retAddr kq) = .ref (pe_aK E kq) := by unfold pe_v; exact if_pos (by omega)
      rw [pe_rest, hsv]
      have hE := henv.2.1.1 kq (by omega)
      split at hg
      · refine vk_getf (o := "java/lang/String") (ref := "java/lang/String") hx hb hE.2.2.1 hS ho (by rw [hown]; exact hlk2) (fun _ h9 => h9) hd ?_
        have h4 := kk _ _ _ _ hg rfl hP hS
        have hsv2 : pe_v E (.retAddr (kq + 10)) = .ref (pe_aV E kq) := by
          unfold pe_v
          dsimp only
          rw [if_neg (by omega), if_pos (by omega), show kq + 10 - 10 = kq by omega]
        rw [pe_rest, hsv2] at h4
        exact h4
      · rename_i hy0
        refine vk_getf (o := "java/lang/String") (ref := "java/lang/String") hx hb hE.2.1 hS ho ?_ (fun _ h9 => h9) hd (kk _ _ _ _ hg rfl hP hS)
        rw [hown]
        unfold pm_SF_w at hlk2
        split at hlk2
        · rename_i e5; exact absurd e5 hy0
        · exact hlk2
    · exact hg.elim
  · exact hg.elim
theorem pm_gput_ok (F : pm_Fx E M d p R s m args meth c) (hown : M.1.cls = pm_cn.getD M.2.2.2.2.1 "") (hP : va_P (pe_D E) pm_cls (pe_w E h) H) (hS : va_S (pe_A E) s.heap H locs) {k : Nat} {zs : List Nat} (hd : decode M.2.1 pc = .ok (.putfield k, 3))
    (hc1 : (M.2.2.2.2.1, k, x, y) ∈ pm_FL) (hc2 : ∃ q ty, pm_cls[x]? = some q ∧ y < q.2.2 ∧ parseFieldDescriptor (q.2.1 y).2.2.1 = some ty ∧ ((ty = .int ∧ zs = [0] ∧ (q.2.1 y).2.2.2 = false) ∨ (ty = .boolean ∧ zs = [1] ∧ (q.2.1 y).2.2.2 = false) ∨ (((∃ n, ty = .object n) ∨ (∃ t, ty = .array t)) ∧ zs = [2] ∧ (q.2.1 y).2.2.2 = true ∧ M.1.name = "<init>" ∧ (q.2.1 y).1 = M.1.cls)))
    (hg : pm_gput (pm_OH scr) False pm_br x y zs st h nx) (kk : pm_kk E p e R s m args below meth c QQ (pc + 3) ls h nx cells slots) : W p E.1 e R s m args below meth c H locs cells slots QQ (F0 m pc ls (st.map (pe_v E))) := by
  obtain ⟨hx, hb, hml, ho, hts, hlk, hr, hnm, hf1, hf2, henv⟩ := F
  obtain ⟨q5, ty, hq5, hy, hty, hz⟩ := hc2
  have hlk2 := hts _ (pm_FL_ok _ hc1)
  have hgd : pm_cls.getD x ("", pT_0, 0) = q5 := by rw [List.getD_eq_getElem?_getD, hq5]; rfl
  simp only [pm_FL_w, hgd] at hlk2
  obtain ⟨C, T, N⟩ := q5
  obtain ⟨hin, ⟨ty0, hty0, -⟩, hn5⟩ := pm_cls_ok hq5
  unfold pm_gput at hg
  split at hg
  · rename_i v q st2
    split at hg
    · rename_i h1 hv
      dsimp only [pm_OH] at hv
      split at hv
      · rename_i ci fs hh
        split at hv
        · rename_i hcx
          have hcx := Nat.eq_of_beq_eq_true hcx
          subst hcx
          split at hv
          · rename_i v0 hv0
            have hl5 : y < (fs.map (pe_v E)).length := by rw [List.length_map]; exact (List.getElem?_eq_some_iff.mp hv0).1
            cases hv
            have hlen : (h.set q (.inr (ci, fs.set y v))).length = h.length := by simp
            have hset : ∀ w, w = pe_v E v → (pe_w E h).set q (E.2.1 + q, .inr (ci, (fs.map (pe_v E)).set y w)) = pe_w E (h.set q (.inr (ci, fs.set y v))) := by
              intro w hw
              rw [pe_w_set, hw]
              show _ = (pe_w E h).set q (E.2.1 + q, .inr (ci, (fs.set y v).map (pe_v E)))
              rw [List.map_set]
            split at hg
            · rename_i w
              rcases hz with ⟨rfl, -, hf⟩ | ⟨-, hz, -⟩ | ⟨-, hz, -⟩
              · exact va_put (D := pe_D E) (ci := ci) (v := .int w) (ty := .int) (C := C) (T := T) (N := N) (ref := (T y).1) hx hb hts hin ty0 hty0 hn5 ho henv.1 hP pe_w_D hS q (pe_w_get hh) hq5 y hy (by rw [hown]; exact hlk2) (fun _ h9 => h9) hf hty rfl rfl hl5 hd (fun H1 locs1 hP1 _ hS1 => kk _ _ _ _ hg hlen (by rw [← hset (.int w) rfl]; exact hP1) hS1)
              · simp at hz
              · simp at hz
            · rename_i w
              rcases hz with ⟨-, hz, -⟩ | ⟨rfl, -, hf⟩ | ⟨-, hz, -⟩
              · simp at hz
              · have hw : w = 0 ∨ w = 1 := by
                  rcases Classical.em (w = 0 ∨ w = 1) with z | z
                  · exact z
                  · exact (hg.2 z).elim
                exact va_put (D := pe_D E) (ci := ci) (v := .int w) (ty := .boolean) (C := C) (T := T) (N := N) (ref := (T y).1) hx hb hts hin ty0 hty0 hn5 ho henv.1 hP pe_w_D hS q (pe_w_get hh) hq5 y hy (by rw [hown]; exact hlk2) (fun _ h9 => h9) hf hty (by rcases hw with rfl | rfl <;> rfl) (by rcases hw with rfl | rfl <;> rfl) hl5 hd (fun H1 locs1 hP1 _ hS1 => kk _ _ _ _ (hg.1 hw) hlen (by rw [← hset (.int w) rfl]; exact hP1) hS1)
              · simp at hz
            · rename_i a
              rcases hz with ⟨-, hz, -⟩ | ⟨-, hz, -⟩ | ⟨hty2, -, hf, hi, hdc⟩
              · simp at hz
              · simp at hz
              · exact va_putF (D := pe_D E) (ci := ci) (v := .ref (E.2.1 + a)) (ty := ty) (C := C) (T := T) (N := N) (ref := (T y).1) hx hb hts hin ty0 hty0 hn5 ho henv.1 hP pe_w_D hS q (pe_w_get hh) hq5 y hy (by rw [hown]; exact hlk2) (fun _ h9 => h9) hf (hnm hi) hdc hty (by rcases hty2 with ⟨n, rfl⟩ | ⟨t, rfl⟩ <;> rfl) (by rcases hty2 with ⟨n, rfl⟩ | ⟨t, rfl⟩ <;> rfl) hl5 hd (fun H1 locs1 hP1 _ hS1 => kk _ _ _ _ hg hlen (by rw [← hset (.ref (E.2.1 + a)) rfl]; exact hP1) hS1)
            · exact hg.elim
          · cases hv
        · cases hv
      · cases hv
    · exact hg.elim
  · exact hg.elim
theorem pm_kty {E : pm_E} {h : pm_H} {H : Heap} : (pe_ty E)[0]? = some (pe_K E 0, .int) ∧ (pe_ty E)[1]? = some (pe_K E 1, .boolean) ∧ (pe_ty E)[2]? = some (pe_K E 2, .long) := ⟨rfl, rfl, rfl⟩
theorem pm_in_of {c a : Prop} {D : Decidable c} (h : pm_br c D a False) : c ∧ a := by
  rcases Classical.em c with z | z
  · exact ⟨z, h.1 z⟩
  · exact (h.2 z).elim
theorem pm_gald_ok (F : pm_Fx E M d p R s m args meth c) (hP : va_P (pe_D E) pm_cls (pe_w E h) H) (hS : va_S (pe_A E) s.heap H locs) (hsc : scr = some (pe_n E, pe_x E)) {kd : Nat} {ins : Instr} (hki : (kd = 0 ∧ ins = .iaload) ∨ (kd = 1 ∧ ins = .baload)) (hd : decode M.2.1 pc = .ok (ins, 1))
    (hg : pm_gald (pm_OH scr) False pm_br kd st h nx) (kk : pm_kk E p e R s m args below meth c QQ (pc + 1) ls h nx cells slots) : W p E.1 e R s m args below meth c H locs cells slots QQ (F0 m pc ls (st.map (pe_v E))) := by
  obtain ⟨hx, hb, hml, ho, hts, hlk, hr, hnm, hf1, hf2, henv⟩ := F
  unfold pm_gald at hg
  split at hg
  · rename_i j q st2
    split at hg
    · rename_i k n f hv
      dsimp only [pm_OH] at hv
      split at hv
      · rename_i k2 n2 f2 hh
        cases hv
        split at hg
        · rename_i hkd
          have hkd := Nat.eq_of_beq_eq_true hkd
          subst hkd
          obtain ⟨hin, hg⟩ := pm_in_of hg
          rcases hki with ⟨rfl, rfl⟩ | ⟨rfl, rfl⟩
          · exact va_iald hx hb henv.1 hP q 0 (pe_w_get hh) rfl hin hd (kk _ _ _ _ hg rfl hP hS)
          · exact va_zald hx hb henv.1 hP q 1 (pe_w_get hh) rfl hin hd (kk _ _ _ _ hg rfl hP hS)
        · exact hg.elim
      · cases hv
    · exact hg.elim
  · rename_i j k st2
    split at hg
    · split at hg
      · subst hsc
        have hg : pm_br (¬ (j < 0 ∨ pe_n E ≤ j.toNatClampNeg)) inferInstance (nx (.int (pe_x E j.toNatClampNeg) :: st2) h) False := hg
        obtain ⟨hin, hg⟩ := pm_in_of hg
        rcases hki with ⟨-, rfl⟩ | ⟨q, -⟩
        · have hsv : pe_v E (.retAddr 30) = .ref (pe_b E) := by unfold pe_v; rfl
          rw [pe_rest, pe_rest, hsv]
          exact va_sld hx hb henv.2.2.2.2.2.2.2.1 henv.2.2.2.2.2.2.2.2.2.1 (Nat.not_le.mpr henv.2.2.2.2.2.2.2.2.1) hS hin hd (kk _ _ _ _ hg rfl hP hS)
        · cases q
      · exact hg.elim
    · split at hg
      · rename_i hkd z hz
        split at hg
        · rename_i hk
          obtain ⟨hin, hg⟩ := pm_in_of hg
          rcases hki with ⟨q, -⟩ | ⟨rfl, rfl⟩
          · exact absurd q (by assumption)
          · obtain ⟨h2, h20, hlen, hby⟩ := pm_strs_spec hk hz
            have hk10 : 10 ≤ k := Nat.le_of_ble_eq_true hk
            have hsv : pe_v E (.retAddr k) = .ref (pe_aV E (k - 10)) := by unfold pe_v; dsimp only; rw [if_neg (by omega), if_pos (by omega)]
            rw [pe_rest, pe_rest, hsv]
            have hT := (henv.2.1.1 (k - 10) h2).2.2.2
            refine va_tb hx hb hT hS (i := j) (by rw [hlen]; exact hin) (v := .int (nI (z.getD j.toNatClampNeg 0))) (by rw [hby]) hd (kk _ _ _ _ hg rfl hP hS)
        · exact hg.elim
      · exact hg.elim
  · exact hg.elim
theorem pm_gast_ok (F : pm_Fx E M d p R s m args meth c) (hP : va_P (pe_D E) pm_cls (pe_w E h) H) (hS : va_S (pe_A E) s.heap H locs) {kd : Nat} {ins : Instr} (hki : (kd = 0 ∧ ins = .iastore) ∨ (kd = 1 ∧ ins = .bastore)) (hd : decode M.2.1 pc = .ok (ins, 1))
    (hg : pm_gast (pm_OH scr) False pm_br kd st h nx) (kk : pm_kk E p e R s m args below meth c QQ (pc + 1) ls h nx cells slots) : W p E.1 e R s m args below meth c H locs cells slots QQ (F0 m pc ls (st.map (pe_v E))) := by
  obtain ⟨hx, hb, hml, ho, hts, hlk, hr, hnm, hf1, hf2, henv⟩ := F
  unfold pm_gast at hg
  split at hg
  · rename_i v j q st2
    split at hg
    · rename_i k n f hv
      dsimp only [pm_OH] at hv
      split at hv
      · rename_i k2 n2 f2 hh
        cases hv
        split at hg
        · rename_i hkd
          have hkd := Nat.eq_of_beq_eq_true hkd
          subst hkd
          obtain ⟨hin, hg⟩ := pm_in_of hg
          have hset : ∀ g : Nat → Int32, (pm_OH scr).2.2.2.1 h q g = h.set q (.inl (k, n, .inl g)) := fun g => by dsimp only [pm_OH]; rw [hh]
          have hlen : ∀ g : Nat → Int32, ((pm_OH scr).2.2.2.1 h q g).length = h.length := fun g => by rw [hset]; simp
          rcases hki with ⟨rfl, rfl⟩ | ⟨rfl, rfl⟩
          · exact va_iast hx hb henv.1 hP pe_w_D hS q 0 (pe_w_get hh) rfl hin hd (fun H1 locs1 hP1 _ hS1 => kk _ _ _ _ hg (hlen _) (by rw [hset, pe_w_set]; exact hP1) hS1)
          · obtain ⟨hw, hg⟩ := pm_in_of hg
            have hnar : vp_nar .boolean v = v := by rcases hw with rfl | rfl <;> rfl
            exact va_zast hx hb henv.1 hP pe_w_D hS q 1 (pe_w_get hh) rfl hin hd (fun H1 locs1 hP1 _ hS1 => kk _ _ _ _ hg (hlen _) (by rw [hset, pe_w_set]; rw [hnar] at hP1; exact hP1) hS1)
        · exact hg.elim
      · cases hv
    · exact hg.elim
  · exact hg.elim
theorem pm_glld_ok (F : pm_Fx E M d p R s m args meth c) (hP : va_P (pe_D E) pm_cls (pe_w E h) H) (hS : va_S (pe_A E) s.heap H locs) (hd : decode M.2.1 pc = .ok (.laload, 1))
    (hg : pm_glld (pm_OH scr) False pm_br st h nx) (kk : pm_kk E p e R s m args below meth c QQ (pc + 1) ls h nx cells slots) : W p E.1 e R s m args below meth c H locs cells slots QQ (F0 m pc ls (st.map (pe_v E))) := by
  obtain ⟨hx, hb, hml, ho, hts, hlk, hr, hnm, hf1, hf2, henv⟩ := F
  unfold pm_glld at hg
  split at hg
  · rename_i j q st2
    split at hg
    · rename_i n f hv
      dsimp only [pm_OH] at hv
      split at hv
      · rename_i n2 f2 hh
        cases hv
        obtain ⟨hin, hg⟩ := pm_in_of hg
        exact va_lald hx hb henv.1 hP q 2 (pe_w_get hh) rfl hin hd (kk _ _ _ _ hg rfl hP hS)
      · cases hv
    · exact hg.elim
  · exact hg.elim
theorem pm_glst_ok (F : pm_Fx E M d p R s m args meth c) (hP : va_P (pe_D E) pm_cls (pe_w E h) H) (hS : va_S (pe_A E) s.heap H locs) (hd : decode M.2.1 pc = .ok (.lastore, 1))
    (hg : pm_glst (pm_OH scr) False pm_br st h nx) (kk : pm_kk E p e R s m args below meth c QQ (pc + 1) ls h nx cells slots) : W p E.1 e R s m args below meth c H locs cells slots QQ (F0 m pc ls (st.map (pe_v E))) := by
  obtain ⟨hx, hb, hml, ho, hts, hlk, hr, hnm, hf1, hf2, henv⟩ := F
  unfold pm_glst at hg
  split at hg
  · rename_i v j q st2
    split at hg
    · rename_i n f hv
      dsimp only [pm_OH] at hv
      split at hv
      · rename_i n2 f2 hh
        cases hv
        obtain ⟨hin, hg⟩ := pm_in_of hg
        have hset : ∀ g : Nat → Int64, (pm_OH scr).2.2.2.2.2.1 h q g = h.set q (.inl (2, n, .inr (.inl g))) := fun g => by dsimp only [pm_OH]; rw [hh]
        have hlen : ∀ g : Nat → Int64, ((pm_OH scr).2.2.2.2.2.1 h q g).length = h.length := fun g => by rw [hset]; simp
        exact va_last hx hb henv.1 hP pe_w_D hS q 2 (pe_w_get hh) rfl hin hd (fun H1 locs1 hP1 _ hS1 => kk _ _ _ _ hg (hlen _) (by rw [hset, pe_w_set]; exact hP1) hS1)
      · cases hv
    · exact hg.elim
  · exact hg.elim
theorem pm_glen_ok (F : pm_Fx E M d p R s m args meth c) (hP : va_P (pe_D E) pm_cls (pe_w E h) H) (hS : va_S (pe_A E) s.heap H locs) (hsc : scr = some (pe_n E, pe_x E)) (hd : decode M.2.1 pc = .ok (.arraylength, 1))
    (hg : pm_glen (pm_OH scr) False st h nx) (kk : pm_kk E p e R s m args below meth c QQ (pc + 1) ls h nx cells slots) : W p E.1 e R s m args below meth c H locs cells slots QQ (F0 m pc ls (st.map (pe_v E))) := by
  obtain ⟨hx, hb, hml, ho, hts, hlk, hr, hnm, hf1, hf2, henv⟩ := F
  unfold pm_glen at hg
  split at hg
  · rename_i q st2
    split at hg
    · rename_i k n f hv
      dsimp only [pm_OH] at hv
      split at hv
      · rename_i k2 n2 f2 hh
        cases hv
        split at hg
        · rename_i hk
          have hk1 : k ≤ 1 := Nat.le_of_ble_eq_true hk
          rcases (show k = 0 ∨ k = 1 by omega) with rfl | rfl
          · exact va_alen hx hb henv.1 hP q 0 (pe_w_get hh) rfl rfl hd (kk _ _ _ _ hg rfl hP hS)
          · exact va_alen hx hb henv.1 hP q 1 (pe_w_get hh) rfl rfl hd (kk _ _ _ _ hg rfl hP hS)
        · exact hg.elim
      · cases hv
    · split at hg
      · rename_i n f hv
        dsimp only [pm_OH] at hv
        split at hv
        · rename_i n2 f2 hh
          cases hv
          exact va_alen hx hb henv.1 hP q 2 (pe_w_get hh) rfl rfl hd (kk _ _ _ _ hg rfl hP hS)
        · cases hv
      · exact hg.elim
  · rename_i k st2
    split at hg
    · have hsv : pe_v E (.retAddr 30) = .ref (pe_b E) := by unfold pe_v; rfl
      rw [pe_rest, hsv]
      subst hsc
      have hg : nx (.int (nI (pe_n E)) :: st2) h := hg
      exact va_slen hx hb henv.2.2.2.2.2.2.2.1 henv.2.2.2.2.2.2.2.2.2.1 (Nat.not_le.mpr henv.2.2.2.2.2.2.2.2.1) hS hd (kk _ _ _ _ hg rfl hP hS)
    · split at hg
      · rename_i z hz
        split at hg
        · rename_i hk
          obtain ⟨h2, h20, hlen, hby⟩ := pm_strs_spec hk hz
          have hk10 : 10 ≤ k := Nat.le_of_ble_eq_true hk
          have hsv : pe_v E (.retAddr k) = .ref (pe_aV E (k - 10)) := by unfold pe_v; dsimp only; rw [if_neg (by omega), if_pos (by omega)]
          rw [pe_rest, hsv]
          have hT := (henv.2.1.1 (k - 10) h2).2.2.2
          exact va_tlen hx hb hT hS (v := nI z.length) (by rw [hlen]; rfl) hd (kk _ _ _ _ hg rfl hP hS)
        · exact hg.elim
      · exact hg.elim
  · exact hg.elim
theorem pm_gdiv_ok (F : pm_Fx E M d p R s m args meth c) (hP : va_P (pe_D E) pm_cls (pe_w E h) H) (hS : va_S (pe_A E) s.heap H locs) {f : Int32 → Int32 → Int32} {ins : Instr} (hki : (f = (fun a b => a / b) ∧ ins = .idiv) ∨ (f = (fun a b => a - a / b * b) ∧ ins = .irem)) (hd : decode M.2.1 pc = .ok (ins, 1))
    (hg : pm_gdiv False pm_br f st h nx) (kk : pm_kk E p e R s m args below meth c QQ (pc + 1) ls h nx cells slots) : W p E.1 e R s m args below meth c H locs cells slots QQ (F0 m pc ls (st.map (pe_v E))) := by
  obtain ⟨hx, hb, hml, ho, hts, hlk, hr, hnm, hf1, hf2, henv⟩ := F
  unfold pm_gdiv at hg
  split at hg
  · obtain ⟨hin, hg⟩ := pm_in_of hg
    rcases hki with ⟨rfl, rfl⟩ | ⟨rfl, rfl⟩
    · exact lv_idiv hx hb hd hin (kk _ _ _ _ hg rfl hP hS)
    · exact lv_irem hx hb hd hin (kk _ _ _ _ hg rfl hP hS)
  · exact hg.elim
theorem pe_cs (hz : (pe_z E).category = 1) (st : List Value) : ((st.map (pe_v E)).map fun v => v.category).sum = pm_cs st := by
  rw [List.map_map]
  unfold pm_cs
  congr 1
  apply List.map_congr_left
  intro v _
  exact pe_v_cat hz v
theorem pm_gint_ok (F : pm_Fx E M d p R s m args meth c) (hown : M.1.cls = pm_cn.getD M.2.2.2.2.1 "") (hd1 : 1 ≤ d) (hP : va_P (pe_D E) pm_cls (pe_w E h) H) (hS : va_S (pe_A E) s.heap H locs) (hsz : c.maxLocals = ls.size) (hcl : cells ≤ R.cells) (hsl : slots ≤ R.slots) {k : Nat} (hd : decode M.2.1 pc = .ok (.invokestatic k, 3)) (hc : (M.2.2.2.2.1, k, x) ∈ pm_MI)
    (hg : pm_gint (pm_OH scr) False pm_br x st h nx) (kk : pm_kk E p e R s m args below meth c QQ (pc + 3) ls h nx cells slots) : W p E.1 e R s m args below meth c H locs cells slots QQ (F0 m pc ls (st.map (pe_v E))) := by
  obtain ⟨hx, hb, hml, ho, hts, hlk, hr, hnm, hf1, hf2, henv⟩ := F
  have hz := henv.zc
  have hlk2 := hts _ (pm_MI_ok _ hc)
  rw [hown] at ho
  unfold pm_gint at hg
  split at hg
  · split at hg
    · split at hg
      · rename_i hb8
        have hb8 := Nat.le_of_ble_eq_true hb8
        exact va_mmin hx hb hsz ho hlk2 (hts _ pm_w_min_s) (hts _ pm_w_math) (hts _ pm_w_min_c) (by omega) (by rw [pe_cs hz]; omega) hcl hsl hd (kk _ _ _ _ hg rfl hP hS)
      · exact hg.elim
    · exact hg.elim
  · split at hg
    · split at hg
      · rename_i hb8
        have hb8 := Nat.le_of_ble_eq_true hb8
        exact va_mmax hx hb hsz ho hlk2 (hts _ pm_w_max_s) (hts _ pm_w_math) (hts _ pm_w_max_c) (by omega) (by rw [pe_cs hz]; omega) hcl hsl hd (kk _ _ _ _ hg rfl hP hS)
      · exact hg.elim
    · exact hg.elim
  · split at hg
    · split at hg
      · rename_i hb8
        have hb8 := Nat.le_of_ble_eq_true hb8
        exact va_mabs hx hb hsz ho hlk2 (hts _ pm_w_abs_s) (hts _ pm_w_math) (hts _ pm_w_abs_c) (by omega) (by rw [pe_cs hz]; omega) hcl hsl hd (kk _ _ _ _ hg rfl hP hS)
      · exact hg.elim
    · exact hg.elim
  · split at hg
    · rename_i n dp q sp q0 st2
      split at hg
      · rename_i hb8
        have hb8 := Nat.le_of_ble_eq_true hb8
        split at hg
        · rename_i n0 f n1 g hv0 hv1
          dsimp only [pm_OH] at hv0 hv1
          split at hv0
          · rename_i hh0
            cases hv0
            split at hv1
            · rename_i hh1
              cases hv1
              obtain ⟨⟨h1, h2, h3, h4, h5⟩, hg⟩ := pm_in_of hg
              have hset : ∀ g' : Nat → Int32, (pm_OH scr).2.2.2.1 h q g' = h.set q (.inl (0, n1, .inl g')) := fun g' => by dsimp only [pm_OH]; rw [hh1]
              have hnf : nativeFrameWords "java/lang/System" "arraycopy" 5 = 7 := by decide +kernel
              exact va_copyi hx hb hsz ho hlk2 (hts _ pm_w_ac_n) (hts _ pm_w_ac_s) (hts _ pm_w_sys) henv.1 hP pe_w_D hS q0 q 0 0 (pe_w_get hh0) (pe_w_get hh1) rfl rfl rfl h1 h2 h3 h4 h5 (fun _ _ => rfl) (by omega) (by rw [pe_cs hz, hnf]; omega) hd (fun H1 locs1 hP1 _ hS1 => kk _ _ _ _ hg (by rw [hset]; simp) (by rw [hset, pe_w_set]; exact hP1) hS1)
            · cases hv1
          · cases hv0
        · exact hg.elim
      · exact hg.elim
    · exact hg.elim
  · exact hg.elim
end HP
end
section
/-! SOUNDNESS, 4: what a method's run is, calls, one step -/
def pm_rt (M : pm_M) (r : Option Value) (pc : Nat) : Prop := match r with
  | none => M.2.2.2.1 = none ∧ decode M.2.1 pc = .ok (.return_, 1)
  | some (.int v) => (∃ ty, M.2.2.2.1 = some ty ∧ narrow ty (.int v) = .int v) ∧ decode M.2.1 pc = .ok (.ireturn, 1)
  | some (.long _) => M.2.2.2.1 = some .long ∧ decode M.2.1 pc = .ok (.lreturn, 1)
  | _ => False
/-- from this place of method k, with this heap, the machine comes to a return with Q; d: how deep calls may go; mc: how many cells may be made -/
def pm_Ok (E : pm_E) (d k mc idx : Nat) (L st : List Value) (h : pm_H) (Q : Option Value → pm_H → Prop) : Prop :=
  ∀ (M : pm_M) (i : pm_I), pm_tab[k]? = some M → pm_nth M.2.2.2.2.2 idx = some i → L.length = M.2.2.1 →
  ∀ (p : Program) (e : Env) (R : Room) (s : State) (m : MethodId) (args : Array Value) (below : List Frame) (meth : Method) (c : Code), pm_Fx E M d p R s m args meth c →
  ∀ (QQ : State → Prop) (H : Heap) (locs : List Loc) (cells slots : Nat) (ls : Array Slot),
    va_P (pe_D E) pm_cls (pe_w E h) H → va_S (pe_A E) s.heap H locs → s.heap.size + cells = E.2.1 + h.length → lv_has ls M.2.2.1 (pe_ls E L) → cells + mc ≤ R.cells → slots + 20000 * mc ≤ R.slots →
    (∀ (r : Option Value) (h' : pm_H) (H' : Heap) (locs' : List Loc) (cells' slots' pc' : Nat) (ls' : Array Slot), Q r h' → va_P (pe_D E) pm_cls (pe_w E h') H' → va_S (pe_A E) s.heap H' locs' → s.heap.size + cells' = E.2.1 + h'.length → cells' ≤ R.cells → slots' ≤ R.slots → pm_rt M r pc' → W p E.1 e R s m args below meth c H' locs' cells' slots' QQ (F0 m pc' ls' (r.toList.map (pe_v E)))) →
    W p E.1 e R s m args below meth c H locs cells slots QQ (F0 m i.1 ls (st.map (pe_v E)))
def pm_pre (E : pm_E) (av : List Value) (h : pm_H) : Array Value → State → Prop := fun v U => v = (av.map (pe_v E)).toArray ∧ U.heap.size = E.2.1 + h.length ∧ va_P (pe_D E) pm_cls (pe_w E h) U.heap ∧ pm_env E U U.heap
def pm_post (E : pm_E) (n : Nat) (Q : Option Value → pm_H → Prop) : Array Value → State → Outcome → State → Prop := fun _ st oc t => ∃ (r : Option Value) (h' : pm_H), oc = .returned (r.map (pe_v E)) ∧ Q r h' ∧ h'.length = n ∧ va_P (pe_D E) pm_cls (pe_w E h') t.heap ∧ st.heap.size ≤ t.heap.size ∧ ∀ q : Nat, q < st.heap.size → ¬ pe_A E q → t.heap[q]? = st.heap[q]?
def pm_rm (d mc : Nat) : Room := { frames := d, cells := mc, slots := 20000 * mc, locals := 64 * d }
def pm_ws (M : pm_M) : List Cond := .code M.1 M.2.1 M.2.2.1 M.2.2.2.1 :: pm_big
def pm_Call (E : pm_E) (d k mc : Nat) (av : List Value) (h : pm_H) (Q : Option Value → pm_H → Prop) : Prop :=
  ∀ M : pm_M, pm_tab[k]? = some M → k < 256 → Met E.1 M.1 (pm_ws M) (pm_rm d mc) (pm_pre E av h) (pm_post E (h.length + mc) Q) mc (20000 * mc) (pe_A E)
theorem pm_Ok.mono {E : pm_E} {d k mc idx : Nat} {L st : List Value} {h : pm_H} {Q Q' : Option Value → pm_H → Prop} (hok : pm_Ok E d k mc idx L st h Q) (hQ : ∀ r h', Q r h' → Q' r h') : pm_Ok E d k mc idx L st h Q' :=
  fun M i h1 h2 h3 p e R s m args below meth c F QQ H locs cells slots ls a1 a2 a3 a4 a5 a6 kk => hok M i h1 h2 h3 p e R s m args below meth c F QQ H locs cells slots ls a1 a2 a3 a4 a5 a6 (fun r h' H' locs' cells' slots' pc' ls' q => kk r h' H' locs' cells' slots' pc' ls' (hQ r h' q))
section ST
variable {E : pm_E} {M : pm_M} {d : Nat} {p : Program} {l : Launch} {e : Env} {R : Room} {s : State} {m : MethodId} {args : Array Value} {below : List Frame} {meth : Method} {c : Code} {H : Heap} {locs : List Loc} {cells slots : Nat} {QQ : State → Prop}
variable {pc : Nat} {ls : Array Slot} {st : List Value} {h : pm_H}
theorem pm_Wsz {g : JFrame} (k : H.size ≤ s.heap.size + cells → W p l e R s m args below meth c H locs cells slots QQ g) : W p l e R s m args below meth c H locs cells slots QQ g := by
  intro T hT X
  exact k (by rw [← hT]; exact X.heapSize) T hT X
theorem pe_lo (hP : va_P (pe_D E) pm_cls (pe_w E h) H) (hb : E.2.1 ≤ H.size) : E.2.1 + h.length ≤ H.size := by
  rcases Nat.eq_zero_or_pos h.length with z | z
  · omega
  · have hx : ∃ c, h[h.length - 1]? = some c := ⟨_, List.getElem?_eq_getElem (by omega)⟩
    obtain ⟨c, hc⟩ := hx
    have h1 := (hP _ _ (pe_w_get hc)).lt
    have h2 : E.2.1 + (h.length - 1) < H.size := h1
    omega
theorem pm_dfl_map (x : Nat) : (pm_dfl x).map (pe_v E) = pm_dfl x := by
  unfold pm_dfl
  split
  · rw [List.map_map]
    apply List.map_congr_left
    intro j _
    dsimp only [Function.comp]
    split <;> rfl
  · rfl
theorem pm_dfl_len {x : Nat} {q : vw_C} (h : pm_cls[x]? = some q) : (pm_dfl x).length = q.2.2 := by
  unfold pm_dfl
  rw [pm_nth_eq, h]
  simp
theorem pm_new_at {ws : va_W} {q : Nat} {ee : va_E} {H1 : Heap} (hws : ws = pe_w E h) (hP1 : va_P (pe_D E) pm_cls (ws ++ [(q, ee)]) H1) (hD1 : va_D (pe_A E) (ws ++ [(q, ee)])) (hz : H1.size ≤ E.2.1 + h.length + 1) : q = E.2.1 + h.length := by
  subst hws
  have hlen : (pe_w E h).length = h.length := pe_w_len
  have hlast : (pe_w E h ++ [(q, ee)])[h.length]? = some (q, ee) := by rw [← hlen]; simp
  have h1 : q < H1.size := (hP1 _ _ hlast).lt
  have h2 : E.2.1 ≤ q := hD1.2 _ _ hlast
  rcases Nat.lt_or_ge (q - E.2.1) h.length with h3 | h3
  · have hx : ∃ c, h[q - E.2.1]? = some c := ⟨_, List.getElem?_eq_getElem h3⟩
    obtain ⟨c, hc⟩ := hx
    have h4 : (pe_w E h ++ [(q, ee)])[q - E.2.1]? = some (E.2.1 + (q - E.2.1), pe_c E c) := by
      rw [List.getElem?_append_left (by rw [hlen]; exact h3)]
      exact pe_w_get hc
    have h5 := hD1.1 _ _ _ _ h4 hlast (by show E.2.1 + (q - E.2.1) = q; omega)
    omega
  · omega
theorem pm_gnew_ok (F : pm_Fx E M d p R s m args meth c) (hown : M.1.cls = pm_cn.getD M.2.2.2.2.1 "") (hP : va_P (pe_D E) pm_cls (pe_w E h) H) (hS : va_S (pe_A E) s.heap H locs) (hcs : s.heap.size + cells = E.2.1 + h.length) {x k : Nat} (hd : decode M.2.1 pc = .ok (.new k, 3)) (hc : (M.2.2.2.2.1, k, x) ∈ pm_NW) (hx13 : x < 13) (hc1 : cells + 1 ≤ R.cells) (hs1 : slots + 20000 ≤ R.slots)
    (kk : ∀ (H1 : Heap), va_P (pe_D E) pm_cls (pe_w E (h ++ [.inr (x, pm_dfl x)])) H1 → va_S (pe_A E) s.heap H1 locs → W p E.1 e R s m args below meth c H1 locs (cells + 1) (slots + 20000) QQ (F0 m (pc + 3) ls (.ref (E.2.1 + h.length) :: st.map (pe_v E)))) : W p E.1 e R s m args below meth c H locs cells slots QQ (F0 m pc ls (st.map (pe_v E))) := by
  obtain ⟨hx, hb, hml, ho, hts, hlk, hr, hnm, hf1, hf2, henv⟩ := F
  have hq : ∃ q, pm_cls[x]? = some q := ⟨_, List.getElem?_eq_getElem (show x < pm_cls.length from hx13)⟩
  obtain ⟨q, hq⟩ := hq
  obtain ⟨hin, ⟨ty0, hty0, hdf⟩, hn5⟩ := pm_cls_ok hq
  have hN := pm_dfl_len hq
  have hN2 : q.2.2 ≤ 20000 := by
    have h0 : ∀ j, j < 13 → (pm_cls.getD j ("", pT_0, 0)).2.2 ≤ 20000 := by decide
    have h1 := h0 x hx13
    rw [List.getD_eq_getElem?_getD, hq] at h1
    exact h1
  have hgd : pm_cls.getD x ("", pT_0, 0) = q := by rw [List.getD_eq_getElem?_getD, hq]; rfl
  have hw1 := hts _ (pm_NW_ok _ hc)
  have hw2 := hts _ (pm_IC_ok x (by
    have : ∀ j, j < 13 → j ∈ pm_IC := by decide
    exact this x hx13))
  have hnm2 : q.1 = pm_cn.getD x "" := by
    have h0 : ∀ j, j < 13 → (pm_cls.getD j ("", pT_0, 0)).1 = pm_cn.getD j "" := by decide
    rw [← h0 x hx13, hgd]
  have hw3 := hts _ (pm_IN_ok x (by
    have : ∀ j, j < 13 → j ∈ pm_IN := by decide
    exact this x hx13))
  simp only [pm_NW_w, pm_IC_w, pm_IN_w, hgd] at hw1 hw2 hw3
  obtain ⟨C, T, N⟩ := q
  refine va_new (ci := x) (fs := pm_dfl x) (C := C) (T := T) (N := N) hx hb hts hin ty0 hty0 ho (by rw [hown]; exact hw1) hw2 (by have e5 : C = _ := hnm2; rw [e5]; exact hw3) henv.1 hP pe_w_D hS (fun q h5 => Nat.le_trans henv.2.2.2.2.2.2.2.2.2.2.2 h5) hq hdf hc1 (by have : N ≤ 20000 := hN2; omega) hd (fun q H1 hP1 hD1 hS1 => ?_)
  refine pm_Wsz (fun hz => ?_)
  have e1 := pm_new_at rfl hP1 hD1 (by omega)
  subst e1
  refine W.widen (Nat.le_refl _) (show slots + N ≤ slots + 20000 by have : N ≤ 20000 := hN2; omega) ?_
  refine kk H1 ?_ hS1
  rw [pe_w_push]
  show va_P _ _ (_ ++ [(_, .inr (x, (pm_dfl x).map (pe_v E)))]) _
  rw [pm_dfl_map]
  exact hP1
theorem pm_arr_K (henv : pm_env E s s.heap) {cA : ClassId} {ty : FieldType} {kd : Nat} (hk : (kd = 0 ∧ ty = .int) ∨ (kd = 1 ∧ ty = .boolean) ∨ (kd = 2 ∧ ty = .long)) (h1 : va_K (pe_D E) pm_cls (pe_ty E ++ [(cA, ty)]) s) : cA = pe_K E kd := by
  have h2 := (h1.2 3 (cA, ty) rfl).2
  have h0 := henv.1.2
  rcases hk with ⟨rfl, rfl⟩ | ⟨rfl, rfl⟩ | ⟨rfl, rfl⟩
  · have h3 := (h0 0 _ rfl).2
    exact Option.some.inj (h2.symm.trans h3)
  · have h3 := (h0 1 _ rfl).2
    exact Option.some.inj (h2.symm.trans h3)
  · have h3 := (h0 2 _ rfl).2
    exact Option.some.inj (h2.symm.trans h3)
theorem pm_gnwa_ok (F : pm_Fx E M d p R s m args meth c) (hP : va_P (pe_D E) pm_cls (pe_w E h) H) (hS : va_S (pe_A E) s.heap H locs) (hcs : s.heap.size + cells = E.2.1 + h.length) {t : ArrayType} {kd : Nat} {ty : FieldType} {n : Int32} {a0 : vp_A} (hd : decode M.2.1 pc = .ok (.newarray t, 2)) (hk : (kd = 0 ∧ ty = .int ∧ t = .int ∧ a0 = (n.toNatClampNeg, .inl (fun _ => 0))) ∨ (kd = 1 ∧ ty = .boolean ∧ t = .boolean ∧ a0 = (n.toNatClampNeg, .inl (fun _ => 0))) ∨ (kd = 2 ∧ ty = .long ∧ t = .long ∧ a0 = (n.toNatClampNeg, .inr (.inl (fun _ => 0))))) (hn : ¬ n < 0 ∧ n.toNatClampNeg ≤ 20000) (hc1 : cells + 1 ≤ R.cells) (hs1 : slots + 20000 ≤ R.slots)
    (kk : ∀ (H1 : Heap), va_P (pe_D E) pm_cls (pe_w E (h ++ [.inl (kd, a0)])) H1 → va_S (pe_A E) s.heap H1 locs → W p E.1 e R s m args below meth c H1 locs (cells + 1) (slots + 20000) QQ (F0 m (pc + 2) ls (.ref (E.2.1 + h.length) :: st.map (pe_v E)))) : W p E.1 e R s m args below meth c H locs cells slots QQ (F0 m pc ls (.int n :: st.map (pe_v E))) := by
  obtain ⟨hx, hb, hml, ho, hts, hlk, hr, hnm, hf1, hf2, henv⟩ := F
  have hbase := henv.2.2.2.2.2.2.2.2.2.2.2
  have key : ∀ (hty : newarray.typeOf t = ty) (harr : (Cond.arrayClass (newarray.typeOf t)).before args s = true) (ha : ∀ cA : ClassId, vp_cell cA a0 = arrV cA n.toNatClampNeg (fun _ => defaultValue ty)) (hby : n.toNatClampNeg * componentBytes ty ≤ 536870912) (hk2 : (kd = 0 ∧ ty = .int) ∨ (kd = 1 ∧ ty = .boolean) ∨ (kd = 2 ∧ ty = .long)), W p E.1 e R s m args below meth c H locs cells slots QQ (F0 m pc ls (.int n :: st.map (pe_v E))) := by
    intro hty harr ha hby hk2
    refine va_newa hx hb harr hty henv.1 hP pe_w_D hS (fun q h5 => Nat.le_trans hbase h5) ha hn.1 rfl hby hc1 (by omega) hd (fun q cA H1 hK1 hP1 hD1 hS1 => ?_)
    refine pm_Wsz (fun hz => ?_)
    have e1 := pm_new_at rfl hP1 hD1 (by omega)
    subst e1
    have e2 := pm_arr_K henv hk2 hK1
    subst e2
    refine W.widen (Nat.le_refl _) (show slots + n.toNatClampNeg ≤ slots + 20000 by omega) ?_
    refine kk H1 ?_ hS1
    rw [pe_w_push]
    exact hP1
  rcases hk with ⟨rfl, rfl, rfl, rfl⟩ | ⟨rfl, rfl, rfl, rfl⟩ | ⟨rfl, rfl, rfl, rfl⟩
  · exact key rfl (hts _ pm_w_a_int) (fun cA => by rw [vp_cell_i]; rfl) (by rw [show componentBytes .int = 4 from rfl]; omega) (Or.inl ⟨rfl, rfl⟩)
  · exact key rfl (hts _ pm_w_a_boolean) (fun cA => by rw [vp_cell_i]; rfl) (by rw [show componentBytes .boolean = 1 from rfl]; omega) (Or.inr (Or.inl ⟨rfl, rfl⟩))
  · exact key rfl (hts _ pm_w_a_long) (fun cA => by rw [vp_cell_l]; rfl) (by rw [show componentBytes .long = 8 from rfl]; omega) (Or.inr (Or.inr ⟨rfl, rfl⟩))
end ST
end
section
/-! SOUNDNESS, 5: calls -/
theorem pm_env.same {E : pm_E} {u U : State} {H : Heap} (hv : U.vm = u.vm) (h : pm_env E u H) : pm_env E U H := by
  have hA : u.vm.Alike U.vm := by rw [hv]; exact Vm.Alike.refl _
  obtain ⟨h1, h2, h3, h4, h5, h6, h7, h8, h9, h10, h11, h12⟩ := h
  exact ⟨va_K.moved hA h1, vk_S.moved hA h2, va_Z.moved hA h3, va_Z.moved hA h4, h5.same hv, h6.same hv, fun q hm => va_Nw.same rfl hv.symm (h7 q hm), va_X.moved hA h8, h9, h10, h11, h12⟩
theorem pm_tab_split : pm_tab = pm_tabM ++ pm_tab_16 := by simp only [pm_tab, pm_tabM, List.append_assoc]
theorem pm_tabM_len : pm_tabM.length = 256 := by decide +kernel
theorem pm_inM {k : Nat} {M : pm_M} (h : pm_tab[k]? = some M) (hk : k < 256) : M ∈ pm_tabM := by
  rw [pm_tab_split, List.getElem?_append_left (by rw [pm_tabM_len]; exact hk)] at h
  exact List.mem_of_getElem? h
theorem pm_good_ws {k : Nat} {M : pm_M} (h : pm_tab[k]? = some M) (hk : k < 256) : GoodIn pm_big (pm_ws M) := by
  intro w hw
  have hb : w ∈ pm_big := by
    rcases List.mem_cons.mp hw with rfl | hw
    · exact pm_cd_ok M (pm_inM h hk)
    · exact hw
  exact ⟨hb, good_of_word (List.mem_filter.mp hb).2⟩
theorem pm_head {k : Nat} {M : pm_M} (h : pm_tab[k]? = some M) : M.1.cls = pm_cn.getD M.2.2.2.2.1 "" ∧ M.2.2.2.2.1 < 19 ∧ plainName M.1.cls = true := by
  have h1 := pm_ck M (List.mem_of_getElem? h)
  unfold pm_chk at h1
  simp only [Bool.and_eq_true, decide_eq_true_eq] at h1
  exact ⟨h1.1.1.2, h1.1.2, h1.2⟩
theorem pm_row {k idx : Nat} {M : pm_M} {i : pm_I} (h : pm_tab[k]? = some M) (hi : pm_nth M.2.2.2.2.2 idx = some i) : pm_chk1 M idx i = true := by
  have h1 := pm_ck M (List.mem_of_getElem? h)
  unfold pm_chk at h1
  simp only [Bool.and_eq_true] at h1
  rw [pm_nth_eq] at hi
  exact List.all_eq_true.mp h1.1.1.1 (i, idx) (List.mem_zipIdx_iff_getElem?.mpr hi)
theorem pm_first : ∀ M ∈ pm_tab, ∃ i, pm_nth M.2.2.2.2.2 0 = some i ∧ i.1 = 0 := by
  have h : pm_tab.all (fun M => match pm_nth M.2.2.2.2.2 0 with | some i => decide (i.1 = 0) | none => false) = true := by decide +kernel
  intro M hM
  have h1 := List.all_eq_true.mp h M hM
  cases h2 : pm_nth M.2.2.2.2.2 0 with
  | none => rw [h2] at h1; cases h1
  | some i => rw [h2] at h1; exact ⟨i, rfl, of_decide_eq_true h1⟩
theorem pm_blind (E : pm_E) (av : List Value) (h : pm_H) : FrameBlind (pm_pre E av h) := by
  intro a U g mk q
  obtain ⟨q0, q1, q2, q3⟩ := q
  exact ⟨q0, q1, q2, pm_env.same (u := U) rfl q3⟩
theorem pm_pop_spec : ∀ {n : Nat} {acc st As rest : List Value}, pm_pop n acc st = some (As, rest) → ∃ A, As = A ++ acc ∧ st = A.reverse ++ rest ∧ A.length = n
  | 0, acc, st, As, rest, h => by
    cases h
    exact ⟨[], rfl, rfl, rfl⟩
  | n + 1, acc, [], As, rest, h => by cases h
  | n + 1, acc, v :: st, As, rest, h => by
    obtain ⟨A, h1, h2, h3⟩ := pm_pop_spec (n := n) (acc := v :: acc) (st := st) h
    refine ⟨A ++ [v], by rw [h1]; simp, ?_, by simp [h3]⟩
    rw [h2]
    simp
section CA
variable {E : pm_E} {M M' : pm_M} {d d' : Nat} {p : Program} {e : Env} {R : Room} {s : State} {m : MethodId} {args : Array Value} {below : List Frame} {meth : Method} {c : Code} {H : Heap} {locs : List Loc} {cells slots : Nat} {QQ : State → Prop}
variable {pc x y mc : Nat} {ls : Array Slot} {h : pm_H} {Q : Option Value → pm_H → Prop}
theorem pm_run_go {n : Nat} {a : Array Value} {st0 rest : List Value} (hr : va_Run p E.1 e R s m args below meth c H locs cells slots mc (20000 * mc) (F0 m pc ls st0) rest (pm_post E n Q a) (pe_A E)) (hS : va_S (pe_A E) s.heap H locs)
    (kk : ∀ (r : Option Value) (h' : pm_H) (H1 : Heap) (locs1 : List Loc), Q r h' → h'.length = n → va_P (pe_D E) pm_cls (pe_w E h') H1 → va_S (pe_A E) s.heap H1 locs1 → W p E.1 e R s m args below meth c H1 locs1 (cells + mc) (slots + 20000 * mc) QQ (F0 m (pc + 3) ls ((r.map (pe_v E)).toList ++ rest))) : W p E.1 e R s m args below meth c H locs cells slots QQ (F0 m pc ls st0) := by
  intro T hT X
  obtain ⟨v, st₀, t, T', L, h0, X', hL, e1, e2, ⟨r, h', hv, hq, hlen, hP1, hz, hk⟩, stp⟩ := hr T hT X
  cases hv
  rw [h0] at hz hk
  obtain ⟨t2, a1, b1⟩ := kk r h' T'.heap (locs ++ L) hq hlen (by rw [e1]; exact hP1)
    ⟨Nat.le_trans hS.1 (by rw [e1]; exact hz), fun q h1 h2 => by rw [e1, hk q (Nat.lt_of_lt_of_le h1 hS.1) h2]; exact hS.2.1 q h1 h2, fun q hq => by
      rcases List.mem_append.mp hq with h | h
      · exact hS.2.2 q h
      · exact hL q h⟩ T' rfl X'
  exact ⟨t2, stp t2 a1, b1⟩
theorem pm_in19 {j : Nat} (h : j < 19) : j ∈ pm_IN := by
  have : ∀ j, j < 19 → j ∈ pm_IN := by decide
  exact this j h
/-- what the check says of a call, and of its callee -/
def pm_cok (M' : pm_M) (x y : Nat) : Prop := pm_tab[x]? = some M' ∧ x < 256 ∧ M'.1.cls ≠ "java/lang/invoke/MethodHandle" ∧ M'.1.cls ≠ "java/lang/invoke/VarHandle" ∧ (parseMethodDescriptor M'.1.desc).map (fun d => d.parameters.length) = some y ∧ M'.2.2.1 ≤ 40
theorem pm_yk_eq (h : pm_tab[x]? = some M') : pm_yk x = M'.1 := by unfold pm_yk; rw [h]
theorem pm_cb (F : pm_Fx E M d p R s m args meth c) (hown : M.1.cls = pm_cn.getD M.2.2.2.2.1 "") (hdd : d' + 1 ≤ d) (hco : pm_cok M' x y) {k : Nat} (hl : (M.2.2.2.2.1, k, x) ∈ pm_ML) : CallB R s args M.1.cls k M'.1 M'.2.1 M'.2.2.1 M'.2.2.2.1 (pm_ws M') (pm_rm d' mc) mc (20000 * mc) y := by
  obtain ⟨hx, hb, hml, ho, hts, hlk, hr, hnm, hf1, hf2, henv⟩ := F
  obtain ⟨h1, h2, h3, h4, h5, h6⟩ := hco
  obtain ⟨g1, g2, g3⟩ := pm_head h1
  have hw := hts _ (pm_ML_ok _ hl)
  simp only [pm_ML_w, pm_yk_eq h1] at hw
  have hi := hts _ (pm_IN_ok _ (pm_in19 g2))
  simp only [pm_IN_w] at hi
  exact callB_of y hts (pm_good_ws h1 h2) rfl rfl rfl (by rw [g1]; exact hi) (by rw [hown]; exact hw) ⟨h3, h4, h5⟩ ⟨by show d' + 1 ≤ _; omega, by show 8 + (M'.2.2.1 + 11) + 64 * d' ≤ _; omega⟩
theorem pm_cn_ok (F : pm_Fx E M d p R s m args meth c) (hown : M.1.cls = pm_cn.getD M.2.2.2.2.1 "") (hdd : d' + 1 ≤ d) (hco : pm_cok M' x y) {k : Nat} (hl : (M.2.2.2.2.1, k, x) ∈ pm_MN) : va_CN R s args M.1.cls k M'.1 "PaidWhereMade" M'.2.1 M'.2.2.1 M'.2.2.2.1 (pm_ws M') (pm_rm d' mc) mc (20000 * mc) y := by
  obtain ⟨hx, hb, hml, ho, hts, hlk, hr, hnm, hf1, hf2, henv⟩ := F
  obtain ⟨h1, h2, h3, h4, h5, h6⟩ := hco
  obtain ⟨g1, g2, g3⟩ := pm_head h1
  have hw := henv.2.2.2.2.2.2.1 _ hl
  simp only [pm_MN_w, pm_yk_eq h1] at hw
  have hi := hts _ (pm_IN_ok _ (pm_in19 g2))
  simp only [pm_IN_w] at hi
  exact va_cnB y hts (pm_good_ws h1 h2) rfl rfl rfl (by rw [hown]; exact hw) (by rw [g1]; exact hi) ⟨h3, h4, h5⟩ ⟨by show d' + 1 ≤ _; omega, by show 8 + (M'.2.2.1 + 11) + 64 * d' ≤ _; omega⟩
/-- the callee's start -/
theorem pm_pre_ok (henv : pm_env E s s.heap) (hS : va_S (pe_A E) s.heap H locs) (hP : va_P (pe_D E) pm_cls (pe_w E h) H) (hsz : H.size = E.2.1 + h.length) (av : List Value) : ∀ U : State, U.heap = H → s.WarmedH U.vm → pm_pre E av h (av.map (pe_v E)).toArray U := by
  intro U hU hW
  refine ⟨rfl, by rw [hU]; exact hsz, by rw [hU]; exact hP, ?_⟩
  rw [hU]
  exact henv.mv hW hS.1 hS.2.1
theorem pm_sum_le (hz : (pe_z E).category = 1) {rest : List Value} (h : Nat.ble (pm_cs rest) 8 = true) {g : JFrame} (hg : g = F0 m pc ls (g.stack)) : 2 * g.monitorRoom + ((rest.map (pe_v E)).map fun v => v.category).sum ≤ 8 := by
  rw [hg]
  exact lv_room (by rw [pe_cs hz]; exact Nat.le_of_ble_eq_true h)
/-- the three calls: virtual, static, special -/
theorem pm_call_ok (F : pm_Fx E M d p R s m args meth c) (hown : M.1.cls = pm_cn.getD M.2.2.2.2.1 "") (hdd : d' + 1 ≤ d) (hco : pm_cok M' x y) (hP : va_P (pe_D E) pm_cls (pe_w E h) H) (hS : va_S (pe_A E) s.heap H locs) (hcs : s.heap.size + cells = E.2.1 + h.length) (hl : ls.size = M.2.2.1)
    (hc1 : cells + mc ≤ R.cells) (hs1 : slots + 20000 * mc ≤ R.slots) {k : Nat} {ins : Instr} {As rest st0 : List Value} {ov : Option Value} (hd : decode M.2.1 pc = .ok (ins, 3)) (hn : As.length = y) (hst : st0 = As.reverse ++ (ov.toList ++ rest)) (h8 : Nat.ble (pm_cs rest) 8 = true)
    (hkind : (ov = none ∧ ins = .invokestatic k ∧ x ∈ pm_KS ∧ ((M.2.2.2.2.1, k, x) ∈ pm_ML ∨ (M.2.2.2.2.1, k, x) ∈ pm_MN)) ∨ (∃ q, ov = some (.ref q) ∧ ins = .invokespecial k ∧ x ∈ pm_KI ∧ M'.1.name = "<init>" ∧ M'.2.2.2.1 = none ∧ ((M.2.2.2.2.1, k, x) ∈ pm_ML ∨ (M.2.2.2.2.1, k, x) ∈ pm_MN)) ∨ (∃ v b, ov = some v ∧ pe_v E v = .ref b ∧ ins = .invokevirtual k ∧ x ∈ pm_KI ∧ x ∈ pm_KE ∧ (M.2.2.2.2.1, k, x) ∈ pm_ML ∧ ∃ cell : Cell, H[b]? = some cell ∧ cell.vm.isStatics = false ∧ s.vm.findClass M'.1.cls = some cell.cls))
    (hC : pm_Call E d' x mc (ov.toList ++ As) h Q)
    (kk : ∀ (r : Option Value) (h' : pm_H) (H1 : Heap) (locs1 : List Loc), Q r h' → h'.length = h.length + mc → va_P (pe_D E) pm_cls (pe_w E h') H1 → va_S (pe_A E) s.heap H1 locs1 → W p E.1 e R s m args below meth c H1 locs1 (cells + mc) (slots + 20000 * mc) QQ (F0 m (pc + 3) ls ((pm_rv r rest).map (pe_v E)))) : W p E.1 e R s m args below meth c H locs cells slots QQ (F0 m pc ls (st0.map (pe_v E))) := by
  have F0' := F
  obtain ⟨hx, hb, hml, ho, hts, hlk, hr, hnm, hf1, hf2, henv⟩ := F
  have hz := henv.zc
  refine pm_Wsz (fun hsz0 => ?_)
  have hsz : H.size = E.2.1 + h.length := by
    have h1 := pe_lo hP (Nat.le_trans henv.2.2.2.2.2.2.2.2.2.2.2 hS.1)
    omega
  have hM := hC M' hco.1 hco.2.1
  have kk2 : ∀ (r : Option Value) (h' : pm_H) (H1 : Heap) (locs1 : List Loc), Q r h' → h'.length = h.length + mc → va_P (pe_D E) pm_cls (pe_w E h') H1 → va_S (pe_A E) s.heap H1 locs1 → W p E.1 e R s m args below meth c H1 locs1 (cells + mc) (slots + 20000 * mc) QQ (F0 m (pc + 3) ls ((r.map (pe_v E)).toList ++ rest.map (pe_v E))) := by
    intro r h' H1 locs1 a1 a2 a3 a4
    have h5 := kk r h' H1 locs1 a1 a2 a3 a4
    have e5 : (pm_rv r rest).map (pe_v E) = (r.map (pe_v E)).toList ++ rest.map (pe_v E) := by
      unfold pm_rv
      cases r <;> simp
    rw [e5] at h5
    exact h5
  have hyk := pm_yk_eq hco.1
  have hCF : CallFix p m c M.2.1 M.2.2.1 s args pm_big M.1.cls := ⟨hx, hb, hml, ho, hts⟩
  rcases hkind with ⟨rfl, rfl, hK, hlk2⟩ | ⟨q, rfl, rfl, hK, hi1, hi2, hlk2⟩ | ⟨v, b, rfl, hvb, rfl, hK1, hK2, hlk2, hrc⟩
  · have hst2 : (F0 m pc ls (st0.map (pe_v E))).stack = (As.map (pe_v E)).reverse ++ rest.map (pe_v E) := by
      show st0.map (pe_v E) = _
      rw [hst]; simp
    have hw := hts _ (pm_KS_ok _ hK)
    simp only [pm_KS_w, hyk] at hw
    rcases hlk2 with hlk2 | hlk2
    · exact pm_run_go (va_runS (As := As.map (pe_v E)) (rest := rest.map (pe_v E)) hCF hM ⟨pm_cb F0' hown hdd hco hlk2, hw⟩ ⟨pm_blind _ _ _, pm_pre_ok henv hS hP hsz As⟩ rfl (by rw [List.length_map]; exact hn) hl hst2 (lv_room (by rw [pe_cs hz]; exact Nat.le_of_ble_eq_true h8)) hd ⟨hc1, hs1⟩) hS kk2
    · exact pm_run_go (va_runSN (As := As.map (pe_v E)) (rest := rest.map (pe_v E)) hCF hM ⟨pm_cn_ok F0' hown hdd hco hlk2, hw, trivial⟩ ⟨pm_blind _ _ _, pm_pre_ok henv hS hP hsz As⟩ rfl (by rw [List.length_map]; exact hn) hl hst2 (lv_room (by rw [pe_cs hz]; exact Nat.le_of_ble_eq_true h8)) hd ⟨hc1, hs1⟩) hS kk2
  · have hst2 : (F0 m pc ls (st0.map (pe_v E))).stack = (As.map (pe_v E)).reverse ++ .ref (E.2.1 + q) :: rest.map (pe_v E) := by
      show st0.map (pe_v E) = _
      rw [hst]; simp [pe_v]
    have hw := hts _ (pm_KI_ok _ hK)
    simp only [pm_KI_w, hyk] at hw
    rcases hlk2 with hlk2 | hlk2
    · have hcb := pm_cb (mc := mc) F0' hown hdd hco hlk2
      rw [hi2] at hcb
      exact pm_run_go (va_runI (As := As.map (pe_v E)) (b := E.2.1 + q) (rest := rest.map (pe_v E)) hCF hM ⟨hcb, hi1, hw⟩ ⟨pm_blind _ _ _, pm_pre_ok henv hS hP hsz (.ref q :: As)⟩ rfl (by rw [List.length_map]; exact hn) hl hst2 (lv_room (by rw [pe_cs hz]; exact Nat.le_of_ble_eq_true h8)) hd ⟨hc1, hs1⟩) hS kk2
    · have hcb := pm_cn_ok (mc := mc) F0' hown hdd hco hlk2
      rw [hi2] at hcb
      exact pm_run_go (va_runIN (As := As.map (pe_v E)) (b := E.2.1 + q) (rest := rest.map (pe_v E)) hCF hM ⟨hcb, hi1, hw⟩ ⟨pm_blind _ _ _, pm_pre_ok henv hS hP hsz (.ref q :: As)⟩ rfl (by rw [List.length_map]; exact hn) hl hst2 (lv_room (by rw [pe_cs hz]; exact Nat.le_of_ble_eq_true h8)) hd ⟨hc1, hs1⟩) hS kk2
  · have hst2 : (F0 m pc ls (st0.map (pe_v E))).stack = (As.map (pe_v E)).reverse ++ .ref b :: rest.map (pe_v E) := by
      show st0.map (pe_v E) = _
      rw [hst]; simp [hvb]
    have hw := hts _ (pm_KI_ok _ hK1)
    simp only [pm_KI_w, hyk] at hw
    have hw2 := hts _ (pm_KE_ok _ hK2)
    simp only [pm_KE_w, hyk] at hw2
    have hpre : ∀ U : State, U.heap = H → s.WarmedH U.vm → pm_pre E (v :: As) h (Value.ref b :: As.map (pe_v E)).toArray U := by
      intro U hU hW
      have h5 := pm_pre_ok henv hS hP hsz (v :: As) U hU hW
      rw [pe_rest, hvb] at h5
      exact h5
    exact pm_run_go (va_runV (As := As.map (pe_v E)) (b := b) (C := M'.1.cls) (rest := rest.map (pe_v E)) hCF hM ⟨pm_cb F0' hown hdd hco hlk2, hw, hw2⟩ ⟨pm_blind _ _ _, hrc, hpre⟩ rfl (by rw [List.length_map]; exact hn) hl hst2 (lv_room (by rw [pe_cs hz]; exact Nat.le_of_ble_eq_true h8)) hd ⟨hc1, hs1⟩) hS kk2
end CA
end
section
/-! SOUNDNESS, 6: one instruction, a whole method -/
theorem pm_dc_ok {b : ByteArray} {pc len : Nat} {ins : Instr} (h : pm_dc b pc ins len = true) : decode b pc = .ok (ins, len) := by
  unfold pm_dc at h
  split at h
  · rename_i q hq
    simp only [Bool.and_eq_true, decide_eq_true_eq] at h
    rw [hq, ← h.1, ← h.2]
  · cases h
theorem pm_tg_ok {C : List pm_I} {t : Nat} {v : Int} (h : pm_tg C t v = true) : ∃ i, pm_nth C t = some i ∧ (i.1 : Int) = v := by
  unfold pm_tg at h
  split at h
  · rename_i i hi
    exact ⟨i, hi, of_decide_eq_true h⟩
  · cases h
theorem pm_chkc_ok {x y : Nat} {b : pm_M → Bool} (h : pm_chkc x y b = true) : ∃ M', pm_cok M' x y ∧ b M' = true := by
  unfold pm_chkc at h
  split at h
  · rename_i M' hM'
    simp only [Bool.and_eq_true, decide_eq_true_eq] at h
    rw [pm_nth_eq] at hM'
    obtain ⟨⟨⟨⟨⟨h1, h2⟩, h3⟩, h4⟩, h5⟩, h6⟩ := h
    exact ⟨M', ⟨hM', by have h7 := Nat.le_of_ble_eq_true (show Nat.ble (x + 1) 256 = true from h5); omega, h1, h2, h3, h4⟩, h6⟩
  · cases h
theorem pm_chkp_ok {x y own : Nat} {zs : List Nat} {nm : String} (h : pm_chkp x y zs own nm = true) : ∃ q ty, pm_cls[x]? = some q ∧ y < q.2.2 ∧ parseFieldDescriptor (q.2.1 y).2.2.1 = some ty ∧ ((ty = .int ∧ zs = [0] ∧ (q.2.1 y).2.2.2 = false) ∨ (ty = .boolean ∧ zs = [1] ∧ (q.2.1 y).2.2.2 = false) ∨ (((∃ n, ty = .object n) ∨ (∃ t, ty = .array t)) ∧ zs = [2] ∧ (q.2.1 y).2.2.2 = true ∧ nm = "<init>" ∧ (q.2.1 y).1 = pm_cn.getD own "")) := by
  unfold pm_chkp at h
  split at h
  · rename_i q hq
    rw [pm_nth_eq] at hq
    simp only [Bool.and_eq_true, decide_eq_true_eq] at h
    obtain ⟨h1, h2⟩ := h
    split at h2
    · rename_i ht
      simp only [Bool.and_eq_true, decide_eq_true_eq, Bool.not_eq_true'] at h2
      exact ⟨q, _, hq, h1, ht, Or.inl ⟨rfl, h2.1, h2.2⟩⟩
    · rename_i ht
      simp only [Bool.and_eq_true, decide_eq_true_eq, Bool.not_eq_true'] at h2
      exact ⟨q, _, hq, h1, ht, Or.inr (Or.inl ⟨rfl, h2.1, h2.2⟩)⟩
    · rename_i n ht
      simp only [Bool.and_eq_true, decide_eq_true_eq] at h2
      exact ⟨q, _, hq, h1, ht, Or.inr (Or.inr ⟨Or.inl ⟨n, rfl⟩, h2.1.1.1, h2.1.1.2, h2.1.2, h2.2⟩)⟩
    · rename_i n ht
      simp only [Bool.and_eq_true, decide_eq_true_eq] at h2
      exact ⟨q, _, hq, h1, ht, Or.inr (Or.inr ⟨Or.inr ⟨n, rfl⟩, h2.1.1.1, h2.1.1.2, h2.1.2, h2.2⟩)⟩
    · cases h2
  · cases h
section GOK
variable {E : pm_E} {M : pm_M} {d : Nat} {p : Program} {e : Env} {R : Room} {s : State} {m : MethodId} {args : Array Value} {below : List Frame} {meth : Method} {c : Code} {H : Heap} {locs : List Loc} {cells slots : Nat} {QQ : State → Prop}
variable {pc : Nat} {ls : Array Slot} {st : List Value}
theorem pm_icmp_ok (F : pm_Fx E M d p R s m args meth c) {cc : Jvm.ClassFile.Cond} {off : Int} {tgt : Nat} {a b : Int32} (hd : decode M.2.1 pc = .ok (.if_icmp cc off, 3)) (ht : (pc : Int) + off = (tgt : Int)) {rest : List Value}
    (k1 : pm_cc cc a b → W p E.1 e R s m args below meth c H locs cells slots QQ (F0 m tgt ls rest)) (k2 : ¬ pm_cc cc a b → W p E.1 e R s m args below meth c H locs cells slots QQ (F0 m (pc + 3) ls rest)) : W p E.1 e R s m args below meth c H locs cells slots QQ (F0 m pc ls (.int b :: .int a :: rest)) := by
  obtain ⟨hx, hb, -⟩ := F
  cases cc
  · exact lv_icmp_eq hx hb hd ht k1 k2
  · exact lv_icmp_ne hx hb hd ht k1 (fun z => k2 (fun q => q z))
  · exact lv_icmp_lt hx hb hd ht k1 k2
  · exact lv_icmp_ge hx hb hd ht k1 k2
  · exact lv_icmp_gt hx hb hd ht k1 k2
  · exact lv_icmp_le hx hb hd ht k1 k2
theorem pm_if_ok (F : pm_Fx E M d p R s m args meth c) {cc : Jvm.ClassFile.Cond} {off : Int} {tgt : Nat} {a : Int32} (hd : decode M.2.1 pc = .ok (.ifCond cc off, 3)) (ht : (pc : Int) + off = (tgt : Int)) {rest : List Value}
    (k1 : pm_cc cc a 0 → W p E.1 e R s m args below meth c H locs cells slots QQ (F0 m tgt ls rest)) (k2 : ¬ pm_cc cc a 0 → W p E.1 e R s m args below meth c H locs cells slots QQ (F0 m (pc + 3) ls rest)) : W p E.1 e R s m args below meth c H locs cells slots QQ (F0 m pc ls (.int a :: rest)) := by
  obtain ⟨hx, hb, -⟩ := F
  cases cc
  · exact lv_if_eq hx hb hd ht k1 k2
  · exact lv_if_ne hx hb hd ht k1 (fun z => k2 (fun q => q z))
  · exact lv_if_lt hx hb hd ht k1 k2
  · exact lv_if_ge hx hb hd ht k1 k2
  · exact lv_if_gt hx hb hd ht k1 k2
  · exact lv_if_le hx hb hd ht k1 k2
end GOK
theorem pm_ofInt {k : Int} (h1 : -1000 ≤ k) (h2 : k ≤ 1000) {a : Int32} : a = Int32.ofInt k ↔ a.toInt = k := by
  have e : (Int32.ofInt k).toInt = k := by
    rw [Int32.toInt_ofInt]
    exact Int.bmod_eq_of_le (by have : Int32.size = 4294967296 := rfl; omega) (by have : Int32.size = 4294967296 := rfl; omega)
  constructor
  · intro h; rw [h, e]
  · intro h; exact Int32.toInt_inj.mp (by rw [e, h])
/-- a table of keys: which target is taken -/
theorem pm_sw_spec {nx : Nat → Prop} {a : Int32} {dflt : Nat} : ∀ {ks : List Int} {ts : List Nat}, pm_sw pm_br a nx dflt ks ts → ((∃ (j : Nat) (k : Int) (t : Nat), ks[j]? = some k ∧ ts[j]? = some t ∧ a = Int32.ofInt k ∧ nx t) ∨ ((∀ (j : Nat) (k : Int) (t : Nat), ks[j]? = some k → ts[j]? = some t → a ≠ Int32.ofInt k) ∧ nx dflt))
  | [], ts, h => by
    cases ts <;> exact Or.inr ⟨fun j k t q => by simp at q, h⟩
  | k :: ks, [], h => Or.inr ⟨fun j k t _ q => by simp at q, h⟩
  | k :: ks, t :: ts, h => by
    rcases Classical.em (a = Int32.ofInt k) with z | z
    · exact Or.inl ⟨0, k, t, rfl, rfl, z, h.1 z⟩
    · rcases pm_sw_spec (h.2 z) with ⟨j, k', t', q1, q2, q3, q4⟩ | ⟨q1, q2⟩
      · exact Or.inl ⟨j + 1, k', t', q1, q2, q3, q4⟩
      · refine Or.inr ⟨fun j k' t' r1 r2 => ?_, q2⟩
        cases j with
        | zero => cases r1; exact z
        | succ j => exact q1 j k' t' r1 r2
theorem pm_lk {nx : Nat → Prop} {a : Int32} {x pc : Nat} {dd : Int} {C : List pm_I} (hx : pm_tg C x (pc + dd) = true) : ∀ {ps : List (Int × Int)} {zs : List Nat}, (zs.zip ps).all (fun q => pm_tg C q.1 (pc + q.2.2) && decide (-1000 ≤ q.2.1 ∧ q.2.1 ≤ 1000)) = true → zs.length = ps.length → pm_sw pm_br a nx x (ps.map Prod.fst) zs → ∃ off t, Op.lookupswitch.offset ps dd a.toInt = off ∧ pm_tg C t (pc + off) = true ∧ nx t
  | [], zs, _, _, h => ⟨dd, x, rfl, hx, by cases zs <;> exact h⟩
  | (k, o) :: ps, [], _, hl, _ => by cases hl
  | (k, o) :: ps, z :: zs, hz, hl, h => by
    simp only [List.zip_cons_cons, List.all_cons, Bool.and_eq_true, decide_eq_true_eq] at hz
    obtain ⟨⟨h1, h2⟩, h3⟩ := hz
    rcases Classical.em (a = Int32.ofInt k) with q | q
    · refine ⟨o, z, ?_, h1, h.1 q⟩
      rw [Op.lookupswitch.offset_cons, if_pos]
      exact ((pm_ofInt h2.1 h2.2).mp q).symm
    · obtain ⟨off, t, g1, g2, g3⟩ := pm_lk hx (ps := ps) (zs := zs) h3 (by simpa using hl) (h.2 q)
      refine ⟨off, t, ?_, g2, g3⟩
      rw [Op.lookupswitch.offset_cons, if_neg]
      · exact g1
      · exact fun e5 => q ((pm_ofInt h2.1 h2.2).mpr e5.symm)
set_option maxHeartbeats 4000000 in
theorem pm_pchk_of {M : pm_M} {idx pc len x y : Nat} {ins : Instr} {zs : List Nat} {L st L1 st1 : List Value} (hck : pm_chk1 M idx (pc, ins, len, x, y, zs) = true) (hpu : pm_pu ins x y L st = some (L1, st1)) : pm_pchk M ins len x y ∧ pm_tg M.2.2.2.2.2 (idx + 1) ((pc + len : Nat) : Int) = true := by
  unfold pm_pu at hpu
  split at hpu
  · simp only [pm_chk1, Bool.and_eq_true, decide_eq_true_eq] at hck; obtain ⟨-, ⟨h1, rfl⟩, h2⟩ := hck; exact ⟨⟨rfl, h2⟩, h1⟩
  · simp only [pm_chk1, Bool.and_eq_true, decide_eq_true_eq] at hck; obtain ⟨-, ⟨h1, rfl⟩, h2⟩ := hck; exact ⟨⟨rfl, h2⟩, h1⟩
  · simp only [pm_chk1, Bool.and_eq_true, decide_eq_true_eq] at hck; obtain ⟨-, ⟨h1, rfl⟩, h2⟩ := hck; exact ⟨⟨rfl, h2⟩, h1⟩
  · simp only [pm_chk1, Bool.and_eq_true, decide_eq_true_eq] at hck; obtain ⟨-, ⟨h1, rfl⟩, h2⟩ := hck; exact ⟨⟨rfl, h2⟩, h1⟩
  · simp only [pm_chk1, Bool.and_eq_true, decide_eq_true_eq] at hck; obtain ⟨-, ⟨h1, rfl⟩, h2⟩ := hck
    refine ⟨⟨rfl, ?_⟩, h1⟩
    split at h2
    · simp only [Bool.and_eq_true, decide_eq_true_eq] at h2
      refine Or.inl ⟨rfl, h2.1, ?_⟩
      have h3 := h2.2
      split at h3
      · exact Or.inl ⟨rfl, of_decide_eq_true h3⟩
      · exact Or.inr ⟨rfl, of_decide_eq_true h3⟩
      · cases h3
    · rename_i hy
      exact Or.inr ⟨hy, by simpa using h2⟩
  · simp only [pm_chk1, Bool.and_eq_true, decide_eq_true_eq] at hck; obtain ⟨-, ⟨h1, rfl⟩, h2⟩ := hck; exact ⟨⟨rfl, by simpa using h2⟩, h1⟩
  · simp only [pm_chk1, Bool.and_eq_true, decide_eq_true_eq] at hck; obtain ⟨-, ⟨⟨h1, rfl⟩, h2⟩, h3⟩ := hck; exact ⟨⟨rfl, by simpa using h2, h3⟩, h1⟩
  · simp only [pm_chk1, Bool.and_eq_true, decide_eq_true_eq] at hck; obtain ⟨-, ⟨h1, rfl⟩, h2⟩ := hck; exact ⟨⟨rfl, by simpa using h2⟩, h1⟩
  all_goals first
    | (simp only [pm_chk1, Bool.and_eq_true, decide_eq_true_eq] at hck; obtain ⟨-, h1, rfl⟩ := hck; exact ⟨rfl, h1⟩)
    | cases hpu
set_option maxHeartbeats 8000000 in
/-- ONE INSTRUCTION -/
theorem pm_go_ok {E : pm_E} {d k idx N : Nat} {L st : List Value} {h : pm_H} {Q : Option Value → pm_H → Prop} {M : pm_M} {i : pm_I} (hd1 : 1 ≤ d) (hM : pm_tab[k]? = some M) (hi : pm_nth M.2.2.2.2.2 idx = some i)
    {nx : Nat → List Value → List Value → pm_H → Prop} {cl : Nat → List Value → pm_H → (Option Value → pm_H → Prop) → Prop} {rt : Option Value → pm_H → Prop}
    (hgo : pm_go (pm_OH (some (pe_n E, pe_x E))) False pm_br M.2.2.2.1 idx i L st h nx cl rt) (hN : h.length ≤ N)
    (hnx : ∀ (idx' : Nat) (L' st' : List Value) (h' : pm_H), nx idx' L' st' h' → L'.length = L.length → h'.length ≤ N ∧ pm_Ok E d k (N - h'.length) idx' L' st' h' Q)
    (hcl : ∀ (k' : Nat) (As : List Value) (h' : pm_H) (kont : Option Value → pm_H → Prop), (∀ r h2, kont r h2 → h2.length ≤ N) → cl k' As h' kont → ∃ mc d', d' + 1 ≤ d ∧ h'.length + mc ≤ N ∧ pm_Call E d' k' mc As h' kont)
    (hrt : ∀ (r : Option Value) (h' : pm_H), rt r h' → Q r h') : pm_Ok E d k (N - h.length) idx L st h Q := by
  intro M' i' hM' hi' hL p e R s m args below meth c F QQ H locs cells slots ls hP hS hcs hl hc1 hs1 kk
  have e1 : M' = M := Option.some.inj (hM'.symm.trans hM)
  subst e1
  have e2 : i' = i := Option.some.inj (hi'.symm.trans hi)
  subst e2
  have hrow := pm_row hM hi
  obtain ⟨hown, h19, hpl⟩ := pm_head hM
  have next : ∀ (idx' pc' : Nat), (∃ i2 : pm_I, pm_nth M'.2.2.2.2.2 idx' = some i2 ∧ (i2.1 : Int) = (pc' : Int)) → ∀ (L' st' : List Value) (h' : pm_H) (H' : Heap) (locs' : List Loc) (cells' slots' : Nat) (ls' : Array Slot), nx idx' L' st' h' → L'.length = L.length → va_P (pe_D E) pm_cls (pe_w E h') H' → va_S (pe_A E) s.heap H' locs' → s.heap.size + cells' = E.2.1 + h'.length → lv_has ls' M'.2.2.1 (pe_ls E L') → cells' + (N - h'.length) ≤ R.cells → slots' + 20000 * (N - h'.length) ≤ R.slots → W p E.1 e R s m args below meth c H' locs' cells' slots' QQ (F0 m pc' ls' (st'.map (pe_v E))) := by
    intro idx' pc' ⟨i2, hi2, hp2⟩ L' st' h' H' locs' cells' slots' ls' hn hl' a1 a2 a3 a4 a5 a6
    have e3 : i2.1 = pc' := by omega
    rw [← e3]
    exact (hnx idx' L' st' h' hn hl').2 M' i2 hM hi2 (by rw [hl', hL]) p e R s m args below meth c F QQ H' locs' cells' slots' ls' a1 a2 a3 a4 a5 a6 kk
  have nextH : ∀ (pc' : Nat), (∃ i2 : pm_I, pm_nth M'.2.2.2.2.2 (idx + 1) = some i2 ∧ (i2.1 : Int) = (pc' : Int)) → pm_kk E p e R s m args below meth c QQ pc' ls h (nx (idx + 1) L) cells slots := by
    intro pc' ht st1 h1 H1 locs1 hn hlen a1 a2
    exact next (idx + 1) pc' ht L st1 h1 H1 locs1 cells slots ls hn rfl a1 a2 (by rw [hlen]; exact hcs) hl (by rw [hlen]; exact hc1) (by rw [hlen]; exact hs1)
  obtain ⟨pc, ins, len, x, y, zs⟩ := i'
  have hrow0 := hrow
  simp only [pm_chk1, Bool.and_eq_true] at hrow
  obtain ⟨hdc, hck⟩ := hrow
  have hd := pm_dc_ok hdc
  have F0' := F
  obtain ⟨hx, hb, hml, ho, hts, hlk, hr, hnm, hf1, hf2, henv⟩ := F
  show W p E.1 e R s m args below meth c H locs cells slots QQ (F0 m pc ls (st.map (pe_v E)))
  have pure : ∀ (hpc : pm_pchk M' ins len x y) (ht : ∃ i2 : pm_I, pm_nth M'.2.2.2.2.2 (idx + 1) = some i2 ∧ (i2.1 : Int) = ((pc + len : Nat) : Int)) (hg : match pm_pu ins x y L st with | some (L1, st1) => nx (idx + 1) L1 st1 h | none => False), W p E.1 e R s m args below meth c H locs cells slots QQ (F0 m pc ls (st.map (pe_v E))) := by
    intro hpc ht hg
    split at hg
    · rename_i L1 st1 hpu
      exact pm_pu_ok F0' hown hS hd hpc hpu hl hL (fun ls' g1 g2 => next (idx + 1) (pc + len) ht L1 st1 h H locs cells slots ls' hg (by rw [g1, hL]) hP hS hcs g2 hc1 hs1)
    · exact hg.elim
  unfold pm_go at hgo
  try dsimp only at hgo
  split at hgo
  · -- goto
    simp only [Bool.and_eq_true, decide_eq_true_eq] at hck
    obtain ⟨h1, rfl⟩ := hck
    obtain ⟨i2, h2, h3⟩ := pm_tg_ok h1
    exact lv_goto hx hb hd (tgt := i2.1) h3.symm (next x i2.1 ⟨i2, h2, rfl⟩ L st h H locs cells slots ls hgo rfl hP hS hcs hl hc1 hs1)
  · -- ifCond
    simp only [Bool.and_eq_true, decide_eq_true_eq] at hck
    obtain ⟨⟨h1, h2⟩, rfl⟩ := hck
    obtain ⟨i2, h3, h4⟩ := pm_tg_ok h1
    split at hgo
    · rename_i a st2
      exact pm_if_ok F0' hd (tgt := i2.1) h4.symm (fun z => next x i2.1 ⟨i2, h3, rfl⟩ L st2 h H locs cells slots ls (hgo.1 z) rfl hP hS hcs hl hc1 hs1) (fun z => next (idx + 1) (pc + 3) (pm_tg_ok h2) L st2 h H locs cells slots ls (hgo.2 z) rfl hP hS hcs hl hc1 hs1)
    · exact hgo.elim
  · -- if_icmp
    simp only [Bool.and_eq_true, decide_eq_true_eq] at hck
    obtain ⟨⟨h1, h2⟩, rfl⟩ := hck
    obtain ⟨i2, h3, h4⟩ := pm_tg_ok h1
    split at hgo
    · rename_i b a st2
      exact pm_icmp_ok F0' hd (tgt := i2.1) h4.symm (fun z => next x i2.1 ⟨i2, h3, rfl⟩ L st2 h H locs cells slots ls (hgo.1 z) rfl hP hS hcs hl hc1 hs1) (fun z => next (idx + 1) (pc + 3) (pm_tg_ok h2) L st2 h H locs cells slots ls (hgo.2 z) rfl hP hS hcs hl hc1 hs1)
    · exact hgo.elim
  · -- tableswitch
    rename_i dd lo hi2 offs
    simp only [Bool.and_eq_true, decide_eq_true_eq] at hck
    obtain ⟨⟨⟨⟨h1, h2⟩, h3⟩, h4⟩, h5⟩ := hck
    split at hgo
    · rename_i a st2
      rcases pm_sw_spec hgo with ⟨j, kk5, t, q1, q2, q3, q4⟩ | ⟨q1, q2⟩
      · have hj : j < zs.length := (List.getElem?_eq_some_iff.mp q2).1
        rw [List.getElem?_map, List.getElem?_range hj] at q1
        have q1' : kk5 = lo + (j : Int) := (Option.some.inj q1).symm
        have ha : a.toInt = lo + j := by
          rw [← q1']; exact (pm_ofInt (by omega) (by omega)).mp q3
        have ho5 : ∃ o5, offs[j]? = some o5 := ⟨_, Array.getElem?_eq_getElem (by omega)⟩
        obtain ⟨o5, ho5⟩ := ho5
        have h6 := List.all_eq_true.mp h5 (t, o5) (List.mem_of_getElem? (i := j) (by rw [List.getElem?_zip_eq_some]; exact ⟨q2, by simpa using ho5⟩))
        obtain ⟨i2, g3, g4⟩ := pm_tg_ok h6
        exact lv_tableIn hx hb hd (off := o5) (tgt := i2.1) (by omega) (by omega) (by rw [show (a.toInt - lo).toNat = j by omega]; exact ho5) g4.symm (next t i2.1 ⟨i2, g3, rfl⟩ L st2 h H locs cells slots ls q4 rfl hP hS hcs hl hc1 hs1)
      · obtain ⟨i2, g3, g4⟩ := pm_tg_ok h1
        refine lv_tableOut hx hb hd (tgt := i2.1) ?_ g4.symm (next x i2.1 ⟨i2, g3, rfl⟩ L st2 h H locs cells slots ls q2 rfl hP hS hcs hl hc1 hs1)
        rcases Classical.em (a.toInt < lo ∨ hi2 < a.toInt) with z | z
        · exact z
        · exfalso
          have hj : (a.toInt - lo).toNat < zs.length := by omega
          have ht : ∃ t5, zs[(a.toInt - lo).toNat]? = some t5 := ⟨_, List.getElem?_eq_getElem hj⟩
          obtain ⟨t5, ht5⟩ := ht
          refine q1 (a.toInt - lo).toNat (lo + ((a.toInt - lo).toNat : Int)) t5 (by rw [List.getElem?_map, List.getElem?_range hj]; rfl) ht5 ?_
          exact (pm_ofInt (by omega) (by omega)).mpr (by omega)
    · exact hgo.elim
  · -- lookupswitch
    rename_i dd ps
    simp only [Bool.and_eq_true, decide_eq_true_eq] at hck
    obtain ⟨⟨⟨h1, h2⟩, h3⟩, h4⟩ := hck
    split at hgo
    · rename_i a st2
      obtain ⟨off, t, q1, q2, q3⟩ := pm_lk (pc := pc) (C := M'.2.2.2.2.2) h1 h4 (by simpa using h2) hgo
      obtain ⟨i2, g3, g4⟩ := pm_tg_ok q2
      exact lv_lookup hx hb hd (off := off) (tgt := i2.1) h3 q1 g4.symm (next t i2.1 ⟨i2, g3, rfl⟩ L st2 h H locs cells slots ls q3 rfl hP hS hcs hl hc1 hs1)
    · exact hgo.elim
  · -- getfield
    simp only [Bool.and_eq_true, decide_eq_true_eq] at hck
    obtain ⟨⟨h1, rfl⟩, h2⟩ := hck
    refine pm_gget_ok F0' hown hP hS hd ?_ hgo (nextH (pc + 3) (pm_tg_ok h1))
    split at h2
    · simpa using h2
    · rename_i hx50
      simp only [Bool.and_eq_true] at h2
      obtain ⟨h3, h4⟩ := h2
      split
      · exact absurd rfl hx50
      · refine ⟨by simpa using h3, ?_⟩
        split at h4
        · rename_i q hq
          rw [pm_nth_eq] at hq
          exact ⟨q, hq, of_decide_eq_true h4⟩
        · cases h4
  · -- putfield
    simp only [Bool.and_eq_true, decide_eq_true_eq] at hck
    obtain ⟨⟨⟨h1, rfl⟩, h2⟩, h3⟩ := hck
    refine pm_gput_ok F0' hown hP hS hd (by simpa using h2) ?_ hgo (nextH (pc + 3) (pm_tg_ok h1))
    rw [hown]
    exact pm_chkp_ok h3
  · simp only [Bool.and_eq_true, decide_eq_true_eq] at hck
    obtain ⟨h1, rfl⟩ := hck
    exact pm_gald_ok F0' hP hS rfl (Or.inl ⟨rfl, rfl⟩) hd hgo (nextH (pc + 1) (pm_tg_ok h1))
  · simp only [Bool.and_eq_true, decide_eq_true_eq] at hck
    obtain ⟨h1, rfl⟩ := hck
    exact pm_gald_ok F0' hP hS rfl (Or.inr ⟨rfl, rfl⟩) hd hgo (nextH (pc + 1) (pm_tg_ok h1))
  · simp only [Bool.and_eq_true, decide_eq_true_eq] at hck
    obtain ⟨h1, rfl⟩ := hck
    exact pm_gast_ok F0' hP hS (Or.inl ⟨rfl, rfl⟩) hd hgo (nextH (pc + 1) (pm_tg_ok h1))
  · simp only [Bool.and_eq_true, decide_eq_true_eq] at hck
    obtain ⟨h1, rfl⟩ := hck
    exact pm_gast_ok F0' hP hS (Or.inr ⟨rfl, rfl⟩) hd hgo (nextH (pc + 1) (pm_tg_ok h1))
  · simp only [Bool.and_eq_true, decide_eq_true_eq] at hck
    obtain ⟨h1, rfl⟩ := hck
    exact pm_glld_ok F0' hP hS hd hgo (nextH (pc + 1) (pm_tg_ok h1))
  · simp only [Bool.and_eq_true, decide_eq_true_eq] at hck
    obtain ⟨h1, rfl⟩ := hck
    exact pm_glst_ok F0' hP hS hd hgo (nextH (pc + 1) (pm_tg_ok h1))
  · simp only [Bool.and_eq_true, decide_eq_true_eq] at hck
    obtain ⟨h1, rfl⟩ := hck
    exact pm_glen_ok F0' hP hS rfl hd hgo (nextH (pc + 1) (pm_tg_ok h1))
  · simp only [Bool.and_eq_true, decide_eq_true_eq] at hck
    obtain ⟨h1, rfl⟩ := hck
    exact pm_gdiv_ok F0' hP hS (Or.inl ⟨rfl, rfl⟩) hd hgo (nextH (pc + 1) (pm_tg_ok h1))
  · simp only [Bool.and_eq_true, decide_eq_true_eq] at hck
    obtain ⟨h1, rfl⟩ := hck
    exact pm_gdiv_ok F0' hP hS (Or.inr ⟨rfl, rfl⟩) hd hgo (nextH (pc + 1) (pm_tg_ok h1))
  · -- new
    simp only [Bool.and_eq_true, decide_eq_true_eq] at hck
    obtain ⟨⟨⟨h1, rfl⟩, h2⟩, h3⟩ := hck
    have hg2 : nx (idx + 1) L (.ref h.length :: st) (h ++ [.inr (x, pm_dfl x)]) := hgo
    have h5 := (hnx _ _ _ _ hg2 rfl).1
    simp only [List.length_append, List.length_cons, List.length_nil] at h5
    exact pm_gnew_ok F0' hown hP hS hcs hd (by simpa using h2) h3 (by omega) (by omega) (fun H1 a1 a2 => next (idx + 1) (pc + 3) (pm_tg_ok h1) L (.ref h.length :: st) _ H1 locs (cells + 1) (slots + 20000) ls hg2 rfl a1 a2 (by simp only [List.length_append, List.length_cons, List.length_nil]; omega) hl (by simp only [List.length_append, List.length_cons, List.length_nil]; omega) (by simp only [List.length_append, List.length_cons, List.length_nil]; omega))
  · -- newarray
    simp only [Bool.and_eq_true, decide_eq_true_eq] at hck
    obtain ⟨h1, rfl⟩ := hck
    unfold pm_gnwa at hgo
    split at hgo
    · rename_i n st2
      obtain ⟨hn, hgo⟩ := pm_in_of hgo
      have fin : ∀ (kd : Nat) (ty : FieldType) (a0 : vp_A), (_ : Prop) → True := fun _ _ _ _ => trivial
      split at hgo
      · have hg2 : nx (idx + 1) L (.ref h.length :: st2) (h ++ [.inl (0, n.toNatClampNeg, .inl (fun _ => 0))]) := hgo
        have h5 := (hnx _ _ _ _ hg2 rfl).1
        simp only [List.length_append, List.length_cons, List.length_nil] at h5
        exact pm_gnwa_ok (st := st2) (ty := .int) F0' hP hS hcs hd (Or.inl ⟨rfl, rfl, rfl, rfl⟩) hn (by omega) (by omega) (fun H1 a1 a2 => next (idx + 1) (pc + 2) (pm_tg_ok h1) L (.ref h.length :: st2) _ H1 locs (cells + 1) (slots + 20000) ls hg2 rfl a1 a2 (by simp only [List.length_append, List.length_cons, List.length_nil]; omega) hl (by simp only [List.length_append, List.length_cons, List.length_nil]; omega) (by simp only [List.length_append, List.length_cons, List.length_nil]; omega))
      · have hg2 : nx (idx + 1) L (.ref h.length :: st2) (h ++ [.inl (1, n.toNatClampNeg, .inl (fun _ => 0))]) := hgo
        have h5 := (hnx _ _ _ _ hg2 rfl).1
        simp only [List.length_append, List.length_cons, List.length_nil] at h5
        exact pm_gnwa_ok (st := st2) (ty := .boolean) F0' hP hS hcs hd (Or.inr (Or.inl ⟨rfl, rfl, rfl, rfl⟩)) hn (by omega) (by omega) (fun H1 a1 a2 => next (idx + 1) (pc + 2) (pm_tg_ok h1) L (.ref h.length :: st2) _ H1 locs (cells + 1) (slots + 20000) ls hg2 rfl a1 a2 (by simp only [List.length_append, List.length_cons, List.length_nil]; omega) hl (by simp only [List.length_append, List.length_cons, List.length_nil]; omega) (by simp only [List.length_append, List.length_cons, List.length_nil]; omega))
      · have hg2 : nx (idx + 1) L (.ref h.length :: st2) (h ++ [.inl (2, n.toNatClampNeg, .inr (.inl (fun _ => 0)))]) := hgo
        have h5 := (hnx _ _ _ _ hg2 rfl).1
        simp only [List.length_append, List.length_cons, List.length_nil] at h5
        exact pm_gnwa_ok (st := st2) (ty := .long) F0' hP hS hcs hd (Or.inr (Or.inr ⟨rfl, rfl, rfl, rfl⟩)) hn (by omega) (by omega) (fun H1 a1 a2 => next (idx + 1) (pc + 2) (pm_tg_ok h1) L (.ref h.length :: st2) _ H1 locs (cells + 1) (slots + 20000) ls hg2 rfl a1 a2 (by simp only [List.length_append, List.length_cons, List.length_nil]; omega) hl (by simp only [List.length_append, List.length_cons, List.length_nil]; omega) (by simp only [List.length_append, List.length_cons, List.length_nil]; omega))
      · exact hgo.elim
    · exact hgo.elim
  · -- invokevirtual
    dsimp only at hck
    split at hck
    · exact False.elim hgo
    · simp only [Bool.and_eq_true, decide_eq_true_eq] at hck
      obtain ⟨⟨⟨⟨⟨h1, rfl⟩, h2⟩, h3⟩, h4⟩, h5⟩ := hck
      obtain ⟨M', hco, hzs0⟩ := pm_chkc_ok h5
      have hzs := of_decide_eq_true hzs0
      clear hzs0
      unfold pm_gcV at hgo
      split at hgo
      · exact hgo.elim
      split at hgo
      · exact hgo.elim
      · rename_i As rest0 hpop
        obtain ⟨A, e1, e2, e3⟩ := pm_pop_spec hpop
        rw [List.append_nil] at e1
        subst e1
        split at hgo
        · rename_i b rest
          split at hgo
          · rename_i h8
            have fin : ∀ b', pe_v E b = .ref b' → (∃ cell : Cell, H[b']? = some cell ∧ cell.vm.isStatics = false ∧ s.vm.findClass M'.1.cls = some cell.cls) → cl x (b :: As) h (fun r h1 => nx (idx + 1) L (pm_rv r rest) h1) → W p E.1 e R s m args below meth c H locs cells slots QQ (F0 m pc ls (st.map (pe_v E))) := by
              intro b' hb' hrc hc
              obtain ⟨mc, d', q1, q2, q3⟩ := hcl _ _ _ _ (fun r h2 q => (hnx _ _ _ _ q rfl).1) hc
              refine pm_call_ok (d' := d') (mc := mc) (ov := some b) F0' hown q1 hco hP hS hcs hl.1 (by omega) (by omega) hd e3 e2 h8 (Or.inr (Or.inr ⟨b, b', rfl, hb', rfl, by simpa using h3, by simpa using h4, by simpa using h2, hrc⟩)) q3 (fun r h' H1 locs1 a1 a2 a3 a4 => next (idx + 1) (pc + 3) (pm_tg_ok h1) L (pm_rv r rest) h' H1 locs1 (cells + mc) (slots + 20000 * mc) ls a1 rfl a3 a4 (by omega) hl (by omega) (by omega))
            split at hgo
            · rename_i q
              split at hgo
              · rename_i ci cj hci
                split at hgo
                · rename_i hcc
                  have hcc := Nat.eq_of_beq_eq_true hcc
                  subst hcc
                  dsimp only [pm_OH] at hci
                  split at hci
                  · rename_i fs hh
                    cases hci
                    obtain ⟨r5, h6, -⟩ := hP q _ (pe_w_get hh)
                    have hrv := va_recv henv.1 hP h6 (pe_w_get hh)
                    refine fin _ rfl ?_ hgo
                    have hz2 : ci = M'.2.2.2.2.1 := by simpa using hzs
                    have hnm2 : r5.1 = pm_cn.getD ci "" := by
                      have h0 : ∀ j, j < 13 → (pm_cls.getD j ("", pT_0, 0)).1 = pm_cn.getD j "" := by decide
                      have h13 : ci < 13 := (List.getElem?_eq_some_iff.mp h6).1
                      rw [← h0 ci h13, List.getD_eq_getElem?_getD, h6]
                      rfl
                    rw [(pm_head hco.1).1, ← hz2, ← hnm2]
                    exact hrv
                  · cases hci
                · exact hgo.elim
              · exact hgo.elim
            · rename_i kq
              split at hgo
              · rename_i hk1
                have hk2 : kq ≤ 1 := Nat.le_of_ble_eq_true hk1
                refine fin (pe_aK E kq) (by unfold pe_v; exact if_pos (by omega)) ?_ hgo
                have hz2 : 15 = M'.2.2.2.2.1 := by simpa using hzs
                rw [(pm_head hco.1).1, ← hz2]
                exact vk_recv henv.2.1 (by omega) hS
              · exact hgo.elim
            · exact hgo.elim
          · exact hgo.elim
        · exact hgo.elim
  · -- invokestatic
    dsimp only at hck
    split at hck
    · exact False.elim hgo
    · simp only [Bool.and_eq_true, decide_eq_true_eq] at hck
      obtain ⟨⟨h1, rfl⟩, h2⟩ := hck
      split at hgo
      · rename_i hbl
        rw [hbl] at h2
        exact pm_gint_ok F0' hown hd1 hP hS (by rw [hml]; exact hl.1.symm) (by omega) (by omega) hd (by simpa using h2) hgo (nextH (pc + 3) (pm_tg_ok h1))
      · rename_i hbl
        rw [hbl] at h2
        simp only [Bool.and_eq_true, Bool.or_eq_true] at h2
        obtain ⟨⟨h3, h4⟩, h5⟩ := h2
        obtain ⟨M', hco, -⟩ := pm_chkc_ok h5
        unfold pm_gcS at hgo
        split at hgo
        · exact hgo.elim
        split at hgo
        · exact hgo.elim
        · rename_i As rest hpop
          obtain ⟨A, e1, e2, e3⟩ := pm_pop_spec hpop
          rw [List.append_nil] at e1
          subst e1
          split at hgo
          · rename_i h8
            obtain ⟨mc, d', q1, q2, q3⟩ := hcl _ _ _ _ (fun r h2 q => (hnx _ _ _ _ q rfl).1) hgo
            refine pm_call_ok (d' := d') (mc := mc) (ov := none) F0' hown q1 hco hP hS hcs hl.1 (by omega) (by omega) hd e3 e2 h8 (Or.inl ⟨rfl, rfl, by simpa using h3, by simpa using h4⟩) q3 (fun r h' H1 locs1 a1 a2 a3 a4 => next (idx + 1) (pc + 3) (pm_tg_ok h1) L (pm_rv r rest) h' H1 locs1 (cells + mc) (slots + 20000 * mc) ls a1 rfl a3 a4 (by omega) hl (by omega) (by omega))
          · exact hgo.elim
  · -- invokespecial
    split at hgo
    · simp only [Bool.and_eq_true, decide_eq_true_eq] at hck
      obtain ⟨⟨h1, rfl⟩, h2⟩ := hck
      split at hgo
      · rename_i q st2
        split at hgo
        · rename_i h8
          have h8 := Nat.le_of_ble_eq_true h8
          have hw := hts _ (pm_MI_ok _ (by simpa using h2))
          exact W.objInit hx hb ho (by rw [hown]; exact hw) (hts _ pm_w_oi) (hts _ pm_w_oc) rfl (by rw [hml]; exact hl.1) rfl hd (by omega) (by show 2 * 0 + _ + 12 ≤ _; rw [pe_cs henv.zc]; omega) (next (idx + 1) (pc + 3) (pm_tg_ok h1) L st2 h H locs cells slots ls hgo rfl hP hS hcs hl hc1 hs1)
        · exact hgo.elim
      · exact hgo.elim
    · rename_i hne
      dsimp only at hck
      split at hck
      · exact False.elim hgo
      · exact absurd rfl hne
      · simp only [Bool.and_eq_true, Bool.or_eq_true, decide_eq_true_eq] at hck
        obtain ⟨⟨⟨⟨h1, rfl⟩, h2⟩, h3⟩, h4⟩ := hck
        obtain ⟨M', hco, hin⟩ := pm_chkc_ok h4
        simp only [Bool.and_eq_true, decide_eq_true_eq] at hin
        unfold pm_gcI at hgo
        split at hgo
        · exact hgo.elim
        split at hgo
        · exact hgo.elim
        · rename_i As rest0 hpop
          obtain ⟨A, e1, e2, e3⟩ := pm_pop_spec hpop
          rw [List.append_nil] at e1
          subst e1
          split at hgo
          · rename_i q rest
            split at hgo
            · rename_i h8
              obtain ⟨mc, d', q1, q2, q3⟩ := hcl _ _ _ _ (fun r h2 q => (hnx _ _ _ _ q rfl).1) hgo
              refine pm_call_ok (d' := d') (mc := mc) (ov := some (.ref q)) F0' hown q1 hco hP hS hcs hl.1 (by omega) (by omega) hd e3 e2 h8 (Or.inr (Or.inl ⟨q, rfl, rfl, by simpa using h2, hin.1, hin.2, by simpa using h3⟩)) q3 (fun r h' H1 locs1 a1 a2 a3 a4 => next (idx + 1) (pc + 3) (pm_tg_ok h1) L (pm_rv r rest) h' H1 locs1 (cells + mc) (slots + 20000 * mc) ls a1 rfl a3 a4 (by omega) hl (by omega) (by omega))
            · exact hgo.elim
          · exact hgo.elim
  · -- ireturn
    have h1 := of_decide_eq_true hck
    subst h1
    unfold pm_gret at hgo
    have fin : ∀ (v : Int32) (ty : FieldType), M'.2.2.2.1 = some ty → narrow ty (.int v) = .int v → rt (some (.int v)) h → W p E.1 e R s m args below meth c H locs cells slots QQ (F0 m pc ls [.int v]) := by
      intro v ty h1 h2 h3
      exact kk (some (.int v)) h H locs cells slots pc ls (hrt _ _ h3) hP hS hcs (by omega) (by omega) ⟨⟨ty, h1, h2⟩, hd⟩
    split at hgo
    · rename_i v
      split at hgo
      · rename_i hty; exact fin v _ hty rfl hgo
      · rename_i hty
        obtain ⟨z, hgo⟩ := pm_in_of hgo
        exact fin v _ hty (by rcases z with rfl | rfl <;> rfl) hgo
      · rename_i hty
        obtain ⟨z, hgo⟩ := pm_in_of hgo
        exact fin v _ hty (by subst z; rfl) hgo
      · rename_i hty
        obtain ⟨⟨z1, z2⟩, hgo⟩ := pm_in_of hgo
        obtain ⟨j, hj, rfl⟩ := nI_of z1
        have hj2 : j < 256 := by
          rcases Nat.lt_or_ge j 256 with q | q
          · exact q
          · exact absurd z2 (nI_nlt (a := j) (b := 256) q hj)
        exact fin _ _ hty (pk_charN (by omega)).1 hgo
      · exact hgo.elim
    · exact hgo.elim
  · -- lreturn
    have h1 := of_decide_eq_true hck
    subst h1
    split at hgo
    · rename_i v
      split at hgo
      · rename_i hty
        exact kk (some (.long v)) h H locs cells slots pc ls (hrt _ _ hgo) hP hS hcs (by omega) (by omega) ⟨hty, hd⟩
      · exact hgo.elim
    · exact hgo.elim
  · -- return
    have h1 := of_decide_eq_true hck
    subst h1
    split at hgo
    · split at hgo
      · rename_i hty
        exact kk none h H locs cells slots pc ls (hrt _ _ hgo) hP hS hcs (by omega) (by omega) ⟨hty, hd⟩
      · exact hgo.elim
    · exact hgo.elim
  · -- pure
    split at hgo
    · rename_i L1 st1 hpu
      obtain ⟨g1, g2⟩ := pm_pchk_of hrow0 hpu
      refine pure g1 (pm_tg_ok g2) ?_
      rw [hpu]
      exact hgo
    · exact hgo.elim
end
section
/-! A METHOD'S CONTRACT OUT OF ITS RUN; execution; the state of ints -/
theorem pm_args_mem : ∀ {vs : List Value}, (∀ v ∈ vs, v.category = 1) → ∀ {j i : Nat} {w : Value}, vs[i]? = some w → (j + i, w) ∈ lv_args j vs
  | [], _, j, i, w, h => by simp at h
  | v :: vs, hc, j, i, w, h => by
    have hv := hc v List.mem_cons_self
    unfold lv_args
    cases i with
    | zero => cases h; exact List.mem_cons_self
    | succ i =>
      refine List.mem_cons_of_mem _ ?_
      rw [if_neg (by rw [hv]; decide), show j + (i + 1) = j + 1 + i by omega]
      exact pm_args_mem (fun u hu => hc u (List.mem_cons_of_mem _ hu)) h
theorem pm_sl_len : ∀ {vs : List Value}, (∀ v ∈ vs, v.category = 1) → (lg_sl vs).length = vs.length
  | [], _ => rfl
  | v :: vs, hc => by
    have hv := hc v List.mem_cons_self
    have ih := pm_sl_len (vs := vs) (fun u hu => hc u (List.mem_cons_of_mem _ hu))
    unfold lg_sl at ih ⊢
    rw [List.flatMap_cons, if_neg (by rw [hv]; decide)]
    simp [ih]
def pm_L0 (n : Nat) (av : List Value) : List Value := av ++ List.replicate (n - av.length) pm_un
def pm_ac (n : Nat) (av : List Value) : Bool := Nat.ble av.length n && av.all (fun v => Nat.beq v.category 1)
theorem pm_call_of {E : pm_E} {d k mc : Nat} {av : List Value} {h : pm_H} {Q : Option Value → pm_H → Prop} {M : pm_M} (hM : pm_tab[k]? = some M) (hac : pm_ac M.2.2.1 av = true)
    (hok : pm_Ok E d k mc 0 (pm_L0 M.2.2.1 av) [] h (fun r h' => Q r h' ∧ h'.length = h.length + mc)) : pm_Call E d k mc av h Q := by
  unfold pm_ac at hac
  simp only [Bool.and_eq_true, List.all_eq_true] at hac
  have hlen : av.length ≤ M.2.2.1 := Nat.le_of_ble_eq_true hac.1
  have hcat : ∀ v ∈ av, v.category = 1 := fun v hv => Nat.eq_of_beq_eq_true (hac.2 v hv)
  intro M' hM' hk
  have e1 : M' = M := Option.some.inj (hM'.symm.trans hM)
  subst e1
  obtain ⟨i0, hi0, hpc0⟩ := pm_first M' (List.mem_of_getElem? hM')
  refine Met.ofW (cc := M'.2.1) (maxL := M'.2.2.1) (ret := M'.2.2.2.1) (pm_head hM').2.2 rfl ?_
  intro p e s m args below meth c s₁ B hml hv
  obtain ⟨rfl, hsz, hP, henv⟩ := hv
  have hts := atoms_spec (ws := pm_ws M') B.pre
  have hown : s.vm.findClass M'.1.cls = some m.cls := findClass_of_methodNamed B.named
  have hz := henv.zc
  have hcat2 : ∀ v ∈ av.map (pe_v E), v.category = 1 := by
    intro v hv
    obtain ⟨u, hu, rfl⟩ := List.mem_map.mp hv
    rw [pe_v_cat hz]
    exact hcat u hu
  have hl := lv_entry (av.map (pe_v E)) (n := M'.2.2.1) (by rw [pm_sl_len hcat2, List.length_map]; exact hlen)
  rw [lg_entry_eq]
  generalize (lg_sl (av.map (pe_v E)) ++ List.replicate (M'.2.2.1 - (lg_sl (av.map (pe_v E))).length) Slot.unset).toArray = ls at hl ⊢
  have hl2 : lv_has ls M'.2.2.1 (pe_ls E (pm_L0 M'.2.2.1 av)) := by
    refine pm_has_of hl (fun q hq => ?_)
    obtain ⟨v, h1, h2, h3⟩ := pe_ls_mem.mp hq
    unfold pm_L0 at h1
    rcases Nat.lt_or_ge q.1 av.length with hlt | hge
    · rw [List.getElem?_append_left hlt] at h1
      have h4 := pm_args_mem hcat2 (j := 0) (i := q.1) (w := pe_v E v) (by rw [List.getElem?_map, h1]; rfl)
      rw [Nat.zero_add] at h4
      obtain ⟨q1, q2⟩ := q
      simp only at h3 h4 ⊢
      rw [h3]
      exact h4
    · rw [List.getElem?_append_right hge] at h1
      have h5 := List.mem_of_getElem? h1
      exact absurd (List.eq_of_mem_replicate h5) h2
  have hF : pm_Fx E M' d p (headSpec (pm_ws M') (pm_rm d mc)).room s m (av.map (pe_v E)).toArray meth c := ⟨B.exec, B.bytes, hml, hown, fun w hw => hts w (List.mem_cons_of_mem _ hw), B.notSynchronized, B.returns, (fun hn5 => (name_of_methodNamed B.named B.method).1.trans hn5), Nat.le_refl d, Nat.le_refl (64 * d), henv⟩
  have h6 := hok M' i0 hM' hi0 (by unfold pm_L0; simp; omega) p e _ s m _ below meth c hF (MQ below (pm_post E (h.length + mc) Q) (av.map (pe_v E)).toArray s mc (20000 * mc) (pe_A E)) s.heap [] 0 0 ls hP va_S.rf hsz hl2 (by show 0 + mc ≤ mc; omega) (by show 0 + 20000 * mc ≤ 20000 * mc; omega) ?_
  · rw [hpc0] at h6
    exact h6
  · intro r h' H' locs' cells' slots' pc' ls' hq hP' hS' hcs' hc' hs' hrt
    have hc2 : cells' ≤ mc := hc'
    have hs2 : slots' ≤ 20000 * mc := hs'
    refine W.widen hc2 hs2 ?_
    have post : ∀ t : State, t.heap = H' → s.WarmedH t.vm → pm_post E (h.length + mc) Q (av.map (pe_v E)).toArray s (.returned (r.map (pe_v E))) t := by
      intro t ht _
      exact ⟨r, h', rfl, hq.1, hq.2, by rw [ht]; exact hP', by rw [ht]; exact hS'.1, fun q g1 g2 => by rw [ht]; exact hS'.2.1 q g1 g2⟩
    unfold pm_rt at hrt
    split at hrt
    · exact W.vret B.exec B.bytes (B.returns.trans hrt.1) post hS'.2.2 hrt.2 B.notSynchronized
    · obtain ⟨⟨ty, h1, h2⟩, h3⟩ := hrt
      exact W.zret B.exec B.bytes (B.returns.trans h1) h2 post hS'.2.2 h3 B.notSynchronized
    · exact W.lret B.exec B.bytes (B.returns.trans hrt.1) post hS'.2.2 hrt.2 B.notSynchronized
    · exact hrt.elim
/-! one machine out of another: answers with a meaning, heaps with a picture -/
section REL
variable {α η : Type}
def pm_Rel (O : pm_O η) (bad : α) (br : (c : Prop) → Decidable c → α → α → α) (sat : α → Prop) (ab : η → pm_H) (scr : Option (Nat × (Nat → Int32))) : Prop :=
  (sat bad → False) ∧ (∀ c D a b, sat (br c D a b) → pm_br c D (sat a) (sat b)) ∧
  (∀ s p x y v, O.1 s p x y = some v → (pm_OH scr).1 (ab s) p x y = some v) ∧
  (∀ s p x y v s', O.2.1 s p x y v = some s' → (pm_OH scr).2.1 (ab s) p x y v = some (ab s')) ∧
  (∀ s p q, O.2.2.1 s p = some q → (pm_OH scr).2.2.1 (ab s) p = some q) ∧
  (∀ s p q f, O.2.2.1 s p = some q → ab (O.2.2.2.1 s p f) = (pm_OH scr).2.2.2.1 (ab s) p f) ∧
  (∀ s p q, O.2.2.2.2.1 s p = some q → (pm_OH scr).2.2.2.2.1 (ab s) p = some q) ∧
  (∀ s p q f, O.2.2.2.2.1 s p = some q → ab (O.2.2.2.2.2.1 s p f) = (pm_OH scr).2.2.2.2.2.1 (ab s) p f) ∧
  (∀ s c q s', O.2.2.2.2.2.2.1 s c = some (q, s') → (pm_OH scr).2.2.2.2.2.2.1 (ab s) c = some (q, ab s')) ∧
  (∀ s p c, O.2.2.2.2.2.2.2.1 s p = some c → (pm_OH scr).2.2.2.2.2.2.2.1 (ab s) p = some c) ∧ (∀ z, O.2.2.2.2.2.2.2.2 = some z → (pm_OH scr).2.2.2.2.2.2.2.2 = some z)
variable {O : pm_O η} {bad : α} {br : (c : Prop) → Decidable c → α → α → α} {sat : α → Prop} {ab : η → pm_H} {scr : Option (Nat × (Nat → Int32))}
/-- the continuation over pictures -/
def pm_nxA (sat : α → Prop) (ab : η → pm_H) (nx : List Value → η → α) : List Value → pm_H → Prop := fun st h => ∃ s', h = ab s' ∧ sat (nx st s')
theorem pm_gget_r (Rl : pm_Rel O bad br sat ab scr) {x y : Nat} {st : List Value} {s : η} {nx : List Value → η → α} (hg : sat (pm_gget O bad x y st s nx)) : pm_gget (pm_OH scr) False x y st (ab s) (pm_nxA sat ab nx) := by
  obtain ⟨r0, r1, r2, r3, r4, r5, r6, r7, r8, r9, r10⟩ := Rl
  unfold pm_gget at hg ⊢
  split at hg
  · split at hg
    · rename_i v hv; simp only [r2 _ _ _ _ _ hv]; exact ⟨s, rfl, hg⟩
    · exact (r0 hg).elim
  · split at hg
    · rename_i hk
      try simp only [hk]
      split at hg
      · exact ⟨s, rfl, hg⟩
      · rename_i hy
        exact ⟨s, rfl, hg⟩
    · exact (r0 hg).elim
  · exact (r0 hg).elim
theorem pm_gput_r (Rl : pm_Rel O bad br sat ab scr) {x y : Nat} {zs : List Nat} {st : List Value} {s : η} {nx : List Value → η → α} (hg : sat (pm_gput O bad br x y zs st s nx)) : pm_gput (pm_OH scr) False pm_br x y zs st (ab s) (pm_nxA sat ab nx) := by
  obtain ⟨r0, r1, r2, r3, r4, r5, r6, r7, r8, r9, r10⟩ := Rl
  unfold pm_gput at hg ⊢
  split at hg
  · split at hg
    · rename_i h1 hv; simp only [r3 _ _ _ _ _ _ hv]
      split at hg
      · exact ⟨_, rfl, hg⟩
      · have h2 := r1 _ _ _ _ hg
        exact ⟨fun z => ⟨_, rfl, h2.1 z⟩, fun z => r0 (h2.2 z)⟩
      · exact ⟨_, rfl, hg⟩
      · exact (r0 hg).elim
    · exact (r0 hg).elim
  · exact (r0 hg).elim
theorem pm_gald_r (Rl : pm_Rel O bad br sat ab scr) {kd : Nat} {st : List Value} {s : η} {nx : List Value → η → α} (hg : sat (pm_gald O bad br kd st s nx)) : pm_gald (pm_OH scr) False pm_br kd st (ab s) (pm_nxA sat ab nx) := by
  obtain ⟨r0, r1, r2, r3, r4, r5, r6, r7, r8, r9, r10⟩ := Rl
  unfold pm_gald at hg ⊢
  split at hg
  · split at hg
    · rename_i hv; simp only [r4 _ _ _ hv]
      split at hg
      · rename_i hk; try simp only [hk]
        have h2 := r1 _ _ _ _ hg
        exact ⟨fun z => ⟨_, rfl, h2.1 z⟩, fun z => r0 (h2.2 z)⟩
      · exact (r0 hg).elim
    · exact (r0 hg).elim
  · split at hg
    · split at hg
      · split at hg
        · rename_i hz
          have h2 := r1 _ _ _ _ hg
          simp only [r10 _ hz]
          exact ⟨fun z => ⟨_, rfl, h2.1 z⟩, fun z => r0 (h2.2 z)⟩
        · exact (r0 hg).elim
      · exact (r0 hg).elim
    · rename_i hkd
      split at hg
      · rename_i z hz
        split at hg
        · rename_i hk
          have h2 := r1 _ _ _ _ hg
          exact ⟨fun z => ⟨_, rfl, h2.1 z⟩, fun z => r0 (h2.2 z)⟩
        · exact (r0 hg).elim
      · exact (r0 hg).elim
  · exact (r0 hg).elim
theorem pm_gast_r (Rl : pm_Rel O bad br sat ab scr) {kd : Nat} {st : List Value} {s : η} {nx : List Value → η → α} (hg : sat (pm_gast O bad br kd st s nx)) : pm_gast (pm_OH scr) False pm_br kd st (ab s) (pm_nxA sat ab nx) := by
  obtain ⟨r0, r1, r2, r3, r4, r5, r6, r7, r8, r9, r10⟩ := Rl
  unfold pm_gast at hg ⊢
  split at hg
  · split at hg
    · rename_i hv; simp only [r4 _ _ _ hv]
      split at hg
      · rename_i hk; try simp only [hk]
        have h2 := r1 _ _ _ _ hg
        refine ⟨fun z => ?_, fun z => r0 (h2.2 z)⟩
        have h3 := h2.1 z
        split at h3
        · exact ⟨_, (r5 _ _ _ _ hv).symm, h3⟩
        · rename_i hkd
          have h4 := r1 _ _ _ _ h3
          first
            | exact ⟨fun z => ⟨_, (r5 _ _ _ _ hv).symm, h4.1 z⟩, fun z => r0 (h4.2 z)⟩
            | (split
               · exact absurd rfl hkd
               · exact ⟨fun z => ⟨_, (r5 _ _ _ _ hv).symm, h4.1 z⟩, fun z => r0 (h4.2 z)⟩)
      · exact (r0 hg).elim
    · exact (r0 hg).elim
  · exact (r0 hg).elim
theorem pm_glld_r (Rl : pm_Rel O bad br sat ab scr) {st : List Value} {s : η} {nx : List Value → η → α} (hg : sat (pm_glld O bad br st s nx)) : pm_glld (pm_OH scr) False pm_br st (ab s) (pm_nxA sat ab nx) := by
  obtain ⟨r0, r1, r2, r3, r4, r5, r6, r7, r8, r9, r10⟩ := Rl
  unfold pm_glld at hg ⊢
  split at hg
  · split at hg
    · rename_i hv; simp only [r6 _ _ _ hv]
      have h2 := r1 _ _ _ _ hg
      exact ⟨fun z => ⟨_, rfl, h2.1 z⟩, fun z => r0 (h2.2 z)⟩
    · exact (r0 hg).elim
  · exact (r0 hg).elim
theorem pm_glst_r (Rl : pm_Rel O bad br sat ab scr) {st : List Value} {s : η} {nx : List Value → η → α} (hg : sat (pm_glst O bad br st s nx)) : pm_glst (pm_OH scr) False pm_br st (ab s) (pm_nxA sat ab nx) := by
  obtain ⟨r0, r1, r2, r3, r4, r5, r6, r7, r8, r9, r10⟩ := Rl
  unfold pm_glst at hg ⊢
  split at hg
  · split at hg
    · rename_i hv; simp only [r6 _ _ _ hv]
      have h2 := r1 _ _ _ _ hg
      exact ⟨fun z => ⟨_, (r7 _ _ _ _ hv).symm, h2.1 z⟩, fun z => r0 (h2.2 z)⟩
    · exact (r0 hg).elim
  · exact (r0 hg).elim
theorem pm_arJI {h : pm_H} {p : Nat} {q : Nat × (Nat → Int64)} (hj : (pm_OH scr).2.2.2.2.1 h p = some q) : (pm_OH scr).2.2.1 h p = none := by
  dsimp only [pm_OH] at hj ⊢
  split at hj
  · rename_i hh; rw [hh]
  · cases hj
theorem pm_glen_r (Rl : pm_Rel O bad br sat ab scr) {st : List Value} {s : η} {nx : List Value → η → α} (hg : sat (pm_glen O bad st s nx)) : pm_glen (pm_OH scr) False st (ab s) (pm_nxA sat ab nx) := by
  obtain ⟨r0, r1, r2, r3, r4, r5, r6, r7, r8, r9, r10⟩ := Rl
  unfold pm_glen at hg ⊢
  split at hg
  · split at hg
    · rename_i hv; simp only [r4 _ _ _ hv]
      split at hg
      · rename_i hk; (try simp only [hk]); exact ⟨_, rfl, hg⟩
      · exact (r0 hg).elim
    · split at hg
      · rename_i hv
        have h3 := r6 _ _ _ hv
        simp only [pm_arJI h3, h3]
        exact ⟨_, rfl, hg⟩
      · exact (r0 hg).elim
  · split at hg
    · split at hg
      · rename_i hz; simp only [r10 _ hz]; exact ⟨_, rfl, hg⟩
      · exact (r0 hg).elim
    · rename_i hk30
      split at hg
      · rename_i hz
        split at hg
        · rename_i hk
          exact ⟨_, rfl, hg⟩
        · exact (r0 hg).elim
      · exact (r0 hg).elim
  · exact (r0 hg).elim
theorem pm_gdiv_r (Rl : pm_Rel O bad br sat ab scr) {f : Int32 → Int32 → Int32} {st : List Value} {s : η} {nx : List Value → η → α} (hg : sat (pm_gdiv bad br f st s nx)) : pm_gdiv False pm_br f st (ab s) (pm_nxA sat ab nx) := by
  obtain ⟨r0, r1, r2, r3, r4, r5, r6, r7, r8, r9, r10⟩ := Rl
  unfold pm_gdiv at hg ⊢
  split at hg
  · have h2 := r1 _ _ _ _ hg
    exact ⟨fun z => ⟨_, rfl, h2.1 z⟩, fun z => r0 (h2.2 z)⟩
  · exact (r0 hg).elim
theorem pm_gnew_r (Rl : pm_Rel O bad br sat ab scr) {x : Nat} {st : List Value} {s : η} {nx : List Value → η → α} (hg : sat (pm_gnew O bad x st s nx)) : pm_gnew (pm_OH scr) False x st (ab s) (pm_nxA sat ab nx) := by
  obtain ⟨r0, r1, r2, r3, r4, r5, r6, r7, r8, r9, r10⟩ := Rl
  unfold pm_gnew at hg ⊢
  split at hg
  · rename_i hv; simp only [r8 _ _ _ _ hv]; exact ⟨_, rfl, hg⟩
  · exact (r0 hg).elim
theorem pm_gnwa_r (Rl : pm_Rel O bad br sat ab scr) {t : ArrayType} {st : List Value} {s : η} {nx : List Value → η → α} (hg : sat (pm_gnwa O bad br t st s nx)) : pm_gnwa (pm_OH scr) False pm_br t st (ab s) (pm_nxA sat ab nx) := by
  obtain ⟨r0, r1, r2, r3, r4, r5, r6, r7, r8, r9, r10⟩ := Rl
  unfold pm_gnwa at hg ⊢
  split at hg
  · have h2 := r1 _ _ _ _ hg
    refine ⟨fun z => ?_, fun z => r0 (h2.2 z)⟩
    have h3 := h2.1 z
    split at h3
    · split at h3
      · rename_i hv; simp only [r8 _ _ _ _ hv]; exact ⟨_, rfl, h3⟩
      · exact (r0 h3).elim
    · split at h3
      · rename_i hv; simp only [r8 _ _ _ _ hv]; exact ⟨_, rfl, h3⟩
      · exact (r0 h3).elim
    · split at h3
      · rename_i hv; simp only [r8 _ _ _ _ hv]; exact ⟨_, rfl, h3⟩
      · exact (r0 h3).elim
    · exact (r0 h3).elim
  · exact (r0 hg).elim
theorem pm_gint_r (Rl : pm_Rel O bad br sat ab scr) {x : Nat} {st : List Value} {s : η} {nx : List Value → η → α} (hg : sat (pm_gint O bad br x st s nx)) : pm_gint (pm_OH scr) False pm_br x st (ab s) (pm_nxA sat ab nx) := by
  obtain ⟨r0, r1, r2, r3, r4, r5, r6, r7, r8, r9, r10⟩ := Rl
  unfold pm_gint at hg ⊢
  split at hg
  · split at hg
    · split at hg
      · rename_i hk; (try simp only [hk]); exact ⟨_, rfl, hg⟩
      · exact (r0 hg).elim
    · exact (r0 hg).elim
  · split at hg
    · split at hg
      · rename_i hk; (try simp only [hk]); exact ⟨_, rfl, hg⟩
      · exact (r0 hg).elim
    · exact (r0 hg).elim
  · split at hg
    · split at hg
      · rename_i hk; (try simp only [hk]); exact ⟨_, rfl, hg⟩
      · exact (r0 hg).elim
    · exact (r0 hg).elim
  · split at hg
    · split at hg
      · rename_i hk; try simp only [hk]
        split at hg
        · rename_i hv0 hv1
          simp only [r4 _ _ _ hv0, r4 _ _ _ hv1]
          have h2 := r1 _ _ _ _ hg
          exact ⟨fun z => ⟨_, (r5 _ _ _ _ hv1).symm, h2.1 z⟩, fun z => r0 (h2.2 z)⟩
        · exact (r0 hg).elim
      · exact (r0 hg).elim
    · exact (r0 hg).elim
  · exact (r0 hg).elim
/-- calls over pictures -/
def pm_clA (sat : α → Prop) (ab : η → pm_H) (cl : Nat → List Value → η → (Option Value → η → α) → α) : Nat → List Value → pm_H → (Option Value → pm_H → Prop) → Prop := fun k As h kont => ∃ (s' : η) (kont' : Option Value → η → α), h = ab s' ∧ sat (cl k As s' kont') ∧ ∀ r s1, sat (kont' r s1) → kont r (ab s1)
theorem pm_gcV_r (Rl : pm_Rel O bad br sat ab scr) {x y : Nat} {zs : List Nat} {st : List Value} {s : η} {nx : List Value → η → α} {cl : Nat → List Value → η → (Option Value → η → α) → α} (hg : sat (pm_gcV O bad x y zs st s nx cl)) : pm_gcV (pm_OH scr) False x y zs st (ab s) (pm_nxA sat ab nx) (pm_clA sat ab cl) := by
  obtain ⟨r0, r1, r2, r3, r4, r5, r6, r7, r8, r9, r10⟩ := Rl
  unfold pm_gcV at hg ⊢
  split at hg
  · exact (r0 hg).elim
  · rename_i hx; try simp only [hx]
    split at hg
    · exact (r0 hg).elim
    · rename_i hp; try simp only [hp]
      split at hg
      · split at hg
        · rename_i h8; try simp only [h8]
          split at hg
          · split at hg
            · rename_i hc
              simp only [r9 _ _ _ hc]
              split at hg
              · rename_i hb; try simp only [hb]
                exact ⟨s, _, rfl, hg, fun r s1 h1 => ⟨s1, rfl, h1⟩⟩
              · exact (r0 hg).elim
            · exact (r0 hg).elim
          · split at hg
            · rename_i hk
              try simp only [hk]
              exact ⟨s, _, rfl, hg, fun r s1 h1 => ⟨s1, rfl, h1⟩⟩
            · exact (r0 hg).elim
          · exact (r0 hg).elim
        · exact (r0 hg).elim
      · exact (r0 hg).elim
theorem pm_gcS_r (Rl : pm_Rel O bad br sat ab scr) {x y : Nat} {st : List Value} {s : η} {nx : List Value → η → α} {cl : Nat → List Value → η → (Option Value → η → α) → α} (hg : sat (pm_gcS bad x y st s nx cl)) : pm_gcS False x y st (ab s) (pm_nxA sat ab nx) (pm_clA sat ab cl) := by
  obtain ⟨r0, r1, r2, r3, r4, r5, r6, r7, r8, r9, r10⟩ := Rl
  unfold pm_gcS at hg ⊢
  split at hg
  · exact (r0 hg).elim
  · rename_i hx; try simp only [hx]
    split at hg
    · exact (r0 hg).elim
    · rename_i hp; try simp only [hp]
      split at hg
      · rename_i h8; try simp only [h8]
        exact ⟨s, _, rfl, hg, fun r s1 h1 => ⟨s1, rfl, h1⟩⟩
      · exact (r0 hg).elim
theorem pm_gcI_r (Rl : pm_Rel O bad br sat ab scr) {x y : Nat} {st : List Value} {s : η} {nx : List Value → η → α} {cl : Nat → List Value → η → (Option Value → η → α) → α} (hg : sat (pm_gcI bad x y st s nx cl)) : pm_gcI False x y st (ab s) (pm_nxA sat ab nx) (pm_clA sat ab cl) := by
  obtain ⟨r0, r1, r2, r3, r4, r5, r6, r7, r8, r9, r10⟩ := Rl
  unfold pm_gcI at hg ⊢
  split at hg
  · exact (r0 hg).elim
  · rename_i hx; try simp only [hx]
    split at hg
    · exact (r0 hg).elim
    · rename_i hp; try simp only [hp]
      split at hg
      · split at hg
        · rename_i h8; try simp only [h8]
          exact ⟨s, _, rfl, hg, fun r s1 h1 => ⟨s1, rfl, h1⟩⟩
        · exact (r0 hg).elim
      · exact (r0 hg).elim
theorem pm_sw_r (Rl : pm_Rel O bad br sat ab scr) {a : Int32} {nx : Nat → α} {nxP : Nat → Prop} {d : Nat} (hn : ∀ t, sat (nx t) → nxP t) : ∀ {ks : List Int} {ts : List Nat}, sat (pm_sw br a nx d ks ts) → pm_sw pm_br a nxP d ks ts
  | [], ts, h => by cases ts <;> exact hn _ h
  | k :: ks, [], h => hn _ h
  | k :: ks, t :: ts, h => by
    have h2 := Rl.2.1 _ _ _ _ h
    exact ⟨fun z => hn _ (h2.1 z), fun z => pm_sw_r Rl hn (h2.2 z)⟩
theorem pm_go_r (Rl : pm_Rel O bad br sat ab scr) {rty : Option FieldType} {idx : Nat} {i : pm_I} {L st : List Value} {s : η} {nx : Nat → List Value → List Value → η → α} {cl : Nat → List Value → η → (Option Value → η → α) → α} {rt : Option Value → η → α} (hg : sat (pm_go O bad br rty idx i L st s nx cl rt)) :
    pm_go (pm_OH scr) False pm_br rty idx i L st (ab s) (fun idx' L' => pm_nxA sat ab (nx idx' L')) (pm_clA sat ab cl) (fun r h => ∃ s', h = ab s' ∧ sat (rt r s')) := by
  have Rl0 := Rl
  obtain ⟨r0, r1, r2, r3, r4, r5, r6, r7, r8, r9, r10⟩ := Rl
  obtain ⟨pc, ins, len, x, y, zs⟩ := i
  unfold pm_go at hg ⊢
  dsimp only at hg ⊢
  split at hg
  · exact ⟨s, rfl, hg⟩
  · split at hg
    · have h2 := r1 _ _ _ _ hg
      exact ⟨fun z => ⟨_, rfl, h2.1 z⟩, fun z => ⟨_, rfl, h2.2 z⟩⟩
    · exact (r0 hg).elim
  · split at hg
    · have h2 := r1 _ _ _ _ hg
      exact ⟨fun z => ⟨_, rfl, h2.1 z⟩, fun z => ⟨_, rfl, h2.2 z⟩⟩
    · exact (r0 hg).elim
  · split at hg
    · exact pm_sw_r Rl0 (fun t h => ⟨s, rfl, h⟩) hg
    · exact (r0 hg).elim
  · split at hg
    · exact pm_sw_r Rl0 (fun t h => ⟨s, rfl, h⟩) hg
    · exact (r0 hg).elim
  · exact pm_gget_r Rl0 hg
  · exact pm_gput_r Rl0 hg
  · exact pm_gald_r Rl0 hg
  · exact pm_gald_r Rl0 hg
  · exact pm_gast_r Rl0 hg
  · exact pm_gast_r Rl0 hg
  · exact pm_glld_r Rl0 hg
  · exact pm_glst_r Rl0 hg
  · exact pm_glen_r Rl0 hg
  · exact pm_gdiv_r Rl0 hg
  · exact pm_gdiv_r Rl0 hg
  · exact pm_gnew_r Rl0 hg
  · exact pm_gnwa_r Rl0 hg
  · exact pm_gcV_r Rl0 hg
  · split at hg
    · rename_i hb; (try simp only [hb]); exact pm_gint_r Rl0 hg
    · rename_i hb; (try simp only [hb]); exact pm_gcS_r Rl0 hg
  · split at hg
    · split at hg
      · split at hg
        · rename_i hb; (try simp only [hb]); exact ⟨s, rfl, hg⟩
        · exact (r0 hg).elim
      · exact (r0 hg).elim
    · rename_i hx
      exact pm_gcI_r Rl0 hg
  · unfold pm_gret at hg ⊢
    split at hg
    · split at hg
      · exact ⟨s, rfl, hg⟩
      · have h2 := r1 _ _ _ _ hg
        exact ⟨fun z => ⟨_, rfl, h2.1 z⟩, fun z => r0 (h2.2 z)⟩
      · have h2 := r1 _ _ _ _ hg
        exact ⟨fun z => ⟨_, rfl, h2.1 z⟩, fun z => r0 (h2.2 z)⟩
      · have h2 := r1 _ _ _ _ hg
        exact ⟨fun z => ⟨_, rfl, h2.1 z⟩, fun z => r0 (h2.2 z)⟩
      · exact (r0 hg).elim
    · exact (r0 hg).elim
  · split at hg
    · split at hg
      · exact ⟨s, rfl, hg⟩
      · exact (r0 hg).elim
    · exact (r0 hg).elim
  · split at hg
    · split at hg
      · exact ⟨s, rfl, hg⟩
      · exact (r0 hg).elim
    · exact (r0 hg).elim
  · rename_i h1 h2 h3 h4 h5 h6 h7 h8 h9 h10 h11 h12 h13 h14 h15 h16 h17 h18 h19 h20 h21 h22 h23 h24
    split at hg
    · rename_i hpu
      try simp only [hpu]
      exact ⟨s, rfl, hg⟩
    · exact (r0 hg).elim
end REL
end
section
/-! EXECUTION: the heap never shrinks; a run of the abstract machine is a contract -/
section LEN
variable {scr : Option (Nat × (Nat → Int32))} {N : Nat} {st : List Value} {h : pm_H} {nx : List Value → pm_H → Prop}
theorem pm_br_em {c a b : Prop} {D : Decidable c} (h : pm_br c D a b) : (c ∧ a) ∨ (¬ c ∧ b) := by
  rcases Classical.em c with z | z
  · exact Or.inl ⟨z, h.1 z⟩
  · exact Or.inr ⟨z, h.2 z⟩
theorem pm_setI_len {p : Nat} {f : Nat → Int32} : ((pm_OH scr).2.2.2.1 h p f).length = h.length := by
  dsimp only [pm_OH]
  split <;> simp
theorem pm_setJ_len {p : Nat} {f : Nat → Int64} : ((pm_OH scr).2.2.2.2.2.1 h p f).length = h.length := by
  dsimp only [pm_OH]
  split <;> simp
theorem pm_putf_len {p x y : Nat} {v : Value} {h1 : pm_H} (hp : (pm_OH scr).2.1 h p x y v = some h1) : h1.length = h.length := by
  dsimp only [pm_OH] at hp
  split at hp
  · split at hp
    · split at hp
      · cases hp; simp
      · cases hp
    · cases hp
  · cases hp
theorem pm_gget_l {x y : Nat} (hg : pm_gget (pm_OH scr) False x y st h nx) (hn : ∀ a b, nx a b → b.length ≤ N) : h.length ≤ N := by
  unfold pm_gget at hg
  split at hg
  · split at hg
    · exact hn _ _ hg
    · exact hg.elim
  · split at hg
    · split at hg <;> exact hn _ _ hg
    · exact hg.elim
  · exact hg.elim
theorem pm_gput_l {x y : Nat} {zs : List Nat} (hg : pm_gput (pm_OH scr) False pm_br x y zs st h nx) (hn : ∀ a b, nx a b → b.length ≤ N) : h.length ≤ N := by
  unfold pm_gput at hg
  split at hg
  · split at hg
    · rename_i hv
      rw [← pm_putf_len hv]
      split at hg
      · exact hn _ _ hg
      · exact hn _ _ (pm_in_of hg).2
      · exact hn _ _ hg
      · exact hg.elim
    · exact hg.elim
  · exact hg.elim
theorem pm_gald_l {kd : Nat} (hg : pm_gald (pm_OH scr) False pm_br kd st h nx) (hn : ∀ a b, nx a b → b.length ≤ N) : h.length ≤ N := by
  unfold pm_gald at hg
  split at hg
  · split at hg
    · split at hg
      · exact hn _ _ (pm_in_of hg).2
      · exact hg.elim
    · exact hg.elim
  · split at hg
    · split at hg
      · split at hg
        · exact hn _ _ (pm_in_of hg).2
        · exact hg.elim
      · exact hg.elim
    · split at hg
      · split at hg
        · exact hn _ _ (pm_in_of hg).2
        · exact hg.elim
      · exact hg.elim
  · exact hg.elim
theorem pm_gast_l {kd : Nat} (hg : pm_gast (pm_OH scr) False pm_br kd st h nx) (hn : ∀ a b, nx a b → b.length ≤ N) : h.length ≤ N := by
  unfold pm_gast at hg
  split at hg
  · split at hg
    · split at hg
      · have h2 := (pm_in_of hg).2
        split at h2
        · have h3 := hn _ _ h2
          rw [pm_setI_len] at h3
          exact h3
        · have h3 := hn _ _ (pm_in_of h2).2
          rw [pm_setI_len] at h3
          exact h3
      · exact hg.elim
    · exact hg.elim
  · exact hg.elim
theorem pm_glld_l (hg : pm_glld (pm_OH scr) False pm_br st h nx) (hn : ∀ a b, nx a b → b.length ≤ N) : h.length ≤ N := by
  unfold pm_glld at hg
  split at hg
  · split at hg
    · exact hn _ _ (pm_in_of hg).2
    · exact hg.elim
  · exact hg.elim
theorem pm_glst_l (hg : pm_glst (pm_OH scr) False pm_br st h nx) (hn : ∀ a b, nx a b → b.length ≤ N) : h.length ≤ N := by
  unfold pm_glst at hg
  split at hg
  · split at hg
    · have h3 := hn _ _ (pm_in_of hg).2
      rw [pm_setJ_len] at h3
      exact h3
    · exact hg.elim
  · exact hg.elim
theorem pm_glen_l (hg : pm_glen (pm_OH scr) False st h nx) (hn : ∀ a b, nx a b → b.length ≤ N) : h.length ≤ N := by
  unfold pm_glen at hg
  split at hg
  · split at hg
    · split at hg
      · exact hn _ _ hg
      · exact hg.elim
    · split at hg
      · exact hn _ _ hg
      · exact hg.elim
  · split at hg
    · split at hg
      · exact hn _ _ hg
      · exact hg.elim
    · split at hg
      · split at hg
        · exact hn _ _ hg
        · exact hg.elim
      · exact hg.elim
  · exact hg.elim
theorem pm_gdiv_l {f : Int32 → Int32 → Int32} (hg : pm_gdiv False pm_br f st h nx) (hn : ∀ a b, nx a b → b.length ≤ N) : h.length ≤ N := by
  unfold pm_gdiv at hg
  split at hg
  · exact hn _ _ (pm_in_of hg).2
  · exact hg.elim
theorem pm_gnew_l {x : Nat} (hg : pm_gnew (pm_OH scr) False x st h nx) (hn : ∀ a b, nx a b → b.length ≤ N) : h.length ≤ N := by
  have h2 : nx (.ref h.length :: st) (h ++ [.inr (x, pm_dfl x)]) := hg
  have h3 := hn _ _ h2
  simp at h3
  omega
theorem pm_gnwa_l {t : ArrayType} (hg : pm_gnwa (pm_OH scr) False pm_br t st h nx) (hn : ∀ a b, nx a b → b.length ≤ N) : h.length ≤ N := by
  unfold pm_gnwa at hg
  split at hg
  · rename_i n st2
    have h2 := (pm_in_of hg).2
    split at h2
    · have h4 : nx (.ref h.length :: st2) (h ++ [.inl (0, n.toNatClampNeg, .inl (fun _ => 0))]) := h2
      have h3 := hn _ _ h4; simp at h3; omega
    · have h4 : nx (.ref h.length :: st2) (h ++ [.inl (1, n.toNatClampNeg, .inl (fun _ => 0))]) := h2
      have h3 := hn _ _ h4; simp at h3; omega
    · have h4 : nx (.ref h.length :: st2) (h ++ [.inl (2, n.toNatClampNeg, .inr (.inl (fun _ => 0)))]) := h2
      have h3 := hn _ _ h4; simp at h3; omega
    · exact h2.elim
  · exact hg.elim
theorem pm_gint_l {x : Nat} (hg : pm_gint (pm_OH scr) False pm_br x st h nx) (hn : ∀ a b, nx a b → b.length ≤ N) : h.length ≤ N := by
  unfold pm_gint at hg
  split at hg
  · split at hg
    · split at hg
      · exact hn _ _ hg
      · exact hg.elim
    · exact hg.elim
  · split at hg
    · split at hg
      · exact hn _ _ hg
      · exact hg.elim
    · exact hg.elim
  · split at hg
    · split at hg
      · exact hn _ _ hg
      · exact hg.elim
    · exact hg.elim
  · split at hg
    · split at hg
      · split at hg
        · have h3 := hn _ _ (pm_in_of hg).2
          rw [pm_setI_len] at h3
          exact h3
        · exact hg.elim
      · exact hg.elim
    · exact hg.elim
  · exact hg.elim
variable {cl : Nat → List Value → pm_H → (Option Value → pm_H → Prop) → Prop}
theorem pm_gcV_l {x y : Nat} {zs : List Nat} (hg : pm_gcV (pm_OH scr) False x y zs st h nx cl) (hn : ∀ a b, nx a b → b.length ≤ N) (hc : ∀ k As h1 kont, (∀ r h2, kont r h2 → h2.length ≤ N) → cl k As h1 kont → h1.length ≤ N) : h.length ≤ N := by
  unfold pm_gcV at hg
  split at hg
  · exact hg.elim
  split at hg
  · exact hg.elim
  split at hg
  · split at hg
    · split at hg
      · split at hg
        · split at hg
          · exact hc _ _ _ _ (fun r h2 q => hn _ _ q) hg
          · exact hg.elim
        · exact hg.elim
      · split at hg
        · exact hc _ _ _ _ (fun r h2 q => hn _ _ q) hg
        · exact hg.elim
      · exact hg.elim
    · exact hg.elim
  · exact hg.elim
theorem pm_gcS_l {x y : Nat} (hg : pm_gcS False x y st h nx cl) (hn : ∀ a b, nx a b → b.length ≤ N) (hc : ∀ k As h1 kont, (∀ r h2, kont r h2 → h2.length ≤ N) → cl k As h1 kont → h1.length ≤ N) : h.length ≤ N := by
  unfold pm_gcS at hg
  split at hg
  · exact hg.elim
  split at hg
  · exact hg.elim
  split at hg
  · exact hc _ _ _ _ (fun r h2 q => hn _ _ q) hg
  · exact hg.elim
theorem pm_gcI_l {x y : Nat} (hg : pm_gcI False x y st h nx cl) (hn : ∀ a b, nx a b → b.length ≤ N) (hc : ∀ k As h1 kont, (∀ r h2, kont r h2 → h2.length ≤ N) → cl k As h1 kont → h1.length ≤ N) : h.length ≤ N := by
  unfold pm_gcI at hg
  split at hg
  · exact hg.elim
  split at hg
  · exact hg.elim
  split at hg
  · split at hg
    · exact hc _ _ _ _ (fun r h2 q => hn _ _ q) hg
    · exact hg.elim
  · exact hg.elim
theorem pm_sw_l {a : Int32} {nxt : Nat → Prop} {d : Nat} {P : Prop} (hn : ∀ t, nxt t → P) : ∀ {ks : List Int} {ts : List Nat}, pm_sw pm_br a nxt d ks ts → P
  | [], ts, h => by cases ts <;> exact hn _ h
  | k :: ks, [], h => hn _ h
  | k :: ks, t :: ts, h => by
    rcases pm_br_em h with ⟨-, z⟩ | ⟨-, z⟩
    · exact hn _ z
    · exact pm_sw_l hn z
theorem pm_go_l {rty : Option FieldType} {idx : Nat} {i : pm_I} {L : List Value} {nx : Nat → List Value → List Value → pm_H → Prop} {rt : Option Value → pm_H → Prop} (hg : pm_go (pm_OH scr) False pm_br rty idx i L st h nx cl rt) (hn : ∀ a b c e, nx a b c e → e.length ≤ N) (hc : ∀ k As h1 kont, (∀ r h2, kont r h2 → h2.length ≤ N) → cl k As h1 kont → h1.length ≤ N) (hr : ∀ r h1, rt r h1 → h1.length ≤ N) : h.length ≤ N := by
  obtain ⟨pc, ins, len, x, y, zs⟩ := i
  unfold pm_go at hg
  dsimp only at hg
  split at hg
  · exact hn _ _ _ _ hg
  · split at hg
    · rcases pm_br_em hg with ⟨-, z⟩ | ⟨-, z⟩ <;> exact hn _ _ _ _ z
    · exact hg.elim
  · split at hg
    · rcases pm_br_em hg with ⟨-, z⟩ | ⟨-, z⟩ <;> exact hn _ _ _ _ z
    · exact hg.elim
  · split at hg
    · exact pm_sw_l (fun t z => hn _ _ _ _ z) hg
    · exact hg.elim
  · split at hg
    · exact pm_sw_l (fun t z => hn _ _ _ _ z) hg
    · exact hg.elim
  · exact pm_gget_l hg (hn _ _)
  · exact pm_gput_l hg (hn _ _)
  · exact pm_gald_l hg (hn _ _)
  · exact pm_gald_l hg (hn _ _)
  · exact pm_gast_l hg (hn _ _)
  · exact pm_gast_l hg (hn _ _)
  · exact pm_glld_l hg (hn _ _)
  · exact pm_glst_l hg (hn _ _)
  · exact pm_glen_l hg (hn _ _)
  · exact pm_gdiv_l hg (hn _ _)
  · exact pm_gdiv_l hg (hn _ _)
  · exact pm_gnew_l hg (hn _ _)
  · exact pm_gnwa_l hg (hn _ _)
  · exact pm_gcV_l hg (hn _ _) hc
  · split at hg
    · exact pm_gint_l hg (hn _ _)
    · exact pm_gcS_l hg (hn _ _) hc
  · split at hg
    · split at hg
      · split at hg
        · exact hn _ _ _ _ hg
        · exact hg.elim
      · exact hg.elim
    · exact pm_gcI_l hg (hn _ _) hc
  · unfold pm_gret at hg
    split at hg
    · split at hg
      · exact hr _ _ hg
      · exact hr _ _ (pm_in_of hg).2
      · exact hr _ _ (pm_in_of hg).2
      · exact hr _ _ (pm_in_of hg).2
      · exact hg.elim
    · exact hg.elim
  · split at hg
    · split at hg
      · exact hr _ _ hg
      · exact hg.elim
    · exact hg.elim
  · split at hg
    · split at hg
      · exact hr _ _ hg
      · exact hg.elim
    · exact hg.elim
  · split at hg
    · exact hn _ _ _ _ hg
    · exact hg.elim
end LEN
theorem pm_Call.mono {E : pm_E} {d k mc : Nat} {av : List Value} {hh : pm_H} {Q Q' : Option Value → pm_H → Prop} (h : pm_Call E d k mc av hh Q) (hQ : ∀ r h', Q r h' → Q' r h') : pm_Call E d k mc av hh Q' := by
  intro M hM hk p e a1 a2 a3 s m args below a4 a5 a6 a7
  obtain ⟨n, o, b1, b2, b3, ⟨r, h', q1, q2, q3⟩, q4⟩ := h M hM hk p e a1 a2 a3 s m args below a4 a5 a6 a7
  exact ⟨n, o, b1, b2, b3, ⟨r, h', q1, hQ r h' q2, q3⟩, q4⟩
abbrev pm_R : Type := Option Value × pm_H
def pm_ite (c : Prop) (D : Decidable c) (a b : Option pm_R) : Option pm_R := @ite _ c D a b
def pm_exl (call : Nat → List Value → pm_H → Option pm_R) (M : pm_M) : Nat → Nat → List Value → List Value → pm_H → Option pm_R
  | 0, _, _, _, _ => none
  | f + 1, idx, L, st, h => match pm_nth M.2.2.2.2.2 idx with
    | none => none
    | some i => pm_go (pm_OH none) none pm_ite M.2.2.2.1 idx i L st h (pm_exl call M f) (fun k As h kont => match call k As h with
      | some q => kont q.1 q.2
      | none => none) (fun r h => some (r, h))
def pm_exc (F : Nat) : Nat → Nat → List Value → pm_H → Option pm_R
  | 0, _, _, _ => none
  | d + 1, k, As, h => match pm_nth pm_tab k with
    | none => none
    | some M => match pm_ac M.2.2.1 As with
      | false => none
      | true => pm_exl (pm_exc F d) M F 0 (pm_L0 M.2.2.1 As) [] h
theorem pm_Rel_opt (scr : Option (Nat × (Nat → Int32))) (res : pm_R) : pm_Rel (α := Option pm_R) (pm_OH none) none pm_ite (fun a => a = some res) id scr := by
  refine ⟨fun h => (by cases h), fun c D a b h => ?_, fun _ _ _ _ _ h => h, fun _ _ _ _ _ _ h => h, fun _ _ _ h => h, fun _ _ _ _ _ => rfl, fun _ _ _ h => h, fun _ _ _ _ _ => rfl, fun _ _ _ _ h => h, fun _ _ _ h => h, fun _ h => (by cases h)⟩
  unfold pm_ite at h
  cases D with
  | isTrue z => exact ⟨fun _ => h, fun q => absurd z q⟩
  | isFalse z => exact ⟨fun q => absurd q z, fun _ => h⟩
theorem pm_exl_ok {E : pm_E} {d k : Nat} {M : pm_M} (hd1 : 1 ≤ d) (hM : pm_tab[k]? = some M) {call : Nat → List Value → pm_H → Option pm_R}
    (hcall : ∀ k' As h r h', call k' As h = some (r, h') → h.length ≤ h'.length ∧ ∃ d', d' + 1 ≤ d ∧ pm_Call E d' k' (h'.length - h.length) As h (fun r1 h1 => r1 = r ∧ h1 = h')) :
    ∀ (f idx : Nat) (L st : List Value) (h : pm_H) (r : Option Value) (h' : pm_H), pm_exl call M f idx L st h = some (r, h') → h.length ≤ h'.length ∧ pm_Ok E d k (h'.length - h.length) idx L st h (fun r1 h1 => r1 = r ∧ h1 = h') := by
  intro f
  induction f with
  | zero => intro idx L st h r h' hx; cases hx
  | succ f ih =>
    intro idx L st h r h' hx
    unfold pm_exl at hx
    split at hx
    · cases hx
    · rename_i i hi
      have hgo := pm_go_r (pm_Rel_opt (some (pe_n E, pe_x E)) (r, h')) hx
      have hlen : h.length ≤ h'.length := by
        refine pm_go_l (N := h'.length) hgo (fun a b c e q => ?_) (fun k' As h1 kont hk q => ?_) (fun r1 h1 q => ?_)
        · obtain ⟨s', e1, q⟩ := q
          rw [e1]
          exact (ih _ _ _ _ _ _ q).1
        · obtain ⟨s', kont', e1, q, hk2⟩ := q
          dsimp only at q
          split at q
          · rename_i q5 hq5
            have h3 := (hcall k' As s' q5.1 q5.2 hq5).1
            have h4 := hk _ _ (hk2 _ _ q)
            rw [e1]
            exact Nat.le_trans h3 h4
          · cases q
        · obtain ⟨s', e1, q⟩ := q
          cases q
          rw [e1]
          exact Nat.le_refl _
      refine ⟨hlen, pm_go_ok hd1 hM hi hgo hlen (fun idx' L' st' h1 q _ => ?_) (fun k' As h1 kont hk q => ?_) (fun r1 h1 q => ?_)⟩
      · obtain ⟨s', e1, q⟩ := q
        rw [e1]
        exact ih _ _ _ _ _ _ q
      · obtain ⟨s', kont', e1, q, hk2⟩ := q
        dsimp only at q
        split at q
        · rename_i q5 hq5
          obtain ⟨h3, d', h4, h5⟩ := hcall k' As s' q5.1 q5.2 hq5
          have h6 := hk2 _ _ q
          have h7 := hk _ _ h6
          rw [e1]
          refine ⟨q5.2.length - s'.length, d', h4, ?_, ?_⟩
          · show s'.length + (q5.2.length - s'.length) ≤ h'.length
            have h8 : q5.2.length ≤ h'.length := h7
            omega
          · refine pm_Call.mono h5 (fun r1 h1 z => ?_)
            rw [z.1, z.2]
            exact h6
        · cases q
      · obtain ⟨s', e1, q⟩ := q
        cases q
        exact ⟨rfl, e1⟩
theorem pm_exc_ok {E : pm_E} {F : Nat} : ∀ (d k : Nat) (As : List Value) (h : pm_H) (r : Option Value) (h' : pm_H), pm_exc F d k As h = some (r, h') → h.length ≤ h'.length ∧ pm_Call E d k (h'.length - h.length) As h (fun r1 h1 => r1 = r ∧ h1 = h') := by
  intro d
  induction d with
  | zero => intro k As h r h' hx; cases hx
  | succ d ih =>
    intro k As h r h' hx
    unfold pm_exc at hx
    split at hx
    · cases hx
    · rename_i M hM
      rw [pm_nth_eq] at hM
      split at hx
      · cases hx
      · rename_i hac
        obtain ⟨h1, h2⟩ := pm_exl_ok (E := E) (d := d + 1) (by omega) hM (fun k' As h r h' q => ⟨(ih k' As h r h' q).1, d, Nat.le_refl _, (ih k' As h r h' q).2⟩) _ _ _ _ _ _ _ hx
        refine ⟨h1, pm_call_of hM hac (h2.mono (fun r1 h3 q => ⟨q, ?_⟩))⟩
        rw [q.2]
        omega
end
section
/-! THE STATE OF INTS: behind the constructors the graph of objects never changes -/
abbrev pm_S : Type := (Nat → Nat → Int32) × (Nat → Nat → Int64)
abbrev pm_LY : Type := (Nat × Nat) ⊕ (Nat × List (Option Nat))
def pm_lay : List pm_LY := [
  .inr (11, [some 1, some 34, none, some 67, some 74, some 79, some 85, some 90]),
  .inr (9, [none, none, none, none, some 2, some 3, some 7, some 13, some 21, some 31]),
  .inl (0, 4),
  .inr (6, [none, some 4, some 5, some 6]),
  .inl (0, 10),
  .inl (0, 100),
  .inl (0, 80),
  .inr (4, [none, some 8, some 9, some 10, some 11, some 12]),
  .inl (0, 10),
  .inl (0, 10),
  .inl (0, 10),
  .inl (0, 10),
  .inl (0, 10),
  .inr (0, [none, some 14, some 15, some 16, some 17, some 18, some 19, some 20]),
  .inl (0, 30),
  .inl (0, 30),
  .inl (0, 30),
  .inl (0, 30),
  .inl (0, 30),
  .inl (0, 30),
  .inl (0, 30),
  .inr (3, [none, some 22, some 23, some 24, some 25, some 26, some 27, some 28, some 29, some 30]),
  .inl (0, 30),
  .inl (0, 30),
  .inl (0, 30),
  .inl (0, 30),
  .inl (0, 30),
  .inl (0, 10),
  .inl (0, 10),
  .inl (0, 32),
  .inl (0, 32),
  .inr (1, [none, none, none, some 32, some 33]),
  .inl (0, 400),
  .inl (0, 40),
  .inr (9, [none, none, none, none, some 35, some 36, some 40, some 46, some 54, some 64]),
  .inl (0, 4),
  .inr (6, [none, some 37, some 38, some 39]),
  .inl (0, 10),
  .inl (0, 100),
  .inl (0, 80),
  .inr (4, [none, some 41, some 42, some 43, some 44, some 45]),
  .inl (0, 10),
  .inl (0, 10),
  .inl (0, 10),
  .inl (0, 10),
  .inl (0, 10),
  .inr (0, [none, some 47, some 48, some 49, some 50, some 51, some 52, some 53]),
  .inl (0, 30),
  .inl (0, 30),
  .inl (0, 30),
  .inl (0, 30),
  .inl (0, 30),
  .inl (0, 30),
  .inl (0, 30),
  .inr (3, [none, some 55, some 56, some 57, some 58, some 59, some 60, some 61, some 62, some 63]),
  .inl (0, 30),
  .inl (0, 30),
  .inl (0, 30),
  .inl (0, 30),
  .inl (0, 30),
  .inl (0, 10),
  .inl (0, 10),
  .inl (0, 32),
  .inl (0, 32),
  .inr (1, [none, none, none, some 65, some 66]),
  .inl (0, 400),
  .inl (0, 40),
  .inr (2, [none, none, none, some 68, some 69, some 72, some 73, none, none, none]),
  .inl (0, 400),
  .inr (1, [none, none, none, some 70, some 71]),
  .inl (0, 400),
  .inl (0, 40),
  .inl (0, 401),
  .inl (0, 401),
  .inr (7, [some 1, some 75, some 76, some 77, some 78, none]),
  .inl (0, 9),
  .inl (1, 30),
  .inl (0, 10),
  .inl (0, 10),
  .inr (5, [some 1, some 80, none, some 81, some 82, some 83, some 84]),
  .inl (0, 10),
  .inl (0, 10),
  .inl (1, 1024),
  .inl (0, 1024),
  .inl (0, 64),
  .inr (8, [some 1, none, some 86, some 87, some 88, some 89]),
  .inl (0, 9),
  .inl (0, 81),
  .inl (0, 9),
  .inl (0, 4608),
  .inr (10, [some 3, none, some 91, some 92]),
  .inl (2, 90),
  .inl (2, 90),
  .inr (12, [none, none, none, some 94, some 95, none, some 96, some 97, some 98, some 99, some 100, none, some 101, some 102, some 103, some 104, some 105, some 106, some 107, none, none, none, some 108, none, some 109, some 110, some 111, some 112, some 113, some 114, none, none, none, none, none, some 115, none, some 116, some 117, some 118, some 119, some 120, none, none, some 121, none, none, none, none, none, some 122, some 123, some 124, none, some 125, none, some 126, some 127, some 128, some 129, some 130, some 131, some 132, none, none, none, some 133]),
  .inl (0, 10),
  .inl (0, 100),
  .inl (0, 10),
  .inl (0, 10),
  .inl (0, 10),
  .inl (0, 10),
  .inl (0, 10),
  .inl (0, 30),
  .inl (0, 30),
  .inl (0, 30),
  .inl (0, 30),
  .inl (0, 30),
  .inl (0, 30),
  .inl (0, 30),
  .inl (0, 4),
  .inl (0, 30),
  .inl (0, 30),
  .inl (0, 30),
  .inl (0, 30),
  .inl (0, 80),
  .inl (0, 400),
  .inl (0, 80),
  .inl (0, 32),
  .inl (0, 32),
  .inl (0, 32),
  .inl (0, 800),
  .inl (0, 800),
  .inl (0, 40),
  .inl (0, 9),
  .inl (0, 420),
  .inl (0, 10),
  .inl (0, 30),
  .inl (0, 1024),
  .inl (1, 1024),
  .inl (0, 256),
  .inl (0, 10240),
  .inl (2, 160),
  .inl (0, 16),
  .inl (0, 10),
  .inl (0, 1700)]
def pm_wc (σ : pm_S) (p : Nat) (c : pm_LY) : va_E := match c with
  | .inl (k, n) => match k with
    | 2 => .inl (2, n, .inr (.inl (σ.2 p)))
    | k => .inl (k, n, .inl (σ.1 p))
  | .inr (ci, fs) => .inr (ci, fs.mapIdx (fun j o => match o with
    | some q => .ref q
    | none => .int (σ.1 p j)))
def pm_wl (σ : pm_S) : pm_H := pm_lay.mapIdx (pm_wc σ)
def pm_OS (scr : Option (Nat × (Nat → Int32))) : pm_O pm_S :=
  (fun σ p x y => match pm_nth pm_lay p with
    | some (.inr (ci, fs)) => match Nat.beq ci x with
      | true => match pm_nth fs y with
        | some (some q) => some (.ref q)
        | some none => some (.int (σ.1 p y))
        | none => none
      | false => none
    | _ => none,
   fun σ p x y v => match v with
    | .int w => match pm_nth pm_lay p with
      | some (.inr (ci, fs)) => match Nat.beq ci x with
        | true => match pm_nth fs y with
          | some none => some (va_up σ.1 p (upd (σ.1 p) y w), σ.2)
          | _ => none
        | false => none
      | _ => none
    | _ => none,
   fun σ p => match pm_nth pm_lay p with
    | some (.inl (k, n)) => match Nat.ble k 1 with
      | true => some (k, n, σ.1 p)
      | false => none
    | _ => none,
   fun σ p f => (va_up σ.1 p f, σ.2),
   fun σ p => match pm_nth pm_lay p with
    | some (.inl (2, n)) => some (n, σ.2 p)
    | _ => none,
   fun σ p f => (σ.1, va_up σ.2 p f),
   fun _ _ => none,
   fun _ p => match pm_nth pm_lay p with
    | some (.inr (ci, _)) => some ci
    | _ => none,
   scr)
theorem pm_wl_get (σ : pm_S) (p : Nat) : (pm_wl σ)[p]? = (pm_nth pm_lay p).map (pm_wc σ p) := by
  rw [pm_nth_eq]
  simp [pm_wl, List.getElem?_mapIdx]
theorem pm_wl_len (σ : pm_S) : (pm_wl σ).length = pm_lay.length := by simp [pm_wl]
theorem pm_wc_ar {σ : pm_S} {p k n : Nat} (hk : Nat.ble k 1 = true) : pm_wc σ p (.inl (k, n)) = .inl (k, n, .inl (σ.1 p)) := by
  have h1 : k ≤ 1 := Nat.le_of_ble_eq_true hk
  rcases (show k = 0 ∨ k = 1 by omega) with rfl | rfl <;> rfl
/-- where two states agree at a place, their cells do -/
theorem pm_wc_eq {σ τ : pm_S} {p : Nat} (h1 : σ.1 p = τ.1 p) (h2 : σ.2 p = τ.2 p) (c : pm_LY) : pm_wc σ p c = pm_wc τ p c := by
  unfold pm_wc
  split
  · split
    · rw [h2]
    · rw [h1]
  · rw [h1]
theorem pm_wl_set {σ τ : pm_S} {p : Nat} {c : pm_LY} (hc : pm_nth pm_lay p = some c) (h1 : ∀ q, q ≠ p → σ.1 q = τ.1 q) (h2 : ∀ q, q ≠ p → σ.2 q = τ.2 q) : pm_wl τ = (pm_wl σ).set p (pm_wc τ p c) := by
  apply List.ext_getElem?
  intro q
  rw [List.getElem?_set, pm_wl_get, pm_wl_get, pm_wl_len]
  by_cases hq : p = q
  · subst hq
    have hl : p < pm_lay.length := by
      rw [pm_nth_eq] at hc
      exact (List.getElem?_eq_some_iff.mp hc).1
    rw [hc]
    simp [hl]
  · rw [if_neg hq]
    cases hn : pm_nth pm_lay q with
    | none => rfl
    | some c' =>
      show some _ = some _
      rw [pm_wc_eq (h1 q (fun e => hq e.symm)) (h2 q (fun e => hq e.symm))]
theorem pm_Rel_S (scr0 scr : Option (Nat × (Nat → Int32))) (hs : ∀ z, scr0 = some z → scr = some z) : pm_Rel (α := Prop) (pm_OS scr0) False pm_br (fun a => a) pm_wl scr := by
  refine ⟨fun h => h, fun c D a b h => h, ?_, ?_, ?_, ?_, ?_, ?_, ?_, ?_, fun z h => hs z h⟩
  · intro σ p x y v h
    dsimp only [pm_OS, pm_OH] at h ⊢
    rw [pm_wl_get]
    split at h
    · rename_i ci fs hl
      split at h
      · rename_i hx
        rw [hl]
        dsimp only [Option.map, pm_wc]
        rw [hx]
        dsimp only
        rw [List.getElem?_mapIdx, ← pm_nth_eq]
        split at h
        · rename_i hf; cases h; rw [hf]; rfl
        · rename_i hf; cases h; rw [hf]; rfl
        · cases h
      · cases h
    · cases h
  · intro σ p x y v s' h
    dsimp only [pm_OS, pm_OH] at h ⊢
    rw [pm_wl_get]
    split at h
    · rename_i w
      split at h
      · rename_i ci fs hl
        split at h
        · rename_i hx
          rw [hl]
          dsimp only [Option.map, pm_wc]
          rw [hx]
          dsimp only
          rw [List.getElem?_mapIdx, ← pm_nth_eq]
          split at h
          · rename_i hf
            cases h
            rw [hf]
            dsimp only [Option.map]
            refine congrArg some ?_
            rw [pm_wl_set (σ := σ) (τ := (va_up σ.1 p (upd (σ.1 p) y w), σ.2)) hl (fun q hq => by simp [va_up, hq]) (fun _ _ => rfl)]
            refine congrArg (fun z => (pm_wl σ).set p z) ?_
            dsimp only [pm_wc]
            refine congrArg (fun z => (Sum.inr (ci, z) : va_E)) ?_
            apply List.ext_getElem?
            intro j
            rw [List.getElem?_set, List.getElem?_mapIdx, List.getElem?_mapIdx, List.length_mapIdx]
            by_cases hj : y = j
            · subst hj
              rw [pm_nth_eq] at hf
              have hl2 := (List.getElem?_eq_some_iff.mp hf).1
              rw [hf]
              simp [hl2, va_up, upd]
            · rw [if_neg hj]
              cases fs[j]? with
              | none => rfl
              | some o =>
                show some _ = some _
                cases o with
                | none => simp [va_up, upd, show ¬ j = y from fun e5 => hj e5.symm]
                | some q => rfl
          · cases h
        · cases h
      · cases h
    · cases h
  · intro σ p q h
    dsimp only [pm_OS, pm_OH] at h ⊢
    rw [pm_wl_get]
    split at h
    · rename_i k n hl
      split at h
      · rename_i hk
        cases h
        rw [hl]
        dsimp only [Option.map]
        rw [pm_wc_ar hk]
      · cases h
    · cases h
  · intro σ p q f h
    dsimp only [pm_OS, pm_OH] at h ⊢
    rw [pm_wl_get]
    split at h
    · rename_i k n hl
      split at h
      · rename_i hk
        cases h
        rw [hl]
        dsimp only [Option.map]
        rw [pm_wc_ar hk]
        dsimp only
        rw [pm_wl_set (σ := σ) (τ := (va_up σ.1 p f, σ.2)) hl (fun q hq => by simp [va_up, hq]) (fun _ _ => rfl), pm_wc_ar hk]
        simp [va_up]
      · cases h
    · cases h
  · intro σ p q h
    dsimp only [pm_OS, pm_OH] at h ⊢
    rw [pm_wl_get]
    split at h
    · rename_i n hl
      cases h
      rw [hl]
      rfl
    · cases h
  · intro σ p q f h
    dsimp only [pm_OS, pm_OH] at h ⊢
    rw [pm_wl_get]
    split at h
    · rename_i n hl
      cases h
      rw [hl]
      dsimp only [Option.map, pm_wc]
      rw [pm_wl_set (σ := σ) (τ := (σ.1, va_up σ.2 p f)) hl (fun _ _ => rfl) (fun q hq => by simp [va_up, hq])]
      simp [pm_wc, va_up]
    · cases h
  · intro σ c q s' h
    cases h
  · intro σ p c h
    dsimp only [pm_OS, pm_OH] at h ⊢
    rw [pm_wl_get]
    split at h
    · rename_i hl
      cases h
      rw [hl]
      rfl
    · cases h
/-! RUNS AND CALLS over the state of ints -/
def pm_OkS (E : pm_E) (d k idx : Nat) (L st : List Value) (σ : pm_S) (Q : Option Value → pm_S → Prop) : Prop := pm_Ok E d k 0 idx L st (pm_wl σ) (fun r h => ∃ τ, h = pm_wl τ ∧ Q r τ)
def pm_CallS (E : pm_E) (d k : Nat) (av : List Value) (σ : pm_S) (Q : Option Value → pm_S → Prop) : Prop := pm_Call E d k 0 av (pm_wl σ) (fun r h => ∃ τ, h = pm_wl τ ∧ Q r τ)
/-- the script is not looked at by methods -/
def Ok (k D idx : Nat) (L st : List Value) (σ : pm_S) (Q : Option Value → pm_S → Prop) : Prop := ∀ (E : pm_E) (d : Nat), D ≤ d → pm_OkS E d k idx L st σ Q
def Sp (k D : Nat) (av : List Value) (σ : pm_S) (Q : Option Value → pm_S → Prop) : Prop := ∀ (E : pm_E) (d : Nat), D ≤ d → pm_CallS E d k av σ Q
theorem Sp.mono {k D : Nat} {av : List Value} {σ : pm_S} {Q Q' : Option Value → pm_S → Prop} (h : Sp k D av σ Q) (hQ : ∀ r τ, Q r τ → Q' r τ) : Sp k D av σ Q' := fun E d hd => pm_Call.mono (h E d hd) (fun r h' ⟨τ, e, q⟩ => ⟨τ, e, hQ r τ q⟩)
theorem Sp.up {k D D' : Nat} {av : List Value} {σ : pm_S} {Q : Option Value → pm_S → Prop} (h : Sp k D av σ Q) (hD : D ≤ D') : Sp k D' av σ Q := fun E d hd => h E d (Nat.le_trans hD hd)
theorem Sp.use {k D D' : Nat} {av : List Value} {σ : pm_S} {Q Q' : Option Value → pm_S → Prop} (h : Sp k D av σ Q) (hD : D ≤ D') (hQ : ∀ r τ, Q r τ → Q' r τ) : Sp k D' av σ Q' := (h.up hD).mono hQ
theorem Ok.mono {k D idx : Nat} {L st : List Value} {σ : pm_S} {Q Q' : Option Value → pm_S → Prop} (h : Ok k D idx L st σ Q) (hQ : ∀ r τ, Q r τ → Q' r τ) : Ok k D idx L st σ Q' := fun E d hd => (h E d hd).mono (fun r h' ⟨τ, e, q⟩ => ⟨τ, e, hQ r τ q⟩)
def pm_wp (C : List pm_I) (rty : Option FieldType) (R : Nat → List Value → List Value → pm_S → Prop) (cl : Nat → List Value → pm_S → (Option Value → pm_S → Prop) → Prop) (Q : Option Value → pm_S → Prop) (cuts : List Nat) : Nat → Nat → List Value → List Value → pm_S → Prop
  | 0, idx, L, st, σ => R idx L st σ
  | f + 1, idx, L, st, σ => match pm_nth C idx with
    | none => False
    | some i => pm_go (pm_OS none) False pm_br rty idx i L st σ (fun idx' L' st' σ' => match cuts.elem idx' with
      | true => R idx' L' st' σ'
      | false => pm_wp C rty R cl Q cuts f idx' L' st' σ') cl Q
theorem Ok.wp {k D : Nat} {M : pm_M} (hM : pm_tab[k]? = some M) (cuts : List Nat) {Q : Option Value → pm_S → Prop} : ∀ (f idx : Nat) (L st : List Value) (σ : pm_S), pm_wp M.2.2.2.2.2 M.2.2.2.1 (fun idx L st σ => Ok k (D + 1) idx L st σ Q) (fun k' As σ kont => Sp k' D As σ kont) Q cuts f idx L st σ → Ok k (D + 1) idx L st σ Q := by
  intro f
  induction f with
  | zero => intro idx L st σ h; exact h
  | succ f ih =>
    intro idx L st σ h E d hd
    unfold pm_wp at h
    split at h
    · exact h.elim
    · rename_i i hi
      have hgo2 := pm_go_r (pm_Rel_S none (some (pe_n E, pe_x E)) (fun z hz => by cases hz)) h
      have key := pm_go_ok (E := E) (d := d) (N := pm_lay.length) (Q := fun r h => ∃ τ, h = pm_wl τ ∧ Q r τ) (by omega) hM hi hgo2 (by rw [pm_wl_len]; exact Nat.le_refl _) (fun idx' L' st' h' q _ => ?_) (fun k' As h' kont hk q => ?_) (fun r h' q => ?_)
      · rw [pm_wl_len, Nat.sub_self] at key
        exact key
      · obtain ⟨τ, e5, q⟩ := q
        rw [e5, pm_wl_len, Nat.sub_self]
        refine ⟨Nat.le_refl _, ?_⟩
        dsimp only at q
        split at q
        · exact q E d hd
        · exact ih _ _ _ _ q E d hd
      · obtain ⟨τ, kont1, e5, q, hk1⟩ := q
        rw [e5]
        refine ⟨0, d - 1, by omega, by rw [pm_wl_len]; exact Nat.le_refl _, ?_⟩
        exact pm_Call.mono (q E (d - 1) (by omega)) (fun r h1 ⟨τ', e3, q3⟩ => by rw [e3]; exact hk1 _ _ q3)
      · exact q
theorem Sp.of {k D : Nat} {M : pm_M} (hM : pm_tab[k]? = some M) {av : List Value} (hac : pm_ac M.2.2.1 av = true) {σ : pm_S} {Q : Option Value → pm_S → Prop} (h : Ok k D 0 (pm_L0 M.2.2.1 av) [] σ Q) : Sp k D av σ Q := by
  intro E d hd
  refine pm_call_of hM hac ((h E d hd).mono (fun r h' ⟨τ, e, q⟩ => ⟨⟨τ, e, q⟩, ?_⟩))
  rw [e, pm_wl_len, pm_wl_len]
  rfl
/-- a method out of its weakest precondition -/
theorem Sp.wp {k D : Nat} {M : pm_M} (hM : pm_tab[k]? = some M) {av : List Value} (hac : pm_ac M.2.2.1 av = true) {σ : pm_S} {Q : Option Value → pm_S → Prop} (cuts : List Nat) (f : Nat) (h : pm_wp M.2.2.2.2.2 M.2.2.2.1 (fun idx L st σ => Ok k (D + 1) idx L st σ Q) (fun k' As σ kont => Sp k' D As σ kont) Q cuts f 0 (pm_L0 M.2.2.1 av) [] σ) : Sp k (D + 1) av σ Q := Sp.of hM hac (Ok.wp hM cuts f _ _ _ _ h)
end
section
/-! every method, by its number: its contract out of a weakest precondition with opaque ends -/
theorem Sp.go {k D : Nat} {M : pm_M} (hM : pm_tab[k]? = some M) {av : List Value} (hac : pm_ac M.2.2.1 av = true) {σ : pm_S} {Q : Option Value → pm_S → Prop} (cuts : List Nat) (f : Nat)
    (h : ∀ (R : Nat → List Value → List Value → pm_S → Prop) (cl : Nat → List Value → pm_S → (Option Value → pm_S → Prop) → Prop) (Z : Option Value → pm_S → Prop), (∀ idx L st σ, Ok k (D + 1) idx L st σ Q → R idx L st σ) → (∀ k' As σ kont, Sp k' D As σ kont → cl k' As σ kont) → (∀ r τ, Q r τ → Z r τ) → pm_wp M.2.2.2.2.2 M.2.2.2.1 R cl Z cuts f 0 (pm_L0 M.2.2.1 av) [] σ) : Sp k (D + 1) av σ Q :=
  Sp.wp hM hac cuts f (h _ _ _ (fun _ _ _ _ h => h) (fun _ _ _ _ h => h) (fun _ _ h => h))
theorem Ok.go {k D : Nat} {M : pm_M} (hM : pm_tab[k]? = some M) {σ : pm_S} {Q : Option Value → pm_S → Prop} (cuts : List Nat) (f : Nat) {idx : Nat} {L st : List Value}
    (h : ∀ (R : Nat → List Value → List Value → pm_S → Prop) (cl : Nat → List Value → pm_S → (Option Value → pm_S → Prop) → Prop) (Z : Option Value → pm_S → Prop), (∀ idx L st σ, Ok k (D + 1) idx L st σ Q → R idx L st σ) → (∀ k' As σ kont, Sp k' D As σ kont → cl k' As σ kont) → (∀ r τ, Q r τ → Z r τ) → pm_wp M.2.2.2.2.2 M.2.2.2.1 R cl Z cuts f idx L st σ) : Ok k (D + 1) idx L st σ Q :=
  Ok.wp hM cuts f _ _ _ _ (h _ _ _ (fun _ _ _ _ h => h) (fun _ _ _ _ h => h) (fun _ _ h => h))
/-- the machine's steps from here on, with what is asked of them -/
abbrev pm_G (C : List pm_I) (rty : Option FieldType) (k D : Nat) (Q : Option Value → pm_S → Prop) (cuts : List Nat) (f idx : Nat) (L st : List Value) (σ : pm_S) : Prop :=
  ∀ (R : Nat → List Value → List Value → pm_S → Prop) (cl : Nat → List Value → pm_S → (Option Value → pm_S → Prop) → Prop) (Z : Option Value → pm_S → Prop), (∀ idx L st σ, Ok k (D + 1) idx L st σ Q → R idx L st σ) → (∀ k' As σ kont, Sp k' D As σ kont → cl k' As σ kont) → (∀ r τ, Q r τ → Z r τ) → pm_wp C rty R cl Z cuts f idx L st σ
theorem S_Debts_init {D : Nat} {av : List Value} {σ : pm_S} {Q : Option Value → pm_S → Prop} (cuts : List Nat) (f : Nat) (hac : pm_ac 1 av = true) (h : pm_G pc_0 none 0 D Q cuts f 0 (pm_L0 1 av) [] σ) : Sp 0 (D + 1) av σ Q := Sp.go (M := (⟨"PaidWhereMade$Debts", "<init>", "()V"⟩, prog_2_method_1_code, 1, none, 0, pc_0)) rfl hac cuts f h
theorem O_Debts_init {D : Nat} {σ : pm_S} {Q : Option Value → pm_S → Prop} (cuts : List Nat) (f : Nat) {idx : Nat} {L st : List Value} (h : pm_G pc_0 none 0 D Q cuts f idx L st σ) : Ok 0 (D + 1) idx L st σ Q := Ok.go (M := (⟨"PaidWhereMade$Debts", "<init>", "()V"⟩, prog_2_method_1_code, 1, none, 0, pc_0)) rfl cuts f h
theorem S_Debts_has {D : Nat} {av : List Value} {σ : pm_S} {Q : Option Value → pm_S → Prop} (cuts : List Nat) (f : Nat) (hac : pm_ac 2 av = true) (h : pm_G pc_1 (some .boolean) 1 D Q cuts f 0 (pm_L0 2 av) [] σ) : Sp 1 (D + 1) av σ Q := Sp.go (M := (⟨"PaidWhereMade$Debts", "has", "(I)Z"⟩, prog_2_method_2_code, 2, (some .boolean), 0, pc_1)) rfl hac cuts f h
theorem O_Debts_has {D : Nat} {σ : pm_S} {Q : Option Value → pm_S → Prop} (cuts : List Nat) (f : Nat) {idx : Nat} {L st : List Value} (h : pm_G pc_1 (some .boolean) 1 D Q cuts f idx L st σ) : Ok 1 (D + 1) idx L st σ Q := Ok.go (M := (⟨"PaidWhereMade$Debts", "has", "(I)Z"⟩, prog_2_method_2_code, 2, (some .boolean), 0, pc_1)) rfl cuts f h
theorem S_Debts_add {D : Nat} {av : List Value} {σ : pm_S} {Q : Option Value → pm_S → Prop} (cuts : List Nat) (f : Nat) (hac : pm_ac 6 av = true) (h : pm_G pc_2 (some .int) 2 D Q cuts f 0 (pm_L0 6 av) [] σ) : Sp 2 (D + 1) av σ Q := Sp.go (M := (⟨"PaidWhereMade$Debts", "add", "(IIIII)I"⟩, prog_2_method_3_code, 6, (some .int), 0, pc_2)) rfl hac cuts f h
theorem O_Debts_add {D : Nat} {σ : pm_S} {Q : Option Value → pm_S → Prop} (cuts : List Nat) (f : Nat) {idx : Nat} {L st : List Value} (h : pm_G pc_2 (some .int) 2 D Q cuts f idx L st σ) : Ok 2 (D + 1) idx L st σ Q := Ok.go (M := (⟨"PaidWhereMade$Debts", "add", "(IIIII)I"⟩, prog_2_method_3_code, 6, (some .int), 0, pc_2)) rfl cuts f h
theorem S_Debts_isOpen {D : Nat} {av : List Value} {σ : pm_S} {Q : Option Value → pm_S → Prop} (cuts : List Nat) (f : Nat) (hac : pm_ac 2 av = true) (h : pm_G pc_3 (some .boolean) 3 D Q cuts f 0 (pm_L0 2 av) [] σ) : Sp 3 (D + 1) av σ Q := Sp.go (M := (⟨"PaidWhereMade$Debts", "isOpen", "(I)Z"⟩, prog_2_method_4_code, 2, (some .boolean), 0, pc_3)) rfl hac cuts f h
theorem O_Debts_isOpen {D : Nat} {σ : pm_S} {Q : Option Value → pm_S → Prop} (cuts : List Nat) (f : Nat) {idx : Nat} {L st : List Value} (h : pm_G pc_3 (some .boolean) 3 D Q cuts f idx L st σ) : Ok 3 (D + 1) idx L st σ Q := Ok.go (M := (⟨"PaidWhereMade$Debts", "isOpen", "(I)Z"⟩, prog_2_method_4_code, 2, (some .boolean), 0, pc_3)) rfl cuts f h
theorem S_Debts_close {D : Nat} {av : List Value} {σ : pm_S} {Q : Option Value → pm_S → Prop} (cuts : List Nat) (f : Nat) (hac : pm_ac 4 av = true) (h : pm_G pc_4 none 4 D Q cuts f 0 (pm_L0 4 av) [] σ) : Sp 4 (D + 1) av σ Q := Sp.go (M := (⟨"PaidWhereMade$Debts", "close", "(III)V"⟩, prog_2_method_5_code, 4, none, 0, pc_4)) rfl hac cuts f h
theorem O_Debts_close {D : Nat} {σ : pm_S} {Q : Option Value → pm_S → Prop} (cuts : List Nat) (f : Nat) {idx : Nat} {L st : List Value} (h : pm_G pc_4 none 4 D Q cuts f idx L st σ) : Ok 4 (D + 1) idx L st σ Q := Ok.go (M := (⟨"PaidWhereMade$Debts", "close", "(III)V"⟩, prog_2_method_5_code, 4, none, 0, pc_4)) rfl cuts f h
theorem S_Debts_countOpen {D : Nat} {av : List Value} {σ : pm_S} {Q : Option Value → pm_S → Prop} (cuts : List Nat) (f : Nat) (hac : pm_ac 3 av = true) (h : pm_G pc_5 (some .int) 5 D Q cuts f 0 (pm_L0 3 av) [] σ) : Sp 5 (D + 1) av σ Q := Sp.go (M := (⟨"PaidWhereMade$Debts", "countOpen", "()I"⟩, prog_2_method_6_code, 3, (some .int), 0, pc_5)) rfl hac cuts f h
theorem O_Debts_countOpen {D : Nat} {σ : pm_S} {Q : Option Value → pm_S → Prop} (cuts : List Nat) (f : Nat) {idx : Nat} {L st : List Value} (h : pm_G pc_5 (some .int) 5 D Q cuts f idx L st σ) : Ok 5 (D + 1) idx L st σ Q := Ok.go (M := (⟨"PaidWhereMade$Debts", "countOpen", "()I"⟩, prog_2_method_6_code, 3, (some .int), 0, pc_5)) rfl cuts f h
theorem S_Debts_sumOwedBy {D : Nat} {av : List Value} {σ : pm_S} {Q : Option Value → pm_S → Prop} (cuts : List Nat) (f : Nat) (hac : pm_ac 4 av = true) (h : pm_G pc_6 (some .int) 6 D Q cuts f 0 (pm_L0 4 av) [] σ) : Sp 6 (D + 1) av σ Q := Sp.go (M := (⟨"PaidWhereMade$Debts", "sumOwedBy", "(I)I"⟩, prog_2_method_7_code, 4, (some .int), 0, pc_6)) rfl hac cuts f h
theorem O_Debts_sumOwedBy {D : Nat} {σ : pm_S} {Q : Option Value → pm_S → Prop} (cuts : List Nat) (f : Nat) {idx : Nat} {L st : List Value} (h : pm_G pc_6 (some .int) 6 D Q cuts f idx L st σ) : Ok 6 (D + 1) idx L st σ Q := Ok.go (M := (⟨"PaidWhereMade$Debts", "sumOwedBy", "(I)I"⟩, prog_2_method_7_code, 4, (some .int), 0, pc_6)) rfl cuts f h
theorem S_Debts_sumOwedTo {D : Nat} {av : List Value} {σ : pm_S} {Q : Option Value → pm_S → Prop} (cuts : List Nat) (f : Nat) (hac : pm_ac 4 av = true) (h : pm_G pc_7 (some .int) 7 D Q cuts f 0 (pm_L0 4 av) [] σ) : Sp 7 (D + 1) av σ Q := Sp.go (M := (⟨"PaidWhereMade$Debts", "sumOwedTo", "(I)I"⟩, prog_2_method_8_code, 4, (some .int), 0, pc_7)) rfl hac cuts f h
theorem O_Debts_sumOwedTo {D : Nat} {σ : pm_S} {Q : Option Value → pm_S → Prop} (cuts : List Nat) (f : Nat) {idx : Nat} {L st : List Value} (h : pm_G pc_7 (some .int) 7 D Q cuts f idx L st σ) : Ok 7 (D + 1) idx L st σ Q := Ok.go (M := (⟨"PaidWhereMade$Debts", "sumOwedTo", "(I)I"⟩, prog_2_method_8_code, 4, (some .int), 0, pc_7)) rfl cuts f h
theorem S_Debts_shareSomebody {D : Nat} {av : List Value} {σ : pm_S} {Q : Option Value → pm_S → Prop} (cuts : List Nat) (f : Nat) (hac : pm_ac 3 av = true) (h : pm_G pc_8 (some .boolean) 8 D Q cuts f 0 (pm_L0 3 av) [] σ) : Sp 8 (D + 1) av σ Q := Sp.go (M := (⟨"PaidWhereMade$Debts", "shareSomebody", "(II)Z"⟩, prog_2_method_9_code, 3, (some .boolean), 0, pc_8)) rfl hac cuts f h
theorem O_Debts_shareSomebody {D : Nat} {σ : pm_S} {Q : Option Value → pm_S → Prop} (cuts : List Nat) (f : Nat) {idx : Nat} {L st : List Value} (h : pm_G pc_8 (some .boolean) 8 D Q cuts f idx L st σ) : Ok 8 (D + 1) idx L st σ Q := Ok.go (M := (⟨"PaidWhereMade$Debts", "shareSomebody", "(II)Z"⟩, prog_2_method_9_code, 3, (some .boolean), 0, pc_8)) rfl cuts f h
theorem S_Debts_addInterest {D : Nat} {av : List Value} {σ : pm_S} {Q : Option Value → pm_S → Prop} (cuts : List Nat) (f : Nat) (hac : pm_ac 5 av = true) (h : pm_G pc_9 none 9 D Q cuts f 0 (pm_L0 5 av) [] σ) : Sp 9 (D + 1) av σ Q := Sp.go (M := (⟨"PaidWhereMade$Debts", "addInterest", "(III)V"⟩, prog_2_method_10_code, 5, none, 0, pc_9)) rfl hac cuts f h
theorem O_Debts_addInterest {D : Nat} {σ : pm_S} {Q : Option Value → pm_S → Prop} (cuts : List Nat) (f : Nat) {idx : Nat} {L st : List Value} (h : pm_G pc_9 none 9 D Q cuts f idx L st σ) : Ok 9 (D + 1) idx L st σ Q := Ok.go (M := (⟨"PaidWhereMade$Debts", "addInterest", "(III)V"⟩, prog_2_method_10_code, 5, none, 0, pc_9)) rfl cuts f h
theorem S_Debts_grown {D : Nat} {av : List Value} {σ : pm_S} {Q : Option Value → pm_S → Prop} (cuts : List Nat) (f : Nat) (hac : pm_ac 2 av = true) (h : pm_G pc_10 (some .int) 10 D Q cuts f 0 (pm_L0 2 av) [] σ) : Sp 10 (D + 1) av σ Q := Sp.go (M := (⟨"PaidWhereMade$Debts", "grown", "(II)I"⟩, prog_2_method_11_code, 2, (some .int), 0, pc_10)) rfl hac cuts f h
theorem O_Debts_grown {D : Nat} {σ : pm_S} {Q : Option Value → pm_S → Prop} (cuts : List Nat) (f : Nat) {idx : Nat} {L st : List Value} (h : pm_G pc_10 (some .int) 10 D Q cuts f idx L st σ) : Ok 10 (D + 1) idx L st σ Q := Ok.go (M := (⟨"PaidWhereMade$Debts", "grown", "(II)I"⟩, prog_2_method_11_code, 2, (some .int), 0, pc_10)) rfl cuts f h
theorem S_Debts_copyFrom {D : Nat} {av : List Value} {σ : pm_S} {Q : Option Value → pm_S → Prop} (cuts : List Nat) (f : Nat) (hac : pm_ac 2 av = true) (h : pm_G pc_11 none 11 D Q cuts f 0 (pm_L0 2 av) [] σ) : Sp 11 (D + 1) av σ Q := Sp.go (M := (⟨"PaidWhereMade$Debts", "copyFrom", "(LPaidWhereMade$Debts;)V"⟩, prog_2_method_12_code, 2, none, 0, pc_11)) rfl hac cuts f h
theorem O_Debts_copyFrom {D : Nat} {σ : pm_S} {Q : Option Value → pm_S → Prop} (cuts : List Nat) (f : Nat) {idx : Nat} {L st : List Value} (h : pm_G pc_11 none 11 D Q cuts f idx L st σ) : Ok 11 (D + 1) idx L st σ Q := Ok.go (M := (⟨"PaidWhereMade$Debts", "copyFrom", "(LPaidWhereMade$Debts;)V"⟩, prog_2_method_12_code, 2, none, 0, pc_11)) rfl cuts f h
theorem S_Law_init {D : Nat} {av : List Value} {σ : pm_S} {Q : Option Value → pm_S → Prop} (cuts : List Nat) (f : Nat) (hac : pm_ac 1 av = true) (h : pm_G pc_12 none 12 D Q cuts f 0 (pm_L0 1 av) [] σ) : Sp 12 (D + 1) av σ Q := Sp.go (M := (⟨"PaidWhereMade$Law", "<init>", "()V"⟩, prog_3_method_1_code, 1, none, 1, pc_12)) rfl hac cuts f h
theorem O_Law_init {D : Nat} {σ : pm_S} {Q : Option Value → pm_S → Prop} (cuts : List Nat) (f : Nat) {idx : Nat} {L st : List Value} (h : pm_G pc_12 none 12 D Q cuts f idx L st σ) : Ok 12 (D + 1) idx L st σ Q := Ok.go (M := (⟨"PaidWhereMade$Law", "<init>", "()V"⟩, prog_3_method_1_code, 1, none, 1, pc_12)) rfl cuts f h
theorem S_Law_clear {D : Nat} {av : List Value} {σ : pm_S} {Q : Option Value → pm_S → Prop} (cuts : List Nat) (f : Nat) (hac : pm_ac 1 av = true) (h : pm_G pc_13 none 13 D Q cuts f 0 (pm_L0 1 av) [] σ) : Sp 13 (D + 1) av σ Q := Sp.go (M := (⟨"PaidWhereMade$Law", "clear", "()V"⟩, prog_3_method_2_code, 1, none, 1, pc_13)) rfl hac cuts f h
theorem O_Law_clear {D : Nat} {σ : pm_S} {Q : Option Value → pm_S → Prop} (cuts : List Nat) (f : Nat) {idx : Nat} {L st : List Value} (h : pm_G pc_13 none 13 D Q cuts f idx L st σ) : Ok 13 (D + 1) idx L st σ Q := Ok.go (M := (⟨"PaidWhereMade$Law", "clear", "()V"⟩, prog_3_method_2_code, 1, none, 1, pc_13)) rfl cuts f h
theorem S_Law_add {D : Nat} {av : List Value} {σ : pm_S} {Q : Option Value → pm_S → Prop} (cuts : List Nat) (f : Nat) (hac : pm_ac 2 av = true) (h : pm_G pc_14 none 14 D Q cuts f 0 (pm_L0 2 av) [] σ) : Sp 14 (D + 1) av σ Q := Sp.go (M := (⟨"PaidWhereMade$Law", "add", "(I)V"⟩, prog_3_method_3_code, 2, none, 1, pc_14)) rfl hac cuts f h
theorem O_Law_add {D : Nat} {σ : pm_S} {Q : Option Value → pm_S → Prop} (cuts : List Nat) (f : Nat) {idx : Nat} {L st : List Value} (h : pm_G pc_14 none 14 D Q cuts f idx L st σ) : Ok 14 (D + 1) idx L st σ Q := Ok.go (M := (⟨"PaidWhereMade$Law", "add", "(I)V"⟩, prog_3_method_3_code, 2, none, 1, pc_14)) rfl cuts f h
theorem S_Law_addVerdict {D : Nat} {av : List Value} {σ : pm_S} {Q : Option Value → pm_S → Prop} (cuts : List Nat) (f : Nat) (hac : pm_ac 2 av = true) (h : pm_G pc_15 none 15 D Q cuts f 0 (pm_L0 2 av) [] σ) : Sp 15 (D + 1) av σ Q := Sp.go (M := (⟨"PaidWhereMade$Law", "addVerdict", "(I)V"⟩, prog_3_method_4_code, 2, none, 1, pc_15)) rfl hac cuts f h
theorem O_Law_addVerdict {D : Nat} {σ : pm_S} {Q : Option Value → pm_S → Prop} (cuts : List Nat) (f : Nat) {idx : Nat} {L st : List Value} (h : pm_G pc_15 none 15 D Q cuts f idx L st σ) : Ok 15 (D + 1) idx L st σ Q := Ok.go (M := (⟨"PaidWhereMade$Law", "addVerdict", "(I)V"⟩, prog_3_method_4_code, 2, none, 1, pc_15)) rfl cuts f h
theorem S_Law_lets {D : Nat} {av : List Value} {σ : pm_S} {Q : Option Value → pm_S → Prop} (cuts : List Nat) (f : Nat) (hac : pm_ac 4 av = true) (h : pm_G pc_16 (some .boolean) 16 D Q cuts f 0 (pm_L0 4 av) [] σ) : Sp 16 (D + 1) av σ Q := Sp.go (M := (⟨"PaidWhereMade$Law", "lets", "([I)Z"⟩, prog_3_method_5_code, 4, (some .boolean), 1, pc_16)) rfl hac cuts f h
theorem O_Law_lets {D : Nat} {σ : pm_S} {Q : Option Value → pm_S → Prop} (cuts : List Nat) (f : Nat) {idx : Nat} {L st : List Value} (h : pm_G pc_16 (some .boolean) 16 D Q cuts f idx L st σ) : Ok 16 (D + 1) idx L st σ Q := Ok.go (M := (⟨"PaidWhereMade$Law", "lets", "([I)Z"⟩, prog_3_method_5_code, 4, (some .boolean), 1, pc_16)) rfl cuts f h
theorem S_Law_step {D : Nat} {av : List Value} {σ : pm_S} {Q : Option Value → pm_S → Prop} (cuts : List Nat) (f : Nat) (hac : pm_ac 5 av = true) (h : pm_G pc_17 none 17 D Q cuts f 0 (pm_L0 5 av) [] σ) : Sp 17 (D + 1) av σ Q := Sp.go (M := (⟨"PaidWhereMade$Law", "step", "(I[I)V"⟩, prog_3_method_6_code, 5, none, 1, pc_17)) rfl hac cuts f h
theorem O_Law_step {D : Nat} {σ : pm_S} {Q : Option Value → pm_S → Prop} (cuts : List Nat) (f : Nat) {idx : Nat} {L st : List Value} (h : pm_G pc_17 none 17 D Q cuts f idx L st σ) : Ok 17 (D + 1) idx L st σ Q := Ok.go (M := (⟨"PaidWhereMade$Law", "step", "(I[I)V"⟩, prog_3_method_6_code, 5, none, 1, pc_17)) rfl cuts f h
theorem S_Law_joined {D : Nat} {av : List Value} {σ : pm_S} {Q : Option Value → pm_S → Prop} (cuts : List Nat) (f : Nat) (hac : pm_ac 3 av = true) (h : pm_G pc_18 (some .int) 18 D Q cuts f 0 (pm_L0 3 av) [] σ) : Sp 18 (D + 1) av σ Q := Sp.go (M := (⟨"PaidWhereMade$Law", "joined", "(III)I"⟩, prog_3_method_7_code, 3, (some .int), 1, pc_18)) rfl hac cuts f h
theorem O_Law_joined {D : Nat} {σ : pm_S} {Q : Option Value → pm_S → Prop} (cuts : List Nat) (f : Nat) {idx : Nat} {L st : List Value} (h : pm_G pc_18 (some .int) 18 D Q cuts f idx L st σ) : Ok 18 (D + 1) idx L st σ Q := Ok.go (M := (⟨"PaidWhereMade$Law", "joined", "(III)I"⟩, prog_3_method_7_code, 3, (some .int), 1, pc_18)) rfl cuts f h
theorem S_Law_isFact {D : Nat} {av : List Value} {σ : pm_S} {Q : Option Value → pm_S → Prop} (cuts : List Nat) (f : Nat) (hac : pm_ac 1 av = true) (h : pm_G pc_19 (some .boolean) 19 D Q cuts f 0 (pm_L0 1 av) [] σ) : Sp 19 (D + 1) av σ Q := Sp.go (M := (⟨"PaidWhereMade$Law", "isFact", "(I)Z"⟩, prog_3_method_8_code, 1, (some .boolean), 1, pc_19)) rfl hac cuts f h
theorem O_Law_isFact {D : Nat} {σ : pm_S} {Q : Option Value → pm_S → Prop} (cuts : List Nat) (f : Nat) {idx : Nat} {L st : List Value} (h : pm_G pc_19 (some .boolean) 19 D Q cuts f idx L st σ) : Ok 19 (D + 1) idx L st σ Q := Ok.go (M := (⟨"PaidWhereMade$Law", "isFact", "(I)Z"⟩, prog_3_method_8_code, 1, (some .boolean), 1, pc_19)) rfl cuts f h
theorem S_Law_push {D : Nat} {av : List Value} {σ : pm_S} {Q : Option Value → pm_S → Prop} (cuts : List Nat) (f : Nat) (hac : pm_ac 2 av = true) (h : pm_G pc_20 none 20 D Q cuts f 0 (pm_L0 2 av) [] σ) : Sp 20 (D + 1) av σ Q := Sp.go (M := (⟨"PaidWhereMade$Law", "push", "(I)V"⟩, prog_3_method_9_code, 2, none, 1, pc_20)) rfl hac cuts f h
theorem O_Law_push {D : Nat} {σ : pm_S} {Q : Option Value → pm_S → Prop} (cuts : List Nat) (f : Nat) {idx : Nat} {L st : List Value} (h : pm_G pc_20 none 20 D Q cuts f idx L st σ) : Ok 20 (D + 1) idx L st σ Q := Ok.go (M := (⟨"PaidWhereMade$Law", "push", "(I)V"⟩, prog_3_method_9_code, 2, none, 1, pc_20)) rfl cuts f h
theorem S_Law_pop {D : Nat} {av : List Value} {σ : pm_S} {Q : Option Value → pm_S → Prop} (cuts : List Nat) (f : Nat) (hac : pm_ac 1 av = true) (h : pm_G pc_21 (some .int) 21 D Q cuts f 0 (pm_L0 1 av) [] σ) : Sp 21 (D + 1) av σ Q := Sp.go (M := (⟨"PaidWhereMade$Law", "pop", "()I"⟩, prog_3_method_10_code, 1, (some .int), 1, pc_21)) rfl hac cuts f h
theorem O_Law_pop {D : Nat} {σ : pm_S} {Q : Option Value → pm_S → Prop} (cuts : List Nat) (f : Nat) {idx : Nat} {L st : List Value} (h : pm_G pc_21 (some .int) 21 D Q cuts f idx L st σ) : Ok 21 (D + 1) idx L st σ Q := Ok.go (M := (⟨"PaidWhereMade$Law", "pop", "()I"⟩, prog_3_method_10_code, 1, (some .int), 1, pc_21)) rfl cuts f h
theorem S_Law_copyFrom {D : Nat} {av : List Value} {σ : pm_S} {Q : Option Value → pm_S → Prop} (cuts : List Nat) (f : Nat) (hac : pm_ac 2 av = true) (h : pm_G pc_22 none 22 D Q cuts f 0 (pm_L0 2 av) [] σ) : Sp 22 (D + 1) av σ Q := Sp.go (M := (⟨"PaidWhereMade$Law", "copyFrom", "(LPaidWhereMade$Law;)V"⟩, prog_3_method_11_code, 2, none, 1, pc_22)) rfl hac cuts f h
theorem O_Law_copyFrom {D : Nat} {σ : pm_S} {Q : Option Value → pm_S → Prop} (cuts : List Nat) (f : Nat) {idx : Nat} {L st : List Value} (h : pm_G pc_22 none 22 D Q cuts f idx L st σ) : Ok 22 (D + 1) idx L st σ Q := Ok.go (M := (⟨"PaidWhereMade$Law", "copyFrom", "(LPaidWhereMade$Law;)V"⟩, prog_3_method_11_code, 2, none, 1, pc_22)) rfl cuts f h
theorem S_LawReader_init {D : Nat} {av : List Value} {σ : pm_S} {Q : Option Value → pm_S → Prop} (cuts : List Nat) (f : Nat) (hac : pm_ac 1 av = true) (h : pm_G pc_23 none 23 D Q cuts f 0 (pm_L0 1 av) [] σ) : Sp 23 (D + 1) av σ Q := Sp.go (M := (⟨"PaidWhereMade$LawReader", "<init>", "()V"⟩, prog_4_method_1_code, 1, none, 2, pc_23)) rfl hac cuts f h
theorem O_LawReader_init {D : Nat} {σ : pm_S} {Q : Option Value → pm_S → Prop} (cuts : List Nat) (f : Nat) {idx : Nat} {L st : List Value} (h : pm_G pc_23 none 23 D Q cuts f idx L st σ) : Ok 23 (D + 1) idx L st σ Q := Ok.go (M := (⟨"PaidWhereMade$LawReader", "<init>", "()V"⟩, prog_4_method_1_code, 1, none, 2, pc_23)) rfl cuts f h
theorem S_LawReader_addNumbers {D : Nat} {av : List Value} {σ : pm_S} {Q : Option Value → pm_S → Prop} (cuts : List Nat) (f : Nat) (hac : pm_ac 6 av = true) (h : pm_G pc_24 (some .int) 24 D Q cuts f 0 (pm_L0 6 av) [] σ) : Sp 24 (D + 1) av σ Q := Sp.go (M := (⟨"PaidWhereMade$LawReader", "addNumbers", "(IIIII)I"⟩, prog_4_method_2_code, 6, (some .int), 2, pc_24)) rfl hac cuts f h
theorem O_LawReader_addNumbers {D : Nat} {σ : pm_S} {Q : Option Value → pm_S → Prop} (cuts : List Nat) (f : Nat) {idx : Nat} {L st : List Value} (h : pm_G pc_24 (some .int) 24 D Q cuts f idx L st σ) : Ok 24 (D + 1) idx L st σ Q := Ok.go (M := (⟨"PaidWhereMade$LawReader", "addNumbers", "(IIIII)I"⟩, prog_4_method_2_code, 6, (some .int), 2, pc_24)) rfl cuts f h
theorem S_LawReader_addBytes {D : Nat} {av : List Value} {σ : pm_S} {Q : Option Value → pm_S → Prop} (cuts : List Nat) (f : Nat) (hac : pm_ac 3 av = true) (h : pm_G pc_25 none 25 D Q cuts f 0 (pm_L0 3 av) [] σ) : Sp 25 (D + 1) av σ Q := Sp.go (M := (⟨"PaidWhereMade$LawReader", "addBytes", "(I)V"⟩, prog_4_method_3_code, 3, none, 2, pc_25)) rfl hac cuts f h
theorem O_LawReader_addBytes {D : Nat} {σ : pm_S} {Q : Option Value → pm_S → Prop} (cuts : List Nat) (f : Nat) {idx : Nat} {L st : List Value} (h : pm_G pc_25 none 25 D Q cuts f idx L st σ) : Ok 25 (D + 1) idx L st σ Q := Ok.go (M := (⟨"PaidWhereMade$LawReader", "addBytes", "(I)V"⟩, prog_4_method_3_code, 3, none, 2, pc_25)) rfl cuts f h
theorem S_LawReader_cut {D : Nat} {av : List Value} {σ : pm_S} {Q : Option Value → pm_S → Prop} (cuts : List Nat) (f : Nat) (hac : pm_ac 2 av = true) (h : pm_G pc_26 (some .boolean) 26 D Q cuts f 0 (pm_L0 2 av) [] σ) : Sp 26 (D + 1) av σ Q := Sp.go (M := (⟨"PaidWhereMade$LawReader", "cut", "(I)Z"⟩, prog_4_method_4_code, 2, (some .boolean), 2, pc_26)) rfl hac cuts f h
theorem O_LawReader_cut {D : Nat} {σ : pm_S} {Q : Option Value → pm_S → Prop} (cuts : List Nat) (f : Nat) {idx : Nat} {L st : List Value} (h : pm_G pc_26 (some .boolean) 26 D Q cuts f idx L st σ) : Ok 26 (D + 1) idx L st σ Q := Ok.go (M := (⟨"PaidWhereMade$LawReader", "cut", "(I)Z"⟩, prog_4_method_4_code, 2, (some .boolean), 2, pc_26)) rfl cuts f h
theorem S_LawReader_readInto {D : Nat} {av : List Value} {σ : pm_S} {Q : Option Value → pm_S → Prop} (cuts : List Nat) (f : Nat) (hac : pm_ac 3 av = true) (h : pm_G pc_27 (some .int) 27 D Q cuts f 0 (pm_L0 3 av) [] σ) : Sp 27 (D + 1) av σ Q := Sp.go (M := (⟨"PaidWhereMade$LawReader", "readInto", "(LPaidWhereMade$Law;)I"⟩, prog_4_method_5_code, 3, (some .int), 2, pc_27)) rfl hac cuts f h
theorem O_LawReader_readInto {D : Nat} {σ : pm_S} {Q : Option Value → pm_S → Prop} (cuts : List Nat) (f : Nat) {idx : Nat} {L st : List Value} (h : pm_G pc_27 (some .int) 27 D Q cuts f idx L st σ) : Ok 27 (D + 1) idx L st σ Q := Ok.go (M := (⟨"PaidWhereMade$LawReader", "readInto", "(LPaidWhereMade$Law;)I"⟩, prog_4_method_5_code, 3, (some .int), 2, pc_27)) rfl cuts f h
theorem S_LawReader_fail {D : Nat} {av : List Value} {σ : pm_S} {Q : Option Value → pm_S → Prop} (cuts : List Nat) (f : Nat) (hac : pm_ac 2 av = true) (h : pm_G pc_28 none 28 D Q cuts f 0 (pm_L0 2 av) [] σ) : Sp 28 (D + 1) av σ Q := Sp.go (M := (⟨"PaidWhereMade$LawReader", "fail", "(I)V"⟩, prog_4_method_6_code, 2, none, 2, pc_28)) rfl hac cuts f h
theorem O_LawReader_fail {D : Nat} {σ : pm_S} {Q : Option Value → pm_S → Prop} (cuts : List Nat) (f : Nat) {idx : Nat} {L st : List Value} (h : pm_G pc_28 none 28 D Q cuts f idx L st σ) : Ok 28 (D + 1) idx L st σ Q := Ok.go (M := (⟨"PaidWhereMade$LawReader", "fail", "(I)V"⟩, prog_4_method_6_code, 2, none, 2, pc_28)) rfl cuts f h
theorem S_LawReader_advance {D : Nat} {av : List Value} {σ : pm_S} {Q : Option Value → pm_S → Prop} (cuts : List Nat) (f : Nat) (hac : pm_ac 1 av = true) (h : pm_G pc_29 none 29 D Q cuts f 0 (pm_L0 1 av) [] σ) : Sp 29 (D + 1) av σ Q := Sp.go (M := (⟨"PaidWhereMade$LawReader", "advance", "()V"⟩, prog_4_method_7_code, 1, none, 2, pc_29)) rfl hac cuts f h
theorem O_LawReader_advance {D : Nat} {σ : pm_S} {Q : Option Value → pm_S → Prop} (cuts : List Nat) (f : Nat) {idx : Nat} {L st : List Value} (h : pm_G pc_29 none 29 D Q cuts f idx L st σ) : Ok 29 (D + 1) idx L st σ Q := Ok.go (M := (⟨"PaidWhereMade$LawReader", "advance", "()V"⟩, prog_4_method_7_code, 1, none, 2, pc_29)) rfl cuts f h
theorem S_LawReader_expect {D : Nat} {av : List Value} {σ : pm_S} {Q : Option Value → pm_S → Prop} (cuts : List Nat) (f : Nat) (hac : pm_ac 2 av = true) (h : pm_G pc_30 none 30 D Q cuts f 0 (pm_L0 2 av) [] σ) : Sp 30 (D + 1) av σ Q := Sp.go (M := (⟨"PaidWhereMade$LawReader", "expect", "(I)V"⟩, prog_4_method_8_code, 2, none, 2, pc_30)) rfl hac cuts f h
theorem O_LawReader_expect {D : Nat} {σ : pm_S} {Q : Option Value → pm_S → Prop} (cuts : List Nat) (f : Nat) {idx : Nat} {L st : List Value} (h : pm_G pc_30 none 30 D Q cuts f idx L st σ) : Ok 30 (D + 1) idx L st σ Q := Ok.go (M := (⟨"PaidWhereMade$LawReader", "expect", "(I)V"⟩, prog_4_method_8_code, 2, none, 2, pc_30)) rfl cuts f h
theorem S_LawReader_readLine {D : Nat} {av : List Value} {σ : pm_S} {Q : Option Value → pm_S → Prop} (cuts : List Nat) (f : Nat) (hac : pm_ac 2 av = true) (h : pm_G pc_31 none 31 D Q cuts f 0 (pm_L0 2 av) [] σ) : Sp 31 (D + 1) av σ Q := Sp.go (M := (⟨"PaidWhereMade$LawReader", "readLine", "()V"⟩, prog_4_method_9_code, 2, none, 2, pc_31)) rfl hac cuts f h
theorem O_LawReader_readLine {D : Nat} {σ : pm_S} {Q : Option Value → pm_S → Prop} (cuts : List Nat) (f : Nat) {idx : Nat} {L st : List Value} (h : pm_G pc_31 none 31 D Q cuts f idx L st σ) : Ok 31 (D + 1) idx L st σ Q := Ok.go (M := (⟨"PaidWhereMade$LawReader", "readLine", "()V"⟩, prog_4_method_9_code, 2, none, 2, pc_31)) rfl cuts f h
theorem S_LawReader_readAny {D : Nat} {av : List Value} {σ : pm_S} {Q : Option Value → pm_S → Prop} (cuts : List Nat) (f : Nat) (hac : pm_ac 5 av = true) (h : pm_G pc_32 none 32 D Q cuts f 0 (pm_L0 5 av) [] σ) : Sp 32 (D + 1) av σ Q := Sp.go (M := (⟨"PaidWhereMade$LawReader", "readAny", "(I)V"⟩, prog_4_method_10_code, 5, none, 2, pc_32)) rfl hac cuts f h
theorem O_LawReader_readAny {D : Nat} {σ : pm_S} {Q : Option Value → pm_S → Prop} (cuts : List Nat) (f : Nat) {idx : Nat} {L st : List Value} (h : pm_G pc_32 none 32 D Q cuts f idx L st σ) : Ok 32 (D + 1) idx L st σ Q := Ok.go (M := (⟨"PaidWhereMade$LawReader", "readAny", "(I)V"⟩, prog_4_method_10_code, 5, none, 2, pc_32)) rfl cuts f h
theorem S_LawReader_readCondition {D : Nat} {av : List Value} {σ : pm_S} {Q : Option Value → pm_S → Prop} (cuts : List Nat) (f : Nat) (hac : pm_ac 3 av = true) (h : pm_G pc_33 none 33 D Q cuts f 0 (pm_L0 3 av) [] σ) : Sp 33 (D + 1) av σ Q := Sp.go (M := (⟨"PaidWhereMade$LawReader", "readCondition", "(I)V"⟩, prog_4_method_11_code, 3, none, 2, pc_33)) rfl hac cuts f h
theorem O_LawReader_readCondition {D : Nat} {σ : pm_S} {Q : Option Value → pm_S → Prop} (cuts : List Nat) (f : Nat) {idx : Nat} {L st : List Value} (h : pm_G pc_33 none 33 D Q cuts f idx L st σ) : Ok 33 (D + 1) idx L st σ Q := Ok.go (M := (⟨"PaidWhereMade$LawReader", "readCondition", "(I)V"⟩, prog_4_method_11_code, 3, none, 2, pc_33)) rfl cuts f h
theorem S_LawReader_readOpened {D : Nat} {av : List Value} {σ : pm_S} {Q : Option Value → pm_S → Prop} (cuts : List Nat) (f : Nat) (hac : pm_ac 2 av = true) (h : pm_G pc_34 none 34 D Q cuts f 0 (pm_L0 2 av) [] σ) : Sp 34 (D + 1) av σ Q := Sp.go (M := (⟨"PaidWhereMade$LawReader", "readOpened", "(I)V"⟩, prog_4_method_12_code, 2, none, 2, pc_34)) rfl hac cuts f h
theorem O_LawReader_readOpened {D : Nat} {σ : pm_S} {Q : Option Value → pm_S → Prop} (cuts : List Nat) (f : Nat) {idx : Nat} {L st : List Value} (h : pm_G pc_34 none 34 D Q cuts f idx L st σ) : Ok 34 (D + 1) idx L st σ Q := Ok.go (M := (⟨"PaidWhereMade$LawReader", "readOpened", "(I)V"⟩, prog_4_method_12_code, 2, none, 2, pc_34)) rfl cuts f h
theorem S_LawReader_readSide {D : Nat} {av : List Value} {σ : pm_S} {Q : Option Value → pm_S → Prop} (cuts : List Nat) (f : Nat) (hac : pm_ac 5 av = true) (h : pm_G pc_35 none 35 D Q cuts f 0 (pm_L0 5 av) [] σ) : Sp 35 (D + 1) av σ Q := Sp.go (M := (⟨"PaidWhereMade$LawReader", "readSide", "()V"⟩, prog_4_method_13_code, 5, none, 2, pc_35)) rfl hac cuts f h
theorem O_LawReader_readSide {D : Nat} {σ : pm_S} {Q : Option Value → pm_S → Prop} (cuts : List Nat) (f : Nat) {idx : Nat} {L st : List Value} (h : pm_G pc_35 none 35 D Q cuts f idx L st σ) : Ok 35 (D + 1) idx L st σ Q := Ok.go (M := (⟨"PaidWhereMade$LawReader", "readSide", "()V"⟩, prog_4_method_13_code, 5, none, 2, pc_35)) rfl cuts f h
theorem S_LawReader_checkDivisor {D : Nat} {av : List Value} {σ : pm_S} {Q : Option Value → pm_S → Prop} (cuts : List Nat) (f : Nat) (hac : pm_ac 1 av = true) (h : pm_G pc_36 none 36 D Q cuts f 0 (pm_L0 1 av) [] σ) : Sp 36 (D + 1) av σ Q := Sp.go (M := (⟨"PaidWhereMade$LawReader", "checkDivisor", "()V"⟩, prog_4_method_14_code, 1, none, 2, pc_36)) rfl hac cuts f h
theorem O_LawReader_checkDivisor {D : Nat} {σ : pm_S} {Q : Option Value → pm_S → Prop} (cuts : List Nat) (f : Nat) {idx : Nat} {L st : List Value} (h : pm_G pc_36 none 36 D Q cuts f idx L st σ) : Ok 36 (D + 1) idx L st σ Q := Ok.go (M := (⟨"PaidWhereMade$LawReader", "checkDivisor", "()V"⟩, prog_4_method_14_code, 1, none, 2, pc_36)) rfl cuts f h
theorem S_LawReader_readUnit {D : Nat} {av : List Value} {σ : pm_S} {Q : Option Value → pm_S → Prop} (cuts : List Nat) (f : Nat) (hac : pm_ac 1 av = true) (h : pm_G pc_37 none 37 D Q cuts f 0 (pm_L0 1 av) [] σ) : Sp 37 (D + 1) av σ Q := Sp.go (M := (⟨"PaidWhereMade$LawReader", "readUnit", "()V"⟩, prog_4_method_15_code, 1, none, 2, pc_37)) rfl hac cuts f h
theorem O_LawReader_readUnit {D : Nat} {σ : pm_S} {Q : Option Value → pm_S → Prop} (cuts : List Nat) (f : Nat) {idx : Nat} {L st : List Value} (h : pm_G pc_37 none 37 D Q cuts f idx L st σ) : Ok 37 (D + 1) idx L st σ Q := Ok.go (M := (⟨"PaidWhereMade$LawReader", "readUnit", "()V"⟩, prog_4_method_15_code, 1, none, 2, pc_37)) rfl cuts f h
theorem S_LawReader_splitTape {D : Nat} {av : List Value} {σ : pm_S} {Q : Option Value → pm_S → Prop} (cuts : List Nat) (f : Nat) (hac : pm_ac 5 av = true) (h : pm_G pc_38 none 38 D Q cuts f 0 (pm_L0 5 av) [] σ) : Sp 38 (D + 1) av σ Q := Sp.go (M := (⟨"PaidWhereMade$LawReader", "splitTape", "()V"⟩, prog_4_method_16_code, 5, none, 2, pc_38)) rfl hac cuts f h
theorem O_LawReader_splitTape {D : Nat} {σ : pm_S} {Q : Option Value → pm_S → Prop} (cuts : List Nat) (f : Nat) {idx : Nat} {L st : List Value} (h : pm_G pc_38 none 38 D Q cuts f idx L st σ) : Ok 38 (D + 1) idx L st σ Q := Ok.go (M := (⟨"PaidWhereMade$LawReader", "splitTape", "()V"⟩, prog_4_method_16_code, 5, none, 2, pc_38)) rfl cuts f h
theorem S_LawReader_addToken {D : Nat} {av : List Value} {σ : pm_S} {Q : Option Value → pm_S → Prop} (cuts : List Nat) (f : Nat) (hac : pm_ac 3 av = true) (h : pm_G pc_39 none 39 D Q cuts f 0 (pm_L0 3 av) [] σ) : Sp 39 (D + 1) av σ Q := Sp.go (M := (⟨"PaidWhereMade$LawReader", "addToken", "(II)V"⟩, prog_4_method_17_code, 3, none, 2, pc_39)) rfl hac cuts f h
theorem O_LawReader_addToken {D : Nat} {σ : pm_S} {Q : Option Value → pm_S → Prop} (cuts : List Nat) (f : Nat) {idx : Nat} {L st : List Value} (h : pm_G pc_39 none 39 D Q cuts f idx L st σ) : Ok 39 (D + 1) idx L st σ Q := Ok.go (M := (⟨"PaidWhereMade$LawReader", "addToken", "(II)V"⟩, prog_4_method_17_code, 3, none, 2, pc_39)) rfl cuts f h
theorem S_LawReader_byteAt {D : Nat} {av : List Value} {σ : pm_S} {Q : Option Value → pm_S → Prop} (cuts : List Nat) (f : Nat) (hac : pm_ac 2 av = true) (h : pm_G pc_40 (some .int) 40 D Q cuts f 0 (pm_L0 2 av) [] σ) : Sp 40 (D + 1) av σ Q := Sp.go (M := (⟨"PaidWhereMade$LawReader", "byteAt", "(I)I"⟩, prog_4_method_18_code, 2, (some .int), 2, pc_40)) rfl hac cuts f h
theorem O_LawReader_byteAt {D : Nat} {σ : pm_S} {Q : Option Value → pm_S → Prop} (cuts : List Nat) (f : Nat) {idx : Nat} {L st : List Value} (h : pm_G pc_40 (some .int) 40 D Q cuts f idx L st σ) : Ok 40 (D + 1) idx L st σ Q := Ok.go (M := (⟨"PaidWhereMade$LawReader", "byteAt", "(I)I"⟩, prog_4_method_18_code, 2, (some .int), 2, pc_40)) rfl cuts f h
theorem S_LawReader_isBlank {D : Nat} {av : List Value} {σ : pm_S} {Q : Option Value → pm_S → Prop} (cuts : List Nat) (f : Nat) (hac : pm_ac 1 av = true) (h : pm_G pc_41 (some .boolean) 41 D Q cuts f 0 (pm_L0 1 av) [] σ) : Sp 41 (D + 1) av σ Q := Sp.go (M := (⟨"PaidWhereMade$LawReader", "isBlank", "(I)Z"⟩, prog_4_method_19_code, 1, (some .boolean), 2, pc_41)) rfl hac cuts f h
theorem O_LawReader_isBlank {D : Nat} {σ : pm_S} {Q : Option Value → pm_S → Prop} (cuts : List Nat) (f : Nat) {idx : Nat} {L st : List Value} (h : pm_G pc_41 (some .boolean) 41 D Q cuts f idx L st σ) : Ok 41 (D + 1) idx L st σ Q := Ok.go (M := (⟨"PaidWhereMade$LawReader", "isBlank", "(I)Z"⟩, prog_4_method_19_code, 1, (some .boolean), 2, pc_41)) rfl cuts f h
theorem S_LawReader_isLetter {D : Nat} {av : List Value} {σ : pm_S} {Q : Option Value → pm_S → Prop} (cuts : List Nat) (f : Nat) (hac : pm_ac 1 av = true) (h : pm_G pc_42 (some .boolean) 42 D Q cuts f 0 (pm_L0 1 av) [] σ) : Sp 42 (D + 1) av σ Q := Sp.go (M := (⟨"PaidWhereMade$LawReader", "isLetter", "(I)Z"⟩, prog_4_method_20_code, 1, (some .boolean), 2, pc_42)) rfl hac cuts f h
theorem O_LawReader_isLetter {D : Nat} {σ : pm_S} {Q : Option Value → pm_S → Prop} (cuts : List Nat) (f : Nat) {idx : Nat} {L st : List Value} (h : pm_G pc_42 (some .boolean) 42 D Q cuts f idx L st σ) : Ok 42 (D + 1) idx L st σ Q := Ok.go (M := (⟨"PaidWhereMade$LawReader", "isLetter", "(I)Z"⟩, prog_4_method_20_code, 1, (some .boolean), 2, pc_42)) rfl cuts f h
theorem S_LawReader_isDigit {D : Nat} {av : List Value} {σ : pm_S} {Q : Option Value → pm_S → Prop} (cuts : List Nat) (f : Nat) (hac : pm_ac 1 av = true) (h : pm_G pc_43 (some .boolean) 43 D Q cuts f 0 (pm_L0 1 av) [] σ) : Sp 43 (D + 1) av σ Q := Sp.go (M := (⟨"PaidWhereMade$LawReader", "isDigit", "(I)Z"⟩, prog_4_method_21_code, 1, (some .boolean), 2, pc_43)) rfl hac cuts f h
theorem O_LawReader_isDigit {D : Nat} {σ : pm_S} {Q : Option Value → pm_S → Prop} (cuts : List Nat) (f : Nat) {idx : Nat} {L st : List Value} (h : pm_G pc_43 (some .boolean) 43 D Q cuts f idx L st σ) : Ok 43 (D + 1) idx L st σ Q := Ok.go (M := (⟨"PaidWhereMade$LawReader", "isDigit", "(I)Z"⟩, prog_4_method_21_code, 1, (some .boolean), 2, pc_43)) rfl cuts f h
theorem S_LawReader_behindLetters {D : Nat} {av : List Value} {σ : pm_S} {Q : Option Value → pm_S → Prop} (cuts : List Nat) (f : Nat) (hac : pm_ac 4 av = true) (h : pm_G pc_44 (some .int) 44 D Q cuts f 0 (pm_L0 4 av) [] σ) : Sp 44 (D + 1) av σ Q := Sp.go (M := (⟨"PaidWhereMade$LawReader", "behindLetters", "(I)I"⟩, prog_4_method_22_code, 4, (some .int), 2, pc_44)) rfl hac cuts f h
theorem O_LawReader_behindLetters {D : Nat} {σ : pm_S} {Q : Option Value → pm_S → Prop} (cuts : List Nat) (f : Nat) {idx : Nat} {L st : List Value} (h : pm_G pc_44 (some .int) 44 D Q cuts f idx L st σ) : Ok 44 (D + 1) idx L st σ Q := Ok.go (M := (⟨"PaidWhereMade$LawReader", "behindLetters", "(I)I"⟩, prog_4_method_22_code, 4, (some .int), 2, pc_44)) rfl cuts f h
theorem S_LawReader_behindDigits {D : Nat} {av : List Value} {σ : pm_S} {Q : Option Value → pm_S → Prop} (cuts : List Nat) (f : Nat) (hac : pm_ac 4 av = true) (h : pm_G pc_45 (some .int) 45 D Q cuts f 0 (pm_L0 4 av) [] σ) : Sp 45 (D + 1) av σ Q := Sp.go (M := (⟨"PaidWhereMade$LawReader", "behindDigits", "(I)I"⟩, prog_4_method_23_code, 4, (some .int), 2, pc_45)) rfl hac cuts f h
theorem O_LawReader_behindDigits {D : Nat} {σ : pm_S} {Q : Option Value → pm_S → Prop} (cuts : List Nat) (f : Nat) {idx : Nat} {L st : List Value} (h : pm_G pc_45 (some .int) 45 D Q cuts f idx L st σ) : Ok 45 (D + 1) idx L st σ Q := Ok.go (M := (⟨"PaidWhereMade$LawReader", "behindDigits", "(I)I"⟩, prog_4_method_23_code, 4, (some .int), 2, pc_45)) rfl cuts f h
theorem S_LawReader_wordToken {D : Nat} {av : List Value} {σ : pm_S} {Q : Option Value → pm_S → Prop} (cuts : List Nat) (f : Nat) (hac : pm_ac 6 av = true) (h : pm_G pc_46 (some .int) 46 D Q cuts f 0 (pm_L0 6 av) [] σ) : Sp 46 (D + 1) av σ Q := Sp.go (M := (⟨"PaidWhereMade$LawReader", "wordToken", "(II)I"⟩, prog_4_method_24_code, 6, (some .int), 2, pc_46)) rfl hac cuts f h
theorem O_LawReader_wordToken {D : Nat} {σ : pm_S} {Q : Option Value → pm_S → Prop} (cuts : List Nat) (f : Nat) {idx : Nat} {L st : List Value} (h : pm_G pc_46 (some .int) 46 D Q cuts f idx L st σ) : Ok 46 (D + 1) idx L st σ Q := Ok.go (M := (⟨"PaidWhereMade$LawReader", "wordToken", "(II)I"⟩, prog_4_method_24_code, 6, (some .int), 2, pc_46)) rfl cuts f h
theorem S_LawReader_isKeyword {D : Nat} {av : List Value} {σ : pm_S} {Q : Option Value → pm_S → Prop} (cuts : List Nat) (f : Nat) (hac : pm_ac 5 av = true) (h : pm_G pc_47 (some .boolean) 47 D Q cuts f 0 (pm_L0 5 av) [] σ) : Sp 47 (D + 1) av σ Q := Sp.go (M := (⟨"PaidWhereMade$LawReader", "isKeyword", "(III)Z"⟩, prog_4_method_25_code, 5, (some .boolean), 2, pc_47)) rfl hac cuts f h
theorem O_LawReader_isKeyword {D : Nat} {σ : pm_S} {Q : Option Value → pm_S → Prop} (cuts : List Nat) (f : Nat) {idx : Nat} {L st : List Value} (h : pm_G pc_47 (some .boolean) 47 D Q cuts f idx L st σ) : Ok 47 (D + 1) idx L st σ Q := Ok.go (M := (⟨"PaidWhereMade$LawReader", "isKeyword", "(III)Z"⟩, prog_4_method_25_code, 5, (some .boolean), 2, pc_47)) rfl cuts f h
theorem S_LawReader_numberToken {D : Nat} {av : List Value} {σ : pm_S} {Q : Option Value → pm_S → Prop} (cuts : List Nat) (f : Nat) (hac : pm_ac 5 av = true) (h : pm_G pc_48 (some .int) 48 D Q cuts f 0 (pm_L0 5 av) [] σ) : Sp 48 (D + 1) av σ Q := Sp.go (M := (⟨"PaidWhereMade$LawReader", "numberToken", "(II)I"⟩, prog_4_method_26_code, 5, (some .int), 2, pc_48)) rfl hac cuts f h
theorem O_LawReader_numberToken {D : Nat} {σ : pm_S} {Q : Option Value → pm_S → Prop} (cuts : List Nat) (f : Nat) {idx : Nat} {L st : List Value} (h : pm_G pc_48 (some .int) 48 D Q cuts f idx L st σ) : Ok 48 (D + 1) idx L st σ Q := Ok.go (M := (⟨"PaidWhereMade$LawReader", "numberToken", "(II)I"⟩, prog_4_method_26_code, 5, (some .int), 2, pc_48)) rfl cuts f h
theorem S_LawReader_signToken {D : Nat} {av : List Value} {σ : pm_S} {Q : Option Value → pm_S → Prop} (cuts : List Nat) (f : Nat) (hac : pm_ac 2 av = true) (h : pm_G pc_49 (some .int) 49 D Q cuts f 0 (pm_L0 2 av) [] σ) : Sp 49 (D + 1) av σ Q := Sp.go (M := (⟨"PaidWhereMade$LawReader", "signToken", "(I)I"⟩, prog_4_method_27_code, 2, (some .int), 2, pc_49)) rfl hac cuts f h
theorem O_LawReader_signToken {D : Nat} {σ : pm_S} {Q : Option Value → pm_S → Prop} (cuts : List Nat) (f : Nat) {idx : Nat} {L st : List Value} (h : pm_G pc_49 (some .int) 49 D Q cuts f idx L st σ) : Ok 49 (D + 1) idx L st σ Q := Ok.go (M := (⟨"PaidWhereMade$LawReader", "signToken", "(I)I"⟩, prog_4_method_27_code, 2, (some .int), 2, pc_49)) rfl cuts f h
theorem S_Lines_init {D : Nat} {av : List Value} {σ : pm_S} {Q : Option Value → pm_S → Prop} (cuts : List Nat) (f : Nat) (hac : pm_ac 1 av = true) (h : pm_G pc_50 none 50 D Q cuts f 0 (pm_L0 1 av) [] σ) : Sp 50 (D + 1) av σ Q := Sp.go (M := (⟨"PaidWhereMade$Lines", "<init>", "()V"⟩, prog_5_method_1_code, 1, none, 3, pc_50)) rfl hac cuts f h
theorem O_Lines_init {D : Nat} {σ : pm_S} {Q : Option Value → pm_S → Prop} (cuts : List Nat) (f : Nat) {idx : Nat} {L st : List Value} (h : pm_G pc_50 none 50 D Q cuts f idx L st σ) : Ok 50 (D + 1) idx L st σ Q := Ok.go (M := (⟨"PaidWhereMade$Lines", "<init>", "()V"⟩, prog_5_method_1_code, 1, none, 3, pc_50)) rfl cuts f h
theorem S_Lines_add {D : Nat} {av : List Value} {σ : pm_S} {Q : Option Value → pm_S → Prop} (cuts : List Nat) (f : Nat) (hac : pm_ac 5 av = true) (h : pm_G pc_51 (some .int) 51 D Q cuts f 0 (pm_L0 5 av) [] σ) : Sp 51 (D + 1) av σ Q := Sp.go (M := (⟨"PaidWhereMade$Lines", "add", "(IIII)I"⟩, prog_5_method_2_code, 5, (some .int), 3, pc_51)) rfl hac cuts f h
theorem O_Lines_add {D : Nat} {σ : pm_S} {Q : Option Value → pm_S → Prop} (cuts : List Nat) (f : Nat) {idx : Nat} {L st : List Value} (h : pm_G pc_51 (some .int) 51 D Q cuts f idx L st σ) : Ok 51 (D + 1) idx L st σ Q := Ok.go (M := (⟨"PaidWhereMade$Lines", "add", "(IIII)I"⟩, prog_5_method_2_code, 5, (some .int), 3, pc_51)) rfl cuts f h
theorem S_Lines_fewestWrong {D : Nat} {av : List Value} {σ : pm_S} {Q : Option Value → pm_S → Prop} (cuts : List Nat) (f : Nat) (hac : pm_ac 5 av = true) (h : pm_G pc_52 (some .int) 52 D Q cuts f 0 (pm_L0 5 av) [] σ) : Sp 52 (D + 1) av σ Q := Sp.go (M := (⟨"PaidWhereMade$Lines", "fewestWrong", "(I)I"⟩, prog_5_method_3_code, 5, (some .int), 3, pc_52)) rfl hac cuts f h
theorem O_Lines_fewestWrong {D : Nat} {σ : pm_S} {Q : Option Value → pm_S → Prop} (cuts : List Nat) (f : Nat) {idx : Nat} {L st : List Value} (h : pm_G pc_52 (some .int) 52 D Q cuts f idx L st σ) : Ok 52 (D + 1) idx L st σ Q := Ok.go (M := (⟨"PaidWhereMade$Lines", "fewestWrong", "(I)I"⟩, prog_5_method_3_code, 5, (some .int), 3, pc_52)) rfl cuts f h
theorem S_Lines_seatNamed {D : Nat} {av : List Value} {σ : pm_S} {Q : Option Value → pm_S → Prop} (cuts : List Nat) (f : Nat) (hac : pm_ac 4 av = true) (h : pm_G pc_53 (some .int) 53 D Q cuts f 0 (pm_L0 4 av) [] σ) : Sp 53 (D + 1) av σ Q := Sp.go (M := (⟨"PaidWhereMade$Lines", "seatNamed", "(I)I"⟩, prog_5_method_4_code, 4, (some .int), 3, pc_53)) rfl hac cuts f h
theorem O_Lines_seatNamed {D : Nat} {σ : pm_S} {Q : Option Value → pm_S → Prop} (cuts : List Nat) (f : Nat) {idx : Nat} {L st : List Value} (h : pm_G pc_53 (some .int) 53 D Q cuts f idx L st σ) : Ok 53 (D + 1) idx L st σ Q := Ok.go (M := (⟨"PaidWhereMade$Lines", "seatNamed", "(I)I"⟩, prog_5_method_4_code, 4, (some .int), 3, pc_53)) rfl cuts f h
theorem S_Lines_seat {D : Nat} {av : List Value} {σ : pm_S} {Q : Option Value → pm_S → Prop} (cuts : List Nat) (f : Nat) (hac : pm_ac 3 av = true) (h : pm_G pc_54 (some .int) 54 D Q cuts f 0 (pm_L0 3 av) [] σ) : Sp 54 (D + 1) av σ Q := Sp.go (M := (⟨"PaidWhereMade$Lines", "seat", "(II)I"⟩, prog_5_method_5_code, 3, (some .int), 3, pc_54)) rfl hac cuts f h
theorem O_Lines_seat {D : Nat} {σ : pm_S} {Q : Option Value → pm_S → Prop} (cuts : List Nat) (f : Nat) {idx : Nat} {L st : List Value} (h : pm_G pc_54 (some .int) 54 D Q cuts f idx L st σ) : Ok 54 (D + 1) idx L st σ Q := Ok.go (M := (⟨"PaidWhereMade$Lines", "seat", "(II)I"⟩, prog_5_method_5_code, 3, (some .int), 3, pc_54)) rfl cuts f h
theorem S_Lines_bitOf {D : Nat} {av : List Value} {σ : pm_S} {Q : Option Value → pm_S → Prop} (cuts : List Nat) (f : Nat) (hac : pm_ac 2 av = true) (h : pm_G pc_55 (some .int) 55 D Q cuts f 0 (pm_L0 2 av) [] σ) : Sp 55 (D + 1) av σ Q := Sp.go (M := (⟨"PaidWhereMade$Lines", "bitOf", "(I)I"⟩, prog_5_method_6_code, 2, (some .int), 3, pc_55)) rfl hac cuts f h
theorem O_Lines_bitOf {D : Nat} {σ : pm_S} {Q : Option Value → pm_S → Prop} (cuts : List Nat) (f : Nat) {idx : Nat} {L st : List Value} (h : pm_G pc_55 (some .int) 55 D Q cuts f idx L st σ) : Ok 55 (D + 1) idx L st σ Q := Ok.go (M := (⟨"PaidWhereMade$Lines", "bitOf", "(I)I"⟩, prog_5_method_6_code, 2, (some .int), 3, pc_55)) rfl cuts f h
theorem S_Lines_fewestOfSet {D : Nat} {av : List Value} {σ : pm_S} {Q : Option Value → pm_S → Prop} (cuts : List Nat) (f : Nat) (hac : pm_ac 8 av = true) (h : pm_G pc_56 (some .int) 56 D Q cuts f 0 (pm_L0 8 av) [] σ) : Sp 56 (D + 1) av σ Q := Sp.go (M := (⟨"PaidWhereMade$Lines", "fewestOfSet", "(I)I"⟩, prog_5_method_7_code, 8, (some .int), 3, pc_56)) rfl hac cuts f h
theorem O_Lines_fewestOfSet {D : Nat} {σ : pm_S} {Q : Option Value → pm_S → Prop} (cuts : List Nat) (f : Nat) {idx : Nat} {L st : List Value} (h : pm_G pc_56 (some .int) 56 D Q cuts f idx L st σ) : Ok 56 (D + 1) idx L st σ Q := Ok.go (M := (⟨"PaidWhereMade$Lines", "fewestOfSet", "(I)I"⟩, prog_5_method_7_code, 8, (some .int), 3, pc_56)) rfl cuts f h
theorem S_Lines_wrongIfTogether {D : Nat} {av : List Value} {σ : pm_S} {Q : Option Value → pm_S → Prop} (cuts : List Nat) (f : Nat) (hac : pm_ac 6 av = true) (h : pm_G pc_57 (some .int) 57 D Q cuts f 0 (pm_L0 6 av) [] σ) : Sp 57 (D + 1) av σ Q := Sp.go (M := (⟨"PaidWhereMade$Lines", "wrongIfTogether", "(I)I"⟩, prog_5_method_8_code, 6, (some .int), 3, pc_57)) rfl hac cuts f h
theorem O_Lines_wrongIfTogether {D : Nat} {σ : pm_S} {Q : Option Value → pm_S → Prop} (cuts : List Nat) (f : Nat) {idx : Nat} {L st : List Value} (h : pm_G pc_57 (some .int) 57 D Q cuts f idx L st σ) : Ok 57 (D + 1) idx L st σ Q := Ok.go (M := (⟨"PaidWhereMade$Lines", "wrongIfTogether", "(I)I"⟩, prog_5_method_8_code, 6, (some .int), 3, pc_57)) rfl cuts f h
theorem S_Lines_meetingsBetween {D : Nat} {av : List Value} {σ : pm_S} {Q : Option Value → pm_S → Prop} (cuts : List Nat) (f : Nat) (hac : pm_ac 5 av = true) (h : pm_G pc_58 (some .int) 58 D Q cuts f 0 (pm_L0 5 av) [] σ) : Sp 58 (D + 1) av σ Q := Sp.go (M := (⟨"PaidWhereMade$Lines", "meetingsBetween", "(II)I"⟩, prog_5_method_9_code, 5, (some .int), 3, pc_58)) rfl hac cuts f h
theorem O_Lines_meetingsBetween {D : Nat} {σ : pm_S} {Q : Option Value → pm_S → Prop} (cuts : List Nat) (f : Nat) {idx : Nat} {L st : List Value} (h : pm_G pc_58 (some .int) 58 D Q cuts f idx L st σ) : Ok 58 (D + 1) idx L st σ Q := Ok.go (M := (⟨"PaidWhereMade$Lines", "meetingsBetween", "(II)I"⟩, prog_5_method_9_code, 5, (some .int), 3, pc_58)) rfl cuts f h
theorem S_Lines_copyFrom {D : Nat} {av : List Value} {σ : pm_S} {Q : Option Value → pm_S → Prop} (cuts : List Nat) (f : Nat) (hac : pm_ac 2 av = true) (h : pm_G pc_59 none 59 D Q cuts f 0 (pm_L0 2 av) [] σ) : Sp 59 (D + 1) av σ Q := Sp.go (M := (⟨"PaidWhereMade$Lines", "copyFrom", "(LPaidWhereMade$Lines;)V"⟩, prog_5_method_10_code, 2, none, 3, pc_59)) rfl hac cuts f h
theorem O_Lines_copyFrom {D : Nat} {σ : pm_S} {Q : Option Value → pm_S → Prop} (cuts : List Nat) (f : Nat) {idx : Nat} {L st : List Value} (h : pm_G pc_59 none 59 D Q cuts f idx L st σ) : Ok 59 (D + 1) idx L st σ Q := Ok.go (M := (⟨"PaidWhereMade$Lines", "copyFrom", "(LPaidWhereMade$Lines;)V"⟩, prog_5_method_10_code, 2, none, 3, pc_59)) rfl cuts f h
theorem S_People_init {D : Nat} {av : List Value} {σ : pm_S} {Q : Option Value → pm_S → Prop} (cuts : List Nat) (f : Nat) (hac : pm_ac 1 av = true) (h : pm_G pc_60 none 60 D Q cuts f 0 (pm_L0 1 av) [] σ) : Sp 60 (D + 1) av σ Q := Sp.go (M := (⟨"PaidWhereMade$People", "<init>", "()V"⟩, prog_6_method_1_code, 1, none, 4, pc_60)) rfl hac cuts f h
theorem O_People_init {D : Nat} {σ : pm_S} {Q : Option Value → pm_S → Prop} (cuts : List Nat) (f : Nat) {idx : Nat} {L st : List Value} (h : pm_G pc_60 none 60 D Q cuts f idx L st σ) : Ok 60 (D + 1) idx L st σ Q := Ok.go (M := (⟨"PaidWhereMade$People", "<init>", "()V"⟩, prog_6_method_1_code, 1, none, 4, pc_60)) rfl cuts f h
theorem S_People_has {D : Nat} {av : List Value} {σ : pm_S} {Q : Option Value → pm_S → Prop} (cuts : List Nat) (f : Nat) (hac : pm_ac 2 av = true) (h : pm_G pc_61 (some .boolean) 61 D Q cuts f 0 (pm_L0 2 av) [] σ) : Sp 61 (D + 1) av σ Q := Sp.go (M := (⟨"PaidWhereMade$People", "has", "(I)Z"⟩, prog_6_method_2_code, 2, (some .boolean), 4, pc_61)) rfl hac cuts f h
theorem O_People_has {D : Nat} {σ : pm_S} {Q : Option Value → pm_S → Prop} (cuts : List Nat) (f : Nat) {idx : Nat} {L st : List Value} (h : pm_G pc_61 (some .boolean) 61 D Q cuts f idx L st σ) : Ok 61 (D + 1) idx L st σ Q := Ok.go (M := (⟨"PaidWhereMade$People", "has", "(I)Z"⟩, prog_6_method_2_code, 2, (some .boolean), 4, pc_61)) rfl cuts f h
theorem S_People_add {D : Nat} {av : List Value} {σ : pm_S} {Q : Option Value → pm_S → Prop} (cuts : List Nat) (f : Nat) (hac : pm_ac 5 av = true) (h : pm_G pc_62 (some .int) 62 D Q cuts f 0 (pm_L0 5 av) [] σ) : Sp 62 (D + 1) av σ Q := Sp.go (M := (⟨"PaidWhereMade$People", "add", "(III)I"⟩, prog_6_method_3_code, 5, (some .int), 4, pc_62)) rfl hac cuts f h
theorem O_People_add {D : Nat} {σ : pm_S} {Q : Option Value → pm_S → Prop} (cuts : List Nat) (f : Nat) {idx : Nat} {L st : List Value} (h : pm_G pc_62 (some .int) 62 D Q cuts f idx L st σ) : Ok 62 (D + 1) idx L st σ Q := Ok.go (M := (⟨"PaidWhereMade$People", "add", "(III)I"⟩, prog_6_method_3_code, 5, (some .int), 4, pc_62)) rfl cuts f h
theorem S_People_aimHome {D : Nat} {av : List Value} {σ : pm_S} {Q : Option Value → pm_S → Prop} (cuts : List Nat) (f : Nat) (hac : pm_ac 1 av = true) (h : pm_G pc_63 none 63 D Q cuts f 0 (pm_L0 1 av) [] σ) : Sp 63 (D + 1) av σ Q := Sp.go (M := (⟨"PaidWhereMade$People", "aimHome", "()V"⟩, prog_6_method_4_code, 1, none, 4, pc_63)) rfl hac cuts f h
theorem O_People_aimHome {D : Nat} {σ : pm_S} {Q : Option Value → pm_S → Prop} (cuts : List Nat) (f : Nat) {idx : Nat} {L st : List Value} (h : pm_G pc_63 none 63 D Q cuts f idx L st σ) : Ok 63 (D + 1) idx L st σ Q := Ok.go (M := (⟨"PaidWhereMade$People", "aimHome", "()V"⟩, prog_6_method_4_code, 1, none, 4, pc_63)) rfl cuts f h
theorem S_People_countAt {D : Nat} {av : List Value} {σ : pm_S} {Q : Option Value → pm_S → Prop} (cuts : List Nat) (f : Nat) (hac : pm_ac 4 av = true) (h : pm_G pc_64 (some .int) 64 D Q cuts f 0 (pm_L0 4 av) [] σ) : Sp 64 (D + 1) av σ Q := Sp.go (M := (⟨"PaidWhereMade$People", "countAt", "(I)I"⟩, prog_6_method_5_code, 4, (some .int), 4, pc_64)) rfl hac cuts f h
theorem O_People_countAt {D : Nat} {σ : pm_S} {Q : Option Value → pm_S → Prop} (cuts : List Nat) (f : Nat) {idx : Nat} {L st : List Value} (h : pm_G pc_64 (some .int) 64 D Q cuts f idx L st σ) : Ok 64 (D + 1) idx L st σ Q := Ok.go (M := (⟨"PaidWhereMade$People", "countAt", "(I)I"⟩, prog_6_method_5_code, 4, (some .int), 4, pc_64)) rfl cuts f h
theorem S_People_homesOf {D : Nat} {av : List Value} {σ : pm_S} {Q : Option Value → pm_S → Prop} (cuts : List Nat) (f : Nat) (hac : pm_ac 4 av = true) (h : pm_G pc_65 (some .int) 65 D Q cuts f 0 (pm_L0 4 av) [] σ) : Sp 65 (D + 1) av σ Q := Sp.go (M := (⟨"PaidWhereMade$People", "homesOf", "(I)I"⟩, prog_6_method_6_code, 4, (some .int), 4, pc_65)) rfl hac cuts f h
theorem O_People_homesOf {D : Nat} {σ : pm_S} {Q : Option Value → pm_S → Prop} (cuts : List Nat) (f : Nat) {idx : Nat} {L st : List Value} (h : pm_G pc_65 (some .int) 65 D Q cuts f idx L st σ) : Ok 65 (D + 1) idx L st σ Q := Ok.go (M := (⟨"PaidWhereMade$People", "homesOf", "(I)I"⟩, prog_6_method_6_code, 4, (some .int), 4, pc_65)) rfl cuts f h
theorem S_People_copyFrom {D : Nat} {av : List Value} {σ : pm_S} {Q : Option Value → pm_S → Prop} (cuts : List Nat) (f : Nat) (hac : pm_ac 2 av = true) (h : pm_G pc_66 none 66 D Q cuts f 0 (pm_L0 2 av) [] σ) : Sp 66 (D + 1) av σ Q := Sp.go (M := (⟨"PaidWhereMade$People", "copyFrom", "(LPaidWhereMade$People;)V"⟩, prog_6_method_7_code, 2, none, 4, pc_66)) rfl hac cuts f h
theorem O_People_copyFrom {D : Nat} {σ : pm_S} {Q : Option Value → pm_S → Prop} (cuts : List Nat) (f : Nat) {idx : Nat} {L st : List Value} (h : pm_G pc_66 none 66 D Q cuts f idx L st σ) : Ok 66 (D + 1) idx L st σ Q := Ok.go (M := (⟨"PaidWhereMade$People", "copyFrom", "(LPaidWhereMade$People;)V"⟩, prog_6_method_7_code, 2, none, 4, pc_66)) rfl cuts f h
theorem S_Plans_init {D : Nat} {av : List Value} {σ : pm_S} {Q : Option Value → pm_S → Prop} (cuts : List Nat) (f : Nat) (hac : pm_ac 2 av = true) (h : pm_G pc_67 none 67 D Q cuts f 0 (pm_L0 2 av) [] σ) : Sp 67 (D + 1) av σ Q := Sp.go (M := (⟨"PaidWhereMade$Plans", "<init>", "(LPaidWhereMade$Town;)V"⟩, prog_7_method_1_code, 2, none, 5, pc_67)) rfl hac cuts f h
theorem O_Plans_init {D : Nat} {σ : pm_S} {Q : Option Value → pm_S → Prop} (cuts : List Nat) (f : Nat) {idx : Nat} {L st : List Value} (h : pm_G pc_67 none 67 D Q cuts f idx L st σ) : Ok 67 (D + 1) idx L st σ Q := Ok.go (M := (⟨"PaidWhereMade$Plans", "<init>", "(LPaidWhereMade$Town;)V"⟩, prog_7_method_1_code, 2, none, 5, pc_67)) rfl cuts f h
theorem S_Plans_clearing {D : Nat} {av : List Value} {σ : pm_S} {Q : Option Value → pm_S → Prop} (cuts : List Nat) (f : Nat) (hac : pm_ac 3 av = true) (h : pm_G pc_68 (some .int) 68 D Q cuts f 0 (pm_L0 3 av) [] σ) : Sp 68 (D + 1) av σ Q := Sp.go (M := (⟨"PaidWhereMade$Plans", "clearing", "(I)I"⟩, prog_7_method_2_code, 3, (some .int), 5, pc_68)) rfl hac cuts f h
theorem O_Plans_clearing {D : Nat} {σ : pm_S} {Q : Option Value → pm_S → Prop} (cuts : List Nat) (f : Nat) {idx : Nat} {L st : List Value} (h : pm_G pc_68 (some .int) 68 D Q cuts f idx L st σ) : Ok 68 (D + 1) idx L st σ Q := Ok.go (M := (⟨"PaidWhereMade$Plans", "clearing", "(I)I"⟩, prog_7_method_2_code, 3, (some .int), 5, pc_68)) rfl cuts f h
theorem S_Plans_gatherOpen {D : Nat} {av : List Value} {σ : pm_S} {Q : Option Value → pm_S → Prop} (cuts : List Nat) (f : Nat) (hac : pm_ac 4 av = true) (h : pm_G pc_69 (some .boolean) 69 D Q cuts f 0 (pm_L0 4 av) [] σ) : Sp 69 (D + 1) av σ Q := Sp.go (M := (⟨"PaidWhereMade$Plans", "gatherOpen", "(II)Z"⟩, prog_7_method_3_code, 4, (some .boolean), 5, pc_69)) rfl hac cuts f h
theorem O_Plans_gatherOpen {D : Nat} {σ : pm_S} {Q : Option Value → pm_S → Prop} (cuts : List Nat) (f : Nat) {idx : Nat} {L st : List Value} (h : pm_G pc_69 (some .boolean) 69 D Q cuts f idx L st σ) : Ok 69 (D + 1) idx L st σ Q := Ok.go (M := (⟨"PaidWhereMade$Plans", "gatherOpen", "(II)Z"⟩, prog_7_method_3_code, 4, (some .boolean), 5, pc_69)) rfl cuts f h
theorem S_Plans_noteClashes {D : Nat} {av : List Value} {σ : pm_S} {Q : Option Value → pm_S → Prop} (cuts : List Nat) (f : Nat) (hac : pm_ac 4 av = true) (h : pm_G pc_70 none 70 D Q cuts f 0 (pm_L0 4 av) [] σ) : Sp 70 (D + 1) av σ Q := Sp.go (M := (⟨"PaidWhereMade$Plans", "noteClashes", "()V"⟩, prog_7_method_4_code, 4, none, 5, pc_70)) rfl hac cuts f h
theorem O_Plans_noteClashes {D : Nat} {σ : pm_S} {Q : Option Value → pm_S → Prop} (cuts : List Nat) (f : Nat) {idx : Nat} {L st : List Value} (h : pm_G pc_70 none 70 D Q cuts f idx L st σ) : Ok 70 (D + 1) idx L st σ Q := Ok.go (M := (⟨"PaidWhereMade$Plans", "noteClashes", "()V"⟩, prog_7_method_4_code, 4, none, 5, pc_70)) rfl cuts f h
theorem S_Plans_countSundays {D : Nat} {av : List Value} {σ : pm_S} {Q : Option Value → pm_S → Prop} (cuts : List Nat) (f : Nat) (hac : pm_ac 6 av = true) (h : pm_G pc_71 none 71 D Q cuts f 0 (pm_L0 6 av) [] σ) : Sp 71 (D + 1) av σ Q := Sp.go (M := (⟨"PaidWhereMade$Plans", "countSundays", "(I)V"⟩, prog_7_method_5_code, 6, none, 5, pc_71)) rfl hac cuts f h
theorem O_Plans_countSundays {D : Nat} {σ : pm_S} {Q : Option Value → pm_S → Prop} (cuts : List Nat) (f : Nat) {idx : Nat} {L st : List Value} (h : pm_G pc_71 none 71 D Q cuts f idx L st σ) : Ok 71 (D + 1) idx L st σ Q := Ok.go (M := (⟨"PaidWhereMade$Plans", "countSundays", "(I)V"⟩, prog_7_method_5_code, 6, none, 5, pc_71)) rfl cuts f h
theorem S_Plans_fewestSundays {D : Nat} {av : List Value} {σ : pm_S} {Q : Option Value → pm_S → Prop} (cuts : List Nat) (f : Nat) (hac : pm_ac 5 av = true) (h : pm_G pc_72 (some .int) 72 D Q cuts f 0 (pm_L0 5 av) [] σ) : Sp 72 (D + 1) av σ Q := Sp.go (M := (⟨"PaidWhereMade$Plans", "fewestSundays", "(II)I"⟩, prog_7_method_6_code, 5, (some .int), 5, pc_72)) rfl hac cuts f h
theorem O_Plans_fewestSundays {D : Nat} {σ : pm_S} {Q : Option Value → pm_S → Prop} (cuts : List Nat) (f : Nat) {idx : Nat} {L st : List Value} (h : pm_G pc_72 (some .int) 72 D Q cuts f idx L st σ) : Ok 72 (D + 1) idx L st σ Q := Ok.go (M := (⟨"PaidWhereMade$Plans", "fewestSundays", "(II)I"⟩, prog_7_method_6_code, 5, (some .int), 5, pc_72)) rfl cuts f h
theorem S_Plans_setOfSunday {D : Nat} {av : List Value} {σ : pm_S} {Q : Option Value → pm_S → Prop} (cuts : List Nat) (f : Nat) (hac : pm_ac 6 av = true) (h : pm_G pc_73 (some .int) 73 D Q cuts f 0 (pm_L0 6 av) [] σ) : Sp 73 (D + 1) av σ Q := Sp.go (M := (⟨"PaidWhereMade$Plans", "setOfSunday", "(II)I"⟩, prog_7_method_7_code, 6, (some .int), 5, pc_73)) rfl hac cuts f h
theorem O_Plans_setOfSunday {D : Nat} {σ : pm_S} {Q : Option Value → pm_S → Prop} (cuts : List Nat) (f : Nat) {idx : Nat} {L st : List Value} (h : pm_G pc_73 (some .int) 73 D Q cuts f idx L st σ) : Ok 73 (D + 1) idx L st σ Q := Ok.go (M := (⟨"PaidWhereMade$Plans", "setOfSunday", "(II)I"⟩, prog_7_method_7_code, 6, (some .int), 5, pc_73)) rfl cuts f h
theorem S_Plans_greatestSet {D : Nat} {av : List Value} {σ : pm_S} {Q : Option Value → pm_S → Prop} (cuts : List Nat) (f : Nat) (hac : pm_ac 3 av = true) (h : pm_G pc_74 (some .int) 74 D Q cuts f 0 (pm_L0 3 av) [] σ) : Sp 74 (D + 1) av σ Q := Sp.go (M := (⟨"PaidWhereMade$Plans", "greatestSet", "(I)I"⟩, prog_7_method_8_code, 3, (some .int), 5, pc_74)) rfl hac cuts f h
theorem O_Plans_greatestSet {D : Nat} {σ : pm_S} {Q : Option Value → pm_S → Prop} (cuts : List Nat) (f : Nat) {idx : Nat} {L st : List Value} (h : pm_G pc_74 (some .int) 74 D Q cuts f idx L st σ) : Ok 74 (D + 1) idx L st σ Q := Ok.go (M := (⟨"PaidWhereMade$Plans", "greatestSet", "(I)I"⟩, prog_7_method_8_code, 3, (some .int), 5, pc_74)) rfl cuts f h
theorem S_Plans_paying {D : Nat} {av : List Value} {σ : pm_S} {Q : Option Value → pm_S → Prop} (cuts : List Nat) (f : Nat) (hac : pm_ac 5 av = true) (h : pm_G pc_75 (some .int) 75 D Q cuts f 0 (pm_L0 5 av) [] σ) : Sp 75 (D + 1) av σ Q := Sp.go (M := (⟨"PaidWhereMade$Plans", "paying", "(II)I"⟩, prog_7_method_9_code, 5, (some .int), 5, pc_75)) rfl hac cuts f h
theorem O_Plans_paying {D : Nat} {σ : pm_S} {Q : Option Value → pm_S → Prop} (cuts : List Nat) (f : Nat) {idx : Nat} {L st : List Value} (h : pm_G pc_75 (some .int) 75 D Q cuts f idx L st σ) : Ok 75 (D + 1) idx L st σ Q := Ok.go (M := (⟨"PaidWhereMade$Plans", "paying", "(II)I"⟩, prog_7_method_9_code, 5, (some .int), 5, pc_75)) rfl cuts f h
theorem S_Plans_growDebts {D : Nat} {av : List Value} {σ : pm_S} {Q : Option Value → pm_S → Prop} (cuts : List Nat) (f : Nat) (hac : pm_ac 4 av = true) (h : pm_G pc_76 none 76 D Q cuts f 0 (pm_L0 4 av) [] σ) : Sp 76 (D + 1) av σ Q := Sp.go (M := (⟨"PaidWhereMade$Plans", "growDebts", "()V"⟩, prog_7_method_10_code, 4, none, 5, pc_76)) rfl hac cuts f h
theorem O_Plans_growDebts {D : Nat} {σ : pm_S} {Q : Option Value → pm_S → Prop} (cuts : List Nat) (f : Nat) {idx : Nat} {L st : List Value} (h : pm_G pc_76 none 76 D Q cuts f idx L st σ) : Ok 76 (D + 1) idx L st σ Q := Ok.go (M := (⟨"PaidWhereMade$Plans", "growDebts", "()V"⟩, prog_7_method_10_code, 4, none, 5, pc_76)) rfl cuts f h
theorem S_Plans_leastBehind {D : Nat} {av : List Value} {σ : pm_S} {Q : Option Value → pm_S → Prop} (cuts : List Nat) (f : Nat) (hac : pm_ac 4 av = true) (h : pm_G pc_77 (some .int) 77 D Q cuts f 0 (pm_L0 4 av) [] σ) : Sp 77 (D + 1) av σ Q := Sp.go (M := (⟨"PaidWhereMade$Plans", "leastBehind", "(I)I"⟩, prog_7_method_11_code, 4, (some .int), 5, pc_77)) rfl hac cuts f h
theorem O_Plans_leastBehind {D : Nat} {σ : pm_S} {Q : Option Value → pm_S → Prop} (cuts : List Nat) (f : Nat) {idx : Nat} {L st : List Value} (h : pm_G pc_77 (some .int) 77 D Q cuts f idx L st σ) : Ok 77 (D + 1) idx L st σ Q := Ok.go (M := (⟨"PaidWhereMade$Plans", "leastBehind", "(I)I"⟩, prog_7_method_11_code, 4, (some .int), 5, pc_77)) rfl cuts f h
theorem S_Plans_costWithNext {D : Nat} {av : List Value} {σ : pm_S} {Q : Option Value → pm_S → Prop} (cuts : List Nat) (f : Nat) (hac : pm_ac 3 av = true) (h : pm_G pc_78 (some .int) 78 D Q cuts f 0 (pm_L0 3 av) [] σ) : Sp 78 (D + 1) av σ Q := Sp.go (M := (⟨"PaidWhereMade$Plans", "costWithNext", "(II)I"⟩, prog_7_method_12_code, 3, (some .int), 5, pc_78)) rfl hac cuts f h
theorem O_Plans_costWithNext {D : Nat} {σ : pm_S} {Q : Option Value → pm_S → Prop} (cuts : List Nat) (f : Nat) {idx : Nat} {L st : List Value} (h : pm_G pc_78 (some .int) 78 D Q cuts f idx L st σ) : Ok 78 (D + 1) idx L st σ Q := Ok.go (M := (⟨"PaidWhereMade$Plans", "costWithNext", "(II)I"⟩, prog_7_method_12_code, 3, (some .int), 5, pc_78)) rfl cuts f h
theorem S_Plans_debtInOrder {D : Nat} {av : List Value} {σ : pm_S} {Q : Option Value → pm_S → Prop} (cuts : List Nat) (f : Nat) (hac : pm_ac 5 av = true) (h : pm_G pc_79 (some .int) 79 D Q cuts f 0 (pm_L0 5 av) [] σ) : Sp 79 (D + 1) av σ Q := Sp.go (M := (⟨"PaidWhereMade$Plans", "debtInOrder", "(I)I"⟩, prog_7_method_13_code, 5, (some .int), 5, pc_79)) rfl hac cuts f h
theorem O_Plans_debtInOrder {D : Nat} {σ : pm_S} {Q : Option Value → pm_S → Prop} (cuts : List Nat) (f : Nat) {idx : Nat} {L st : List Value} (h : pm_G pc_79 (some .int) 79 D Q cuts f idx L st σ) : Ok 79 (D + 1) idx L st σ Q := Ok.go (M := (⟨"PaidWhereMade$Plans", "debtInOrder", "(I)I"⟩, prog_7_method_13_code, 5, (some .int), 5, pc_79)) rfl cuts f h
theorem S_Plans_firstOfLeast {D : Nat} {av : List Value} {σ : pm_S} {Q : Option Value → pm_S → Prop} (cuts : List Nat) (f : Nat) (hac : pm_ac 3 av = true) (h : pm_G pc_80 (some .int) 80 D Q cuts f 0 (pm_L0 3 av) [] σ) : Sp 80 (D + 1) av σ Q := Sp.go (M := (⟨"PaidWhereMade$Plans", "firstOfLeast", "(I)I"⟩, prog_7_method_14_code, 3, (some .int), 5, pc_80)) rfl hac cuts f h
theorem O_Plans_firstOfLeast {D : Nat} {σ : pm_S} {Q : Option Value → pm_S → Prop} (cuts : List Nat) (f : Nat) {idx : Nat} {L st : List Value} (h : pm_G pc_80 (some .int) 80 D Q cuts f idx L st σ) : Ok 80 (D + 1) idx L st σ Q := Ok.go (M := (⟨"PaidWhereMade$Plans", "firstOfLeast", "(I)I"⟩, prog_7_method_14_code, 3, (some .int), 5, pc_80)) rfl cuts f h
theorem S_Spots_init {D : Nat} {av : List Value} {σ : pm_S} {Q : Option Value → pm_S → Prop} (cuts : List Nat) (f : Nat) (hac : pm_ac 2 av = true) (h : pm_G pc_81 none 81 D Q cuts f 0 (pm_L0 2 av) [] σ) : Sp 81 (D + 1) av σ Q := Sp.go (M := (⟨"PaidWhereMade$Spots", "<init>", "()V"⟩, prog_8_method_1_code, 2, none, 6, pc_81)) rfl hac cuts f h
theorem O_Spots_init {D : Nat} {σ : pm_S} {Q : Option Value → pm_S → Prop} (cuts : List Nat) (f : Nat) {idx : Nat} {L st : List Value} (h : pm_G pc_81 none 81 D Q cuts f idx L st σ) : Ok 81 (D + 1) idx L st σ Q := Ok.go (M := (⟨"PaidWhereMade$Spots", "<init>", "()V"⟩, prog_8_method_1_code, 2, none, 6, pc_81)) rfl cuts f h
theorem S_Spots_has {D : Nat} {av : List Value} {σ : pm_S} {Q : Option Value → pm_S → Prop} (cuts : List Nat) (f : Nat) (hac : pm_ac 2 av = true) (h : pm_G pc_82 (some .boolean) 82 D Q cuts f 0 (pm_L0 2 av) [] σ) : Sp 82 (D + 1) av σ Q := Sp.go (M := (⟨"PaidWhereMade$Spots", "has", "(I)Z"⟩, prog_8_method_2_code, 2, (some .boolean), 6, pc_82)) rfl hac cuts f h
theorem O_Spots_has {D : Nat} {σ : pm_S} {Q : Option Value → pm_S → Prop} (cuts : List Nat) (f : Nat) {idx : Nat} {L st : List Value} (h : pm_G pc_82 (some .boolean) 82 D Q cuts f idx L st σ) : Ok 82 (D + 1) idx L st σ Q := Ok.go (M := (⟨"PaidWhereMade$Spots", "has", "(I)Z"⟩, prog_8_method_2_code, 2, (some .boolean), 6, pc_82)) rfl cuts f h
theorem S_Spots_add {D : Nat} {av : List Value} {σ : pm_S} {Q : Option Value → pm_S → Prop} (cuts : List Nat) (f : Nat) (hac : pm_ac 2 av = true) (h : pm_G pc_83 (some .int) 83 D Q cuts f 0 (pm_L0 2 av) [] σ) : Sp 83 (D + 1) av σ Q := Sp.go (M := (⟨"PaidWhereMade$Spots", "add", "(I)I"⟩, prog_8_method_3_code, 2, (some .int), 6, pc_83)) rfl hac cuts f h
theorem O_Spots_add {D : Nat} {σ : pm_S} {Q : Option Value → pm_S → Prop} (cuts : List Nat) (f : Nat) {idx : Nat} {L st : List Value} (h : pm_G pc_83 (some .int) 83 D Q cuts f idx L st σ) : Ok 83 (D + 1) idx L st σ Q := Ok.go (M := (⟨"PaidWhereMade$Spots", "add", "(I)I"⟩, prog_8_method_3_code, 2, (some .int), 6, pc_83)) rfl cuts f h
theorem S_Spots_tellMiles {D : Nat} {av : List Value} {σ : pm_S} {Q : Option Value → pm_S → Prop} (cuts : List Nat) (f : Nat) (hac : pm_ac 4 av = true) (h : pm_G pc_84 (some .boolean) 84 D Q cuts f 0 (pm_L0 4 av) [] σ) : Sp 84 (D + 1) av σ Q := Sp.go (M := (⟨"PaidWhereMade$Spots", "tellMiles", "(III)Z"⟩, prog_8_method_4_code, 4, (some .boolean), 6, pc_84)) rfl hac cuts f h
theorem O_Spots_tellMiles {D : Nat} {σ : pm_S} {Q : Option Value → pm_S → Prop} (cuts : List Nat) (f : Nat) {idx : Nat} {L st : List Value} (h : pm_G pc_84 (some .boolean) 84 D Q cuts f idx L st σ) : Ok 84 (D + 1) idx L st σ Q := Ok.go (M := (⟨"PaidWhereMade$Spots", "tellMiles", "(III)Z"⟩, prog_8_method_4_code, 4, (some .boolean), 6, pc_84)) rfl cuts f h
theorem S_Spots_milesBetween {D : Nat} {av : List Value} {σ : pm_S} {Q : Option Value → pm_S → Prop} (cuts : List Nat) (f : Nat) (hac : pm_ac 3 av = true) (h : pm_G pc_85 (some .int) 85 D Q cuts f 0 (pm_L0 3 av) [] σ) : Sp 85 (D + 1) av σ Q := Sp.go (M := (⟨"PaidWhereMade$Spots", "milesBetween", "(II)I"⟩, prog_8_method_5_code, 3, (some .int), 6, pc_85)) rfl hac cuts f h
theorem O_Spots_milesBetween {D : Nat} {σ : pm_S} {Q : Option Value → pm_S → Prop} (cuts : List Nat) (f : Nat) {idx : Nat} {L st : List Value} (h : pm_G pc_85 (some .int) 85 D Q cuts f idx L st σ) : Ok 85 (D + 1) idx L st σ Q := Ok.go (M := (⟨"PaidWhereMade$Spots", "milesBetween", "(II)I"⟩, prog_8_method_5_code, 3, (some .int), 6, pc_85)) rfl cuts f h
theorem S_Spots_tellChance {D : Nat} {av : List Value} {σ : pm_S} {Q : Option Value → pm_S → Prop} (cuts : List Nat) (f : Nat) (hac : pm_ac 6 av = true) (h : pm_G pc_86 (some .boolean) 86 D Q cuts f 0 (pm_L0 6 av) [] σ) : Sp 86 (D + 1) av σ Q := Sp.go (M := (⟨"PaidWhereMade$Spots", "tellChance", "(III)Z"⟩, prog_8_method_6_code, 6, (some .boolean), 6, pc_86)) rfl hac cuts f h
theorem O_Spots_tellChance {D : Nat} {σ : pm_S} {Q : Option Value → pm_S → Prop} (cuts : List Nat) (f : Nat) {idx : Nat} {L st : List Value} (h : pm_G pc_86 (some .boolean) 86 D Q cuts f idx L st σ) : Ok 86 (D + 1) idx L st σ Q := Ok.go (M := (⟨"PaidWhereMade$Spots", "tellChance", "(III)Z"⟩, prog_8_method_6_code, 6, (some .boolean), 6, pc_86)) rfl cuts f h
theorem S_Spots_chanceAt {D : Nat} {av : List Value} {σ : pm_S} {Q : Option Value → pm_S → Prop} (cuts : List Nat) (f : Nat) (hac : pm_ac 3 av = true) (h : pm_G pc_87 (some .int) 87 D Q cuts f 0 (pm_L0 3 av) [] σ) : Sp 87 (D + 1) av σ Q := Sp.go (M := (⟨"PaidWhereMade$Spots", "chanceAt", "(II)I"⟩, prog_8_method_7_code, 3, (some .int), 6, pc_87)) rfl hac cuts f h
theorem O_Spots_chanceAt {D : Nat} {σ : pm_S} {Q : Option Value → pm_S → Prop} (cuts : List Nat) (f : Nat) {idx : Nat} {L st : List Value} (h : pm_G pc_87 (some .int) 87 D Q cuts f idx L st σ) : Ok 87 (D + 1) idx L st σ Q := Ok.go (M := (⟨"PaidWhereMade$Spots", "chanceAt", "(II)I"⟩, prog_8_method_7_code, 3, (some .int), 6, pc_87)) rfl cuts f h
theorem S_Spots_copyFrom {D : Nat} {av : List Value} {σ : pm_S} {Q : Option Value → pm_S → Prop} (cuts : List Nat) (f : Nat) (hac : pm_ac 2 av = true) (h : pm_G pc_88 none 88 D Q cuts f 0 (pm_L0 2 av) [] σ) : Sp 88 (D + 1) av σ Q := Sp.go (M := (⟨"PaidWhereMade$Spots", "copyFrom", "(LPaidWhereMade$Spots;)V"⟩, prog_8_method_8_code, 2, none, 6, pc_88)) rfl hac cuts f h
theorem O_Spots_copyFrom {D : Nat} {σ : pm_S} {Q : Option Value → pm_S → Prop} (cuts : List Nat) (f : Nat) {idx : Nat} {L st : List Value} (h : pm_G pc_88 none 88 D Q cuts f idx L st σ) : Ok 88 (D + 1) idx L st σ Q := Ok.go (M := (⟨"PaidWhereMade$Spots", "copyFrom", "(LPaidWhereMade$Spots;)V"⟩, prog_8_method_8_code, 2, none, 6, pc_88)) rfl cuts f h
theorem S_Sundays_init {D : Nat} {av : List Value} {σ : pm_S} {Q : Option Value → pm_S → Prop} (cuts : List Nat) (f : Nat) (hac : pm_ac 2 av = true) (h : pm_G pc_89 none 89 D Q cuts f 0 (pm_L0 2 av) [] σ) : Sp 89 (D + 1) av σ Q := Sp.go (M := (⟨"PaidWhereMade$Sundays", "<init>", "(LPaidWhereMade$Town;)V"⟩, prog_9_method_1_code, 2, none, 7, pc_89)) rfl hac cuts f h
theorem O_Sundays_init {D : Nat} {σ : pm_S} {Q : Option Value → pm_S → Prop} (cuts : List Nat) (f : Nat) {idx : Nat} {L st : List Value} (h : pm_G pc_89 none 89 D Q cuts f idx L st σ) : Ok 89 (D + 1) idx L st σ Q := Ok.go (M := (⟨"PaidWhereMade$Sundays", "<init>", "(LPaidWhereMade$Town;)V"⟩, prog_9_method_1_code, 2, none, 7, pc_89)) rfl cuts f h
theorem S_Sundays_goBy {D : Nat} {av : List Value} {σ : pm_S} {Q : Option Value → pm_S → Prop} (cuts : List Nat) (f : Nat) (hac : pm_ac 2 av = true) (h : pm_G pc_90 (some .int) 90 D Q cuts f 0 (pm_L0 2 av) [] σ) : Sp 90 (D + 1) av σ Q := Sp.go (M := (⟨"PaidWhereMade$Sundays", "goBy", "()I"⟩, prog_9_method_2_code, 2, (some .int), 7, pc_90)) rfl hac cuts f h
theorem O_Sundays_goBy {D : Nat} {σ : pm_S} {Q : Option Value → pm_S → Prop} (cuts : List Nat) (f : Nat) {idx : Nat} {L st : List Value} (h : pm_G pc_90 (some .int) 90 D Q cuts f idx L st σ) : Ok 90 (D + 1) idx L st σ Q := Ok.go (M := (⟨"PaidWhereMade$Sundays", "goBy", "()I"⟩, prog_9_method_2_code, 2, (some .int), 7, pc_90)) rfl cuts f h
theorem S_Sundays_sendOut {D : Nat} {av : List Value} {σ : pm_S} {Q : Option Value → pm_S → Prop} (cuts : List Nat) (f : Nat) (hac : pm_ac 3 av = true) (h : pm_G pc_91 none 91 D Q cuts f 0 (pm_L0 3 av) [] σ) : Sp 91 (D + 1) av σ Q := Sp.go (M := (⟨"PaidWhereMade$Sundays", "sendOut", "()V"⟩, prog_9_method_3_code, 3, none, 7, pc_91)) rfl hac cuts f h
theorem O_Sundays_sendOut {D : Nat} {σ : pm_S} {Q : Option Value → pm_S → Prop} (cuts : List Nat) (f : Nat) {idx : Nat} {L st : List Value} (h : pm_G pc_91 none 91 D Q cuts f idx L st σ) : Ok 91 (D + 1) idx L st σ Q := Ok.go (M := (⟨"PaidWhereMade$Sundays", "sendOut", "()V"⟩, prog_9_method_3_code, 3, none, 7, pc_91)) rfl cuts f h
theorem S_Sundays_sendAway {D : Nat} {av : List Value} {σ : pm_S} {Q : Option Value → pm_S → Prop} (cuts : List Nat) (f : Nat) (hac : pm_ac 3 av = true) (h : pm_G pc_92 none 92 D Q cuts f 0 (pm_L0 3 av) [] σ) : Sp 92 (D + 1) av σ Q := Sp.go (M := (⟨"PaidWhereMade$Sundays", "sendAway", "(II)V"⟩, prog_9_method_4_code, 3, none, 7, pc_92)) rfl hac cuts f h
theorem O_Sundays_sendAway {D : Nat} {σ : pm_S} {Q : Option Value → pm_S → Prop} (cuts : List Nat) (f : Nat) {idx : Nat} {L st : List Value} (h : pm_G pc_92 none 92 D Q cuts f idx L st σ) : Ok 92 (D + 1) idx L st σ Q := Ok.go (M := (⟨"PaidWhereMade$Sundays", "sendAway", "(II)V"⟩, prog_9_method_4_code, 3, none, 7, pc_92)) rfl cuts f h
theorem S_Sundays_payAll {D : Nat} {av : List Value} {σ : pm_S} {Q : Option Value → pm_S → Prop} (cuts : List Nat) (f : Nat) (hac : pm_ac 5 av = true) (h : pm_G pc_93 (some .int) 93 D Q cuts f 0 (pm_L0 5 av) [] σ) : Sp 93 (D + 1) av σ Q := Sp.go (M := (⟨"PaidWhereMade$Sundays", "payAll", "()I"⟩, prog_9_method_5_code, 5, (some .int), 7, pc_93)) rfl hac cuts f h
theorem O_Sundays_payAll {D : Nat} {σ : pm_S} {Q : Option Value → pm_S → Prop} (cuts : List Nat) (f : Nat) {idx : Nat} {L st : List Value} (h : pm_G pc_93 (some .int) 93 D Q cuts f idx L st σ) : Ok 93 (D + 1) idx L st σ Q := Ok.go (M := (⟨"PaidWhereMade$Sundays", "payAll", "()I"⟩, prog_9_method_5_code, 5, (some .int), 7, pc_93)) rfl cuts f h
theorem S_Sundays_bothStandThere {D : Nat} {av : List Value} {σ : pm_S} {Q : Option Value → pm_S → Prop} (cuts : List Nat) (f : Nat) (hac : pm_ac 3 av = true) (h : pm_G pc_94 (some .boolean) 94 D Q cuts f 0 (pm_L0 3 av) [] σ) : Sp 94 (D + 1) av σ Q := Sp.go (M := (⟨"PaidWhereMade$Sundays", "bothStandThere", "(I)Z"⟩, prog_9_method_6_code, 3, (some .boolean), 7, pc_94)) rfl hac cuts f h
theorem O_Sundays_bothStandThere {D : Nat} {σ : pm_S} {Q : Option Value → pm_S → Prop} (cuts : List Nat) (f : Nat) {idx : Nat} {L st : List Value} (h : pm_G pc_94 (some .boolean) 94 D Q cuts f idx L st σ) : Ok 94 (D + 1) idx L st σ Q := Ok.go (M := (⟨"PaidWhereMade$Sundays", "bothStandThere", "(I)Z"⟩, prog_9_method_6_code, 3, (some .boolean), 7, pc_94)) rfl cuts f h
theorem S_Sundays_lawLets {D : Nat} {av : List Value} {σ : pm_S} {Q : Option Value → pm_S → Prop} (cuts : List Nat) (f : Nat) (hac : pm_ac 3 av = true) (h : pm_G pc_95 (some .boolean) 95 D Q cuts f 0 (pm_L0 3 av) [] σ) : Sp 95 (D + 1) av σ Q := Sp.go (M := (⟨"PaidWhereMade$Sundays", "lawLets", "(I)Z"⟩, prog_9_method_7_code, 3, (some .boolean), 7, pc_95)) rfl hac cuts f h
theorem O_Sundays_lawLets {D : Nat} {σ : pm_S} {Q : Option Value → pm_S → Prop} (cuts : List Nat) (f : Nat) {idx : Nat} {L st : List Value} (h : pm_G pc_95 (some .boolean) 95 D Q cuts f idx L st σ) : Ok 95 (D + 1) idx L st σ Q := Ok.go (M := (⟨"PaidWhereMade$Sundays", "lawLets", "(I)Z"⟩, prog_9_method_7_code, 3, (some .boolean), 7, pc_95)) rfl cuts f h
theorem S_Sundays_cancelAll {D : Nat} {av : List Value} {σ : pm_S} {Q : Option Value → pm_S → Prop} (cuts : List Nat) (f : Nat) (hac : pm_ac 5 av = true) (h : pm_G pc_96 (some .int) 96 D Q cuts f 0 (pm_L0 5 av) [] σ) : Sp 96 (D + 1) av σ Q := Sp.go (M := (⟨"PaidWhereMade$Sundays", "cancelAll", "()I"⟩, prog_9_method_8_code, 5, (some .int), 7, pc_96)) rfl hac cuts f h
theorem O_Sundays_cancelAll {D : Nat} {σ : pm_S} {Q : Option Value → pm_S → Prop} (cuts : List Nat) (f : Nat) {idx : Nat} {L st : List Value} (h : pm_G pc_96 (some .int) 96 D Q cuts f idx L st σ) : Ok 96 (D + 1) idx L st σ Q := Ok.go (M := (⟨"PaidWhereMade$Sundays", "cancelAll", "()I"⟩, prog_9_method_8_code, 5, (some .int), 7, pc_96)) rfl cuts f h
theorem S_Sundays_spotsWithTwoDebts {D : Nat} {av : List Value} {σ : pm_S} {Q : Option Value → pm_S → Prop} (cuts : List Nat) (f : Nat) (hac : pm_ac 5 av = true) (h : pm_G pc_97 (some .int) 97 D Q cuts f 0 (pm_L0 5 av) [] σ) : Sp 97 (D + 1) av σ Q := Sp.go (M := (⟨"PaidWhereMade$Sundays", "spotsWithTwoDebts", "()I"⟩, prog_9_method_9_code, 5, (some .int), 7, pc_97)) rfl hac cuts f h
theorem O_Sundays_spotsWithTwoDebts {D : Nat} {σ : pm_S} {Q : Option Value → pm_S → Prop} (cuts : List Nat) (f : Nat) {idx : Nat} {L st : List Value} (h : pm_G pc_97 (some .int) 97 D Q cuts f idx L st σ) : Ok 97 (D + 1) idx L st σ Q := Ok.go (M := (⟨"PaidWhereMade$Sundays", "spotsWithTwoDebts", "()I"⟩, prog_9_method_9_code, 5, (some .int), 7, pc_97)) rfl cuts f h
theorem S_Sundays_findRound {D : Nat} {av : List Value} {σ : pm_S} {Q : Option Value → pm_S → Prop} (cuts : List Nat) (f : Nat) (hac : pm_ac 6 av = true) (h : pm_G pc_98 (some .boolean) 98 D Q cuts f 0 (pm_L0 6 av) [] σ) : Sp 98 (D + 1) av σ Q := Sp.go (M := (⟨"PaidWhereMade$Sundays", "findRound", "(I)Z"⟩, prog_9_method_10_code, 6, (some .boolean), 7, pc_98)) rfl hac cuts f h
theorem O_Sundays_findRound {D : Nat} {σ : pm_S} {Q : Option Value → pm_S → Prop} (cuts : List Nat) (f : Nat) {idx : Nat} {L st : List Value} (h : pm_G pc_98 (some .boolean) 98 D Q cuts f idx L st σ) : Ok 98 (D + 1) idx L st σ Q := Ok.go (M := (⟨"PaidWhereMade$Sundays", "findRound", "(I)Z"⟩, prog_9_method_10_code, 6, (some .boolean), 7, pc_98)) rfl cuts f h
theorem S_Sundays_noteWhoOwes {D : Nat} {av : List Value} {σ : pm_S} {Q : Option Value → pm_S → Prop} (cuts : List Nat) (f : Nat) (hac : pm_ac 3 av = true) (h : pm_G pc_99 none 99 D Q cuts f 0 (pm_L0 3 av) [] σ) : Sp 99 (D + 1) av σ Q := Sp.go (M := (⟨"PaidWhereMade$Sundays", "noteWhoOwes", "(I)V"⟩, prog_9_method_11_code, 3, none, 7, pc_99)) rfl hac cuts f h
theorem O_Sundays_noteWhoOwes {D : Nat} {σ : pm_S} {Q : Option Value → pm_S → Prop} (cuts : List Nat) (f : Nat) {idx : Nat} {L st : List Value} (h : pm_G pc_99 none 99 D Q cuts f idx L st σ) : Ok 99 (D + 1) idx L st σ Q := Ok.go (M := (⟨"PaidWhereMade$Sundays", "noteWhoOwes", "(I)V"⟩, prog_9_method_11_code, 3, none, 7, pc_99)) rfl cuts f h
theorem S_Sundays_stepsBetween {D : Nat} {av : List Value} {σ : pm_S} {Q : Option Value → pm_S → Prop} (cuts : List Nat) (f : Nat) (hac : pm_ac 7 av = true) (h : pm_G pc_100 (some .int) 100 D Q cuts f 0 (pm_L0 7 av) [] σ) : Sp 100 (D + 1) av σ Q := Sp.go (M := (⟨"PaidWhereMade$Sundays", "stepsBetween", "(II)I"⟩, prog_9_method_12_code, 7, (some .int), 7, pc_100)) rfl hac cuts f h
theorem O_Sundays_stepsBetween {D : Nat} {σ : pm_S} {Q : Option Value → pm_S → Prop} (cuts : List Nat) (f : Nat) {idx : Nat} {L st : List Value} (h : pm_G pc_100 (some .int) 100 D Q cuts f idx L st σ) : Ok 100 (D + 1) idx L st σ Q := Ok.go (M := (⟨"PaidWhereMade$Sundays", "stepsBetween", "(II)I"⟩, prog_9_method_12_code, 7, (some .int), 7, pc_100)) rfl cuts f h
theorem S_Sundays_traceRound {D : Nat} {av : List Value} {σ : pm_S} {Q : Option Value → pm_S → Prop} (cuts : List Nat) (f : Nat) (hac : pm_ac 7 av = true) (h : pm_G pc_101 none 101 D Q cuts f 0 (pm_L0 7 av) [] σ) : Sp 101 (D + 1) av σ Q := Sp.go (M := (⟨"PaidWhereMade$Sundays", "traceRound", "(II)V"⟩, prog_9_method_13_code, 7, none, 7, pc_101)) rfl hac cuts f h
theorem O_Sundays_traceRound {D : Nat} {σ : pm_S} {Q : Option Value → pm_S → Prop} (cuts : List Nat) (f : Nat) {idx : Nat} {L st : List Value} (h : pm_G pc_101 none 101 D Q cuts f idx L st σ) : Ok 101 (D + 1) idx L st σ Q := Ok.go (M := (⟨"PaidWhereMade$Sundays", "traceRound", "(II)V"⟩, prog_9_method_13_code, 7, none, 7, pc_101)) rfl cuts f h
theorem S_Sundays_leastDebtTowards {D : Nat} {av : List Value} {σ : pm_S} {Q : Option Value → pm_S → Prop} (cuts : List Nat) (f : Nat) (hac : pm_ac 6 av = true) (h : pm_G pc_102 (some .int) 102 D Q cuts f 0 (pm_L0 6 av) [] σ) : Sp 102 (D + 1) av σ Q := Sp.go (M := (⟨"PaidWhereMade$Sundays", "leastDebtTowards", "(III)I"⟩, prog_9_method_14_code, 6, (some .int), 7, pc_102)) rfl hac cuts f h
theorem O_Sundays_leastDebtTowards {D : Nat} {σ : pm_S} {Q : Option Value → pm_S → Prop} (cuts : List Nat) (f : Nat) {idx : Nat} {L st : List Value} (h : pm_G pc_102 (some .int) 102 D Q cuts f idx L st σ) : Ok 102 (D + 1) idx L st σ Q := Ok.go (M := (⟨"PaidWhereMade$Sundays", "leastDebtTowards", "(III)I"⟩, prog_9_method_14_code, 6, (some .int), 7, pc_102)) rfl cuts f h
theorem S_Sundays_cancelRound {D : Nat} {av : List Value} {σ : pm_S} {Q : Option Value → pm_S → Prop} (cuts : List Nat) (f : Nat) (hac : pm_ac 5 av = true) (h : pm_G pc_103 (some .int) 103 D Q cuts f 0 (pm_L0 5 av) [] σ) : Sp 103 (D + 1) av σ Q := Sp.go (M := (⟨"PaidWhereMade$Sundays", "cancelRound", "()I"⟩, prog_9_method_15_code, 5, (some .int), 7, pc_103)) rfl hac cuts f h
theorem O_Sundays_cancelRound {D : Nat} {σ : pm_S} {Q : Option Value → pm_S → Prop} (cuts : List Nat) (f : Nat) {idx : Nat} {L st : List Value} (h : pm_G pc_103 (some .int) 103 D Q cuts f idx L st σ) : Ok 103 (D + 1) idx L st σ Q := Ok.go (M := (⟨"PaidWhereMade$Sundays", "cancelRound", "()I"⟩, prog_9_method_15_code, 5, (some .int), 7, pc_103)) rfl cuts f h
theorem S_Tours_init {D : Nat} {av : List Value} {σ : pm_S} {Q : Option Value → pm_S → Prop} (cuts : List Nat) (f : Nat) (hac : pm_ac 2 av = true) (h : pm_G pc_104 none 104 D Q cuts f 0 (pm_L0 2 av) [] σ) : Sp 104 (D + 1) av σ Q := Sp.go (M := (⟨"PaidWhereMade$Tours", "<init>", "(LPaidWhereMade$Town;)V"⟩, prog_10_method_1_code, 2, none, 8, pc_104)) rfl hac cuts f h
theorem O_Tours_init {D : Nat} {σ : pm_S} {Q : Option Value → pm_S → Prop} (cuts : List Nat) (f : Nat) {idx : Nat} {L st : List Value} (h : pm_G pc_104 none 104 D Q cuts f idx L st σ) : Ok 104 (D + 1) idx L st σ Q := Ok.go (M := (⟨"PaidWhereMade$Tours", "<init>", "(LPaidWhereMade$Town;)V"⟩, prog_10_method_1_code, 2, none, 8, pc_104)) rfl cuts f h
theorem S_Tours_prepare {D : Nat} {av : List Value} {σ : pm_S} {Q : Option Value → pm_S → Prop} (cuts : List Nat) (f : Nat) (hac : pm_ac 5 av = true) (h : pm_G pc_105 none 105 D Q cuts f 0 (pm_L0 5 av) [] σ) : Sp 105 (D + 1) av σ Q := Sp.go (M := (⟨"PaidWhereMade$Tours", "prepare", "(II)V"⟩, prog_10_method_2_code, 5, none, 8, pc_105)) rfl hac cuts f h
theorem O_Tours_prepare {D : Nat} {σ : pm_S} {Q : Option Value → pm_S → Prop} (cuts : List Nat) (f : Nat) {idx : Nat} {L st : List Value} (h : pm_G pc_105 none 105 D Q cuts f idx L st σ) : Ok 105 (D + 1) idx L st σ Q := Ok.go (M := (⟨"PaidWhereMade$Tours", "prepare", "(II)V"⟩, prog_10_method_2_code, 5, none, 8, pc_105)) rfl cuts f h
theorem S_Tours_noteLegs {D : Nat} {av : List Value} {σ : pm_S} {Q : Option Value → pm_S → Prop} (cuts : List Nat) (f : Nat) (hac : pm_ac 4 av = true) (h : pm_G pc_106 none 106 D Q cuts f 0 (pm_L0 4 av) [] σ) : Sp 106 (D + 1) av σ Q := Sp.go (M := (⟨"PaidWhereMade$Tours", "noteLegs", "(I)V"⟩, prog_10_method_3_code, 4, none, 8, pc_106)) rfl hac cuts f h
theorem O_Tours_noteLegs {D : Nat} {σ : pm_S} {Q : Option Value → pm_S → Prop} (cuts : List Nat) (f : Nat) {idx : Nat} {L st : List Value} (h : pm_G pc_106 none 106 D Q cuts f idx L st σ) : Ok 106 (D + 1) idx L st σ Q := Ok.go (M := (⟨"PaidWhereMade$Tours", "noteLegs", "(I)V"⟩, prog_10_method_3_code, 4, none, 8, pc_106)) rfl cuts f h
theorem S_Tours_fewestTo {D : Nat} {av : List Value} {σ : pm_S} {Q : Option Value → pm_S → Prop} (cuts : List Nat) (f : Nat) (hac : pm_ac 5 av = true) (h : pm_G pc_107 (some .int) 107 D Q cuts f 0 (pm_L0 5 av) [] σ) : Sp 107 (D + 1) av σ Q := Sp.go (M := (⟨"PaidWhereMade$Tours", "fewestTo", "(II)I"⟩, prog_10_method_4_code, 5, (some .int), 8, pc_107)) rfl hac cuts f h
theorem O_Tours_fewestTo {D : Nat} {σ : pm_S} {Q : Option Value → pm_S → Prop} (cuts : List Nat) (f : Nat) {idx : Nat} {L st : List Value} (h : pm_G pc_107 (some .int) 107 D Q cuts f idx L st σ) : Ok 107 (D + 1) idx L st σ Q := Ok.go (M := (⟨"PaidWhereMade$Tours", "fewestTo", "(II)I"⟩, prog_10_method_4_code, 5, (some .int), 8, pc_107)) rfl cuts f h
theorem S_Tours_fewestMiles {D : Nat} {av : List Value} {σ : pm_S} {Q : Option Value → pm_S → Prop} (cuts : List Nat) (f : Nat) (hac : pm_ac 5 av = true) (h : pm_G pc_108 (some .int) 108 D Q cuts f 0 (pm_L0 5 av) [] σ) : Sp 108 (D + 1) av σ Q := Sp.go (M := (⟨"PaidWhereMade$Tours", "fewestMiles", "(I)I"⟩, prog_10_method_5_code, 5, (some .int), 8, pc_108)) rfl hac cuts f h
theorem O_Tours_fewestMiles {D : Nat} {σ : pm_S} {Q : Option Value → pm_S → Prop} (cuts : List Nat) (f : Nat) {idx : Nat} {L st : List Value} (h : pm_G pc_108 (some .int) 108 D Q cuts f idx L st σ) : Ok 108 (D + 1) idx L st σ Q := Ok.go (M := (⟨"PaidWhereMade$Tours", "fewestMiles", "(I)I"⟩, prog_10_method_5_code, 5, (some .int), 8, pc_108)) rfl cuts f h
theorem S_Tours_coachShare {D : Nat} {av : List Value} {σ : pm_S} {Q : Option Value → pm_S → Prop} (cuts : List Nat) (f : Nat) (hac : pm_ac 9 av = true) (h : pm_G pc_109 (some .int) 109 D Q cuts f 0 (pm_L0 9 av) [] σ) : Sp 109 (D + 1) av σ Q := Sp.go (M := (⟨"PaidWhereMade$Tours", "coachShare", "(IIIZ)I"⟩, prog_10_method_6_code, 9, (some .int), 8, pc_109)) rfl hac cuts f h
theorem O_Tours_coachShare {D : Nat} {σ : pm_S} {Q : Option Value → pm_S → Prop} (cuts : List Nat) (f : Nat) {idx : Nat} {L st : List Value} (h : pm_G pc_109 (some .int) 109 D Q cuts f idx L st σ) : Ok 109 (D + 1) idx L st σ Q := Ok.go (M := (⟨"PaidWhereMade$Tours", "coachShare", "(IIIZ)I"⟩, prog_10_method_6_code, 9, (some .int), 8, pc_109)) rfl cuts f h
theorem S_Tours_sumOverOrders {D : Nat} {av : List Value} {σ : pm_S} {Q : Option Value → pm_S → Prop} (cuts : List Nat) (f : Nat) (hac : pm_ac 8 av = true) (h : pm_G pc_110 (some .int) 110 D Q cuts f 0 (pm_L0 8 av) [] σ) : Sp 110 (D + 1) av σ Q := Sp.go (M := (⟨"PaidWhereMade$Tours", "sumOverOrders", "(III)I"⟩, prog_10_method_7_code, 8, (some .int), 8, pc_110)) rfl hac cuts f h
theorem O_Tours_sumOverOrders {D : Nat} {σ : pm_S} {Q : Option Value → pm_S → Prop} (cuts : List Nat) (f : Nat) {idx : Nat} {L st : List Value} (h : pm_G pc_110 (some .int) 110 D Q cuts f idx L st σ) : Ok 110 (D + 1) idx L st σ Q := Ok.go (M := (⟨"PaidWhereMade$Tours", "sumOverOrders", "(III)I"⟩, prog_10_method_7_code, 8, (some .int), 8, pc_110)) rfl cuts f h
theorem S_Tours_coachCost {D : Nat} {av : List Value} {σ : pm_S} {Q : Option Value → pm_S → Prop} (cuts : List Nat) (f : Nat) (hac : pm_ac 2 av = true) (h : pm_G pc_111 (some .int) 111 D Q cuts f 0 (pm_L0 2 av) [] σ) : Sp 111 (D + 1) av σ Q := Sp.go (M := (⟨"PaidWhereMade$Tours", "coachCost", "(I)I"⟩, prog_10_method_8_code, 2, (some .int), 8, pc_111)) rfl hac cuts f h
theorem O_Tours_coachCost {D : Nat} {σ : pm_S} {Q : Option Value → pm_S → Prop} (cuts : List Nat) (f : Nat) {idx : Nat} {L st : List Value} (h : pm_G pc_111 (some .int) 111 D Q cuts f idx L st σ) : Ok 111 (D + 1) idx L st σ Q := Ok.go (M := (⟨"PaidWhereMade$Tours", "coachCost", "(I)I"⟩, prog_10_method_8_code, 2, (some .int), 8, pc_111)) rfl cuts f h
theorem S_Tours_ordersOf {D : Nat} {av : List Value} {σ : pm_S} {Q : Option Value → pm_S → Prop} (cuts : List Nat) (f : Nat) (hac : pm_ac 3 av = true) (h : pm_G pc_112 (some .int) 112 D Q cuts f 0 (pm_L0 3 av) [] σ) : Sp 112 (D + 1) av σ Q := Sp.go (M := (⟨"PaidWhereMade$Tours", "ordersOf", "(I)I"⟩, prog_10_method_9_code, 3, (some .int), 8, pc_112)) rfl hac cuts f h
theorem O_Tours_ordersOf {D : Nat} {σ : pm_S} {Q : Option Value → pm_S → Prop} (cuts : List Nat) (f : Nat) {idx : Nat} {L st : List Value} (h : pm_G pc_112 (some .int) 112 D Q cuts f idx L st σ) : Ok 112 (D + 1) idx L st σ Q := Ok.go (M := (⟨"PaidWhereMade$Tours", "ordersOf", "(I)I"⟩, prog_10_method_9_code, 3, (some .int), 8, pc_112)) rfl cuts f h
theorem S_Tours_commonPart {D : Nat} {av : List Value} {σ : pm_S} {Q : Option Value → pm_S → Prop} (cuts : List Nat) (f : Nat) (hac : pm_ac 6 av = true) (h : pm_G pc_113 (some .int) 113 D Q cuts f 0 (pm_L0 6 av) [] σ) : Sp 113 (D + 1) av σ Q := Sp.go (M := (⟨"PaidWhereMade$Tours", "commonPart", "(II)I"⟩, prog_10_method_10_code, 6, (some .int), 8, pc_113)) rfl hac cuts f h
theorem O_Tours_commonPart {D : Nat} {σ : pm_S} {Q : Option Value → pm_S → Prop} (cuts : List Nat) (f : Nat) {idx : Nat} {L st : List Value} (h : pm_G pc_113 (some .int) 113 D Q cuts f idx L st σ) : Ok 113 (D + 1) idx L st σ Q := Ok.go (M := (⟨"PaidWhereMade$Tours", "commonPart", "(II)I"⟩, prog_10_method_10_code, 6, (some .int), 8, pc_113)) rfl cuts f h
theorem S_Town_init {D : Nat} {av : List Value} {σ : pm_S} {Q : Option Value → pm_S → Prop} (cuts : List Nat) (f : Nat) (hac : pm_ac 1 av = true) (h : pm_G pc_114 none 114 D Q cuts f 0 (pm_L0 1 av) [] σ) : Sp 114 (D + 1) av σ Q := Sp.go (M := (⟨"PaidWhereMade$Town", "<init>", "()V"⟩, prog_11_method_1_code, 1, none, 9, pc_114)) rfl hac cuts f h
theorem O_Town_init {D : Nat} {σ : pm_S} {Q : Option Value → pm_S → Prop} (cuts : List Nat) (f : Nat) {idx : Nat} {L st : List Value} (h : pm_G pc_114 none 114 D Q cuts f idx L st σ) : Ok 114 (D + 1) idx L st σ Q := Ok.go (M := (⟨"PaidWhereMade$Town", "<init>", "()V"⟩, prog_11_method_1_code, 1, none, 9, pc_114)) rfl cuts f h
theorem S_Town_tellSetting {D : Nat} {av : List Value} {σ : pm_S} {Q : Option Value → pm_S → Prop} (cuts : List Nat) (f : Nat) (hac : pm_ac 3 av = true) (h : pm_G pc_115 (some .boolean) 115 D Q cuts f 0 (pm_L0 3 av) [] σ) : Sp 115 (D + 1) av σ Q := Sp.go (M := (⟨"PaidWhereMade$Town", "tellSetting", "(II)Z"⟩, prog_11_method_2_code, 3, (some .boolean), 9, pc_115)) rfl hac cuts f h
theorem O_Town_tellSetting {D : Nat} {σ : pm_S} {Q : Option Value → pm_S → Prop} (cuts : List Nat) (f : Nat) {idx : Nat} {L st : List Value} (h : pm_G pc_115 (some .boolean) 115 D Q cuts f idx L st σ) : Ok 115 (D + 1) idx L st σ Q := Ok.go (M := (⟨"PaidWhereMade$Town", "tellSetting", "(II)Z"⟩, prog_11_method_2_code, 3, (some .boolean), 9, pc_115)) rfl cuts f h
theorem S_Town_leastSetting {D : Nat} {av : List Value} {σ : pm_S} {Q : Option Value → pm_S → Prop} (cuts : List Nat) (f : Nat) (hac : pm_ac 1 av = true) (h : pm_G pc_116 (some .int) 116 D Q cuts f 0 (pm_L0 1 av) [] σ) : Sp 116 (D + 1) av σ Q := Sp.go (M := (⟨"PaidWhereMade$Town", "leastSetting", "(I)I"⟩, prog_11_method_3_code, 1, (some .int), 9, pc_116)) rfl hac cuts f h
theorem O_Town_leastSetting {D : Nat} {σ : pm_S} {Q : Option Value → pm_S → Prop} (cuts : List Nat) (f : Nat) {idx : Nat} {L st : List Value} (h : pm_G pc_116 (some .int) 116 D Q cuts f idx L st σ) : Ok 116 (D + 1) idx L st σ Q := Ok.go (M := (⟨"PaidWhereMade$Town", "leastSetting", "(I)I"⟩, prog_11_method_3_code, 1, (some .int), 9, pc_116)) rfl cuts f h
theorem S_Town_greatestSetting {D : Nat} {av : List Value} {σ : pm_S} {Q : Option Value → pm_S → Prop} (cuts : List Nat) (f : Nat) (hac : pm_ac 1 av = true) (h : pm_G pc_117 (some .int) 117 D Q cuts f 0 (pm_L0 1 av) [] σ) : Sp 117 (D + 1) av σ Q := Sp.go (M := (⟨"PaidWhereMade$Town", "greatestSetting", "(I)I"⟩, prog_11_method_4_code, 1, (some .int), 9, pc_117)) rfl hac cuts f h
theorem O_Town_greatestSetting {D : Nat} {σ : pm_S} {Q : Option Value → pm_S → Prop} (cuts : List Nat) (f : Nat) {idx : Nat} {L st : List Value} (h : pm_G pc_117 (some .int) 117 D Q cuts f idx L st σ) : Ok 117 (D + 1) idx L st σ Q := Ok.go (M := (⟨"PaidWhereMade$Town", "greatestSetting", "(I)I"⟩, prog_11_method_4_code, 1, (some .int), 9, pc_117)) rfl cuts f h
theorem S_Town_draw {D : Nat} {av : List Value} {σ : pm_S} {Q : Option Value → pm_S → Prop} (cuts : List Nat) (f : Nat) (hac : pm_ac 2 av = true) (h : pm_G pc_118 (some .int) 118 D Q cuts f 0 (pm_L0 2 av) [] σ) : Sp 118 (D + 1) av σ Q := Sp.go (M := (⟨"PaidWhereMade$Town", "draw", "(I)I"⟩, prog_11_method_5_code, 2, (some .int), 9, pc_118)) rfl hac cuts f h
theorem O_Town_draw {D : Nat} {σ : pm_S} {Q : Option Value → pm_S → Prop} (cuts : List Nat) (f : Nat) {idx : Nat} {L st : List Value} (h : pm_G pc_118 (some .int) 118 D Q cuts f idx L st σ) : Ok 118 (D + 1) idx L st σ Q := Ok.go (M := (⟨"PaidWhereMade$Town", "draw", "(I)I"⟩, prog_11_method_5_code, 2, (some .int), 9, pc_118)) rfl cuts f h
theorem S_Town_copyFrom {D : Nat} {av : List Value} {σ : pm_S} {Q : Option Value → pm_S → Prop} (cuts : List Nat) (f : Nat) (hac : pm_ac 2 av = true) (h : pm_G pc_119 none 119 D Q cuts f 0 (pm_L0 2 av) [] σ) : Sp 119 (D + 1) av σ Q := Sp.go (M := (⟨"PaidWhereMade$Town", "copyFrom", "(LPaidWhereMade$Town;)V"⟩, prog_11_method_6_code, 2, none, 9, pc_119)) rfl hac cuts f h
theorem O_Town_copyFrom {D : Nat} {σ : pm_S} {Q : Option Value → pm_S → Prop} (cuts : List Nat) (f : Nat) {idx : Nat} {L st : List Value} (h : pm_G pc_119 none 119 D Q cuts f idx L st σ) : Ok 119 (D + 1) idx L st σ Q := Ok.go (M := (⟨"PaidWhereMade$Town", "copyFrom", "(LPaidWhereMade$Town;)V"⟩, prog_11_method_6_code, 2, none, 9, pc_119)) rfl cuts f h
theorem S_Waits_init {D : Nat} {av : List Value} {σ : pm_S} {Q : Option Value → pm_S → Prop} (cuts : List Nat) (f : Nat) (hac : pm_ac 2 av = true) (h : pm_G pc_120 none 120 D Q cuts f 0 (pm_L0 2 av) [] σ) : Sp 120 (D + 1) av σ Q := Sp.go (M := (⟨"PaidWhereMade$Waits", "<init>", "(LPaidWhereMade$Spots;)V"⟩, prog_12_method_1_code, 2, none, 10, pc_120)) rfl hac cuts f h
theorem O_Waits_init {D : Nat} {σ : pm_S} {Q : Option Value → pm_S → Prop} (cuts : List Nat) (f : Nat) {idx : Nat} {L st : List Value} (h : pm_G pc_120 none 120 D Q cuts f idx L st σ) : Ok 120 (D + 1) idx L st σ Q := Ok.go (M := (⟨"PaidWhereMade$Waits", "<init>", "(LPaidWhereMade$Spots;)V"⟩, prog_12_method_1_code, 2, none, 10, pc_120)) rfl cuts f h
theorem S_Waits_answer {D : Nat} {av : List Value} {σ : pm_S} {Q : Option Value → pm_S → Prop} (cuts : List Nat) (f : Nat) (hac : pm_ac 4 av = true) (h : pm_G pc_121 (some .long) 121 D Q cuts f 0 (pm_L0 4 av) [] σ) : Sp 121 (D + 1) av σ Q := Sp.go (M := (⟨"PaidWhereMade$Waits", "answer", "(III)J"⟩, prog_12_method_2_code, 4, (some .long), 10, pc_121)) rfl hac cuts f h
theorem O_Waits_answer {D : Nat} {σ : pm_S} {Q : Option Value → pm_S → Prop} (cuts : List Nat) (f : Nat) {idx : Nat} {L st : List Value} (h : pm_G pc_121 (some .long) 121 D Q cuts f idx L st σ) : Ok 121 (D + 1) idx L st σ Q := Ok.go (M := (⟨"PaidWhereMade$Waits", "answer", "(III)J"⟩, prog_12_method_2_code, 4, (some .long), 10, pc_121)) rfl cuts f h
theorem S_Waits_prepare {D : Nat} {av : List Value} {σ : pm_S} {Q : Option Value → pm_S → Prop} (cuts : List Nat) (f : Nat) (hac : pm_ac 5 av = true) (h : pm_G pc_122 none 122 D Q cuts f 0 (pm_L0 5 av) [] σ) : Sp 122 (D + 1) av σ Q := Sp.go (M := (⟨"PaidWhereMade$Waits", "prepare", "(I)V"⟩, prog_12_method_3_code, 5, none, 10, pc_122)) rfl hac cuts f h
theorem O_Waits_prepare {D : Nat} {σ : pm_S} {Q : Option Value → pm_S → Prop} (cuts : List Nat) (f : Nat) {idx : Nat} {L st : List Value} (h : pm_G pc_122 none 122 D Q cuts f idx L st σ) : Ok 122 (D + 1) idx L st σ Q := Ok.go (M := (⟨"PaidWhereMade$Waits", "prepare", "(I)V"⟩, prog_12_method_3_code, 5, none, 10, pc_122)) rfl cuts f h
theorem S_Waits_stand {D : Nat} {av : List Value} {σ : pm_S} {Q : Option Value → pm_S → Prop} (cuts : List Nat) (f : Nat) (hac : pm_ac 8 av = true) (h : pm_G pc_123 none 123 D Q cuts f 0 (pm_L0 8 av) [] σ) : Sp 123 (D + 1) av σ Q := Sp.go (M := (⟨"PaidWhereMade$Waits", "stand", "(II)V"⟩, prog_12_method_4_code, 8, none, 10, pc_123)) rfl hac cuts f h
theorem O_Waits_stand {D : Nat} {σ : pm_S} {Q : Option Value → pm_S → Prop} (cuts : List Nat) (f : Nat) {idx : Nat} {L st : List Value} (h : pm_G pc_123 none 123 D Q cuts f idx L st σ) : Ok 123 (D + 1) idx L st σ Q := Ok.go (M := (⟨"PaidWhereMade$Waits", "stand", "(II)V"⟩, prog_12_method_4_code, 8, none, 10, pc_123)) rfl cuts f h
theorem S_Waits_tryWalk {D : Nat} {av : List Value} {σ : pm_S} {Q : Option Value → pm_S → Prop} (cuts : List Nat) (f : Nat) (hac : pm_ac 11 av = true) (h : pm_G pc_124 none 124 D Q cuts f 0 (pm_L0 11 av) [] σ) : Sp 124 (D + 1) av σ Q := Sp.go (M := (⟨"PaidWhereMade$Waits", "tryWalk", "(III)V"⟩, prog_12_method_5_code, 11, none, 10, pc_124)) rfl hac cuts f h
theorem O_Waits_tryWalk {D : Nat} {σ : pm_S} {Q : Option Value → pm_S → Prop} (cuts : List Nat) (f : Nat) {idx : Nat} {L st : List Value} (h : pm_G pc_124 none 124 D Q cuts f idx L st σ) : Ok 124 (D + 1) idx L st σ Q := Ok.go (M := (⟨"PaidWhereMade$Waits", "tryWalk", "(III)V"⟩, prog_12_method_5_code, 11, none, 10, pc_124)) rfl cuts f h
theorem S_Waits_hoursOfWalk {D : Nat} {av : List Value} {σ : pm_S} {Q : Option Value → pm_S → Prop} (cuts : List Nat) (f : Nat) (hac : pm_ac 3 av = true) (h : pm_G pc_125 (some .int) 125 D Q cuts f 0 (pm_L0 3 av) [] σ) : Sp 125 (D + 1) av σ Q := Sp.go (M := (⟨"PaidWhereMade$Waits", "hoursOfWalk", "(II)I"⟩, prog_12_method_6_code, 3, (some .int), 10, pc_125)) rfl hac cuts f h
theorem O_Waits_hoursOfWalk {D : Nat} {σ : pm_S} {Q : Option Value → pm_S → Prop} (cuts : List Nat) (f : Nat) {idx : Nat} {L st : List Value} (h : pm_G pc_125 (some .int) 125 D Q cuts f idx L st σ) : Ok 125 (D + 1) idx L st σ Q := Ok.go (M := (⟨"PaidWhereMade$Waits", "hoursOfWalk", "(II)I"⟩, prog_12_method_6_code, 3, (some .int), 10, pc_125)) rfl cuts f h
theorem S_Waits_repeated {D : Nat} {av : List Value} {σ : pm_S} {Q : Option Value → pm_S → Prop} (cuts : List Nat) (f : Nat) (hac : pm_ac 5 av = true) (h : pm_G pc_126 (some .long) 126 D Q cuts f 0 (pm_L0 5 av) [] σ) : Sp 126 (D + 1) av σ Q := Sp.go (M := (⟨"PaidWhereMade$Waits", "repeated", "(II)J"⟩, prog_12_method_7_code, 5, (some .long), 10, pc_126)) rfl hac cuts f h
theorem O_Waits_repeated {D : Nat} {σ : pm_S} {Q : Option Value → pm_S → Prop} (cuts : List Nat) (f : Nat) {idx : Nat} {L st : List Value} (h : pm_G pc_126 (some .long) 126 D Q cuts f idx L st σ) : Ok 126 (D + 1) idx L st σ Q := Ok.go (M := (⟨"PaidWhereMade$Waits", "repeated", "(II)J"⟩, prog_12_method_7_code, 5, (some .long), 10, pc_126)) rfl cuts f h
theorem S_PaidWhereMade_init {D : Nat} {av : List Value} {σ : pm_S} {Q : Option Value → pm_S → Prop} (cuts : List Nat) (f : Nat) (hac : pm_ac 1 av = true) (h : pm_G pc_127 none 127 D Q cuts f 0 (pm_L0 1 av) [] σ) : Sp 127 (D + 1) av σ Q := Sp.go (M := (⟨"PaidWhereMade", "<init>", "()V"⟩, prog_1_method_1_code, 1, none, 11, pc_127)) rfl hac cuts f h
theorem O_PaidWhereMade_init {D : Nat} {σ : pm_S} {Q : Option Value → pm_S → Prop} (cuts : List Nat) (f : Nat) {idx : Nat} {L st : List Value} (h : pm_G pc_127 none 127 D Q cuts f idx L st σ) : Ok 127 (D + 1) idx L st σ Q := Ok.go (M := (⟨"PaidWhereMade", "<init>", "()V"⟩, prog_1_method_1_code, 1, none, 11, pc_127)) rfl cuts f h
theorem S_PaidWhereMade_state {D : Nat} {av : List Value} {σ : pm_S} {Q : Option Value → pm_S → Prop} (cuts : List Nat) (f : Nat) (hac : pm_ac 3 av = true) (h : pm_G pc_128 (some .int) 128 D Q cuts f 0 (pm_L0 3 av) [] σ) : Sp 128 (D + 1) av σ Q := Sp.go (M := (⟨"PaidWhereMade", "state", "(I)I"⟩, prog_1_method_2_code, 3, (some .int), 11, pc_128)) rfl hac cuts f h
theorem O_PaidWhereMade_state {D : Nat} {σ : pm_S} {Q : Option Value → pm_S → Prop} (cuts : List Nat) (f : Nat) {idx : Nat} {L st : List Value} (h : pm_G pc_128 (some .int) 128 D Q cuts f idx L st σ) : Ok 128 (D + 1) idx L st σ Q := Ok.go (M := (⟨"PaidWhereMade", "state", "(I)I"⟩, prog_1_method_2_code, 3, (some .int), 11, pc_128)) rfl cuts f h
theorem S_PaidWhereMade_spot {D : Nat} {av : List Value} {σ : pm_S} {Q : Option Value → pm_S → Prop} (cuts : List Nat) (f : Nat) (hac : pm_ac 2 av = true) (h : pm_G pc_129 (some .int) 129 D Q cuts f 0 (pm_L0 2 av) [] σ) : Sp 129 (D + 1) av σ Q := Sp.go (M := (⟨"PaidWhereMade", "spot", "(I)I"⟩, prog_1_method_3_code, 2, (some .int), 11, pc_129)) rfl hac cuts f h
theorem O_PaidWhereMade_spot {D : Nat} {σ : pm_S} {Q : Option Value → pm_S → Prop} (cuts : List Nat) (f : Nat) {idx : Nat} {L st : List Value} (h : pm_G pc_129 (some .int) 129 D Q cuts f idx L st σ) : Ok 129 (D + 1) idx L st σ Q := Ok.go (M := (⟨"PaidWhereMade", "spot", "(I)I"⟩, prog_1_method_3_code, 2, (some .int), 11, pc_129)) rfl cuts f h
theorem S_PaidWhereMade_way {D : Nat} {av : List Value} {σ : pm_S} {Q : Option Value → pm_S → Prop} (cuts : List Nat) (f : Nat) (hac : pm_ac 4 av = true) (h : pm_G pc_130 (some .boolean) 130 D Q cuts f 0 (pm_L0 4 av) [] σ) : Sp 130 (D + 1) av σ Q := Sp.go (M := (⟨"PaidWhereMade", "way", "(III)Z"⟩, prog_1_method_4_code, 4, (some .boolean), 11, pc_130)) rfl hac cuts f h
theorem O_PaidWhereMade_way {D : Nat} {σ : pm_S} {Q : Option Value → pm_S → Prop} (cuts : List Nat) (f : Nat) {idx : Nat} {L st : List Value} (h : pm_G pc_130 (some .boolean) 130 D Q cuts f idx L st σ) : Ok 130 (D + 1) idx L st σ Q := Ok.go (M := (⟨"PaidWhereMade", "way", "(III)Z"⟩, prog_1_method_4_code, 4, (some .boolean), 11, pc_130)) rfl cuts f h
theorem S_PaidWhereMade_person {D : Nat} {av : List Value} {σ : pm_S} {Q : Option Value → pm_S → Prop} (cuts : List Nat) (f : Nat) (hac : pm_ac 4 av = true) (h : pm_G pc_131 (some .int) 131 D Q cuts f 0 (pm_L0 4 av) [] σ) : Sp 131 (D + 1) av σ Q := Sp.go (M := (⟨"PaidWhereMade", "person", "(III)I"⟩, prog_1_method_5_code, 4, (some .int), 11, pc_131)) rfl hac cuts f h
theorem O_PaidWhereMade_person {D : Nat} {σ : pm_S} {Q : Option Value → pm_S → Prop} (cuts : List Nat) (f : Nat) {idx : Nat} {L st : List Value} (h : pm_G pc_131 (some .int) 131 D Q cuts f idx L st σ) : Ok 131 (D + 1) idx L st σ Q := Ok.go (M := (⟨"PaidWhereMade", "person", "(III)I"⟩, prog_1_method_5_code, 4, (some .int), 11, pc_131)) rfl cuts f h
theorem S_PaidWhereMade_debt {D : Nat} {av : List Value} {σ : pm_S} {Q : Option Value → pm_S → Prop} (cuts : List Nat) (f : Nat) (hac : pm_ac 6 av = true) (h : pm_G pc_132 (some .int) 132 D Q cuts f 0 (pm_L0 6 av) [] σ) : Sp 132 (D + 1) av σ Q := Sp.go (M := (⟨"PaidWhereMade", "debt", "(IIII)I"⟩, prog_1_method_6_code, 6, (some .int), 11, pc_132)) rfl hac cuts f h
theorem O_PaidWhereMade_debt {D : Nat} {σ : pm_S} {Q : Option Value → pm_S → Prop} (cuts : List Nat) (f : Nat) {idx : Nat} {L st : List Value} (h : pm_G pc_132 (some .int) 132 D Q cuts f idx L st σ) : Ok 132 (D + 1) idx L st σ Q := Ok.go (M := (⟨"PaidWhereMade", "debt", "(IIII)I"⟩, prog_1_method_6_code, 6, (some .int), 11, pc_132)) rfl cuts f h
theorem S_PaidWhereMade_set {D : Nat} {av : List Value} {σ : pm_S} {Q : Option Value → pm_S → Prop} (cuts : List Nat) (f : Nat) (hac : pm_ac 3 av = true) (h : pm_G pc_133 (some .boolean) 133 D Q cuts f 0 (pm_L0 3 av) [] σ) : Sp 133 (D + 1) av σ Q := Sp.go (M := (⟨"PaidWhereMade", "set", "(II)Z"⟩, prog_1_method_7_code, 3, (some .boolean), 11, pc_133)) rfl hac cuts f h
theorem O_PaidWhereMade_set {D : Nat} {σ : pm_S} {Q : Option Value → pm_S → Prop} (cuts : List Nat) (f : Nat) {idx : Nat} {L st : List Value} (h : pm_G pc_133 (some .boolean) 133 D Q cuts f idx L st σ) : Ok 133 (D + 1) idx L st σ Q := Ok.go (M := (⟨"PaidWhereMade", "set", "(II)Z"⟩, prog_1_method_7_code, 3, (some .boolean), 11, pc_133)) rfl cuts f h
theorem S_PaidWhereMade_goal {D : Nat} {av : List Value} {σ : pm_S} {Q : Option Value → pm_S → Prop} (cuts : List Nat) (f : Nat) (hac : pm_ac 3 av = true) (h : pm_G pc_134 (some .boolean) 134 D Q cuts f 0 (pm_L0 3 av) [] σ) : Sp 134 (D + 1) av σ Q := Sp.go (M := (⟨"PaidWhereMade", "goal", "(II)Z"⟩, prog_1_method_8_code, 3, (some .boolean), 11, pc_134)) rfl hac cuts f h
theorem O_PaidWhereMade_goal {D : Nat} {σ : pm_S} {Q : Option Value → pm_S → Prop} (cuts : List Nat) (f : Nat) {idx : Nat} {L st : List Value} (h : pm_G pc_134 (some .boolean) 134 D Q cuts f idx L st σ) : Ok 134 (D + 1) idx L st σ Q := Ok.go (M := (⟨"PaidWhereMade", "goal", "(II)Z"⟩, prog_1_method_8_code, 3, (some .boolean), 11, pc_134)) rfl cuts f h
theorem S_PaidWhereMade_feed {D : Nat} {av : List Value} {σ : pm_S} {Q : Option Value → pm_S → Prop} (cuts : List Nat) (f : Nat) (hac : pm_ac 6 av = true) (h : pm_G pc_135 (some .int) 135 D Q cuts f 0 (pm_L0 6 av) [] σ) : Sp 135 (D + 1) av σ Q := Sp.go (M := (⟨"PaidWhereMade", "feed", "(IIIII)I"⟩, prog_1_method_9_code, 6, (some .int), 11, pc_135)) rfl hac cuts f h
theorem O_PaidWhereMade_feed {D : Nat} {σ : pm_S} {Q : Option Value → pm_S → Prop} (cuts : List Nat) (f : Nat) {idx : Nat} {L st : List Value} (h : pm_G pc_135 (some .int) 135 D Q cuts f idx L st σ) : Ok 135 (D + 1) idx L st σ Q := Ok.go (M := (⟨"PaidWhereMade", "feed", "(IIIII)I"⟩, prog_1_method_9_code, 6, (some .int), 11, pc_135)) rfl cuts f h
theorem S_PaidWhereMade_end {D : Nat} {av : List Value} {σ : pm_S} {Q : Option Value → pm_S → Prop} (cuts : List Nat) (f : Nat) (hac : pm_ac 2 av = true) (h : pm_G pc_136 (some .boolean) 136 D Q cuts f 0 (pm_L0 2 av) [] σ) : Sp 136 (D + 1) av σ Q := Sp.go (M := (⟨"PaidWhereMade", "end", "(I)Z"⟩, prog_1_method_10_code, 2, (some .boolean), 11, pc_136)) rfl hac cuts f h
theorem O_PaidWhereMade_end {D : Nat} {σ : pm_S} {Q : Option Value → pm_S → Prop} (cuts : List Nat) (f : Nat) {idx : Nat} {L st : List Value} (h : pm_G pc_136 (some .boolean) 136 D Q cuts f idx L st σ) : Ok 136 (D + 1) idx L st σ Q := Ok.go (M := (⟨"PaidWhereMade", "end", "(I)Z"⟩, prog_1_method_10_code, 2, (some .boolean), 11, pc_136)) rfl cuts f h
theorem S_PaidWhereMade_text {D : Nat} {av : List Value} {σ : pm_S} {Q : Option Value → pm_S → Prop} (cuts : List Nat) (f : Nat) (hac : pm_ac 1 av = true) (h : pm_G pc_137 (some .int) 137 D Q cuts f 0 (pm_L0 1 av) [] σ) : Sp 137 (D + 1) av σ Q := Sp.go (M := (⟨"PaidWhereMade", "text", "()I"⟩, prog_1_method_11_code, 1, (some .int), 11, pc_137)) rfl hac cuts f h
theorem O_PaidWhereMade_text {D : Nat} {σ : pm_S} {Q : Option Value → pm_S → Prop} (cuts : List Nat) (f : Nat) {idx : Nat} {L st : List Value} (h : pm_G pc_137 (some .int) 137 D Q cuts f idx L st σ) : Ok 137 (D + 1) idx L st σ Q := Ok.go (M := (⟨"PaidWhereMade", "text", "()I"⟩, prog_1_method_11_code, 1, (some .int), 11, pc_137)) rfl cuts f h
theorem S_PaidWhereMade_fault {D : Nat} {av : List Value} {σ : pm_S} {Q : Option Value → pm_S → Prop} (cuts : List Nat) (f : Nat) (hac : pm_ac 2 av = true) (h : pm_G pc_138 (some .int) 138 D Q cuts f 0 (pm_L0 2 av) [] σ) : Sp 138 (D + 1) av σ Q := Sp.go (M := (⟨"PaidWhereMade", "fault", "(I)I"⟩, prog_1_method_12_code, 2, (some .int), 11, pc_138)) rfl hac cuts f h
theorem O_PaidWhereMade_fault {D : Nat} {σ : pm_S} {Q : Option Value → pm_S → Prop} (cuts : List Nat) (f : Nat) {idx : Nat} {L st : List Value} (h : pm_G pc_138 (some .int) 138 D Q cuts f idx L st σ) : Ok 138 (D + 1) idx L st σ Q := Ok.go (M := (⟨"PaidWhereMade", "fault", "(I)I"⟩, prog_1_method_12_code, 2, (some .int), 11, pc_138)) rfl cuts f h
theorem S_PaidWhereMade_sunday {D : Nat} {av : List Value} {σ : pm_S} {Q : Option Value → pm_S → Prop} (cuts : List Nat) (f : Nat) (hac : pm_ac 1 av = true) (h : pm_G pc_139 (some .int) 139 D Q cuts f 0 (pm_L0 1 av) [] σ) : Sp 139 (D + 1) av σ Q := Sp.go (M := (⟨"PaidWhereMade", "sunday", "()I"⟩, prog_1_method_13_code, 1, (some .int), 11, pc_139)) rfl hac cuts f h
theorem O_PaidWhereMade_sunday {D : Nat} {σ : pm_S} {Q : Option Value → pm_S → Prop} (cuts : List Nat) (f : Nat) {idx : Nat} {L st : List Value} (h : pm_G pc_139 (some .int) 139 D Q cuts f idx L st σ) : Ok 139 (D + 1) idx L st σ Q := Ok.go (M := (⟨"PaidWhereMade", "sunday", "()I"⟩, prog_1_method_13_code, 1, (some .int), 11, pc_139)) rfl cuts f h
theorem S_PaidWhereMade_pass {D : Nat} {av : List Value} {σ : pm_S} {Q : Option Value → pm_S → Prop} (cuts : List Nat) (f : Nat) (hac : pm_ac 4 av = true) (h : pm_G pc_140 (some .int) 140 D Q cuts f 0 (pm_L0 4 av) [] σ) : Sp 140 (D + 1) av σ Q := Sp.go (M := (⟨"PaidWhereMade", "pass", "(I)I"⟩, prog_1_method_14_code, 4, (some .int), 11, pc_140)) rfl hac cuts f h
theorem O_PaidWhereMade_pass {D : Nat} {σ : pm_S} {Q : Option Value → pm_S → Prop} (cuts : List Nat) (f : Nat) {idx : Nat} {L st : List Value} (h : pm_G pc_140 (some .int) 140 D Q cuts f idx L st σ) : Ok 140 (D + 1) idx L st σ Q := Ok.go (M := (⟨"PaidWhereMade", "pass", "(I)I"⟩, prog_1_method_14_code, 4, (some .int), 11, pc_140)) rfl cuts f h
theorem S_PaidWhereMade_of {D : Nat} {av : List Value} {σ : pm_S} {Q : Option Value → pm_S → Prop} (cuts : List Nat) (f : Nat) (hac : pm_ac 3 av = true) (h : pm_G pc_141 (some .int) 141 D Q cuts f 0 (pm_L0 3 av) [] σ) : Sp 141 (D + 1) av σ Q := Sp.go (M := (⟨"PaidWhereMade", "of", "(II)I"⟩, prog_1_method_15_code, 3, (some .int), 11, pc_141)) rfl hac cuts f h
theorem O_PaidWhereMade_of {D : Nat} {σ : pm_S} {Q : Option Value → pm_S → Prop} (cuts : List Nat) (f : Nat) {idx : Nat} {L st : List Value} (h : pm_G pc_141 (some .int) 141 D Q cuts f idx L st σ) : Ok 141 (D + 1) idx L st σ Q := Ok.go (M := (⟨"PaidWhereMade", "of", "(II)I"⟩, prog_1_method_15_code, 3, (some .int), 11, pc_141)) rfl cuts f h
theorem S_PaidWhereMade_owed {D : Nat} {av : List Value} {σ : pm_S} {Q : Option Value → pm_S → Prop} (cuts : List Nat) (f : Nat) (hac : pm_ac 3 av = true) (h : pm_G pc_142 (some .int) 142 D Q cuts f 0 (pm_L0 3 av) [] σ) : Sp 142 (D + 1) av σ Q := Sp.go (M := (⟨"PaidWhereMade", "owed", "(II)I"⟩, prog_1_method_16_code, 3, (some .int), 11, pc_142)) rfl hac cuts f h
theorem O_PaidWhereMade_owed {D : Nat} {σ : pm_S} {Q : Option Value → pm_S → Prop} (cuts : List Nat) (f : Nat) {idx : Nat} {L st : List Value} (h : pm_G pc_142 (some .int) 142 D Q cuts f idx L st σ) : Ok 142 (D + 1) idx L st σ Q := Ok.go (M := (⟨"PaidWhereMade", "owed", "(II)I"⟩, prog_1_method_16_code, 3, (some .int), 11, pc_142)) rfl cuts f h
theorem S_PaidWhereMade_cleared {D : Nat} {av : List Value} {σ : pm_S} {Q : Option Value → pm_S → Prop} (cuts : List Nat) (f : Nat) (hac : pm_ac 2 av = true) (h : pm_G pc_143 (some .int) 143 D Q cuts f 0 (pm_L0 2 av) [] σ) : Sp 143 (D + 1) av σ Q := Sp.go (M := (⟨"PaidWhereMade", "cleared", "(I)I"⟩, prog_1_method_17_code, 2, (some .int), 11, pc_143)) rfl hac cuts f h
theorem O_PaidWhereMade_cleared {D : Nat} {σ : pm_S} {Q : Option Value → pm_S → Prop} (cuts : List Nat) (f : Nat) {idx : Nat} {L st : List Value} (h : pm_G pc_143 (some .int) 143 D Q cuts f idx L st σ) : Ok 143 (D + 1) idx L st σ Q := Ok.go (M := (⟨"PaidWhereMade", "cleared", "(I)I"⟩, prog_1_method_17_code, 2, (some .int), 11, pc_143)) rfl cuts f h
theorem S_PaidWhereMade_first {D : Nat} {av : List Value} {σ : pm_S} {Q : Option Value → pm_S → Prop} (cuts : List Nat) (f : Nat) (hac : pm_ac 3 av = true) (h : pm_G pc_144 (some .int) 144 D Q cuts f 0 (pm_L0 3 av) [] σ) : Sp 144 (D + 1) av σ Q := Sp.go (M := (⟨"PaidWhereMade", "first", "(II)I"⟩, prog_1_method_18_code, 3, (some .int), 11, pc_144)) rfl hac cuts f h
theorem O_PaidWhereMade_first {D : Nat} {σ : pm_S} {Q : Option Value → pm_S → Prop} (cuts : List Nat) (f : Nat) {idx : Nat} {L st : List Value} (h : pm_G pc_144 (some .int) 144 D Q cuts f idx L st σ) : Ok 144 (D + 1) idx L st σ Q := Ok.go (M := (⟨"PaidWhereMade", "first", "(II)I"⟩, prog_1_method_18_code, 3, (some .int), 11, pc_144)) rfl cuts f h
theorem S_PaidWhereMade_tour {D : Nat} {av : List Value} {σ : pm_S} {Q : Option Value → pm_S → Prop} (cuts : List Nat) (f : Nat) (hac : pm_ac 3 av = true) (h : pm_G pc_145 (some .int) 145 D Q cuts f 0 (pm_L0 3 av) [] σ) : Sp 145 (D + 1) av σ Q := Sp.go (M := (⟨"PaidWhereMade", "tour", "(II)I"⟩, prog_1_method_19_code, 3, (some .int), 11, pc_145)) rfl hac cuts f h
theorem O_PaidWhereMade_tour {D : Nat} {σ : pm_S} {Q : Option Value → pm_S → Prop} (cuts : List Nat) (f : Nat) {idx : Nat} {L st : List Value} (h : pm_G pc_145 (some .int) 145 D Q cuts f idx L st σ) : Ok 145 (D + 1) idx L st σ Q := Ok.go (M := (⟨"PaidWhereMade", "tour", "(II)I"⟩, prog_1_method_19_code, 3, (some .int), 11, pc_145)) rfl cuts f h
theorem S_PaidWhereMade_share {D : Nat} {av : List Value} {σ : pm_S} {Q : Option Value → pm_S → Prop} (cuts : List Nat) (f : Nat) (hac : pm_ac 6 av = true) (h : pm_G pc_146 (some .int) 146 D Q cuts f 0 (pm_L0 6 av) [] σ) : Sp 146 (D + 1) av σ Q := Sp.go (M := (⟨"PaidWhereMade", "share", "(IIII)I"⟩, prog_1_method_20_code, 6, (some .int), 11, pc_146)) rfl hac cuts f h
theorem O_PaidWhereMade_share {D : Nat} {σ : pm_S} {Q : Option Value → pm_S → Prop} (cuts : List Nat) (f : Nat) {idx : Nat} {L st : List Value} (h : pm_G pc_146 (some .int) 146 D Q cuts f idx L st σ) : Ok 146 (D + 1) idx L st σ Q := Ok.go (M := (⟨"PaidWhereMade", "share", "(IIII)I"⟩, prog_1_method_20_code, 6, (some .int), 11, pc_146)) rfl cuts f h
theorem S_PaidWhereMade_chance {D : Nat} {av : List Value} {σ : pm_S} {Q : Option Value → pm_S → Prop} (cuts : List Nat) (f : Nat) (hac : pm_ac 4 av = true) (h : pm_G pc_147 (some .boolean) 147 D Q cuts f 0 (pm_L0 4 av) [] σ) : Sp 147 (D + 1) av σ Q := Sp.go (M := (⟨"PaidWhereMade", "chance", "(III)Z"⟩, prog_1_method_21_code, 4, (some .boolean), 11, pc_147)) rfl hac cuts f h
theorem O_PaidWhereMade_chance {D : Nat} {σ : pm_S} {Q : Option Value → pm_S → Prop} (cuts : List Nat) (f : Nat) {idx : Nat} {L st : List Value} (h : pm_G pc_147 (some .boolean) 147 D Q cuts f idx L st σ) : Ok 147 (D + 1) idx L st σ Q := Ok.go (M := (⟨"PaidWhereMade", "chance", "(III)Z"⟩, prog_1_method_21_code, 4, (some .boolean), 11, pc_147)) rfl cuts f h
theorem S_PaidWhereMade_waiting {D : Nat} {av : List Value} {σ : pm_S} {Q : Option Value → pm_S → Prop} (cuts : List Nat) (f : Nat) (hac : pm_ac 4 av = true) (h : pm_G pc_148 (some .long) 148 D Q cuts f 0 (pm_L0 4 av) [] σ) : Sp 148 (D + 1) av σ Q := Sp.go (M := (⟨"PaidWhereMade", "waiting", "(III)J"⟩, prog_1_method_22_code, 4, (some .long), 11, pc_148)) rfl hac cuts f h
theorem O_PaidWhereMade_waiting {D : Nat} {σ : pm_S} {Q : Option Value → pm_S → Prop} (cuts : List Nat) (f : Nat) {idx : Nat} {L st : List Value} (h : pm_G pc_148 (some .long) 148 D Q cuts f idx L st σ) : Ok 148 (D + 1) idx L st σ Q := Ok.go (M := (⟨"PaidWhereMade", "waiting", "(III)J"⟩, prog_1_method_22_code, 4, (some .long), 11, pc_148)) rfl cuts f h
theorem S_PaidWhereMade_line {D : Nat} {av : List Value} {σ : pm_S} {Q : Option Value → pm_S → Prop} (cuts : List Nat) (f : Nat) (hac : pm_ac 7 av = true) (h : pm_G pc_149 (some .int) 149 D Q cuts f 0 (pm_L0 7 av) [] σ) : Sp 149 (D + 1) av σ Q := Sp.go (M := (⟨"PaidWhereMade", "line", "(IIII)I"⟩, prog_1_method_23_code, 7, (some .int), 11, pc_149)) rfl hac cuts f h
theorem O_PaidWhereMade_line {D : Nat} {σ : pm_S} {Q : Option Value → pm_S → Prop} (cuts : List Nat) (f : Nat) {idx : Nat} {L st : List Value} (h : pm_G pc_149 (some .int) 149 D Q cuts f idx L st σ) : Ok 149 (D + 1) idx L st σ Q := Ok.go (M := (⟨"PaidWhereMade", "line", "(IIII)I"⟩, prog_1_method_23_code, 7, (some .int), 11, pc_149)) rfl cuts f h
theorem S_PaidWhereMade_wrong {D : Nat} {av : List Value} {σ : pm_S} {Q : Option Value → pm_S → Prop} (cuts : List Nat) (f : Nat) (hac : pm_ac 2 av = true) (h : pm_G pc_150 (some .int) 150 D Q cuts f 0 (pm_L0 2 av) [] σ) : Sp 150 (D + 1) av σ Q := Sp.go (M := (⟨"PaidWhereMade", "wrong", "(I)I"⟩, prog_1_method_24_code, 2, (some .int), 11, pc_150)) rfl hac cuts f h
theorem O_PaidWhereMade_wrong {D : Nat} {σ : pm_S} {Q : Option Value → pm_S → Prop} (cuts : List Nat) (f : Nat) {idx : Nat} {L st : List Value} (h : pm_G pc_150 (some .int) 150 D Q cuts f idx L st σ) : Ok 150 (D + 1) idx L st σ Q := Ok.go (M := (⟨"PaidWhereMade", "wrong", "(I)I"⟩, prog_1_method_24_code, 2, (some .int), 11, pc_150)) rfl cuts f h
theorem S_PaidWhereMade_image {D : Nat} {av : List Value} {σ : pm_S} {Q : Option Value → pm_S → Prop} (cuts : List Nat) (f : Nat) (hac : pm_ac 2 av = true) (h : pm_G pc_151 (some .boolean) 151 D Q cuts f 0 (pm_L0 2 av) [] σ) : Sp 151 (D + 1) av σ Q := Sp.go (M := (⟨"PaidWhereMade", "image", "(Z)Z"⟩, prog_1_method_25_code, 2, (some .boolean), 11, pc_151)) rfl hac cuts f h
theorem O_PaidWhereMade_image {D : Nat} {σ : pm_S} {Q : Option Value → pm_S → Prop} (cuts : List Nat) (f : Nat) {idx : Nat} {L st : List Value} (h : pm_G pc_151 (some .boolean) 151 D Q cuts f idx L st σ) : Ok 151 (D + 1) idx L st σ Q := Ok.go (M := (⟨"PaidWhereMade", "image", "(Z)Z"⟩, prog_1_method_25_code, 2, (some .boolean), 11, pc_151)) rfl cuts f h
theorem S_PaidWhereMade_look {D : Nat} {av : List Value} {σ : pm_S} {Q : Option Value → pm_S → Prop} (cuts : List Nat) (f : Nat) (hac : pm_ac 2 av = true) (h : pm_G pc_152 (some .int) 152 D Q cuts f 0 (pm_L0 2 av) [] σ) : Sp 152 (D + 1) av σ Q := Sp.go (M := (⟨"PaidWhereMade", "look", "(I)I"⟩, prog_1_method_26_code, 2, (some .int), 11, pc_152)) rfl hac cuts f h
theorem O_PaidWhereMade_look {D : Nat} {σ : pm_S} {Q : Option Value → pm_S → Prop} (cuts : List Nat) (f : Nat) {idx : Nat} {L st : List Value} (h : pm_G pc_152 (some .int) 152 D Q cuts f idx L st σ) : Ok 152 (D + 1) idx L st σ Q := Ok.go (M := (⟨"PaidWhereMade", "look", "(I)I"⟩, prog_1_method_26_code, 2, (some .int), 11, pc_152)) rfl cuts f h
theorem S_PaidWhereMade_lookAtSetting {D : Nat} {av : List Value} {σ : pm_S} {Q : Option Value → pm_S → Prop} (cuts : List Nat) (f : Nat) (hac : pm_ac 2 av = true) (h : pm_G pc_153 (some .int) 153 D Q cuts f 0 (pm_L0 2 av) [] σ) : Sp 153 (D + 1) av σ Q := Sp.go (M := (⟨"PaidWhereMade", "lookAtSetting", "(I)I"⟩, prog_1_method_27_code, 2, (some .int), 11, pc_153)) rfl hac cuts f h
theorem O_PaidWhereMade_lookAtSetting {D : Nat} {σ : pm_S} {Q : Option Value → pm_S → Prop} (cuts : List Nat) (f : Nat) {idx : Nat} {L st : List Value} (h : pm_G pc_153 (some .int) 153 D Q cuts f idx L st σ) : Ok 153 (D + 1) idx L st σ Q := Ok.go (M := (⟨"PaidWhereMade", "lookAtSetting", "(I)I"⟩, prog_1_method_27_code, 2, (some .int), 11, pc_153)) rfl cuts f h
theorem S_PaidWhereMade_isSunday {D : Nat} {av : List Value} {σ : pm_S} {Q : Option Value → pm_S → Prop} (cuts : List Nat) (f : Nat) (hac : pm_ac 1 av = true) (h : pm_G pc_154 (some .boolean) 154 D Q cuts f 0 (pm_L0 1 av) [] σ) : Sp 154 (D + 1) av σ Q := Sp.go (M := (⟨"PaidWhereMade", "isSunday", "(I)Z"⟩, prog_1_method_28_code, 1, (some .boolean), 11, pc_154)) rfl hac cuts f h
theorem O_PaidWhereMade_isSunday {D : Nat} {σ : pm_S} {Q : Option Value → pm_S → Prop} (cuts : List Nat) (f : Nat) {idx : Nat} {L st : List Value} (h : pm_G pc_154 (some .boolean) 154 D Q cuts f idx L st σ) : Ok 154 (D + 1) idx L st σ Q := Ok.go (M := (⟨"PaidWhereMade", "isSunday", "(I)Z"⟩, prog_1_method_28_code, 1, (some .boolean), 11, pc_154)) rfl cuts f h
theorem S_PaidWhereMade_isSetOf {D : Nat} {av : List Value} {σ : pm_S} {Q : Option Value → pm_S → Prop} (cuts : List Nat) (f : Nat) (hac : pm_ac 2 av = true) (h : pm_G pc_155 (some .boolean) 155 D Q cuts f 0 (pm_L0 2 av) [] σ) : Sp 155 (D + 1) av σ Q := Sp.go (M := (⟨"PaidWhereMade", "isSetOf", "(II)Z"⟩, prog_1_method_29_code, 2, (some .boolean), 11, pc_155)) rfl hac cuts f h
theorem O_PaidWhereMade_isSetOf {D : Nat} {σ : pm_S} {Q : Option Value → pm_S → Prop} (cuts : List Nat) (f : Nat) {idx : Nat} {L st : List Value} (h : pm_G pc_155 (some .boolean) 155 D Q cuts f idx L st σ) : Ok 155 (D + 1) idx L st σ Q := Ok.go (M := (⟨"PaidWhereMade", "isSetOf", "(II)Z"⟩, prog_1_method_29_code, 2, (some .boolean), 11, pc_155)) rfl cuts f h
theorem S_PaidWhereMade_isIn {D : Nat} {av : List Value} {σ : pm_S} {Q : Option Value → pm_S → Prop} (cuts : List Nat) (f : Nat) (hac : pm_ac 2 av = true) (h : pm_G pc_156 (some .boolean) 156 D Q cuts f 0 (pm_L0 2 av) [] σ) : Sp 156 (D + 1) av σ Q := Sp.go (M := (⟨"PaidWhereMade", "isIn", "(II)Z"⟩, prog_1_method_30_code, 2, (some .boolean), 11, pc_156)) rfl hac cuts f h
theorem O_PaidWhereMade_isIn {D : Nat} {σ : pm_S} {Q : Option Value → pm_S → Prop} (cuts : List Nat) (f : Nat) {idx : Nat} {L st : List Value} (h : pm_G pc_156 (some .boolean) 156 D Q cuts f idx L st σ) : Ok 156 (D + 1) idx L st σ Q := Ok.go (M := (⟨"PaidWhereMade", "isIn", "(II)Z"⟩, prog_1_method_30_code, 2, (some .boolean), 11, pc_156)) rfl cuts f h
theorem S_PaidWhereMade_copyRow {D : Nat} {av : List Value} {σ : pm_S} {Q : Option Value → pm_S → Prop} (cuts : List Nat) (f : Nat) (hac : pm_ac 2 av = true) (h : pm_G pc_157 none 157 D Q cuts f 0 (pm_L0 2 av) [] σ) : Sp 157 (D + 1) av σ Q := Sp.go (M := (⟨"PaidWhereMade", "copyRow", "([I[I)V"⟩, prog_1_method_31_code, 2, none, 11, pc_157)) rfl hac cuts f h
theorem O_PaidWhereMade_copyRow {D : Nat} {σ : pm_S} {Q : Option Value → pm_S → Prop} (cuts : List Nat) (f : Nat) {idx : Nat} {L st : List Value} (h : pm_G pc_157 none 157 D Q cuts f idx L st σ) : Ok 157 (D + 1) idx L st σ Q := Ok.go (M := (⟨"PaidWhereMade", "copyRow", "([I[I)V"⟩, prog_1_method_31_code, 2, none, 11, pc_157)) rfl cuts f h
theorem S_Model_init {D : Nat} {av : List Value} {σ : pm_S} {Q : Option Value → pm_S → Prop} (cuts : List Nat) (f : Nat) (hac : pm_ac 1 av = true) (h : pm_G pc_158 none 158 D Q cuts f 0 (pm_L0 1 av) [] σ) : Sp 158 (D + 1) av σ Q := Sp.go (M := (⟨"PaidWhereMadeModel", "<init>", "()V"⟩, prog_14_method_1_code, 1, none, 12, pc_158)) rfl hac cuts f h
theorem O_Model_init {D : Nat} {σ : pm_S} {Q : Option Value → pm_S → Prop} (cuts : List Nat) (f : Nat) {idx : Nat} {L st : List Value} (h : pm_G pc_158 none 158 D Q cuts f idx L st σ) : Ok 158 (D + 1) idx L st σ Q := Ok.go (M := (⟨"PaidWhereMadeModel", "<init>", "()V"⟩, prog_14_method_1_code, 1, none, 12, pc_158)) rfl cuts f h
theorem S_Model_isIn {D : Nat} {av : List Value} {σ : pm_S} {Q : Option Value → pm_S → Prop} (cuts : List Nat) (f : Nat) (hac : pm_ac 4 av = true) (h : pm_G pc_159 (some .boolean) 159 D Q cuts f 0 (pm_L0 4 av) [] σ) : Sp 159 (D + 1) av σ Q := Sp.go (M := (⟨"PaidWhereMadeModel", "isIn", "(III)Z"⟩, prog_14_method_3_code, 4, (some .boolean), 12, pc_159)) rfl hac cuts f h
theorem O_Model_isIn {D : Nat} {σ : pm_S} {Q : Option Value → pm_S → Prop} (cuts : List Nat) (f : Nat) {idx : Nat} {L st : List Value} (h : pm_G pc_159 (some .boolean) 159 D Q cuts f idx L st σ) : Ok 159 (D + 1) idx L st σ Q := Ok.go (M := (⟨"PaidWhereMadeModel", "isIn", "(III)Z"⟩, prog_14_method_3_code, 4, (some .boolean), 12, pc_159)) rfl cuts f h
theorem S_Model_ones {D : Nat} {av : List Value} {σ : pm_S} {Q : Option Value → pm_S → Prop} (cuts : List Nat) (f : Nat) (hac : pm_ac 4 av = true) (h : pm_G pc_160 (some .int) 160 D Q cuts f 0 (pm_L0 4 av) [] σ) : Sp 160 (D + 1) av σ Q := Sp.go (M := (⟨"PaidWhereMadeModel", "ones", "(I)I"⟩, prog_14_method_4_code, 4, (some .int), 12, pc_160)) rfl hac cuts f h
theorem O_Model_ones {D : Nat} {σ : pm_S} {Q : Option Value → pm_S → Prop} (cuts : List Nat) (f : Nat) {idx : Nat} {L st : List Value} (h : pm_G pc_160 (some .int) 160 D Q cuts f idx L st σ) : Ok 160 (D + 1) idx L st σ Q := Ok.go (M := (⟨"PaidWhereMadeModel", "ones", "(I)I"⟩, prog_14_method_4_code, 4, (some .int), 12, pc_160)) rfl cuts f h
theorem S_Model_state {D : Nat} {av : List Value} {σ : pm_S} {Q : Option Value → pm_S → Prop} (cuts : List Nat) (f : Nat) (hac : pm_ac 3 av = true) (h : pm_G pc_161 (some .int) 161 D Q cuts f 0 (pm_L0 3 av) [] σ) : Sp 161 (D + 1) av σ Q := Sp.go (M := (⟨"PaidWhereMadeModel", "state", "(I)I"⟩, prog_14_method_5_code, 3, (some .int), 12, pc_161)) rfl hac cuts f h
theorem O_Model_state {D : Nat} {σ : pm_S} {Q : Option Value → pm_S → Prop} (cuts : List Nat) (f : Nat) {idx : Nat} {L st : List Value} (h : pm_G pc_161 (some .int) 161 D Q cuts f idx L st σ) : Ok 161 (D + 1) idx L st σ Q := Ok.go (M := (⟨"PaidWhereMadeModel", "state", "(I)I"⟩, prog_14_method_5_code, 3, (some .int), 12, pc_161)) rfl cuts f h
theorem S_Model_draw {D : Nat} {av : List Value} {σ : pm_S} {Q : Option Value → pm_S → Prop} (cuts : List Nat) (f : Nat) (hac : pm_ac 2 av = true) (h : pm_G pc_162 (some .int) 162 D Q cuts f 0 (pm_L0 2 av) [] σ) : Sp 162 (D + 1) av σ Q := Sp.go (M := (⟨"PaidWhereMadeModel", "draw", "(I)I"⟩, prog_14_method_6_code, 2, (some .int), 12, pc_162)) rfl hac cuts f h
theorem O_Model_draw {D : Nat} {σ : pm_S} {Q : Option Value → pm_S → Prop} (cuts : List Nat) (f : Nat) {idx : Nat} {L st : List Value} (h : pm_G pc_162 (some .int) 162 D Q cuts f idx L st σ) : Ok 162 (D + 1) idx L st σ Q := Ok.go (M := (⟨"PaidWhereMadeModel", "draw", "(I)I"⟩, prog_14_method_6_code, 2, (some .int), 12, pc_162)) rfl cuts f h
theorem S_Model_isSpot {D : Nat} {av : List Value} {σ : pm_S} {Q : Option Value → pm_S → Prop} (cuts : List Nat) (f : Nat) (hac : pm_ac 2 av = true) (h : pm_G pc_163 (some .boolean) 163 D Q cuts f 0 (pm_L0 2 av) [] σ) : Sp 163 (D + 1) av σ Q := Sp.go (M := (⟨"PaidWhereMadeModel", "isSpot", "(I)Z"⟩, prog_14_method_7_code, 2, (some .boolean), 12, pc_163)) rfl hac cuts f h
theorem O_Model_isSpot {D : Nat} {σ : pm_S} {Q : Option Value → pm_S → Prop} (cuts : List Nat) (f : Nat) {idx : Nat} {L st : List Value} (h : pm_G pc_163 (some .boolean) 163 D Q cuts f idx L st σ) : Ok 163 (D + 1) idx L st σ Q := Ok.go (M := (⟨"PaidWhereMadeModel", "isSpot", "(I)Z"⟩, prog_14_method_7_code, 2, (some .boolean), 12, pc_163)) rfl cuts f h
theorem S_Model_isOne {D : Nat} {av : List Value} {σ : pm_S} {Q : Option Value → pm_S → Prop} (cuts : List Nat) (f : Nat) (hac : pm_ac 2 av = true) (h : pm_G pc_164 (some .boolean) 164 D Q cuts f 0 (pm_L0 2 av) [] σ) : Sp 164 (D + 1) av σ Q := Sp.go (M := (⟨"PaidWhereMadeModel", "isOne", "(I)Z"⟩, prog_14_method_8_code, 2, (some .boolean), 12, pc_164)) rfl hac cuts f h
theorem O_Model_isOne {D : Nat} {σ : pm_S} {Q : Option Value → pm_S → Prop} (cuts : List Nat) (f : Nat) {idx : Nat} {L st : List Value} (h : pm_G pc_164 (some .boolean) 164 D Q cuts f idx L st σ) : Ok 164 (D + 1) idx L st σ Q := Ok.go (M := (⟨"PaidWhereMadeModel", "isOne", "(I)Z"⟩, prog_14_method_8_code, 2, (some .boolean), 12, pc_164)) rfl cuts f h
theorem S_Model_milesOf {D : Nat} {av : List Value} {σ : pm_S} {Q : Option Value → pm_S → Prop} (cuts : List Nat) (f : Nat) (hac : pm_ac 3 av = true) (h : pm_G pc_165 (some .int) 165 D Q cuts f 0 (pm_L0 3 av) [] σ) : Sp 165 (D + 1) av σ Q := Sp.go (M := (⟨"PaidWhereMadeModel", "milesOf", "(II)I"⟩, prog_14_method_9_code, 3, (some .int), 12, pc_165)) rfl hac cuts f h
theorem O_Model_milesOf {D : Nat} {σ : pm_S} {Q : Option Value → pm_S → Prop} (cuts : List Nat) (f : Nat) {idx : Nat} {L st : List Value} (h : pm_G pc_165 (some .int) 165 D Q cuts f idx L st σ) : Ok 165 (D + 1) idx L st σ Q := Ok.go (M := (⟨"PaidWhereMadeModel", "milesOf", "(II)I"⟩, prog_14_method_9_code, 3, (some .int), 12, pc_165)) rfl cuts f h
theorem S_Model_spot {D : Nat} {av : List Value} {σ : pm_S} {Q : Option Value → pm_S → Prop} (cuts : List Nat) (f : Nat) (hac : pm_ac 2 av = true) (h : pm_G pc_166 (some .int) 166 D Q cuts f 0 (pm_L0 2 av) [] σ) : Sp 166 (D + 1) av σ Q := Sp.go (M := (⟨"PaidWhereMadeModel", "spot", "(I)I"⟩, prog_14_method_10_code, 2, (some .int), 12, pc_166)) rfl hac cuts f h
theorem O_Model_spot {D : Nat} {σ : pm_S} {Q : Option Value → pm_S → Prop} (cuts : List Nat) (f : Nat) {idx : Nat} {L st : List Value} (h : pm_G pc_166 (some .int) 166 D Q cuts f idx L st σ) : Ok 166 (D + 1) idx L st σ Q := Ok.go (M := (⟨"PaidWhereMadeModel", "spot", "(I)I"⟩, prog_14_method_10_code, 2, (some .int), 12, pc_166)) rfl cuts f h
theorem S_Model_way {D : Nat} {av : List Value} {σ : pm_S} {Q : Option Value → pm_S → Prop} (cuts : List Nat) (f : Nat) (hac : pm_ac 4 av = true) (h : pm_G pc_167 (some .boolean) 167 D Q cuts f 0 (pm_L0 4 av) [] σ) : Sp 167 (D + 1) av σ Q := Sp.go (M := (⟨"PaidWhereMadeModel", "way", "(III)Z"⟩, prog_14_method_11_code, 4, (some .boolean), 12, pc_167)) rfl hac cuts f h
theorem O_Model_way {D : Nat} {σ : pm_S} {Q : Option Value → pm_S → Prop} (cuts : List Nat) (f : Nat) {idx : Nat} {L st : List Value} (h : pm_G pc_167 (some .boolean) 167 D Q cuts f idx L st σ) : Ok 167 (D + 1) idx L st σ Q := Ok.go (M := (⟨"PaidWhereMadeModel", "way", "(III)Z"⟩, prog_14_method_11_code, 4, (some .boolean), 12, pc_167)) rfl cuts f h
theorem S_Model_person {D : Nat} {av : List Value} {σ : pm_S} {Q : Option Value → pm_S → Prop} (cuts : List Nat) (f : Nat) (hac : pm_ac 4 av = true) (h : pm_G pc_168 (some .int) 168 D Q cuts f 0 (pm_L0 4 av) [] σ) : Sp 168 (D + 1) av σ Q := Sp.go (M := (⟨"PaidWhereMadeModel", "person", "(III)I"⟩, prog_14_method_12_code, 4, (some .int), 12, pc_168)) rfl hac cuts f h
theorem O_Model_person {D : Nat} {σ : pm_S} {Q : Option Value → pm_S → Prop} (cuts : List Nat) (f : Nat) {idx : Nat} {L st : List Value} (h : pm_G pc_168 (some .int) 168 D Q cuts f idx L st σ) : Ok 168 (D + 1) idx L st σ Q := Ok.go (M := (⟨"PaidWhereMadeModel", "person", "(III)I"⟩, prog_14_method_12_code, 4, (some .int), 12, pc_168)) rfl cuts f h
theorem S_Model_debt {D : Nat} {av : List Value} {σ : pm_S} {Q : Option Value → pm_S → Prop} (cuts : List Nat) (f : Nat) (hac : pm_ac 5 av = true) (h : pm_G pc_169 (some .int) 169 D Q cuts f 0 (pm_L0 5 av) [] σ) : Sp 169 (D + 1) av σ Q := Sp.go (M := (⟨"PaidWhereMadeModel", "debt", "(IIII)I"⟩, prog_14_method_13_code, 5, (some .int), 12, pc_169)) rfl hac cuts f h
theorem O_Model_debt {D : Nat} {σ : pm_S} {Q : Option Value → pm_S → Prop} (cuts : List Nat) (f : Nat) {idx : Nat} {L st : List Value} (h : pm_G pc_169 (some .int) 169 D Q cuts f idx L st σ) : Ok 169 (D + 1) idx L st σ Q := Ok.go (M := (⟨"PaidWhereMadeModel", "debt", "(IIII)I"⟩, prog_14_method_13_code, 5, (some .int), 12, pc_169)) rfl cuts f h
theorem S_Model_leastOf {D : Nat} {av : List Value} {σ : pm_S} {Q : Option Value → pm_S → Prop} (cuts : List Nat) (f : Nat) (hac : pm_ac 2 av = true) (h : pm_G pc_170 (some .int) 170 D Q cuts f 0 (pm_L0 2 av) [] σ) : Sp 170 (D + 1) av σ Q := Sp.go (M := (⟨"PaidWhereMadeModel", "leastOf", "(I)I"⟩, prog_14_method_14_code, 2, (some .int), 12, pc_170)) rfl hac cuts f h
theorem O_Model_leastOf {D : Nat} {σ : pm_S} {Q : Option Value → pm_S → Prop} (cuts : List Nat) (f : Nat) {idx : Nat} {L st : List Value} (h : pm_G pc_170 (some .int) 170 D Q cuts f idx L st σ) : Ok 170 (D + 1) idx L st σ Q := Ok.go (M := (⟨"PaidWhereMadeModel", "leastOf", "(I)I"⟩, prog_14_method_14_code, 2, (some .int), 12, pc_170)) rfl cuts f h
theorem S_Model_mostOf {D : Nat} {av : List Value} {σ : pm_S} {Q : Option Value → pm_S → Prop} (cuts : List Nat) (f : Nat) (hac : pm_ac 2 av = true) (h : pm_G pc_171 (some .int) 171 D Q cuts f 0 (pm_L0 2 av) [] σ) : Sp 171 (D + 1) av σ Q := Sp.go (M := (⟨"PaidWhereMadeModel", "mostOf", "(I)I"⟩, prog_14_method_15_code, 2, (some .int), 12, pc_171)) rfl hac cuts f h
theorem O_Model_mostOf {D : Nat} {σ : pm_S} {Q : Option Value → pm_S → Prop} (cuts : List Nat) (f : Nat) {idx : Nat} {L st : List Value} (h : pm_G pc_171 (some .int) 171 D Q cuts f idx L st σ) : Ok 171 (D + 1) idx L st σ Q := Ok.go (M := (⟨"PaidWhereMadeModel", "mostOf", "(I)I"⟩, prog_14_method_15_code, 2, (some .int), 12, pc_171)) rfl cuts f h
theorem S_Model_set {D : Nat} {av : List Value} {σ : pm_S} {Q : Option Value → pm_S → Prop} (cuts : List Nat) (f : Nat) (hac : pm_ac 3 av = true) (h : pm_G pc_172 (some .boolean) 172 D Q cuts f 0 (pm_L0 3 av) [] σ) : Sp 172 (D + 1) av σ Q := Sp.go (M := (⟨"PaidWhereMadeModel", "set", "(II)Z"⟩, prog_14_method_16_code, 3, (some .boolean), 12, pc_172)) rfl hac cuts f h
theorem O_Model_set {D : Nat} {σ : pm_S} {Q : Option Value → pm_S → Prop} (cuts : List Nat) (f : Nat) {idx : Nat} {L st : List Value} (h : pm_G pc_172 (some .boolean) 172 D Q cuts f idx L st σ) : Ok 172 (D + 1) idx L st σ Q := Ok.go (M := (⟨"PaidWhereMadeModel", "set", "(II)Z"⟩, prog_14_method_16_code, 3, (some .boolean), 12, pc_172)) rfl cuts f h
theorem S_Model_goal {D : Nat} {av : List Value} {σ : pm_S} {Q : Option Value → pm_S → Prop} (cuts : List Nat) (f : Nat) (hac : pm_ac 3 av = true) (h : pm_G pc_173 (some .boolean) 173 D Q cuts f 0 (pm_L0 3 av) [] σ) : Sp 173 (D + 1) av σ Q := Sp.go (M := (⟨"PaidWhereMadeModel", "goal", "(II)Z"⟩, prog_14_method_17_code, 3, (some .boolean), 12, pc_173)) rfl hac cuts f h
theorem O_Model_goal {D : Nat} {σ : pm_S} {Q : Option Value → pm_S → Prop} (cuts : List Nat) (f : Nat) {idx : Nat} {L st : List Value} (h : pm_G pc_173 (some .boolean) 173 D Q cuts f idx L st σ) : Ok 173 (D + 1) idx L st σ Q := Ok.go (M := (⟨"PaidWhereMadeModel", "goal", "(II)Z"⟩, prog_14_method_17_code, 3, (some .boolean), 12, pc_173)) rfl cuts f h
theorem S_Model_types {D : Nat} {av : List Value} {σ : pm_S} {Q : Option Value → pm_S → Prop} (cuts : List Nat) (f : Nat) (hac : pm_ac 3 av = true) (h : pm_G pc_174 none 174 D Q cuts f 0 (pm_L0 3 av) [] σ) : Sp 174 (D + 1) av σ Q := Sp.go (M := (⟨"PaidWhereMadeModel", "types", "(I)V"⟩, prog_14_method_18_code, 3, none, 12, pc_174)) rfl hac cuts f h
theorem O_Model_types {D : Nat} {σ : pm_S} {Q : Option Value → pm_S → Prop} (cuts : List Nat) (f : Nat) {idx : Nat} {L st : List Value} (h : pm_G pc_174 none 174 D Q cuts f idx L st σ) : Ok 174 (D + 1) idx L st σ Q := Ok.go (M := (⟨"PaidWhereMadeModel", "types", "(I)V"⟩, prog_14_method_18_code, 3, none, 12, pc_174)) rfl cuts f h
theorem S_Model_feed {D : Nat} {av : List Value} {σ : pm_S} {Q : Option Value → pm_S → Prop} (cuts : List Nat) (f : Nat) (hac : pm_ac 6 av = true) (h : pm_G pc_175 (some .int) 175 D Q cuts f 0 (pm_L0 6 av) [] σ) : Sp 175 (D + 1) av σ Q := Sp.go (M := (⟨"PaidWhereMadeModel", "feed", "(IIIII)I"⟩, prog_14_method_19_code, 6, (some .int), 12, pc_175)) rfl hac cuts f h
theorem O_Model_feed {D : Nat} {σ : pm_S} {Q : Option Value → pm_S → Prop} (cuts : List Nat) (f : Nat) {idx : Nat} {L st : List Value} (h : pm_G pc_175 (some .int) 175 D Q cuts f idx L st σ) : Ok 175 (D + 1) idx L st σ Q := Ok.go (M := (⟨"PaidWhereMadeModel", "feed", "(IIIII)I"⟩, prog_14_method_19_code, 6, (some .int), 12, pc_175)) rfl cuts f h
theorem S_Model_end {D : Nat} {av : List Value} {σ : pm_S} {Q : Option Value → pm_S → Prop} (cuts : List Nat) (f : Nat) (hac : pm_ac 2 av = true) (h : pm_G pc_176 (some .boolean) 176 D Q cuts f 0 (pm_L0 2 av) [] σ) : Sp 176 (D + 1) av σ Q := Sp.go (M := (⟨"PaidWhereMadeModel", "end", "(I)Z"⟩, prog_14_method_20_code, 2, (some .boolean), 12, pc_176)) rfl hac cuts f h
theorem O_Model_end {D : Nat} {σ : pm_S} {Q : Option Value → pm_S → Prop} (cuts : List Nat) (f : Nat) {idx : Nat} {L st : List Value} (h : pm_G pc_176 (some .boolean) 176 D Q cuts f idx L st σ) : Ok 176 (D + 1) idx L st σ Q := Ok.go (M := (⟨"PaidWhereMadeModel", "end", "(I)Z"⟩, prog_14_method_20_code, 2, (some .boolean), 12, pc_176)) rfl cuts f h
theorem S_Model_raw {D : Nat} {av : List Value} {σ : pm_S} {Q : Option Value → pm_S → Prop} (cuts : List Nat) (f : Nat) (hac : pm_ac 2 av = true) (h : pm_G pc_177 (some .int) 177 D Q cuts f 0 (pm_L0 2 av) [] σ) : Sp 177 (D + 1) av σ Q := Sp.go (M := (⟨"PaidWhereMadeModel", "raw", "(I)I"⟩, prog_14_method_21_code, 2, (some .int), 12, pc_177)) rfl hac cuts f h
theorem O_Model_raw {D : Nat} {σ : pm_S} {Q : Option Value → pm_S → Prop} (cuts : List Nat) (f : Nat) {idx : Nat} {L st : List Value} (h : pm_G pc_177 (some .int) 177 D Q cuts f idx L st σ) : Ok 177 (D + 1) idx L st σ Q := Ok.go (M := (⟨"PaidWhereMadeModel", "raw", "(I)I"⟩, prog_14_method_21_code, 2, (some .int), 12, pc_177)) rfl cuts f h
theorem S_Model_isLetter {D : Nat} {av : List Value} {σ : pm_S} {Q : Option Value → pm_S → Prop} (cuts : List Nat) (f : Nat) (hac : pm_ac 2 av = true) (h : pm_G pc_178 (some .boolean) 178 D Q cuts f 0 (pm_L0 2 av) [] σ) : Sp 178 (D + 1) av σ Q := Sp.go (M := (⟨"PaidWhereMadeModel", "isLetter", "(I)Z"⟩, prog_14_method_22_code, 2, (some .boolean), 12, pc_178)) rfl hac cuts f h
theorem O_Model_isLetter {D : Nat} {σ : pm_S} {Q : Option Value → pm_S → Prop} (cuts : List Nat) (f : Nat) {idx : Nat} {L st : List Value} (h : pm_G pc_178 (some .boolean) 178 D Q cuts f idx L st σ) : Ok 178 (D + 1) idx L st σ Q := Ok.go (M := (⟨"PaidWhereMadeModel", "isLetter", "(I)Z"⟩, prog_14_method_22_code, 2, (some .boolean), 12, pc_178)) rfl cuts f h
theorem S_Model_isDigit {D : Nat} {av : List Value} {σ : pm_S} {Q : Option Value → pm_S → Prop} (cuts : List Nat) (f : Nat) (hac : pm_ac 2 av = true) (h : pm_G pc_179 (some .boolean) 179 D Q cuts f 0 (pm_L0 2 av) [] σ) : Sp 179 (D + 1) av σ Q := Sp.go (M := (⟨"PaidWhereMadeModel", "isDigit", "(I)Z"⟩, prog_14_method_23_code, 2, (some .boolean), 12, pc_179)) rfl hac cuts f h
theorem O_Model_isDigit {D : Nat} {σ : pm_S} {Q : Option Value → pm_S → Prop} (cuts : List Nat) (f : Nat) {idx : Nat} {L st : List Value} (h : pm_G pc_179 (some .boolean) 179 D Q cuts f idx L st σ) : Ok 179 (D + 1) idx L st σ Q := Ok.go (M := (⟨"PaidWhereMadeModel", "isDigit", "(I)Z"⟩, prog_14_method_23_code, 2, (some .boolean), 12, pc_179)) rfl cuts f h
theorem S_Model_isMarkSign {D : Nat} {av : List Value} {σ : pm_S} {Q : Option Value → pm_S → Prop} (cuts : List Nat) (f : Nat) (hac : pm_ac 2 av = true) (h : pm_G pc_180 (some .boolean) 180 D Q cuts f 0 (pm_L0 2 av) [] σ) : Sp 180 (D + 1) av σ Q := Sp.go (M := (⟨"PaidWhereMadeModel", "isMarkSign", "(I)Z"⟩, prog_14_method_24_code, 2, (some .boolean), 12, pc_180)) rfl hac cuts f h
theorem O_Model_isMarkSign {D : Nat} {σ : pm_S} {Q : Option Value → pm_S → Prop} (cuts : List Nat) (f : Nat) {idx : Nat} {L st : List Value} (h : pm_G pc_180 (some .boolean) 180 D Q cuts f idx L st σ) : Ok 180 (D + 1) idx L st σ Q := Ok.go (M := (⟨"PaidWhereMadeModel", "isMarkSign", "(I)Z"⟩, prog_14_method_24_code, 2, (some .boolean), 12, pc_180)) rfl cuts f h
theorem S_Model_wordAt {D : Nat} {av : List Value} {σ : pm_S} {Q : Option Value → pm_S → Prop} (cuts : List Nat) (f : Nat) (hac : pm_ac 6 av = true) (h : pm_G pc_181 (some .int) 181 D Q cuts f 0 (pm_L0 6 av) [] σ) : Sp 181 (D + 1) av σ Q := Sp.go (M := (⟨"PaidWhereMadeModel", "wordAt", "(II)I"⟩, prog_14_method_25_code, 6, (some .int), 12, pc_181)) rfl hac cuts f h
theorem O_Model_wordAt {D : Nat} {σ : pm_S} {Q : Option Value → pm_S → Prop} (cuts : List Nat) (f : Nat) {idx : Nat} {L st : List Value} (h : pm_G pc_181 (some .int) 181 D Q cuts f idx L st σ) : Ok 181 (D + 1) idx L st σ Q := Ok.go (M := (⟨"PaidWhereMadeModel", "wordAt", "(II)I"⟩, prog_14_method_25_code, 6, (some .int), 12, pc_181)) rfl cuts f h
theorem S_Model_reads {D : Nat} {av : List Value} {σ : pm_S} {Q : Option Value → pm_S → Prop} (cuts : List Nat) (f : Nat) (hac : pm_ac 2 av = true) (h : pm_G pc_182 none 182 D Q cuts f 0 (pm_L0 2 av) [] σ) : Sp 182 (D + 1) av σ Q := Sp.go (M := (⟨"PaidWhereMadeModel", "reads", "()V"⟩, prog_14_method_26_code, 2, none, 12, pc_182)) rfl hac cuts f h
theorem O_Model_reads {D : Nat} {σ : pm_S} {Q : Option Value → pm_S → Prop} (cuts : List Nat) (f : Nat) {idx : Nat} {L st : List Value} (h : pm_G pc_182 none 182 D Q cuts f idx L st σ) : Ok 182 (D + 1) idx L st σ Q := Ok.go (M := (⟨"PaidWhereMadeModel", "reads", "()V"⟩, prog_14_method_26_code, 2, none, 12, pc_182)) rfl cuts f h
theorem S_Model_errs {D : Nat} {av : List Value} {σ : pm_S} {Q : Option Value → pm_S → Prop} (cuts : List Nat) (f : Nat) (hac : pm_ac 2 av = true) (h : pm_G pc_183 (some .int) 183 D Q cuts f 0 (pm_L0 2 av) [] σ) : Sp 183 (D + 1) av σ Q := Sp.go (M := (⟨"PaidWhereMadeModel", "errs", "(I)I"⟩, prog_14_method_27_code, 2, (some .int), 12, pc_183)) rfl hac cuts f h
theorem O_Model_errs {D : Nat} {σ : pm_S} {Q : Option Value → pm_S → Prop} (cuts : List Nat) (f : Nat) {idx : Nat} {L st : List Value} (h : pm_G pc_183 (some .int) 183 D Q cuts f idx L st σ) : Ok 183 (D + 1) idx L st σ Q := Ok.go (M := (⟨"PaidWhereMadeModel", "errs", "(I)I"⟩, prog_14_method_27_code, 2, (some .int), 12, pc_183)) rfl cuts f h
theorem S_Model_isWord {D : Nat} {av : List Value} {σ : pm_S} {Q : Option Value → pm_S → Prop} (cuts : List Nat) (f : Nat) (hac : pm_ac 2 av = true) (h : pm_G pc_184 (some .boolean) 184 D Q cuts f 0 (pm_L0 2 av) [] σ) : Sp 184 (D + 1) av σ Q := Sp.go (M := (⟨"PaidWhereMadeModel", "isWord", "(I)Z"⟩, prog_14_method_28_code, 2, (some .boolean), 12, pc_184)) rfl hac cuts f h
theorem O_Model_isWord {D : Nat} {σ : pm_S} {Q : Option Value → pm_S → Prop} (cuts : List Nat) (f : Nat) {idx : Nat} {L st : List Value} (h : pm_G pc_184 (some .boolean) 184 D Q cuts f idx L st σ) : Ok 184 (D + 1) idx L st σ Q := Ok.go (M := (⟨"PaidWhereMadeModel", "isWord", "(I)Z"⟩, prog_14_method_28_code, 2, (some .boolean), 12, pc_184)) rfl cuts f h
theorem S_Model_isSign {D : Nat} {av : List Value} {σ : pm_S} {Q : Option Value → pm_S → Prop} (cuts : List Nat) (f : Nat) (hac : pm_ac 2 av = true) (h : pm_G pc_185 (some .boolean) 185 D Q cuts f 0 (pm_L0 2 av) [] σ) : Sp 185 (D + 1) av σ Q := Sp.go (M := (⟨"PaidWhereMadeModel", "isSign", "(I)Z"⟩, prog_14_method_29_code, 2, (some .boolean), 12, pc_185)) rfl hac cuts f h
theorem O_Model_isSign {D : Nat} {σ : pm_S} {Q : Option Value → pm_S → Prop} (cuts : List Nat) (f : Nat) {idx : Nat} {L st : List Value} (h : pm_G pc_185 (some .boolean) 185 D Q cuts f idx L st σ) : Ok 185 (D + 1) idx L st σ Q := Ok.go (M := (⟨"PaidWhereMadeModel", "isSign", "(I)Z"⟩, prog_14_method_29_code, 2, (some .boolean), 12, pc_185)) rfl cuts f h
theorem S_Model_emits {D : Nat} {av : List Value} {σ : pm_S} {Q : Option Value → pm_S → Prop} (cuts : List Nat) (f : Nat) (hac : pm_ac 3 av = true) (h : pm_G pc_186 none 186 D Q cuts f 0 (pm_L0 3 av) [] σ) : Sp 186 (D + 1) av σ Q := Sp.go (M := (⟨"PaidWhereMadeModel", "emits", "(II)V"⟩, prog_14_method_30_code, 3, none, 12, pc_186)) rfl hac cuts f h
theorem O_Model_emits {D : Nat} {σ : pm_S} {Q : Option Value → pm_S → Prop} (cuts : List Nat) (f : Nat) {idx : Nat} {L st : List Value} (h : pm_G pc_186 none 186 D Q cuts f idx L st σ) : Ok 186 (D + 1) idx L st σ Q := Ok.go (M := (⟨"PaidWhereMadeModel", "emits", "(II)V"⟩, prog_14_method_30_code, 3, none, 12, pc_186)) rfl cuts f h
theorem S_Model_readUnit {D : Nat} {av : List Value} {σ : pm_S} {Q : Option Value → pm_S → Prop} (cuts : List Nat) (f : Nat) (hac : pm_ac 2 av = true) (h : pm_G pc_187 (some .int) 187 D Q cuts f 0 (pm_L0 2 av) [] σ) : Sp 187 (D + 1) av σ Q := Sp.go (M := (⟨"PaidWhereMadeModel", "readUnit", "()I"⟩, prog_14_method_31_code, 2, (some .int), 12, pc_187)) rfl hac cuts f h
theorem O_Model_readUnit {D : Nat} {σ : pm_S} {Q : Option Value → pm_S → Prop} (cuts : List Nat) (f : Nat) {idx : Nat} {L st : List Value} (h : pm_G pc_187 (some .int) 187 D Q cuts f idx L st σ) : Ok 187 (D + 1) idx L st σ Q := Ok.go (M := (⟨"PaidWhereMadeModel", "readUnit", "()I"⟩, prog_14_method_31_code, 2, (some .int), 12, pc_187)) rfl cuts f h
theorem S_Model_readProduct {D : Nat} {av : List Value} {σ : pm_S} {Q : Option Value → pm_S → Prop} (cuts : List Nat) (f : Nat) (hac : pm_ac 2 av = true) (h : pm_G pc_188 (some .int) 188 D Q cuts f 0 (pm_L0 2 av) [] σ) : Sp 188 (D + 1) av σ Q := Sp.go (M := (⟨"PaidWhereMadeModel", "readProduct", "()I"⟩, prog_14_method_32_code, 2, (some .int), 12, pc_188)) rfl hac cuts f h
theorem O_Model_readProduct {D : Nat} {σ : pm_S} {Q : Option Value → pm_S → Prop} (cuts : List Nat) (f : Nat) {idx : Nat} {L st : List Value} (h : pm_G pc_188 (some .int) 188 D Q cuts f idx L st σ) : Ok 188 (D + 1) idx L st σ Q := Ok.go (M := (⟨"PaidWhereMadeModel", "readProduct", "()I"⟩, prog_14_method_32_code, 2, (some .int), 12, pc_188)) rfl cuts f h
theorem S_Model_readSum {D : Nat} {av : List Value} {σ : pm_S} {Q : Option Value → pm_S → Prop} (cuts : List Nat) (f : Nat) (hac : pm_ac 2 av = true) (h : pm_G pc_189 (some .int) 189 D Q cuts f 0 (pm_L0 2 av) [] σ) : Sp 189 (D + 1) av σ Q := Sp.go (M := (⟨"PaidWhereMadeModel", "readSum", "()I"⟩, prog_14_method_33_code, 2, (some .int), 12, pc_189)) rfl hac cuts f h
theorem O_Model_readSum {D : Nat} {σ : pm_S} {Q : Option Value → pm_S → Prop} (cuts : List Nat) (f : Nat) {idx : Nat} {L st : List Value} (h : pm_G pc_189 (some .int) 189 D Q cuts f idx L st σ) : Ok 189 (D + 1) idx L st σ Q := Ok.go (M := (⟨"PaidWhereMadeModel", "readSum", "()I"⟩, prog_14_method_33_code, 2, (some .int), 12, pc_189)) rfl cuts f h
theorem S_Model_readCompared {D : Nat} {av : List Value} {σ : pm_S} {Q : Option Value → pm_S → Prop} (cuts : List Nat) (f : Nat) (hac : pm_ac 2 av = true) (h : pm_G pc_190 (some .int) 190 D Q cuts f 0 (pm_L0 2 av) [] σ) : Sp 190 (D + 1) av σ Q := Sp.go (M := (⟨"PaidWhereMadeModel", "readCompared", "()I"⟩, prog_14_method_34_code, 2, (some .int), 12, pc_190)) rfl hac cuts f h
theorem O_Model_readCompared {D : Nat} {σ : pm_S} {Q : Option Value → pm_S → Prop} (cuts : List Nat) (f : Nat) {idx : Nat} {L st : List Value} (h : pm_G pc_190 (some .int) 190 D Q cuts f idx L st σ) : Ok 190 (D + 1) idx L st σ Q := Ok.go (M := (⟨"PaidWhereMadeModel", "readCompared", "()I"⟩, prog_14_method_34_code, 2, (some .int), 12, pc_190)) rfl cuts f h
theorem S_Model_waits {D : Nat} {av : List Value} {σ : pm_S} {Q : Option Value → pm_S → Prop} (cuts : List Nat) (f : Nat) (hac : pm_ac 2 av = true) (h : pm_G pc_191 none 191 D Q cuts f 0 (pm_L0 2 av) [] σ) : Sp 191 (D + 1) av σ Q := Sp.go (M := (⟨"PaidWhereMadeModel", "waits", "(I)V"⟩, prog_14_method_35_code, 2, none, 12, pc_191)) rfl hac cuts f h
theorem O_Model_waits {D : Nat} {σ : pm_S} {Q : Option Value → pm_S → Prop} (cuts : List Nat) (f : Nat) {idx : Nat} {L st : List Value} (h : pm_G pc_191 none 191 D Q cuts f idx L st σ) : Ok 191 (D + 1) idx L st σ Q := Ok.go (M := (⟨"PaidWhereMadeModel", "waits", "(I)V"⟩, prog_14_method_35_code, 2, none, 12, pc_191)) rfl cuts f h
theorem S_Model_settles {D : Nat} {av : List Value} {σ : pm_S} {Q : Option Value → pm_S → Prop} (cuts : List Nat) (f : Nat) (hac : pm_ac 2 av = true) (h : pm_G pc_192 none 192 D Q cuts f 0 (pm_L0 2 av) [] σ) : Sp 192 (D + 1) av σ Q := Sp.go (M := (⟨"PaidWhereMadeModel", "settles", "(I)V"⟩, prog_14_method_36_code, 2, none, 12, pc_192)) rfl hac cuts f h
theorem O_Model_settles {D : Nat} {σ : pm_S} {Q : Option Value → pm_S → Prop} (cuts : List Nat) (f : Nat) {idx : Nat} {L st : List Value} (h : pm_G pc_192 none 192 D Q cuts f idx L st σ) : Ok 192 (D + 1) idx L st σ Q := Ok.go (M := (⟨"PaidWhereMadeModel", "settles", "(I)V"⟩, prog_14_method_36_code, 2, none, 12, pc_192)) rfl cuts f h
theorem S_Model_readAny {D : Nat} {av : List Value} {σ : pm_S} {Q : Option Value → pm_S → Prop} (cuts : List Nat) (f : Nat) (hac : pm_ac 4 av = true) (h : pm_G pc_193 (some .int) 193 D Q cuts f 0 (pm_L0 4 av) [] σ) : Sp 193 (D + 1) av σ Q := Sp.go (M := (⟨"PaidWhereMadeModel", "readAny", "()I"⟩, prog_14_method_37_code, 4, (some .int), 12, pc_193)) rfl hac cuts f h
theorem O_Model_readAny {D : Nat} {σ : pm_S} {Q : Option Value → pm_S → Prop} (cuts : List Nat) (f : Nat) {idx : Nat} {L st : List Value} (h : pm_G pc_193 (some .int) 193 D Q cuts f idx L st σ) : Ok 193 (D + 1) idx L st σ Q := Ok.go (M := (⟨"PaidWhereMadeModel", "readAny", "()I"⟩, prog_14_method_37_code, 4, (some .int), 12, pc_193)) rfl cuts f h
theorem S_Model_readText {D : Nat} {av : List Value} {σ : pm_S} {Q : Option Value → pm_S → Prop} (cuts : List Nat) (f : Nat) (hac : pm_ac 3 av = true) (h : pm_G pc_194 (some .int) 194 D Q cuts f 0 (pm_L0 3 av) [] σ) : Sp 194 (D + 1) av σ Q := Sp.go (M := (⟨"PaidWhereMadeModel", "readText", "()I"⟩, prog_14_method_38_code, 3, (some .int), 12, pc_194)) rfl hac cuts f h
theorem O_Model_readText {D : Nat} {σ : pm_S} {Q : Option Value → pm_S → Prop} (cuts : List Nat) (f : Nat) {idx : Nat} {L st : List Value} (h : pm_G pc_194 (some .int) 194 D Q cuts f idx L st σ) : Ok 194 (D + 1) idx L st σ Q := Ok.go (M := (⟨"PaidWhereMadeModel", "readText", "()I"⟩, prog_14_method_38_code, 3, (some .int), 12, pc_194)) rfl cuts f h
theorem S_Model_text {D : Nat} {av : List Value} {σ : pm_S} {Q : Option Value → pm_S → Prop} (cuts : List Nat) (f : Nat) (hac : pm_ac 3 av = true) (h : pm_G pc_195 (some .int) 195 D Q cuts f 0 (pm_L0 3 av) [] σ) : Sp 195 (D + 1) av σ Q := Sp.go (M := (⟨"PaidWhereMadeModel", "text", "()I"⟩, prog_14_method_39_code, 3, (some .int), 12, pc_195)) rfl hac cuts f h
theorem O_Model_text {D : Nat} {σ : pm_S} {Q : Option Value → pm_S → Prop} (cuts : List Nat) (f : Nat) {idx : Nat} {L st : List Value} (h : pm_G pc_195 (some .int) 195 D Q cuts f idx L st σ) : Ok 195 (D + 1) idx L st σ Q := Ok.go (M := (⟨"PaidWhereMadeModel", "text", "()I"⟩, prog_14_method_39_code, 3, (some .int), 12, pc_195)) rfl cuts f h
theorem S_Model_fault {D : Nat} {av : List Value} {σ : pm_S} {Q : Option Value → pm_S → Prop} (cuts : List Nat) (f : Nat) (hac : pm_ac 2 av = true) (h : pm_G pc_196 (some .int) 196 D Q cuts f 0 (pm_L0 2 av) [] σ) : Sp 196 (D + 1) av σ Q := Sp.go (M := (⟨"PaidWhereMadeModel", "fault", "(I)I"⟩, prog_14_method_40_code, 2, (some .int), 12, pc_196)) rfl hac cuts f h
theorem O_Model_fault {D : Nat} {σ : pm_S} {Q : Option Value → pm_S → Prop} (cuts : List Nat) (f : Nat) {idx : Nat} {L st : List Value} (h : pm_G pc_196 (some .int) 196 D Q cuts f idx L st σ) : Ok 196 (D + 1) idx L st σ Q := Ok.go (M := (⟨"PaidWhereMadeModel", "fault", "(I)I"⟩, prog_14_method_40_code, 2, (some .int), 12, pc_196)) rfl cuts f h
theorem S_Model_twoOf {D : Nat} {av : List Value} {σ : pm_S} {Q : Option Value → pm_S → Prop} (cuts : List Nat) (f : Nat) (hac : pm_ac 4 av = true) (h : pm_G pc_197 (some .int) 197 D Q cuts f 0 (pm_L0 4 av) [] σ) : Sp 197 (D + 1) av σ Q := Sp.go (M := (⟨"PaidWhereMadeModel", "twoOf", "(III)I"⟩, prog_14_method_41_code, 4, (some .int), 12, pc_197)) rfl hac cuts f h
theorem O_Model_twoOf {D : Nat} {σ : pm_S} {Q : Option Value → pm_S → Prop} (cuts : List Nat) (f : Nat) {idx : Nat} {L st : List Value} (h : pm_G pc_197 (some .int) 197 D Q cuts f idx L st σ) : Ok 197 (D + 1) idx L st σ Q := Ok.go (M := (⟨"PaidWhereMadeModel", "twoOf", "(III)I"⟩, prog_14_method_41_code, 4, (some .int), 12, pc_197)) rfl cuts f h
theorem S_Model_isSo {D : Nat} {av : List Value} {σ : pm_S} {Q : Option Value → pm_S → Prop} (cuts : List Nat) (f : Nat) (hac : pm_ac 5 av = true) (h : pm_G pc_198 (some .boolean) 198 D Q cuts f 0 (pm_L0 5 av) [] σ) : Sp 198 (D + 1) av σ Q := Sp.go (M := (⟨"PaidWhereMadeModel", "isSo", "(II)Z"⟩, prog_14_method_42_code, 5, (some .boolean), 12, pc_198)) rfl hac cuts f h
theorem O_Model_isSo {D : Nat} {σ : pm_S} {Q : Option Value → pm_S → Prop} (cuts : List Nat) (f : Nat) {idx : Nat} {L st : List Value} (h : pm_G pc_198 (some .boolean) 198 D Q cuts f idx L st σ) : Ok 198 (D + 1) idx L st σ Q := Ok.go (M := (⟨"PaidWhereMadeModel", "isSo", "(II)Z"⟩, prog_14_method_42_code, 5, (some .boolean), 12, pc_198)) rfl cuts f h
theorem S_Model_isOpen {D : Nat} {av : List Value} {σ : pm_S} {Q : Option Value → pm_S → Prop} (cuts : List Nat) (f : Nat) (hac : pm_ac 2 av = true) (h : pm_G pc_199 (some .boolean) 199 D Q cuts f 0 (pm_L0 2 av) [] σ) : Sp 199 (D + 1) av σ Q := Sp.go (M := (⟨"PaidWhereMadeModel", "isOpen", "(I)Z"⟩, prog_14_method_43_code, 2, (some .boolean), 12, pc_199)) rfl hac cuts f h
theorem O_Model_isOpen {D : Nat} {σ : pm_S} {Q : Option Value → pm_S → Prop} (cuts : List Nat) (f : Nat) {idx : Nat} {L st : List Value} (h : pm_G pc_199 (some .boolean) 199 D Q cuts f idx L st σ) : Ok 199 (D + 1) idx L st σ Q := Ok.go (M := (⟨"PaidWhereMadeModel", "isOpen", "(I)Z"⟩, prog_14_method_43_code, 2, (some .boolean), 12, pc_199)) rfl cuts f h
theorem S_Model_hereAt {D : Nat} {av : List Value} {σ : pm_S} {Q : Option Value → pm_S → Prop} (cuts : List Nat) (f : Nat) (hac : pm_ac 4 av = true) (h : pm_G pc_200 (some .int) 200 D Q cuts f 0 (pm_L0 4 av) [] σ) : Sp 200 (D + 1) av σ Q := Sp.go (M := (⟨"PaidWhereMadeModel", "hereAt", "(I)I"⟩, prog_14_method_44_code, 4, (some .int), 12, pc_200)) rfl hac cuts f h
theorem O_Model_hereAt {D : Nat} {σ : pm_S} {Q : Option Value → pm_S → Prop} (cuts : List Nat) (f : Nat) {idx : Nat} {L st : List Value} (h : pm_G pc_200 (some .int) 200 D Q cuts f idx L st σ) : Ok 200 (D + 1) idx L st σ Q := Ok.go (M := (⟨"PaidWhereMadeModel", "hereAt", "(I)I"⟩, prog_14_method_44_code, 4, (some .int), 12, pc_200)) rfl cuts f h
theorem S_Model_lets {D : Nat} {av : List Value} {σ : pm_S} {Q : Option Value → pm_S → Prop} (cuts : List Nat) (f : Nat) (hac : pm_ac 3 av = true) (h : pm_G pc_201 (some .boolean) 201 D Q cuts f 0 (pm_L0 3 av) [] σ) : Sp 201 (D + 1) av σ Q := Sp.go (M := (⟨"PaidWhereMadeModel", "lets", "(I)Z"⟩, prog_14_method_45_code, 3, (some .boolean), 12, pc_201)) rfl hac cuts f h
theorem O_Model_lets {D : Nat} {σ : pm_S} {Q : Option Value → pm_S → Prop} (cuts : List Nat) (f : Nat) {idx : Nat} {L st : List Value} (h : pm_G pc_201 (some .boolean) 201 D Q cuts f idx L st σ) : Ok 201 (D + 1) idx L st σ Q := Ok.go (M := (⟨"PaidWhereMadeModel", "lets", "(I)Z"⟩, prog_14_method_45_code, 3, (some .boolean), 12, pc_201)) rfl cuts f h
theorem S_Model_goes {D : Nat} {av : List Value} {σ : pm_S} {Q : Option Value → pm_S → Prop} (cuts : List Nat) (f : Nat) (hac : pm_ac 5 av = true) (h : pm_G pc_202 none 202 D Q cuts f 0 (pm_L0 5 av) [] σ) : Sp 202 (D + 1) av σ Q := Sp.go (M := (⟨"PaidWhereMadeModel", "goes", "(Z)V"⟩, prog_14_method_46_code, 5, none, 12, pc_202)) rfl hac cuts f h
theorem O_Model_goes {D : Nat} {σ : pm_S} {Q : Option Value → pm_S → Prop} (cuts : List Nat) (f : Nat) {idx : Nat} {L st : List Value} (h : pm_G pc_202 none 202 D Q cuts f idx L st σ) : Ok 202 (D + 1) idx L st σ Q := Ok.go (M := (⟨"PaidWhereMadeModel", "goes", "(Z)V"⟩, prog_14_method_46_code, 5, none, 12, pc_202)) rfl cuts f h
theorem S_Model_areBothAt {D : Nat} {av : List Value} {σ : pm_S} {Q : Option Value → pm_S → Prop} (cuts : List Nat) (f : Nat) (hac : pm_ac 3 av = true) (h : pm_G pc_203 (some .boolean) 203 D Q cuts f 0 (pm_L0 3 av) [] σ) : Sp 203 (D + 1) av σ Q := Sp.go (M := (⟨"PaidWhereMadeModel", "areBothAt", "(II)Z"⟩, prog_14_method_47_code, 3, (some .boolean), 12, pc_203)) rfl hac cuts f h
theorem O_Model_areBothAt {D : Nat} {σ : pm_S} {Q : Option Value → pm_S → Prop} (cuts : List Nat) (f : Nat) {idx : Nat} {L st : List Value} (h : pm_G pc_203 (some .boolean) 203 D Q cuts f idx L st σ) : Ok 203 (D + 1) idx L st σ Q := Ok.go (M := (⟨"PaidWhereMadeModel", "areBothAt", "(II)Z"⟩, prog_14_method_47_code, 3, (some .boolean), 12, pc_203)) rfl cuts f h
theorem S_Model_findsRound {D : Nat} {av : List Value} {σ : pm_S} {Q : Option Value → pm_S → Prop} (cuts : List Nat) (f : Nat) (hac : pm_ac 5 av = true) (h : pm_G pc_204 (some .boolean) 204 D Q cuts f 0 (pm_L0 5 av) [] σ) : Sp 204 (D + 1) av σ Q := Sp.go (M := (⟨"PaidWhereMadeModel", "findsRound", "(II)Z"⟩, prog_14_method_48_code, 5, (some .boolean), 12, pc_204)) rfl hac cuts f h
theorem O_Model_findsRound {D : Nat} {σ : pm_S} {Q : Option Value → pm_S → Prop} (cuts : List Nat) (f : Nat) {idx : Nat} {L st : List Value} (h : pm_G pc_204 (some .boolean) 204 D Q cuts f idx L st σ) : Ok 204 (D + 1) idx L st σ Q := Ok.go (M := (⟨"PaidWhereMadeModel", "findsRound", "(II)Z"⟩, prog_14_method_48_code, 5, (some .boolean), 12, pc_204)) rfl cuts f h
theorem S_Model_canBeNext {D : Nat} {av : List Value} {σ : pm_S} {Q : Option Value → pm_S → Prop} (cuts : List Nat) (f : Nat) (hac : pm_ac 6 av = true) (h : pm_G pc_205 (some .boolean) 205 D Q cuts f 0 (pm_L0 6 av) [] σ) : Sp 205 (D + 1) av σ Q := Sp.go (M := (⟨"PaidWhereMadeModel", "canBeNext", "(IIII)Z"⟩, prog_14_method_49_code, 6, (some .boolean), 12, pc_205)) rfl hac cuts f h
theorem O_Model_canBeNext {D : Nat} {σ : pm_S} {Q : Option Value → pm_S → Prop} (cuts : List Nat) (f : Nat) {idx : Nat} {L st : List Value} (h : pm_G pc_205 (some .boolean) 205 D Q cuts f idx L st σ) : Ok 205 (D + 1) idx L st σ Q := Ok.go (M := (⟨"PaidWhereMadeModel", "canBeNext", "(IIII)Z"⟩, prog_14_method_49_code, 6, (some .boolean), 12, pc_205)) rfl cuts f h
theorem S_Model_isPaid {D : Nat} {av : List Value} {σ : pm_S} {Q : Option Value → pm_S → Prop} (cuts : List Nat) (f : Nat) (hac : pm_ac 3 av = true) (h : pm_G pc_206 none 206 D Q cuts f 0 (pm_L0 3 av) [] σ) : Sp 206 (D + 1) av σ Q := Sp.go (M := (⟨"PaidWhereMadeModel", "isPaid", "(II)V"⟩, prog_14_method_50_code, 3, none, 12, pc_206)) rfl hac cuts f h
theorem O_Model_isPaid {D : Nat} {σ : pm_S} {Q : Option Value → pm_S → Prop} (cuts : List Nat) (f : Nat) {idx : Nat} {L st : List Value} (h : pm_G pc_206 none 206 D Q cuts f idx L st σ) : Ok 206 (D + 1) idx L st σ Q := Ok.go (M := (⟨"PaidWhereMadeModel", "isPaid", "(II)V"⟩, prog_14_method_50_code, 3, none, 12, pc_206)) rfl cuts f h
theorem S_Model_cancels {D : Nat} {av : List Value} {σ : pm_S} {Q : Option Value → pm_S → Prop} (cuts : List Nat) (f : Nat) (hac : pm_ac 4 av = true) (h : pm_G pc_207 none 207 D Q cuts f 0 (pm_L0 4 av) [] σ) : Sp 207 (D + 1) av σ Q := Sp.go (M := (⟨"PaidWhereMadeModel", "cancels", "(I)V"⟩, prog_14_method_51_code, 4, none, 12, pc_207)) rfl hac cuts f h
theorem O_Model_cancels {D : Nat} {σ : pm_S} {Q : Option Value → pm_S → Prop} (cuts : List Nat) (f : Nat) {idx : Nat} {L st : List Value} (h : pm_G pc_207 none 207 D Q cuts f idx L st σ) : Ok 207 (D + 1) idx L st σ Q := Ok.go (M := (⟨"PaidWhereMadeModel", "cancels", "(I)V"⟩, prog_14_method_51_code, 4, none, 12, pc_207)) rfl cuts f h
theorem S_Model_cancelsAt {D : Nat} {av : List Value} {σ : pm_S} {Q : Option Value → pm_S → Prop} (cuts : List Nat) (f : Nat) (hac : pm_ac 3 av = true) (h : pm_G pc_208 none 208 D Q cuts f 0 (pm_L0 3 av) [] σ) : Sp 208 (D + 1) av σ Q := Sp.go (M := (⟨"PaidWhereMadeModel", "cancelsAt", "(I)V"⟩, prog_14_method_52_code, 3, none, 12, pc_208)) rfl hac cuts f h
theorem O_Model_cancelsAt {D : Nat} {σ : pm_S} {Q : Option Value → pm_S → Prop} (cuts : List Nat) (f : Nat) {idx : Nat} {L st : List Value} (h : pm_G pc_208 none 208 D Q cuts f idx L st σ) : Ok 208 (D + 1) idx L st σ Q := Ok.go (M := (⟨"PaidWhereMadeModel", "cancelsAt", "(I)V"⟩, prog_14_method_52_code, 3, none, 12, pc_208)) rfl cuts f h
theorem S_Model_pays {D : Nat} {av : List Value} {σ : pm_S} {Q : Option Value → pm_S → Prop} (cuts : List Nat) (f : Nat) (hac : pm_ac 2 av = true) (h : pm_G pc_209 none 209 D Q cuts f 0 (pm_L0 2 av) [] σ) : Sp 209 (D + 1) av σ Q := Sp.go (M := (⟨"PaidWhereMadeModel", "pays", "(I)V"⟩, prog_14_method_53_code, 2, none, 12, pc_209)) rfl hac cuts f h
theorem O_Model_pays {D : Nat} {σ : pm_S} {Q : Option Value → pm_S → Prop} (cuts : List Nat) (f : Nat) {idx : Nat} {L st : List Value} (h : pm_G pc_209 none 209 D Q cuts f idx L st σ) : Ok 209 (D + 1) idx L st σ Q := Ok.go (M := (⟨"PaidWhereMadeModel", "pays", "(I)V"⟩, prog_14_method_53_code, 2, none, 12, pc_209)) rfl cuts f h
theorem S_Model_goesBy {D : Nat} {av : List Value} {σ : pm_S} {Q : Option Value → pm_S → Prop} (cuts : List Nat) (f : Nat) (hac : pm_ac 4 av = true) (h : pm_G pc_210 (some .int) 210 D Q cuts f 0 (pm_L0 4 av) [] σ) : Sp 210 (D + 1) av σ Q := Sp.go (M := (⟨"PaidWhereMadeModel", "goesBy", "()I"⟩, prog_14_method_54_code, 4, (some .int), 12, pc_210)) rfl hac cuts f h
theorem O_Model_goesBy {D : Nat} {σ : pm_S} {Q : Option Value → pm_S → Prop} (cuts : List Nat) (f : Nat) {idx : Nat} {L st : List Value} (h : pm_G pc_210 (some .int) 210 D Q cuts f idx L st σ) : Ok 210 (D + 1) idx L st σ Q := Ok.go (M := (⟨"PaidWhereMadeModel", "goesBy", "()I"⟩, prog_14_method_54_code, 4, (some .int), 12, pc_210)) rfl cuts f h
theorem S_Model_sunday {D : Nat} {av : List Value} {σ : pm_S} {Q : Option Value → pm_S → Prop} (cuts : List Nat) (f : Nat) (hac : pm_ac 1 av = true) (h : pm_G pc_211 (some .int) 211 D Q cuts f 0 (pm_L0 1 av) [] σ) : Sp 211 (D + 1) av σ Q := Sp.go (M := (⟨"PaidWhereMadeModel", "sunday", "()I"⟩, prog_14_method_55_code, 1, (some .int), 12, pc_211)) rfl hac cuts f h
theorem O_Model_sunday {D : Nat} {σ : pm_S} {Q : Option Value → pm_S → Prop} (cuts : List Nat) (f : Nat) {idx : Nat} {L st : List Value} (h : pm_G pc_211 (some .int) 211 D Q cuts f idx L st σ) : Ok 211 (D + 1) idx L st σ Q := Ok.go (M := (⟨"PaidWhereMadeModel", "sunday", "()I"⟩, prog_14_method_55_code, 1, (some .int), 12, pc_211)) rfl cuts f h
theorem S_Model_pass {D : Nat} {av : List Value} {σ : pm_S} {Q : Option Value → pm_S → Prop} (cuts : List Nat) (f : Nat) (hac : pm_ac 4 av = true) (h : pm_G pc_212 (some .int) 212 D Q cuts f 0 (pm_L0 4 av) [] σ) : Sp 212 (D + 1) av σ Q := Sp.go (M := (⟨"PaidWhereMadeModel", "pass", "(I)I"⟩, prog_14_method_56_code, 4, (some .int), 12, pc_212)) rfl hac cuts f h
theorem O_Model_pass {D : Nat} {σ : pm_S} {Q : Option Value → pm_S → Prop} (cuts : List Nat) (f : Nat) {idx : Nat} {L st : List Value} (h : pm_G pc_212 (some .int) 212 D Q cuts f idx L st σ) : Ok 212 (D + 1) idx L st σ Q := Ok.go (M := (⟨"PaidWhereMadeModel", "pass", "(I)I"⟩, prog_14_method_56_code, 4, (some .int), 12, pc_212)) rfl cuts f h
theorem S_Model_sumOf {D : Nat} {av : List Value} {σ : pm_S} {Q : Option Value → pm_S → Prop} (cuts : List Nat) (f : Nat) (hac : pm_ac 5 av = true) (h : pm_G pc_213 (some .int) 213 D Q cuts f 0 (pm_L0 5 av) [] σ) : Sp 213 (D + 1) av σ Q := Sp.go (M := (⟨"PaidWhereMadeModel", "sumOf", "(IZ)I"⟩, prog_14_method_57_code, 5, (some .int), 12, pc_213)) rfl hac cuts f h
theorem O_Model_sumOf {D : Nat} {σ : pm_S} {Q : Option Value → pm_S → Prop} (cuts : List Nat) (f : Nat) {idx : Nat} {L st : List Value} (h : pm_G pc_213 (some .int) 213 D Q cuts f idx L st σ) : Ok 213 (D + 1) idx L st σ Q := Ok.go (M := (⟨"PaidWhereMadeModel", "sumOf", "(IZ)I"⟩, prog_14_method_57_code, 5, (some .int), 12, pc_213)) rfl cuts f h
theorem S_Model_of {D : Nat} {av : List Value} {σ : pm_S} {Q : Option Value → pm_S → Prop} (cuts : List Nat) (f : Nat) (hac : pm_ac 3 av = true) (h : pm_G pc_214 (some .int) 214 D Q cuts f 0 (pm_L0 3 av) [] σ) : Sp 214 (D + 1) av σ Q := Sp.go (M := (⟨"PaidWhereMadeModel", "of", "(II)I"⟩, prog_14_method_58_code, 3, (some .int), 12, pc_214)) rfl hac cuts f h
theorem O_Model_of {D : Nat} {σ : pm_S} {Q : Option Value → pm_S → Prop} (cuts : List Nat) (f : Nat) {idx : Nat} {L st : List Value} (h : pm_G pc_214 (some .int) 214 D Q cuts f idx L st σ) : Ok 214 (D + 1) idx L st σ Q := Ok.go (M := (⟨"PaidWhereMadeModel", "of", "(II)I"⟩, prog_14_method_58_code, 3, (some .int), 12, pc_214)) rfl cuts f h
theorem S_Model_owed {D : Nat} {av : List Value} {σ : pm_S} {Q : Option Value → pm_S → Prop} (cuts : List Nat) (f : Nat) (hac : pm_ac 3 av = true) (h : pm_G pc_215 (some .int) 215 D Q cuts f 0 (pm_L0 3 av) [] σ) : Sp 215 (D + 1) av σ Q := Sp.go (M := (⟨"PaidWhereMadeModel", "owed", "(II)I"⟩, prog_14_method_59_code, 3, (some .int), 12, pc_215)) rfl hac cuts f h
theorem O_Model_owed {D : Nat} {σ : pm_S} {Q : Option Value → pm_S → Prop} (cuts : List Nat) (f : Nat) {idx : Nat} {L st : List Value} (h : pm_G pc_215 (some .int) 215 D Q cuts f idx L st σ) : Ok 215 (D + 1) idx L st σ Q := Ok.go (M := (⟨"PaidWhereMadeModel", "owed", "(II)I"⟩, prog_14_method_59_code, 3, (some .int), 12, pc_215)) rfl cuts f h
theorem S_Model_areOnOne {D : Nat} {av : List Value} {σ : pm_S} {Q : Option Value → pm_S → Prop} (cuts : List Nat) (f : Nat) (hac : pm_ac 7 av = true) (h : pm_G pc_216 (some .boolean) 216 D Q cuts f 0 (pm_L0 7 av) [] σ) : Sp 216 (D + 1) av σ Q := Sp.go (M := (⟨"PaidWhereMadeModel", "areOnOne", "(I)Z"⟩, prog_14_method_60_code, 7, (some .boolean), 12, pc_216)) rfl hac cuts f h
theorem O_Model_areOnOne {D : Nat} {σ : pm_S} {Q : Option Value → pm_S → Prop} (cuts : List Nat) (f : Nat) {idx : Nat} {L st : List Value} (h : pm_G pc_216 (some .boolean) 216 D Q cuts f idx L st σ) : Ok 216 (D + 1) idx L st σ Q := Ok.go (M := (⟨"PaidWhereMadeModel", "areOnOne", "(I)Z"⟩, prog_14_method_60_code, 7, (some .boolean), 12, pc_216)) rfl cuts f h
theorem S_Model_greatest {D : Nat} {av : List Value} {σ : pm_S} {Q : Option Value → pm_S → Prop} (cuts : List Nat) (f : Nat) (hac : pm_ac 4 av = true) (h : pm_G pc_217 (some .int) 217 D Q cuts f 0 (pm_L0 4 av) [] σ) : Sp 217 (D + 1) av σ Q := Sp.go (M := (⟨"PaidWhereMadeModel", "greatest", "(II)I"⟩, prog_14_method_61_code, 4, (some .int), 12, pc_217)) rfl hac cuts f h
theorem O_Model_greatest {D : Nat} {σ : pm_S} {Q : Option Value → pm_S → Prop} (cuts : List Nat) (f : Nat) {idx : Nat} {L st : List Value} (h : pm_G pc_217 (some .int) 217 D Q cuts f idx L st σ) : Ok 217 (D + 1) idx L st σ Q := Ok.go (M := (⟨"PaidWhereMadeModel", "greatest", "(II)I"⟩, prog_14_method_61_code, 4, (some .int), 12, pc_217)) rfl cuts f h
theorem S_Model_leastFor {D : Nat} {av : List Value} {σ : pm_S} {Q : Option Value → pm_S → Prop} (cuts : List Nat) (f : Nat) (hac : pm_ac 4 av = true) (h : pm_G pc_218 (some .int) 218 D Q cuts f 0 (pm_L0 4 av) [] σ) : Sp 218 (D + 1) av σ Q := Sp.go (M := (⟨"PaidWhereMadeModel", "leastFor", "(I)I"⟩, prog_14_method_62_code, 4, (some .int), 12, pc_218)) rfl hac cuts f h
theorem O_Model_leastFor {D : Nat} {σ : pm_S} {Q : Option Value → pm_S → Prop} (cuts : List Nat) (f : Nat) {idx : Nat} {L st : List Value} (h : pm_G pc_218 (some .int) 218 D Q cuts f idx L st σ) : Ok 218 (D + 1) idx L st σ Q := Ok.go (M := (⟨"PaidWhereMadeModel", "leastFor", "(I)I"⟩, prog_14_method_62_code, 4, (some .int), 12, pc_218)) rfl cuts f h
theorem S_Model_takesOpen {D : Nat} {av : List Value} {σ : pm_S} {Q : Option Value → pm_S → Prop} (cuts : List Nat) (f : Nat) (hac : pm_ac 3 av = true) (h : pm_G pc_219 none 219 D Q cuts f 0 (pm_L0 3 av) [] σ) : Sp 219 (D + 1) av σ Q := Sp.go (M := (⟨"PaidWhereMadeModel", "takesOpen", "(I)V"⟩, prog_14_method_63_code, 3, none, 12, pc_219)) rfl hac cuts f h
theorem O_Model_takesOpen {D : Nat} {σ : pm_S} {Q : Option Value → pm_S → Prop} (cuts : List Nat) (f : Nat) {idx : Nat} {L st : List Value} (h : pm_G pc_219 none 219 D Q cuts f idx L st σ) : Ok 219 (D + 1) idx L st σ Q := Ok.go (M := (⟨"PaidWhereMadeModel", "takesOpen", "(I)V"⟩, prog_14_method_63_code, 3, none, 12, pc_219)) rfl cuts f h
theorem S_Model_cleared {D : Nat} {av : List Value} {σ : pm_S} {Q : Option Value → pm_S → Prop} (cuts : List Nat) (f : Nat) (hac : pm_ac 6 av = true) (h : pm_G pc_220 (some .int) 220 D Q cuts f 0 (pm_L0 6 av) [] σ) : Sp 220 (D + 1) av σ Q := Sp.go (M := (⟨"PaidWhereMadeModel", "cleared", "(I)I"⟩, prog_14_method_64_code, 6, (some .int), 12, pc_220)) rfl hac cuts f h
theorem O_Model_cleared {D : Nat} {σ : pm_S} {Q : Option Value → pm_S → Prop} (cuts : List Nat) (f : Nat) {idx : Nat} {L st : List Value} (h : pm_G pc_220 (some .int) 220 D Q cuts f idx L st σ) : Ok 220 (D + 1) idx L st σ Q := Ok.go (M := (⟨"PaidWhereMadeModel", "cleared", "(I)I"⟩, prog_14_method_64_code, 6, (some .int), 12, pc_220)) rfl cuts f h
theorem S_Model_grown {D : Nat} {av : List Value} {σ : pm_S} {Q : Option Value → pm_S → Prop} (cuts : List Nat) (f : Nat) (hac : pm_ac 5 av = true) (h : pm_G pc_221 (some .int) 221 D Q cuts f 0 (pm_L0 5 av) [] σ) : Sp 221 (D + 1) av σ Q := Sp.go (M := (⟨"PaidWhereMadeModel", "grown", "(II)I"⟩, prog_14_method_65_code, 5, (some .int), 12, pc_221)) rfl hac cuts f h
theorem O_Model_grown {D : Nat} {σ : pm_S} {Q : Option Value → pm_S → Prop} (cuts : List Nat) (f : Nat) {idx : Nat} {L st : List Value} (h : pm_G pc_221 (some .int) 221 D Q cuts f idx L st σ) : Ok 221 (D + 1) idx L st σ Q := Ok.go (M := (⟨"PaidWhereMadeModel", "grown", "(II)I"⟩, prog_14_method_65_code, 5, (some .int), 12, pc_221)) rfl cuts f h
theorem S_Model_costWith {D : Nat} {av : List Value} {σ : pm_S} {Q : Option Value → pm_S → Prop} (cuts : List Nat) (f : Nat) (hac : pm_ac 3 av = true) (h : pm_G pc_222 (some .int) 222 D Q cuts f 0 (pm_L0 3 av) [] σ) : Sp 222 (D + 1) av σ Q := Sp.go (M := (⟨"PaidWhereMadeModel", "costWith", "(II)I"⟩, prog_14_method_66_code, 3, (some .int), 12, pc_222)) rfl hac cuts f h
theorem O_Model_costWith {D : Nat} {σ : pm_S} {Q : Option Value → pm_S → Prop} (cuts : List Nat) (f : Nat) {idx : Nat} {L st : List Value} (h : pm_G pc_222 (some .int) 222 D Q cuts f idx L st σ) : Ok 222 (D + 1) idx L st σ Q := Ok.go (M := (⟨"PaidWhereMadeModel", "costWith", "(II)I"⟩, prog_14_method_66_code, 3, (some .int), 12, pc_222)) rfl cuts f h
theorem S_Model_first {D : Nat} {av : List Value} {σ : pm_S} {Q : Option Value → pm_S → Prop} (cuts : List Nat) (f : Nat) (hac : pm_ac 6 av = true) (h : pm_G pc_223 (some .int) 223 D Q cuts f 0 (pm_L0 6 av) [] σ) : Sp 223 (D + 1) av σ Q := Sp.go (M := (⟨"PaidWhereMadeModel", "first", "(II)I"⟩, prog_14_method_67_code, 6, (some .int), 12, pc_223)) rfl hac cuts f h
theorem O_Model_first {D : Nat} {σ : pm_S} {Q : Option Value → pm_S → Prop} (cuts : List Nat) (f : Nat) {idx : Nat} {L st : List Value} (h : pm_G pc_223 (some .int) 223 D Q cuts f idx L st σ) : Ok 223 (D + 1) idx L st σ Q := Ok.go (M := (⟨"PaidWhereMadeModel", "first", "(II)I"⟩, prog_14_method_67_code, 6, (some .int), 12, pc_223)) rfl cuts f h
theorem S_Model_tourFrom {D : Nat} {av : List Value} {σ : pm_S} {Q : Option Value → pm_S → Prop} (cuts : List Nat) (f : Nat) (hac : pm_ac 8 av = true) (h : pm_G pc_224 (some .int) 224 D Q cuts f 0 (pm_L0 8 av) [] σ) : Sp 224 (D + 1) av σ Q := Sp.go (M := (⟨"PaidWhereMadeModel", "tourFrom", "(II)I"⟩, prog_14_method_68_code, 8, (some .int), 12, pc_224)) rfl hac cuts f h
theorem O_Model_tourFrom {D : Nat} {σ : pm_S} {Q : Option Value → pm_S → Prop} (cuts : List Nat) (f : Nat) {idx : Nat} {L st : List Value} (h : pm_G pc_224 (some .int) 224 D Q cuts f idx L st σ) : Ok 224 (D + 1) idx L st σ Q := Ok.go (M := (⟨"PaidWhereMadeModel", "tourFrom", "(II)I"⟩, prog_14_method_68_code, 8, (some .int), 12, pc_224)) rfl cuts f h
theorem S_Model_tour {D : Nat} {av : List Value} {σ : pm_S} {Q : Option Value → pm_S → Prop} (cuts : List Nat) (f : Nat) (hac : pm_ac 3 av = true) (h : pm_G pc_225 (some .int) 225 D Q cuts f 0 (pm_L0 3 av) [] σ) : Sp 225 (D + 1) av σ Q := Sp.go (M := (⟨"PaidWhereMadeModel", "tour", "(II)I"⟩, prog_14_method_69_code, 3, (some .int), 12, pc_225)) rfl hac cuts f h
theorem O_Model_tour {D : Nat} {σ : pm_S} {Q : Option Value → pm_S → Prop} (cuts : List Nat) (f : Nat) {idx : Nat} {L st : List Value} (h : pm_G pc_225 (some .int) 225 D Q cuts f idx L st σ) : Ok 225 (D + 1) idx L st σ Q := Ok.go (M := (⟨"PaidWhereMadeModel", "tour", "(II)I"⟩, prog_14_method_69_code, 3, (some .int), 12, pc_225)) rfl cuts f h
theorem S_Model_homesOf {D : Nat} {av : List Value} {σ : pm_S} {Q : Option Value → pm_S → Prop} (cuts : List Nat) (f : Nat) (hac : pm_ac 4 av = true) (h : pm_G pc_226 (some .int) 226 D Q cuts f 0 (pm_L0 4 av) [] σ) : Sp 226 (D + 1) av σ Q := Sp.go (M := (⟨"PaidWhereMadeModel", "homesOf", "(I)I"⟩, prog_14_method_70_code, 4, (some .int), 12, pc_226)) rfl hac cuts f h
theorem O_Model_homesOf {D : Nat} {σ : pm_S} {Q : Option Value → pm_S → Prop} (cuts : List Nat) (f : Nat) {idx : Nat} {L st : List Value} (h : pm_G pc_226 (some .int) 226 D Q cuts f idx L st σ) : Ok 226 (D + 1) idx L st σ Q := Ok.go (M := (⟨"PaidWhereMadeModel", "homesOf", "(I)I"⟩, prog_14_method_70_code, 4, (some .int), 12, pc_226)) rfl cuts f h
theorem S_Model_factorial {D : Nat} {av : List Value} {σ : pm_S} {Q : Option Value → pm_S → Prop} (cuts : List Nat) (f : Nat) (hac : pm_ac 4 av = true) (h : pm_G pc_227 (some .int) 227 D Q cuts f 0 (pm_L0 4 av) [] σ) : Sp 227 (D + 1) av σ Q := Sp.go (M := (⟨"PaidWhereMadeModel", "factorial", "(I)I"⟩, prog_14_method_71_code, 4, (some .int), 12, pc_227)) rfl hac cuts f h
theorem O_Model_factorial {D : Nat} {σ : pm_S} {Q : Option Value → pm_S → Prop} (cuts : List Nat) (f : Nat) {idx : Nat} {L st : List Value} (h : pm_G pc_227 (some .int) 227 D Q cuts f idx L st σ) : Ok 227 (D + 1) idx L st σ Q := Ok.go (M := (⟨"PaidWhereMadeModel", "factorial", "(I)I"⟩, prog_14_method_71_code, 4, (some .int), 12, pc_227)) rfl cuts f h
theorem S_Model_coach {D : Nat} {av : List Value} {σ : pm_S} {Q : Option Value → pm_S → Prop} (cuts : List Nat) (f : Nat) (hac : pm_ac 3 av = true) (h : pm_G pc_228 (some .int) 228 D Q cuts f 0 (pm_L0 3 av) [] σ) : Sp 228 (D + 1) av σ Q := Sp.go (M := (⟨"PaidWhereMadeModel", "coach", "(II)I"⟩, prog_14_method_72_code, 3, (some .int), 12, pc_228)) rfl hac cuts f h
theorem O_Model_coach {D : Nat} {σ : pm_S} {Q : Option Value → pm_S → Prop} (cuts : List Nat) (f : Nat) {idx : Nat} {L st : List Value} (h : pm_G pc_228 (some .int) 228 D Q cuts f idx L st σ) : Ok 228 (D + 1) idx L st σ Q := Ok.go (M := (⟨"PaidWhereMadeModel", "coach", "(II)I"⟩, prog_14_method_72_code, 3, (some .int), 12, pc_228)) rfl cuts f h
theorem S_Model_share {D : Nat} {av : List Value} {σ : pm_S} {Q : Option Value → pm_S → Prop} (cuts : List Nat) (f : Nat) (hac : pm_ac 13 av = true) (h : pm_G pc_229 (some .int) 229 D Q cuts f 0 (pm_L0 13 av) [] σ) : Sp 229 (D + 1) av σ Q := Sp.go (M := (⟨"PaidWhereMadeModel", "share", "(IIII)I"⟩, prog_14_method_73_code, 13, (some .int), 12, pc_229)) rfl hac cuts f h
theorem O_Model_share {D : Nat} {σ : pm_S} {Q : Option Value → pm_S → Prop} (cuts : List Nat) (f : Nat) {idx : Nat} {L st : List Value} (h : pm_G pc_229 (some .int) 229 D Q cuts f idx L st σ) : Ok 229 (D + 1) idx L st σ Q := Ok.go (M := (⟨"PaidWhereMadeModel", "share", "(IIII)I"⟩, prog_14_method_73_code, 13, (some .int), 12, pc_229)) rfl cuts f h
theorem S_Model_chance {D : Nat} {av : List Value} {σ : pm_S} {Q : Option Value → pm_S → Prop} (cuts : List Nat) (f : Nat) (hac : pm_ac 6 av = true) (h : pm_G pc_230 (some .boolean) 230 D Q cuts f 0 (pm_L0 6 av) [] σ) : Sp 230 (D + 1) av σ Q := Sp.go (M := (⟨"PaidWhereMadeModel", "chance", "(III)Z"⟩, prog_14_method_74_code, 6, (some .boolean), 12, pc_230)) rfl hac cuts f h
theorem O_Model_chance {D : Nat} {σ : pm_S} {Q : Option Value → pm_S → Prop} (cuts : List Nat) (f : Nat) {idx : Nat} {L st : List Value} (h : pm_G pc_230 (some .boolean) 230 D Q cuts f idx L st σ) : Ok 230 (D + 1) idx L st σ Q := Ok.go (M := (⟨"PaidWhereMadeModel", "chance", "(III)Z"⟩, prog_14_method_74_code, 6, (some .boolean), 12, pc_230)) rfl cuts f h
theorem S_Model_hoursOf {D : Nat} {av : List Value} {σ : pm_S} {Q : Option Value → pm_S → Prop} (cuts : List Nat) (f : Nat) (hac : pm_ac 4 av = true) (h : pm_G pc_231 (some .int) 231 D Q cuts f 0 (pm_L0 4 av) [] σ) : Sp 231 (D + 1) av σ Q := Sp.go (M := (⟨"PaidWhereMadeModel", "hoursOf", "(II)I"⟩, prog_14_method_75_code, 4, (some .int), 12, pc_231)) rfl hac cuts f h
theorem O_Model_hoursOf {D : Nat} {σ : pm_S} {Q : Option Value → pm_S → Prop} (cuts : List Nat) (f : Nat) {idx : Nat} {L st : List Value} (h : pm_G pc_231 (some .int) 231 D Q cuts f idx L st σ) : Ok 231 (D + 1) idx L st σ Q := Ok.go (M := (⟨"PaidWhereMadeModel", "hoursOf", "(II)I"⟩, prog_14_method_75_code, 4, (some .int), 12, pc_231)) rfl cuts f h
theorem S_Model_hundreds {D : Nat} {av : List Value} {σ : pm_S} {Q : Option Value → pm_S → Prop} (cuts : List Nat) (f : Nat) (hac : pm_ac 5 av = true) (h : pm_G pc_232 (some .long) 232 D Q cuts f 0 (pm_L0 5 av) [] σ) : Sp 232 (D + 1) av σ Q := Sp.go (M := (⟨"PaidWhereMadeModel", "hundreds", "(I)J"⟩, prog_14_method_76_code, 5, (some .long), 12, pc_232)) rfl hac cuts f h
theorem O_Model_hundreds {D : Nat} {σ : pm_S} {Q : Option Value → pm_S → Prop} (cuts : List Nat) (f : Nat) {idx : Nat} {L st : List Value} (h : pm_G pc_232 (some .long) 232 D Q cuts f idx L st σ) : Ok 232 (D + 1) idx L st σ Q := Ok.go (M := (⟨"PaidWhereMadeModel", "hundreds", "(I)J"⟩, prog_14_method_76_code, 5, (some .long), 12, pc_232)) rfl cuts f h
theorem S_Model_standing {D : Nat} {av : List Value} {σ : pm_S} {Q : Option Value → pm_S → Prop} (cuts : List Nat) (f : Nat) (hac : pm_ac 3 av = true) (h : pm_G pc_233 (some .long) 233 D Q cuts f 0 (pm_L0 3 av) [] σ) : Sp 233 (D + 1) av σ Q := Sp.go (M := (⟨"PaidWhereMadeModel", "standing", "(II)J"⟩, prog_14_method_77_code, 3, (some .long), 12, pc_233)) rfl hac cuts f h
theorem O_Model_standing {D : Nat} {σ : pm_S} {Q : Option Value → pm_S → Prop} (cuts : List Nat) (f : Nat) {idx : Nat} {L st : List Value} (h : pm_G pc_233 (some .long) 233 D Q cuts f idx L st σ) : Ok 233 (D + 1) idx L st σ Q := Ok.go (M := (⟨"PaidWhereMadeModel", "standing", "(II)J"⟩, prog_14_method_77_code, 3, (some .long), 12, pc_233)) rfl cuts f h
theorem S_Model_walking {D : Nat} {av : List Value} {σ : pm_S} {Q : Option Value → pm_S → Prop} (cuts : List Nat) (f : Nat) (hac : pm_ac 6 av = true) (h : pm_G pc_234 (some .long) 234 D Q cuts f 0 (pm_L0 6 av) [] σ) : Sp 234 (D + 1) av σ Q := Sp.go (M := (⟨"PaidWhereMadeModel", "walking", "(IIII)J"⟩, prog_14_method_78_code, 6, (some .long), 12, pc_234)) rfl hac cuts f h
theorem O_Model_walking {D : Nat} {σ : pm_S} {Q : Option Value → pm_S → Prop} (cuts : List Nat) (f : Nat) {idx : Nat} {L st : List Value} (h : pm_G pc_234 (some .long) 234 D Q cuts f idx L st σ) : Ok 234 (D + 1) idx L st σ Q := Ok.go (M := (⟨"PaidWhereMadeModel", "walking", "(IIII)J"⟩, prog_14_method_78_code, 6, (some .long), 12, pc_234)) rfl cuts f h
theorem S_Model_findsMissed {D : Nat} {av : List Value} {σ : pm_S} {Q : Option Value → pm_S → Prop} (cuts : List Nat) (f : Nat) (hac : pm_ac 7 av = true) (h : pm_G pc_235 none 235 D Q cuts f 0 (pm_L0 7 av) [] σ) : Sp 235 (D + 1) av σ Q := Sp.go (M := (⟨"PaidWhereMadeModel", "findsMissed", "(I)V"⟩, prog_14_method_79_code, 7, none, 12, pc_235)) rfl hac cuts f h
theorem O_Model_findsMissed {D : Nat} {σ : pm_S} {Q : Option Value → pm_S → Prop} (cuts : List Nat) (f : Nat) {idx : Nat} {L st : List Value} (h : pm_G pc_235 none 235 D Q cuts f idx L st σ) : Ok 235 (D + 1) idx L st σ Q := Ok.go (M := (⟨"PaidWhereMadeModel", "findsMissed", "(I)V"⟩, prog_14_method_79_code, 7, none, 12, pc_235)) rfl cuts f h
theorem S_Model_placeIn {D : Nat} {av : List Value} {σ : pm_S} {Q : Option Value → pm_S → Prop} (cuts : List Nat) (f : Nat) (hac : pm_ac 7 av = true) (h : pm_G pc_236 (some .int) 236 D Q cuts f 0 (pm_L0 7 av) [] σ) : Sp 236 (D + 1) av σ Q := Sp.go (M := (⟨"PaidWhereMadeModel", "placeIn", "(III)I"⟩, prog_14_method_80_code, 7, (some .int), 12, pc_236)) rfl hac cuts f h
theorem O_Model_placeIn {D : Nat} {σ : pm_S} {Q : Option Value → pm_S → Prop} (cuts : List Nat) (f : Nat) {idx : Nat} {L st : List Value} (h : pm_G pc_236 (some .int) 236 D Q cuts f idx L st σ) : Ok 236 (D + 1) idx L st σ Q := Ok.go (M := (⟨"PaidWhereMadeModel", "placeIn", "(III)I"⟩, prog_14_method_80_code, 7, (some .int), 12, pc_236)) rfl cuts f h
theorem S_Model_walksOn {D : Nat} {av : List Value} {σ : pm_S} {Q : Option Value → pm_S → Prop} (cuts : List Nat) (f : Nat) (hac : pm_ac 5 av = true) (h : pm_G pc_237 none 237 D Q cuts f 0 (pm_L0 5 av) [] σ) : Sp 237 (D + 1) av σ Q := Sp.go (M := (⟨"PaidWhereMadeModel", "walksOn", "(II)V"⟩, prog_14_method_81_code, 5, none, 12, pc_237)) rfl hac cuts f h
theorem O_Model_walksOn {D : Nat} {σ : pm_S} {Q : Option Value → pm_S → Prop} (cuts : List Nat) (f : Nat) {idx : Nat} {L st : List Value} (h : pm_G pc_237 none 237 D Q cuts f idx L st σ) : Ok 237 (D + 1) idx L st σ Q := Ok.go (M := (⟨"PaidWhereMadeModel", "walksOn", "(II)V"⟩, prog_14_method_81_code, 5, none, 12, pc_237)) rfl cuts f h
theorem S_Model_waiting {D : Nat} {av : List Value} {σ : pm_S} {Q : Option Value → pm_S → Prop} (cuts : List Nat) (f : Nat) (hac : pm_ac 4 av = true) (h : pm_G pc_238 (some .long) 238 D Q cuts f 0 (pm_L0 4 av) [] σ) : Sp 238 (D + 1) av σ Q := Sp.go (M := (⟨"PaidWhereMadeModel", "waiting", "(III)J"⟩, prog_14_method_82_code, 4, (some .long), 12, pc_238)) rfl hac cuts f h
theorem O_Model_waiting {D : Nat} {σ : pm_S} {Q : Option Value → pm_S → Prop} (cuts : List Nat) (f : Nat) {idx : Nat} {L st : List Value} (h : pm_G pc_238 (some .long) 238 D Q cuts f idx L st σ) : Ok 238 (D + 1) idx L st σ Q := Ok.go (M := (⟨"PaidWhereMadeModel", "waiting", "(III)J"⟩, prog_14_method_82_code, 4, (some .long), 12, pc_238)) rfl cuts f h
theorem S_Model_line {D : Nat} {av : List Value} {σ : pm_S} {Q : Option Value → pm_S → Prop} (cuts : List Nat) (f : Nat) (hac : pm_ac 7 av = true) (h : pm_G pc_239 (some .int) 239 D Q cuts f 0 (pm_L0 7 av) [] σ) : Sp 239 (D + 1) av σ Q := Sp.go (M := (⟨"PaidWhereMadeModel", "line", "(IIII)I"⟩, prog_14_method_83_code, 7, (some .int), 12, pc_239)) rfl hac cuts f h
theorem O_Model_line {D : Nat} {σ : pm_S} {Q : Option Value → pm_S → Prop} (cuts : List Nat) (f : Nat) {idx : Nat} {L st : List Value} (h : pm_G pc_239 (some .int) 239 D Q cuts f idx L st σ) : Ok 239 (D + 1) idx L st σ Q := Ok.go (M := (⟨"PaidWhereMadeModel", "line", "(IIII)I"⟩, prog_14_method_83_code, 7, (some .int), 12, pc_239)) rfl cuts f h
theorem S_Model_wrongWith {D : Nat} {av : List Value} {σ : pm_S} {Q : Option Value → pm_S → Prop} (cuts : List Nat) (f : Nat) (hac : pm_ac 5 av = true) (h : pm_G pc_240 (some .int) 240 D Q cuts f 0 (pm_L0 5 av) [] σ) : Sp 240 (D + 1) av σ Q := Sp.go (M := (⟨"PaidWhereMadeModel", "wrongWith", "(I)I"⟩, prog_14_method_84_code, 5, (some .int), 12, pc_240)) rfl hac cuts f h
theorem O_Model_wrongWith {D : Nat} {σ : pm_S} {Q : Option Value → pm_S → Prop} (cuts : List Nat) (f : Nat) {idx : Nat} {L st : List Value} (h : pm_G pc_240 (some .int) 240 D Q cuts f idx L st σ) : Ok 240 (D + 1) idx L st σ Q := Ok.go (M := (⟨"PaidWhereMadeModel", "wrongWith", "(I)I"⟩, prog_14_method_84_code, 5, (some .int), 12, pc_240)) rfl cuts f h
theorem S_Model_wrong {D : Nat} {av : List Value} {σ : pm_S} {Q : Option Value → pm_S → Prop} (cuts : List Nat) (f : Nat) (hac : pm_ac 8 av = true) (h : pm_G pc_241 (some .int) 241 D Q cuts f 0 (pm_L0 8 av) [] σ) : Sp 241 (D + 1) av σ Q := Sp.go (M := (⟨"PaidWhereMadeModel", "wrong", "(I)I"⟩, prog_14_method_85_code, 8, (some .int), 12, pc_241)) rfl hac cuts f h
theorem O_Model_wrong {D : Nat} {σ : pm_S} {Q : Option Value → pm_S → Prop} (cuts : List Nat) (f : Nat) {idx : Nat} {L st : List Value} (h : pm_G pc_241 (some .int) 241 D Q cuts f idx L st σ) : Ok 241 (D + 1) idx L st σ Q := Ok.go (M := (⟨"PaidWhereMadeModel", "wrong", "(I)I"⟩, prog_14_method_85_code, 8, (some .int), 12, pc_241)) rfl cuts f h
theorem S_Model_kept {D : Nat} {av : List Value} {σ : pm_S} {Q : Option Value → pm_S → Prop} (cuts : List Nat) (f : Nat) (hac : pm_ac 2 av = true) (h : pm_G pc_242 (some .int) 242 D Q cuts f 0 (pm_L0 2 av) [] σ) : Sp 242 (D + 1) av σ Q := Sp.go (M := (⟨"PaidWhereMadeModel", "kept", "(I)I"⟩, prog_14_method_86_code, 2, (some .int), 12, pc_242)) rfl hac cuts f h
theorem O_Model_kept {D : Nat} {σ : pm_S} {Q : Option Value → pm_S → Prop} (cuts : List Nat) (f : Nat) {idx : Nat} {L st : List Value} (h : pm_G pc_242 (some .int) 242 D Q cuts f idx L st σ) : Ok 242 (D + 1) idx L st σ Q := Ok.go (M := (⟨"PaidWhereMadeModel", "kept", "(I)I"⟩, prog_14_method_86_code, 2, (some .int), 12, pc_242)) rfl cuts f h
theorem S_Model_keepsDebts {D : Nat} {av : List Value} {σ : pm_S} {Q : Option Value → pm_S → Prop} (cuts : List Nat) (f : Nat) (hac : pm_ac 2 av = true) (h : pm_G pc_243 none 243 D Q cuts f 0 (pm_L0 2 av) [] σ) : Sp 243 (D + 1) av σ Q := Sp.go (M := (⟨"PaidWhereMadeModel", "keepsDebts", "()V"⟩, prog_14_method_87_code, 2, none, 12, pc_243)) rfl hac cuts f h
theorem O_Model_keepsDebts {D : Nat} {σ : pm_S} {Q : Option Value → pm_S → Prop} (cuts : List Nat) (f : Nat) {idx : Nat} {L st : List Value} (h : pm_G pc_243 none 243 D Q cuts f idx L st σ) : Ok 243 (D + 1) idx L st σ Q := Ok.go (M := (⟨"PaidWhereMadeModel", "keepsDebts", "()V"⟩, prog_14_method_87_code, 2, none, 12, pc_243)) rfl cuts f h
theorem S_Model_keepsLaw {D : Nat} {av : List Value} {σ : pm_S} {Q : Option Value → pm_S → Prop} (cuts : List Nat) (f : Nat) (hac : pm_ac 2 av = true) (h : pm_G pc_244 none 244 D Q cuts f 0 (pm_L0 2 av) [] σ) : Sp 244 (D + 1) av σ Q := Sp.go (M := (⟨"PaidWhereMadeModel", "keepsLaw", "()V"⟩, prog_14_method_88_code, 2, none, 12, pc_244)) rfl hac cuts f h
theorem O_Model_keepsLaw {D : Nat} {σ : pm_S} {Q : Option Value → pm_S → Prop} (cuts : List Nat) (f : Nat) {idx : Nat} {L st : List Value} (h : pm_G pc_244 none 244 D Q cuts f idx L st σ) : Ok 244 (D + 1) idx L st σ Q := Ok.go (M := (⟨"PaidWhereMadeModel", "keepsLaw", "()V"⟩, prog_14_method_88_code, 2, none, 12, pc_244)) rfl cuts f h
theorem S_Model_image {D : Nat} {av : List Value} {σ : pm_S} {Q : Option Value → pm_S → Prop} (cuts : List Nat) (f : Nat) (hac : pm_ac 3 av = true) (h : pm_G pc_245 (some .boolean) 245 D Q cuts f 0 (pm_L0 3 av) [] σ) : Sp 245 (D + 1) av σ Q := Sp.go (M := (⟨"PaidWhereMadeModel", "image", "(Z)Z"⟩, prog_14_method_89_code, 3, (some .boolean), 12, pc_245)) rfl hac cuts f h
theorem O_Model_image {D : Nat} {σ : pm_S} {Q : Option Value → pm_S → Prop} (cuts : List Nat) (f : Nat) {idx : Nat} {L st : List Value} (h : pm_G pc_245 (some .boolean) 245 D Q cuts f idx L st σ) : Ok 245 (D + 1) idx L st σ Q := Ok.go (M := (⟨"PaidWhereMadeModel", "image", "(Z)Z"⟩, prog_14_method_89_code, 3, (some .boolean), 12, pc_245)) rfl cuts f h
theorem S_Model_look {D : Nat} {av : List Value} {σ : pm_S} {Q : Option Value → pm_S → Prop} (cuts : List Nat) (f : Nat) (hac : pm_ac 2 av = true) (h : pm_G pc_246 (some .int) 246 D Q cuts f 0 (pm_L0 2 av) [] σ) : Sp 246 (D + 1) av σ Q := Sp.go (M := (⟨"PaidWhereMadeModel", "look", "(I)I"⟩, prog_14_method_90_code, 2, (some .int), 12, pc_246)) rfl hac cuts f h
theorem O_Model_look {D : Nat} {σ : pm_S} {Q : Option Value → pm_S → Prop} (cuts : List Nat) (f : Nat) {idx : Nat} {L st : List Value} (h : pm_G pc_246 (some .int) 246 D Q cuts f idx L st σ) : Ok 246 (D + 1) idx L st σ Q := Ok.go (M := (⟨"PaidWhereMadeModel", "look", "(I)I"⟩, prog_14_method_90_code, 2, (some .int), 12, pc_246)) rfl cuts f h
theorem S_Arrays_fill {D : Nat} {av : List Value} {σ : pm_S} {Q : Option Value → pm_S → Prop} (cuts : List Nat) (f : Nat) (hac : pm_ac 4 av = true) (h : pm_G pc_247 none 247 D Q cuts f 0 (pm_L0 4 av) [] σ) : Sp 247 (D + 1) av σ Q := Sp.go (M := (⟨"java/util/Arrays", "fill", "([II)V"⟩, prog_21_method_103_code, 4, none, 14, pc_247)) rfl hac cuts f h
theorem O_Arrays_fill {D : Nat} {σ : pm_S} {Q : Option Value → pm_S → Prop} (cuts : List Nat) (f : Nat) {idx : Nat} {L st : List Value} (h : pm_G pc_247 none 247 D Q cuts f idx L st σ) : Ok 247 (D + 1) idx L st σ Q := Ok.go (M := (⟨"java/util/Arrays", "fill", "([II)V"⟩, prog_21_method_103_code, 4, none, 14, pc_247)) rfl cuts f h
theorem S_String_length {D : Nat} {av : List Value} {σ : pm_S} {Q : Option Value → pm_S → Prop} (cuts : List Nat) (f : Nat) (hac : pm_ac 1 av = true) (h : pm_G pc_248 (some .int) 248 D Q cuts f 0 (pm_L0 1 av) [] σ) : Sp 248 (D + 1) av σ Q := Sp.go (M := (⟨"java/lang/String", "length", "()I"⟩, prog_17_method_54_code, 1, (some .int), 15, pc_248)) rfl hac cuts f h
theorem O_String_length {D : Nat} {σ : pm_S} {Q : Option Value → pm_S → Prop} (cuts : List Nat) (f : Nat) {idx : Nat} {L st : List Value} (h : pm_G pc_248 (some .int) 248 D Q cuts f idx L st σ) : Ok 248 (D + 1) idx L st σ Q := Ok.go (M := (⟨"java/lang/String", "length", "()I"⟩, prog_17_method_54_code, 1, (some .int), 15, pc_248)) rfl cuts f h
theorem S_String_coder {D : Nat} {av : List Value} {σ : pm_S} {Q : Option Value → pm_S → Prop} (cuts : List Nat) (f : Nat) (hac : pm_ac 1 av = true) (h : pm_G pc_249 (some .byte) 249 D Q cuts f 0 (pm_L0 1 av) [] σ) : Sp 249 (D + 1) av σ Q := Sp.go (M := (⟨"java/lang/String", "coder", "()B"⟩, prog_17_method_152_code, 1, (some .byte), 15, pc_249)) rfl hac cuts f h
theorem O_String_coder {D : Nat} {σ : pm_S} {Q : Option Value → pm_S → Prop} (cuts : List Nat) (f : Nat) {idx : Nat} {L st : List Value} (h : pm_G pc_249 (some .byte) 249 D Q cuts f idx L st σ) : Ok 249 (D + 1) idx L st σ Q := Ok.go (M := (⟨"java/lang/String", "coder", "()B"⟩, prog_17_method_152_code, 1, (some .byte), 15, pc_249)) rfl cuts f h
theorem S_String_charAt {D : Nat} {av : List Value} {σ : pm_S} {Q : Option Value → pm_S → Prop} (cuts : List Nat) (f : Nat) (hac : pm_ac 2 av = true) (h : pm_G pc_250 (some .char) 250 D Q cuts f 0 (pm_L0 2 av) [] σ) : Sp 250 (D + 1) av σ Q := Sp.go (M := (⟨"java/lang/String", "charAt", "(I)C"⟩, prog_17_method_56_code, 2, (some .char), 15, pc_250)) rfl hac cuts f h
theorem O_String_charAt {D : Nat} {σ : pm_S} {Q : Option Value → pm_S → Prop} (cuts : List Nat) (f : Nat) {idx : Nat} {L st : List Value} (h : pm_G pc_250 (some .char) 250 D Q cuts f idx L st σ) : Ok 250 (D + 1) idx L st σ Q := Ok.go (M := (⟨"java/lang/String", "charAt", "(I)C"⟩, prog_17_method_56_code, 2, (some .char), 15, pc_250)) rfl cuts f h
theorem S_String_isLatin1 {D : Nat} {av : List Value} {σ : pm_S} {Q : Option Value → pm_S → Prop} (cuts : List Nat) (f : Nat) (hac : pm_ac 1 av = true) (h : pm_G pc_251 (some .boolean) 251 D Q cuts f 0 (pm_L0 1 av) [] σ) : Sp 251 (D + 1) av σ Q := Sp.go (M := (⟨"java/lang/String", "isLatin1", "()Z"⟩, prog_17_method_154_code, 1, (some .boolean), 15, pc_251)) rfl hac cuts f h
theorem O_String_isLatin1 {D : Nat} {σ : pm_S} {Q : Option Value → pm_S → Prop} (cuts : List Nat) (f : Nat) {idx : Nat} {L st : List Value} (h : pm_G pc_251 (some .boolean) 251 D Q cuts f idx L st σ) : Ok 251 (D + 1) idx L st σ Q := Ok.go (M := (⟨"java/lang/String", "isLatin1", "()Z"⟩, prog_17_method_154_code, 1, (some .boolean), 15, pc_251)) rfl cuts f h
theorem S_StringLatin1_charAt {D : Nat} {av : List Value} {σ : pm_S} {Q : Option Value → pm_S → Prop} (cuts : List Nat) (f : Nat) (hac : pm_ac 2 av = true) (h : pm_G pc_252 (some .char) 252 D Q cuts f 0 (pm_L0 2 av) [] σ) : Sp 252 (D + 1) av σ Q := Sp.go (M := (⟨"java/lang/StringLatin1", "charAt", "([BI)C"⟩, prog_18_method_2_code, 2, (some .char), 16, pc_252)) rfl hac cuts f h
theorem O_StringLatin1_charAt {D : Nat} {σ : pm_S} {Q : Option Value → pm_S → Prop} (cuts : List Nat) (f : Nat) {idx : Nat} {L st : List Value} (h : pm_G pc_252 (some .char) 252 D Q cuts f idx L st σ) : Ok 252 (D + 1) idx L st σ Q := Ok.go (M := (⟨"java/lang/StringLatin1", "charAt", "([BI)C"⟩, prog_18_method_2_code, 2, (some .char), 16, pc_252)) rfl cuts f h
theorem S_String_checkIndex {D : Nat} {av : List Value} {σ : pm_S} {Q : Option Value → pm_S → Prop} (cuts : List Nat) (f : Nat) (hac : pm_ac 2 av = true) (h : pm_G pc_253 none 253 D Q cuts f 0 (pm_L0 2 av) [] σ) : Sp 253 (D + 1) av σ Q := Sp.go (M := (⟨"java/lang/String", "checkIndex", "(II)V"⟩, prog_17_method_155_code, 2, none, 15, pc_253)) rfl hac cuts f h
theorem O_String_checkIndex {D : Nat} {σ : pm_S} {Q : Option Value → pm_S → Prop} (cuts : List Nat) (f : Nat) {idx : Nat} {L st : List Value} (h : pm_G pc_253 none 253 D Q cuts f idx L st σ) : Ok 253 (D + 1) idx L st σ Q := Ok.go (M := (⟨"java/lang/String", "checkIndex", "(II)V"⟩, prog_17_method_155_code, 2, none, 15, pc_253)) rfl cuts f h
theorem S_Preconditions_checkIndex {D : Nat} {av : List Value} {σ : pm_S} {Q : Option Value → pm_S → Prop} (cuts : List Nat) (f : Nat) (hac : pm_ac 3 av = true) (h : pm_G pc_254 (some .int) 254 D Q cuts f 0 (pm_L0 3 av) [] σ) : Sp 254 (D + 1) av σ Q := Sp.go (M := (⟨"jdk/internal/util/Preconditions", "checkIndex", "(IILjava/util/function/BiFunction;)I"⟩, prog_22_method_11_code, 3, (some .int), 17, pc_254)) rfl hac cuts f h
theorem O_Preconditions_checkIndex {D : Nat} {σ : pm_S} {Q : Option Value → pm_S → Prop} (cuts : List Nat) (f : Nat) {idx : Nat} {L st : List Value} (h : pm_G pc_254 (some .int) 254 D Q cuts f idx L st σ) : Ok 254 (D + 1) idx L st σ Q := Ok.go (M := (⟨"jdk/internal/util/Preconditions", "checkIndex", "(IILjava/util/function/BiFunction;)I"⟩, prog_22_method_11_code, 3, (some .int), 17, pc_254)) rfl cuts f h
theorem S_Integer_bitCount {D : Nat} {av : List Value} {σ : pm_S} {Q : Option Value → pm_S → Prop} (cuts : List Nat) (f : Nat) (hac : pm_ac 1 av = true) (h : pm_G pc_255 (some .int) 255 D Q cuts f 0 (pm_L0 1 av) [] σ) : Sp 255 (D + 1) av σ Q := Sp.go (M := (⟨"java/lang/Integer", "bitCount", "(I)I"⟩, prog_15_method_49_code, 1, (some .int), 13, pc_255)) rfl hac cuts f h
theorem O_Integer_bitCount {D : Nat} {σ : pm_S} {Q : Option Value → pm_S → Prop} (cuts : List Nat) (f : Nat) {idx : Nat} {L st : List Value} (h : pm_G pc_255 (some .int) 255 D Q cuts f idx L st σ) : Ok 255 (D + 1) idx L st σ Q := Ok.go (M := (⟨"java/lang/Integer", "bitCount", "(I)I"⟩, prog_15_method_49_code, 1, (some .int), 13, pc_255)) rfl cuts f h
end
section
/-! THE BEGINNING: both constructors, run by the kernel -/
def pm_h0 : pm_H := [.inr (11, pm_dfl 11)]
def pm_x1 : Option pm_R := pm_exc 2000 6 127 [.ref 0] pm_h0
def pm_h1 : pm_H := match pm_x1 with
  | some q => q.2 ++ [.inr (12, pm_dfl 12)]
  | none => []
theorem pm_x1_ok : (match pm_x1 with
  | some (none, h) => Nat.beq h.length 93
  | _ => false) = true := by decide +kernel
def pm_x2 : Option pm_R := pm_exc 2000 6 158 [.ref 93] pm_h1
def pm_h2 : pm_H := match pm_x2 with
  | some q => q.2
  | none => []
def pm_shc (c : va_E) (y : pm_LY) : Bool := match c, y with
  | .inl (k, n, .inl _), .inl (k', n') => Nat.beq k k' && Nat.beq n n' && Nat.ble k 1
  | .inl (k, n, .inr (.inl _)), .inl (k', n') => Nat.beq k 2 && Nat.beq k' 2 && Nat.beq n n'
  | .inr (ci, fs), .inr (cj, os) => Nat.beq ci cj && Nat.beq fs.length os.length && (fs.zip os).all (fun q => match q with
    | (.ref a, some b) => Nat.beq a b
    | (.int _, none) => true
    | _ => false)
  | _, _ => false
def pm_shp (h : pm_H) : Bool := Nat.beq h.length pm_lay.length && (h.zip pm_lay).all (fun q => pm_shc q.1 q.2)
theorem pm_x2_ok : (match pm_x2 with
  | some (none, h) => pm_shp h
  | _ => false) = true := by decide +kernel
/-- the ints of a heap -/
def pm_sig (h : pm_H) : pm_S :=
  (fun p j => match pm_nth h p with
    | some (.inl (_, _, .inl f)) => f j
    | some (.inr (_, fs)) => match pm_nth fs j with
      | some (.int v) => v
      | _ => 0
    | _ => 0,
   fun p j => match pm_nth h p with
    | some (.inl (_, _, .inr (.inl f))) => f j
    | _ => 0)
theorem pm_shp_ok {h : pm_H} (hs : pm_shp h = true) : h = pm_wl (pm_sig h) := by
  unfold pm_shp at hs
  simp only [Bool.and_eq_true] at hs
  have hl := Nat.eq_of_beq_eq_true hs.1
  apply List.ext_getElem?
  intro p
  rw [pm_wl_get, pm_nth_eq]
  cases hp : h[p]? with
  | none =>
    have h1 : h.length ≤ p := List.getElem?_eq_none_iff.mp hp
    have h2 : pm_lay[p]? = none := List.getElem?_eq_none_iff.mpr (by omega)
    rw [h2]
    rfl
  | some c =>
    have h1 : p < h.length := (List.getElem?_eq_some_iff.mp hp).1
    have h2 : ∃ y, pm_lay[p]? = some y := ⟨_, List.getElem?_eq_getElem (by omega)⟩
    obtain ⟨y, hy⟩ := h2
    rw [hy]
    have h3 := List.all_eq_true.mp hs.2 (c, y) (List.mem_of_getElem? (i := p) (by rw [List.getElem?_zip_eq_some]; exact ⟨hp, hy⟩))
    show some c = some _
    refine congrArg some ?_
    have hn : pm_nth h p = some c := by rw [pm_nth_eq]; exact hp
    dsimp only at h3
    unfold pm_shc at h3
    split at h3
    · rename_i k n f k' n'
      simp only [Bool.and_eq_true] at h3
      have e1 := Nat.eq_of_beq_eq_true h3.1.1
      have e2 := Nat.eq_of_beq_eq_true h3.1.2
      subst e1; subst e2
      rw [pm_wc_ar h3.2]
      simp only [pm_sig, hn]
    · rename_i k n f k' n'
      simp only [Bool.and_eq_true] at h3
      have e1 := Nat.eq_of_beq_eq_true h3.1.1
      have e2 := Nat.eq_of_beq_eq_true h3.1.2
      have e3 := Nat.eq_of_beq_eq_true h3.2
      subst e1; subst e2; subst e3
      simp only [pm_wc, pm_sig, hn]
    · rename_i ci fs cj os
      simp only [Bool.and_eq_true] at h3
      have e1 := Nat.eq_of_beq_eq_true h3.1.1
      have e2 := Nat.eq_of_beq_eq_true h3.1.2
      subst e1
      unfold pm_wc
      dsimp only
      refine congrArg (fun z => (Sum.inr (ci, z) : va_E)) ?_
      apply List.ext_getElem?
      intro j
      rw [List.getElem?_mapIdx]
      cases hj : fs[j]? with
      | none =>
        have g1 : fs.length ≤ j := List.getElem?_eq_none_iff.mp hj
        have g2 : os[j]? = none := List.getElem?_eq_none_iff.mpr (by omega)
        rw [g2]
        rfl
      | some v =>
        have g1 : j < fs.length := (List.getElem?_eq_some_iff.mp hj).1
        have g2 : ∃ o, os[j]? = some o := ⟨_, List.getElem?_eq_getElem (by omega)⟩
        obtain ⟨o, ho⟩ := g2
        rw [ho]
        have g3 := List.all_eq_true.mp h3.2 (v, o) (List.mem_of_getElem? (i := j) (by rw [List.getElem?_zip_eq_some]; exact ⟨hj, ho⟩))
        show some v = some _
        refine congrArg some ?_
        try dsimp only at g3
        split at g3
        · rename_i a b e5
          cases e5
          have e6 := Nat.eq_of_beq_eq_true g3
          subst e6
          rfl
        · rename_i w e5
          cases e5
          simp only [pm_sig, hn, pm_nth_eq fs j, hj]
        · cases g3
    · cases h3
def pm_s0 : pm_S := pm_sig pm_h2
theorem pm_init1 : pm_x1 = some (none, (match pm_x1 with | some q => q.2 | none => [])) := by
  have h := pm_x1_ok
  split at h
  · rename_i h5 e5; rw [e5]
  · cases h
theorem pm_init2 : pm_x2 = some (none, pm_wl pm_s0) := by
  have h := pm_x2_ok
  split at h
  · rename_i h5 e5
    have e6 : pm_h2 = h5 := by unfold pm_h2; rw [e5]
    rw [pm_s0, e6, ← pm_shp_ok h, e5]
  · cases h
theorem pm_h1_len : pm_h1.length = 94 := by
  have h := pm_x1_ok
  unfold pm_h1
  split at h
  · rename_i h5 e5
    rw [e5]
    have e6 := Nat.eq_of_beq_eq_true h
    simp [e6]
  · cases h
end
section
/-! THE CLAIM OUT OF ONE WALK OF THE LAW'S BODY. Your part is whole_start (and what it stands on); all else here is the same for every law, but numbers. -/
def R_law : String := "PaidWhereMadeLaw"
def lw_P (b : Addr) (xs : List Int32) (args : Array Value) (s : State) : Prop := args = #[.ref b] ∧ s.IntsAt b xs ∧ xs.length ≤ 3072 ∧ (Jvm.Cond.and given_1 narrow_1).before args s = true
def lw_Q (_ : Array Value) (s : State) (o : Outcome) (t : State) : Prop := o = .returned (some (.int 1)) ∧ Framed s o t [] 600000 7302250
def lw_Z (below : List Frame) (a : Array Value) (s : State) : State → Prop := fun t => ∃ o, t.status = .running ∧ Ended t below o ∧ lw_Q a s o t
/-- the law's own end, with 1 on the stack, nothing written that was there before, its room as the claim has it -/
theorem lw_ret {p : Program} {l : Launch} {e : Env} {s : State} {m : MethodId} {below : List Frame} {meth : Method} {c : Code} {b : Nat} (hx : p.tables.exec = Jvm.exec) (hb : c.code = code) (hr : meth.sig.returnType = ret) (hlocks : meth.locks = false) {pc : Nat} {H : Heap} {ls : Array Slot} (hdg : decode code pc = .ok (.ireturn, 1)) : W p l e room_1 s m #[Value.ref b] below meth c H [] 600000 7302250 (lw_Z below #[Value.ref b] s) (F0 m pc ls [.int 1]) := by
  intro T hT X
  obtain ⟨fs, hret, hrun, hended, hW, hframe⟩ := X.leave (v := some (.int 1)) (hlocks := hlocks) (fun h => by rw [hr] at h; cases h)
  have hmeth' : T.vm.method? m = some meth := X.method'
  refine ⟨T.setFrames fs, ?_, .returned (some (.int 1)), hrun, hended, rfl, ⟨_, rfl⟩, hW, hframe⟩
  jvm_step X.here [X.here.top, hx, hb, hdg, hmeth', hr, ret, narrow_b1]
  (try refine ⟨rfl, ?_⟩); (try refine ⟨rfl, ?_⟩)
  first | (intro acts; rw [hret _ acts rfl rfl rfl]) | rw [hret _ _ rfl rfl rfl]
  exact Steps.refl _
/-- what holds at the law's entry: the machine, the code, the tables' words (any of lw_tbl by 'hts w (by decide +kernel)'), the script of L ints xs at the cell b, what the Statement gives of the start (any of its parts by flat_of_before) -/
def lw_At (p : Program) (s : State) (m : MethodId) (meth : Method) (c : Code) (b L : Nat) (xs : Nat → Int32) : Prop :=
  p.tables.exec = Jvm.exec ∧ c.code = code ∧ meth.sig.returnType = ret ∧ c.maxLocals = 4 ∧ s.vm.findClass R_law = some m.cls ∧ (∀ w ∈ lw_tbl, w.before #[Value.ref b] s = true) ∧ va_X b L xs s s.heap ∧ b < s.heap.size ∧ meth.locks = false ∧ (Jvm.Cond.and given_1 narrow_1).before #[Value.ref b] s = true
end
section
/-! THE LAW'S START: what the Statement gives of it is the abstract machine's environment -/
def pm_tm (i : Nat) : Term := match i with
  | 0 => .string "PaidWhereMade$LawReader" 137
  | _ => .string "PaidWhereMade$LawReader" 152
abbrev pm_gn : Cond := Jvm.Cond.and given_1 narrow_1
theorem pm_f_ex : ∀ i, i < 2 → (Cond.exactly (pm_tm i) "java/lang/String") ∈ flatC pm_gn := by decide +kernel
theorem pm_f_co : ∀ i, i < 2 → (Cond.eq (.field (pm_tm i) "java/lang/String" "coder" "B") (.int 0)) ∈ flatC pm_gn := by decide +kernel
theorem pm_f_ar : ∀ i, i < 2 → (Cond.arrayOf (.field (pm_tm i) "java/lang/String" "value" "[B") .byte) ∈ flatC pm_gn := by decide +kernel
theorem pm_f_le : ∀ i, i < 2 → (Cond.eq (.length (.field (pm_tm i) "java/lang/String" "value" "[B")) (.int (Int32.ofNat (pm_len.getD i 0)))) ∈ flatC pm_gn := by decide +kernel
set_option maxRecDepth 100000 in
theorem pm_f_el : ∀ i, i < 2 → ∀ j, j < pm_len.getD i 0 → (Cond.eq (.elem (.field (pm_tm i) "java/lang/String" "value" "[B") (.int (Int32.ofNat j))) (.int ((pm_byt.getD i []).getD j 0))) ∈ flatC pm_gn := by decide +kernel
theorem pm_f_ne : (Cond.not (Cond.eq (pm_tm 0) (pm_tm 1))) ∈ flatC pm_gn := by decide +kernel
theorem pm_f_cs : (Cond.eq (.static "java/lang/String" "COMPACT_STRINGS" "Z") (.int 1)) ∈ flatC pm_gn := by decide +kernel
theorem pm_f_fo : (Cond.isRef (.static "jdk/internal/util/Preconditions" "SIOOBE_FORMATTER" "Ljava/util/function/BiFunction;")) ∈ flatC pm_gn := by decide +kernel
theorem pm_t_s0 : (Cond.stringRef "PaidWhereMade$LawReader" 137 pm_kw) ∈ lw_tbl := by decide +kernel
theorem pm_t_s1 : (Cond.stringRef "PaidWhereMade$LawReader" 152 pm_sg) ∈ lw_tbl := by decide +kernel
theorem pm_t_l0 : (Cond.laysStatic "java/lang/String" "COMPACT_STRINGS" "Z") ∈ lw_tbl := by decide +kernel
theorem pm_t_l1 : (Cond.laysStatic "jdk/internal/util/Preconditions" "SIOOBE_FORMATTER" "Ljava/util/function/BiFunction;") ∈ lw_tbl := by decide +kernel
theorem pm_t_i0 : (Cond.initialized "java/lang/String") ∈ lw_tbl := by decide +kernel
theorem pm_t_i1 : (Cond.initialized "jdk/internal/util/Preconditions") ∈ lw_tbl := by decide +kernel
theorem pm_arr_of {s : State} {args : Array Value} {ty : FieldType} (h : (Cond.arrayClass ty).before args s = true) (hp : ∀ C, ty ≠ .object C) : ∃ cA : ClassId, ArrOfT s cA ty ∧ va_RA s cA ty := by
  obtain ⟨c, k, comp, h1, h2, h3⟩ := Cond.arrayClass_spec h
  refine ⟨c, fun n z => ⟨fun k h => (by cases h), k, h2, comp, h3⟩, ?_⟩
  cases ty with
  | object C => exact absurd rfl (hp C)
  | _ => exact h1
theorem pm_start {p : Program} {s : State} {m : MethodId} {meth : Method} {c : Code} (l : Launch) {b L : Nat} {xs : Nat → Int32} (C0 : lw_At p s m meth c b L xs) : ∃ E : pm_E, E.1 = l ∧ E.2.1 = s.heap.size ∧ pe_b E = b ∧ pe_n E = L ∧ pe_x E = xs ∧ pm_env E s s.heap := by
  obtain ⟨hx, hb, hr, hml, hown, hts, hX, hbl, hlocks, hgv⟩ := C0
  have hfl := flat_of_before pm_gn hgv
  have hbig : ∀ w ∈ pm_big, w.before #[Value.ref b] s = true := fun w hw => hts w (List.mem_filter.mp hw).1
  have hA : ∀ a : Nat, a < s.heap.size → ¬ (fun q : Nat => s.heap.size ≤ q) a := fun a h => Nat.not_le.mpr h
  have hcl : ∀ k : Nat, ∃ q : ClassId × (Nat → Nat), ∀ r : vw_C, pm_cls[k]? = some r → u_Kn s r.1 r.2.1 r.2.2 q.1 q.2 := by
    intro k
    cases hk : pm_cls[k]? with
    | none => exact ⟨(0, fun _ => 0), fun r h => by cases h⟩
    | some r =>
      have h13 : k < 13 := (List.getElem?_eq_some_iff.mp hk).1
      have hw := hbig _ (pm_IC_ok k (by
        have : ∀ j, j < 13 → j ∈ pm_IC := by decide
        exact this k h13))
      have hgd : pm_cls.getD k ("", pT_0, 0) = r := by rw [List.getD_eq_getElem?_getD, hk]; rfl
      simp only [pm_IC_w, hgd] at hw
      obtain ⟨cC, iS, hKn⟩ := u_known (C := r.1) (T := r.2.1) (N := r.2.2) hbig (pm_cls_ok hk).1 hw
      exact ⟨(cC, iS), fun r' h => by cases h; exact hKn⟩
  obtain ⟨dd, hdd⟩ := Classical.axiomOfChoice hcl
  obtain ⟨cI, hI1, hI2⟩ := pm_arr_of (hbig _ pm_w_a_int) (fun C h => by cases h)
  obtain ⟨cZ, hZ1, hZ2⟩ := pm_arr_of (hbig _ pm_w_a_boolean) (fun C h => by cases h)
  obtain ⟨cJ, hJ1, hJ2⟩ := pm_arr_of (hbig _ pm_w_a_long) (fun C h => by cases h)
  obtain ⟨adK, adV, hST, hEv⟩ := vk_Sof (N := 2) (tm := pm_tm) (len := pm_len) (byt := pm_byt) (A := fun q : Nat => s.heap.size ≤ q) (by decide +kernel) (fun i hi => hfl _ (pm_f_ex i hi)) (fun i hi => hfl _ (pm_f_co i hi)) (fun i hi => hfl _ (pm_f_ar i hi)) (fun i hi => hfl _ (pm_f_le i hi)) (fun i hi j hj => hfl _ (pm_f_el i hi j hj)) (fun i j hi hj hij => by
    rcases (show (i = 0 ∧ j = 1) ∨ (i = 1 ∧ j = 0) by omega) with ⟨rfl, rfl⟩ | ⟨rfl, rfl⟩
    · exact Or.inl (hfl _ pm_f_ne)
    · exact Or.inr (hfl _ pm_f_ne)) hA
  have hZ0 : va_Z "java/lang/String" "COMPACT_STRINGS" "Z" (.int 1) (fun q : Nat => s.heap.size ≤ q) s s.heap := va_Zof (hts _ pm_t_l0) (hts _ pm_t_i0) (va_eqi (hfl _ pm_f_cs)) hA
  have hZq : ∃ z : Value, va_Z "jdk/internal/util/Preconditions" "SIOOBE_FORMATTER" "Ljava/util/function/BiFunction;" z (fun q : Nat => s.heap.size ≤ q) s s.heap ∧ (z = .null ∨ ∃ a, z = .ref a) := by
    rcases va_Zqof (hts _ pm_t_l1) (hts _ pm_t_i1) (hfl _ pm_f_fo) hA with h | ⟨t, h⟩
    · exact ⟨.null, h, Or.inl rfl⟩
    · exact ⟨.ref t, h, Or.inr ⟨t, rfl⟩⟩
  obtain ⟨z, hz1, hz2⟩ := hZq
  refine ⟨(l, s.heap.size, fun k => (dd k).1, fun k => (dd k).2, fun k => match k with | 0 => cI | 1 => cZ | _ => cJ, adK, adV, z, b, L, xs), rfl, rfl, rfl, rfl, rfl, ⟨fun k q h => hdd k q h, fun k q h => ?_⟩, hST, hZ0, hz1, vk_R.of (hts _ pm_t_s0) (hEv 0 (by decide)), vk_R.of (hts _ pm_t_s1) (hEv 1 (by decide)), fun q hq => va_Nw.of rfl (hts _ (pm_MN_ok q hq)), hX, hbl, hbl, hz2, Nat.le_refl _⟩
  match k, h with
  | 0, h => cases h; exact ⟨hI1, hI2⟩
  | 1, h => cases h; exact ⟨hZ1, hZ2⟩
  | 2, h => cases h; exact ⟨hJ1, hJ2⟩
  | k + 3, h => simp [pe_ty] at h
end
