section
-- ===== PART A: goes FIRST, ahead of the names: the tables' words, and 'selects' of the private methods out of them =====
/-- a private method of a class that the tables say can be made, by its rows of tables_1 -/
def lw_okq (q : MethodName × Nat) : Prop := (q.1.cls ≠ "java/lang/invoke/MethodHandle" ∧ q.1.cls ≠ "java/lang/invoke/VarHandle") ∧ Cond.instantiable q.1.cls q.2 ∈ tables_1 ∧ Cond.privateMethod q.1 ∈ tables_1 ∧ Cond.instanceMethod q.1 ∈ tables_1
theorem lw_p0 : lw_okq (⟨"StairFines", "found", "(I)I"⟩, 7) := ⟨⟨by decide +kernel, by decide +kernel⟩, List.mem_of_getElem? (i := 21) (by decide +kernel), List.mem_of_getElem? (i := 234) (by decide +kernel), List.mem_of_getElem? (i := 235) (by decide +kernel)⟩
theorem lw_p1 : lw_okq (⟨"StairFines", "againstYears", "(III)I"⟩, 7) := ⟨⟨by decide +kernel, by decide +kernel⟩, List.mem_of_getElem? (i := 21) (by decide +kernel), List.mem_of_getElem? (i := 419) (by decide +kernel), List.mem_of_getElem? (i := 420) (by decide +kernel)⟩
theorem lw_p2 : lw_okq (⟨"StairFines", "isTooLateFor", "(I)Z"⟩, 7) := ⟨⟨by decide +kernel, by decide +kernel⟩, List.mem_of_getElem? (i := 21) (by decide +kernel), List.mem_of_getElem? (i := 423) (by decide +kernel), List.mem_of_getElem? (i := 424) (by decide +kernel)⟩
theorem lw_p3 : lw_okq (⟨"StairFines$Mountain", "isAtRest", "()Z"⟩, 16) := ⟨⟨by decide +kernel, by decide +kernel⟩, List.mem_of_getElem? (i := 72) (by decide +kernel), List.mem_of_getElem? (i := 431) (by decide +kernel), List.mem_of_getElem? (i := 432) (by decide +kernel)⟩
theorem lw_p4 : lw_okq (⟨"StairFines$Mountain", "goYear", "()V"⟩, 16) := ⟨⟨by decide +kernel, by decide +kernel⟩, List.mem_of_getElem? (i := 72) (by decide +kernel), List.mem_of_getElem? (i := 440) (by decide +kernel), List.mem_of_getElem? (i := 441) (by decide +kernel)⟩
theorem lw_p5 : lw_okq (⟨"StairFines$Mountain", "goOn", "(I)V"⟩, 16) := ⟨⟨by decide +kernel, by decide +kernel⟩, List.mem_of_getElem? (i := 72) (by decide +kernel), List.mem_of_getElem? (i := 444) (by decide +kernel), List.mem_of_getElem? (i := 445) (by decide +kernel)⟩
theorem lw_p6 : lw_okq (⟨"StairFines$Mountain", "workOn", "(II)V"⟩, 16) := ⟨⟨by decide +kernel, by decide +kernel⟩, List.mem_of_getElem? (i := 72) (by decide +kernel), List.mem_of_getElem? (i := 449) (by decide +kernel), List.mem_of_getElem? (i := 450) (by decide +kernel)⟩
theorem lw_p7 : lw_okq (⟨"StairFines$Mountain", "freeze", "()V"⟩, 16) := ⟨⟨by decide +kernel, by decide +kernel⟩, List.mem_of_getElem? (i := 72) (by decide +kernel), List.mem_of_getElem? (i := 469) (by decide +kernel), List.mem_of_getElem? (i := 470) (by decide +kernel)⟩
theorem lw_p8 : lw_okq (⟨"StairFines$Mountain", "draw", "()I"⟩, 16) := ⟨⟨by decide +kernel, by decide +kernel⟩, List.mem_of_getElem? (i := 72) (by decide +kernel), List.mem_of_getElem? (i := 473) (by decide +kernel), List.mem_of_getElem? (i := 474) (by decide +kernel)⟩
theorem lw_p9 : lw_okq (⟨"StairFines", "startTrial", "()V"⟩, 7) := ⟨⟨by decide +kernel, by decide +kernel⟩, List.mem_of_getElem? (i := 21) (by decide +kernel), List.mem_of_getElem? (i := 493) (by decide +kernel), List.mem_of_getElem? (i := 494) (by decide +kernel)⟩
theorem lw_p10 : lw_okq (⟨"StairFines$Tape", "advance", "()V"⟩, 8) := ⟨⟨by decide +kernel, by decide +kernel⟩, List.mem_of_getElem? (i := 149) (by decide +kernel), List.mem_of_getElem? (i := 578) (by decide +kernel), List.mem_of_getElem? (i := 579) (by decide +kernel)⟩
theorem lw_p11 : lw_okq (⟨"StairFines$Tape", "item", "(LStairFines$Mountain;)Z"⟩, 8) := ⟨⟨by decide +kernel, by decide +kernel⟩, List.mem_of_getElem? (i := 149) (by decide +kernel), List.mem_of_getElem? (i := 591) (by decide +kernel), List.mem_of_getElem? (i := 592) (by decide +kernel)⟩
theorem lw_p12 : lw_okq (⟨"StairFines$Tape", "isWord", "(Ljava/lang/String;)Z"⟩, 8) := ⟨⟨by decide +kernel, by decide +kernel⟩, List.mem_of_getElem? (i := 149) (by decide +kernel), List.mem_of_getElem? (i := 621) (by decide +kernel), List.mem_of_getElem? (i := 622) (by decide +kernel)⟩
theorem lw_p13 : lw_okq (⟨"StairFines$Tape", "fineItem", "(LStairFines$Mountain;I)Z"⟩, 8) := ⟨⟨by decide +kernel, by decide +kernel⟩, List.mem_of_getElem? (i := 149) (by decide +kernel), List.mem_of_getElem? (i := 673) (by decide +kernel), List.mem_of_getElem? (i := 674) (by decide +kernel)⟩
theorem lw_p14 : lw_okq (⟨"StairFines$Tape", "take", "(II)Z"⟩, 8) := ⟨⟨by decide +kernel, by decide +kernel⟩, List.mem_of_getElem? (i := 149) (by decide +kernel), List.mem_of_getElem? (i := 678) (by decide +kernel), List.mem_of_getElem? (i := 679) (by decide +kernel)⟩
theorem lw_p15 : lw_okq (⟨"StairFines$Tape", "takeWord", "(Ljava/lang/String;)Z"⟩, 8) := ⟨⟨by decide +kernel, by decide +kernel⟩, List.mem_of_getElem? (i := 149) (by decide +kernel), List.mem_of_getElem? (i := 684) (by decide +kernel), List.mem_of_getElem? (i := 685) (by decide +kernel)⟩
def lw_privs_1 : List (MethodName × Nat) := [(⟨"StairFines", "found", "(I)I"⟩, 7), (⟨"StairFines", "againstYears", "(III)I"⟩, 7), (⟨"StairFines", "isTooLateFor", "(I)Z"⟩, 7), (⟨"StairFines$Mountain", "isAtRest", "()Z"⟩, 16), (⟨"StairFines$Mountain", "goYear", "()V"⟩, 16), (⟨"StairFines$Mountain", "goOn", "(I)V"⟩, 16), (⟨"StairFines$Mountain", "workOn", "(II)V"⟩, 16), (⟨"StairFines$Mountain", "freeze", "()V"⟩, 16), (⟨"StairFines$Mountain", "draw", "()I"⟩, 16), (⟨"StairFines", "startTrial", "()V"⟩, 7), (⟨"StairFines$Tape", "advance", "()V"⟩, 8), (⟨"StairFines$Tape", "item", "(LStairFines$Mountain;)Z"⟩, 8), (⟨"StairFines$Tape", "isWord", "(Ljava/lang/String;)Z"⟩, 8), (⟨"StairFines$Tape", "fineItem", "(LStairFines$Mountain;I)Z"⟩, 8), (⟨"StairFines$Tape", "take", "(II)Z"⟩, 8), (⟨"StairFines$Tape", "takeWord", "(Ljava/lang/String;)Z"⟩, 8)]
theorem lw_r1 : ∀ q ∈ lw_privs_1, lw_okq q := List.forall_mem_cons.mpr ⟨lw_p0, List.forall_mem_cons.mpr ⟨lw_p1, List.forall_mem_cons.mpr ⟨lw_p2, List.forall_mem_cons.mpr ⟨lw_p3, List.forall_mem_cons.mpr ⟨lw_p4, List.forall_mem_cons.mpr ⟨lw_p5, List.forall_mem_cons.mpr ⟨lw_p6, List.forall_mem_cons.mpr ⟨lw_p7, List.forall_mem_cons.mpr ⟨lw_p8, List.forall_mem_cons.mpr ⟨lw_p9, List.forall_mem_cons.mpr ⟨lw_p10, List.forall_mem_cons.mpr ⟨lw_p11, List.forall_mem_cons.mpr ⟨lw_p12, List.forall_mem_cons.mpr ⟨lw_p13, List.forall_mem_cons.mpr ⟨lw_p14, List.forall_mem_cons.mpr ⟨lw_p15, fun _ h => absurd h List.not_mem_nil⟩⟩⟩⟩⟩⟩⟩⟩⟩⟩⟩⟩⟩⟩⟩⟩
theorem lw_p16 : lw_okq (⟨"StairFines$Tape", "rockItem", "(LStairFines$Mountain;)Z"⟩, 8) := ⟨⟨by decide +kernel, by decide +kernel⟩, List.mem_of_getElem? (i := 149) (by decide +kernel), List.mem_of_getElem? (i := 691) (by decide +kernel), List.mem_of_getElem? (i := 692) (by decide +kernel)⟩
theorem lw_p17 : lw_okq (⟨"StairFines$Sheet", "lowest", "(J)J"⟩, 3) := ⟨⟨by decide +kernel, by decide +kernel⟩, List.mem_of_getElem? (i := 182) (by decide +kernel), List.mem_of_getElem? (i := 731) (by decide +kernel), List.mem_of_getElem? (i := 732) (by decide +kernel)⟩
theorem lw_p18 : lw_okq (⟨"StairFinesModel", "finds", "(I)I"⟩, 18) := ⟨⟨by decide +kernel, by decide +kernel⟩, List.mem_of_getElem? (i := 777) (by decide +kernel), List.mem_of_getElem? (i := 849) (by decide +kernel), List.mem_of_getElem? (i := 850) (by decide +kernel)⟩
theorem lw_p19 : lw_okq (⟨"StairFinesModel", "addFine", "(IIII)V"⟩, 18) := ⟨⟨by decide +kernel, by decide +kernel⟩, List.mem_of_getElem? (i := 777) (by decide +kernel), List.mem_of_getElem? (i := 865) (by decide +kernel), List.mem_of_getElem? (i := 866) (by decide +kernel)⟩
theorem lw_p20 : lw_okq (⟨"StairFinesModel", "sets", "(III)V"⟩, 18) := ⟨⟨by decide +kernel, by decide +kernel⟩, List.mem_of_getElem? (i := 777) (by decide +kernel), List.mem_of_getElem? (i := 869) (by decide +kernel), List.mem_of_getElem? (i := 870) (by decide +kernel)⟩
theorem lw_p21 : lw_okq (⟨"StairFinesModel", "isFine", "(I)Z"⟩, 18) := ⟨⟨by decide +kernel, by decide +kernel⟩, List.mem_of_getElem? (i := 777) (by decide +kernel), List.mem_of_getElem? (i := 877) (by decide +kernel), List.mem_of_getElem? (i := 878) (by decide +kernel)⟩
theorem lw_p22 : lw_okq (⟨"StairFinesModel", "its", "(I)I"⟩, 18) := ⟨⟨by decide +kernel, by decide +kernel⟩, List.mem_of_getElem? (i := 777) (by decide +kernel), List.mem_of_getElem? (i := 881) (by decide +kernel), List.mem_of_getElem? (i := 882) (by decide +kernel)⟩
theorem lw_p23 : lw_okq (⟨"StairFinesModel", "works", "(I)I"⟩, 18) := ⟨⟨by decide +kernel, by decide +kernel⟩, List.mem_of_getElem? (i := 777) (by decide +kernel), List.mem_of_getElem? (i := 885) (by decide +kernel), List.mem_of_getElem? (i := 886) (by decide +kernel)⟩
theorem lw_p24 : lw_okq (⟨"StairFinesModel", "fineOf", "(II)I"⟩, 18) := ⟨⟨by decide +kernel, by decide +kernel⟩, List.mem_of_getElem? (i := 777) (by decide +kernel), List.mem_of_getElem? (i := 889) (by decide +kernel), List.mem_of_getElem? (i := 890) (by decide +kernel)⟩
theorem lw_p25 : lw_okq (⟨"StairFinesModel", "wholes", "()I"⟩, 18) := ⟨⟨by decide +kernel, by decide +kernel⟩, List.mem_of_getElem? (i := 777) (by decide +kernel), List.mem_of_getElem? (i := 893) (by decide +kernel), List.mem_of_getElem? (i := 894) (by decide +kernel)⟩
theorem lw_p26 : lw_okq (⟨"StairFinesModel", "highAt", "(II)I"⟩, 18) := ⟨⟨by decide +kernel, by decide +kernel⟩, List.mem_of_getElem? (i := 777) (by decide +kernel), List.mem_of_getElem? (i := 897) (by decide +kernel), List.mem_of_getElem? (i := 898) (by decide +kernel)⟩
theorem lw_p27 : lw_okq (⟨"StairFinesModel", "cutBy", "(I)I"⟩, 18) := ⟨⟨by decide +kernel, by decide +kernel⟩, List.mem_of_getElem? (i := 777) (by decide +kernel), List.mem_of_getElem? (i := 901) (by decide +kernel), List.mem_of_getElem? (i := 902) (by decide +kernel)⟩
theorem lw_p28 : lw_okq (⟨"StairFinesModel", "isWhole", "(I)Z"⟩, 18) := ⟨⟨by decide +kernel, by decide +kernel⟩, List.mem_of_getElem? (i := 777) (by decide +kernel), List.mem_of_getElem? (i := 905) (by decide +kernel), List.mem_of_getElem? (i := 906) (by decide +kernel)⟩
theorem lw_p29 : lw_okq (⟨"StairFinesModel", "wholeSet", "()J"⟩, 18) := ⟨⟨by decide +kernel, by decide +kernel⟩, List.mem_of_getElem? (i := 777) (by decide +kernel), List.mem_of_getElem? (i := 937) (by decide +kernel), List.mem_of_getElem? (i := 938) (by decide +kernel)⟩
theorem lw_p30 : lw_okq (⟨"StairFinesModel", "cuts", "(III)V"⟩, 18) := ⟨⟨by decide +kernel, by decide +kernel⟩, List.mem_of_getElem? (i := 777) (by decide +kernel), List.mem_of_getElem? (i := 945) (by decide +kernel), List.mem_of_getElem? (i := 946) (by decide +kernel)⟩
theorem lw_p31 : lw_okq (⟨"StairFinesModel", "breaks", "(I)V"⟩, 18) := ⟨⟨by decide +kernel, by decide +kernel⟩, List.mem_of_getElem? (i := 777) (by decide +kernel), List.mem_of_getElem? (i := 949) (by decide +kernel), List.mem_of_getElem? (i := 950) (by decide +kernel)⟩
def lw_privs_2 : List (MethodName × Nat) := [(⟨"StairFines$Tape", "rockItem", "(LStairFines$Mountain;)Z"⟩, 8), (⟨"StairFines$Sheet", "lowest", "(J)J"⟩, 3), (⟨"StairFinesModel", "finds", "(I)I"⟩, 18), (⟨"StairFinesModel", "addFine", "(IIII)V"⟩, 18), (⟨"StairFinesModel", "sets", "(III)V"⟩, 18), (⟨"StairFinesModel", "isFine", "(I)Z"⟩, 18), (⟨"StairFinesModel", "its", "(I)I"⟩, 18), (⟨"StairFinesModel", "works", "(I)I"⟩, 18), (⟨"StairFinesModel", "fineOf", "(II)I"⟩, 18), (⟨"StairFinesModel", "wholes", "()I"⟩, 18), (⟨"StairFinesModel", "highAt", "(II)I"⟩, 18), (⟨"StairFinesModel", "cutBy", "(I)I"⟩, 18), (⟨"StairFinesModel", "isWhole", "(I)Z"⟩, 18), (⟨"StairFinesModel", "wholeSet", "()J"⟩, 18), (⟨"StairFinesModel", "cuts", "(III)V"⟩, 18), (⟨"StairFinesModel", "breaks", "(I)V"⟩, 18)]
theorem lw_r2 : ∀ q ∈ lw_privs_2, lw_okq q := List.forall_mem_cons.mpr ⟨lw_p16, List.forall_mem_cons.mpr ⟨lw_p17, List.forall_mem_cons.mpr ⟨lw_p18, List.forall_mem_cons.mpr ⟨lw_p19, List.forall_mem_cons.mpr ⟨lw_p20, List.forall_mem_cons.mpr ⟨lw_p21, List.forall_mem_cons.mpr ⟨lw_p22, List.forall_mem_cons.mpr ⟨lw_p23, List.forall_mem_cons.mpr ⟨lw_p24, List.forall_mem_cons.mpr ⟨lw_p25, List.forall_mem_cons.mpr ⟨lw_p26, List.forall_mem_cons.mpr ⟨lw_p27, List.forall_mem_cons.mpr ⟨lw_p28, List.forall_mem_cons.mpr ⟨lw_p29, List.forall_mem_cons.mpr ⟨lw_p30, List.forall_mem_cons.mpr ⟨lw_p31, fun _ h => absurd h List.not_mem_nil⟩⟩⟩⟩⟩⟩⟩⟩⟩⟩⟩⟩⟩⟩⟩⟩
theorem lw_p32 : lw_okq (⟨"StairFinesModel", "reachNow", "()I"⟩, 18) := ⟨⟨by decide +kernel, by decide +kernel⟩, List.mem_of_getElem? (i := 777) (by decide +kernel), List.mem_of_getElem? (i := 957) (by decide +kernel), List.mem_of_getElem? (i := 958) (by decide +kernel)⟩
theorem lw_p33 : lw_okq (⟨"StairFinesModel", "meets", "(I)Z"⟩, 18) := ⟨⟨by decide +kernel, by decide +kernel⟩, List.mem_of_getElem? (i := 777) (by decide +kernel), List.mem_of_getElem? (i := 961) (by decide +kernel), List.mem_of_getElem? (i := 962) (by decide +kernel)⟩
theorem lw_p34 : lw_okq (⟨"StairFinesModel", "rises", "(I)I"⟩, 18) := ⟨⟨by decide +kernel, by decide +kernel⟩, List.mem_of_getElem? (i := 777) (by decide +kernel), List.mem_of_getElem? (i := 965) (by decide +kernel), List.mem_of_getElem? (i := 966) (by decide +kernel)⟩
theorem lw_p35 : lw_okq (⟨"StairFinesModel", "areBoth", "(I)Z"⟩, 18) := ⟨⟨by decide +kernel, by decide +kernel⟩, List.mem_of_getElem? (i := 777) (by decide +kernel), List.mem_of_getElem? (i := 973) (by decide +kernel), List.mem_of_getElem? (i := 974) (by decide +kernel)⟩
theorem lw_p36 : lw_okq (⟨"StairFinesModel", "isLate", "(I)Z"⟩, 18) := ⟨⟨by decide +kernel, by decide +kernel⟩, List.mem_of_getElem? (i := 777) (by decide +kernel), List.mem_of_getElem? (i := 981) (by decide +kernel), List.mem_of_getElem? (i := 982) (by decide +kernel)⟩
theorem lw_p37 : lw_okq (⟨"StairFinesModel", "go", "(I)V"⟩, 18) := ⟨⟨by decide +kernel, by decide +kernel⟩, List.mem_of_getElem? (i := 777) (by decide +kernel), List.mem_of_getElem? (i := 985) (by decide +kernel), List.mem_of_getElem? (i := 986) (by decide +kernel)⟩
theorem lw_p38 : lw_okq (⟨"StairFinesModel", "yearGoes", "()V"⟩, 18) := ⟨⟨by decide +kernel, by decide +kernel⟩, List.mem_of_getElem? (i := 777) (by decide +kernel), List.mem_of_getElem? (i := 989) (by decide +kernel), List.mem_of_getElem? (i := 990) (by decide +kernel)⟩
theorem lw_p39 : lw_okq (⟨"StairFinesModel", "serves", "(I)V"⟩, 18) := ⟨⟨by decide +kernel, by decide +kernel⟩, List.mem_of_getElem? (i := 777) (by decide +kernel), List.mem_of_getElem? (i := 993) (by decide +kernel), List.mem_of_getElem? (i := 994) (by decide +kernel)⟩
theorem lw_p40 : lw_okq (⟨"StairFinesModel", "freezes", "()V"⟩, 18) := ⟨⟨by decide +kernel, by decide +kernel⟩, List.mem_of_getElem? (i := 777) (by decide +kernel), List.mem_of_getElem? (i := 997) (by decide +kernel), List.mem_of_getElem? (i := 998) (by decide +kernel)⟩
theorem lw_p41 : lw_okq (⟨"StairFinesModel", "lends", "()V"⟩, 18) := ⟨⟨by decide +kernel, by decide +kernel⟩, List.mem_of_getElem? (i := 777) (by decide +kernel), List.mem_of_getElem? (i := 1017) (by decide +kernel), List.mem_of_getElem? (i := 1018) (by decide +kernel)⟩
theorem lw_p42 : lw_okq (⟨"StairFinesModel", "reachThen", "(I)I"⟩, 18) := ⟨⟨by decide +kernel, by decide +kernel⟩, List.mem_of_getElem? (i := 777) (by decide +kernel), List.mem_of_getElem? (i := 1045) (by decide +kernel), List.mem_of_getElem? (i := 1046) (by decide +kernel)⟩
theorem lw_p43 : lw_okq (⟨"StairFinesModel", "moveAll", "(Z[I)V"⟩, 18) := ⟨⟨by decide +kernel, by decide +kernel⟩, List.mem_of_getElem? (i := 777) (by decide +kernel), List.mem_of_getElem? (i := 1093) (by decide +kernel), List.mem_of_getElem? (i := 1094) (by decide +kernel)⟩
theorem lw_p44 : lw_okq (⟨"StairFinesModel", "advance", "()V"⟩, 18) := ⟨⟨by decide +kernel, by decide +kernel⟩, List.mem_of_getElem? (i := 777) (by decide +kernel), List.mem_of_getElem? (i := 1097) (by decide +kernel), List.mem_of_getElem? (i := 1098) (by decide +kernel)⟩
theorem lw_p45 : lw_okq (⟨"StairFinesModel", "byteAt", "(I)I"⟩, 18) := ⟨⟨by decide +kernel, by decide +kernel⟩, List.mem_of_getElem? (i := 777) (by decide +kernel), List.mem_of_getElem? (i := 1101) (by decide +kernel), List.mem_of_getElem? (i := 1102) (by decide +kernel)⟩
theorem lw_p46 : lw_okq (⟨"StairFinesModel", "wantItem", "()V"⟩, 18) := ⟨⟨by decide +kernel, by decide +kernel⟩, List.mem_of_getElem? (i := 777) (by decide +kernel), List.mem_of_getElem? (i := 1114) (by decide +kernel), List.mem_of_getElem? (i := 1115) (by decide +kernel)⟩
theorem lw_p47 : lw_okq (⟨"StairFinesModel", "kindHere", "()I"⟩, 18) := ⟨⟨by decide +kernel, by decide +kernel⟩, List.mem_of_getElem? (i := 777) (by decide +kernel), List.mem_of_getElem? (i := 1118) (by decide +kernel), List.mem_of_getElem? (i := 1119) (by decide +kernel)⟩
def lw_privs_3 : List (MethodName × Nat) := [(⟨"StairFinesModel", "reachNow", "()I"⟩, 18), (⟨"StairFinesModel", "meets", "(I)Z"⟩, 18), (⟨"StairFinesModel", "rises", "(I)I"⟩, 18), (⟨"StairFinesModel", "areBoth", "(I)Z"⟩, 18), (⟨"StairFinesModel", "isLate", "(I)Z"⟩, 18), (⟨"StairFinesModel", "go", "(I)V"⟩, 18), (⟨"StairFinesModel", "yearGoes", "()V"⟩, 18), (⟨"StairFinesModel", "serves", "(I)V"⟩, 18), (⟨"StairFinesModel", "freezes", "()V"⟩, 18), (⟨"StairFinesModel", "lends", "()V"⟩, 18), (⟨"StairFinesModel", "reachThen", "(I)I"⟩, 18), (⟨"StairFinesModel", "moveAll", "(Z[I)V"⟩, 18), (⟨"StairFinesModel", "advance", "()V"⟩, 18), (⟨"StairFinesModel", "byteAt", "(I)I"⟩, 18), (⟨"StairFinesModel", "wantItem", "()V"⟩, 18), (⟨"StairFinesModel", "kindHere", "()I"⟩, 18)]
theorem lw_r3 : ∀ q ∈ lw_privs_3, lw_okq q := List.forall_mem_cons.mpr ⟨lw_p32, List.forall_mem_cons.mpr ⟨lw_p33, List.forall_mem_cons.mpr ⟨lw_p34, List.forall_mem_cons.mpr ⟨lw_p35, List.forall_mem_cons.mpr ⟨lw_p36, List.forall_mem_cons.mpr ⟨lw_p37, List.forall_mem_cons.mpr ⟨lw_p38, List.forall_mem_cons.mpr ⟨lw_p39, List.forall_mem_cons.mpr ⟨lw_p40, List.forall_mem_cons.mpr ⟨lw_p41, List.forall_mem_cons.mpr ⟨lw_p42, List.forall_mem_cons.mpr ⟨lw_p43, List.forall_mem_cons.mpr ⟨lw_p44, List.forall_mem_cons.mpr ⟨lw_p45, List.forall_mem_cons.mpr ⟨lw_p46, List.forall_mem_cons.mpr ⟨lw_p47, fun _ h => absurd h List.not_mem_nil⟩⟩⟩⟩⟩⟩⟩⟩⟩⟩⟩⟩⟩⟩⟩⟩
theorem lw_p48 : lw_okq (⟨"StairFinesModel", "isWord", "(J)Z"⟩, 18) := ⟨⟨by decide +kernel, by decide +kernel⟩, List.mem_of_getElem? (i := 777) (by decide +kernel), List.mem_of_getElem? (i := 1123) (by decide +kernel), List.mem_of_getElem? (i := 1124) (by decide +kernel)⟩
theorem lw_p49 : lw_okq (⟨"StairFinesModel", "wantFine", "(I)V"⟩, 18) := ⟨⟨by decide +kernel, by decide +kernel⟩, List.mem_of_getElem? (i := 777) (by decide +kernel), List.mem_of_getElem? (i := 1132) (by decide +kernel), List.mem_of_getElem? (i := 1133) (by decide +kernel)⟩
theorem lw_p50 : lw_okq (⟨"StairFinesModel", "wantNumber", "(II)I"⟩, 18) := ⟨⟨by decide +kernel, by decide +kernel⟩, List.mem_of_getElem? (i := 777) (by decide +kernel), List.mem_of_getElem? (i := 1136) (by decide +kernel), List.mem_of_getElem? (i := 1137) (by decide +kernel)⟩
theorem lw_p51 : lw_okq (⟨"StairFinesModel", "wantWord", "(J)V"⟩, 18) := ⟨⟨by decide +kernel, by decide +kernel⟩, List.mem_of_getElem? (i := 777) (by decide +kernel), List.mem_of_getElem? (i := 1141) (by decide +kernel), List.mem_of_getElem? (i := 1142) (by decide +kernel)⟩
theorem lw_p52 : lw_okq (⟨"StairFinesModel", "mayWant", "(JIII)I"⟩, 18) := ⟨⟨by decide +kernel, by decide +kernel⟩, List.mem_of_getElem? (i := 777) (by decide +kernel), List.mem_of_getElem? (i := 1146) (by decide +kernel), List.mem_of_getElem? (i := 1147) (by decide +kernel)⟩
theorem lw_p53 : lw_okq (⟨"StairFinesModel", "wantRock", "()V"⟩, 18) := ⟨⟨by decide +kernel, by decide +kernel⟩, List.mem_of_getElem? (i := 777) (by decide +kernel), List.mem_of_getElem? (i := 1151) (by decide +kernel), List.mem_of_getElem? (i := 1152) (by decide +kernel)⟩
theorem lw_p54 : lw_okq (⟨"StairFinesModel", "wantLet", "(II)V"⟩, 18) := ⟨⟨by decide +kernel, by decide +kernel⟩, List.mem_of_getElem? (i := 777) (by decide +kernel), List.mem_of_getElem? (i := 1158) (by decide +kernel), List.mem_of_getElem? (i := 1159) (by decide +kernel)⟩
theorem lw_p55 : lw_okq (⟨"StairFinesModel", "isPart", "(III)Z"⟩, 18) := ⟨⟨by decide +kernel, by decide +kernel⟩, List.mem_of_getElem? (i := 777) (by decide +kernel), List.mem_of_getElem? (i := 1183) (by decide +kernel), List.mem_of_getElem? (i := 1184) (by decide +kernel)⟩
def lw_privs_4 : List (MethodName × Nat) := [(⟨"StairFinesModel", "isWord", "(J)Z"⟩, 18), (⟨"StairFinesModel", "wantFine", "(I)V"⟩, 18), (⟨"StairFinesModel", "wantNumber", "(II)I"⟩, 18), (⟨"StairFinesModel", "wantWord", "(J)V"⟩, 18), (⟨"StairFinesModel", "mayWant", "(JIII)I"⟩, 18), (⟨"StairFinesModel", "wantRock", "()V"⟩, 18), (⟨"StairFinesModel", "wantLet", "(II)V"⟩, 18), (⟨"StairFinesModel", "isPart", "(III)Z"⟩, 18)]
theorem lw_r4 : ∀ q ∈ lw_privs_4, lw_okq q := List.forall_mem_cons.mpr ⟨lw_p48, List.forall_mem_cons.mpr ⟨lw_p49, List.forall_mem_cons.mpr ⟨lw_p50, List.forall_mem_cons.mpr ⟨lw_p51, List.forall_mem_cons.mpr ⟨lw_p52, List.forall_mem_cons.mpr ⟨lw_p53, List.forall_mem_cons.mpr ⟨lw_p54, List.forall_mem_cons.mpr ⟨lw_p55, fun _ h => absurd h List.not_mem_nil⟩⟩⟩⟩⟩⟩⟩⟩
def lw_privs : List (MethodName × Nat) := lw_privs_1 ++ (lw_privs_2 ++ (lw_privs_3 ++ (lw_privs_4)))
def lw_tbl : List Cond := k2_sels lw_privs ++ tables_1
theorem lw_privs_ok : ∀ q ∈ lw_privs, lw_okq q := by
  show ∀ q ∈ lw_privs_1 ++ (lw_privs_2 ++ (lw_privs_3 ++ (lw_privs_4))), lw_okq q
  exact List.forall_mem_append.mpr ⟨lw_r1, List.forall_mem_append.mpr ⟨lw_r2, List.forall_mem_append.mpr ⟨lw_r3, lw_r4⟩⟩⟩
end
section
def RX0 : String := "StairFines$Alms"
def TX0 : u_T := fun k => match k with
  | _ => ("", "", "", false)
def tyX0 : Nat → FieldType := fun k => match k with
  | _ => .int
abbrev wsX00 : List Cond := u_ws RX0 TX0 0
theorem nmX0 : ∀ a, a < 0 → ∀ b, b < 0 → a ≠ b → (TX0 a).2.1 ≠ (TX0 b).2.1 := by decide +kernel
theorem tyX0_ok : ∀ k, k < 0 → parseFieldDescriptor (TX0 k).2.2.1 = some (tyX0 k) := by decide +kernel
abbrev cX0_init : ByteArray := prog_2_method_1_code
def yX0_init : MethodName := ⟨RX0, "<init>", "()V"⟩
abbrev cX0_name : ByteArray := prog_2_method_2_code
def yX0_name : MethodName := ⟨RX0, "name", "()Ljava/lang/String;"⟩
abbrev cX0_cutsHigh : ByteArray := prog_2_method_3_code
def yX0_cutsHigh : MethodName := ⟨RX0, "cutsHigh", "(I)I"⟩
def RX1 : String := "StairFines$Feigned"
def TX1 : u_T := fun k => match k with
  | _ => ("", "", "", false)
def tyX1 : Nat → FieldType := fun k => match k with
  | _ => .int
abbrev wsX10 : List Cond := u_ws RX1 TX1 0
theorem nmX1 : ∀ a, a < 0 → ∀ b, b < 0 → a ≠ b → (TX1 a).2.1 ≠ (TX1 b).2.1 := by decide +kernel
theorem tyX1_ok : ∀ k, k < 0 → parseFieldDescriptor (TX1 k).2.2.1 = some (tyX1 k) := by decide +kernel
abbrev cX1_init : ByteArray := prog_3_method_1_code
def yX1_init : MethodName := ⟨RX1, "<init>", "()V"⟩
abbrev cX1_name : ByteArray := prog_3_method_2_code
def yX1_name : MethodName := ⟨RX1, "name", "()Ljava/lang/String;"⟩
abbrev cX1_works : ByteArray := prog_3_method_3_code
def yX1_works : MethodName := ⟨RX1, "works", "(II)I"⟩
abbrev cX1_cutsHigh : ByteArray := prog_3_method_4_code
def yX1_cutsHigh : MethodName := ⟨RX1, "cutsHigh", "(I)I"⟩
abbrev cX1_counts : ByteArray := prog_3_method_5_code
def yX1_counts : MethodName := ⟨RX1, "counts", "()I"⟩
def RX2 : String := "StairFines$Hasty"
def TX2 : u_T := fun k => match k with
  | _ => ("", "", "", false)
def tyX2 : Nat → FieldType := fun k => match k with
  | _ => .int
abbrev wsX20 : List Cond := u_ws RX2 TX2 0
theorem nmX2 : ∀ a, a < 0 → ∀ b, b < 0 → a ≠ b → (TX2 a).2.1 ≠ (TX2 b).2.1 := by decide +kernel
theorem tyX2_ok : ∀ k, k < 0 → parseFieldDescriptor (TX2 k).2.2.1 = some (tyX2 k) := by decide +kernel
abbrev cX2_init : ByteArray := prog_4_method_1_code
def yX2_init : MethodName := ⟨RX2, "<init>", "()V"⟩
abbrev cX2_name : ByteArray := prog_4_method_2_code
def yX2_name : MethodName := ⟨RX2, "name", "()Ljava/lang/String;"⟩
abbrev cX2_works : ByteArray := prog_4_method_3_code
def yX2_works : MethodName := ⟨RX2, "works", "(II)I"⟩
abbrev cX2_cutsHigh : ByteArray := prog_4_method_4_code
def yX2_cutsHigh : MethodName := ⟨RX2, "cutsHigh", "(I)I"⟩
def RX3 : String := "StairFines$Kind"
def TX3 : u_T := fun k => match k with
  | _ => ("", "", "", false)
def tyX3 : Nat → FieldType := fun k => match k with
  | _ => .int
abbrev wsX30 : List Cond := u_ws RX3 TX3 0
theorem nmX3 : ∀ a, a < 0 → ∀ b, b < 0 → a ≠ b → (TX3 a).2.1 ≠ (TX3 b).2.1 := by decide +kernel
theorem tyX3_ok : ∀ k, k < 0 → parseFieldDescriptor (TX3 k).2.2.1 = some (tyX3 k) := by decide +kernel
abbrev cX3_init : ByteArray := prog_5_method_1_code
def yX3_init : MethodName := ⟨RX3, "<init>", "()V"⟩
abbrev cX3_name : ByteArray := prog_5_method_2_code
def yX3_name : MethodName := ⟨RX3, "name", "()Ljava/lang/String;"⟩
abbrev cX3_works : ByteArray := prog_5_method_3_code
def yX3_works : MethodName := ⟨RX3, "works", "(II)I"⟩
abbrev cX3_cutsHigh : ByteArray := prog_5_method_4_code
def yX3_cutsHigh : MethodName := ⟨RX3, "cutsHigh", "(I)I"⟩
abbrev cX3_counts : ByteArray := prog_5_method_5_code
def yX3_counts : MethodName := ⟨RX3, "counts", "()I"⟩
def RX4 : String := "StairFines$Mountain"
def TX4 : u_T := fun k => match k with
  | 0 => ("StairFines$Mountain", "kinds", "[LStairFines$Kind;", true)
  | 1 => ("StairFines$Mountain", "rock", "[I", true)
  | 2 => ("StairFines$Mountain", "high", "[I", true)
  | 3 => ("StairFines$Mountain", "cutter", "[I", true)
  | 4 => ("StairFines$Mountain", "cutIn", "[I", true)
  | 5 => ("StairFines$Mountain", "whole", "J", false)
  | 6 => ("StairFines$Mountain", "year", "I", false)
  | 7 => ("StairFines$Mountain", "frost", "I", false)
  | 8 => ("StairFines$Mountain", "meets", "I", false)
  | 9 => ("StairFines$Mountain", "z", "I", false)
  | 10 => ("StairFines$Mountain", "fines", "I", false)
  | 11 => ("StairFines$Mountain", "kind", "[I", true)
  | 12 => ("StairFines$Mountain", "owes", "[I", true)
  | 13 => ("StairFines$Mountain", "at", "[I", true)
  | 14 => ("StairFines$Mountain", "arm", "[I", true)
  | _ => ("StairFines$Mountain", "work", "[I", true)
def tyX4 : Nat → FieldType := fun k => match k with
  | 0 => .array (.object "StairFines$Kind")
  | 1 => .array .int
  | 2 => .array .int
  | 3 => .array .int
  | 4 => .array .int
  | 5 => .long
  | 6 => .int
  | 7 => .int
  | 8 => .int
  | 9 => .int
  | 10 => .int
  | 11 => .array .int
  | 12 => .array .int
  | 13 => .array .int
  | 14 => .array .int
  | _ => .array .int
abbrev wsX40 : List Cond := u_ws RX4 TX4 16
theorem nmX4 : ∀ a, a < 16 → ∀ b, b < 16 → a ≠ b → (TX4 a).2.1 ≠ (TX4 b).2.1 := by decide +kernel
theorem tyX4_ok : ∀ k, k < 16 → parseFieldDescriptor (TX4 k).2.2.1 = some (tyX4 k) := by decide +kernel
abbrev cX4_init : ByteArray := prog_6_method_1_code
def yX4_init : MethodName := ⟨RX4, "<init>", "([LStairFines$Kind;)V"⟩
abbrev cX4_become : ByteArray := prog_6_method_2_code
def yX4_become : MethodName := ⟨RX4, "become", "(LStairFines$Mountain;)V"⟩
abbrev cX4_isFull : ByteArray := prog_6_method_3_code
def yX4_isFull : MethodName := ⟨RX4, "isFull", "()Z"⟩
abbrev cX4_hasFine : ByteArray := prog_6_method_4_code
def yX4_hasFine : MethodName := ⟨RX4, "hasFine", "(I)Z"⟩
abbrev cX4_addFine : ByteArray := prog_6_method_5_code
def yX4_addFine : MethodName := ⟨RX4, "addFine", "(IIII)V"⟩
abbrev cX4_moveFine : ByteArray := prog_6_method_6_code
def yX4_moveFine : MethodName := ⟨RX4, "moveFine", "(II)V"⟩
abbrev cX4_kindOf : ByteArray := prog_6_method_7_code
def yX4_kindOf : MethodName := ⟨RX4, "kindOf", "(I)LStairFines$Kind;"⟩
abbrev cX4_worksOf : ByteArray := prog_6_method_8_code
def yX4_worksOf : MethodName := ⟨RX4, "worksOf", "(I)I"⟩
abbrev cX4_highOf : ByteArray := prog_6_method_9_code
def yX4_highOf : MethodName := ⟨RX4, "highOf", "(II)I"⟩
abbrev cX4_cutBy : ByteArray := prog_6_method_10_code
def yX4_cutBy : MethodName := ⟨RX4, "cutBy", "(I)I"⟩
abbrev cX4_owedByAll : ByteArray := prog_6_method_11_code
def yX4_owedByAll : MethodName := ⟨RX4, "owedByAll", "()I"⟩
abbrev cX4_highOfAll : ByteArray := prog_6_method_12_code
def yX4_highOfAll : MethodName := ⟨RX4, "highOfAll", "()I"⟩
abbrev cX4_wholePlaces : ByteArray := prog_6_method_13_code
def yX4_wholePlaces : MethodName := ⟨RX4, "wholePlaces", "()I"⟩
abbrev cX4_isWhole : ByteArray := prog_6_method_14_code
def yX4_isWhole : MethodName := ⟨RX4, "isWhole", "(I)Z"⟩
abbrev cX4_cut : ByteArray := prog_6_method_15_code
def yX4_cut : MethodName := ⟨RX4, "cut", "(III)V"⟩
abbrev cX4_breakUp : ByteArray := prog_6_method_16_code
def yX4_breakUp : MethodName := ⟨RX4, "breakUp", "(I)V"⟩
abbrev cX4_isPair : ByteArray := prog_6_method_17_code
def yX4_isPair : MethodName := ⟨RX4, "isPair", "(I)Z"⟩
abbrev cX4_isMet : ByteArray := prog_6_method_18_code
def yX4_isMet : MethodName := ⟨RX4, "isMet", "(II)Z"⟩
abbrev cX4_climb : ByteArray := prog_6_method_19_code
def yX4_climb : MethodName := ⟨RX4, "climb", "()I"⟩
abbrev cX4_climbWith : ByteArray := prog_6_method_20_code
def yX4_climbWith : MethodName := ⟨RX4, "climbWith", "(I)I"⟩
abbrev cX4_goYears : ByteArray := prog_6_method_21_code
def yX4_goYears : MethodName := ⟨RX4, "goYears", "(I)V"⟩
abbrev cX4_isAtRest : ByteArray := prog_6_method_22_code
def yX4_isAtRest : MethodName := ⟨RX4, "isAtRest", "()Z"⟩
abbrev cX4_goYear : ByteArray := prog_6_method_23_code
def yX4_goYear : MethodName := ⟨RX4, "goYear", "()V"⟩
abbrev cX4_goOn : ByteArray := prog_6_method_24_code
def yX4_goOn : MethodName := ⟨RX4, "goOn", "(I)V"⟩
abbrev cX4_workOn : ByteArray := prog_6_method_25_code
def yX4_workOn : MethodName := ⟨RX4, "workOn", "(II)V"⟩
abbrev cX4_freeze : ByteArray := prog_6_method_26_code
def yX4_freeze : MethodName := ⟨RX4, "freeze", "()V"⟩
abbrev cX4_draw : ByteArray := prog_6_method_27_code
def yX4_draw : MethodName := ⟨RX4, "draw", "()I"⟩
def RX5 : String := "StairFines$Saintly"
def TX5 : u_T := fun k => match k with
  | _ => ("", "", "", false)
def tyX5 : Nat → FieldType := fun k => match k with
  | _ => .int
abbrev wsX50 : List Cond := u_ws RX5 TX5 0
theorem nmX5 : ∀ a, a < 0 → ∀ b, b < 0 → a ≠ b → (TX5 a).2.1 ≠ (TX5 b).2.1 := by decide +kernel
theorem tyX5_ok : ∀ k, k < 0 → parseFieldDescriptor (TX5 k).2.2.1 = some (tyX5 k) := by decide +kernel
abbrev cX5_init : ByteArray := prog_7_method_1_code
def yX5_init : MethodName := ⟨RX5, "<init>", "()V"⟩
abbrev cX5_name : ByteArray := prog_7_method_2_code
def yX5_name : MethodName := ⟨RX5, "name", "()Ljava/lang/String;"⟩
abbrev cX5_works : ByteArray := prog_7_method_3_code
def yX5_works : MethodName := ⟨RX5, "works", "(II)I"⟩
abbrev cX5_cutsHigh : ByteArray := prog_7_method_4_code
def yX5_cutsHigh : MethodName := ⟨RX5, "cutsHigh", "(I)I"⟩
def RX6 : String := "StairFines$Shared"
def TX6 : u_T := fun k => match k with
  | _ => ("", "", "", false)
def tyX6 : Nat → FieldType := fun k => match k with
  | _ => .int
abbrev wsX60 : List Cond := u_ws RX6 TX6 0
theorem nmX6 : ∀ a, a < 0 → ∀ b, b < 0 → a ≠ b → (TX6 a).2.1 ≠ (TX6 b).2.1 := by decide +kernel
theorem tyX6_ok : ∀ k, k < 0 → parseFieldDescriptor (TX6 k).2.2.1 = some (tyX6 k) := by decide +kernel
abbrev cX6_init : ByteArray := prog_8_method_1_code
def yX6_init : MethodName := ⟨RX6, "<init>", "()V"⟩
abbrev cX6_name : ByteArray := prog_8_method_2_code
def yX6_name : MethodName := ⟨RX6, "name", "()Ljava/lang/String;"⟩
abbrev cX6_works : ByteArray := prog_8_method_3_code
def yX6_works : MethodName := ⟨RX6, "works", "(II)I"⟩
def RX7 : String := "StairFines$Sheet"
def TX7 : u_T := fun k => match k with
  | 0 => ("StairFines$Sheet", "numbers", "[J", true)
  | 1 => ("StairFines$Sheet", "bits", "I", false)
  | _ => ("StairFines$Sheet", "length", "I", false)
def tyX7 : Nat → FieldType := fun k => match k with
  | 0 => .array .long
  | 1 => .int
  | _ => .int
abbrev wsX70 : List Cond := u_ws RX7 TX7 3
theorem nmX7 : ∀ a, a < 3 → ∀ b, b < 3 → a ≠ b → (TX7 a).2.1 ≠ (TX7 b).2.1 := by decide +kernel
theorem tyX7_ok : ∀ k, k < 3 → parseFieldDescriptor (TX7 k).2.2.1 = some (tyX7 k) := by decide +kernel
abbrev cX7_init : ByteArray := prog_9_method_1_code
def yX7_init : MethodName := ⟨RX7, "<init>", "()V"⟩
abbrev cX7_isMissing : ByteArray := prog_9_method_2_code
def yX7_isMissing : MethodName := ⟨RX7, "isMissing", "()Z"⟩
abbrev cX7_layOut : ByteArray := prog_9_method_3_code
def yX7_layOut : MethodName := ⟨RX7, "layOut", "(II)V"⟩
abbrev cX7_holds : ByteArray := prog_9_method_4_code
def yX7_holds : MethodName := ⟨RX7, "holds", "(II)Z"⟩
abbrev cX7_put : ByteArray := prog_9_method_5_code
def yX7_put : MethodName := ⟨RX7, "put", "(IJ)V"⟩
abbrev cX7_lowest : ByteArray := prog_9_method_6_code
def yX7_lowest : MethodName := ⟨RX7, "lowest", "(J)J"⟩
def RX8 : String := "StairFines$Tape"
def TX8 : u_T := fun k => match k with
  | 0 => ("StairFines$Tape", "kinds", "[LStairFines$Kind;", true)
  | 1 => ("StairFines$Tape", "bytes", "[I", true)
  | 2 => ("StairFines$Tape", "length", "I", false)
  | 3 => ("StairFines$Tape", "token", "I", false)
  | 4 => ("StairFines$Tape", "start", "I", false)
  | 5 => ("StairFines$Tape", "behind", "I", false)
  | 6 => ("StairFines$Tape", "number", "I", false)
  | _ => ("StairFines$Tape", "taken", "I", false)
def tyX8 : Nat → FieldType := fun k => match k with
  | 0 => .array (.object "StairFines$Kind")
  | 1 => .array .int
  | 2 => .int
  | 3 => .int
  | 4 => .int
  | 5 => .int
  | 6 => .int
  | _ => .int
abbrev wsX80 : List Cond := u_ws RX8 TX8 8
theorem nmX8 : ∀ a, a < 8 → ∀ b, b < 8 → a ≠ b → (TX8 a).2.1 ≠ (TX8 b).2.1 := by decide +kernel
theorem tyX8_ok : ∀ k, k < 8 → parseFieldDescriptor (TX8 k).2.2.1 = some (tyX8 k) := by decide +kernel
abbrev cX8_init : ByteArray := prog_10_method_1_code
def yX8_init : MethodName := ⟨RX8, "<init>", "([LStairFines$Kind;)V"⟩
abbrev cX8_append : ByteArray := prog_10_method_2_code
def yX8_append : MethodName := ⟨RX8, "append", "(I)V"⟩
abbrev cX8_tell : ByteArray := prog_10_method_3_code
def yX8_tell : MethodName := ⟨RX8, "tell", "(LStairFines$Mountain;)I"⟩
abbrev cX8_item : ByteArray := prog_10_method_4_code
def yX8_item : MethodName := ⟨RX8, "item", "(LStairFines$Mountain;)Z"⟩
abbrev cX8_fineItem : ByteArray := prog_10_method_5_code
def yX8_fineItem : MethodName := ⟨RX8, "fineItem", "(LStairFines$Mountain;I)Z"⟩
abbrev cX8_rockItem : ByteArray := prog_10_method_6_code
def yX8_rockItem : MethodName := ⟨RX8, "rockItem", "(LStairFines$Mountain;)Z"⟩
abbrev cX8_take : ByteArray := prog_10_method_7_code
def yX8_take : MethodName := ⟨RX8, "take", "(II)Z"⟩
abbrev cX8_takeWord : ByteArray := prog_10_method_8_code
def yX8_takeWord : MethodName := ⟨RX8, "takeWord", "(Ljava/lang/String;)Z"⟩
abbrev cX8_isWord : ByteArray := prog_10_method_9_code
def yX8_isWord : MethodName := ⟨RX8, "isWord", "(Ljava/lang/String;)Z"⟩
abbrev cX8_advance : ByteArray := prog_10_method_10_code
def yX8_advance : MethodName := ⟨RX8, "advance", "()V"⟩
abbrev cX8_isLetter : ByteArray := prog_10_method_11_code
def yX8_isLetter : MethodName := ⟨RX8, "isLetter", "(I)Z"⟩
abbrev cX8_isDigit : ByteArray := prog_10_method_12_code
def yX8_isDigit : MethodName := ⟨RX8, "isDigit", "(I)Z"⟩
def RX9 : String := "StairFines"
def TX9 : u_T := fun k => match k with
  | 0 => ("StairFines", "mountain", "LStairFines$Mountain;", true)
  | 1 => ("StairFines", "trial", "LStairFines$Mountain;", true)
  | 2 => ("StairFines", "kept", "LStairFines$Mountain;", true)
  | 3 => ("StairFines", "isKept", "Z", false)
  | 4 => ("StairFines", "tape", "LStairFines$Tape;", true)
  | 5 => ("StairFines", "sheets", "[LStairFines$Sheet;", true)
  | _ => ("StairFines", "findings", "[I", true)
def tyX9 : Nat → FieldType := fun k => match k with
  | 0 => .object "StairFines$Mountain"
  | 1 => .object "StairFines$Mountain"
  | 2 => .object "StairFines$Mountain"
  | 3 => .boolean
  | 4 => .object "StairFines$Tape"
  | 5 => .array (.object "StairFines$Sheet")
  | _ => .array .int
abbrev wsX90 : List Cond := u_ws RX9 TX9 7
theorem nmX9 : ∀ a, a < 7 → ∀ b, b < 7 → a ≠ b → (TX9 a).2.1 ≠ (TX9 b).2.1 := by decide +kernel
theorem tyX9_ok : ∀ k, k < 7 → parseFieldDescriptor (TX9 k).2.2.1 = some (tyX9 k) := by decide +kernel
abbrev cX9_init : ByteArray := prog_1_method_1_code
def yX9_init : MethodName := ⟨RX9, "<init>", "()V"⟩
abbrev cX9_rock : ByteArray := prog_1_method_2_code
def yX9_rock : MethodName := ⟨RX9, "rock", "(II)I"⟩
abbrev cX9_let : ByteArray := prog_1_method_3_code
def yX9_let : MethodName := ⟨RX9, "let", "(II)I"⟩
abbrev cX9_fine : ByteArray := prog_1_method_4_code
def yX9_fine : MethodName := ⟨RX9, "fine", "(III)I"⟩
abbrev cX9_of : ByteArray := prog_1_method_5_code
def yX9_of : MethodName := ⟨RX9, "of", "(II)I"⟩
abbrev cX9_set : ByteArray := prog_1_method_6_code
def yX9_set : MethodName := ⟨RX9, "set", "(III)I"⟩
abbrev cX9_turn : ByteArray := prog_1_method_7_code
def yX9_turn : MethodName := ⟨RX9, "turn", "(II)I"⟩
abbrev cX9_as : ByteArray := prog_1_method_8_code
def yX9_as : MethodName := ⟨RX9, "as", "(II)I"⟩
abbrev cX9_placeOf : ByteArray := prog_1_method_9_code
def yX9_placeOf : MethodName := ⟨RX9, "placeOf", "(II)I"⟩
abbrev cX9_whole : ByteArray := prog_1_method_10_code
def yX9_whole : MethodName := ⟨RX9, "whole", "()J"⟩
abbrev cX9_make : ByteArray := prog_1_method_11_code
def yX9_make : MethodName := ⟨RX9, "make", "(IZI)I"⟩
abbrev cX9_reach : ByteArray := prog_1_method_12_code
def yX9_reach : MethodName := ⟨RX9, "reach", "()I"⟩
abbrev cX9_faults : ByteArray := prog_1_method_13_code
def yX9_faults : MethodName := ⟨RX9, "faults", "()J"⟩
abbrev cX9_years : ByteArray := prog_1_method_14_code
def yX9_years : MethodName := ⟨RX9, "years", "(I)I"⟩
abbrev cX9_seed : ByteArray := prog_1_method_15_code
def yX9_seed : MethodName := ⟨RX9, "seed", "(I)I"⟩
abbrev cX9_now : ByteArray := prog_1_method_16_code
def yX9_now : MethodName := ⟨RX9, "now", "(I)I"⟩
abbrev cX9_on : ByteArray := prog_1_method_17_code
def yX9_on : MethodName := ⟨RX9, "on", "(I)J"⟩
abbrev cX9_reachOn : ByteArray := prog_1_method_18_code
def yX9_reachOn : MethodName := ⟨RX9, "reachOn", "(I)I"⟩
abbrev cX9_pass : ByteArray := prog_1_method_19_code
def yX9_pass : MethodName := ⟨RX9, "pass", "()I"⟩
abbrev cX9_paid : ByteArray := prog_1_method_20_code
def yX9_paid : MethodName := ⟨RX9, "paid", "(I)I"⟩
abbrev cX9_farthest : ByteArray := prog_1_method_21_code
def yX9_farthest : MethodName := ⟨RX9, "farthest", "(I)I"⟩
abbrev cX9_best : ByteArray := prog_1_method_22_code
def yX9_best : MethodName := ⟨RX9, "best", "(II)I"⟩
abbrev cX9_kind : ByteArray := prog_1_method_23_code
def yX9_kind : MethodName := ⟨RX9, "kind", "(II)I"⟩
abbrev cX9_mend : ByteArray := prog_1_method_24_code
def yX9_mend : MethodName := ⟨RX9, "mend", "()I"⟩
abbrev cX9_needed : ByteArray := prog_1_method_25_code
def yX9_needed : MethodName := ⟨RX9, "needed", "(I)I"⟩
abbrev cX9_steepest : ByteArray := prog_1_method_26_code
def yX9_steepest : MethodName := ⟨RX9, "steepest", "()I"⟩
abbrev cX9_whose : ByteArray := prog_1_method_27_code
def yX9_whose : MethodName := ⟨RX9, "whose", "(II)I"⟩
abbrev cX9_bears : ByteArray := prog_1_method_28_code
def yX9_bears : MethodName := ⟨RX9, "bears", "(I)I"⟩
abbrev cX9_meetsFor : ByteArray := prog_1_method_29_code
def yX9_meetsFor : MethodName := ⟨RX9, "meetsFor", "(I)I"⟩
abbrev cX9_alone : ByteArray := prog_1_method_30_code
def yX9_alone : MethodName := ⟨RX9, "alone", "(I)I"⟩
abbrev cX9_feed : ByteArray := prog_1_method_31_code
def yX9_feed : MethodName := ⟨RX9, "feed", "(II)I"⟩
abbrev cX9_wipe : ByteArray := prog_1_method_32_code
def yX9_wipe : MethodName := ⟨RX9, "wipe", "()I"⟩
abbrev cX9_court : ByteArray := prog_1_method_33_code
def yX9_court : MethodName := ⟨RX9, "court", "()I"⟩
abbrev cX9_sheet : ByteArray := prog_1_method_34_code
def yX9_sheet : MethodName := ⟨RX9, "sheet", "(III)I"⟩
abbrev cX9_write : ByteArray := prog_1_method_35_code
def yX9_write : MethodName := ⟨RX9, "write", "(IIJ)J"⟩
abbrev cX9_copy : ByteArray := prog_1_method_36_code
def yX9_copy : MethodName := ⟨RX9, "copy", "(IIIII)I"⟩
abbrev cX9_lays : ByteArray := prog_1_method_37_code
def yX9_lays : MethodName := ⟨RX9, "lays", "(I)I"⟩
abbrev cX9_stair : ByteArray := prog_1_method_38_code
def yX9_stair : MethodName := ⟨RX9, "stair", "(II)I"⟩
abbrev cX9_read : ByteArray := prog_1_method_39_code
def yX9_read : MethodName := ⟨RX9, "read", "(I)I"⟩
abbrev cX9_image : ByteArray := prog_1_method_40_code
def yX9_image : MethodName := ⟨RX9, "image", "()I"⟩
abbrev cX9_undo : ByteArray := prog_1_method_41_code
def yX9_undo : MethodName := ⟨RX9, "undo", "()I"⟩
abbrev cX9_tear : ByteArray := prog_1_method_42_code
def yX9_tear : MethodName := ⟨RX9, "tear", "()I"⟩
abbrev cX9_count : ByteArray := prog_1_method_43_code
def yX9_count : MethodName := ⟨RX9, "count", "(I)I"⟩
abbrev cX9_status : ByteArray := prog_1_method_44_code
def yX9_status : MethodName := ⟨RX9, "status", "(I)I"⟩
abbrev cX9_found : ByteArray := prog_1_method_45_code
def yX9_found : MethodName := ⟨RX9, "found", "(I)I"⟩
abbrev cX9_isTooLateFor : ByteArray := prog_1_method_46_code
def yX9_isTooLateFor : MethodName := ⟨RX9, "isTooLateFor", "(I)Z"⟩
abbrev cX9_againstYears : ByteArray := prog_1_method_47_code
def yX9_againstYears : MethodName := ⟨RX9, "againstYears", "(III)I"⟩
abbrev cX9_startTrial : ByteArray := prog_1_method_48_code
def yX9_startTrial : MethodName := ⟨RX9, "startTrial", "()V"⟩
abbrev cX9_isWithin : ByteArray := prog_1_method_49_code
def yX9_isWithin : MethodName := ⟨RX9, "isWithin", "(III)Z"⟩
abbrev cX9_isPlace : ByteArray := prog_1_method_50_code
def yX9_isPlace : MethodName := ⟨RX9, "isPlace", "(I)Z"⟩
abbrev cX9_isKind : ByteArray := prog_1_method_51_code
def yX9_isKind : MethodName := ⟨RX9, "isKind", "(I)Z"⟩
abbrev cX9_isSheet : ByteArray := prog_1_method_52_code
def yX9_isSheet : MethodName := ⟨RX9, "isSheet", "(I)Z"⟩
abbrev cX9_isOfKind : ByteArray := prog_1_method_53_code
def yX9_isOfKind : MethodName := ⟨RX9, "isOfKind", "(LStairFines$Kind;I)Z"⟩
def RX10 : String := "StairFinesModel"
def TX10 : u_T := fun k => match k with
  | 0 => ("StairFinesModel", "row", "[I", true)
  | 1 => ("StairFinesModel", "at", "I", false)
  | 2 => ("StairFinesModel", "found", "[I", true)
  | 3 => ("StairFinesModel", "tape", "[I", true)
  | 4 => ("StairFinesModel", "tapeMany", "I", false)
  | 5 => ("StairFinesModel", "sort", "I", false)
  | 6 => ("StairFinesModel", "begins", "I", false)
  | 7 => ("StairFinesModel", "tokenEnds", "I", false)
  | 8 => ("StairFinesModel", "word", "J", false)
  | 9 => ("StairFinesModel", "value", "I", false)
  | 10 => ("StairFinesModel", "good", "Z", false)
  | 11 => ("StairFinesModel", "bitsOf", "[I", true)
  | 12 => ("StairFinesModel", "sizeOf", "[I", true)
  | 13 => ("StairFinesModel", "sheets", "[J", true)
  | 14 => ("StairFinesModel", "lent", "[J", true)
  | 15 => ("StairFinesModel", "image", "[I", true)
  | 16 => ("StairFinesModel", "before", "[I", true)
  | _ => ("StairFinesModel", "isKept", "Z", false)
def tyX10 : Nat → FieldType := fun k => match k with
  | 0 => .array .int
  | 1 => .int
  | 2 => .array .int
  | 3 => .array .int
  | 4 => .int
  | 5 => .int
  | 6 => .int
  | 7 => .int
  | 8 => .long
  | 9 => .int
  | 10 => .boolean
  | 11 => .array .int
  | 12 => .array .int
  | 13 => .array .long
  | 14 => .array .long
  | 15 => .array .int
  | 16 => .array .int
  | _ => .boolean
abbrev wsX100 : List Cond := u_ws RX10 TX10 18
theorem nmX10 : ∀ a, a < 18 → ∀ b, b < 18 → a ≠ b → (TX10 a).2.1 ≠ (TX10 b).2.1 := by decide +kernel
theorem tyX10_ok : ∀ k, k < 18 → parseFieldDescriptor (TX10 k).2.2.1 = some (tyX10 k) := by decide +kernel
abbrev cX10_init : ByteArray := prog_12_method_1_code
def yX10_init : MethodName := ⟨RX10, "<init>", "()V"⟩
abbrev cX10_in : ByteArray := prog_12_method_2_code
def yX10_in : MethodName := ⟨RX10, "in", "(III)Z"⟩
abbrev cX10_finds : ByteArray := prog_12_method_3_code
def yX10_finds : MethodName := ⟨RX10, "finds", "(I)I"⟩
abbrev cX10_its : ByteArray := prog_12_method_4_code
def yX10_its : MethodName := ⟨RX10, "its", "(I)I"⟩
abbrev cX10_fineOf : ByteArray := prog_12_method_5_code
def yX10_fineOf : MethodName := ⟨RX10, "fineOf", "(II)I"⟩
abbrev cX10_sets : ByteArray := prog_12_method_6_code
def yX10_sets : MethodName := ⟨RX10, "sets", "(III)V"⟩
abbrev cX10_isFine : ByteArray := prog_12_method_7_code
def yX10_isFine : MethodName := ⟨RX10, "isFine", "(I)Z"⟩
abbrev cX10_isPlace : ByteArray := prog_12_method_8_code
def yX10_isPlace : MethodName := ⟨RX10, "isPlace", "(I)Z"⟩
abbrev cX10_isKind : ByteArray := prog_12_method_9_code
def yX10_isKind : MethodName := ⟨RX10, "isKind", "(I)Z"⟩
abbrev cX10_isWhole : ByteArray := prog_12_method_10_code
def yX10_isWhole : MethodName := ⟨RX10, "isWhole", "(I)Z"⟩
abbrev cX10_wholes : ByteArray := prog_12_method_11_code
def yX10_wholes : MethodName := ⟨RX10, "wholes", "()I"⟩
abbrev cX10_works : ByteArray := prog_12_method_12_code
def yX10_works : MethodName := ⟨RX10, "works", "(I)I"⟩
abbrev cX10_highAt : ByteArray := prog_12_method_13_code
def yX10_highAt : MethodName := ⟨RX10, "highAt", "(II)I"⟩
abbrev cX10_rock : ByteArray := prog_12_method_14_code
def yX10_rock : MethodName := ⟨RX10, "rock", "(II)I"⟩
abbrev cX10_let : ByteArray := prog_12_method_15_code
def yX10_let : MethodName := ⟨RX10, "let", "(II)I"⟩
abbrev cX10_addFine : ByteArray := prog_12_method_16_code
def yX10_addFine : MethodName := ⟨RX10, "addFine", "(IIII)V"⟩
abbrev cX10_fine : ByteArray := prog_12_method_17_code
def yX10_fine : MethodName := ⟨RX10, "fine", "(III)I"⟩
abbrev cX10_cutBy : ByteArray := prog_12_method_18_code
def yX10_cutBy : MethodName := ⟨RX10, "cutBy", "(I)I"⟩
abbrev cX10_of : ByteArray := prog_12_method_19_code
def yX10_of : MethodName := ⟨RX10, "of", "(II)I"⟩
abbrev cX10_isPart : ByteArray := prog_12_method_20_code
def yX10_isPart : MethodName := ⟨RX10, "isPart", "(II)Z"⟩
abbrev cX10_set : ByteArray := prog_12_method_21_code
def yX10_set : MethodName := ⟨RX10, "set", "(III)I"⟩
abbrev cX10_turn : ByteArray := prog_12_method_22_code
def yX10_turn : MethodName := ⟨RX10, "turn", "(II)I"⟩
abbrev cX10_isUnder : ByteArray := prog_12_method_23_code
def yX10_isUnder : MethodName := ⟨RX10, "isUnder", "(II)Z"⟩
abbrev cX10_as : ByteArray := prog_12_method_24_code
def yX10_as : MethodName := ⟨RX10, "as", "(II)I"⟩
abbrev cX10_placeOf : ByteArray := prog_12_method_25_code
def yX10_placeOf : MethodName := ⟨RX10, "placeOf", "(II)I"⟩
abbrev cX10_wholeSet : ByteArray := prog_12_method_26_code
def yX10_wholeSet : MethodName := ⟨RX10, "wholeSet", "()J"⟩
abbrev cX10_whole : ByteArray := prog_12_method_27_code
def yX10_whole : MethodName := ⟨RX10, "whole", "()J"⟩
abbrev cX10_cuts : ByteArray := prog_12_method_28_code
def yX10_cuts : MethodName := ⟨RX10, "cuts", "(III)V"⟩
abbrev cX10_breaks : ByteArray := prog_12_method_29_code
def yX10_breaks : MethodName := ⟨RX10, "breaks", "(I)V"⟩
abbrev cX10_make : ByteArray := prog_12_method_30_code
def yX10_make : MethodName := ⟨RX10, "make", "(IZI)I"⟩
abbrev cX10_rises : ByteArray := prog_12_method_31_code
def yX10_rises : MethodName := ⟨RX10, "rises", "(I)I"⟩
abbrev cX10_meets : ByteArray := prog_12_method_32_code
def yX10_meets : MethodName := ⟨RX10, "meets", "(I)Z"⟩
abbrev cX10_reachNow : ByteArray := prog_12_method_33_code
def yX10_reachNow : MethodName := ⟨RX10, "reachNow", "()I"⟩
abbrev cX10_reach : ByteArray := prog_12_method_34_code
def yX10_reach : MethodName := ⟨RX10, "reach", "()I"⟩
abbrev cX10_areBoth : ByteArray := prog_12_method_35_code
def yX10_areBoth : MethodName := ⟨RX10, "areBoth", "(I)Z"⟩
abbrev cX10_faults : ByteArray := prog_12_method_36_code
def yX10_faults : MethodName := ⟨RX10, "faults", "()J"⟩
abbrev cX10_serves : ByteArray := prog_12_method_37_code
def yX10_serves : MethodName := ⟨RX10, "serves", "(I)V"⟩
abbrev cX10_freezes : ByteArray := prog_12_method_38_code
def yX10_freezes : MethodName := ⟨RX10, "freezes", "()V"⟩
abbrev cX10_yearGoes : ByteArray := prog_12_method_39_code
def yX10_yearGoes : MethodName := ⟨RX10, "yearGoes", "()V"⟩
abbrev cX10_go : ByteArray := prog_12_method_40_code
def yX10_go : MethodName := ⟨RX10, "go", "(I)V"⟩
abbrev cX10_isLate : ByteArray := prog_12_method_41_code
def yX10_isLate : MethodName := ⟨RX10, "isLate", "(I)Z"⟩
abbrev cX10_years : ByteArray := prog_12_method_42_code
def yX10_years : MethodName := ⟨RX10, "years", "(I)I"⟩
abbrev cX10_seed : ByteArray := prog_12_method_43_code
def yX10_seed : MethodName := ⟨RX10, "seed", "(I)I"⟩
abbrev cX10_now : ByteArray := prog_12_method_44_code
def yX10_now : MethodName := ⟨RX10, "now", "(I)I"⟩
abbrev cX10_lends : ByteArray := prog_12_method_45_code
def yX10_lends : MethodName := ⟨RX10, "lends", "()V"⟩
abbrev cX10_isLong : ByteArray := prog_12_method_46_code
def yX10_isLong : MethodName := ⟨RX10, "isLong", "(I)Z"⟩
abbrev cX10_on : ByteArray := prog_12_method_47_code
def yX10_on : MethodName := ⟨RX10, "on", "(I)J"⟩
abbrev cX10_reachOn : ByteArray := prog_12_method_48_code
def yX10_reachOn : MethodName := ⟨RX10, "reachOn", "(I)I"⟩
abbrev cX10_pass : ByteArray := prog_12_method_49_code
def yX10_pass : MethodName := ⟨RX10, "pass", "()I"⟩
abbrev cX10_paid : ByteArray := prog_12_method_50_code
def yX10_paid : MethodName := ⟨RX10, "paid", "(I)I"⟩
abbrev cX10_farthest : ByteArray := prog_12_method_51_code
def yX10_farthest : MethodName := ⟨RX10, "farthest", "(I)I"⟩
abbrev cX10_isSoon : ByteArray := prog_12_method_52_code
def yX10_isSoon : MethodName := ⟨RX10, "isSoon", "(I)Z"⟩
abbrev cX10_reachThen : ByteArray := prog_12_method_53_code
def yX10_reachThen : MethodName := ⟨RX10, "reachThen", "(I)I"⟩
abbrev cX10_best : ByteArray := prog_12_method_54_code
def yX10_best : MethodName := ⟨RX10, "best", "(II)I"⟩
abbrev cX10_kind : ByteArray := prog_12_method_55_code
def yX10_kind : MethodName := ⟨RX10, "kind", "(II)I"⟩
abbrev cX10_mend : ByteArray := prog_12_method_56_code
def yX10_mend : MethodName := ⟨RX10, "mend", "()I"⟩
abbrev cX10_needed : ByteArray := prog_12_method_57_code
def yX10_needed : MethodName := ⟨RX10, "needed", "(I)I"⟩
abbrev cX10_steepest : ByteArray := prog_12_method_58_code
def yX10_steepest : MethodName := ⟨RX10, "steepest", "()I"⟩
abbrev cX10_whose : ByteArray := prog_12_method_59_code
def yX10_whose : MethodName := ⟨RX10, "whose", "(II)I"⟩
abbrev cX10_bears : ByteArray := prog_12_method_60_code
def yX10_bears : MethodName := ⟨RX10, "bears", "(I)I"⟩
abbrev cX10_meetsFor : ByteArray := prog_12_method_61_code
def yX10_meetsFor : MethodName := ⟨RX10, "meetsFor", "(I)I"⟩
abbrev cX10_alone : ByteArray := prog_12_method_62_code
def yX10_alone : MethodName := ⟨RX10, "alone", "(I)I"⟩
abbrev cX10_feed : ByteArray := prog_12_method_63_code
def yX10_feed : MethodName := ⟨RX10, "feed", "(II)I"⟩
abbrev cX10_wipe : ByteArray := prog_12_method_64_code
def yX10_wipe : MethodName := ⟨RX10, "wipe", "()I"⟩
abbrev cX10_byteAt : ByteArray := prog_12_method_65_code
def yX10_byteAt : MethodName := ⟨RX10, "byteAt", "(I)I"⟩
abbrev cX10_isLetter : ByteArray := prog_12_method_66_code
def yX10_isLetter : MethodName := ⟨RX10, "isLetter", "(I)Z"⟩
abbrev cX10_isDigit : ByteArray := prog_12_method_67_code
def yX10_isDigit : MethodName := ⟨RX10, "isDigit", "(I)Z"⟩
abbrev cX10_advance : ByteArray := prog_12_method_68_code
def yX10_advance : MethodName := ⟨RX10, "advance", "()V"⟩
abbrev cX10_isWord : ByteArray := prog_12_method_69_code
def yX10_isWord : MethodName := ⟨RX10, "isWord", "(J)Z"⟩
abbrev cX10_kindHere : ByteArray := prog_12_method_70_code
def yX10_kindHere : MethodName := ⟨RX10, "kindHere", "()I"⟩
abbrev cX10_wantNumber : ByteArray := prog_12_method_71_code
def yX10_wantNumber : MethodName := ⟨RX10, "wantNumber", "(II)I"⟩
abbrev cX10_mayWant : ByteArray := prog_12_method_72_code
def yX10_mayWant : MethodName := ⟨RX10, "mayWant", "(JIII)I"⟩
abbrev cX10_wantWord : ByteArray := prog_12_method_73_code
def yX10_wantWord : MethodName := ⟨RX10, "wantWord", "(J)V"⟩
abbrev cX10_wantFine : ByteArray := prog_12_method_74_code
def yX10_wantFine : MethodName := ⟨RX10, "wantFine", "(I)V"⟩
abbrev cX10_wantRock : ByteArray := prog_12_method_75_code
def yX10_wantRock : MethodName := ⟨RX10, "wantRock", "()V"⟩
abbrev cX10_wantLet : ByteArray := prog_12_method_76_code
def yX10_wantLet : MethodName := ⟨RX10, "wantLet", "(II)V"⟩
abbrev cX10_wantItem : ByteArray := prog_12_method_77_code
def yX10_wantItem : MethodName := ⟨RX10, "wantItem", "()V"⟩
abbrev cX10_court : ByteArray := prog_12_method_78_code
def yX10_court : MethodName := ⟨RX10, "court", "()I"⟩
abbrev cX10_isSheet : ByteArray := prog_12_method_79_code
def yX10_isSheet : MethodName := ⟨RX10, "isSheet", "(I)Z"⟩
abbrev cX10_narrow : ByteArray := prog_12_method_80_code
def yX10_narrow : MethodName := ⟨RX10, "narrow", "(IJ)J"⟩
abbrev cX10_sheet : ByteArray := prog_12_method_81_code
def yX10_sheet : MethodName := ⟨RX10, "sheet", "(III)I"⟩
abbrev cX10_write : ByteArray := prog_12_method_82_code
def yX10_write : MethodName := ⟨RX10, "write", "(IIJ)J"⟩
abbrev cX10_isPart_ : ByteArray := prog_12_method_83_code
def yX10_isPart_ : MethodName := ⟨RX10, "isPart", "(III)Z"⟩
abbrev cX10_copy : ByteArray := prog_12_method_84_code
def yX10_copy : MethodName := ⟨RX10, "copy", "(IIIII)I"⟩
abbrev cX10_lays : ByteArray := prog_12_method_85_code
def yX10_lays : MethodName := ⟨RX10, "lays", "(I)I"⟩
abbrev cX10_stair : ByteArray := prog_12_method_86_code
def yX10_stair : MethodName := ⟨RX10, "stair", "(II)I"⟩
abbrev cX10_read : ByteArray := prog_12_method_87_code
def yX10_read : MethodName := ⟨RX10, "read", "(I)I"⟩
abbrev cX10_moveAll : ByteArray := prog_12_method_88_code
def yX10_moveAll : MethodName := ⟨RX10, "moveAll", "(Z[I)V"⟩
abbrev cX10_image : ByteArray := prog_12_method_89_code
def yX10_image : MethodName := ⟨RX10, "image", "()I"⟩
abbrev cX10_undo : ByteArray := prog_12_method_90_code
def yX10_undo : MethodName := ⟨RX10, "undo", "()I"⟩
abbrev cX10_tear : ByteArray := prog_12_method_91_code
def yX10_tear : MethodName := ⟨RX10, "tear", "()I"⟩
abbrev cX10_count : ByteArray := prog_12_method_92_code
def yX10_count : MethodName := ⟨RX10, "count", "(I)I"⟩
abbrev cX10_status : ByteArray := prog_12_method_93_code
def yX10_status : MethodName := ⟨RX10, "status", "(I)I"⟩
def RJx145de : String := "java/io/Serializable"
def TJx145de : u_T := fun k => match k with
  | _ => ("", "", "", false)
def tyJx145de : Nat → FieldType := fun k => match k with
  | _ => .int
abbrev wsJx145de0 : List Cond := u_ws RJx145de TJx145de 0
theorem nmJx145de : ∀ a, a < 0 → ∀ b, b < 0 → a ≠ b → (TJx145de a).2.1 ≠ (TJx145de b).2.1 := by decide +kernel
theorem tyJx145de_ok : ∀ k, k < 0 → parseFieldDescriptor (TJx145de k).2.2.1 = some (tyJx145de k) := by decide +kernel
def RJx9f9b0 : String := "java/lang/CharSequence"
def TJx9f9b0 : u_T := fun k => match k with
  | _ => ("", "", "", false)
def tyJx9f9b0 : Nat → FieldType := fun k => match k with
  | _ => .int
abbrev wsJx9f9b00 : List Cond := u_ws RJx9f9b0 TJx9f9b0 0
theorem nmJx9f9b0 : ∀ a, a < 0 → ∀ b, b < 0 → a ≠ b → (TJx9f9b0 a).2.1 ≠ (TJx9f9b0 b).2.1 := by decide +kernel
theorem tyJx9f9b0_ok : ∀ k, k < 0 → parseFieldDescriptor (TJx9f9b0 k).2.2.1 = some (tyJx9f9b0 k) := by decide +kernel
def RJxb160c : String := "java/lang/Comparable"
def TJxb160c : u_T := fun k => match k with
  | _ => ("", "", "", false)
def tyJxb160c : Nat → FieldType := fun k => match k with
  | _ => .int
abbrev wsJxb160c0 : List Cond := u_ws RJxb160c TJxb160c 0
theorem nmJxb160c : ∀ a, a < 0 → ∀ b, b < 0 → a ≠ b → (TJxb160c a).2.1 ≠ (TJxb160c b).2.1 := by decide +kernel
theorem tyJxb160c_ok : ∀ k, k < 0 → parseFieldDescriptor (TJxb160c k).2.2.1 = some (tyJxb160c k) := by decide +kernel
def RJ13 : String := "java/lang/Long"
def TJ13 : u_T := fun k => match k with
  | _ => ("", "", "", false)
def tyJ13 : Nat → FieldType := fun k => match k with
  | _ => .int
abbrev wsJ130 : List Cond := u_ws RJ13 TJ13 0
theorem nmJ13 : ∀ a, a < 0 → ∀ b, b < 0 → a ≠ b → (TJ13 a).2.1 ≠ (TJ13 b).2.1 := by decide +kernel
theorem tyJ13_ok : ∀ k, k < 0 → parseFieldDescriptor (TJ13 k).2.2.1 = some (tyJ13 k) := by decide +kernel
abbrev cJ13_bitCount_95d88 : ByteArray := prog_13_method_50_code
def yJ13_bitCount_95d88 : MethodName := ⟨RJ13, "bitCount", "(J)I"⟩
def RJ9 : String := "java/lang/Math"
def TJ9 : u_T := fun k => match k with
  | _ => ("", "", "", false)
def tyJ9 : Nat → FieldType := fun k => match k with
  | _ => .int
abbrev wsJ90 : List Cond := u_ws RJ9 TJ9 0
theorem nmJ9 : ∀ a, a < 0 → ∀ b, b < 0 → a ≠ b → (TJ9 a).2.1 ≠ (TJ9 b).2.1 := by decide +kernel
theorem tyJ9_ok : ∀ k, k < 0 → parseFieldDescriptor (TJ9 k).2.2.1 = some (tyJ9 k) := by decide +kernel
abbrev cJ9_abs_0f7a4 : ByteArray := prog_14_method_59_code
def yJ9_abs_0f7a4 : MethodName := ⟨RJ9, "abs", "(I)I"⟩
abbrev cJ9_max_7cf53 : ByteArray := prog_14_method_65_code
def yJ9_max_7cf53 : MethodName := ⟨RJ9, "max", "(II)I"⟩
abbrev cJ9_min_7cf53 : ByteArray := prog_14_method_69_code
def yJ9_min_7cf53 : MethodName := ⟨RJ9, "min", "(II)I"⟩
def RJ0 : String := "java/lang/String"
def TJ0 : u_T := fun k => match k with
  | _ => ("", "", "", false)
def tyJ0 : Nat → FieldType := fun k => match k with
  | _ => .int
abbrev wsJ00 : List Cond := u_ws RJ0 TJ0 0
theorem nmJ0 : ∀ a, a < 0 → ∀ b, b < 0 → a ≠ b → (TJ0 a).2.1 ≠ (TJ0 b).2.1 := by decide +kernel
theorem tyJ0_ok : ∀ k, k < 0 → parseFieldDescriptor (TJ0 k).2.2.1 = some (tyJ0 k) := by decide +kernel
abbrev cJ0_length_8abf5 : ByteArray := prog_15_method_54_code
def yJ0_length_8abf5 : MethodName := ⟨RJ0, "length", "()I"⟩
abbrev cJ0_charAt_5068e : ByteArray := prog_15_method_56_code
def yJ0_charAt_5068e : MethodName := ⟨RJ0, "charAt", "(I)C"⟩
abbrev cJ0_coder_7d493 : ByteArray := prog_15_method_152_code
def yJ0_coder_7d493 : MethodName := ⟨RJ0, "coder", "()B"⟩
abbrev cJ0_isLatin1_aae02 : ByteArray := prog_15_method_154_code
def yJ0_isLatin1_aae02 : MethodName := ⟨RJ0, "isLatin1", "()Z"⟩
abbrev cJ0_checkIndex_df160 : ByteArray := prog_15_method_155_code
def yJ0_checkIndex_df160 : MethodName := ⟨RJ0, "checkIndex", "(II)V"⟩
def RJ1 : String := "java/lang/StringLatin1"
def TJ1 : u_T := fun k => match k with
  | _ => ("", "", "", false)
def tyJ1 : Nat → FieldType := fun k => match k with
  | _ => .int
abbrev wsJ10 : List Cond := u_ws RJ1 TJ1 0
theorem nmJ1 : ∀ a, a < 0 → ∀ b, b < 0 → a ≠ b → (TJ1 a).2.1 ≠ (TJ1 b).2.1 := by decide +kernel
theorem tyJ1_ok : ∀ k, k < 0 → parseFieldDescriptor (TJ1 k).2.2.1 = some (tyJ1 k) := by decide +kernel
abbrev cJ1_charAt_3b067 : ByteArray := prog_16_method_2_code
def yJ1_charAt_3b067 : MethodName := ⟨RJ1, "charAt", "([BI)C"⟩
def RJ2 : String := "java/lang/StringUTF16"
def TJ2 : u_T := fun k => match k with
  | _ => ("", "", "", false)
def tyJ2 : Nat → FieldType := fun k => match k with
  | _ => .int
abbrev wsJ20 : List Cond := u_ws RJ2 TJ2 0
theorem nmJ2 : ∀ a, a < 0 → ∀ b, b < 0 → a ≠ b → (TJ2 a).2.1 ≠ (TJ2 b).2.1 := by decide +kernel
theorem tyJ2_ok : ∀ k, k < 0 → parseFieldDescriptor (TJ2 k).2.2.1 = some (tyJ2 k) := by decide +kernel
abbrev cJ2_getChar_3b067 : ByteArray := prog_17_method_5_code
def yJ2_getChar_3b067 : MethodName := ⟨RJ2, "getChar", "([BI)C"⟩
abbrev cJ2_length_9d52b : ByteArray := prog_17_method_6_code
def yJ2_length_9d52b : MethodName := ⟨RJ2, "length", "([B)I"⟩
abbrev cJ2_charAt_3b067 : ByteArray := prog_17_method_83_code
def yJ2_charAt_3b067 : MethodName := ⟨RJ2, "charAt", "([BI)C"⟩
abbrev cJ2_checkIndex_2214a : ByteArray := prog_17_method_91_code
def yJ2_checkIndex_2214a : MethodName := ⟨RJ2, "checkIndex", "(I[B)V"⟩
def RJ10 : String := "java/lang/System"
def TJ10 : u_T := fun k => match k with
  | _ => ("", "", "", false)
def tyJ10 : Nat → FieldType := fun k => match k with
  | _ => .int
abbrev wsJ100 : List Cond := u_ws RJ10 TJ10 0
theorem nmJ10 : ∀ a, a < 0 → ∀ b, b < 0 → a ≠ b → (TJ10 a).2.1 ≠ (TJ10 b).2.1 := by decide +kernel
theorem tyJ10_ok : ∀ k, k < 0 → parseFieldDescriptor (TJ10 k).2.2.1 = some (tyJ10 k) := by decide +kernel
def RJxfd54e : String := "java/lang/constant/Constable"
def TJxfd54e : u_T := fun k => match k with
  | _ => ("", "", "", false)
def tyJxfd54e : Nat → FieldType := fun k => match k with
  | _ => .int
abbrev wsJxfd54e0 : List Cond := u_ws RJxfd54e TJxfd54e 0
theorem nmJxfd54e : ∀ a, a < 0 → ∀ b, b < 0 → a ≠ b → (TJxfd54e a).2.1 ≠ (TJxfd54e b).2.1 := by decide +kernel
theorem tyJxfd54e_ok : ∀ k, k < 0 → parseFieldDescriptor (TJxfd54e k).2.2.1 = some (tyJxfd54e k) := by decide +kernel
def RJx3cf43 : String := "java/lang/constant/ConstantDesc"
def TJx3cf43 : u_T := fun k => match k with
  | _ => ("", "", "", false)
def tyJx3cf43 : Nat → FieldType := fun k => match k with
  | _ => .int
abbrev wsJx3cf430 : List Cond := u_ws RJx3cf43 TJx3cf43 0
theorem nmJx3cf43 : ∀ a, a < 0 → ∀ b, b < 0 → a ≠ b → (TJx3cf43 a).2.1 ≠ (TJx3cf43 b).2.1 := by decide +kernel
theorem tyJx3cf43_ok : ∀ k, k < 0 → parseFieldDescriptor (TJx3cf43 k).2.2.1 = some (tyJx3cf43 k) := by decide +kernel
def RJ7 : String := "java/util/Arrays"
def TJ7 : u_T := fun k => match k with
  | _ => ("", "", "", false)
def tyJ7 : Nat → FieldType := fun k => match k with
  | _ => .int
abbrev wsJ70 : List Cond := u_ws RJ7 TJ7 0
theorem nmJ7 : ∀ a, a < 0 → ∀ b, b < 0 → a ≠ b → (TJ7 a).2.1 ≠ (TJ7 b).2.1 := by decide +kernel
theorem tyJ7_ok : ∀ k, k < 0 → parseFieldDescriptor (TJ7 k).2.2.1 = some (tyJ7 k) := by decide +kernel
abbrev cJ7_fill_d0a16 : ByteArray := prog_19_method_101_code
def yJ7_fill_d0a16 : MethodName := ⟨RJ7, "fill", "([JJ)V"⟩
abbrev cJ7_fill_53178 : ByteArray := prog_19_method_103_code
def yJ7_fill_53178 : MethodName := ⟨RJ7, "fill", "([II)V"⟩
def RJ3 : String := "jdk/internal/util/Preconditions"
def TJ3 : u_T := fun k => match k with
  | _ => ("", "", "", false)
def tyJ3 : Nat → FieldType := fun k => match k with
  | _ => .int
abbrev wsJ30 : List Cond := u_ws RJ3 TJ3 0
theorem nmJ3 : ∀ a, a < 0 → ∀ b, b < 0 → a ≠ b → (TJ3 a).2.1 ≠ (TJ3 b).2.1 := by decide +kernel
theorem tyJ3_ok : ∀ k, k < 0 → parseFieldDescriptor (TJ3 k).2.2.1 = some (tyJ3 k) := by decide +kernel
abbrev cJ3_checkIndex_8e157 : ByteArray := prog_20_method_11_code
def yJ3_checkIndex_8e157 : MethodName := ⟨RJ3, "checkIndex", "(IILjava/util/function/BiFunction;)I"⟩
def RL : String := "StairFinesLaw"
abbrev cL_law : ByteArray := code
def yL_law : MethodName := ⟨RL, "law", "([I)Z"⟩
abbrev vwCl : List vw_C := [(RX0, TX0, 0), (RX1, TX1, 0), (RX2, TX2, 0), (RX3, TX3, 0), (RX4, TX4, 16), (RX5, TX5, 0), (RX6, TX6, 0), (RX7, TX7, 3), (RX8, TX8, 8), (RX9, TX9, 7), (RX10, TX10, 18)]
end
section
theorem dX0_init_0 : decode cX0_init 0 = .ok (.aload_n 0, 1) := by decide +kernel
theorem dX0_init_1 : decode cX0_init 1 = .ok (.invokespecial 1, 3) := by decide +kernel
theorem dX0_init_4 : decode cX0_init 4 = .ok (.return_, 1) := by decide +kernel
theorem dX0_name_0 : decode cX0_name 0 = .ok (.ldc 7, 2) := by decide +kernel
theorem dX0_name_2 : decode cX0_name 2 = .ok (.areturn, 1) := by decide +kernel
theorem dX0_cutsHigh_0 : decode cX0_cutsHigh 0 = .ok (.aload_n 0, 1) := by decide +kernel
theorem dX0_cutsHigh_1 : decode cX0_cutsHigh 1 = .ok (.iload_n 1, 1) := by decide +kernel
theorem dX0_cutsHigh_2 : decode cX0_cutsHigh 2 = .ok (.invokespecial 9, 3) := by decide +kernel
theorem dX0_cutsHigh_5 : decode cX0_cutsHigh 5 = .ok (.iconst 2, 1) := by decide +kernel
theorem dX0_cutsHigh_6 : decode cX0_cutsHigh 6 = .ok (.isub, 1) := by decide +kernel
theorem dX0_cutsHigh_7 : decode cX0_cutsHigh 7 = .ok (.ireturn, 1) := by decide +kernel
theorem dX1_init_0 : decode cX1_init 0 = .ok (.aload_n 0, 1) := by decide +kernel
theorem dX1_init_1 : decode cX1_init 1 = .ok (.invokespecial 1, 3) := by decide +kernel
theorem dX1_init_4 : decode cX1_init 4 = .ok (.return_, 1) := by decide +kernel
theorem dX1_name_0 : decode cX1_name 0 = .ok (.ldc 7, 2) := by decide +kernel
theorem dX1_name_2 : decode cX1_name 2 = .ok (.areturn, 1) := by decide +kernel
theorem dX1_works_0 : decode cX1_works 0 = .ok (.aload_n 0, 1) := by decide +kernel
theorem dX1_works_1 : decode cX1_works 1 = .ok (.iload_n 1, 1) := by decide +kernel
theorem dX1_works_2 : decode cX1_works 2 = .ok (.iload_n 2, 1) := by decide +kernel
theorem dX1_works_3 : decode cX1_works 3 = .ok (.invokespecial 9, 3) := by decide +kernel
theorem dX1_works_6 : decode cX1_works 6 = .ok (.iconst 2, 1) := by decide +kernel
theorem dX1_works_7 : decode cX1_works 7 = .ok (.idiv, 1) := by decide +kernel
theorem dX1_works_8 : decode cX1_works 8 = .ok (.ireturn, 1) := by decide +kernel
theorem dX1_cutsHigh_0 : decode cX1_cutsHigh 0 = .ok (.aload_n 0, 1) := by decide +kernel
theorem dX1_cutsHigh_1 : decode cX1_cutsHigh 1 = .ok (.iload_n 1, 1) := by decide +kernel
theorem dX1_cutsHigh_2 : decode cX1_cutsHigh 2 = .ok (.invokespecial 13, 3) := by decide +kernel
theorem dX1_cutsHigh_5 : decode cX1_cutsHigh 5 = .ok (.iconst 3, 1) := by decide +kernel
theorem dX1_cutsHigh_6 : decode cX1_cutsHigh 6 = .ok (.iadd, 1) := by decide +kernel
theorem dX1_cutsHigh_7 : decode cX1_cutsHigh 7 = .ok (.ireturn, 1) := by decide +kernel
theorem dX1_counts_0 : decode cX1_counts 0 = .ok (.iconst 2, 1) := by decide +kernel
theorem dX1_counts_1 : decode cX1_counts 1 = .ok (.ireturn, 1) := by decide +kernel
theorem dX2_init_0 : decode cX2_init 0 = .ok (.aload_n 0, 1) := by decide +kernel
theorem dX2_init_1 : decode cX2_init 1 = .ok (.invokespecial 1, 3) := by decide +kernel
theorem dX2_init_4 : decode cX2_init 4 = .ok (.return_, 1) := by decide +kernel
theorem dX2_name_0 : decode cX2_name 0 = .ok (.ldc 7, 2) := by decide +kernel
theorem dX2_name_2 : decode cX2_name 2 = .ok (.areturn, 1) := by decide +kernel
theorem dX2_works_0 : decode cX2_works 0 = .ok (.aload_n 0, 1) := by decide +kernel
theorem dX2_works_1 : decode cX2_works 1 = .ok (.iload_n 1, 1) := by decide +kernel
theorem dX2_works_2 : decode cX2_works 2 = .ok (.iload_n 2, 1) := by decide +kernel
theorem dX2_works_3 : decode cX2_works 3 = .ok (.invokespecial 9, 3) := by decide +kernel
theorem dX2_works_6 : decode cX2_works 6 = .ok (.iconst 2, 1) := by decide +kernel
theorem dX2_works_7 : decode cX2_works 7 = .ok (.iadd, 1) := by decide +kernel
theorem dX2_works_8 : decode cX2_works 8 = .ok (.ireturn, 1) := by decide +kernel
theorem dX2_cutsHigh_0 : decode cX2_cutsHigh 0 = .ok (.aload_n 0, 1) := by decide +kernel
theorem dX2_cutsHigh_1 : decode cX2_cutsHigh 1 = .ok (.iload_n 1, 1) := by decide +kernel
theorem dX2_cutsHigh_2 : decode cX2_cutsHigh 2 = .ok (.invokespecial 13, 3) := by decide +kernel
theorem dX2_cutsHigh_5 : decode cX2_cutsHigh 5 = .ok (.iconst 5, 1) := by decide +kernel
theorem dX2_cutsHigh_6 : decode cX2_cutsHigh 6 = .ok (.iadd, 1) := by decide +kernel
theorem dX2_cutsHigh_7 : decode cX2_cutsHigh 7 = .ok (.ireturn, 1) := by decide +kernel
theorem dX3_init_0 : decode cX3_init 0 = .ok (.aload_n 0, 1) := by decide +kernel
theorem dX3_init_1 : decode cX3_init 1 = .ok (.invokespecial 1, 3) := by decide +kernel
theorem dX3_init_4 : decode cX3_init 4 = .ok (.return_, 1) := by decide +kernel
theorem dX3_name_0 : decode cX3_name 0 = .ok (.ldc 7, 2) := by decide +kernel
theorem dX3_name_2 : decode cX3_name 2 = .ok (.areturn, 1) := by decide +kernel
theorem dX3_works_0 : decode cX3_works 0 = .ok (.iload_n 1, 1) := by decide +kernel
theorem dX3_works_1 : decode cX3_works 1 = .ok (.ireturn, 1) := by decide +kernel
theorem dX3_cutsHigh_0 : decode cX3_cutsHigh 0 = .ok (.bipush 8, 2) := by decide +kernel
theorem dX3_cutsHigh_2 : decode cX3_cutsHigh 2 = .ok (.iload_n 1, 1) := by decide +kernel
theorem dX3_cutsHigh_3 : decode cX3_cutsHigh 3 = .ok (.iadd, 1) := by decide +kernel
theorem dX3_cutsHigh_4 : decode cX3_cutsHigh 4 = .ok (.ireturn, 1) := by decide +kernel
theorem dX3_counts_0 : decode cX3_counts 0 = .ok (.iconst 1, 1) := by decide +kernel
theorem dX3_counts_1 : decode cX3_counts 1 = .ok (.ireturn, 1) := by decide +kernel
theorem dX4_init_0 : decode cX4_init 0 = .ok (.aload_n 0, 1) := by decide +kernel
theorem dX4_init_1 : decode cX4_init 1 = .ok (.invokespecial 3, 3) := by decide +kernel
theorem dX4_init_4 : decode cX4_init 4 = .ok (.aload_n 0, 1) := by decide +kernel
theorem dX4_init_5 : decode cX4_init 5 = .ok (.bipush 40, 2) := by decide +kernel
theorem dX4_init_7 : decode cX4_init 7 = .ok (.newarray .int, 2) := by decide +kernel
theorem dX4_init_9 : decode cX4_init 9 = .ok (.putfield 9, 3) := by decide +kernel
theorem dX4_init_12 : decode cX4_init 12 = .ok (.aload_n 0, 1) := by decide +kernel
theorem dX4_init_13 : decode cX4_init 13 = .ok (.bipush 40, 2) := by decide +kernel
theorem dX4_init_15 : decode cX4_init 15 = .ok (.newarray .int, 2) := by decide +kernel
theorem dX4_init_17 : decode cX4_init 17 = .ok (.putfield 15, 3) := by decide +kernel
theorem dX4_init_20 : decode cX4_init 20 = .ok (.aload_n 0, 1) := by decide +kernel
theorem dX4_init_21 : decode cX4_init 21 = .ok (.bipush 40, 2) := by decide +kernel
theorem dX4_init_23 : decode cX4_init 23 = .ok (.newarray .int, 2) := by decide +kernel
theorem dX4_init_25 : decode cX4_init 25 = .ok (.putfield 18, 3) := by decide +kernel
theorem dX4_init_28 : decode cX4_init 28 = .ok (.aload_n 0, 1) := by decide +kernel
theorem dX4_init_29 : decode cX4_init 29 = .ok (.bipush 40, 2) := by decide +kernel
theorem dX4_init_31 : decode cX4_init 31 = .ok (.newarray .int, 2) := by decide +kernel
theorem dX4_init_33 : decode cX4_init 33 = .ok (.putfield 21, 3) := by decide +kernel
theorem dX4_init_36 : decode cX4_init 36 = .ok (.aload_n 0, 1) := by decide +kernel
theorem dX4_init_37 : decode cX4_init 37 = .ok (.iconst 4, 1) := by decide +kernel
theorem dX4_init_38 : decode cX4_init 38 = .ok (.putfield 24, 3) := by decide +kernel
theorem dX4_init_41 : decode cX4_init 41 = .ok (.aload_n 0, 1) := by decide +kernel
theorem dX4_init_42 : decode cX4_init 42 = .ok (.iconst 1, 1) := by decide +kernel
theorem dX4_init_43 : decode cX4_init 43 = .ok (.putfield 28, 3) := by decide +kernel
theorem dX4_init_46 : decode cX4_init 46 = .ok (.aload_n 0, 1) := by decide +kernel
theorem dX4_init_47 : decode cX4_init 47 = .ok (.bipush 10, 2) := by decide +kernel
theorem dX4_init_49 : decode cX4_init 49 = .ok (.newarray .int, 2) := by decide +kernel
theorem dX4_init_51 : decode cX4_init 51 = .ok (.putfield 31, 3) := by decide +kernel
theorem dX4_init_54 : decode cX4_init 54 = .ok (.aload_n 0, 1) := by decide +kernel
theorem dX4_init_55 : decode cX4_init 55 = .ok (.bipush 10, 2) := by decide +kernel
theorem dX4_init_57 : decode cX4_init 57 = .ok (.newarray .int, 2) := by decide +kernel
theorem dX4_init_59 : decode cX4_init 59 = .ok (.putfield 34, 3) := by decide +kernel
theorem dX4_init_62 : decode cX4_init 62 = .ok (.aload_n 0, 1) := by decide +kernel
theorem dX4_init_63 : decode cX4_init 63 = .ok (.bipush 10, 2) := by decide +kernel
theorem dX4_init_65 : decode cX4_init 65 = .ok (.newarray .int, 2) := by decide +kernel
theorem dX4_init_67 : decode cX4_init 67 = .ok (.putfield 37, 3) := by decide +kernel
theorem dX4_init_70 : decode cX4_init 70 = .ok (.aload_n 0, 1) := by decide +kernel
theorem dX4_init_71 : decode cX4_init 71 = .ok (.bipush 10, 2) := by decide +kernel
theorem dX4_init_73 : decode cX4_init 73 = .ok (.newarray .int, 2) := by decide +kernel
theorem dX4_init_75 : decode cX4_init 75 = .ok (.putfield 40, 3) := by decide +kernel
theorem dX4_init_78 : decode cX4_init 78 = .ok (.aload_n 0, 1) := by decide +kernel
theorem dX4_init_79 : decode cX4_init 79 = .ok (.bipush 10, 2) := by decide +kernel
theorem dX4_init_81 : decode cX4_init 81 = .ok (.newarray .int, 2) := by decide +kernel
theorem dX4_init_83 : decode cX4_init 83 = .ok (.putfield 43, 3) := by decide +kernel
theorem dX4_init_86 : decode cX4_init 86 = .ok (.aload_n 0, 1) := by decide +kernel
theorem dX4_init_87 : decode cX4_init 87 = .ok (.aload_n 1, 1) := by decide +kernel
theorem dX4_init_88 : decode cX4_init 88 = .ok (.putfield 46, 3) := by decide +kernel
theorem dX4_init_91 : decode cX4_init 91 = .ok (.aload_n 0, 1) := by decide +kernel
theorem dX4_init_92 : decode cX4_init 92 = .ok (.getfield 9, 3) := by decide +kernel
theorem dX4_init_95 : decode cX4_init 95 = .ok (.iconst 3, 1) := by decide +kernel
theorem dX4_init_96 : decode cX4_init 96 = .ok (.invokestatic 50, 3) := by decide +kernel
theorem dX4_init_99 : decode cX4_init 99 = .ok (.return_, 1) := by decide +kernel
theorem dX4_become_0 : decode cX4_become 0 = .ok (.aload_n 1, 1) := by decide +kernel
theorem dX4_become_1 : decode cX4_become 1 = .ok (.getfield 9, 3) := by decide +kernel
theorem dX4_become_4 : decode cX4_become 4 = .ok (.iconst 0, 1) := by decide +kernel
theorem dX4_become_5 : decode cX4_become 5 = .ok (.aload_n 0, 1) := by decide +kernel
theorem dX4_become_6 : decode cX4_become 6 = .ok (.getfield 9, 3) := by decide +kernel
theorem dX4_become_9 : decode cX4_become 9 = .ok (.iconst 0, 1) := by decide +kernel
theorem dX4_become_10 : decode cX4_become 10 = .ok (.bipush 40, 2) := by decide +kernel
theorem dX4_become_12 : decode cX4_become 12 = .ok (.invokestatic 56, 3) := by decide +kernel
theorem dX4_become_15 : decode cX4_become 15 = .ok (.aload_n 1, 1) := by decide +kernel
theorem dX4_become_16 : decode cX4_become 16 = .ok (.getfield 15, 3) := by decide +kernel
theorem dX4_become_19 : decode cX4_become 19 = .ok (.iconst 0, 1) := by decide +kernel
theorem dX4_become_20 : decode cX4_become 20 = .ok (.aload_n 0, 1) := by decide +kernel
theorem dX4_become_21 : decode cX4_become 21 = .ok (.getfield 15, 3) := by decide +kernel
theorem dX4_become_24 : decode cX4_become 24 = .ok (.iconst 0, 1) := by decide +kernel
theorem dX4_become_25 : decode cX4_become 25 = .ok (.bipush 40, 2) := by decide +kernel
theorem dX4_become_27 : decode cX4_become 27 = .ok (.invokestatic 56, 3) := by decide +kernel
theorem dX4_become_30 : decode cX4_become 30 = .ok (.aload_n 1, 1) := by decide +kernel
theorem dX4_become_31 : decode cX4_become 31 = .ok (.getfield 18, 3) := by decide +kernel
theorem dX4_become_34 : decode cX4_become 34 = .ok (.iconst 0, 1) := by decide +kernel
theorem dX4_become_35 : decode cX4_become 35 = .ok (.aload_n 0, 1) := by decide +kernel
theorem dX4_become_36 : decode cX4_become 36 = .ok (.getfield 18, 3) := by decide +kernel
theorem dX4_become_39 : decode cX4_become 39 = .ok (.iconst 0, 1) := by decide +kernel
theorem dX4_become_40 : decode cX4_become 40 = .ok (.bipush 40, 2) := by decide +kernel
theorem dX4_become_42 : decode cX4_become 42 = .ok (.invokestatic 56, 3) := by decide +kernel
theorem dX4_become_45 : decode cX4_become 45 = .ok (.aload_n 1, 1) := by decide +kernel
theorem dX4_become_46 : decode cX4_become 46 = .ok (.getfield 21, 3) := by decide +kernel
theorem dX4_become_49 : decode cX4_become 49 = .ok (.iconst 0, 1) := by decide +kernel
theorem dX4_become_50 : decode cX4_become 50 = .ok (.aload_n 0, 1) := by decide +kernel
theorem dX4_become_51 : decode cX4_become 51 = .ok (.getfield 21, 3) := by decide +kernel
theorem dX4_become_54 : decode cX4_become 54 = .ok (.iconst 0, 1) := by decide +kernel
theorem dX4_become_55 : decode cX4_become 55 = .ok (.bipush 40, 2) := by decide +kernel
theorem dX4_become_57 : decode cX4_become 57 = .ok (.invokestatic 56, 3) := by decide +kernel
theorem dX4_become_60 : decode cX4_become 60 = .ok (.aload_n 0, 1) := by decide +kernel
theorem dX4_become_61 : decode cX4_become 61 = .ok (.aload_n 1, 1) := by decide +kernel
theorem dX4_become_62 : decode cX4_become 62 = .ok (.getfield 62, 3) := by decide +kernel
theorem dX4_become_65 : decode cX4_become 65 = .ok (.putfield 62, 3) := by decide +kernel
theorem dX4_become_68 : decode cX4_become 68 = .ok (.aload_n 0, 1) := by decide +kernel
theorem dX4_become_69 : decode cX4_become 69 = .ok (.aload_n 1, 1) := by decide +kernel
theorem dX4_become_70 : decode cX4_become 70 = .ok (.getfield 66, 3) := by decide +kernel
theorem dX4_become_73 : decode cX4_become 73 = .ok (.putfield 66, 3) := by decide +kernel
theorem dX4_become_76 : decode cX4_become 76 = .ok (.aload_n 0, 1) := by decide +kernel
theorem dX4_become_77 : decode cX4_become 77 = .ok (.aload_n 1, 1) := by decide +kernel
theorem dX4_become_78 : decode cX4_become 78 = .ok (.getfield 69, 3) := by decide +kernel
theorem dX4_become_81 : decode cX4_become 81 = .ok (.putfield 69, 3) := by decide +kernel
theorem dX4_become_84 : decode cX4_become 84 = .ok (.aload_n 0, 1) := by decide +kernel
theorem dX4_become_85 : decode cX4_become 85 = .ok (.aload_n 1, 1) := by decide +kernel
theorem dX4_become_86 : decode cX4_become 86 = .ok (.getfield 24, 3) := by decide +kernel
theorem dX4_become_89 : decode cX4_become 89 = .ok (.putfield 24, 3) := by decide +kernel
theorem dX4_become_92 : decode cX4_become 92 = .ok (.aload_n 0, 1) := by decide +kernel
theorem dX4_become_93 : decode cX4_become 93 = .ok (.aload_n 1, 1) := by decide +kernel
theorem dX4_become_94 : decode cX4_become 94 = .ok (.getfield 28, 3) := by decide +kernel
theorem dX4_become_97 : decode cX4_become 97 = .ok (.putfield 28, 3) := by decide +kernel
theorem dX4_become_100 : decode cX4_become 100 = .ok (.aload_n 0, 1) := by decide +kernel
theorem dX4_become_101 : decode cX4_become 101 = .ok (.aload_n 1, 1) := by decide +kernel
theorem dX4_become_102 : decode cX4_become 102 = .ok (.getfield 72, 3) := by decide +kernel
theorem dX4_become_105 : decode cX4_become 105 = .ok (.putfield 72, 3) := by decide +kernel
theorem dX4_become_108 : decode cX4_become 108 = .ok (.aload_n 1, 1) := by decide +kernel
theorem dX4_become_109 : decode cX4_become 109 = .ok (.getfield 31, 3) := by decide +kernel
theorem dX4_become_112 : decode cX4_become 112 = .ok (.iconst 0, 1) := by decide +kernel
theorem dX4_become_113 : decode cX4_become 113 = .ok (.aload_n 0, 1) := by decide +kernel
theorem dX4_become_114 : decode cX4_become 114 = .ok (.getfield 31, 3) := by decide +kernel
theorem dX4_become_117 : decode cX4_become 117 = .ok (.iconst 0, 1) := by decide +kernel
theorem dX4_become_118 : decode cX4_become 118 = .ok (.bipush 10, 2) := by decide +kernel
theorem dX4_become_120 : decode cX4_become 120 = .ok (.invokestatic 56, 3) := by decide +kernel
theorem dX4_become_123 : decode cX4_become 123 = .ok (.aload_n 1, 1) := by decide +kernel
theorem dX4_become_124 : decode cX4_become 124 = .ok (.getfield 34, 3) := by decide +kernel
theorem dX4_become_127 : decode cX4_become 127 = .ok (.iconst 0, 1) := by decide +kernel
theorem dX4_become_128 : decode cX4_become 128 = .ok (.aload_n 0, 1) := by decide +kernel
theorem dX4_become_129 : decode cX4_become 129 = .ok (.getfield 34, 3) := by decide +kernel
theorem dX4_become_132 : decode cX4_become 132 = .ok (.iconst 0, 1) := by decide +kernel
theorem dX4_become_133 : decode cX4_become 133 = .ok (.bipush 10, 2) := by decide +kernel
theorem dX4_become_135 : decode cX4_become 135 = .ok (.invokestatic 56, 3) := by decide +kernel
theorem dX4_become_138 : decode cX4_become 138 = .ok (.aload_n 1, 1) := by decide +kernel
theorem dX4_become_139 : decode cX4_become 139 = .ok (.getfield 37, 3) := by decide +kernel
theorem dX4_become_142 : decode cX4_become 142 = .ok (.iconst 0, 1) := by decide +kernel
theorem dX4_become_143 : decode cX4_become 143 = .ok (.aload_n 0, 1) := by decide +kernel
theorem dX4_become_144 : decode cX4_become 144 = .ok (.getfield 37, 3) := by decide +kernel
theorem dX4_become_147 : decode cX4_become 147 = .ok (.iconst 0, 1) := by decide +kernel
theorem dX4_become_148 : decode cX4_become 148 = .ok (.bipush 10, 2) := by decide +kernel
theorem dX4_become_150 : decode cX4_become 150 = .ok (.invokestatic 56, 3) := by decide +kernel
theorem dX4_become_153 : decode cX4_become 153 = .ok (.aload_n 1, 1) := by decide +kernel
theorem dX4_become_154 : decode cX4_become 154 = .ok (.getfield 40, 3) := by decide +kernel
theorem dX4_become_157 : decode cX4_become 157 = .ok (.iconst 0, 1) := by decide +kernel
theorem dX4_become_158 : decode cX4_become 158 = .ok (.aload_n 0, 1) := by decide +kernel
theorem dX4_become_159 : decode cX4_become 159 = .ok (.getfield 40, 3) := by decide +kernel
theorem dX4_become_162 : decode cX4_become 162 = .ok (.iconst 0, 1) := by decide +kernel
theorem dX4_become_163 : decode cX4_become 163 = .ok (.bipush 10, 2) := by decide +kernel
theorem dX4_become_165 : decode cX4_become 165 = .ok (.invokestatic 56, 3) := by decide +kernel
theorem dX4_become_168 : decode cX4_become 168 = .ok (.aload_n 1, 1) := by decide +kernel
theorem dX4_become_169 : decode cX4_become 169 = .ok (.getfield 43, 3) := by decide +kernel
theorem dX4_become_172 : decode cX4_become 172 = .ok (.iconst 0, 1) := by decide +kernel
theorem dX4_become_173 : decode cX4_become 173 = .ok (.aload_n 0, 1) := by decide +kernel
theorem dX4_become_174 : decode cX4_become 174 = .ok (.getfield 43, 3) := by decide +kernel
theorem dX4_become_177 : decode cX4_become 177 = .ok (.iconst 0, 1) := by decide +kernel
theorem dX4_become_178 : decode cX4_become 178 = .ok (.bipush 10, 2) := by decide +kernel
theorem dX4_become_180 : decode cX4_become 180 = .ok (.invokestatic 56, 3) := by decide +kernel
theorem dX4_become_183 : decode cX4_become 183 = .ok (.return_, 1) := by decide +kernel
theorem dX4_isFull_0 : decode cX4_isFull 0 = .ok (.aload_n 0, 1) := by decide +kernel
theorem dX4_isFull_1 : decode cX4_isFull 1 = .ok (.getfield 72, 3) := by decide +kernel
theorem dX4_isFull_4 : decode cX4_isFull 4 = .ok (.bipush 10, 2) := by decide +kernel
theorem dX4_isFull_6 : decode cX4_isFull 6 = .ok (.if_icmp .lt 7, 3) := by decide +kernel
theorem dX4_isFull_9 : decode cX4_isFull 9 = .ok (.iconst 1, 1) := by decide +kernel
theorem dX4_isFull_10 : decode cX4_isFull 10 = .ok (.goto 4, 3) := by decide +kernel
theorem dX4_isFull_13 : decode cX4_isFull 13 = .ok (.iconst 0, 1) := by decide +kernel
theorem dX4_isFull_14 : decode cX4_isFull 14 = .ok (.ireturn, 1) := by decide +kernel
theorem dX4_hasFine_0 : decode cX4_hasFine 0 = .ok (.iload_n 1, 1) := by decide +kernel
theorem dX4_hasFine_1 : decode cX4_hasFine 1 = .ok (.ifCond .lt 21, 3) := by decide +kernel
theorem dX4_hasFine_4 : decode cX4_hasFine 4 = .ok (.iload_n 1, 1) := by decide +kernel
theorem dX4_hasFine_5 : decode cX4_hasFine 5 = .ok (.aload_n 0, 1) := by decide +kernel
theorem dX4_hasFine_6 : decode cX4_hasFine 6 = .ok (.getfield 72, 3) := by decide +kernel
theorem dX4_hasFine_9 : decode cX4_hasFine 9 = .ok (.if_icmp .ge 13, 3) := by decide +kernel
theorem dX4_hasFine_12 : decode cX4_hasFine 12 = .ok (.iload_n 1, 1) := by decide +kernel
theorem dX4_hasFine_13 : decode cX4_hasFine 13 = .ok (.bipush 10, 2) := by decide +kernel
theorem dX4_hasFine_15 : decode cX4_hasFine 15 = .ok (.if_icmp .ge 7, 3) := by decide +kernel
theorem dX4_hasFine_18 : decode cX4_hasFine 18 = .ok (.iconst 1, 1) := by decide +kernel
theorem dX4_hasFine_19 : decode cX4_hasFine 19 = .ok (.goto 4, 3) := by decide +kernel
theorem dX4_hasFine_22 : decode cX4_hasFine 22 = .ok (.iconst 0, 1) := by decide +kernel
theorem dX4_hasFine_23 : decode cX4_hasFine 23 = .ok (.ireturn, 1) := by decide +kernel
theorem dX4_addFine_0 : decode cX4_addFine 0 = .ok (.aload_n 0, 1) := by decide +kernel
theorem dX4_addFine_1 : decode cX4_addFine 1 = .ok (.invokevirtual 75, 3) := by decide +kernel
theorem dX4_addFine_4 : decode cX4_addFine 4 = .ok (.ifCond .eq 4, 3) := by decide +kernel
theorem dX4_addFine_7 : decode cX4_addFine 7 = .ok (.return_, 1) := by decide +kernel
theorem dX4_addFine_8 : decode cX4_addFine 8 = .ok (.aload_n 0, 1) := by decide +kernel
theorem dX4_addFine_9 : decode cX4_addFine 9 = .ok (.getfield 31, 3) := by decide +kernel
theorem dX4_addFine_12 : decode cX4_addFine 12 = .ok (.aload_n 0, 1) := by decide +kernel
theorem dX4_addFine_13 : decode cX4_addFine 13 = .ok (.getfield 72, 3) := by decide +kernel
theorem dX4_addFine_16 : decode cX4_addFine 16 = .ok (.iload_n 1, 1) := by decide +kernel
theorem dX4_addFine_17 : decode cX4_addFine 17 = .ok (.iastore, 1) := by decide +kernel
theorem dX4_addFine_18 : decode cX4_addFine 18 = .ok (.aload_n 0, 1) := by decide +kernel
theorem dX4_addFine_19 : decode cX4_addFine 19 = .ok (.getfield 34, 3) := by decide +kernel
theorem dX4_addFine_22 : decode cX4_addFine 22 = .ok (.aload_n 0, 1) := by decide +kernel
theorem dX4_addFine_23 : decode cX4_addFine 23 = .ok (.getfield 72, 3) := by decide +kernel
theorem dX4_addFine_26 : decode cX4_addFine 26 = .ok (.iload_n 2, 1) := by decide +kernel
theorem dX4_addFine_27 : decode cX4_addFine 27 = .ok (.iastore, 1) := by decide +kernel
theorem dX4_addFine_28 : decode cX4_addFine 28 = .ok (.aload_n 0, 1) := by decide +kernel
theorem dX4_addFine_29 : decode cX4_addFine 29 = .ok (.getfield 37, 3) := by decide +kernel
theorem dX4_addFine_32 : decode cX4_addFine 32 = .ok (.aload_n 0, 1) := by decide +kernel
theorem dX4_addFine_33 : decode cX4_addFine 33 = .ok (.getfield 72, 3) := by decide +kernel
theorem dX4_addFine_36 : decode cX4_addFine 36 = .ok (.iload_n 3, 1) := by decide +kernel
theorem dX4_addFine_37 : decode cX4_addFine 37 = .ok (.iastore, 1) := by decide +kernel
theorem dX4_addFine_38 : decode cX4_addFine 38 = .ok (.aload_n 0, 1) := by decide +kernel
theorem dX4_addFine_39 : decode cX4_addFine 39 = .ok (.getfield 40, 3) := by decide +kernel
theorem dX4_addFine_42 : decode cX4_addFine 42 = .ok (.aload_n 0, 1) := by decide +kernel
theorem dX4_addFine_43 : decode cX4_addFine 43 = .ok (.getfield 72, 3) := by decide +kernel
theorem dX4_addFine_46 : decode cX4_addFine 46 = .ok (.iload 4, 2) := by decide +kernel
theorem dX4_addFine_48 : decode cX4_addFine 48 = .ok (.iastore, 1) := by decide +kernel
theorem dX4_addFine_49 : decode cX4_addFine 49 = .ok (.aload_n 0, 1) := by decide +kernel
theorem dX4_addFine_50 : decode cX4_addFine 50 = .ok (.getfield 43, 3) := by decide +kernel
theorem dX4_addFine_53 : decode cX4_addFine 53 = .ok (.aload_n 0, 1) := by decide +kernel
theorem dX4_addFine_54 : decode cX4_addFine 54 = .ok (.getfield 72, 3) := by decide +kernel
theorem dX4_addFine_57 : decode cX4_addFine 57 = .ok (.iconst 0, 1) := by decide +kernel
theorem dX4_addFine_58 : decode cX4_addFine 58 = .ok (.iastore, 1) := by decide +kernel
theorem dX4_addFine_59 : decode cX4_addFine 59 = .ok (.aload_n 0, 1) := by decide +kernel
theorem dX4_addFine_60 : decode cX4_addFine 60 = .ok (.dup, 1) := by decide +kernel
theorem dX4_addFine_61 : decode cX4_addFine 61 = .ok (.getfield 72, 3) := by decide +kernel
theorem dX4_addFine_64 : decode cX4_addFine 64 = .ok (.iconst 1, 1) := by decide +kernel
theorem dX4_addFine_65 : decode cX4_addFine 65 = .ok (.iadd, 1) := by decide +kernel
theorem dX4_addFine_66 : decode cX4_addFine 66 = .ok (.putfield 72, 3) := by decide +kernel
theorem dX4_addFine_69 : decode cX4_addFine 69 = .ok (.return_, 1) := by decide +kernel
theorem dX4_moveFine_0 : decode cX4_moveFine 0 = .ok (.aload_n 0, 1) := by decide +kernel
theorem dX4_moveFine_1 : decode cX4_moveFine 1 = .ok (.getfield 37, 3) := by decide +kernel
theorem dX4_moveFine_4 : decode cX4_moveFine 4 = .ok (.iload_n 1, 1) := by decide +kernel
theorem dX4_moveFine_5 : decode cX4_moveFine 5 = .ok (.iload_n 2, 1) := by decide +kernel
theorem dX4_moveFine_6 : decode cX4_moveFine 6 = .ok (.iastore, 1) := by decide +kernel
theorem dX4_moveFine_7 : decode cX4_moveFine 7 = .ok (.aload_n 0, 1) := by decide +kernel
theorem dX4_moveFine_8 : decode cX4_moveFine 8 = .ok (.getfield 43, 3) := by decide +kernel
theorem dX4_moveFine_11 : decode cX4_moveFine 11 = .ok (.iload_n 1, 1) := by decide +kernel
theorem dX4_moveFine_12 : decode cX4_moveFine 12 = .ok (.iconst 0, 1) := by decide +kernel
theorem dX4_moveFine_13 : decode cX4_moveFine 13 = .ok (.iastore, 1) := by decide +kernel
theorem dX4_moveFine_14 : decode cX4_moveFine 14 = .ok (.return_, 1) := by decide +kernel
theorem dX4_kindOf_0 : decode cX4_kindOf 0 = .ok (.aload_n 0, 1) := by decide +kernel
theorem dX4_kindOf_1 : decode cX4_kindOf 1 = .ok (.getfield 31, 3) := by decide +kernel
theorem dX4_kindOf_4 : decode cX4_kindOf 4 = .ok (.iload_n 1, 1) := by decide +kernel
theorem dX4_kindOf_5 : decode cX4_kindOf 5 = .ok (.iaload, 1) := by decide +kernel
theorem dX4_kindOf_6 : decode cX4_kindOf 6 = .ok (.istore_n 2, 1) := by decide +kernel
theorem dX4_kindOf_7 : decode cX4_kindOf 7 = .ok (.iload_n 2, 1) := by decide +kernel
theorem dX4_kindOf_8 : decode cX4_kindOf 8 = .ok (.invokestatic 79, 3) := by decide +kernel
theorem dX4_kindOf_11 : decode cX4_kindOf 11 = .ok (.ifCond .eq 12, 3) := by decide +kernel
theorem dX4_kindOf_14 : decode cX4_kindOf 14 = .ok (.aload_n 0, 1) := by decide +kernel
theorem dX4_kindOf_15 : decode cX4_kindOf 15 = .ok (.getfield 46, 3) := by decide +kernel
theorem dX4_kindOf_18 : decode cX4_kindOf 18 = .ok (.iload_n 2, 1) := by decide +kernel
theorem dX4_kindOf_19 : decode cX4_kindOf 19 = .ok (.aaload, 1) := by decide +kernel
theorem dX4_kindOf_20 : decode cX4_kindOf 20 = .ok (.goto 9, 3) := by decide +kernel
theorem dX4_kindOf_23 : decode cX4_kindOf 23 = .ok (.aload_n 0, 1) := by decide +kernel
theorem dX4_kindOf_24 : decode cX4_kindOf 24 = .ok (.getfield 46, 3) := by decide +kernel
theorem dX4_kindOf_27 : decode cX4_kindOf 27 = .ok (.iconst 0, 1) := by decide +kernel
theorem dX4_kindOf_28 : decode cX4_kindOf 28 = .ok (.aaload, 1) := by decide +kernel
theorem dX4_kindOf_29 : decode cX4_kindOf 29 = .ok (.areturn, 1) := by decide +kernel
theorem dX4_worksOf_0 : decode cX4_worksOf 0 = .ok (.aload_n 0, 1) := by decide +kernel
theorem dX4_worksOf_1 : decode cX4_worksOf 1 = .ok (.iload_n 1, 1) := by decide +kernel
theorem dX4_worksOf_2 : decode cX4_worksOf 2 = .ok (.invokevirtual 83, 3) := by decide +kernel
theorem dX4_worksOf_5 : decode cX4_worksOf 5 = .ok (.aload_n 0, 1) := by decide +kernel
theorem dX4_worksOf_6 : decode cX4_worksOf 6 = .ok (.getfield 40, 3) := by decide +kernel
theorem dX4_worksOf_9 : decode cX4_worksOf 9 = .ok (.iload_n 1, 1) := by decide +kernel
theorem dX4_worksOf_10 : decode cX4_worksOf 10 = .ok (.iaload, 1) := by decide +kernel
theorem dX4_worksOf_11 : decode cX4_worksOf 11 = .ok (.bipush 40, 2) := by decide +kernel
theorem dX4_worksOf_13 : decode cX4_worksOf 13 = .ok (.aload_n 0, 1) := by decide +kernel
theorem dX4_worksOf_14 : decode cX4_worksOf 14 = .ok (.invokevirtual 87, 3) := by decide +kernel
theorem dX4_worksOf_17 : decode cX4_worksOf 17 = .ok (.isub, 1) := by decide +kernel
theorem dX4_worksOf_18 : decode cX4_worksOf 18 = .ok (.invokevirtual 91, 3) := by decide +kernel
theorem dX4_worksOf_21 : decode cX4_worksOf 21 = .ok (.ireturn, 1) := by decide +kernel
theorem dX4_highOf_0 : decode cX4_highOf 0 = .ok (.iload_n 2, 1) := by decide +kernel
theorem dX4_highOf_1 : decode cX4_highOf 1 = .ok (.invokestatic 97, 3) := by decide +kernel
theorem dX4_highOf_4 : decode cX4_highOf 4 = .ok (.ifCond .eq 20, 3) := by decide +kernel
theorem dX4_highOf_7 : decode cX4_highOf 7 = .ok (.aload_n 0, 1) := by decide +kernel
theorem dX4_highOf_8 : decode cX4_highOf 8 = .ok (.iload_n 1, 1) := by decide +kernel
theorem dX4_highOf_9 : decode cX4_highOf 9 = .ok (.invokevirtual 83, 3) := by decide +kernel
theorem dX4_highOf_12 : decode cX4_highOf 12 = .ok (.aload_n 0, 1) := by decide +kernel
theorem dX4_highOf_13 : decode cX4_highOf 13 = .ok (.getfield 9, 3) := by decide +kernel
theorem dX4_highOf_16 : decode cX4_highOf 16 = .ok (.iload_n 2, 1) := by decide +kernel
theorem dX4_highOf_17 : decode cX4_highOf 17 = .ok (.iaload, 1) := by decide +kernel
theorem dX4_highOf_18 : decode cX4_highOf 18 = .ok (.invokevirtual 100, 3) := by decide +kernel
theorem dX4_highOf_21 : decode cX4_highOf 21 = .ok (.goto 4, 3) := by decide +kernel
theorem dX4_highOf_24 : decode cX4_highOf 24 = .ok (.iconst 0, 1) := by decide +kernel
theorem dX4_highOf_25 : decode cX4_highOf 25 = .ok (.ireturn, 1) := by decide +kernel
theorem dX4_cutBy_0 : decode cX4_cutBy 0 = .ok (.iconst 0, 1) := by decide +kernel
theorem dX4_cutBy_1 : decode cX4_cutBy 1 = .ok (.istore_n 2, 1) := by decide +kernel
theorem dX4_cutBy_2 : decode cX4_cutBy 2 = .ok (.iconst 0, 1) := by decide +kernel
theorem dX4_cutBy_3 : decode cX4_cutBy 3 = .ok (.istore_n 3, 1) := by decide +kernel
theorem dX4_cutBy_4 : decode cX4_cutBy 4 = .ok (.iload_n 3, 1) := by decide +kernel
theorem dX4_cutBy_5 : decode cX4_cutBy 5 = .ok (.bipush 40, 2) := by decide +kernel
theorem dX4_cutBy_7 : decode cX4_cutBy 7 = .ok (.if_icmp .ge 30, 3) := by decide +kernel
theorem dX4_cutBy_10 : decode cX4_cutBy 10 = .ok (.aload_n 0, 1) := by decide +kernel
theorem dX4_cutBy_11 : decode cX4_cutBy 11 = .ok (.iload_n 3, 1) := by decide +kernel
theorem dX4_cutBy_12 : decode cX4_cutBy 12 = .ok (.invokevirtual 104, 3) := by decide +kernel
theorem dX4_cutBy_15 : decode cX4_cutBy 15 = .ok (.ifCond .eq 16, 3) := by decide +kernel
theorem dX4_cutBy_18 : decode cX4_cutBy 18 = .ok (.aload_n 0, 1) := by decide +kernel
theorem dX4_cutBy_19 : decode cX4_cutBy 19 = .ok (.getfield 18, 3) := by decide +kernel
theorem dX4_cutBy_22 : decode cX4_cutBy 22 = .ok (.iload_n 3, 1) := by decide +kernel
theorem dX4_cutBy_23 : decode cX4_cutBy 23 = .ok (.iaload, 1) := by decide +kernel
theorem dX4_cutBy_24 : decode cX4_cutBy 24 = .ok (.iload_n 1, 1) := by decide +kernel
theorem dX4_cutBy_25 : decode cX4_cutBy 25 = .ok (.if_icmp .ne 6, 3) := by decide +kernel
theorem dX4_cutBy_28 : decode cX4_cutBy 28 = .ok (.iinc 2 1, 3) := by decide +kernel
theorem dX4_cutBy_31 : decode cX4_cutBy 31 = .ok (.iinc 3 1, 3) := by decide +kernel
theorem dX4_cutBy_34 : decode cX4_cutBy 34 = .ok (.goto (-30), 3) := by decide +kernel
theorem dX4_cutBy_37 : decode cX4_cutBy 37 = .ok (.iload_n 2, 1) := by decide +kernel
theorem dX4_cutBy_38 : decode cX4_cutBy 38 = .ok (.ireturn, 1) := by decide +kernel
theorem dX4_owedByAll_0 : decode cX4_owedByAll 0 = .ok (.iconst 0, 1) := by decide +kernel
theorem dX4_owedByAll_1 : decode cX4_owedByAll 1 = .ok (.istore_n 1, 1) := by decide +kernel
theorem dX4_owedByAll_2 : decode cX4_owedByAll 2 = .ok (.iconst 0, 1) := by decide +kernel
theorem dX4_owedByAll_3 : decode cX4_owedByAll 3 = .ok (.istore_n 2, 1) := by decide +kernel
theorem dX4_owedByAll_4 : decode cX4_owedByAll 4 = .ok (.iload_n 2, 1) := by decide +kernel
theorem dX4_owedByAll_5 : decode cX4_owedByAll 5 = .ok (.aload_n 0, 1) := by decide +kernel
theorem dX4_owedByAll_6 : decode cX4_owedByAll 6 = .ok (.getfield 72, 3) := by decide +kernel
theorem dX4_owedByAll_9 : decode cX4_owedByAll 9 = .ok (.if_icmp .ge 18, 3) := by decide +kernel
theorem dX4_owedByAll_12 : decode cX4_owedByAll 12 = .ok (.iload_n 1, 1) := by decide +kernel
theorem dX4_owedByAll_13 : decode cX4_owedByAll 13 = .ok (.aload_n 0, 1) := by decide +kernel
theorem dX4_owedByAll_14 : decode cX4_owedByAll 14 = .ok (.getfield 34, 3) := by decide +kernel
theorem dX4_owedByAll_17 : decode cX4_owedByAll 17 = .ok (.iload_n 2, 1) := by decide +kernel
theorem dX4_owedByAll_18 : decode cX4_owedByAll 18 = .ok (.iaload, 1) := by decide +kernel
theorem dX4_owedByAll_19 : decode cX4_owedByAll 19 = .ok (.iadd, 1) := by decide +kernel
theorem dX4_owedByAll_20 : decode cX4_owedByAll 20 = .ok (.istore_n 1, 1) := by decide +kernel
theorem dX4_owedByAll_21 : decode cX4_owedByAll 21 = .ok (.iinc 2 1, 3) := by decide +kernel
theorem dX4_owedByAll_24 : decode cX4_owedByAll 24 = .ok (.goto (-20), 3) := by decide +kernel
theorem dX4_owedByAll_27 : decode cX4_owedByAll 27 = .ok (.iload_n 1, 1) := by decide +kernel
theorem dX4_owedByAll_28 : decode cX4_owedByAll 28 = .ok (.ireturn, 1) := by decide +kernel
theorem dX4_highOfAll_0 : decode cX4_highOfAll 0 = .ok (.iconst 0, 1) := by decide +kernel
theorem dX4_highOfAll_1 : decode cX4_highOfAll 1 = .ok (.istore_n 1, 1) := by decide +kernel
theorem dX4_highOfAll_2 : decode cX4_highOfAll 2 = .ok (.iconst 0, 1) := by decide +kernel
theorem dX4_highOfAll_3 : decode cX4_highOfAll 3 = .ok (.istore_n 2, 1) := by decide +kernel
theorem dX4_highOfAll_4 : decode cX4_highOfAll 4 = .ok (.iload_n 2, 1) := by decide +kernel
theorem dX4_highOfAll_5 : decode cX4_highOfAll 5 = .ok (.bipush 40, 2) := by decide +kernel
theorem dX4_highOfAll_7 : decode cX4_highOfAll 7 = .ok (.if_icmp .ge 26, 3) := by decide +kernel
theorem dX4_highOfAll_10 : decode cX4_highOfAll 10 = .ok (.aload_n 0, 1) := by decide +kernel
theorem dX4_highOfAll_11 : decode cX4_highOfAll 11 = .ok (.iload_n 2, 1) := by decide +kernel
theorem dX4_highOfAll_12 : decode cX4_highOfAll 12 = .ok (.invokevirtual 104, 3) := by decide +kernel
theorem dX4_highOfAll_15 : decode cX4_highOfAll 15 = .ok (.ifCond .eq 12, 3) := by decide +kernel
theorem dX4_highOfAll_18 : decode cX4_highOfAll 18 = .ok (.iload_n 1, 1) := by decide +kernel
theorem dX4_highOfAll_19 : decode cX4_highOfAll 19 = .ok (.aload_n 0, 1) := by decide +kernel
theorem dX4_highOfAll_20 : decode cX4_highOfAll 20 = .ok (.getfield 15, 3) := by decide +kernel
theorem dX4_highOfAll_23 : decode cX4_highOfAll 23 = .ok (.iload_n 2, 1) := by decide +kernel
theorem dX4_highOfAll_24 : decode cX4_highOfAll 24 = .ok (.iaload, 1) := by decide +kernel
theorem dX4_highOfAll_25 : decode cX4_highOfAll 25 = .ok (.iadd, 1) := by decide +kernel
theorem dX4_highOfAll_26 : decode cX4_highOfAll 26 = .ok (.istore_n 1, 1) := by decide +kernel
theorem dX4_highOfAll_27 : decode cX4_highOfAll 27 = .ok (.iinc 2 1, 3) := by decide +kernel
theorem dX4_highOfAll_30 : decode cX4_highOfAll 30 = .ok (.goto (-26), 3) := by decide +kernel
theorem dX4_highOfAll_33 : decode cX4_highOfAll 33 = .ok (.iload_n 1, 1) := by decide +kernel
theorem dX4_highOfAll_34 : decode cX4_highOfAll 34 = .ok (.ireturn, 1) := by decide +kernel
theorem dX4_wholePlaces_0 : decode cX4_wholePlaces 0 = .ok (.aload_n 0, 1) := by decide +kernel
theorem dX4_wholePlaces_1 : decode cX4_wholePlaces 1 = .ok (.getfield 62, 3) := by decide +kernel
theorem dX4_wholePlaces_4 : decode cX4_wholePlaces 4 = .ok (.invokestatic 107, 3) := by decide +kernel
theorem dX4_wholePlaces_7 : decode cX4_wholePlaces 7 = .ok (.ireturn, 1) := by decide +kernel
theorem dX4_isWhole_0 : decode cX4_isWhole 0 = .ok (.iload_n 1, 1) := by decide +kernel
theorem dX4_isWhole_1 : decode cX4_isWhole 1 = .ok (.invokestatic 97, 3) := by decide +kernel
theorem dX4_isWhole_4 : decode cX4_isWhole 4 = .ok (.ifCond .eq 20, 3) := by decide +kernel
theorem dX4_isWhole_7 : decode cX4_isWhole 7 = .ok (.aload_n 0, 1) := by decide +kernel
theorem dX4_isWhole_8 : decode cX4_isWhole 8 = .ok (.getfield 62, 3) := by decide +kernel
theorem dX4_isWhole_11 : decode cX4_isWhole 11 = .ok (.iload_n 1, 1) := by decide +kernel
theorem dX4_isWhole_12 : decode cX4_isWhole 12 = .ok (.lushr, 1) := by decide +kernel
theorem dX4_isWhole_13 : decode cX4_isWhole 13 = .ok (.lconst 1, 1) := by decide +kernel
theorem dX4_isWhole_14 : decode cX4_isWhole 14 = .ok (.land, 1) := by decide +kernel
theorem dX4_isWhole_15 : decode cX4_isWhole 15 = .ok (.lconst 0, 1) := by decide +kernel
theorem dX4_isWhole_16 : decode cX4_isWhole 16 = .ok (.lcmp, 1) := by decide +kernel
theorem dX4_isWhole_17 : decode cX4_isWhole 17 = .ok (.ifCond .eq 7, 3) := by decide +kernel
theorem dX4_isWhole_20 : decode cX4_isWhole 20 = .ok (.iconst 1, 1) := by decide +kernel
theorem dX4_isWhole_21 : decode cX4_isWhole 21 = .ok (.goto 4, 3) := by decide +kernel
theorem dX4_isWhole_24 : decode cX4_isWhole 24 = .ok (.iconst 0, 1) := by decide +kernel
theorem dX4_isWhole_25 : decode cX4_isWhole 25 = .ok (.ireturn, 1) := by decide +kernel
theorem dX4_cut_0 : decode cX4_cut 0 = .ok (.aload_n 0, 1) := by decide +kernel
theorem dX4_cut_1 : decode cX4_cut 1 = .ok (.dup, 1) := by decide +kernel
theorem dX4_cut_2 : decode cX4_cut 2 = .ok (.getfield 62, 3) := by decide +kernel
theorem dX4_cut_5 : decode cX4_cut 5 = .ok (.lconst 1, 1) := by decide +kernel
theorem dX4_cut_6 : decode cX4_cut 6 = .ok (.iload_n 1, 1) := by decide +kernel
theorem dX4_cut_7 : decode cX4_cut 7 = .ok (.lshl, 1) := by decide +kernel
theorem dX4_cut_8 : decode cX4_cut 8 = .ok (.lor, 1) := by decide +kernel
theorem dX4_cut_9 : decode cX4_cut 9 = .ok (.putfield 62, 3) := by decide +kernel
theorem dX4_cut_12 : decode cX4_cut 12 = .ok (.aload_n 0, 1) := by decide +kernel
theorem dX4_cut_13 : decode cX4_cut 13 = .ok (.getfield 15, 3) := by decide +kernel
theorem dX4_cut_16 : decode cX4_cut 16 = .ok (.iload_n 1, 1) := by decide +kernel
theorem dX4_cut_17 : decode cX4_cut 17 = .ok (.iload_n 2, 1) := by decide +kernel
theorem dX4_cut_18 : decode cX4_cut 18 = .ok (.iastore, 1) := by decide +kernel
theorem dX4_cut_19 : decode cX4_cut 19 = .ok (.aload_n 0, 1) := by decide +kernel
theorem dX4_cut_20 : decode cX4_cut 20 = .ok (.getfield 18, 3) := by decide +kernel
theorem dX4_cut_23 : decode cX4_cut 23 = .ok (.iload_n 1, 1) := by decide +kernel
theorem dX4_cut_24 : decode cX4_cut 24 = .ok (.iload_n 3, 1) := by decide +kernel
theorem dX4_cut_25 : decode cX4_cut 25 = .ok (.iastore, 1) := by decide +kernel
theorem dX4_cut_26 : decode cX4_cut 26 = .ok (.aload_n 0, 1) := by decide +kernel
theorem dX4_cut_27 : decode cX4_cut 27 = .ok (.getfield 21, 3) := by decide +kernel
theorem dX4_cut_30 : decode cX4_cut 30 = .ok (.iload_n 1, 1) := by decide +kernel
theorem dX4_cut_31 : decode cX4_cut 31 = .ok (.aload_n 0, 1) := by decide +kernel
theorem dX4_cut_32 : decode cX4_cut 32 = .ok (.getfield 66, 3) := by decide +kernel
theorem dX4_cut_35 : decode cX4_cut 35 = .ok (.iastore, 1) := by decide +kernel
theorem dX4_cut_36 : decode cX4_cut 36 = .ok (.return_, 1) := by decide +kernel
theorem dX4_breakUp_0 : decode cX4_breakUp 0 = .ok (.aload_n 0, 1) := by decide +kernel
theorem dX4_breakUp_1 : decode cX4_breakUp 1 = .ok (.dup, 1) := by decide +kernel
theorem dX4_breakUp_2 : decode cX4_breakUp 2 = .ok (.getfield 62, 3) := by decide +kernel
theorem dX4_breakUp_5 : decode cX4_breakUp 5 = .ok (.lconst 1, 1) := by decide +kernel
theorem dX4_breakUp_6 : decode cX4_breakUp 6 = .ok (.iload_n 1, 1) := by decide +kernel
theorem dX4_breakUp_7 : decode cX4_breakUp 7 = .ok (.lshl, 1) := by decide +kernel
theorem dX4_breakUp_8 : decode cX4_breakUp 8 = .ok (.ldc2_w 113, 3) := by decide +kernel
theorem dX4_breakUp_11 : decode cX4_breakUp 11 = .ok (.lxor, 1) := by decide +kernel
theorem dX4_breakUp_12 : decode cX4_breakUp 12 = .ok (.land, 1) := by decide +kernel
theorem dX4_breakUp_13 : decode cX4_breakUp 13 = .ok (.putfield 62, 3) := by decide +kernel
theorem dX4_breakUp_16 : decode cX4_breakUp 16 = .ok (.return_, 1) := by decide +kernel
theorem dX4_isPair_0 : decode cX4_isPair 0 = .ok (.aload_n 0, 1) := by decide +kernel
theorem dX4_isPair_1 : decode cX4_isPair 1 = .ok (.iload_n 1, 1) := by decide +kernel
theorem dX4_isPair_2 : decode cX4_isPair 2 = .ok (.invokevirtual 104, 3) := by decide +kernel
theorem dX4_isPair_5 : decode cX4_isPair 5 = .ok (.ifCond .eq 17, 3) := by decide +kernel
theorem dX4_isPair_8 : decode cX4_isPair 8 = .ok (.aload_n 0, 1) := by decide +kernel
theorem dX4_isPair_9 : decode cX4_isPair 9 = .ok (.iload_n 1, 1) := by decide +kernel
theorem dX4_isPair_10 : decode cX4_isPair 10 = .ok (.iconst 1, 1) := by decide +kernel
theorem dX4_isPair_11 : decode cX4_isPair 11 = .ok (.isub, 1) := by decide +kernel
theorem dX4_isPair_12 : decode cX4_isPair 12 = .ok (.invokevirtual 104, 3) := by decide +kernel
theorem dX4_isPair_15 : decode cX4_isPair 15 = .ok (.ifCond .eq 7, 3) := by decide +kernel
theorem dX4_isPair_18 : decode cX4_isPair 18 = .ok (.iconst 1, 1) := by decide +kernel
theorem dX4_isPair_19 : decode cX4_isPair 19 = .ok (.goto 4, 3) := by decide +kernel
theorem dX4_isPair_22 : decode cX4_isPair 22 = .ok (.iconst 0, 1) := by decide +kernel
theorem dX4_isPair_23 : decode cX4_isPair 23 = .ok (.ireturn, 1) := by decide +kernel
theorem dX4_isMet_0 : decode cX4_isMet 0 = .ok (.aload_n 0, 1) := by decide +kernel
theorem dX4_isMet_1 : decode cX4_isMet 1 = .ok (.getfield 15, 3) := by decide +kernel
theorem dX4_isMet_4 : decode cX4_isMet 4 = .ok (.iload_n 1, 1) := by decide +kernel
theorem dX4_isMet_5 : decode cX4_isMet 5 = .ok (.iaload, 1) := by decide +kernel
theorem dX4_isMet_6 : decode cX4_isMet 6 = .ok (.aload_n 0, 1) := by decide +kernel
theorem dX4_isMet_7 : decode cX4_isMet 7 = .ok (.getfield 15, 3) := by decide +kernel
theorem dX4_isMet_10 : decode cX4_isMet 10 = .ok (.iload_n 1, 1) := by decide +kernel
theorem dX4_isMet_11 : decode cX4_isMet 11 = .ok (.iconst 1, 1) := by decide +kernel
theorem dX4_isMet_12 : decode cX4_isMet 12 = .ok (.isub, 1) := by decide +kernel
theorem dX4_isMet_13 : decode cX4_isMet 13 = .ok (.iaload, 1) := by decide +kernel
theorem dX4_isMet_14 : decode cX4_isMet 14 = .ok (.isub, 1) := by decide +kernel
theorem dX4_isMet_15 : decode cX4_isMet 15 = .ok (.invokestatic 115, 3) := by decide +kernel
theorem dX4_isMet_18 : decode cX4_isMet 18 = .ok (.iload_n 2, 1) := by decide +kernel
theorem dX4_isMet_19 : decode cX4_isMet 19 = .ok (.if_icmp .gt 7, 3) := by decide +kernel
theorem dX4_isMet_22 : decode cX4_isMet 22 = .ok (.iconst 1, 1) := by decide +kernel
theorem dX4_isMet_23 : decode cX4_isMet 23 = .ok (.goto 4, 3) := by decide +kernel
theorem dX4_isMet_26 : decode cX4_isMet 26 = .ok (.iconst 0, 1) := by decide +kernel
theorem dX4_isMet_27 : decode cX4_isMet 27 = .ok (.ireturn, 1) := by decide +kernel
theorem dX4_climb_0 : decode cX4_climb 0 = .ok (.aload_n 0, 1) := by decide +kernel
theorem dX4_climb_1 : decode cX4_climb 1 = .ok (.aload_n 0, 1) := by decide +kernel
theorem dX4_climb_2 : decode cX4_climb 2 = .ok (.getfield 24, 3) := by decide +kernel
theorem dX4_climb_5 : decode cX4_climb 5 = .ok (.invokevirtual 120, 3) := by decide +kernel
theorem dX4_climb_8 : decode cX4_climb 8 = .ok (.ireturn, 1) := by decide +kernel
theorem dX4_climbWith_0 : decode cX4_climbWith 0 = .ok (.aload_n 0, 1) := by decide +kernel
theorem dX4_climbWith_1 : decode cX4_climbWith 1 = .ok (.iconst 0, 1) := by decide +kernel
theorem dX4_climbWith_2 : decode cX4_climbWith 2 = .ok (.invokevirtual 104, 3) := by decide +kernel
theorem dX4_climbWith_5 : decode cX4_climbWith 5 = .ok (.ifCond .ne 5, 3) := by decide +kernel
theorem dX4_climbWith_8 : decode cX4_climbWith 8 = .ok (.iconst 0, 1) := by decide +kernel
theorem dX4_climbWith_9 : decode cX4_climbWith 9 = .ok (.ireturn, 1) := by decide +kernel
theorem dX4_climbWith_10 : decode cX4_climbWith 10 = .ok (.iconst 1, 1) := by decide +kernel
theorem dX4_climbWith_11 : decode cX4_climbWith 11 = .ok (.istore_n 2, 1) := by decide +kernel
theorem dX4_climbWith_12 : decode cX4_climbWith 12 = .ok (.iload_n 2, 1) := by decide +kernel
theorem dX4_climbWith_13 : decode cX4_climbWith 13 = .ok (.bipush 40, 2) := by decide +kernel
theorem dX4_climbWith_15 : decode cX4_climbWith 15 = .ok (.if_icmp .ge 26, 3) := by decide +kernel
theorem dX4_climbWith_18 : decode cX4_climbWith 18 = .ok (.aload_n 0, 1) := by decide +kernel
theorem dX4_climbWith_19 : decode cX4_climbWith 19 = .ok (.iload_n 2, 1) := by decide +kernel
theorem dX4_climbWith_20 : decode cX4_climbWith 20 = .ok (.invokevirtual 104, 3) := by decide +kernel
theorem dX4_climbWith_23 : decode cX4_climbWith 23 = .ok (.ifCond .eq 18, 3) := by decide +kernel
theorem dX4_climbWith_26 : decode cX4_climbWith 26 = .ok (.aload_n 0, 1) := by decide +kernel
theorem dX4_climbWith_27 : decode cX4_climbWith 27 = .ok (.iload_n 2, 1) := by decide +kernel
theorem dX4_climbWith_28 : decode cX4_climbWith 28 = .ok (.iload_n 1, 1) := by decide +kernel
theorem dX4_climbWith_29 : decode cX4_climbWith 29 = .ok (.invokevirtual 123, 3) := by decide +kernel
theorem dX4_climbWith_32 : decode cX4_climbWith 32 = .ok (.ifCond .eq 9, 3) := by decide +kernel
theorem dX4_climbWith_35 : decode cX4_climbWith 35 = .ok (.iinc 2 1, 3) := by decide +kernel
theorem dX4_climbWith_38 : decode cX4_climbWith 38 = .ok (.goto (-26), 3) := by decide +kernel
theorem dX4_climbWith_41 : decode cX4_climbWith 41 = .ok (.iload_n 2, 1) := by decide +kernel
theorem dX4_climbWith_42 : decode cX4_climbWith 42 = .ok (.ireturn, 1) := by decide +kernel
theorem dX4_goYears_0 : decode cX4_goYears 0 = .ok (.iconst 0, 1) := by decide +kernel
theorem dX4_goYears_1 : decode cX4_goYears 1 = .ok (.istore_n 2, 1) := by decide +kernel
theorem dX4_goYears_2 : decode cX4_goYears 2 = .ok (.iload_n 2, 1) := by decide +kernel
theorem dX4_goYears_3 : decode cX4_goYears 3 = .ok (.iload_n 1, 1) := by decide +kernel
theorem dX4_goYears_4 : decode cX4_goYears 4 = .ok (.if_icmp .ge 33, 3) := by decide +kernel
theorem dX4_goYears_7 : decode cX4_goYears 7 = .ok (.aload_n 0, 1) := by decide +kernel
theorem dX4_goYears_8 : decode cX4_goYears 8 = .ok (.invokevirtual 127, 3) := by decide +kernel
theorem dX4_goYears_11 : decode cX4_goYears 11 = .ok (.ifCond .eq 16, 3) := by decide +kernel
theorem dX4_goYears_14 : decode cX4_goYears 14 = .ok (.aload_n 0, 1) := by decide +kernel
theorem dX4_goYears_15 : decode cX4_goYears 15 = .ok (.dup, 1) := by decide +kernel
theorem dX4_goYears_16 : decode cX4_goYears 16 = .ok (.getfield 66, 3) := by decide +kernel
theorem dX4_goYears_19 : decode cX4_goYears 19 = .ok (.iload_n 1, 1) := by decide +kernel
theorem dX4_goYears_20 : decode cX4_goYears 20 = .ok (.iload_n 2, 1) := by decide +kernel
theorem dX4_goYears_21 : decode cX4_goYears 21 = .ok (.isub, 1) := by decide +kernel
theorem dX4_goYears_22 : decode cX4_goYears 22 = .ok (.iadd, 1) := by decide +kernel
theorem dX4_goYears_23 : decode cX4_goYears 23 = .ok (.putfield 66, 3) := by decide +kernel
theorem dX4_goYears_26 : decode cX4_goYears 26 = .ok (.return_, 1) := by decide +kernel
theorem dX4_goYears_27 : decode cX4_goYears 27 = .ok (.aload_n 0, 1) := by decide +kernel
theorem dX4_goYears_28 : decode cX4_goYears 28 = .ok (.invokevirtual 130, 3) := by decide +kernel
theorem dX4_goYears_31 : decode cX4_goYears 31 = .ok (.iinc 2 1, 3) := by decide +kernel
theorem dX4_goYears_34 : decode cX4_goYears 34 = .ok (.goto (-32), 3) := by decide +kernel
theorem dX4_goYears_37 : decode cX4_goYears 37 = .ok (.return_, 1) := by decide +kernel
theorem dX4_isAtRest_0 : decode cX4_isAtRest 0 = .ok (.aload_n 0, 1) := by decide +kernel
theorem dX4_isAtRest_1 : decode cX4_isAtRest 1 = .ok (.getfield 62, 3) := by decide +kernel
theorem dX4_isAtRest_4 : decode cX4_isAtRest 4 = .ok (.ldc2_w 133, 3) := by decide +kernel
theorem dX4_isAtRest_7 : decode cX4_isAtRest 7 = .ok (.lcmp, 1) := by decide +kernel
theorem dX4_isAtRest_8 : decode cX4_isAtRest 8 = .ok (.ifCond .eq 14, 3) := by decide +kernel
theorem dX4_isAtRest_11 : decode cX4_isAtRest 11 = .ok (.aload_n 0, 1) := by decide +kernel
theorem dX4_isAtRest_12 : decode cX4_isAtRest 12 = .ok (.invokevirtual 135, 3) := by decide +kernel
theorem dX4_isAtRest_15 : decode cX4_isAtRest 15 = .ok (.ifCond .le 7, 3) := by decide +kernel
theorem dX4_isAtRest_18 : decode cX4_isAtRest 18 = .ok (.iconst 1, 1) := by decide +kernel
theorem dX4_isAtRest_19 : decode cX4_isAtRest 19 = .ok (.goto 4, 3) := by decide +kernel
theorem dX4_isAtRest_22 : decode cX4_isAtRest 22 = .ok (.iconst 0, 1) := by decide +kernel
theorem dX4_isAtRest_23 : decode cX4_isAtRest 23 = .ok (.istore_n 1, 1) := by decide +kernel
theorem dX4_isAtRest_24 : decode cX4_isAtRest 24 = .ok (.aload_n 0, 1) := by decide +kernel
theorem dX4_isAtRest_25 : decode cX4_isAtRest 25 = .ok (.getfield 62, 3) := by decide +kernel
theorem dX4_isAtRest_28 : decode cX4_isAtRest 28 = .ok (.lconst 0, 1) := by decide +kernel
theorem dX4_isAtRest_29 : decode cX4_isAtRest 29 = .ok (.lcmp, 1) := by decide +kernel
theorem dX4_isAtRest_30 : decode cX4_isAtRest 30 = .ok (.ifCond .eq 14, 3) := by decide +kernel
theorem dX4_isAtRest_33 : decode cX4_isAtRest 33 = .ok (.aload_n 0, 1) := by decide +kernel
theorem dX4_isAtRest_34 : decode cX4_isAtRest 34 = .ok (.getfield 69, 3) := by decide +kernel
theorem dX4_isAtRest_37 : decode cX4_isAtRest 37 = .ok (.ifCond .le 7, 3) := by decide +kernel
theorem dX4_isAtRest_40 : decode cX4_isAtRest 40 = .ok (.iconst 1, 1) := by decide +kernel
theorem dX4_isAtRest_41 : decode cX4_isAtRest 41 = .ok (.goto 4, 3) := by decide +kernel
theorem dX4_isAtRest_44 : decode cX4_isAtRest 44 = .ok (.iconst 0, 1) := by decide +kernel
theorem dX4_isAtRest_45 : decode cX4_isAtRest 45 = .ok (.istore_n 2, 1) := by decide +kernel
theorem dX4_isAtRest_46 : decode cX4_isAtRest 46 = .ok (.iload_n 1, 1) := by decide +kernel
theorem dX4_isAtRest_47 : decode cX4_isAtRest 47 = .ok (.ifCond .ne 11, 3) := by decide +kernel
theorem dX4_isAtRest_50 : decode cX4_isAtRest 50 = .ok (.iload_n 2, 1) := by decide +kernel
theorem dX4_isAtRest_51 : decode cX4_isAtRest 51 = .ok (.ifCond .ne 7, 3) := by decide +kernel
theorem dX4_isAtRest_54 : decode cX4_isAtRest 54 = .ok (.iconst 1, 1) := by decide +kernel
theorem dX4_isAtRest_55 : decode cX4_isAtRest 55 = .ok (.goto 4, 3) := by decide +kernel
theorem dX4_isAtRest_58 : decode cX4_isAtRest 58 = .ok (.iconst 0, 1) := by decide +kernel
theorem dX4_isAtRest_59 : decode cX4_isAtRest 59 = .ok (.ireturn, 1) := by decide +kernel
theorem dX4_goYear_0 : decode cX4_goYear 0 = .ok (.iconst 0, 1) := by decide +kernel
theorem dX4_goYear_1 : decode cX4_goYear 1 = .ok (.istore_n 1, 1) := by decide +kernel
theorem dX4_goYear_2 : decode cX4_goYear 2 = .ok (.iload_n 1, 1) := by decide +kernel
theorem dX4_goYear_3 : decode cX4_goYear 3 = .ok (.aload_n 0, 1) := by decide +kernel
theorem dX4_goYear_4 : decode cX4_goYear 4 = .ok (.getfield 72, 3) := by decide +kernel
theorem dX4_goYear_7 : decode cX4_goYear 7 = .ok (.if_icmp .ge 45, 3) := by decide +kernel
theorem dX4_goYear_10 : decode cX4_goYear 10 = .ok (.aload_n 0, 1) := by decide +kernel
theorem dX4_goYear_11 : decode cX4_goYear 11 = .ok (.getfield 34, 3) := by decide +kernel
theorem dX4_goYear_14 : decode cX4_goYear 14 = .ok (.iload_n 1, 1) := by decide +kernel
theorem dX4_goYear_15 : decode cX4_goYear 15 = .ok (.iaload, 1) := by decide +kernel
theorem dX4_goYear_16 : decode cX4_goYear 16 = .ok (.ifCond .le 30, 3) := by decide +kernel
theorem dX4_goYear_19 : decode cX4_goYear 19 = .ok (.aload_n 0, 1) := by decide +kernel
theorem dX4_goYear_20 : decode cX4_goYear 20 = .ok (.getfield 62, 3) := by decide +kernel
theorem dX4_goYear_23 : decode cX4_goYear 23 = .ok (.ldc2_w 133, 3) := by decide +kernel
theorem dX4_goYear_26 : decode cX4_goYear 26 = .ok (.lcmp, 1) := by decide +kernel
theorem dX4_goYear_27 : decode cX4_goYear 27 = .ok (.ifCond .eq 19, 3) := by decide +kernel
theorem dX4_goYear_30 : decode cX4_goYear 30 = .ok (.aload_n 0, 1) := by decide +kernel
theorem dX4_goYear_31 : decode cX4_goYear 31 = .ok (.iload_n 1, 1) := by decide +kernel
theorem dX4_goYear_32 : decode cX4_goYear 32 = .ok (.invokevirtual 138, 3) := by decide +kernel
theorem dX4_goYear_35 : decode cX4_goYear 35 = .ok (.aload_n 0, 1) := by decide +kernel
theorem dX4_goYear_36 : decode cX4_goYear 36 = .ok (.iload_n 1, 1) := by decide +kernel
theorem dX4_goYear_37 : decode cX4_goYear 37 = .ok (.aload_n 0, 1) := by decide +kernel
theorem dX4_goYear_38 : decode cX4_goYear 38 = .ok (.getfield 37, 3) := by decide +kernel
theorem dX4_goYear_41 : decode cX4_goYear 41 = .ok (.iload_n 1, 1) := by decide +kernel
theorem dX4_goYear_42 : decode cX4_goYear 42 = .ok (.iaload, 1) := by decide +kernel
theorem dX4_goYear_43 : decode cX4_goYear 43 = .ok (.invokevirtual 142, 3) := by decide +kernel
theorem dX4_goYear_46 : decode cX4_goYear 46 = .ok (.iinc 1 1, 3) := by decide +kernel
theorem dX4_goYear_49 : decode cX4_goYear 49 = .ok (.goto (-47), 3) := by decide +kernel
theorem dX4_goYear_52 : decode cX4_goYear 52 = .ok (.aload_n 0, 1) := by decide +kernel
theorem dX4_goYear_53 : decode cX4_goYear 53 = .ok (.getfield 69, 3) := by decide +kernel
theorem dX4_goYear_56 : decode cX4_goYear 56 = .ok (.ifCond .le 7, 3) := by decide +kernel
theorem dX4_goYear_59 : decode cX4_goYear 59 = .ok (.aload_n 0, 1) := by decide +kernel
theorem dX4_goYear_60 : decode cX4_goYear 60 = .ok (.invokevirtual 146, 3) := by decide +kernel
theorem dX4_goYear_63 : decode cX4_goYear 63 = .ok (.aload_n 0, 1) := by decide +kernel
theorem dX4_goYear_64 : decode cX4_goYear 64 = .ok (.dup, 1) := by decide +kernel
theorem dX4_goYear_65 : decode cX4_goYear 65 = .ok (.getfield 66, 3) := by decide +kernel
theorem dX4_goYear_68 : decode cX4_goYear 68 = .ok (.iconst 1, 1) := by decide +kernel
theorem dX4_goYear_69 : decode cX4_goYear 69 = .ok (.iadd, 1) := by decide +kernel
theorem dX4_goYear_70 : decode cX4_goYear 70 = .ok (.putfield 66, 3) := by decide +kernel
theorem dX4_goYear_73 : decode cX4_goYear 73 = .ok (.return_, 1) := by decide +kernel
theorem dX4_goOn_0 : decode cX4_goOn 0 = .ok (.iconst 0, 1) := by decide +kernel
theorem dX4_goOn_1 : decode cX4_goOn 1 = .ok (.istore_n 2, 1) := by decide +kernel
theorem dX4_goOn_2 : decode cX4_goOn 2 = .ok (.iload_n 2, 1) := by decide +kernel
theorem dX4_goOn_3 : decode cX4_goOn 3 = .ok (.bipush 40, 2) := by decide +kernel
theorem dX4_goOn_5 : decode cX4_goOn 5 = .ok (.if_icmp .ge 50, 3) := by decide +kernel
theorem dX4_goOn_8 : decode cX4_goOn 8 = .ok (.aload_n 0, 1) := by decide +kernel
theorem dX4_goOn_9 : decode cX4_goOn 9 = .ok (.aload_n 0, 1) := by decide +kernel
theorem dX4_goOn_10 : decode cX4_goOn 10 = .ok (.getfield 37, 3) := by decide +kernel
theorem dX4_goOn_13 : decode cX4_goOn 13 = .ok (.iload_n 1, 1) := by decide +kernel
theorem dX4_goOn_14 : decode cX4_goOn 14 = .ok (.iaload, 1) := by decide +kernel
theorem dX4_goOn_15 : decode cX4_goOn 15 = .ok (.invokevirtual 104, 3) := by decide +kernel
theorem dX4_goOn_18 : decode cX4_goOn 18 = .ok (.ifCond .eq 37, 3) := by decide +kernel
theorem dX4_goOn_21 : decode cX4_goOn 21 = .ok (.aload_n 0, 1) := by decide +kernel
theorem dX4_goOn_22 : decode cX4_goOn 22 = .ok (.iload_n 1, 1) := by decide +kernel
theorem dX4_goOn_23 : decode cX4_goOn 23 = .ok (.aload_n 0, 1) := by decide +kernel
theorem dX4_goOn_24 : decode cX4_goOn 24 = .ok (.getfield 37, 3) := by decide +kernel
theorem dX4_goOn_27 : decode cX4_goOn 27 = .ok (.iload_n 1, 1) := by decide +kernel
theorem dX4_goOn_28 : decode cX4_goOn 28 = .ok (.iaload, 1) := by decide +kernel
theorem dX4_goOn_29 : decode cX4_goOn 29 = .ok (.bipush 39, 2) := by decide +kernel
theorem dX4_goOn_31 : decode cX4_goOn 31 = .ok (.if_icmp .ne 7, 3) := by decide +kernel
theorem dX4_goOn_34 : decode cX4_goOn 34 = .ok (.iconst 0, 1) := by decide +kernel
theorem dX4_goOn_35 : decode cX4_goOn 35 = .ok (.goto 11, 3) := by decide +kernel
theorem dX4_goOn_38 : decode cX4_goOn 38 = .ok (.aload_n 0, 1) := by decide +kernel
theorem dX4_goOn_39 : decode cX4_goOn 39 = .ok (.getfield 37, 3) := by decide +kernel
theorem dX4_goOn_42 : decode cX4_goOn 42 = .ok (.iload_n 1, 1) := by decide +kernel
theorem dX4_goOn_43 : decode cX4_goOn 43 = .ok (.iaload, 1) := by decide +kernel
theorem dX4_goOn_44 : decode cX4_goOn 44 = .ok (.iconst 1, 1) := by decide +kernel
theorem dX4_goOn_45 : decode cX4_goOn 45 = .ok (.iadd, 1) := by decide +kernel
theorem dX4_goOn_46 : decode cX4_goOn 46 = .ok (.invokevirtual 149, 3) := by decide +kernel
theorem dX4_goOn_49 : decode cX4_goOn 49 = .ok (.iinc 2 1, 3) := by decide +kernel
theorem dX4_goOn_52 : decode cX4_goOn 52 = .ok (.goto (-50), 3) := by decide +kernel
theorem dX4_goOn_55 : decode cX4_goOn 55 = .ok (.return_, 1) := by decide +kernel
theorem dX4_workOn_0 : decode cX4_workOn 0 = .ok (.aload_n 0, 1) := by decide +kernel
theorem dX4_workOn_1 : decode cX4_workOn 1 = .ok (.iload_n 1, 1) := by decide +kernel
theorem dX4_workOn_2 : decode cX4_workOn 2 = .ok (.invokevirtual 83, 3) := by decide +kernel
theorem dX4_workOn_5 : decode cX4_workOn 5 = .ok (.astore_n 3, 1) := by decide +kernel
theorem dX4_workOn_6 : decode cX4_workOn 6 = .ok (.aload_n 0, 1) := by decide +kernel
theorem dX4_workOn_7 : decode cX4_workOn 7 = .ok (.getfield 43, 3) := by decide +kernel
theorem dX4_workOn_10 : decode cX4_workOn 10 = .ok (.iload_n 1, 1) := by decide +kernel
theorem dX4_workOn_11 : decode cX4_workOn 11 = .ok (.dup2, 1) := by decide +kernel
theorem dX4_workOn_12 : decode cX4_workOn 12 = .ok (.iaload, 1) := by decide +kernel
theorem dX4_workOn_13 : decode cX4_workOn 13 = .ok (.aload_n 3, 1) := by decide +kernel
theorem dX4_workOn_14 : decode cX4_workOn 14 = .ok (.aload_n 0, 1) := by decide +kernel
theorem dX4_workOn_15 : decode cX4_workOn 15 = .ok (.getfield 40, 3) := by decide +kernel
theorem dX4_workOn_18 : decode cX4_workOn 18 = .ok (.iload_n 1, 1) := by decide +kernel
theorem dX4_workOn_19 : decode cX4_workOn 19 = .ok (.iaload, 1) := by decide +kernel
theorem dX4_workOn_20 : decode cX4_workOn 20 = .ok (.bipush 40, 2) := by decide +kernel
theorem dX4_workOn_22 : decode cX4_workOn 22 = .ok (.aload_n 0, 1) := by decide +kernel
theorem dX4_workOn_23 : decode cX4_workOn 23 = .ok (.invokevirtual 87, 3) := by decide +kernel
theorem dX4_workOn_26 : decode cX4_workOn 26 = .ok (.isub, 1) := by decide +kernel
theorem dX4_workOn_27 : decode cX4_workOn 27 = .ok (.invokevirtual 91, 3) := by decide +kernel
theorem dX4_workOn_30 : decode cX4_workOn 30 = .ok (.iadd, 1) := by decide +kernel
theorem dX4_workOn_31 : decode cX4_workOn 31 = .ok (.iastore, 1) := by decide +kernel
theorem dX4_workOn_32 : decode cX4_workOn 32 = .ok (.iload_n 2, 1) := by decide +kernel
theorem dX4_workOn_33 : decode cX4_workOn 33 = .ok (.invokestatic 97, 3) := by decide +kernel
theorem dX4_workOn_36 : decode cX4_workOn 36 = .ok (.ifCond .eq 62, 3) := by decide +kernel
theorem dX4_workOn_39 : decode cX4_workOn 39 = .ok (.aload_n 0, 1) := by decide +kernel
theorem dX4_workOn_40 : decode cX4_workOn 40 = .ok (.getfield 43, 3) := by decide +kernel
theorem dX4_workOn_43 : decode cX4_workOn 43 = .ok (.iload_n 1, 1) := by decide +kernel
theorem dX4_workOn_44 : decode cX4_workOn 44 = .ok (.iaload, 1) := by decide +kernel
theorem dX4_workOn_45 : decode cX4_workOn 45 = .ok (.aload_n 0, 1) := by decide +kernel
theorem dX4_workOn_46 : decode cX4_workOn 46 = .ok (.getfield 9, 3) := by decide +kernel
theorem dX4_workOn_49 : decode cX4_workOn 49 = .ok (.iload_n 2, 1) := by decide +kernel
theorem dX4_workOn_50 : decode cX4_workOn 50 = .ok (.iaload, 1) := by decide +kernel
theorem dX4_workOn_51 : decode cX4_workOn 51 = .ok (.if_icmp .lt 47, 3) := by decide +kernel
theorem dX4_workOn_54 : decode cX4_workOn 54 = .ok (.aload_n 0, 1) := by decide +kernel
theorem dX4_workOn_55 : decode cX4_workOn 55 = .ok (.iload_n 2, 1) := by decide +kernel
theorem dX4_workOn_56 : decode cX4_workOn 56 = .ok (.aload_n 3, 1) := by decide +kernel
theorem dX4_workOn_57 : decode cX4_workOn 57 = .ok (.aload_n 0, 1) := by decide +kernel
theorem dX4_workOn_58 : decode cX4_workOn 58 = .ok (.getfield 9, 3) := by decide +kernel
theorem dX4_workOn_61 : decode cX4_workOn 61 = .ok (.iload_n 2, 1) := by decide +kernel
theorem dX4_workOn_62 : decode cX4_workOn 62 = .ok (.iaload, 1) := by decide +kernel
theorem dX4_workOn_63 : decode cX4_workOn 63 = .ok (.invokevirtual 100, 3) := by decide +kernel
theorem dX4_workOn_66 : decode cX4_workOn 66 = .ok (.iload_n 1, 1) := by decide +kernel
theorem dX4_workOn_67 : decode cX4_workOn 67 = .ok (.invokevirtual 152, 3) := by decide +kernel
theorem dX4_workOn_70 : decode cX4_workOn 70 = .ok (.aload_n 0, 1) := by decide +kernel
theorem dX4_workOn_71 : decode cX4_workOn 71 = .ok (.getfield 34, 3) := by decide +kernel
theorem dX4_workOn_74 : decode cX4_workOn 74 = .ok (.iload_n 1, 1) := by decide +kernel
theorem dX4_workOn_75 : decode cX4_workOn 75 = .ok (.iconst 0, 1) := by decide +kernel
theorem dX4_workOn_76 : decode cX4_workOn 76 = .ok (.aload_n 0, 1) := by decide +kernel
theorem dX4_workOn_77 : decode cX4_workOn 77 = .ok (.getfield 34, 3) := by decide +kernel
theorem dX4_workOn_80 : decode cX4_workOn 80 = .ok (.iload_n 1, 1) := by decide +kernel
theorem dX4_workOn_81 : decode cX4_workOn 81 = .ok (.iaload, 1) := by decide +kernel
theorem dX4_workOn_82 : decode cX4_workOn 82 = .ok (.aload_n 3, 1) := by decide +kernel
theorem dX4_workOn_83 : decode cX4_workOn 83 = .ok (.invokevirtual 156, 3) := by decide +kernel
theorem dX4_workOn_86 : decode cX4_workOn 86 = .ok (.isub, 1) := by decide +kernel
theorem dX4_workOn_87 : decode cX4_workOn 87 = .ok (.invokestatic 159, 3) := by decide +kernel
theorem dX4_workOn_90 : decode cX4_workOn 90 = .ok (.iastore, 1) := by decide +kernel
theorem dX4_workOn_91 : decode cX4_workOn 91 = .ok (.aload_n 0, 1) := by decide +kernel
theorem dX4_workOn_92 : decode cX4_workOn 92 = .ok (.getfield 43, 3) := by decide +kernel
theorem dX4_workOn_95 : decode cX4_workOn 95 = .ok (.iload_n 1, 1) := by decide +kernel
theorem dX4_workOn_96 : decode cX4_workOn 96 = .ok (.iconst 0, 1) := by decide +kernel
theorem dX4_workOn_97 : decode cX4_workOn 97 = .ok (.iastore, 1) := by decide +kernel
theorem dX4_workOn_98 : decode cX4_workOn 98 = .ok (.return_, 1) := by decide +kernel
theorem dX4_freeze_0 : decode cX4_freeze 0 = .ok (.iconst 0, 1) := by decide +kernel
theorem dX4_freeze_1 : decode cX4_freeze 1 = .ok (.istore_n 1, 1) := by decide +kernel
theorem dX4_freeze_2 : decode cX4_freeze 2 = .ok (.iload_n 1, 1) := by decide +kernel
theorem dX4_freeze_3 : decode cX4_freeze 3 = .ok (.bipush 40, 2) := by decide +kernel
theorem dX4_freeze_5 : decode cX4_freeze 5 = .ok (.if_icmp .ge 33, 3) := by decide +kernel
theorem dX4_freeze_8 : decode cX4_freeze 8 = .ok (.aload_n 0, 1) := by decide +kernel
theorem dX4_freeze_9 : decode cX4_freeze 9 = .ok (.iload_n 1, 1) := by decide +kernel
theorem dX4_freeze_10 : decode cX4_freeze 10 = .ok (.invokevirtual 104, 3) := by decide +kernel
theorem dX4_freeze_13 : decode cX4_freeze 13 = .ok (.ifCond .eq 19, 3) := by decide +kernel
theorem dX4_freeze_16 : decode cX4_freeze 16 = .ok (.aload_n 0, 1) := by decide +kernel
theorem dX4_freeze_17 : decode cX4_freeze 17 = .ok (.invokevirtual 162, 3) := by decide +kernel
theorem dX4_freeze_20 : decode cX4_freeze 20 = .ok (.aload_n 0, 1) := by decide +kernel
theorem dX4_freeze_21 : decode cX4_freeze 21 = .ok (.getfield 69, 3) := by decide +kernel
theorem dX4_freeze_24 : decode cX4_freeze 24 = .ok (.if_icmp .ge 8, 3) := by decide +kernel
theorem dX4_freeze_27 : decode cX4_freeze 27 = .ok (.aload_n 0, 1) := by decide +kernel
theorem dX4_freeze_28 : decode cX4_freeze 28 = .ok (.iload_n 1, 1) := by decide +kernel
theorem dX4_freeze_29 : decode cX4_freeze 29 = .ok (.invokevirtual 165, 3) := by decide +kernel
theorem dX4_freeze_32 : decode cX4_freeze 32 = .ok (.iinc 1 1, 3) := by decide +kernel
theorem dX4_freeze_35 : decode cX4_freeze 35 = .ok (.goto (-33), 3) := by decide +kernel
theorem dX4_freeze_38 : decode cX4_freeze 38 = .ok (.return_, 1) := by decide +kernel
theorem dX4_draw_0 : decode cX4_draw 0 = .ok (.aload_n 0, 1) := by decide +kernel
theorem dX4_draw_1 : decode cX4_draw 1 = .ok (.aload_n 0, 1) := by decide +kernel
theorem dX4_draw_2 : decode cX4_draw 2 = .ok (.getfield 28, 3) := by decide +kernel
theorem dX4_draw_5 : decode cX4_draw 5 = .ok (.ldc 168, 2) := by decide +kernel
theorem dX4_draw_7 : decode cX4_draw 7 = .ok (.imul, 1) := by decide +kernel
theorem dX4_draw_8 : decode cX4_draw 8 = .ok (.sipush 12345, 3) := by decide +kernel
theorem dX4_draw_11 : decode cX4_draw 11 = .ok (.iadd, 1) := by decide +kernel
theorem dX4_draw_12 : decode cX4_draw 12 = .ok (.putfield 28, 3) := by decide +kernel
theorem dX4_draw_15 : decode cX4_draw 15 = .ok (.aload_n 0, 1) := by decide +kernel
theorem dX4_draw_16 : decode cX4_draw 16 = .ok (.getfield 28, 3) := by decide +kernel
theorem dX4_draw_19 : decode cX4_draw 19 = .ok (.bipush 8, 2) := by decide +kernel
theorem dX4_draw_21 : decode cX4_draw 21 = .ok (.iushr, 1) := by decide +kernel
theorem dX4_draw_22 : decode cX4_draw 22 = .ok (.bipush 10, 2) := by decide +kernel
theorem dX4_draw_24 : decode cX4_draw 24 = .ok (.irem, 1) := by decide +kernel
theorem dX4_draw_25 : decode cX4_draw 25 = .ok (.ireturn, 1) := by decide +kernel
theorem dX5_init_0 : decode cX5_init 0 = .ok (.aload_n 0, 1) := by decide +kernel
theorem dX5_init_1 : decode cX5_init 1 = .ok (.invokespecial 1, 3) := by decide +kernel
theorem dX5_init_4 : decode cX5_init 4 = .ok (.return_, 1) := by decide +kernel
theorem dX5_name_0 : decode cX5_name 0 = .ok (.ldc 7, 2) := by decide +kernel
theorem dX5_name_2 : decode cX5_name 2 = .ok (.areturn, 1) := by decide +kernel
theorem dX5_works_0 : decode cX5_works 0 = .ok (.aload_n 0, 1) := by decide +kernel
theorem dX5_works_1 : decode cX5_works 1 = .ok (.iload_n 1, 1) := by decide +kernel
theorem dX5_works_2 : decode cX5_works 2 = .ok (.iload_n 2, 1) := by decide +kernel
theorem dX5_works_3 : decode cX5_works 3 = .ok (.invokespecial 9, 3) := by decide +kernel
theorem dX5_works_6 : decode cX5_works 6 = .ok (.iload_n 2, 1) := by decide +kernel
theorem dX5_works_7 : decode cX5_works 7 = .ok (.bipush 10, 2) := by decide +kernel
theorem dX5_works_9 : decode cX5_works 9 = .ok (.idiv, 1) := by decide +kernel
theorem dX5_works_10 : decode cX5_works 10 = .ok (.iadd, 1) := by decide +kernel
theorem dX5_works_11 : decode cX5_works 11 = .ok (.ireturn, 1) := by decide +kernel
theorem dX5_cutsHigh_0 : decode cX5_cutsHigh 0 = .ok (.iload_n 1, 1) := by decide +kernel
theorem dX5_cutsHigh_1 : decode cX5_cutsHigh 1 = .ok (.iconst 5, 1) := by decide +kernel
theorem dX5_cutsHigh_2 : decode cX5_cutsHigh 2 = .ok (.if_icmp .le 8, 3) := by decide +kernel
theorem dX5_cutsHigh_5 : decode cX5_cutsHigh 5 = .ok (.bipush 7, 2) := by decide +kernel
theorem dX5_cutsHigh_7 : decode cX5_cutsHigh 7 = .ok (.goto 8, 3) := by decide +kernel
theorem dX5_cutsHigh_10 : decode cX5_cutsHigh 10 = .ok (.aload_n 0, 1) := by decide +kernel
theorem dX5_cutsHigh_11 : decode cX5_cutsHigh 11 = .ok (.iload_n 1, 1) := by decide +kernel
theorem dX5_cutsHigh_12 : decode cX5_cutsHigh 12 = .ok (.invokespecial 13, 3) := by decide +kernel
theorem dX5_cutsHigh_15 : decode cX5_cutsHigh 15 = .ok (.ireturn, 1) := by decide +kernel
theorem dX6_init_0 : decode cX6_init 0 = .ok (.aload_n 0, 1) := by decide +kernel
theorem dX6_init_1 : decode cX6_init 1 = .ok (.invokespecial 1, 3) := by decide +kernel
theorem dX6_init_4 : decode cX6_init 4 = .ok (.return_, 1) := by decide +kernel
theorem dX6_name_0 : decode cX6_name 0 = .ok (.ldc 7, 2) := by decide +kernel
theorem dX6_name_2 : decode cX6_name 2 = .ok (.areturn, 1) := by decide +kernel
theorem dX6_works_0 : decode cX6_works 0 = .ok (.iconst 2, 1) := by decide +kernel
theorem dX6_works_1 : decode cX6_works 1 = .ok (.aload_n 0, 1) := by decide +kernel
theorem dX6_works_2 : decode cX6_works 2 = .ok (.iload_n 1, 1) := by decide +kernel
theorem dX6_works_3 : decode cX6_works 3 = .ok (.iload_n 2, 1) := by decide +kernel
theorem dX6_works_4 : decode cX6_works 4 = .ok (.invokespecial 9, 3) := by decide +kernel
theorem dX6_works_7 : decode cX6_works 7 = .ok (.imul, 1) := by decide +kernel
theorem dX6_works_8 : decode cX6_works 8 = .ok (.ireturn, 1) := by decide +kernel
theorem dX7_init_0 : decode cX7_init 0 = .ok (.aload_n 0, 1) := by decide +kernel
theorem dX7_init_1 : decode cX7_init 1 = .ok (.invokespecial 3, 3) := by decide +kernel
theorem dX7_init_4 : decode cX7_init 4 = .ok (.aload_n 0, 1) := by decide +kernel
theorem dX7_init_5 : decode cX7_init 5 = .ok (.bipush 40, 2) := by decide +kernel
theorem dX7_init_7 : decode cX7_init 7 = .ok (.newarray .long, 2) := by decide +kernel
theorem dX7_init_9 : decode cX7_init 9 = .ok (.putfield 9, 3) := by decide +kernel
theorem dX7_init_12 : decode cX7_init 12 = .ok (.return_, 1) := by decide +kernel
theorem dX7_isMissing_0 : decode cX7_isMissing 0 = .ok (.aload_n 0, 1) := by decide +kernel
theorem dX7_isMissing_1 : decode cX7_isMissing 1 = .ok (.getfield 15, 3) := by decide +kernel
theorem dX7_isMissing_4 : decode cX7_isMissing 4 = .ok (.ifCond .ne 7, 3) := by decide +kernel
theorem dX7_isMissing_7 : decode cX7_isMissing 7 = .ok (.iconst 1, 1) := by decide +kernel
theorem dX7_isMissing_8 : decode cX7_isMissing 8 = .ok (.goto 4, 3) := by decide +kernel
theorem dX7_isMissing_11 : decode cX7_isMissing 11 = .ok (.iconst 0, 1) := by decide +kernel
theorem dX7_isMissing_12 : decode cX7_isMissing 12 = .ok (.ireturn, 1) := by decide +kernel
theorem dX7_layOut_0 : decode cX7_layOut 0 = .ok (.aload_n 0, 1) := by decide +kernel
theorem dX7_layOut_1 : decode cX7_layOut 1 = .ok (.iload_n 1, 1) := by decide +kernel
theorem dX7_layOut_2 : decode cX7_layOut 2 = .ok (.putfield 15, 3) := by decide +kernel
theorem dX7_layOut_5 : decode cX7_layOut 5 = .ok (.aload_n 0, 1) := by decide +kernel
theorem dX7_layOut_6 : decode cX7_layOut 6 = .ok (.iload_n 1, 1) := by decide +kernel
theorem dX7_layOut_7 : decode cX7_layOut 7 = .ok (.ifCond .ne 7, 3) := by decide +kernel
theorem dX7_layOut_10 : decode cX7_layOut 10 = .ok (.iconst 0, 1) := by decide +kernel
theorem dX7_layOut_11 : decode cX7_layOut 11 = .ok (.goto 4, 3) := by decide +kernel
theorem dX7_layOut_14 : decode cX7_layOut 14 = .ok (.iload_n 2, 1) := by decide +kernel
theorem dX7_layOut_15 : decode cX7_layOut 15 = .ok (.putfield 19, 3) := by decide +kernel
theorem dX7_layOut_18 : decode cX7_layOut 18 = .ok (.aload_n 0, 1) := by decide +kernel
theorem dX7_layOut_19 : decode cX7_layOut 19 = .ok (.getfield 9, 3) := by decide +kernel
theorem dX7_layOut_22 : decode cX7_layOut 22 = .ok (.lconst 0, 1) := by decide +kernel
theorem dX7_layOut_23 : decode cX7_layOut 23 = .ok (.invokestatic 22, 3) := by decide +kernel
theorem dX7_layOut_26 : decode cX7_layOut 26 = .ok (.return_, 1) := by decide +kernel
theorem dX7_holds_0 : decode cX7_holds 0 = .ok (.iload_n 1, 1) := by decide +kernel
theorem dX7_holds_1 : decode cX7_holds 1 = .ok (.ifCond .lt 29, 3) := by decide +kernel
theorem dX7_holds_4 : decode cX7_holds 4 = .ok (.iload_n 2, 1) := by decide +kernel
theorem dX7_holds_5 : decode cX7_holds 5 = .ok (.ifCond .lt 25, 3) := by decide +kernel
theorem dX7_holds_8 : decode cX7_holds 8 = .ok (.iload_n 2, 1) := by decide +kernel
theorem dX7_holds_9 : decode cX7_holds 9 = .ok (.aload_n 0, 1) := by decide +kernel
theorem dX7_holds_10 : decode cX7_holds 10 = .ok (.getfield 19, 3) := by decide +kernel
theorem dX7_holds_13 : decode cX7_holds 13 = .ok (.if_icmp .gt 17, 3) := by decide +kernel
theorem dX7_holds_16 : decode cX7_holds 16 = .ok (.iload_n 1, 1) := by decide +kernel
theorem dX7_holds_17 : decode cX7_holds 17 = .ok (.aload_n 0, 1) := by decide +kernel
theorem dX7_holds_18 : decode cX7_holds 18 = .ok (.getfield 19, 3) := by decide +kernel
theorem dX7_holds_21 : decode cX7_holds 21 = .ok (.iload_n 2, 1) := by decide +kernel
theorem dX7_holds_22 : decode cX7_holds 22 = .ok (.isub, 1) := by decide +kernel
theorem dX7_holds_23 : decode cX7_holds 23 = .ok (.if_icmp .gt 7, 3) := by decide +kernel
theorem dX7_holds_26 : decode cX7_holds 26 = .ok (.iconst 1, 1) := by decide +kernel
theorem dX7_holds_27 : decode cX7_holds 27 = .ok (.goto 4, 3) := by decide +kernel
theorem dX7_holds_30 : decode cX7_holds 30 = .ok (.iconst 0, 1) := by decide +kernel
theorem dX7_holds_31 : decode cX7_holds 31 = .ok (.ireturn, 1) := by decide +kernel
theorem dX7_put_0 : decode cX7_put 0 = .ok (.aload_n 0, 1) := by decide +kernel
theorem dX7_put_1 : decode cX7_put 1 = .ok (.iload_n 1, 1) := by decide +kernel
theorem dX7_put_2 : decode cX7_put 2 = .ok (.iconst 1, 1) := by decide +kernel
theorem dX7_put_3 : decode cX7_put 3 = .ok (.invokevirtual 28, 3) := by decide +kernel
theorem dX7_put_6 : decode cX7_put 6 = .ok (.ifCond .eq 14, 3) := by decide +kernel
theorem dX7_put_9 : decode cX7_put 9 = .ok (.aload_n 0, 1) := by decide +kernel
theorem dX7_put_10 : decode cX7_put 10 = .ok (.getfield 9, 3) := by decide +kernel
theorem dX7_put_13 : decode cX7_put 13 = .ok (.iload_n 1, 1) := by decide +kernel
theorem dX7_put_14 : decode cX7_put 14 = .ok (.aload_n 0, 1) := by decide +kernel
theorem dX7_put_15 : decode cX7_put 15 = .ok (.lload_n 2, 1) := by decide +kernel
theorem dX7_put_16 : decode cX7_put 16 = .ok (.invokevirtual 32, 3) := by decide +kernel
theorem dX7_put_19 : decode cX7_put 19 = .ok (.lastore, 1) := by decide +kernel
theorem dX7_put_20 : decode cX7_put 20 = .ok (.return_, 1) := by decide +kernel
theorem dX7_lowest_0 : decode cX7_lowest 0 = .ok (.aload_n 0, 1) := by decide +kernel
theorem dX7_lowest_1 : decode cX7_lowest 1 = .ok (.getfield 15, 3) := by decide +kernel
theorem dX7_lowest_4 : decode cX7_lowest 4 = .ok (.bipush 8, 2) := by decide +kernel
theorem dX7_lowest_6 : decode cX7_lowest 6 = .ok (.if_icmp .ne 8, 3) := by decide +kernel
theorem dX7_lowest_9 : decode cX7_lowest 9 = .ok (.lload_n 1, 1) := by decide +kernel
theorem dX7_lowest_10 : decode cX7_lowest 10 = .ok (.l2i, 1) := by decide +kernel
theorem dX7_lowest_11 : decode cX7_lowest 11 = .ok (.i2b, 1) := by decide +kernel
theorem dX7_lowest_12 : decode cX7_lowest 12 = .ok (.i2l, 1) := by decide +kernel
theorem dX7_lowest_13 : decode cX7_lowest 13 = .ok (.lreturn, 1) := by decide +kernel
theorem dX7_lowest_14 : decode cX7_lowest 14 = .ok (.aload_n 0, 1) := by decide +kernel
theorem dX7_lowest_15 : decode cX7_lowest 15 = .ok (.getfield 15, 3) := by decide +kernel
theorem dX7_lowest_18 : decode cX7_lowest 18 = .ok (.bipush 16, 2) := by decide +kernel
theorem dX7_lowest_20 : decode cX7_lowest 20 = .ok (.if_icmp .ne 10, 3) := by decide +kernel
theorem dX7_lowest_23 : decode cX7_lowest 23 = .ok (.lload_n 1, 1) := by decide +kernel
theorem dX7_lowest_24 : decode cX7_lowest 24 = .ok (.l2i, 1) := by decide +kernel
theorem dX7_lowest_25 : decode cX7_lowest 25 = .ok (.i2s, 1) := by decide +kernel
theorem dX7_lowest_26 : decode cX7_lowest 26 = .ok (.i2l, 1) := by decide +kernel
theorem dX7_lowest_27 : decode cX7_lowest 27 = .ok (.goto 4, 3) := by decide +kernel
theorem dX7_lowest_30 : decode cX7_lowest 30 = .ok (.lload_n 1, 1) := by decide +kernel
theorem dX7_lowest_31 : decode cX7_lowest 31 = .ok (.lreturn, 1) := by decide +kernel
theorem dX8_init_0 : decode cX8_init 0 = .ok (.aload_n 0, 1) := by decide +kernel
theorem dX8_init_1 : decode cX8_init 1 = .ok (.invokespecial 3, 3) := by decide +kernel
theorem dX8_init_4 : decode cX8_init 4 = .ok (.aload_n 0, 1) := by decide +kernel
theorem dX8_init_5 : decode cX8_init 5 = .ok (.bipush 120, 2) := by decide +kernel
theorem dX8_init_7 : decode cX8_init 7 = .ok (.newarray .int, 2) := by decide +kernel
theorem dX8_init_9 : decode cX8_init 9 = .ok (.putfield 9, 3) := by decide +kernel
theorem dX8_init_12 : decode cX8_init 12 = .ok (.aload_n 0, 1) := by decide +kernel
theorem dX8_init_13 : decode cX8_init 13 = .ok (.aload_n 1, 1) := by decide +kernel
theorem dX8_init_14 : decode cX8_init 14 = .ok (.putfield 15, 3) := by decide +kernel
theorem dX8_init_17 : decode cX8_init 17 = .ok (.return_, 1) := by decide +kernel
theorem dX8_append_0 : decode cX8_append 0 = .ok (.aload_n 0, 1) := by decide +kernel
theorem dX8_append_1 : decode cX8_append 1 = .ok (.getfield 19, 3) := by decide +kernel
theorem dX8_append_4 : decode cX8_append 4 = .ok (.bipush 120, 2) := by decide +kernel
theorem dX8_append_6 : decode cX8_append 6 = .ok (.if_icmp .ge 23, 3) := by decide +kernel
theorem dX8_append_9 : decode cX8_append 9 = .ok (.aload_n 0, 1) := by decide +kernel
theorem dX8_append_10 : decode cX8_append 10 = .ok (.getfield 9, 3) := by decide +kernel
theorem dX8_append_13 : decode cX8_append 13 = .ok (.aload_n 0, 1) := by decide +kernel
theorem dX8_append_14 : decode cX8_append 14 = .ok (.getfield 19, 3) := by decide +kernel
theorem dX8_append_17 : decode cX8_append 17 = .ok (.iload_n 1, 1) := by decide +kernel
theorem dX8_append_18 : decode cX8_append 18 = .ok (.iastore, 1) := by decide +kernel
theorem dX8_append_19 : decode cX8_append 19 = .ok (.aload_n 0, 1) := by decide +kernel
theorem dX8_append_20 : decode cX8_append 20 = .ok (.dup, 1) := by decide +kernel
theorem dX8_append_21 : decode cX8_append 21 = .ok (.getfield 19, 3) := by decide +kernel
theorem dX8_append_24 : decode cX8_append 24 = .ok (.iconst 1, 1) := by decide +kernel
theorem dX8_append_25 : decode cX8_append 25 = .ok (.iadd, 1) := by decide +kernel
theorem dX8_append_26 : decode cX8_append 26 = .ok (.putfield 19, 3) := by decide +kernel
theorem dX8_append_29 : decode cX8_append 29 = .ok (.return_, 1) := by decide +kernel
theorem dX8_tell_0 : decode cX8_tell 0 = .ok (.aload_n 0, 1) := by decide +kernel
theorem dX8_tell_1 : decode cX8_tell 1 = .ok (.iconst 0, 1) := by decide +kernel
theorem dX8_tell_2 : decode cX8_tell 2 = .ok (.putfield 23, 3) := by decide +kernel
theorem dX8_tell_5 : decode cX8_tell 5 = .ok (.aload_n 0, 1) := by decide +kernel
theorem dX8_tell_6 : decode cX8_tell 6 = .ok (.invokevirtual 26, 3) := by decide +kernel
theorem dX8_tell_9 : decode cX8_tell 9 = .ok (.iconst 1, 1) := by decide +kernel
theorem dX8_tell_10 : decode cX8_tell 10 = .ok (.istore_n 2, 1) := by decide +kernel
theorem dX8_tell_11 : decode cX8_tell 11 = .ok (.iload_n 2, 1) := by decide +kernel
theorem dX8_tell_12 : decode cX8_tell 12 = .ok (.bipush 120, 2) := by decide +kernel
theorem dX8_tell_14 : decode cX8_tell 14 = .ok (.if_icmp .gt 52, 3) := by decide +kernel
theorem dX8_tell_17 : decode cX8_tell 17 = .ok (.aload_n 0, 1) := by decide +kernel
theorem dX8_tell_18 : decode cX8_tell 18 = .ok (.aload_n 1, 1) := by decide +kernel
theorem dX8_tell_19 : decode cX8_tell 19 = .ok (.invokevirtual 29, 3) := by decide +kernel
theorem dX8_tell_22 : decode cX8_tell 22 = .ok (.ifCond .ne 10, 3) := by decide +kernel
theorem dX8_tell_25 : decode cX8_tell 25 = .ok (.iconst (-1), 1) := by decide +kernel
theorem dX8_tell_26 : decode cX8_tell 26 = .ok (.aload_n 0, 1) := by decide +kernel
theorem dX8_tell_27 : decode cX8_tell 27 = .ok (.getfield 33, 3) := by decide +kernel
theorem dX8_tell_30 : decode cX8_tell 30 = .ok (.isub, 1) := by decide +kernel
theorem dX8_tell_31 : decode cX8_tell 31 = .ok (.ireturn, 1) := by decide +kernel
theorem dX8_tell_32 : decode cX8_tell 32 = .ok (.aload_n 0, 1) := by decide +kernel
theorem dX8_tell_33 : decode cX8_tell 33 = .ok (.getfield 36, 3) := by decide +kernel
theorem dX8_tell_36 : decode cX8_tell 36 = .ok (.ifCond .ne 5, 3) := by decide +kernel
theorem dX8_tell_39 : decode cX8_tell 39 = .ok (.iload_n 2, 1) := by decide +kernel
theorem dX8_tell_40 : decode cX8_tell 40 = .ok (.ireturn, 1) := by decide +kernel
theorem dX8_tell_41 : decode cX8_tell 41 = .ok (.aload_n 0, 1) := by decide +kernel
theorem dX8_tell_42 : decode cX8_tell 42 = .ok (.getfield 36, 3) := by decide +kernel
theorem dX8_tell_45 : decode cX8_tell 45 = .ok (.iconst 3, 1) := by decide +kernel
theorem dX8_tell_46 : decode cX8_tell 46 = .ok (.if_icmp .eq 10, 3) := by decide +kernel
theorem dX8_tell_49 : decode cX8_tell 49 = .ok (.iconst (-1), 1) := by decide +kernel
theorem dX8_tell_50 : decode cX8_tell 50 = .ok (.aload_n 0, 1) := by decide +kernel
theorem dX8_tell_51 : decode cX8_tell 51 = .ok (.getfield 33, 3) := by decide +kernel
theorem dX8_tell_54 : decode cX8_tell 54 = .ok (.isub, 1) := by decide +kernel
theorem dX8_tell_55 : decode cX8_tell 55 = .ok (.ireturn, 1) := by decide +kernel
theorem dX8_tell_56 : decode cX8_tell 56 = .ok (.aload_n 0, 1) := by decide +kernel
theorem dX8_tell_57 : decode cX8_tell 57 = .ok (.invokevirtual 26, 3) := by decide +kernel
theorem dX8_tell_60 : decode cX8_tell 60 = .ok (.iinc 2 1, 3) := by decide +kernel
theorem dX8_tell_63 : decode cX8_tell 63 = .ok (.goto (-52), 3) := by decide +kernel
theorem dX8_tell_66 : decode cX8_tell 66 = .ok (.iconst (-1), 1) := by decide +kernel
theorem dX8_tell_67 : decode cX8_tell 67 = .ok (.aload_n 0, 1) := by decide +kernel
theorem dX8_tell_68 : decode cX8_tell 68 = .ok (.getfield 33, 3) := by decide +kernel
theorem dX8_tell_71 : decode cX8_tell 71 = .ok (.isub, 1) := by decide +kernel
theorem dX8_tell_72 : decode cX8_tell 72 = .ok (.ireturn, 1) := by decide +kernel
theorem dX8_item_0 : decode cX8_item 0 = .ok (.iconst 0, 1) := by decide +kernel
theorem dX8_item_1 : decode cX8_item 1 = .ok (.istore_n 2, 1) := by decide +kernel
theorem dX8_item_2 : decode cX8_item 2 = .ok (.iload_n 2, 1) := by decide +kernel
theorem dX8_item_3 : decode cX8_item 3 = .ok (.bipush 6, 2) := by decide +kernel
theorem dX8_item_5 : decode cX8_item 5 = .ok (.if_icmp .ge 32, 3) := by decide +kernel
theorem dX8_item_8 : decode cX8_item 8 = .ok (.aload_n 0, 1) := by decide +kernel
theorem dX8_item_9 : decode cX8_item 9 = .ok (.aload_n 0, 1) := by decide +kernel
theorem dX8_item_10 : decode cX8_item 10 = .ok (.getfield 15, 3) := by decide +kernel
theorem dX8_item_13 : decode cX8_item 13 = .ok (.iload_n 2, 1) := by decide +kernel
theorem dX8_item_14 : decode cX8_item 14 = .ok (.aaload, 1) := by decide +kernel
theorem dX8_item_15 : decode cX8_item 15 = .ok (.invokevirtual 39, 3) := by decide +kernel
theorem dX8_item_18 : decode cX8_item 18 = .ok (.invokevirtual 45, 3) := by decide +kernel
theorem dX8_item_21 : decode cX8_item 21 = .ok (.ifCond .eq 10, 3) := by decide +kernel
theorem dX8_item_24 : decode cX8_item 24 = .ok (.aload_n 0, 1) := by decide +kernel
theorem dX8_item_25 : decode cX8_item 25 = .ok (.aload_n 1, 1) := by decide +kernel
theorem dX8_item_26 : decode cX8_item 26 = .ok (.iload_n 2, 1) := by decide +kernel
theorem dX8_item_27 : decode cX8_item 27 = .ok (.invokevirtual 49, 3) := by decide +kernel
theorem dX8_item_30 : decode cX8_item 30 = .ok (.ireturn, 1) := by decide +kernel
theorem dX8_item_31 : decode cX8_item 31 = .ok (.iinc 2 1, 3) := by decide +kernel
theorem dX8_item_34 : decode cX8_item 34 = .ok (.goto (-32), 3) := by decide +kernel
theorem dX8_item_37 : decode cX8_item 37 = .ok (.aload_n 0, 1) := by decide +kernel
theorem dX8_item_38 : decode cX8_item 38 = .ok (.ldc 53, 2) := by decide +kernel
theorem dX8_item_40 : decode cX8_item 40 = .ok (.invokevirtual 55, 3) := by decide +kernel
theorem dX8_item_43 : decode cX8_item 43 = .ok (.ifCond .eq 9, 3) := by decide +kernel
theorem dX8_item_46 : decode cX8_item 46 = .ok (.aload_n 0, 1) := by decide +kernel
theorem dX8_item_47 : decode cX8_item 47 = .ok (.aload_n 1, 1) := by decide +kernel
theorem dX8_item_48 : decode cX8_item 48 = .ok (.invokevirtual 58, 3) := by decide +kernel
theorem dX8_item_51 : decode cX8_item 51 = .ok (.ireturn, 1) := by decide +kernel
theorem dX8_item_52 : decode cX8_item 52 = .ok (.aload_n 0, 1) := by decide +kernel
theorem dX8_item_53 : decode cX8_item 53 = .ok (.ldc 61, 2) := by decide +kernel
theorem dX8_item_55 : decode cX8_item 55 = .ok (.invokevirtual 55, 3) := by decide +kernel
theorem dX8_item_58 : decode cX8_item 58 = .ok (.ifCond .eq 25, 3) := by decide +kernel
theorem dX8_item_61 : decode cX8_item 61 = .ok (.aload_n 0, 1) := by decide +kernel
theorem dX8_item_62 : decode cX8_item 62 = .ok (.iconst 0, 1) := by decide +kernel
theorem dX8_item_63 : decode cX8_item 63 = .ok (.bipush 9, 2) := by decide +kernel
theorem dX8_item_65 : decode cX8_item 65 = .ok (.invokevirtual 63, 3) := by decide +kernel
theorem dX8_item_68 : decode cX8_item 68 = .ok (.ifCond .ne 5, 3) := by decide +kernel
theorem dX8_item_71 : decode cX8_item 71 = .ok (.iconst 0, 1) := by decide +kernel
theorem dX8_item_72 : decode cX8_item 72 = .ok (.ireturn, 1) := by decide +kernel
theorem dX8_item_73 : decode cX8_item 73 = .ok (.aload_n 1, 1) := by decide +kernel
theorem dX8_item_74 : decode cX8_item 74 = .ok (.aload_n 0, 1) := by decide +kernel
theorem dX8_item_75 : decode cX8_item 75 = .ok (.getfield 67, 3) := by decide +kernel
theorem dX8_item_78 : decode cX8_item 78 = .ok (.putfield 70, 3) := by decide +kernel
theorem dX8_item_81 : decode cX8_item 81 = .ok (.iconst 1, 1) := by decide +kernel
theorem dX8_item_82 : decode cX8_item 82 = .ok (.ireturn, 1) := by decide +kernel
theorem dX8_item_83 : decode cX8_item 83 = .ok (.aload_n 0, 1) := by decide +kernel
theorem dX8_item_84 : decode cX8_item 84 = .ok (.ldc 74, 2) := by decide +kernel
theorem dX8_item_86 : decode cX8_item 86 = .ok (.invokevirtual 55, 3) := by decide +kernel
theorem dX8_item_89 : decode cX8_item 89 = .ok (.ifCond .eq 25, 3) := by decide +kernel
theorem dX8_item_92 : decode cX8_item 92 = .ok (.aload_n 0, 1) := by decide +kernel
theorem dX8_item_93 : decode cX8_item 93 = .ok (.iconst 0, 1) := by decide +kernel
theorem dX8_item_94 : decode cX8_item 94 = .ok (.bipush 20, 2) := by decide +kernel
theorem dX8_item_96 : decode cX8_item 96 = .ok (.invokevirtual 63, 3) := by decide +kernel
theorem dX8_item_99 : decode cX8_item 99 = .ok (.ifCond .ne 5, 3) := by decide +kernel
theorem dX8_item_102 : decode cX8_item 102 = .ok (.iconst 0, 1) := by decide +kernel
theorem dX8_item_103 : decode cX8_item 103 = .ok (.ireturn, 1) := by decide +kernel
theorem dX8_item_104 : decode cX8_item 104 = .ok (.aload_n 1, 1) := by decide +kernel
theorem dX8_item_105 : decode cX8_item 105 = .ok (.aload_n 0, 1) := by decide +kernel
theorem dX8_item_106 : decode cX8_item 106 = .ok (.getfield 67, 3) := by decide +kernel
theorem dX8_item_109 : decode cX8_item 109 = .ok (.putfield 76, 3) := by decide +kernel
theorem dX8_item_112 : decode cX8_item 112 = .ok (.iconst 1, 1) := by decide +kernel
theorem dX8_item_113 : decode cX8_item 113 = .ok (.ireturn, 1) := by decide +kernel
theorem dX8_item_114 : decode cX8_item 114 = .ok (.iconst 0, 1) := by decide +kernel
theorem dX8_item_115 : decode cX8_item 115 = .ok (.ireturn, 1) := by decide +kernel
theorem dX8_fineItem_0 : decode cX8_fineItem 0 = .ok (.aload_n 1, 1) := by decide +kernel
theorem dX8_fineItem_1 : decode cX8_fineItem 1 = .ok (.invokevirtual 78, 3) := by decide +kernel
theorem dX8_fineItem_4 : decode cX8_fineItem 4 = .ok (.ifCond .eq 5, 3) := by decide +kernel
theorem dX8_fineItem_7 : decode cX8_fineItem 7 = .ok (.iconst 0, 1) := by decide +kernel
theorem dX8_fineItem_8 : decode cX8_fineItem 8 = .ok (.ireturn, 1) := by decide +kernel
theorem dX8_fineItem_9 : decode cX8_fineItem 9 = .ok (.aload_n 0, 1) := by decide +kernel
theorem dX8_fineItem_10 : decode cX8_fineItem 10 = .ok (.invokevirtual 26, 3) := by decide +kernel
theorem dX8_fineItem_13 : decode cX8_fineItem 13 = .ok (.aload_n 0, 1) := by decide +kernel
theorem dX8_fineItem_14 : decode cX8_fineItem 14 = .ok (.iconst 1, 1) := by decide +kernel
theorem dX8_fineItem_15 : decode cX8_fineItem 15 = .ok (.bipush 40, 2) := by decide +kernel
theorem dX8_fineItem_17 : decode cX8_fineItem 17 = .ok (.invokevirtual 63, 3) := by decide +kernel
theorem dX8_fineItem_20 : decode cX8_fineItem 20 = .ok (.ifCond .ne 5, 3) := by decide +kernel
theorem dX8_fineItem_23 : decode cX8_fineItem 23 = .ok (.iconst 0, 1) := by decide +kernel
theorem dX8_fineItem_24 : decode cX8_fineItem 24 = .ok (.ireturn, 1) := by decide +kernel
theorem dX8_fineItem_25 : decode cX8_fineItem 25 = .ok (.aload_n 0, 1) := by decide +kernel
theorem dX8_fineItem_26 : decode cX8_fineItem 26 = .ok (.getfield 67, 3) := by decide +kernel
theorem dX8_fineItem_29 : decode cX8_fineItem 29 = .ok (.istore_n 3, 1) := by decide +kernel
theorem dX8_fineItem_30 : decode cX8_fineItem 30 = .ok (.aload_n 0, 1) := by decide +kernel
theorem dX8_fineItem_31 : decode cX8_fineItem 31 = .ok (.ldc 82, 2) := by decide +kernel
theorem dX8_fineItem_33 : decode cX8_fineItem 33 = .ok (.invokevirtual 55, 3) := by decide +kernel
theorem dX8_fineItem_36 : decode cX8_fineItem 36 = .ok (.ifCond .eq 13, 3) := by decide +kernel
theorem dX8_fineItem_39 : decode cX8_fineItem 39 = .ok (.aload_n 0, 1) := by decide +kernel
theorem dX8_fineItem_40 : decode cX8_fineItem 40 = .ok (.iconst 0, 1) := by decide +kernel
theorem dX8_fineItem_41 : decode cX8_fineItem 41 = .ok (.bipush 39, 2) := by decide +kernel
theorem dX8_fineItem_43 : decode cX8_fineItem 43 = .ok (.invokevirtual 63, 3) := by decide +kernel
theorem dX8_fineItem_46 : decode cX8_fineItem 46 = .ok (.ifCond .ne 5, 3) := by decide +kernel
theorem dX8_fineItem_49 : decode cX8_fineItem 49 = .ok (.iconst 0, 1) := by decide +kernel
theorem dX8_fineItem_50 : decode cX8_fineItem 50 = .ok (.ireturn, 1) := by decide +kernel
theorem dX8_fineItem_51 : decode cX8_fineItem 51 = .ok (.aload_n 0, 1) := by decide +kernel
theorem dX8_fineItem_52 : decode cX8_fineItem 52 = .ok (.getfield 67, 3) := by decide +kernel
theorem dX8_fineItem_55 : decode cX8_fineItem 55 = .ok (.istore 4, 2) := by decide +kernel
theorem dX8_fineItem_57 : decode cX8_fineItem 57 = .ok (.iconst 3, 1) := by decide +kernel
theorem dX8_fineItem_58 : decode cX8_fineItem 58 = .ok (.istore 5, 2) := by decide +kernel
theorem dX8_fineItem_60 : decode cX8_fineItem 60 = .ok (.aload_n 0, 1) := by decide +kernel
theorem dX8_fineItem_61 : decode cX8_fineItem 61 = .ok (.ldc 84, 2) := by decide +kernel
theorem dX8_fineItem_63 : decode cX8_fineItem 63 = .ok (.invokevirtual 55, 3) := by decide +kernel
theorem dX8_fineItem_66 : decode cX8_fineItem 66 = .ok (.ifCond .eq 21, 3) := by decide +kernel
theorem dX8_fineItem_69 : decode cX8_fineItem 69 = .ok (.aload_n 0, 1) := by decide +kernel
theorem dX8_fineItem_70 : decode cX8_fineItem 70 = .ok (.iconst 1, 1) := by decide +kernel
theorem dX8_fineItem_71 : decode cX8_fineItem 71 = .ok (.bipush 9, 2) := by decide +kernel
theorem dX8_fineItem_73 : decode cX8_fineItem 73 = .ok (.invokevirtual 63, 3) := by decide +kernel
theorem dX8_fineItem_76 : decode cX8_fineItem 76 = .ok (.ifCond .ne 5, 3) := by decide +kernel
theorem dX8_fineItem_79 : decode cX8_fineItem 79 = .ok (.iconst 0, 1) := by decide +kernel
theorem dX8_fineItem_80 : decode cX8_fineItem 80 = .ok (.ireturn, 1) := by decide +kernel
theorem dX8_fineItem_81 : decode cX8_fineItem 81 = .ok (.aload_n 0, 1) := by decide +kernel
theorem dX8_fineItem_82 : decode cX8_fineItem 82 = .ok (.getfield 67, 3) := by decide +kernel
theorem dX8_fineItem_85 : decode cX8_fineItem 85 = .ok (.istore 5, 2) := by decide +kernel
theorem dX8_fineItem_87 : decode cX8_fineItem 87 = .ok (.aload_n 1, 1) := by decide +kernel
theorem dX8_fineItem_88 : decode cX8_fineItem 88 = .ok (.iload_n 2, 1) := by decide +kernel
theorem dX8_fineItem_89 : decode cX8_fineItem 89 = .ok (.iload_n 3, 1) := by decide +kernel
theorem dX8_fineItem_90 : decode cX8_fineItem 90 = .ok (.iload 4, 2) := by decide +kernel
theorem dX8_fineItem_92 : decode cX8_fineItem 92 = .ok (.iload 5, 2) := by decide +kernel
theorem dX8_fineItem_94 : decode cX8_fineItem 94 = .ok (.invokevirtual 86, 3) := by decide +kernel
theorem dX8_fineItem_97 : decode cX8_fineItem 97 = .ok (.iconst 1, 1) := by decide +kernel
theorem dX8_fineItem_98 : decode cX8_fineItem 98 = .ok (.ireturn, 1) := by decide +kernel
theorem dX8_rockItem_0 : decode cX8_rockItem 0 = .ok (.aload_n 0, 1) := by decide +kernel
theorem dX8_rockItem_1 : decode cX8_rockItem 1 = .ok (.iconst 0, 1) := by decide +kernel
theorem dX8_rockItem_2 : decode cX8_rockItem 2 = .ok (.bipush 39, 2) := by decide +kernel
theorem dX8_rockItem_4 : decode cX8_rockItem 4 = .ok (.invokevirtual 63, 3) := by decide +kernel
theorem dX8_rockItem_7 : decode cX8_rockItem 7 = .ok (.ifCond .ne 5, 3) := by decide +kernel
theorem dX8_rockItem_10 : decode cX8_rockItem 10 = .ok (.iconst 0, 1) := by decide +kernel
theorem dX8_rockItem_11 : decode cX8_rockItem 11 = .ok (.ireturn, 1) := by decide +kernel
theorem dX8_rockItem_12 : decode cX8_rockItem 12 = .ok (.aload_n 0, 1) := by decide +kernel
theorem dX8_rockItem_13 : decode cX8_rockItem 13 = .ok (.getfield 67, 3) := by decide +kernel
theorem dX8_rockItem_16 : decode cX8_rockItem 16 = .ok (.istore_n 2, 1) := by decide +kernel
theorem dX8_rockItem_17 : decode cX8_rockItem 17 = .ok (.iload_n 2, 1) := by decide +kernel
theorem dX8_rockItem_18 : decode cX8_rockItem 18 = .ok (.istore_n 3, 1) := by decide +kernel
theorem dX8_rockItem_19 : decode cX8_rockItem 19 = .ok (.aload_n 0, 1) := by decide +kernel
theorem dX8_rockItem_20 : decode cX8_rockItem 20 = .ok (.ldc 90, 2) := by decide +kernel
theorem dX8_rockItem_22 : decode cX8_rockItem 22 = .ok (.invokevirtual 55, 3) := by decide +kernel
theorem dX8_rockItem_25 : decode cX8_rockItem 25 = .ok (.ifCond .eq 20, 3) := by decide +kernel
theorem dX8_rockItem_28 : decode cX8_rockItem 28 = .ok (.aload_n 0, 1) := by decide +kernel
theorem dX8_rockItem_29 : decode cX8_rockItem 29 = .ok (.iload_n 2, 1) := by decide +kernel
theorem dX8_rockItem_30 : decode cX8_rockItem 30 = .ok (.bipush 39, 2) := by decide +kernel
theorem dX8_rockItem_32 : decode cX8_rockItem 32 = .ok (.invokevirtual 63, 3) := by decide +kernel
theorem dX8_rockItem_35 : decode cX8_rockItem 35 = .ok (.ifCond .ne 5, 3) := by decide +kernel
theorem dX8_rockItem_38 : decode cX8_rockItem 38 = .ok (.iconst 0, 1) := by decide +kernel
theorem dX8_rockItem_39 : decode cX8_rockItem 39 = .ok (.ireturn, 1) := by decide +kernel
theorem dX8_rockItem_40 : decode cX8_rockItem 40 = .ok (.aload_n 0, 1) := by decide +kernel
theorem dX8_rockItem_41 : decode cX8_rockItem 41 = .ok (.getfield 67, 3) := by decide +kernel
theorem dX8_rockItem_44 : decode cX8_rockItem 44 = .ok (.istore_n 3, 1) := by decide +kernel
theorem dX8_rockItem_45 : decode cX8_rockItem 45 = .ok (.aload_n 0, 1) := by decide +kernel
theorem dX8_rockItem_46 : decode cX8_rockItem 46 = .ok (.ldc 92, 2) := by decide +kernel
theorem dX8_rockItem_48 : decode cX8_rockItem 48 = .ok (.invokevirtual 55, 3) := by decide +kernel
theorem dX8_rockItem_51 : decode cX8_rockItem 51 = .ok (.ifCond .eq 13, 3) := by decide +kernel
theorem dX8_rockItem_54 : decode cX8_rockItem 54 = .ok (.aload_n 0, 1) := by decide +kernel
theorem dX8_rockItem_55 : decode cX8_rockItem 55 = .ok (.iconst 1, 1) := by decide +kernel
theorem dX8_rockItem_56 : decode cX8_rockItem 56 = .ok (.bipush 9, 2) := by decide +kernel
theorem dX8_rockItem_58 : decode cX8_rockItem 58 = .ok (.invokevirtual 63, 3) := by decide +kernel
theorem dX8_rockItem_61 : decode cX8_rockItem 61 = .ok (.ifCond .ne 5, 3) := by decide +kernel
theorem dX8_rockItem_64 : decode cX8_rockItem 64 = .ok (.iconst 0, 1) := by decide +kernel
theorem dX8_rockItem_65 : decode cX8_rockItem 65 = .ok (.ireturn, 1) := by decide +kernel
theorem dX8_rockItem_66 : decode cX8_rockItem 66 = .ok (.iload_n 2, 1) := by decide +kernel
theorem dX8_rockItem_67 : decode cX8_rockItem 67 = .ok (.istore 4, 2) := by decide +kernel
theorem dX8_rockItem_69 : decode cX8_rockItem 69 = .ok (.iload 4, 2) := by decide +kernel
theorem dX8_rockItem_71 : decode cX8_rockItem 71 = .ok (.iload_n 3, 1) := by decide +kernel
theorem dX8_rockItem_72 : decode cX8_rockItem 72 = .ok (.if_icmp .gt 27, 3) := by decide +kernel
theorem dX8_rockItem_75 : decode cX8_rockItem 75 = .ok (.iload 4, 2) := by decide +kernel
theorem dX8_rockItem_77 : decode cX8_rockItem 77 = .ok (.bipush 40, 2) := by decide +kernel
theorem dX8_rockItem_79 : decode cX8_rockItem 79 = .ok (.if_icmp .ge 20, 3) := by decide +kernel
theorem dX8_rockItem_82 : decode cX8_rockItem 82 = .ok (.aload_n 1, 1) := by decide +kernel
theorem dX8_rockItem_83 : decode cX8_rockItem 83 = .ok (.getfield 94, 3) := by decide +kernel
theorem dX8_rockItem_86 : decode cX8_rockItem 86 = .ok (.iload 4, 2) := by decide +kernel
theorem dX8_rockItem_88 : decode cX8_rockItem 88 = .ok (.aload_n 0, 1) := by decide +kernel
theorem dX8_rockItem_89 : decode cX8_rockItem 89 = .ok (.getfield 67, 3) := by decide +kernel
theorem dX8_rockItem_92 : decode cX8_rockItem 92 = .ok (.iastore, 1) := by decide +kernel
theorem dX8_rockItem_93 : decode cX8_rockItem 93 = .ok (.iinc 4 1, 3) := by decide +kernel
theorem dX8_rockItem_96 : decode cX8_rockItem 96 = .ok (.goto (-27), 3) := by decide +kernel
theorem dX8_rockItem_99 : decode cX8_rockItem 99 = .ok (.iconst 1, 1) := by decide +kernel
theorem dX8_rockItem_100 : decode cX8_rockItem 100 = .ok (.ireturn, 1) := by decide +kernel
theorem dX8_take_0 : decode cX8_take 0 = .ok (.aload_n 0, 1) := by decide +kernel
theorem dX8_take_1 : decode cX8_take 1 = .ok (.getfield 36, 3) := by decide +kernel
theorem dX8_take_4 : decode cX8_take 4 = .ok (.iconst 2, 1) := by decide +kernel
theorem dX8_take_5 : decode cX8_take 5 = .ok (.if_icmp .ne 15, 3) := by decide +kernel
theorem dX8_take_8 : decode cX8_take 8 = .ok (.aload_n 0, 1) := by decide +kernel
theorem dX8_take_9 : decode cX8_take 9 = .ok (.getfield 96, 3) := by decide +kernel
theorem dX8_take_12 : decode cX8_take 12 = .ok (.iload_n 1, 1) := by decide +kernel
theorem dX8_take_13 : decode cX8_take 13 = .ok (.iload_n 2, 1) := by decide +kernel
theorem dX8_take_14 : decode cX8_take 14 = .ok (.invokestatic 99, 3) := by decide +kernel
theorem dX8_take_17 : decode cX8_take 17 = .ok (.ifCond .ne 5, 3) := by decide +kernel
theorem dX8_take_20 : decode cX8_take 20 = .ok (.iconst 0, 1) := by decide +kernel
theorem dX8_take_21 : decode cX8_take 21 = .ok (.ireturn, 1) := by decide +kernel
theorem dX8_take_22 : decode cX8_take 22 = .ok (.aload_n 0, 1) := by decide +kernel
theorem dX8_take_23 : decode cX8_take 23 = .ok (.aload_n 0, 1) := by decide +kernel
theorem dX8_take_24 : decode cX8_take 24 = .ok (.getfield 96, 3) := by decide +kernel
theorem dX8_take_27 : decode cX8_take 27 = .ok (.putfield 67, 3) := by decide +kernel
theorem dX8_take_30 : decode cX8_take 30 = .ok (.aload_n 0, 1) := by decide +kernel
theorem dX8_take_31 : decode cX8_take 31 = .ok (.invokevirtual 26, 3) := by decide +kernel
theorem dX8_take_34 : decode cX8_take 34 = .ok (.iconst 1, 1) := by decide +kernel
theorem dX8_take_35 : decode cX8_take 35 = .ok (.ireturn, 1) := by decide +kernel
theorem dX8_takeWord_0 : decode cX8_takeWord 0 = .ok (.aload_n 0, 1) := by decide +kernel
theorem dX8_takeWord_1 : decode cX8_takeWord 1 = .ok (.aload_n 1, 1) := by decide +kernel
theorem dX8_takeWord_2 : decode cX8_takeWord 2 = .ok (.invokevirtual 45, 3) := by decide +kernel
theorem dX8_takeWord_5 : decode cX8_takeWord 5 = .ok (.ifCond .ne 5, 3) := by decide +kernel
theorem dX8_takeWord_8 : decode cX8_takeWord 8 = .ok (.iconst 0, 1) := by decide +kernel
theorem dX8_takeWord_9 : decode cX8_takeWord 9 = .ok (.ireturn, 1) := by decide +kernel
theorem dX8_takeWord_10 : decode cX8_takeWord 10 = .ok (.aload_n 0, 1) := by decide +kernel
theorem dX8_takeWord_11 : decode cX8_takeWord 11 = .ok (.invokevirtual 26, 3) := by decide +kernel
theorem dX8_takeWord_14 : decode cX8_takeWord 14 = .ok (.iconst 1, 1) := by decide +kernel
theorem dX8_takeWord_15 : decode cX8_takeWord 15 = .ok (.ireturn, 1) := by decide +kernel
theorem dX8_isWord_0 : decode cX8_isWord 0 = .ok (.aload_n 0, 1) := by decide +kernel
theorem dX8_isWord_1 : decode cX8_isWord 1 = .ok (.getfield 36, 3) := by decide +kernel
theorem dX8_isWord_4 : decode cX8_isWord 4 = .ok (.iconst 1, 1) := by decide +kernel
theorem dX8_isWord_5 : decode cX8_isWord 5 = .ok (.if_icmp .ne 19, 3) := by decide +kernel
theorem dX8_isWord_8 : decode cX8_isWord 8 = .ok (.aload_n 0, 1) := by decide +kernel
theorem dX8_isWord_9 : decode cX8_isWord 9 = .ok (.getfield 23, 3) := by decide +kernel
theorem dX8_isWord_12 : decode cX8_isWord 12 = .ok (.aload_n 0, 1) := by decide +kernel
theorem dX8_isWord_13 : decode cX8_isWord 13 = .ok (.getfield 33, 3) := by decide +kernel
theorem dX8_isWord_16 : decode cX8_isWord 16 = .ok (.isub, 1) := by decide +kernel
theorem dX8_isWord_17 : decode cX8_isWord 17 = .ok (.aload_n 1, 1) := by decide +kernel
theorem dX8_isWord_18 : decode cX8_isWord 18 = .ok (.invokevirtual 103, 3) := by decide +kernel
theorem dX8_isWord_21 : decode cX8_isWord 21 = .ok (.if_icmp .eq 5, 3) := by decide +kernel
theorem dX8_isWord_24 : decode cX8_isWord 24 = .ok (.iconst 0, 1) := by decide +kernel
theorem dX8_isWord_25 : decode cX8_isWord 25 = .ok (.ireturn, 1) := by decide +kernel
theorem dX8_isWord_26 : decode cX8_isWord 26 = .ok (.iconst 0, 1) := by decide +kernel
theorem dX8_isWord_27 : decode cX8_isWord 27 = .ok (.istore_n 2, 1) := by decide +kernel
theorem dX8_isWord_28 : decode cX8_isWord 28 = .ok (.iload_n 2, 1) := by decide +kernel
theorem dX8_isWord_29 : decode cX8_isWord 29 = .ok (.aload_n 1, 1) := by decide +kernel
theorem dX8_isWord_30 : decode cX8_isWord 30 = .ok (.invokevirtual 103, 3) := by decide +kernel
theorem dX8_isWord_33 : decode cX8_isWord 33 = .ok (.if_icmp .ge 43, 3) := by decide +kernel
theorem dX8_isWord_36 : decode cX8_isWord 36 = .ok (.aload_n 0, 1) := by decide +kernel
theorem dX8_isWord_37 : decode cX8_isWord 37 = .ok (.getfield 33, 3) := by decide +kernel
theorem dX8_isWord_40 : decode cX8_isWord 40 = .ok (.iload_n 2, 1) := by decide +kernel
theorem dX8_isWord_41 : decode cX8_isWord 41 = .ok (.iadd, 1) := by decide +kernel
theorem dX8_isWord_42 : decode cX8_isWord 42 = .ok (.aload_n 0, 1) := by decide +kernel
theorem dX8_isWord_43 : decode cX8_isWord 43 = .ok (.getfield 19, 3) := by decide +kernel
theorem dX8_isWord_46 : decode cX8_isWord 46 = .ok (.if_icmp .ge 30, 3) := by decide +kernel
theorem dX8_isWord_49 : decode cX8_isWord 49 = .ok (.aload_n 0, 1) := by decide +kernel
theorem dX8_isWord_50 : decode cX8_isWord 50 = .ok (.getfield 9, 3) := by decide +kernel
theorem dX8_isWord_53 : decode cX8_isWord 53 = .ok (.aload_n 0, 1) := by decide +kernel
theorem dX8_isWord_54 : decode cX8_isWord 54 = .ok (.getfield 33, 3) := by decide +kernel
theorem dX8_isWord_57 : decode cX8_isWord 57 = .ok (.iload_n 2, 1) := by decide +kernel
theorem dX8_isWord_58 : decode cX8_isWord 58 = .ok (.iadd, 1) := by decide +kernel
theorem dX8_isWord_59 : decode cX8_isWord 59 = .ok (.iaload, 1) := by decide +kernel
theorem dX8_isWord_60 : decode cX8_isWord 60 = .ok (.aload_n 1, 1) := by decide +kernel
theorem dX8_isWord_61 : decode cX8_isWord 61 = .ok (.iload_n 2, 1) := by decide +kernel
theorem dX8_isWord_62 : decode cX8_isWord 62 = .ok (.invokevirtual 108, 3) := by decide +kernel
theorem dX8_isWord_65 : decode cX8_isWord 65 = .ok (.if_icmp .eq 5, 3) := by decide +kernel
theorem dX8_isWord_68 : decode cX8_isWord 68 = .ok (.iconst 0, 1) := by decide +kernel
theorem dX8_isWord_69 : decode cX8_isWord 69 = .ok (.ireturn, 1) := by decide +kernel
theorem dX8_isWord_70 : decode cX8_isWord 70 = .ok (.iinc 2 1, 3) := by decide +kernel
theorem dX8_isWord_73 : decode cX8_isWord 73 = .ok (.goto (-45), 3) := by decide +kernel
theorem dX8_isWord_76 : decode cX8_isWord 76 = .ok (.iconst 1, 1) := by decide +kernel
theorem dX8_isWord_77 : decode cX8_isWord 77 = .ok (.ireturn, 1) := by decide +kernel
theorem dX8_advance_0 : decode cX8_advance 0 = .ok (.aload_n 0, 1) := by decide +kernel
theorem dX8_advance_1 : decode cX8_advance 1 = .ok (.getfield 23, 3) := by decide +kernel
theorem dX8_advance_4 : decode cX8_advance 4 = .ok (.aload_n 0, 1) := by decide +kernel
theorem dX8_advance_5 : decode cX8_advance 5 = .ok (.getfield 19, 3) := by decide +kernel
theorem dX8_advance_8 : decode cX8_advance 8 = .ok (.if_icmp .ge 30, 3) := by decide +kernel
theorem dX8_advance_11 : decode cX8_advance 11 = .ok (.aload_n 0, 1) := by decide +kernel
theorem dX8_advance_12 : decode cX8_advance 12 = .ok (.getfield 9, 3) := by decide +kernel
theorem dX8_advance_15 : decode cX8_advance 15 = .ok (.aload_n 0, 1) := by decide +kernel
theorem dX8_advance_16 : decode cX8_advance 16 = .ok (.getfield 23, 3) := by decide +kernel
theorem dX8_advance_19 : decode cX8_advance 19 = .ok (.iaload, 1) := by decide +kernel
theorem dX8_advance_20 : decode cX8_advance 20 = .ok (.bipush 32, 2) := by decide +kernel
theorem dX8_advance_22 : decode cX8_advance 22 = .ok (.if_icmp .ne 16, 3) := by decide +kernel
theorem dX8_advance_25 : decode cX8_advance 25 = .ok (.aload_n 0, 1) := by decide +kernel
theorem dX8_advance_26 : decode cX8_advance 26 = .ok (.dup, 1) := by decide +kernel
theorem dX8_advance_27 : decode cX8_advance 27 = .ok (.getfield 23, 3) := by decide +kernel
theorem dX8_advance_30 : decode cX8_advance 30 = .ok (.iconst 1, 1) := by decide +kernel
theorem dX8_advance_31 : decode cX8_advance 31 = .ok (.iadd, 1) := by decide +kernel
theorem dX8_advance_32 : decode cX8_advance 32 = .ok (.putfield 23, 3) := by decide +kernel
theorem dX8_advance_35 : decode cX8_advance 35 = .ok (.goto (-35), 3) := by decide +kernel
theorem dX8_advance_38 : decode cX8_advance 38 = .ok (.aload_n 0, 1) := by decide +kernel
theorem dX8_advance_39 : decode cX8_advance 39 = .ok (.aload_n 0, 1) := by decide +kernel
theorem dX8_advance_40 : decode cX8_advance 40 = .ok (.getfield 23, 3) := by decide +kernel
theorem dX8_advance_43 : decode cX8_advance 43 = .ok (.putfield 33, 3) := by decide +kernel
theorem dX8_advance_46 : decode cX8_advance 46 = .ok (.aload_n 0, 1) := by decide +kernel
theorem dX8_advance_47 : decode cX8_advance 47 = .ok (.getfield 33, 3) := by decide +kernel
theorem dX8_advance_50 : decode cX8_advance 50 = .ok (.aload_n 0, 1) := by decide +kernel
theorem dX8_advance_51 : decode cX8_advance 51 = .ok (.getfield 19, 3) := by decide +kernel
theorem dX8_advance_54 : decode cX8_advance 54 = .ok (.if_icmp .lt 9, 3) := by decide +kernel
theorem dX8_advance_57 : decode cX8_advance 57 = .ok (.aload_n 0, 1) := by decide +kernel
theorem dX8_advance_58 : decode cX8_advance 58 = .ok (.iconst 0, 1) := by decide +kernel
theorem dX8_advance_59 : decode cX8_advance 59 = .ok (.putfield 36, 3) := by decide +kernel
theorem dX8_advance_62 : decode cX8_advance 62 = .ok (.return_, 1) := by decide +kernel
theorem dX8_advance_63 : decode cX8_advance 63 = .ok (.aload_n 0, 1) := by decide +kernel
theorem dX8_advance_64 : decode cX8_advance 64 = .ok (.getfield 9, 3) := by decide +kernel
theorem dX8_advance_67 : decode cX8_advance 67 = .ok (.aload_n 0, 1) := by decide +kernel
theorem dX8_advance_68 : decode cX8_advance 68 = .ok (.getfield 33, 3) := by decide +kernel
theorem dX8_advance_71 : decode cX8_advance 71 = .ok (.iaload, 1) := by decide +kernel
theorem dX8_advance_72 : decode cX8_advance 72 = .ok (.istore_n 1, 1) := by decide +kernel
theorem dX8_advance_73 : decode cX8_advance 73 = .ok (.aload_n 0, 1) := by decide +kernel
theorem dX8_advance_74 : decode cX8_advance 74 = .ok (.dup, 1) := by decide +kernel
theorem dX8_advance_75 : decode cX8_advance 75 = .ok (.getfield 23, 3) := by decide +kernel
theorem dX8_advance_78 : decode cX8_advance 78 = .ok (.iconst 1, 1) := by decide +kernel
theorem dX8_advance_79 : decode cX8_advance 79 = .ok (.iadd, 1) := by decide +kernel
theorem dX8_advance_80 : decode cX8_advance 80 = .ok (.putfield 23, 3) := by decide +kernel
theorem dX8_advance_83 : decode cX8_advance 83 = .ok (.iload_n 1, 1) := by decide +kernel
theorem dX8_advance_84 : decode cX8_advance 84 = .ok (.invokestatic 112, 3) := by decide +kernel
theorem dX8_advance_87 : decode cX8_advance 87 = .ok (.ifCond .eq 47, 3) := by decide +kernel
theorem dX8_advance_90 : decode cX8_advance 90 = .ok (.aload_n 0, 1) := by decide +kernel
theorem dX8_advance_91 : decode cX8_advance 91 = .ok (.iconst 1, 1) := by decide +kernel
theorem dX8_advance_92 : decode cX8_advance 92 = .ok (.putfield 36, 3) := by decide +kernel
theorem dX8_advance_95 : decode cX8_advance 95 = .ok (.aload_n 0, 1) := by decide +kernel
theorem dX8_advance_96 : decode cX8_advance 96 = .ok (.getfield 23, 3) := by decide +kernel
theorem dX8_advance_99 : decode cX8_advance 99 = .ok (.aload_n 0, 1) := by decide +kernel
theorem dX8_advance_100 : decode cX8_advance 100 = .ok (.getfield 19, 3) := by decide +kernel
theorem dX8_advance_103 : decode cX8_advance 103 = .ok (.if_icmp .ge 135, 3) := by decide +kernel
theorem dX8_advance_106 : decode cX8_advance 106 = .ok (.aload_n 0, 1) := by decide +kernel
theorem dX8_advance_107 : decode cX8_advance 107 = .ok (.getfield 9, 3) := by decide +kernel
theorem dX8_advance_110 : decode cX8_advance 110 = .ok (.aload_n 0, 1) := by decide +kernel
theorem dX8_advance_111 : decode cX8_advance 111 = .ok (.getfield 23, 3) := by decide +kernel
theorem dX8_advance_114 : decode cX8_advance 114 = .ok (.iaload, 1) := by decide +kernel
theorem dX8_advance_115 : decode cX8_advance 115 = .ok (.invokestatic 112, 3) := by decide +kernel
theorem dX8_advance_118 : decode cX8_advance 118 = .ok (.ifCond .eq 120, 3) := by decide +kernel
theorem dX8_advance_121 : decode cX8_advance 121 = .ok (.aload_n 0, 1) := by decide +kernel
theorem dX8_advance_122 : decode cX8_advance 122 = .ok (.dup, 1) := by decide +kernel
theorem dX8_advance_123 : decode cX8_advance 123 = .ok (.getfield 23, 3) := by decide +kernel
theorem dX8_advance_126 : decode cX8_advance 126 = .ok (.iconst 1, 1) := by decide +kernel
theorem dX8_advance_127 : decode cX8_advance 127 = .ok (.iadd, 1) := by decide +kernel
theorem dX8_advance_128 : decode cX8_advance 128 = .ok (.putfield 23, 3) := by decide +kernel
theorem dX8_advance_131 : decode cX8_advance 131 = .ok (.goto (-36), 3) := by decide +kernel
theorem dX8_advance_134 : decode cX8_advance 134 = .ok (.iload_n 1, 1) := by decide +kernel
theorem dX8_advance_135 : decode cX8_advance 135 = .ok (.invokestatic 116, 3) := by decide +kernel
theorem dX8_advance_138 : decode cX8_advance 138 = .ok (.ifCond .eq 85, 3) := by decide +kernel
theorem dX8_advance_141 : decode cX8_advance 141 = .ok (.aload_n 0, 1) := by decide +kernel
theorem dX8_advance_142 : decode cX8_advance 142 = .ok (.iconst 2, 1) := by decide +kernel
theorem dX8_advance_143 : decode cX8_advance 143 = .ok (.putfield 36, 3) := by decide +kernel
theorem dX8_advance_146 : decode cX8_advance 146 = .ok (.aload_n 0, 1) := by decide +kernel
theorem dX8_advance_147 : decode cX8_advance 147 = .ok (.iload_n 1, 1) := by decide +kernel
theorem dX8_advance_148 : decode cX8_advance 148 = .ok (.bipush 48, 2) := by decide +kernel
theorem dX8_advance_150 : decode cX8_advance 150 = .ok (.isub, 1) := by decide +kernel
theorem dX8_advance_151 : decode cX8_advance 151 = .ok (.putfield 96, 3) := by decide +kernel
theorem dX8_advance_154 : decode cX8_advance 154 = .ok (.aload_n 0, 1) := by decide +kernel
theorem dX8_advance_155 : decode cX8_advance 155 = .ok (.getfield 23, 3) := by decide +kernel
theorem dX8_advance_158 : decode cX8_advance 158 = .ok (.aload_n 0, 1) := by decide +kernel
theorem dX8_advance_159 : decode cX8_advance 159 = .ok (.getfield 19, 3) := by decide +kernel
theorem dX8_advance_162 : decode cX8_advance 162 = .ok (.if_icmp .ge 76, 3) := by decide +kernel
theorem dX8_advance_165 : decode cX8_advance 165 = .ok (.aload_n 0, 1) := by decide +kernel
theorem dX8_advance_166 : decode cX8_advance 166 = .ok (.getfield 9, 3) := by decide +kernel
theorem dX8_advance_169 : decode cX8_advance 169 = .ok (.aload_n 0, 1) := by decide +kernel
theorem dX8_advance_170 : decode cX8_advance 170 = .ok (.getfield 23, 3) := by decide +kernel
theorem dX8_advance_173 : decode cX8_advance 173 = .ok (.iaload, 1) := by decide +kernel
theorem dX8_advance_174 : decode cX8_advance 174 = .ok (.invokestatic 116, 3) := by decide +kernel
theorem dX8_advance_177 : decode cX8_advance 177 = .ok (.ifCond .eq 61, 3) := by decide +kernel
theorem dX8_advance_180 : decode cX8_advance 180 = .ok (.aload_n 0, 1) := by decide +kernel
theorem dX8_advance_181 : decode cX8_advance 181 = .ok (.sipush 10000, 3) := by decide +kernel
theorem dX8_advance_184 : decode cX8_advance 184 = .ok (.aload_n 0, 1) := by decide +kernel
theorem dX8_advance_185 : decode cX8_advance 185 = .ok (.getfield 96, 3) := by decide +kernel
theorem dX8_advance_188 : decode cX8_advance 188 = .ok (.bipush 10, 2) := by decide +kernel
theorem dX8_advance_190 : decode cX8_advance 190 = .ok (.imul, 1) := by decide +kernel
theorem dX8_advance_191 : decode cX8_advance 191 = .ok (.aload_n 0, 1) := by decide +kernel
theorem dX8_advance_192 : decode cX8_advance 192 = .ok (.getfield 9, 3) := by decide +kernel
theorem dX8_advance_195 : decode cX8_advance 195 = .ok (.aload_n 0, 1) := by decide +kernel
theorem dX8_advance_196 : decode cX8_advance 196 = .ok (.getfield 23, 3) := by decide +kernel
theorem dX8_advance_199 : decode cX8_advance 199 = .ok (.iaload, 1) := by decide +kernel
theorem dX8_advance_200 : decode cX8_advance 200 = .ok (.iadd, 1) := by decide +kernel
theorem dX8_advance_201 : decode cX8_advance 201 = .ok (.bipush 48, 2) := by decide +kernel
theorem dX8_advance_203 : decode cX8_advance 203 = .ok (.isub, 1) := by decide +kernel
theorem dX8_advance_204 : decode cX8_advance 204 = .ok (.invokestatic 119, 3) := by decide +kernel
theorem dX8_advance_207 : decode cX8_advance 207 = .ok (.putfield 96, 3) := by decide +kernel
theorem dX8_advance_210 : decode cX8_advance 210 = .ok (.aload_n 0, 1) := by decide +kernel
theorem dX8_advance_211 : decode cX8_advance 211 = .ok (.dup, 1) := by decide +kernel
theorem dX8_advance_212 : decode cX8_advance 212 = .ok (.getfield 23, 3) := by decide +kernel
theorem dX8_advance_215 : decode cX8_advance 215 = .ok (.iconst 1, 1) := by decide +kernel
theorem dX8_advance_216 : decode cX8_advance 216 = .ok (.iadd, 1) := by decide +kernel
theorem dX8_advance_217 : decode cX8_advance 217 = .ok (.putfield 23, 3) := by decide +kernel
theorem dX8_advance_220 : decode cX8_advance 220 = .ok (.goto (-66), 3) := by decide +kernel
theorem dX8_advance_223 : decode cX8_advance 223 = .ok (.aload_n 0, 1) := by decide +kernel
theorem dX8_advance_224 : decode cX8_advance 224 = .ok (.iload_n 1, 1) := by decide +kernel
theorem dX8_advance_225 : decode cX8_advance 225 = .ok (.bipush 59, 2) := by decide +kernel
theorem dX8_advance_227 : decode cX8_advance 227 = .ok (.if_icmp .ne 7, 3) := by decide +kernel
theorem dX8_advance_230 : decode cX8_advance 230 = .ok (.iconst 3, 1) := by decide +kernel
theorem dX8_advance_231 : decode cX8_advance 231 = .ok (.goto 4, 3) := by decide +kernel
theorem dX8_advance_234 : decode cX8_advance 234 = .ok (.iconst 4, 1) := by decide +kernel
theorem dX8_advance_235 : decode cX8_advance 235 = .ok (.putfield 36, 3) := by decide +kernel
theorem dX8_advance_238 : decode cX8_advance 238 = .ok (.return_, 1) := by decide +kernel
theorem dX8_isLetter_0 : decode cX8_isLetter 0 = .ok (.iload_n 0, 1) := by decide +kernel
theorem dX8_isLetter_1 : decode cX8_isLetter 1 = .ok (.bipush 97, 2) := by decide +kernel
theorem dX8_isLetter_3 : decode cX8_isLetter 3 = .ok (.if_icmp .lt 13, 3) := by decide +kernel
theorem dX8_isLetter_6 : decode cX8_isLetter 6 = .ok (.iload_n 0, 1) := by decide +kernel
theorem dX8_isLetter_7 : decode cX8_isLetter 7 = .ok (.bipush 122, 2) := by decide +kernel
theorem dX8_isLetter_9 : decode cX8_isLetter 9 = .ok (.if_icmp .gt 7, 3) := by decide +kernel
theorem dX8_isLetter_12 : decode cX8_isLetter 12 = .ok (.iconst 1, 1) := by decide +kernel
theorem dX8_isLetter_13 : decode cX8_isLetter 13 = .ok (.goto 4, 3) := by decide +kernel
theorem dX8_isLetter_16 : decode cX8_isLetter 16 = .ok (.iconst 0, 1) := by decide +kernel
theorem dX8_isLetter_17 : decode cX8_isLetter 17 = .ok (.ireturn, 1) := by decide +kernel
theorem dX8_isDigit_0 : decode cX8_isDigit 0 = .ok (.iload_n 0, 1) := by decide +kernel
theorem dX8_isDigit_1 : decode cX8_isDigit 1 = .ok (.bipush 48, 2) := by decide +kernel
end
section
theorem dX8_isDigit_3 : decode cX8_isDigit 3 = .ok (.if_icmp .lt 13, 3) := by decide +kernel
theorem dX8_isDigit_6 : decode cX8_isDigit 6 = .ok (.iload_n 0, 1) := by decide +kernel
theorem dX8_isDigit_7 : decode cX8_isDigit 7 = .ok (.bipush 57, 2) := by decide +kernel
theorem dX8_isDigit_9 : decode cX8_isDigit 9 = .ok (.if_icmp .gt 7, 3) := by decide +kernel
theorem dX8_isDigit_12 : decode cX8_isDigit 12 = .ok (.iconst 1, 1) := by decide +kernel
theorem dX8_isDigit_13 : decode cX8_isDigit 13 = .ok (.goto 4, 3) := by decide +kernel
theorem dX8_isDigit_16 : decode cX8_isDigit 16 = .ok (.iconst 0, 1) := by decide +kernel
theorem dX8_isDigit_17 : decode cX8_isDigit 17 = .ok (.ireturn, 1) := by decide +kernel
theorem dX9_init_0 : decode cX9_init 0 = .ok (.aload_n 0, 1) := by decide +kernel
theorem dX9_init_1 : decode cX9_init 1 = .ok (.invokespecial 3, 3) := by decide +kernel
theorem dX9_init_4 : decode cX9_init 4 = .ok (.bipush 6, 2) := by decide +kernel
theorem dX9_init_6 : decode cX9_init 6 = .ok (.anewarray 9, 3) := by decide +kernel
theorem dX9_init_9 : decode cX9_init 9 = .ok (.dup, 1) := by decide +kernel
theorem dX9_init_10 : decode cX9_init 10 = .ok (.iconst 0, 1) := by decide +kernel
theorem dX9_init_11 : decode cX9_init 11 = .ok (.new 9, 3) := by decide +kernel
theorem dX9_init_14 : decode cX9_init 14 = .ok (.dup, 1) := by decide +kernel
theorem dX9_init_15 : decode cX9_init 15 = .ok (.invokespecial 11, 3) := by decide +kernel
theorem dX9_init_18 : decode cX9_init 18 = .ok (.aastore, 1) := by decide +kernel
theorem dX9_init_19 : decode cX9_init 19 = .ok (.dup, 1) := by decide +kernel
theorem dX9_init_20 : decode cX9_init 20 = .ok (.iconst 1, 1) := by decide +kernel
theorem dX9_init_21 : decode cX9_init 21 = .ok (.new 12, 3) := by decide +kernel
theorem dX9_init_24 : decode cX9_init 24 = .ok (.dup, 1) := by decide +kernel
theorem dX9_init_25 : decode cX9_init 25 = .ok (.invokespecial 14, 3) := by decide +kernel
theorem dX9_init_28 : decode cX9_init 28 = .ok (.aastore, 1) := by decide +kernel
theorem dX9_init_29 : decode cX9_init 29 = .ok (.dup, 1) := by decide +kernel
theorem dX9_init_30 : decode cX9_init 30 = .ok (.iconst 2, 1) := by decide +kernel
theorem dX9_init_31 : decode cX9_init 31 = .ok (.new 15, 3) := by decide +kernel
theorem dX9_init_34 : decode cX9_init 34 = .ok (.dup, 1) := by decide +kernel
theorem dX9_init_35 : decode cX9_init 35 = .ok (.invokespecial 17, 3) := by decide +kernel
theorem dX9_init_38 : decode cX9_init 38 = .ok (.aastore, 1) := by decide +kernel
theorem dX9_init_39 : decode cX9_init 39 = .ok (.dup, 1) := by decide +kernel
theorem dX9_init_40 : decode cX9_init 40 = .ok (.iconst 3, 1) := by decide +kernel
theorem dX9_init_41 : decode cX9_init 41 = .ok (.new 18, 3) := by decide +kernel
theorem dX9_init_44 : decode cX9_init 44 = .ok (.dup, 1) := by decide +kernel
theorem dX9_init_45 : decode cX9_init 45 = .ok (.invokespecial 20, 3) := by decide +kernel
theorem dX9_init_48 : decode cX9_init 48 = .ok (.aastore, 1) := by decide +kernel
theorem dX9_init_49 : decode cX9_init 49 = .ok (.dup, 1) := by decide +kernel
theorem dX9_init_50 : decode cX9_init 50 = .ok (.iconst 4, 1) := by decide +kernel
theorem dX9_init_51 : decode cX9_init 51 = .ok (.new 21, 3) := by decide +kernel
theorem dX9_init_54 : decode cX9_init 54 = .ok (.dup, 1) := by decide +kernel
theorem dX9_init_55 : decode cX9_init 55 = .ok (.invokespecial 23, 3) := by decide +kernel
theorem dX9_init_58 : decode cX9_init 58 = .ok (.aastore, 1) := by decide +kernel
theorem dX9_init_59 : decode cX9_init 59 = .ok (.dup, 1) := by decide +kernel
theorem dX9_init_60 : decode cX9_init 60 = .ok (.iconst 5, 1) := by decide +kernel
theorem dX9_init_61 : decode cX9_init 61 = .ok (.new 24, 3) := by decide +kernel
theorem dX9_init_64 : decode cX9_init 64 = .ok (.dup, 1) := by decide +kernel
theorem dX9_init_65 : decode cX9_init 65 = .ok (.invokespecial 26, 3) := by decide +kernel
theorem dX9_init_68 : decode cX9_init 68 = .ok (.aastore, 1) := by decide +kernel
theorem dX9_init_69 : decode cX9_init 69 = .ok (.astore_n 1, 1) := by decide +kernel
theorem dX9_init_70 : decode cX9_init 70 = .ok (.aload_n 0, 1) := by decide +kernel
theorem dX9_init_71 : decode cX9_init 71 = .ok (.new 27, 3) := by decide +kernel
theorem dX9_init_74 : decode cX9_init 74 = .ok (.dup, 1) := by decide +kernel
theorem dX9_init_75 : decode cX9_init 75 = .ok (.aload_n 1, 1) := by decide +kernel
theorem dX9_init_76 : decode cX9_init 76 = .ok (.invokespecial 29, 3) := by decide +kernel
theorem dX9_init_79 : decode cX9_init 79 = .ok (.putfield 32, 3) := by decide +kernel
theorem dX9_init_82 : decode cX9_init 82 = .ok (.aload_n 0, 1) := by decide +kernel
theorem dX9_init_83 : decode cX9_init 83 = .ok (.new 27, 3) := by decide +kernel
theorem dX9_init_86 : decode cX9_init 86 = .ok (.dup, 1) := by decide +kernel
theorem dX9_init_87 : decode cX9_init 87 = .ok (.aload_n 1, 1) := by decide +kernel
theorem dX9_init_88 : decode cX9_init 88 = .ok (.invokespecial 29, 3) := by decide +kernel
theorem dX9_init_91 : decode cX9_init 91 = .ok (.putfield 36, 3) := by decide +kernel
theorem dX9_init_94 : decode cX9_init 94 = .ok (.aload_n 0, 1) := by decide +kernel
theorem dX9_init_95 : decode cX9_init 95 = .ok (.new 27, 3) := by decide +kernel
theorem dX9_init_98 : decode cX9_init 98 = .ok (.dup, 1) := by decide +kernel
theorem dX9_init_99 : decode cX9_init 99 = .ok (.aload_n 1, 1) := by decide +kernel
theorem dX9_init_100 : decode cX9_init 100 = .ok (.invokespecial 29, 3) := by decide +kernel
theorem dX9_init_103 : decode cX9_init 103 = .ok (.putfield 39, 3) := by decide +kernel
theorem dX9_init_106 : decode cX9_init 106 = .ok (.aload_n 0, 1) := by decide +kernel
theorem dX9_init_107 : decode cX9_init 107 = .ok (.new 42, 3) := by decide +kernel
theorem dX9_init_110 : decode cX9_init 110 = .ok (.dup, 1) := by decide +kernel
theorem dX9_init_111 : decode cX9_init 111 = .ok (.aload_n 1, 1) := by decide +kernel
theorem dX9_init_112 : decode cX9_init 112 = .ok (.invokespecial 44, 3) := by decide +kernel
theorem dX9_init_115 : decode cX9_init 115 = .ok (.putfield 45, 3) := by decide +kernel
theorem dX9_init_118 : decode cX9_init 118 = .ok (.aload_n 0, 1) := by decide +kernel
theorem dX9_init_119 : decode cX9_init 119 = .ok (.iconst 4, 1) := by decide +kernel
theorem dX9_init_120 : decode cX9_init 120 = .ok (.anewarray 49, 3) := by decide +kernel
theorem dX9_init_123 : decode cX9_init 123 = .ok (.dup, 1) := by decide +kernel
theorem dX9_init_124 : decode cX9_init 124 = .ok (.iconst 0, 1) := by decide +kernel
theorem dX9_init_125 : decode cX9_init 125 = .ok (.new 49, 3) := by decide +kernel
theorem dX9_init_128 : decode cX9_init 128 = .ok (.dup, 1) := by decide +kernel
theorem dX9_init_129 : decode cX9_init 129 = .ok (.invokespecial 51, 3) := by decide +kernel
theorem dX9_init_132 : decode cX9_init 132 = .ok (.aastore, 1) := by decide +kernel
theorem dX9_init_133 : decode cX9_init 133 = .ok (.dup, 1) := by decide +kernel
theorem dX9_init_134 : decode cX9_init 134 = .ok (.iconst 1, 1) := by decide +kernel
theorem dX9_init_135 : decode cX9_init 135 = .ok (.new 49, 3) := by decide +kernel
theorem dX9_init_138 : decode cX9_init 138 = .ok (.dup, 1) := by decide +kernel
theorem dX9_init_139 : decode cX9_init 139 = .ok (.invokespecial 51, 3) := by decide +kernel
theorem dX9_init_142 : decode cX9_init 142 = .ok (.aastore, 1) := by decide +kernel
theorem dX9_init_143 : decode cX9_init 143 = .ok (.dup, 1) := by decide +kernel
theorem dX9_init_144 : decode cX9_init 144 = .ok (.iconst 2, 1) := by decide +kernel
theorem dX9_init_145 : decode cX9_init 145 = .ok (.new 49, 3) := by decide +kernel
theorem dX9_init_148 : decode cX9_init 148 = .ok (.dup, 1) := by decide +kernel
theorem dX9_init_149 : decode cX9_init 149 = .ok (.invokespecial 51, 3) := by decide +kernel
theorem dX9_init_152 : decode cX9_init 152 = .ok (.aastore, 1) := by decide +kernel
theorem dX9_init_153 : decode cX9_init 153 = .ok (.dup, 1) := by decide +kernel
theorem dX9_init_154 : decode cX9_init 154 = .ok (.iconst 3, 1) := by decide +kernel
theorem dX9_init_155 : decode cX9_init 155 = .ok (.new 49, 3) := by decide +kernel
theorem dX9_init_158 : decode cX9_init 158 = .ok (.dup, 1) := by decide +kernel
theorem dX9_init_159 : decode cX9_init 159 = .ok (.invokespecial 51, 3) := by decide +kernel
theorem dX9_init_162 : decode cX9_init 162 = .ok (.aastore, 1) := by decide +kernel
theorem dX9_init_163 : decode cX9_init 163 = .ok (.putfield 52, 3) := by decide +kernel
theorem dX9_init_166 : decode cX9_init 166 = .ok (.aload_n 0, 1) := by decide +kernel
theorem dX9_init_167 : decode cX9_init 167 = .ok (.bipush 7, 2) := by decide +kernel
theorem dX9_init_169 : decode cX9_init 169 = .ok (.newarray .int, 2) := by decide +kernel
theorem dX9_init_171 : decode cX9_init 171 = .ok (.putfield 56, 3) := by decide +kernel
theorem dX9_init_174 : decode cX9_init 174 = .ok (.return_, 1) := by decide +kernel
theorem dX9_rock_0 : decode cX9_rock 0 = .ok (.iload_n 1, 1) := by decide +kernel
theorem dX9_rock_1 : decode cX9_rock 1 = .ok (.invokestatic 60, 3) := by decide +kernel
theorem dX9_rock_4 : decode cX9_rock 4 = .ok (.ifCond .eq 13, 3) := by decide +kernel
theorem dX9_rock_7 : decode cX9_rock 7 = .ok (.iload_n 2, 1) := by decide +kernel
theorem dX9_rock_8 : decode cX9_rock 8 = .ok (.iconst 1, 1) := by decide +kernel
theorem dX9_rock_9 : decode cX9_rock 9 = .ok (.bipush 9, 2) := by decide +kernel
theorem dX9_rock_11 : decode cX9_rock 11 = .ok (.invokestatic 64, 3) := by decide +kernel
theorem dX9_rock_14 : decode cX9_rock 14 = .ok (.ifCond .ne 9, 3) := by decide +kernel
theorem dX9_rock_17 : decode cX9_rock 17 = .ok (.aload_n 0, 1) := by decide +kernel
theorem dX9_rock_18 : decode cX9_rock 18 = .ok (.iconst 0, 1) := by decide +kernel
theorem dX9_rock_19 : decode cX9_rock 19 = .ok (.invokevirtual 68, 3) := by decide +kernel
theorem dX9_rock_22 : decode cX9_rock 22 = .ok (.ireturn, 1) := by decide +kernel
theorem dX9_rock_23 : decode cX9_rock 23 = .ok (.aload_n 0, 1) := by decide +kernel
theorem dX9_rock_24 : decode cX9_rock 24 = .ok (.getfield 32, 3) := by decide +kernel
theorem dX9_rock_27 : decode cX9_rock 27 = .ok (.getfield 72, 3) := by decide +kernel
theorem dX9_rock_30 : decode cX9_rock 30 = .ok (.iload_n 1, 1) := by decide +kernel
theorem dX9_rock_31 : decode cX9_rock 31 = .ok (.iaload, 1) := by decide +kernel
theorem dX9_rock_32 : decode cX9_rock 32 = .ok (.istore_n 3, 1) := by decide +kernel
theorem dX9_rock_33 : decode cX9_rock 33 = .ok (.aload_n 0, 1) := by decide +kernel
theorem dX9_rock_34 : decode cX9_rock 34 = .ok (.getfield 32, 3) := by decide +kernel
theorem dX9_rock_37 : decode cX9_rock 37 = .ok (.getfield 72, 3) := by decide +kernel
theorem dX9_rock_40 : decode cX9_rock 40 = .ok (.iload_n 1, 1) := by decide +kernel
theorem dX9_rock_41 : decode cX9_rock 41 = .ok (.iload_n 2, 1) := by decide +kernel
theorem dX9_rock_42 : decode cX9_rock 42 = .ok (.iastore, 1) := by decide +kernel
theorem dX9_rock_43 : decode cX9_rock 43 = .ok (.iload_n 3, 1) := by decide +kernel
theorem dX9_rock_44 : decode cX9_rock 44 = .ok (.ireturn, 1) := by decide +kernel
theorem dX9_let_0 : decode cX9_let 0 = .ok (.iload_n 1, 1) := by decide +kernel
theorem dX9_let_1 : decode cX9_let 1 = .ok (.ifCond .ne 31, 3) := by decide +kernel
theorem dX9_let_4 : decode cX9_let 4 = .ok (.iload_n 2, 1) := by decide +kernel
theorem dX9_let_5 : decode cX9_let 5 = .ok (.iconst 0, 1) := by decide +kernel
theorem dX9_let_6 : decode cX9_let 6 = .ok (.bipush 9, 2) := by decide +kernel
theorem dX9_let_8 : decode cX9_let 8 = .ok (.invokestatic 64, 3) := by decide +kernel
theorem dX9_let_11 : decode cX9_let 11 = .ok (.ifCond .eq 21, 3) := by decide +kernel
theorem dX9_let_14 : decode cX9_let 14 = .ok (.aload_n 0, 1) := by decide +kernel
theorem dX9_let_15 : decode cX9_let 15 = .ok (.getfield 32, 3) := by decide +kernel
theorem dX9_let_18 : decode cX9_let 18 = .ok (.getfield 75, 3) := by decide +kernel
theorem dX9_let_21 : decode cX9_let 21 = .ok (.istore_n 3, 1) := by decide +kernel
theorem dX9_let_22 : decode cX9_let 22 = .ok (.aload_n 0, 1) := by decide +kernel
theorem dX9_let_23 : decode cX9_let 23 = .ok (.getfield 32, 3) := by decide +kernel
theorem dX9_let_26 : decode cX9_let 26 = .ok (.iload_n 2, 1) := by decide +kernel
theorem dX9_let_27 : decode cX9_let 27 = .ok (.putfield 75, 3) := by decide +kernel
theorem dX9_let_30 : decode cX9_let 30 = .ok (.iload_n 3, 1) := by decide +kernel
theorem dX9_let_31 : decode cX9_let 31 = .ok (.ireturn, 1) := by decide +kernel
theorem dX9_let_32 : decode cX9_let 32 = .ok (.iload_n 1, 1) := by decide +kernel
theorem dX9_let_33 : decode cX9_let 33 = .ok (.iconst 1, 1) := by decide +kernel
theorem dX9_let_34 : decode cX9_let 34 = .ok (.if_icmp .ne 31, 3) := by decide +kernel
theorem dX9_let_37 : decode cX9_let 37 = .ok (.iload_n 2, 1) := by decide +kernel
theorem dX9_let_38 : decode cX9_let 38 = .ok (.iconst 0, 1) := by decide +kernel
theorem dX9_let_39 : decode cX9_let 39 = .ok (.bipush 20, 2) := by decide +kernel
theorem dX9_let_41 : decode cX9_let 41 = .ok (.invokestatic 64, 3) := by decide +kernel
theorem dX9_let_44 : decode cX9_let 44 = .ok (.ifCond .eq 21, 3) := by decide +kernel
theorem dX9_let_47 : decode cX9_let 47 = .ok (.aload_n 0, 1) := by decide +kernel
theorem dX9_let_48 : decode cX9_let 48 = .ok (.getfield 32, 3) := by decide +kernel
theorem dX9_let_51 : decode cX9_let 51 = .ok (.getfield 79, 3) := by decide +kernel
theorem dX9_let_54 : decode cX9_let 54 = .ok (.istore_n 3, 1) := by decide +kernel
theorem dX9_let_55 : decode cX9_let 55 = .ok (.aload_n 0, 1) := by decide +kernel
theorem dX9_let_56 : decode cX9_let 56 = .ok (.getfield 32, 3) := by decide +kernel
theorem dX9_let_59 : decode cX9_let 59 = .ok (.iload_n 2, 1) := by decide +kernel
theorem dX9_let_60 : decode cX9_let 60 = .ok (.putfield 79, 3) := by decide +kernel
theorem dX9_let_63 : decode cX9_let 63 = .ok (.iload_n 3, 1) := by decide +kernel
theorem dX9_let_64 : decode cX9_let 64 = .ok (.ireturn, 1) := by decide +kernel
theorem dX9_let_65 : decode cX9_let 65 = .ok (.aload_n 0, 1) := by decide +kernel
theorem dX9_let_66 : decode cX9_let 66 = .ok (.iconst 0, 1) := by decide +kernel
theorem dX9_let_67 : decode cX9_let 67 = .ok (.invokevirtual 68, 3) := by decide +kernel
theorem dX9_let_70 : decode cX9_let 70 = .ok (.ireturn, 1) := by decide +kernel
theorem dX9_fine_0 : decode cX9_fine 0 = .ok (.iload_n 1, 1) := by decide +kernel
theorem dX9_fine_1 : decode cX9_fine 1 = .ok (.invokestatic 82, 3) := by decide +kernel
theorem dX9_fine_4 : decode cX9_fine 4 = .ok (.ifCond .eq 20, 3) := by decide +kernel
theorem dX9_fine_7 : decode cX9_fine 7 = .ok (.iload_n 2, 1) := by decide +kernel
theorem dX9_fine_8 : decode cX9_fine 8 = .ok (.iconst 1, 1) := by decide +kernel
theorem dX9_fine_9 : decode cX9_fine 9 = .ok (.bipush 40, 2) := by decide +kernel
theorem dX9_fine_11 : decode cX9_fine 11 = .ok (.invokestatic 64, 3) := by decide +kernel
theorem dX9_fine_14 : decode cX9_fine 14 = .ok (.ifCond .eq 10, 3) := by decide +kernel
theorem dX9_fine_17 : decode cX9_fine 17 = .ok (.iload_n 3, 1) := by decide +kernel
theorem dX9_fine_18 : decode cX9_fine 18 = .ok (.invokestatic 60, 3) := by decide +kernel
theorem dX9_fine_21 : decode cX9_fine 21 = .ok (.ifCond .ne 9, 3) := by decide +kernel
theorem dX9_fine_24 : decode cX9_fine 24 = .ok (.aload_n 0, 1) := by decide +kernel
theorem dX9_fine_25 : decode cX9_fine 25 = .ok (.iconst 0, 1) := by decide +kernel
theorem dX9_fine_26 : decode cX9_fine 26 = .ok (.invokevirtual 68, 3) := by decide +kernel
theorem dX9_fine_29 : decode cX9_fine 29 = .ok (.ireturn, 1) := by decide +kernel
theorem dX9_fine_30 : decode cX9_fine 30 = .ok (.aload_n 0, 1) := by decide +kernel
theorem dX9_fine_31 : decode cX9_fine 31 = .ok (.getfield 32, 3) := by decide +kernel
theorem dX9_fine_34 : decode cX9_fine 34 = .ok (.invokevirtual 85, 3) := by decide +kernel
theorem dX9_fine_37 : decode cX9_fine 37 = .ok (.ifCond .eq 9, 3) := by decide +kernel
theorem dX9_fine_40 : decode cX9_fine 40 = .ok (.aload_n 0, 1) := by decide +kernel
theorem dX9_fine_41 : decode cX9_fine 41 = .ok (.iconst 1, 1) := by decide +kernel
theorem dX9_fine_42 : decode cX9_fine 42 = .ok (.invokevirtual 68, 3) := by decide +kernel
theorem dX9_fine_45 : decode cX9_fine 45 = .ok (.ireturn, 1) := by decide +kernel
theorem dX9_fine_46 : decode cX9_fine 46 = .ok (.aload_n 0, 1) := by decide +kernel
theorem dX9_fine_47 : decode cX9_fine 47 = .ok (.getfield 32, 3) := by decide +kernel
theorem dX9_fine_50 : decode cX9_fine 50 = .ok (.iload_n 1, 1) := by decide +kernel
theorem dX9_fine_51 : decode cX9_fine 51 = .ok (.iload_n 2, 1) := by decide +kernel
theorem dX9_fine_52 : decode cX9_fine 52 = .ok (.iload_n 3, 1) := by decide +kernel
theorem dX9_fine_53 : decode cX9_fine 53 = .ok (.iconst 3, 1) := by decide +kernel
theorem dX9_fine_54 : decode cX9_fine 54 = .ok (.invokevirtual 89, 3) := by decide +kernel
theorem dX9_fine_57 : decode cX9_fine 57 = .ok (.aload_n 0, 1) := by decide +kernel
theorem dX9_fine_58 : decode cX9_fine 58 = .ok (.getfield 32, 3) := by decide +kernel
theorem dX9_fine_61 : decode cX9_fine 61 = .ok (.getfield 93, 3) := by decide +kernel
theorem dX9_fine_64 : decode cX9_fine 64 = .ok (.iconst 1, 1) := by decide +kernel
theorem dX9_fine_65 : decode cX9_fine 65 = .ok (.isub, 1) := by decide +kernel
theorem dX9_fine_66 : decode cX9_fine 66 = .ok (.ireturn, 1) := by decide +kernel
theorem dX9_of_0 : decode cX9_of 0 = .ok (.aload_n 0, 1) := by decide +kernel
theorem dX9_of_1 : decode cX9_of 1 = .ok (.getfield 32, 3) := by decide +kernel
theorem dX9_of_4 : decode cX9_of 4 = .ok (.iload_n 1, 1) := by decide +kernel
theorem dX9_of_5 : decode cX9_of 5 = .ok (.invokevirtual 96, 3) := by decide +kernel
theorem dX9_of_8 : decode cX9_of 8 = .ok (.ifCond .ne 9, 3) := by decide +kernel
theorem dX9_of_11 : decode cX9_of 11 = .ok (.aload_n 0, 1) := by decide +kernel
theorem dX9_of_12 : decode cX9_of 12 = .ok (.iconst 0, 1) := by decide +kernel
theorem dX9_of_13 : decode cX9_of 13 = .ok (.invokevirtual 68, 3) := by decide +kernel
theorem dX9_of_16 : decode cX9_of 16 = .ok (.ireturn, 1) := by decide +kernel
theorem dX9_of_17 : decode cX9_of 17 = .ok (.iload_n 2, 1) := by decide +kernel
theorem dX9_of_18 : decode cX9_of 18 = .ok (.tableswitch 132 0 7 #[46, 56, 66, 76, 86, 96, 105, 123], 46) := by decide +kernel
theorem dX9_of_64 : decode cX9_of 64 = .ok (.aload_n 0, 1) := by decide +kernel
theorem dX9_of_65 : decode cX9_of 65 = .ok (.getfield 32, 3) := by decide +kernel
theorem dX9_of_68 : decode cX9_of 68 = .ok (.getfield 99, 3) := by decide +kernel
theorem dX9_of_71 : decode cX9_of 71 = .ok (.iload_n 1, 1) := by decide +kernel
theorem dX9_of_72 : decode cX9_of 72 = .ok (.iaload, 1) := by decide +kernel
theorem dX9_of_73 : decode cX9_of 73 = .ok (.ireturn, 1) := by decide +kernel
theorem dX9_of_74 : decode cX9_of 74 = .ok (.aload_n 0, 1) := by decide +kernel
theorem dX9_of_75 : decode cX9_of 75 = .ok (.getfield 32, 3) := by decide +kernel
theorem dX9_of_78 : decode cX9_of 78 = .ok (.getfield 102, 3) := by decide +kernel
theorem dX9_of_81 : decode cX9_of 81 = .ok (.iload_n 1, 1) := by decide +kernel
theorem dX9_of_82 : decode cX9_of 82 = .ok (.iaload, 1) := by decide +kernel
theorem dX9_of_83 : decode cX9_of 83 = .ok (.ireturn, 1) := by decide +kernel
theorem dX9_of_84 : decode cX9_of 84 = .ok (.aload_n 0, 1) := by decide +kernel
theorem dX9_of_85 : decode cX9_of 85 = .ok (.getfield 32, 3) := by decide +kernel
theorem dX9_of_88 : decode cX9_of 88 = .ok (.getfield 105, 3) := by decide +kernel
theorem dX9_of_91 : decode cX9_of 91 = .ok (.iload_n 1, 1) := by decide +kernel
theorem dX9_of_92 : decode cX9_of 92 = .ok (.iaload, 1) := by decide +kernel
theorem dX9_of_93 : decode cX9_of 93 = .ok (.ireturn, 1) := by decide +kernel
theorem dX9_of_94 : decode cX9_of 94 = .ok (.aload_n 0, 1) := by decide +kernel
theorem dX9_of_95 : decode cX9_of 95 = .ok (.getfield 32, 3) := by decide +kernel
theorem dX9_of_98 : decode cX9_of 98 = .ok (.getfield 108, 3) := by decide +kernel
theorem dX9_of_101 : decode cX9_of 101 = .ok (.iload_n 1, 1) := by decide +kernel
theorem dX9_of_102 : decode cX9_of 102 = .ok (.iaload, 1) := by decide +kernel
theorem dX9_of_103 : decode cX9_of 103 = .ok (.ireturn, 1) := by decide +kernel
theorem dX9_of_104 : decode cX9_of 104 = .ok (.aload_n 0, 1) := by decide +kernel
theorem dX9_of_105 : decode cX9_of 105 = .ok (.getfield 32, 3) := by decide +kernel
theorem dX9_of_108 : decode cX9_of 108 = .ok (.getfield 111, 3) := by decide +kernel
theorem dX9_of_111 : decode cX9_of 111 = .ok (.iload_n 1, 1) := by decide +kernel
theorem dX9_of_112 : decode cX9_of 112 = .ok (.iaload, 1) := by decide +kernel
theorem dX9_of_113 : decode cX9_of 113 = .ok (.ireturn, 1) := by decide +kernel
theorem dX9_of_114 : decode cX9_of 114 = .ok (.aload_n 0, 1) := by decide +kernel
theorem dX9_of_115 : decode cX9_of 115 = .ok (.getfield 32, 3) := by decide +kernel
theorem dX9_of_118 : decode cX9_of 118 = .ok (.iload_n 1, 1) := by decide +kernel
theorem dX9_of_119 : decode cX9_of 119 = .ok (.invokevirtual 114, 3) := by decide +kernel
theorem dX9_of_122 : decode cX9_of 122 = .ok (.ireturn, 1) := by decide +kernel
theorem dX9_of_123 : decode cX9_of 123 = .ok (.aload_n 0, 1) := by decide +kernel
theorem dX9_of_124 : decode cX9_of 124 = .ok (.getfield 32, 3) := by decide +kernel
theorem dX9_of_127 : decode cX9_of 127 = .ok (.iload_n 1, 1) := by decide +kernel
theorem dX9_of_128 : decode cX9_of 128 = .ok (.aload_n 0, 1) := by decide +kernel
theorem dX9_of_129 : decode cX9_of 129 = .ok (.getfield 32, 3) := by decide +kernel
theorem dX9_of_132 : decode cX9_of 132 = .ok (.getfield 105, 3) := by decide +kernel
theorem dX9_of_135 : decode cX9_of 135 = .ok (.iload_n 1, 1) := by decide +kernel
theorem dX9_of_136 : decode cX9_of 136 = .ok (.iaload, 1) := by decide +kernel
theorem dX9_of_137 : decode cX9_of 137 = .ok (.invokevirtual 117, 3) := by decide +kernel
theorem dX9_of_140 : decode cX9_of 140 = .ok (.ireturn, 1) := by decide +kernel
theorem dX9_of_141 : decode cX9_of 141 = .ok (.aload_n 0, 1) := by decide +kernel
theorem dX9_of_142 : decode cX9_of 142 = .ok (.getfield 32, 3) := by decide +kernel
theorem dX9_of_145 : decode cX9_of 145 = .ok (.iload_n 1, 1) := by decide +kernel
theorem dX9_of_146 : decode cX9_of 146 = .ok (.invokevirtual 121, 3) := by decide +kernel
theorem dX9_of_149 : decode cX9_of 149 = .ok (.ireturn, 1) := by decide +kernel
theorem dX9_of_150 : decode cX9_of 150 = .ok (.aload_n 0, 1) := by decide +kernel
theorem dX9_of_151 : decode cX9_of 151 = .ok (.iconst 0, 1) := by decide +kernel
theorem dX9_of_152 : decode cX9_of 152 = .ok (.invokevirtual 68, 3) := by decide +kernel
theorem dX9_of_155 : decode cX9_of 155 = .ok (.ireturn, 1) := by decide +kernel
theorem dX9_set_0 : decode cX9_set 0 = .ok (.aload_n 0, 1) := by decide +kernel
theorem dX9_set_1 : decode cX9_set 1 = .ok (.getfield 32, 3) := by decide +kernel
theorem dX9_set_4 : decode cX9_set 4 = .ok (.iload_n 1, 1) := by decide +kernel
theorem dX9_set_5 : decode cX9_set 5 = .ok (.invokevirtual 96, 3) := by decide +kernel
theorem dX9_set_8 : decode cX9_set 8 = .ok (.ifCond .ne 9, 3) := by decide +kernel
theorem dX9_set_11 : decode cX9_set 11 = .ok (.aload_n 0, 1) := by decide +kernel
theorem dX9_set_12 : decode cX9_set 12 = .ok (.iconst 0, 1) := by decide +kernel
theorem dX9_set_13 : decode cX9_set 13 = .ok (.invokevirtual 68, 3) := by decide +kernel
theorem dX9_set_16 : decode cX9_set 16 = .ok (.ireturn, 1) := by decide +kernel
theorem dX9_set_17 : decode cX9_set 17 = .ok (.iload_n 2, 1) := by decide +kernel
theorem dX9_set_18 : decode cX9_set 18 = .ok (.iconst 1, 1) := by decide +kernel
theorem dX9_set_19 : decode cX9_set 19 = .ok (.if_icmp .ne 37, 3) := by decide +kernel
theorem dX9_set_22 : decode cX9_set 22 = .ok (.iload_n 3, 1) := by decide +kernel
theorem dX9_set_23 : decode cX9_set 23 = .ok (.iconst 0, 1) := by decide +kernel
theorem dX9_set_24 : decode cX9_set 24 = .ok (.bipush 40, 2) := by decide +kernel
theorem dX9_set_26 : decode cX9_set 26 = .ok (.invokestatic 64, 3) := by decide +kernel
theorem dX9_set_29 : decode cX9_set 29 = .ok (.ifCond .eq 27, 3) := by decide +kernel
theorem dX9_set_32 : decode cX9_set 32 = .ok (.aload_n 0, 1) := by decide +kernel
theorem dX9_set_33 : decode cX9_set 33 = .ok (.getfield 32, 3) := by decide +kernel
theorem dX9_set_36 : decode cX9_set 36 = .ok (.getfield 102, 3) := by decide +kernel
theorem dX9_set_39 : decode cX9_set 39 = .ok (.iload_n 1, 1) := by decide +kernel
theorem dX9_set_40 : decode cX9_set 40 = .ok (.iaload, 1) := by decide +kernel
theorem dX9_set_41 : decode cX9_set 41 = .ok (.istore 4, 2) := by decide +kernel
theorem dX9_set_43 : decode cX9_set 43 = .ok (.aload_n 0, 1) := by decide +kernel
theorem dX9_set_44 : decode cX9_set 44 = .ok (.getfield 32, 3) := by decide +kernel
theorem dX9_set_47 : decode cX9_set 47 = .ok (.getfield 102, 3) := by decide +kernel
theorem dX9_set_50 : decode cX9_set 50 = .ok (.iload_n 1, 1) := by decide +kernel
theorem dX9_set_51 : decode cX9_set 51 = .ok (.iload_n 3, 1) := by decide +kernel
theorem dX9_set_52 : decode cX9_set 52 = .ok (.iastore, 1) := by decide +kernel
theorem dX9_set_53 : decode cX9_set 53 = .ok (.iload 4, 2) := by decide +kernel
theorem dX9_set_55 : decode cX9_set 55 = .ok (.ireturn, 1) := by decide +kernel
theorem dX9_set_56 : decode cX9_set 56 = .ok (.iload_n 2, 1) := by decide +kernel
theorem dX9_set_57 : decode cX9_set 57 = .ok (.iconst 2, 1) := by decide +kernel
theorem dX9_set_58 : decode cX9_set 58 = .ok (.if_icmp .ne 33, 3) := by decide +kernel
theorem dX9_set_61 : decode cX9_set 61 = .ok (.iload_n 3, 1) := by decide +kernel
theorem dX9_set_62 : decode cX9_set 62 = .ok (.invokestatic 60, 3) := by decide +kernel
theorem dX9_set_65 : decode cX9_set 65 = .ok (.ifCond .eq 26, 3) := by decide +kernel
theorem dX9_set_68 : decode cX9_set 68 = .ok (.aload_n 0, 1) := by decide +kernel
theorem dX9_set_69 : decode cX9_set 69 = .ok (.getfield 32, 3) := by decide +kernel
theorem dX9_set_72 : decode cX9_set 72 = .ok (.getfield 105, 3) := by decide +kernel
theorem dX9_set_75 : decode cX9_set 75 = .ok (.iload_n 1, 1) := by decide +kernel
theorem dX9_set_76 : decode cX9_set 76 = .ok (.iaload, 1) := by decide +kernel
theorem dX9_set_77 : decode cX9_set 77 = .ok (.istore 4, 2) := by decide +kernel
theorem dX9_set_79 : decode cX9_set 79 = .ok (.aload_n 0, 1) := by decide +kernel
theorem dX9_set_80 : decode cX9_set 80 = .ok (.getfield 32, 3) := by decide +kernel
theorem dX9_set_83 : decode cX9_set 83 = .ok (.iload_n 1, 1) := by decide +kernel
theorem dX9_set_84 : decode cX9_set 84 = .ok (.iload_n 3, 1) := by decide +kernel
theorem dX9_set_85 : decode cX9_set 85 = .ok (.invokevirtual 124, 3) := by decide +kernel
theorem dX9_set_88 : decode cX9_set 88 = .ok (.iload 4, 2) := by decide +kernel
theorem dX9_set_90 : decode cX9_set 90 = .ok (.ireturn, 1) := by decide +kernel
theorem dX9_set_91 : decode cX9_set 91 = .ok (.iload_n 2, 1) := by decide +kernel
theorem dX9_set_92 : decode cX9_set 92 = .ok (.iconst 3, 1) := by decide +kernel
theorem dX9_set_93 : decode cX9_set 93 = .ok (.if_icmp .ne 37, 3) := by decide +kernel
theorem dX9_set_96 : decode cX9_set 96 = .ok (.iload_n 3, 1) := by decide +kernel
theorem dX9_set_97 : decode cX9_set 97 = .ok (.iconst 1, 1) := by decide +kernel
theorem dX9_set_98 : decode cX9_set 98 = .ok (.bipush 9, 2) := by decide +kernel
theorem dX9_set_100 : decode cX9_set 100 = .ok (.invokestatic 64, 3) := by decide +kernel
theorem dX9_set_103 : decode cX9_set 103 = .ok (.ifCond .eq 27, 3) := by decide +kernel
theorem dX9_set_106 : decode cX9_set 106 = .ok (.aload_n 0, 1) := by decide +kernel
theorem dX9_set_107 : decode cX9_set 107 = .ok (.getfield 32, 3) := by decide +kernel
theorem dX9_set_110 : decode cX9_set 110 = .ok (.getfield 108, 3) := by decide +kernel
theorem dX9_set_113 : decode cX9_set 113 = .ok (.iload_n 1, 1) := by decide +kernel
theorem dX9_set_114 : decode cX9_set 114 = .ok (.iaload, 1) := by decide +kernel
theorem dX9_set_115 : decode cX9_set 115 = .ok (.istore 4, 2) := by decide +kernel
theorem dX9_set_117 : decode cX9_set 117 = .ok (.aload_n 0, 1) := by decide +kernel
theorem dX9_set_118 : decode cX9_set 118 = .ok (.getfield 32, 3) := by decide +kernel
theorem dX9_set_121 : decode cX9_set 121 = .ok (.getfield 108, 3) := by decide +kernel
theorem dX9_set_124 : decode cX9_set 124 = .ok (.iload_n 1, 1) := by decide +kernel
theorem dX9_set_125 : decode cX9_set 125 = .ok (.iload_n 3, 1) := by decide +kernel
theorem dX9_set_126 : decode cX9_set 126 = .ok (.iastore, 1) := by decide +kernel
theorem dX9_set_127 : decode cX9_set 127 = .ok (.iload 4, 2) := by decide +kernel
theorem dX9_set_129 : decode cX9_set 129 = .ok (.ireturn, 1) := by decide +kernel
theorem dX9_set_130 : decode cX9_set 130 = .ok (.aload_n 0, 1) := by decide +kernel
theorem dX9_set_131 : decode cX9_set 131 = .ok (.iconst 0, 1) := by decide +kernel
theorem dX9_set_132 : decode cX9_set 132 = .ok (.invokevirtual 68, 3) := by decide +kernel
theorem dX9_set_135 : decode cX9_set 135 = .ok (.ireturn, 1) := by decide +kernel
theorem dX9_turn_0 : decode cX9_turn 0 = .ok (.aload_n 0, 1) := by decide +kernel
theorem dX9_turn_1 : decode cX9_turn 1 = .ok (.getfield 32, 3) := by decide +kernel
theorem dX9_turn_4 : decode cX9_turn 4 = .ok (.iload_n 1, 1) := by decide +kernel
theorem dX9_turn_5 : decode cX9_turn 5 = .ok (.invokevirtual 96, 3) := by decide +kernel
theorem dX9_turn_8 : decode cX9_turn 8 = .ok (.ifCond .eq 10, 3) := by decide +kernel
theorem dX9_turn_11 : decode cX9_turn 11 = .ok (.iload_n 2, 1) := by decide +kernel
theorem dX9_turn_12 : decode cX9_turn 12 = .ok (.invokestatic 82, 3) := by decide +kernel
theorem dX9_turn_15 : decode cX9_turn 15 = .ok (.ifCond .ne 9, 3) := by decide +kernel
theorem dX9_turn_18 : decode cX9_turn 18 = .ok (.aload_n 0, 1) := by decide +kernel
theorem dX9_turn_19 : decode cX9_turn 19 = .ok (.iconst 0, 1) := by decide +kernel
theorem dX9_turn_20 : decode cX9_turn 20 = .ok (.invokevirtual 68, 3) := by decide +kernel
theorem dX9_turn_23 : decode cX9_turn 23 = .ok (.ireturn, 1) := by decide +kernel
theorem dX9_turn_24 : decode cX9_turn 24 = .ok (.aload_n 0, 1) := by decide +kernel
theorem dX9_turn_25 : decode cX9_turn 25 = .ok (.getfield 32, 3) := by decide +kernel
theorem dX9_turn_28 : decode cX9_turn 28 = .ok (.getfield 99, 3) := by decide +kernel
theorem dX9_turn_31 : decode cX9_turn 31 = .ok (.iload_n 1, 1) := by decide +kernel
theorem dX9_turn_32 : decode cX9_turn 32 = .ok (.iaload, 1) := by decide +kernel
theorem dX9_turn_33 : decode cX9_turn 33 = .ok (.istore_n 3, 1) := by decide +kernel
theorem dX9_turn_34 : decode cX9_turn 34 = .ok (.aload_n 0, 1) := by decide +kernel
theorem dX9_turn_35 : decode cX9_turn 35 = .ok (.getfield 32, 3) := by decide +kernel
theorem dX9_turn_38 : decode cX9_turn 38 = .ok (.getfield 99, 3) := by decide +kernel
theorem dX9_turn_41 : decode cX9_turn 41 = .ok (.iload_n 1, 1) := by decide +kernel
theorem dX9_turn_42 : decode cX9_turn 42 = .ok (.iload_n 2, 1) := by decide +kernel
theorem dX9_turn_43 : decode cX9_turn 43 = .ok (.iastore, 1) := by decide +kernel
theorem dX9_turn_44 : decode cX9_turn 44 = .ok (.iload_n 3, 1) := by decide +kernel
theorem dX9_turn_45 : decode cX9_turn 45 = .ok (.ireturn, 1) := by decide +kernel
theorem dX9_as_0 : decode cX9_as 0 = .ok (.aload_n 0, 1) := by decide +kernel
theorem dX9_as_1 : decode cX9_as 1 = .ok (.getfield 32, 3) := by decide +kernel
theorem dX9_as_4 : decode cX9_as 4 = .ok (.iload_n 1, 1) := by decide +kernel
theorem dX9_as_5 : decode cX9_as 5 = .ok (.invokevirtual 96, 3) := by decide +kernel
theorem dX9_as_8 : decode cX9_as 8 = .ok (.ifCond .eq 10, 3) := by decide +kernel
theorem dX9_as_11 : decode cX9_as 11 = .ok (.iload_n 2, 1) := by decide +kernel
theorem dX9_as_12 : decode cX9_as 12 = .ok (.invokestatic 82, 3) := by decide +kernel
theorem dX9_as_15 : decode cX9_as 15 = .ok (.ifCond .ne 9, 3) := by decide +kernel
theorem dX9_as_18 : decode cX9_as 18 = .ok (.aload_n 0, 1) := by decide +kernel
theorem dX9_as_19 : decode cX9_as 19 = .ok (.iconst 0, 1) := by decide +kernel
theorem dX9_as_20 : decode cX9_as 20 = .ok (.invokevirtual 68, 3) := by decide +kernel
theorem dX9_as_23 : decode cX9_as 23 = .ok (.ireturn, 1) := by decide +kernel
theorem dX9_as_24 : decode cX9_as 24 = .ok (.aload_n 0, 1) := by decide +kernel
theorem dX9_as_25 : decode cX9_as 25 = .ok (.getfield 32, 3) := by decide +kernel
theorem dX9_as_28 : decode cX9_as 28 = .ok (.iload_n 1, 1) := by decide +kernel
theorem dX9_as_29 : decode cX9_as 29 = .ok (.invokevirtual 128, 3) := by decide +kernel
theorem dX9_as_32 : decode cX9_as 32 = .ok (.iload_n 2, 1) := by decide +kernel
theorem dX9_as_33 : decode cX9_as 33 = .ok (.invokestatic 132, 3) := by decide +kernel
theorem dX9_as_36 : decode cX9_as 36 = .ok (.ifCond .ne 9, 3) := by decide +kernel
theorem dX9_as_39 : decode cX9_as 39 = .ok (.aload_n 0, 1) := by decide +kernel
theorem dX9_as_40 : decode cX9_as 40 = .ok (.iconst 2, 1) := by decide +kernel
theorem dX9_as_41 : decode cX9_as 41 = .ok (.invokevirtual 68, 3) := by decide +kernel
theorem dX9_as_44 : decode cX9_as 44 = .ok (.ireturn, 1) := by decide +kernel
theorem dX9_as_45 : decode cX9_as 45 = .ok (.aload_n 0, 1) := by decide +kernel
theorem dX9_as_46 : decode cX9_as 46 = .ok (.getfield 32, 3) := by decide +kernel
theorem dX9_as_49 : decode cX9_as 49 = .ok (.getfield 102, 3) := by decide +kernel
theorem dX9_as_52 : decode cX9_as 52 = .ok (.iload_n 1, 1) := by decide +kernel
theorem dX9_as_53 : decode cX9_as 53 = .ok (.iaload, 1) := by decide +kernel
theorem dX9_as_54 : decode cX9_as 54 = .ok (.ireturn, 1) := by decide +kernel
theorem dX9_placeOf_0 : decode cX9_placeOf 0 = .ok (.iload_n 1, 1) := by decide +kernel
theorem dX9_placeOf_1 : decode cX9_placeOf 1 = .ok (.invokestatic 60, 3) := by decide +kernel
theorem dX9_placeOf_4 : decode cX9_placeOf 4 = .ok (.ifCond .eq 12, 3) := by decide +kernel
theorem dX9_placeOf_7 : decode cX9_placeOf 7 = .ok (.iload_n 2, 1) := by decide +kernel
theorem dX9_placeOf_8 : decode cX9_placeOf 8 = .ok (.iconst 0, 1) := by decide +kernel
theorem dX9_placeOf_9 : decode cX9_placeOf 9 = .ok (.iconst 4, 1) := by decide +kernel
theorem dX9_placeOf_10 : decode cX9_placeOf 10 = .ok (.invokestatic 64, 3) := by decide +kernel
theorem dX9_placeOf_13 : decode cX9_placeOf 13 = .ok (.ifCond .ne 9, 3) := by decide +kernel
theorem dX9_placeOf_16 : decode cX9_placeOf 16 = .ok (.aload_n 0, 1) := by decide +kernel
theorem dX9_placeOf_17 : decode cX9_placeOf 17 = .ok (.iconst 0, 1) := by decide +kernel
theorem dX9_placeOf_18 : decode cX9_placeOf 18 = .ok (.invokevirtual 68, 3) := by decide +kernel
theorem dX9_placeOf_21 : decode cX9_placeOf 21 = .ok (.ireturn, 1) := by decide +kernel
theorem dX9_placeOf_22 : decode cX9_placeOf 22 = .ok (.iload_n 2, 1) := by decide +kernel
theorem dX9_placeOf_23 : decode cX9_placeOf 23 = .ok (.ifCond .ne 13, 3) := by decide +kernel
theorem dX9_placeOf_26 : decode cX9_placeOf 26 = .ok (.aload_n 0, 1) := by decide +kernel
theorem dX9_placeOf_27 : decode cX9_placeOf 27 = .ok (.getfield 32, 3) := by decide +kernel
theorem dX9_placeOf_30 : decode cX9_placeOf 30 = .ok (.getfield 72, 3) := by decide +kernel
theorem dX9_placeOf_33 : decode cX9_placeOf 33 = .ok (.iload_n 1, 1) := by decide +kernel
theorem dX9_placeOf_34 : decode cX9_placeOf 34 = .ok (.iaload, 1) := by decide +kernel
theorem dX9_placeOf_35 : decode cX9_placeOf 35 = .ok (.ireturn, 1) := by decide +kernel
theorem dX9_placeOf_36 : decode cX9_placeOf 36 = .ok (.iload_n 2, 1) := by decide +kernel
theorem dX9_placeOf_37 : decode cX9_placeOf 37 = .ok (.iconst 1, 1) := by decide +kernel
theorem dX9_placeOf_38 : decode cX9_placeOf 38 = .ok (.if_icmp .ne 20, 3) := by decide +kernel
theorem dX9_placeOf_41 : decode cX9_placeOf 41 = .ok (.aload_n 0, 1) := by decide +kernel
theorem dX9_placeOf_42 : decode cX9_placeOf 42 = .ok (.getfield 32, 3) := by decide +kernel
theorem dX9_placeOf_45 : decode cX9_placeOf 45 = .ok (.iload_n 1, 1) := by decide +kernel
theorem dX9_placeOf_46 : decode cX9_placeOf 46 = .ok (.invokevirtual 136, 3) := by decide +kernel
theorem dX9_placeOf_49 : decode cX9_placeOf 49 = .ok (.ifCond .eq 7, 3) := by decide +kernel
theorem dX9_placeOf_52 : decode cX9_placeOf 52 = .ok (.iconst 1, 1) := by decide +kernel
theorem dX9_placeOf_53 : decode cX9_placeOf 53 = .ok (.goto 4, 3) := by decide +kernel
theorem dX9_placeOf_56 : decode cX9_placeOf 56 = .ok (.iconst 0, 1) := by decide +kernel
theorem dX9_placeOf_57 : decode cX9_placeOf 57 = .ok (.ireturn, 1) := by decide +kernel
theorem dX9_placeOf_58 : decode cX9_placeOf 58 = .ok (.aload_n 0, 1) := by decide +kernel
theorem dX9_placeOf_59 : decode cX9_placeOf 59 = .ok (.getfield 32, 3) := by decide +kernel
theorem dX9_placeOf_62 : decode cX9_placeOf 62 = .ok (.iload_n 1, 1) := by decide +kernel
theorem dX9_placeOf_63 : decode cX9_placeOf 63 = .ok (.invokevirtual 136, 3) := by decide +kernel
theorem dX9_placeOf_66 : decode cX9_placeOf 66 = .ok (.ifCond .ne 9, 3) := by decide +kernel
theorem dX9_placeOf_69 : decode cX9_placeOf 69 = .ok (.aload_n 0, 1) := by decide +kernel
theorem dX9_placeOf_70 : decode cX9_placeOf 70 = .ok (.iconst 4, 1) := by decide +kernel
theorem dX9_placeOf_71 : decode cX9_placeOf 71 = .ok (.invokevirtual 68, 3) := by decide +kernel
theorem dX9_placeOf_74 : decode cX9_placeOf 74 = .ok (.ireturn, 1) := by decide +kernel
theorem dX9_placeOf_75 : decode cX9_placeOf 75 = .ok (.iload_n 2, 1) := by decide +kernel
theorem dX9_placeOf_76 : decode cX9_placeOf 76 = .ok (.iconst 2, 1) := by decide +kernel
theorem dX9_placeOf_77 : decode cX9_placeOf 77 = .ok (.if_icmp .ne 13, 3) := by decide +kernel
theorem dX9_placeOf_80 : decode cX9_placeOf 80 = .ok (.aload_n 0, 1) := by decide +kernel
theorem dX9_placeOf_81 : decode cX9_placeOf 81 = .ok (.getfield 32, 3) := by decide +kernel
theorem dX9_placeOf_84 : decode cX9_placeOf 84 = .ok (.getfield 139, 3) := by decide +kernel
theorem dX9_placeOf_87 : decode cX9_placeOf 87 = .ok (.iload_n 1, 1) := by decide +kernel
theorem dX9_placeOf_88 : decode cX9_placeOf 88 = .ok (.iaload, 1) := by decide +kernel
theorem dX9_placeOf_89 : decode cX9_placeOf 89 = .ok (.ireturn, 1) := by decide +kernel
theorem dX9_placeOf_90 : decode cX9_placeOf 90 = .ok (.iload_n 2, 1) := by decide +kernel
theorem dX9_placeOf_91 : decode cX9_placeOf 91 = .ok (.iconst 3, 1) := by decide +kernel
theorem dX9_placeOf_92 : decode cX9_placeOf 92 = .ok (.if_icmp .ne 15, 3) := by decide +kernel
theorem dX9_placeOf_95 : decode cX9_placeOf 95 = .ok (.aload_n 0, 1) := by decide +kernel
theorem dX9_placeOf_96 : decode cX9_placeOf 96 = .ok (.getfield 32, 3) := by decide +kernel
theorem dX9_placeOf_99 : decode cX9_placeOf 99 = .ok (.getfield 142, 3) := by decide +kernel
theorem dX9_placeOf_102 : decode cX9_placeOf 102 = .ok (.iload_n 1, 1) := by decide +kernel
theorem dX9_placeOf_103 : decode cX9_placeOf 103 = .ok (.iaload, 1) := by decide +kernel
theorem dX9_placeOf_104 : decode cX9_placeOf 104 = .ok (.goto 12, 3) := by decide +kernel
theorem dX9_placeOf_107 : decode cX9_placeOf 107 = .ok (.aload_n 0, 1) := by decide +kernel
theorem dX9_placeOf_108 : decode cX9_placeOf 108 = .ok (.getfield 32, 3) := by decide +kernel
theorem dX9_placeOf_111 : decode cX9_placeOf 111 = .ok (.getfield 145, 3) := by decide +kernel
theorem dX9_placeOf_114 : decode cX9_placeOf 114 = .ok (.iload_n 1, 1) := by decide +kernel
theorem dX9_placeOf_115 : decode cX9_placeOf 115 = .ok (.iaload, 1) := by decide +kernel
theorem dX9_placeOf_116 : decode cX9_placeOf 116 = .ok (.ireturn, 1) := by decide +kernel
theorem dX9_whole_0 : decode cX9_whole 0 = .ok (.aload_n 0, 1) := by decide +kernel
theorem dX9_whole_1 : decode cX9_whole 1 = .ok (.getfield 32, 3) := by decide +kernel
theorem dX9_whole_4 : decode cX9_whole 4 = .ok (.getfield 148, 3) := by decide +kernel
theorem dX9_whole_7 : decode cX9_whole 7 = .ok (.lreturn, 1) := by decide +kernel
theorem dX9_make_0 : decode cX9_make 0 = .ok (.iload_n 1, 1) := by decide +kernel
theorem dX9_make_1 : decode cX9_make 1 = .ok (.invokestatic 60, 3) := by decide +kernel
theorem dX9_make_4 : decode cX9_make 4 = .ok (.ifCond .eq 14, 3) := by decide +kernel
theorem dX9_make_7 : decode cX9_make 7 = .ok (.aload_n 0, 1) := by decide +kernel
theorem dX9_make_8 : decode cX9_make 8 = .ok (.getfield 32, 3) := by decide +kernel
theorem dX9_make_11 : decode cX9_make 11 = .ok (.iload_n 3, 1) := by decide +kernel
theorem dX9_make_12 : decode cX9_make 12 = .ok (.invokevirtual 96, 3) := by decide +kernel
theorem dX9_make_15 : decode cX9_make 15 = .ok (.ifCond .ne 9, 3) := by decide +kernel
theorem dX9_make_18 : decode cX9_make 18 = .ok (.aload_n 0, 1) := by decide +kernel
theorem dX9_make_19 : decode cX9_make 19 = .ok (.iconst 0, 1) := by decide +kernel
theorem dX9_make_20 : decode cX9_make 20 = .ok (.invokevirtual 68, 3) := by decide +kernel
theorem dX9_make_23 : decode cX9_make 23 = .ok (.ireturn, 1) := by decide +kernel
theorem dX9_make_24 : decode cX9_make 24 = .ok (.aload_n 0, 1) := by decide +kernel
theorem dX9_make_25 : decode cX9_make 25 = .ok (.getfield 32, 3) := by decide +kernel
theorem dX9_make_28 : decode cX9_make 28 = .ok (.iload_n 1, 1) := by decide +kernel
theorem dX9_make_29 : decode cX9_make 29 = .ok (.invokevirtual 136, 3) := by decide +kernel
theorem dX9_make_32 : decode cX9_make 32 = .ok (.iload_n 2, 1) := by decide +kernel
theorem dX9_make_33 : decode cX9_make 33 = .ok (.if_icmp .ne 5, 3) := by decide +kernel
theorem dX9_make_36 : decode cX9_make 36 = .ok (.iconst 0, 1) := by decide +kernel
theorem dX9_make_37 : decode cX9_make 37 = .ok (.ireturn, 1) := by decide +kernel
theorem dX9_make_38 : decode cX9_make 38 = .ok (.iload_n 2, 1) := by decide +kernel
theorem dX9_make_39 : decode cX9_make 39 = .ok (.ifCond .eq 17, 3) := by decide +kernel
theorem dX9_make_42 : decode cX9_make 42 = .ok (.aload_n 0, 1) := by decide +kernel
theorem dX9_make_43 : decode cX9_make 43 = .ok (.getfield 32, 3) := by decide +kernel
theorem dX9_make_46 : decode cX9_make 46 = .ok (.iload_n 1, 1) := by decide +kernel
theorem dX9_make_47 : decode cX9_make 47 = .ok (.bipush 10, 2) := by decide +kernel
theorem dX9_make_49 : decode cX9_make 49 = .ok (.iload_n 3, 1) := by decide +kernel
theorem dX9_make_50 : decode cX9_make 50 = .ok (.invokevirtual 152, 3) := by decide +kernel
theorem dX9_make_53 : decode cX9_make 53 = .ok (.goto 11, 3) := by decide +kernel
theorem dX9_make_56 : decode cX9_make 56 = .ok (.aload_n 0, 1) := by decide +kernel
theorem dX9_make_57 : decode cX9_make 57 = .ok (.getfield 32, 3) := by decide +kernel
theorem dX9_make_60 : decode cX9_make 60 = .ok (.iload_n 1, 1) := by decide +kernel
theorem dX9_make_61 : decode cX9_make 61 = .ok (.invokevirtual 156, 3) := by decide +kernel
theorem dX9_make_64 : decode cX9_make 64 = .ok (.iconst 1, 1) := by decide +kernel
theorem dX9_make_65 : decode cX9_make 65 = .ok (.ireturn, 1) := by decide +kernel
theorem dX9_reach_0 : decode cX9_reach 0 = .ok (.aload_n 0, 1) := by decide +kernel
theorem dX9_reach_1 : decode cX9_reach 1 = .ok (.getfield 32, 3) := by decide +kernel
theorem dX9_reach_4 : decode cX9_reach 4 = .ok (.invokevirtual 160, 3) := by decide +kernel
theorem dX9_reach_7 : decode cX9_reach 7 = .ok (.ireturn, 1) := by decide +kernel
theorem dX9_faults_0 : decode cX9_faults 0 = .ok (.lconst 0, 1) := by decide +kernel
theorem dX9_faults_1 : decode cX9_faults 1 = .ok (.lstore_n 1, 1) := by decide +kernel
theorem dX9_faults_2 : decode cX9_faults 2 = .ok (.iconst 1, 1) := by decide +kernel
theorem dX9_faults_3 : decode cX9_faults 3 = .ok (.istore_n 3, 1) := by decide +kernel
theorem dX9_faults_4 : decode cX9_faults 4 = .ok (.iload_n 3, 1) := by decide +kernel
theorem dX9_faults_5 : decode cX9_faults 5 = .ok (.bipush 40, 2) := by decide +kernel
theorem dX9_faults_7 : decode cX9_faults 7 = .ok (.if_icmp .ge 44, 3) := by decide +kernel
theorem dX9_faults_10 : decode cX9_faults 10 = .ok (.aload_n 0, 1) := by decide +kernel
theorem dX9_faults_11 : decode cX9_faults 11 = .ok (.getfield 32, 3) := by decide +kernel
theorem dX9_faults_14 : decode cX9_faults 14 = .ok (.iload_n 3, 1) := by decide +kernel
theorem dX9_faults_15 : decode cX9_faults 15 = .ok (.invokevirtual 164, 3) := by decide +kernel
theorem dX9_faults_18 : decode cX9_faults 18 = .ok (.ifCond .eq 27, 3) := by decide +kernel
theorem dX9_faults_21 : decode cX9_faults 21 = .ok (.aload_n 0, 1) := by decide +kernel
theorem dX9_faults_22 : decode cX9_faults 22 = .ok (.getfield 32, 3) := by decide +kernel
theorem dX9_faults_25 : decode cX9_faults 25 = .ok (.iload_n 3, 1) := by decide +kernel
theorem dX9_faults_26 : decode cX9_faults 26 = .ok (.aload_n 0, 1) := by decide +kernel
theorem dX9_faults_27 : decode cX9_faults 27 = .ok (.getfield 32, 3) := by decide +kernel
theorem dX9_faults_30 : decode cX9_faults 30 = .ok (.getfield 79, 3) := by decide +kernel
theorem dX9_faults_33 : decode cX9_faults 33 = .ok (.invokevirtual 167, 3) := by decide +kernel
theorem dX9_faults_36 : decode cX9_faults 36 = .ok (.ifCond .ne 9, 3) := by decide +kernel
theorem dX9_faults_39 : decode cX9_faults 39 = .ok (.lload_n 1, 1) := by decide +kernel
theorem dX9_faults_40 : decode cX9_faults 40 = .ok (.lconst 1, 1) := by decide +kernel
theorem dX9_faults_41 : decode cX9_faults 41 = .ok (.iload_n 3, 1) := by decide +kernel
theorem dX9_faults_42 : decode cX9_faults 42 = .ok (.lshl, 1) := by decide +kernel
theorem dX9_faults_43 : decode cX9_faults 43 = .ok (.lor, 1) := by decide +kernel
theorem dX9_faults_44 : decode cX9_faults 44 = .ok (.lstore_n 1, 1) := by decide +kernel
theorem dX9_faults_45 : decode cX9_faults 45 = .ok (.iinc 3 1, 3) := by decide +kernel
theorem dX9_faults_48 : decode cX9_faults 48 = .ok (.goto (-44), 3) := by decide +kernel
theorem dX9_faults_51 : decode cX9_faults 51 = .ok (.lload_n 1, 1) := by decide +kernel
theorem dX9_faults_52 : decode cX9_faults 52 = .ok (.lreturn, 1) := by decide +kernel
theorem dX9_years_0 : decode cX9_years 0 = .ok (.aload_n 0, 1) := by decide +kernel
theorem dX9_years_1 : decode cX9_years 1 = .ok (.iload_n 1, 1) := by decide +kernel
theorem dX9_years_2 : decode cX9_years 2 = .ok (.iconst 1, 1) := by decide +kernel
theorem dX9_years_3 : decode cX9_years 3 = .ok (.sipush 200, 3) := by decide +kernel
theorem dX9_years_6 : decode cX9_years 6 = .ok (.invokevirtual 171, 3) := by decide +kernel
theorem dX9_years_9 : decode cX9_years 9 = .ok (.istore_n 2, 1) := by decide +kernel
theorem dX9_years_10 : decode cX9_years 10 = .ok (.iload_n 2, 1) := by decide +kernel
theorem dX9_years_11 : decode cX9_years 11 = .ok (.ifCond .eq 5, 3) := by decide +kernel
theorem dX9_years_14 : decode cX9_years 14 = .ok (.iload_n 2, 1) := by decide +kernel
theorem dX9_years_15 : decode cX9_years 15 = .ok (.ireturn, 1) := by decide +kernel
theorem dX9_years_16 : decode cX9_years 16 = .ok (.aload_n 0, 1) := by decide +kernel
theorem dX9_years_17 : decode cX9_years 17 = .ok (.getfield 32, 3) := by decide +kernel
theorem dX9_years_20 : decode cX9_years 20 = .ok (.iload_n 1, 1) := by decide +kernel
theorem dX9_years_21 : decode cX9_years 21 = .ok (.invokevirtual 175, 3) := by decide +kernel
theorem dX9_years_24 : decode cX9_years 24 = .ok (.aload_n 0, 1) := by decide +kernel
theorem dX9_years_25 : decode cX9_years 25 = .ok (.getfield 32, 3) := by decide +kernel
theorem dX9_years_28 : decode cX9_years 28 = .ok (.invokevirtual 178, 3) := by decide +kernel
theorem dX9_years_31 : decode cX9_years 31 = .ok (.ireturn, 1) := by decide +kernel
theorem dX9_seed_0 : decode cX9_seed 0 = .ok (.aload_n 0, 1) := by decide +kernel
theorem dX9_seed_1 : decode cX9_seed 1 = .ok (.getfield 32, 3) := by decide +kernel
theorem dX9_seed_4 : decode cX9_seed 4 = .ok (.getfield 181, 3) := by decide +kernel
theorem dX9_seed_7 : decode cX9_seed 7 = .ok (.istore_n 2, 1) := by decide +kernel
theorem dX9_seed_8 : decode cX9_seed 8 = .ok (.aload_n 0, 1) := by decide +kernel
theorem dX9_seed_9 : decode cX9_seed 9 = .ok (.getfield 32, 3) := by decide +kernel
theorem dX9_seed_12 : decode cX9_seed 12 = .ok (.iload_n 1, 1) := by decide +kernel
theorem dX9_seed_13 : decode cX9_seed 13 = .ok (.putfield 181, 3) := by decide +kernel
theorem dX9_seed_16 : decode cX9_seed 16 = .ok (.iload_n 2, 1) := by decide +kernel
theorem dX9_seed_17 : decode cX9_seed 17 = .ok (.ireturn, 1) := by decide +kernel
theorem dX9_now_0 : decode cX9_now 0 = .ok (.iload_n 1, 1) := by decide +kernel
theorem dX9_now_1 : decode cX9_now 1 = .ok (.tableswitch 75 0 4 #[35, 43, 51, 59, 67], 35) := by decide +kernel
theorem dX9_now_36 : decode cX9_now 36 = .ok (.aload_n 0, 1) := by decide +kernel
theorem dX9_now_37 : decode cX9_now 37 = .ok (.getfield 32, 3) := by decide +kernel
theorem dX9_now_40 : decode cX9_now 40 = .ok (.getfield 184, 3) := by decide +kernel
theorem dX9_now_43 : decode cX9_now 43 = .ok (.ireturn, 1) := by decide +kernel
theorem dX9_now_44 : decode cX9_now 44 = .ok (.aload_n 0, 1) := by decide +kernel
theorem dX9_now_45 : decode cX9_now 45 = .ok (.getfield 32, 3) := by decide +kernel
theorem dX9_now_48 : decode cX9_now 48 = .ok (.getfield 75, 3) := by decide +kernel
theorem dX9_now_51 : decode cX9_now 51 = .ok (.ireturn, 1) := by decide +kernel
theorem dX9_now_52 : decode cX9_now 52 = .ok (.aload_n 0, 1) := by decide +kernel
theorem dX9_now_53 : decode cX9_now 53 = .ok (.getfield 32, 3) := by decide +kernel
theorem dX9_now_56 : decode cX9_now 56 = .ok (.getfield 79, 3) := by decide +kernel
theorem dX9_now_59 : decode cX9_now 59 = .ok (.ireturn, 1) := by decide +kernel
theorem dX9_now_60 : decode cX9_now 60 = .ok (.aload_n 0, 1) := by decide +kernel
theorem dX9_now_61 : decode cX9_now 61 = .ok (.getfield 32, 3) := by decide +kernel
theorem dX9_now_64 : decode cX9_now 64 = .ok (.invokevirtual 178, 3) := by decide +kernel
theorem dX9_now_67 : decode cX9_now 67 = .ok (.ireturn, 1) := by decide +kernel
theorem dX9_now_68 : decode cX9_now 68 = .ok (.aload_n 0, 1) := by decide +kernel
theorem dX9_now_69 : decode cX9_now 69 = .ok (.getfield 32, 3) := by decide +kernel
theorem dX9_now_72 : decode cX9_now 72 = .ok (.invokevirtual 187, 3) := by decide +kernel
theorem dX9_now_75 : decode cX9_now 75 = .ok (.ireturn, 1) := by decide +kernel
theorem dX9_now_76 : decode cX9_now 76 = .ok (.aload_n 0, 1) := by decide +kernel
theorem dX9_now_77 : decode cX9_now 77 = .ok (.iconst 0, 1) := by decide +kernel
theorem dX9_now_78 : decode cX9_now 78 = .ok (.invokevirtual 68, 3) := by decide +kernel
theorem dX9_now_81 : decode cX9_now 81 = .ok (.ireturn, 1) := by decide +kernel
theorem dX9_on_0 : decode cX9_on 0 = .ok (.aload_n 0, 1) := by decide +kernel
theorem dX9_on_1 : decode cX9_on 1 = .ok (.iload_n 1, 1) := by decide +kernel
theorem dX9_on_2 : decode cX9_on 2 = .ok (.iconst 0, 1) := by decide +kernel
theorem dX9_on_3 : decode cX9_on 3 = .ok (.sipush 200, 3) := by decide +kernel
theorem dX9_on_6 : decode cX9_on 6 = .ok (.invokevirtual 171, 3) := by decide +kernel
theorem dX9_on_9 : decode cX9_on 9 = .ok (.istore_n 2, 1) := by decide +kernel
theorem dX9_on_10 : decode cX9_on 10 = .ok (.iload_n 2, 1) := by decide +kernel
theorem dX9_on_11 : decode cX9_on 11 = .ok (.ifCond .eq 6, 3) := by decide +kernel
theorem dX9_on_14 : decode cX9_on 14 = .ok (.iload_n 2, 1) := by decide +kernel
theorem dX9_on_15 : decode cX9_on 15 = .ok (.i2l, 1) := by decide +kernel
theorem dX9_on_16 : decode cX9_on 16 = .ok (.lreturn, 1) := by decide +kernel
theorem dX9_on_17 : decode cX9_on 17 = .ok (.aload_n 0, 1) := by decide +kernel
theorem dX9_on_18 : decode cX9_on 18 = .ok (.invokevirtual 190, 3) := by decide +kernel
theorem dX9_on_21 : decode cX9_on 21 = .ok (.aload_n 0, 1) := by decide +kernel
theorem dX9_on_22 : decode cX9_on 22 = .ok (.getfield 36, 3) := by decide +kernel
theorem dX9_on_25 : decode cX9_on 25 = .ok (.iload_n 1, 1) := by decide +kernel
theorem dX9_on_26 : decode cX9_on 26 = .ok (.invokevirtual 175, 3) := by decide +kernel
theorem dX9_on_29 : decode cX9_on 29 = .ok (.aload_n 0, 1) := by decide +kernel
theorem dX9_on_30 : decode cX9_on 30 = .ok (.getfield 36, 3) := by decide +kernel
theorem dX9_on_33 : decode cX9_on 33 = .ok (.getfield 148, 3) := by decide +kernel
theorem dX9_on_36 : decode cX9_on 36 = .ok (.lreturn, 1) := by decide +kernel
theorem dX9_reachOn_0 : decode cX9_reachOn 0 = .ok (.aload_n 0, 1) := by decide +kernel
theorem dX9_reachOn_1 : decode cX9_reachOn 1 = .ok (.iload_n 1, 1) := by decide +kernel
theorem dX9_reachOn_2 : decode cX9_reachOn 2 = .ok (.iconst 0, 1) := by decide +kernel
theorem dX9_reachOn_3 : decode cX9_reachOn 3 = .ok (.sipush 200, 3) := by decide +kernel
theorem dX9_reachOn_6 : decode cX9_reachOn 6 = .ok (.invokevirtual 171, 3) := by decide +kernel
theorem dX9_reachOn_9 : decode cX9_reachOn 9 = .ok (.istore_n 2, 1) := by decide +kernel
theorem dX9_reachOn_10 : decode cX9_reachOn 10 = .ok (.iload_n 2, 1) := by decide +kernel
theorem dX9_reachOn_11 : decode cX9_reachOn 11 = .ok (.ifCond .eq 5, 3) := by decide +kernel
theorem dX9_reachOn_14 : decode cX9_reachOn 14 = .ok (.iload_n 2, 1) := by decide +kernel
theorem dX9_reachOn_15 : decode cX9_reachOn 15 = .ok (.ireturn, 1) := by decide +kernel
theorem dX9_reachOn_16 : decode cX9_reachOn 16 = .ok (.aload_n 0, 1) := by decide +kernel
theorem dX9_reachOn_17 : decode cX9_reachOn 17 = .ok (.invokevirtual 190, 3) := by decide +kernel
theorem dX9_reachOn_20 : decode cX9_reachOn 20 = .ok (.aload_n 0, 1) := by decide +kernel
theorem dX9_reachOn_21 : decode cX9_reachOn 21 = .ok (.getfield 36, 3) := by decide +kernel
theorem dX9_reachOn_24 : decode cX9_reachOn 24 = .ok (.iload_n 1, 1) := by decide +kernel
theorem dX9_reachOn_25 : decode cX9_reachOn 25 = .ok (.invokevirtual 175, 3) := by decide +kernel
theorem dX9_reachOn_28 : decode cX9_reachOn 28 = .ok (.aload_n 0, 1) := by decide +kernel
theorem dX9_reachOn_29 : decode cX9_reachOn 29 = .ok (.getfield 36, 3) := by decide +kernel
theorem dX9_reachOn_32 : decode cX9_reachOn 32 = .ok (.invokevirtual 160, 3) := by decide +kernel
theorem dX9_reachOn_35 : decode cX9_reachOn 35 = .ok (.ireturn, 1) := by decide +kernel
theorem dX9_pass_0 : decode cX9_pass 0 = .ok (.aload_n 0, 1) := by decide +kernel
theorem dX9_pass_1 : decode cX9_pass 1 = .ok (.sipush 200, 3) := by decide +kernel
theorem dX9_pass_4 : decode cX9_pass 4 = .ok (.invokevirtual 193, 3) := by decide +kernel
theorem dX9_pass_7 : decode cX9_pass 7 = .ok (.ifCond .eq 9, 3) := by decide +kernel
theorem dX9_pass_10 : decode cX9_pass 10 = .ok (.aload_n 0, 1) := by decide +kernel
theorem dX9_pass_11 : decode cX9_pass 11 = .ok (.iconst 4, 1) := by decide +kernel
theorem dX9_pass_12 : decode cX9_pass 12 = .ok (.invokevirtual 68, 3) := by decide +kernel
theorem dX9_pass_15 : decode cX9_pass 15 = .ok (.ireturn, 1) := by decide +kernel
theorem dX9_pass_16 : decode cX9_pass 16 = .ok (.aload_n 0, 1) := by decide +kernel
theorem dX9_pass_17 : decode cX9_pass 17 = .ok (.invokevirtual 190, 3) := by decide +kernel
theorem dX9_pass_20 : decode cX9_pass 20 = .ok (.iconst 0, 1) := by decide +kernel
theorem dX9_pass_21 : decode cX9_pass 21 = .ok (.istore_n 1, 1) := by decide +kernel
theorem dX9_pass_22 : decode cX9_pass 22 = .ok (.iload_n 1, 1) := by decide +kernel
theorem dX9_pass_23 : decode cX9_pass 23 = .ok (.sipush 200, 3) := by decide +kernel
theorem dX9_pass_26 : decode cX9_pass 26 = .ok (.if_icmp .gt 31, 3) := by decide +kernel
theorem dX9_pass_29 : decode cX9_pass 29 = .ok (.aload_n 0, 1) := by decide +kernel
theorem dX9_pass_30 : decode cX9_pass 30 = .ok (.getfield 36, 3) := by decide +kernel
theorem dX9_pass_33 : decode cX9_pass 33 = .ok (.invokevirtual 160, 3) := by decide +kernel
theorem dX9_pass_36 : decode cX9_pass 36 = .ok (.bipush 40, 2) := by decide +kernel
theorem dX9_pass_38 : decode cX9_pass 38 = .ok (.if_icmp .ne 5, 3) := by decide +kernel
theorem dX9_pass_41 : decode cX9_pass 41 = .ok (.iload_n 1, 1) := by decide +kernel
theorem dX9_pass_42 : decode cX9_pass 42 = .ok (.ireturn, 1) := by decide +kernel
theorem dX9_pass_43 : decode cX9_pass 43 = .ok (.aload_n 0, 1) := by decide +kernel
theorem dX9_pass_44 : decode cX9_pass 44 = .ok (.getfield 36, 3) := by decide +kernel
theorem dX9_pass_47 : decode cX9_pass 47 = .ok (.iconst 1, 1) := by decide +kernel
theorem dX9_pass_48 : decode cX9_pass 48 = .ok (.invokevirtual 175, 3) := by decide +kernel
theorem dX9_pass_51 : decode cX9_pass 51 = .ok (.iinc 1 1, 3) := by decide +kernel
theorem dX9_pass_54 : decode cX9_pass 54 = .ok (.goto (-32), 3) := by decide +kernel
theorem dX9_pass_57 : decode cX9_pass 57 = .ok (.aload_n 0, 1) := by decide +kernel
theorem dX9_pass_58 : decode cX9_pass 58 = .ok (.iconst 3, 1) := by decide +kernel
theorem dX9_pass_59 : decode cX9_pass 59 = .ok (.invokevirtual 68, 3) := by decide +kernel
theorem dX9_pass_62 : decode cX9_pass 62 = .ok (.ireturn, 1) := by decide +kernel
theorem dX9_paid_0 : decode cX9_paid 0 = .ok (.aload_n 0, 1) := by decide +kernel
theorem dX9_paid_1 : decode cX9_paid 1 = .ok (.getfield 32, 3) := by decide +kernel
theorem dX9_paid_4 : decode cX9_paid 4 = .ok (.iload_n 1, 1) := by decide +kernel
theorem dX9_paid_5 : decode cX9_paid 5 = .ok (.invokevirtual 96, 3) := by decide +kernel
theorem dX9_paid_8 : decode cX9_paid 8 = .ok (.ifCond .ne 9, 3) := by decide +kernel
theorem dX9_paid_11 : decode cX9_paid 11 = .ok (.aload_n 0, 1) := by decide +kernel
theorem dX9_paid_12 : decode cX9_paid 12 = .ok (.iconst 0, 1) := by decide +kernel
theorem dX9_paid_13 : decode cX9_paid 13 = .ok (.invokevirtual 68, 3) := by decide +kernel
theorem dX9_paid_16 : decode cX9_paid 16 = .ok (.ireturn, 1) := by decide +kernel
theorem dX9_paid_17 : decode cX9_paid 17 = .ok (.aload_n 0, 1) := by decide +kernel
theorem dX9_paid_18 : decode cX9_paid 18 = .ok (.sipush 200, 3) := by decide +kernel
theorem dX9_paid_21 : decode cX9_paid 21 = .ok (.invokevirtual 193, 3) := by decide +kernel
theorem dX9_paid_24 : decode cX9_paid 24 = .ok (.ifCond .eq 9, 3) := by decide +kernel
theorem dX9_paid_27 : decode cX9_paid 27 = .ok (.aload_n 0, 1) := by decide +kernel
theorem dX9_paid_28 : decode cX9_paid 28 = .ok (.iconst 4, 1) := by decide +kernel
theorem dX9_paid_29 : decode cX9_paid 29 = .ok (.invokevirtual 68, 3) := by decide +kernel
theorem dX9_paid_32 : decode cX9_paid 32 = .ok (.ireturn, 1) := by decide +kernel
theorem dX9_paid_33 : decode cX9_paid 33 = .ok (.aload_n 0, 1) := by decide +kernel
theorem dX9_paid_34 : decode cX9_paid 34 = .ok (.invokevirtual 190, 3) := by decide +kernel
theorem dX9_paid_37 : decode cX9_paid 37 = .ok (.iconst 0, 1) := by decide +kernel
theorem dX9_paid_38 : decode cX9_paid 38 = .ok (.istore_n 2, 1) := by decide +kernel
theorem dX9_paid_39 : decode cX9_paid 39 = .ok (.iload_n 2, 1) := by decide +kernel
theorem dX9_paid_40 : decode cX9_paid 40 = .ok (.sipush 200, 3) := by decide +kernel
theorem dX9_paid_43 : decode cX9_paid 43 = .ok (.if_icmp .gt 31, 3) := by decide +kernel
theorem dX9_paid_46 : decode cX9_paid 46 = .ok (.aload_n 0, 1) := by decide +kernel
theorem dX9_paid_47 : decode cX9_paid 47 = .ok (.getfield 36, 3) := by decide +kernel
theorem dX9_paid_50 : decode cX9_paid 50 = .ok (.getfield 102, 3) := by decide +kernel
theorem dX9_paid_53 : decode cX9_paid 53 = .ok (.iload_n 1, 1) := by decide +kernel
theorem dX9_paid_54 : decode cX9_paid 54 = .ok (.iaload, 1) := by decide +kernel
theorem dX9_paid_55 : decode cX9_paid 55 = .ok (.ifCond .ne 5, 3) := by decide +kernel
theorem dX9_paid_58 : decode cX9_paid 58 = .ok (.iload_n 2, 1) := by decide +kernel
theorem dX9_paid_59 : decode cX9_paid 59 = .ok (.ireturn, 1) := by decide +kernel
theorem dX9_paid_60 : decode cX9_paid 60 = .ok (.aload_n 0, 1) := by decide +kernel
theorem dX9_paid_61 : decode cX9_paid 61 = .ok (.getfield 36, 3) := by decide +kernel
theorem dX9_paid_64 : decode cX9_paid 64 = .ok (.iconst 1, 1) := by decide +kernel
theorem dX9_paid_65 : decode cX9_paid 65 = .ok (.invokevirtual 175, 3) := by decide +kernel
theorem dX9_paid_68 : decode cX9_paid 68 = .ok (.iinc 2 1, 3) := by decide +kernel
theorem dX9_paid_71 : decode cX9_paid 71 = .ok (.goto (-32), 3) := by decide +kernel
theorem dX9_paid_74 : decode cX9_paid 74 = .ok (.aload_n 0, 1) := by decide +kernel
theorem dX9_paid_75 : decode cX9_paid 75 = .ok (.iconst 3, 1) := by decide +kernel
theorem dX9_paid_76 : decode cX9_paid 76 = .ok (.invokevirtual 68, 3) := by decide +kernel
theorem dX9_paid_79 : decode cX9_paid 79 = .ok (.ireturn, 1) := by decide +kernel
theorem dX9_farthest_0 : decode cX9_farthest 0 = .ok (.aload_n 0, 1) := by decide +kernel
theorem dX9_farthest_1 : decode cX9_farthest 1 = .ok (.iload_n 1, 1) := by decide +kernel
theorem dX9_farthest_2 : decode cX9_farthest 2 = .ok (.iconst 0, 1) := by decide +kernel
theorem dX9_farthest_3 : decode cX9_farthest 3 = .ok (.sipush 200, 3) := by decide +kernel
theorem dX9_farthest_6 : decode cX9_farthest 6 = .ok (.invokevirtual 171, 3) := by decide +kernel
theorem dX9_farthest_9 : decode cX9_farthest 9 = .ok (.istore_n 2, 1) := by decide +kernel
theorem dX9_farthest_10 : decode cX9_farthest 10 = .ok (.iload_n 2, 1) := by decide +kernel
theorem dX9_farthest_11 : decode cX9_farthest 11 = .ok (.ifCond .eq 5, 3) := by decide +kernel
theorem dX9_farthest_14 : decode cX9_farthest 14 = .ok (.iload_n 2, 1) := by decide +kernel
theorem dX9_farthest_15 : decode cX9_farthest 15 = .ok (.ireturn, 1) := by decide +kernel
theorem dX9_farthest_16 : decode cX9_farthest 16 = .ok (.aload_n 0, 1) := by decide +kernel
theorem dX9_farthest_17 : decode cX9_farthest 17 = .ok (.invokevirtual 190, 3) := by decide +kernel
theorem dX9_farthest_20 : decode cX9_farthest 20 = .ok (.aload_n 0, 1) := by decide +kernel
theorem dX9_farthest_21 : decode cX9_farthest 21 = .ok (.getfield 36, 3) := by decide +kernel
theorem dX9_farthest_24 : decode cX9_farthest 24 = .ok (.invokevirtual 160, 3) := by decide +kernel
theorem dX9_farthest_27 : decode cX9_farthest 27 = .ok (.istore_n 3, 1) := by decide +kernel
theorem dX9_farthest_28 : decode cX9_farthest 28 = .ok (.iconst 1, 1) := by decide +kernel
theorem dX9_farthest_29 : decode cX9_farthest 29 = .ok (.istore 4, 2) := by decide +kernel
theorem dX9_farthest_31 : decode cX9_farthest 31 = .ok (.iload 4, 2) := by decide +kernel
theorem dX9_farthest_33 : decode cX9_farthest 33 = .ok (.iload_n 1, 1) := by decide +kernel
theorem dX9_farthest_34 : decode cX9_farthest 34 = .ok (.if_icmp .gt 29, 3) := by decide +kernel
theorem dX9_farthest_37 : decode cX9_farthest 37 = .ok (.aload_n 0, 1) := by decide +kernel
theorem dX9_farthest_38 : decode cX9_farthest 38 = .ok (.getfield 36, 3) := by decide +kernel
theorem dX9_farthest_41 : decode cX9_farthest 41 = .ok (.iconst 1, 1) := by decide +kernel
theorem dX9_farthest_42 : decode cX9_farthest 42 = .ok (.invokevirtual 175, 3) := by decide +kernel
theorem dX9_farthest_45 : decode cX9_farthest 45 = .ok (.iload_n 3, 1) := by decide +kernel
theorem dX9_farthest_46 : decode cX9_farthest 46 = .ok (.aload_n 0, 1) := by decide +kernel
theorem dX9_farthest_47 : decode cX9_farthest 47 = .ok (.getfield 36, 3) := by decide +kernel
theorem dX9_farthest_50 : decode cX9_farthest 50 = .ok (.invokevirtual 160, 3) := by decide +kernel
theorem dX9_farthest_53 : decode cX9_farthest 53 = .ok (.invokestatic 196, 3) := by decide +kernel
theorem dX9_farthest_56 : decode cX9_farthest 56 = .ok (.istore_n 3, 1) := by decide +kernel
theorem dX9_farthest_57 : decode cX9_farthest 57 = .ok (.iinc 4 1, 3) := by decide +kernel
theorem dX9_farthest_60 : decode cX9_farthest 60 = .ok (.goto (-29), 3) := by decide +kernel
theorem dX9_farthest_63 : decode cX9_farthest 63 = .ok (.iload_n 3, 1) := by decide +kernel
theorem dX9_farthest_64 : decode cX9_farthest 64 = .ok (.ireturn, 1) := by decide +kernel
theorem dX9_best_0 : decode cX9_best 0 = .ok (.aload_n 0, 1) := by decide +kernel
theorem dX9_best_1 : decode cX9_best 1 = .ok (.getfield 32, 3) := by decide +kernel
theorem dX9_best_4 : decode cX9_best 4 = .ok (.iload_n 1, 1) := by decide +kernel
theorem dX9_best_5 : decode cX9_best 5 = .ok (.invokevirtual 96, 3) := by decide +kernel
theorem dX9_best_8 : decode cX9_best 8 = .ok (.ifCond .ne 9, 3) := by decide +kernel
theorem dX9_best_11 : decode cX9_best 11 = .ok (.aload_n 0, 1) := by decide +kernel
theorem dX9_best_12 : decode cX9_best 12 = .ok (.iconst 0, 1) := by decide +kernel
theorem dX9_best_13 : decode cX9_best 13 = .ok (.invokevirtual 68, 3) := by decide +kernel
theorem dX9_best_16 : decode cX9_best 16 = .ok (.ireturn, 1) := by decide +kernel
theorem dX9_best_17 : decode cX9_best 17 = .ok (.aload_n 0, 1) := by decide +kernel
theorem dX9_best_18 : decode cX9_best 18 = .ok (.iload_n 2, 1) := by decide +kernel
theorem dX9_best_19 : decode cX9_best 19 = .ok (.iconst 1, 1) := by decide +kernel
theorem dX9_best_20 : decode cX9_best 20 = .ok (.bipush 100, 2) := by decide +kernel
theorem dX9_best_22 : decode cX9_best 22 = .ok (.invokevirtual 171, 3) := by decide +kernel
theorem dX9_best_25 : decode cX9_best 25 = .ok (.istore_n 3, 1) := by decide +kernel
theorem dX9_best_26 : decode cX9_best 26 = .ok (.iload_n 3, 1) := by decide +kernel
theorem dX9_best_27 : decode cX9_best 27 = .ok (.ifCond .eq 5, 3) := by decide +kernel
theorem dX9_best_30 : decode cX9_best 30 = .ok (.iload_n 3, 1) := by decide +kernel
theorem dX9_best_31 : decode cX9_best 31 = .ok (.ireturn, 1) := by decide +kernel
theorem dX9_best_32 : decode cX9_best 32 = .ok (.aload_n 0, 1) := by decide +kernel
theorem dX9_best_33 : decode cX9_best 33 = .ok (.getfield 32, 3) := by decide +kernel
theorem dX9_best_36 : decode cX9_best 36 = .ok (.getfield 105, 3) := by decide +kernel
theorem dX9_best_39 : decode cX9_best 39 = .ok (.iload_n 1, 1) := by decide +kernel
theorem dX9_best_40 : decode cX9_best 40 = .ok (.iaload, 1) := by decide +kernel
theorem dX9_best_41 : decode cX9_best 41 = .ok (.istore 4, 2) := by decide +kernel
theorem dX9_best_43 : decode cX9_best 43 = .ok (.iload 4, 2) := by decide +kernel
theorem dX9_best_45 : decode cX9_best 45 = .ok (.istore 5, 2) := by decide +kernel
theorem dX9_best_47 : decode cX9_best 47 = .ok (.aload_n 0, 1) := by decide +kernel
theorem dX9_best_48 : decode cX9_best 48 = .ok (.invokevirtual 190, 3) := by decide +kernel
theorem dX9_best_51 : decode cX9_best 51 = .ok (.aload_n 0, 1) := by decide +kernel
theorem dX9_best_52 : decode cX9_best 52 = .ok (.getfield 36, 3) := by decide +kernel
theorem dX9_best_55 : decode cX9_best 55 = .ok (.iload_n 2, 1) := by decide +kernel
theorem dX9_best_56 : decode cX9_best 56 = .ok (.invokevirtual 175, 3) := by decide +kernel
theorem dX9_best_59 : decode cX9_best 59 = .ok (.aload_n 0, 1) := by decide +kernel
theorem dX9_best_60 : decode cX9_best 60 = .ok (.getfield 36, 3) := by decide +kernel
theorem dX9_best_63 : decode cX9_best 63 = .ok (.invokevirtual 160, 3) := by decide +kernel
theorem dX9_best_66 : decode cX9_best 66 = .ok (.istore 6, 2) := by decide +kernel
theorem dX9_best_68 : decode cX9_best 68 = .ok (.iconst 0, 1) := by decide +kernel
theorem dX9_best_69 : decode cX9_best 69 = .ok (.istore 7, 2) := by decide +kernel
theorem dX9_best_71 : decode cX9_best 71 = .ok (.iload 7, 2) := by decide +kernel
theorem dX9_best_73 : decode cX9_best 73 = .ok (.bipush 40, 2) := by decide +kernel
theorem dX9_best_75 : decode cX9_best 75 = .ok (.if_icmp .ge 65, 3) := by decide +kernel
theorem dX9_best_78 : decode cX9_best 78 = .ok (.iload 7, 2) := by decide +kernel
theorem dX9_best_80 : decode cX9_best 80 = .ok (.iload 4, 2) := by decide +kernel
theorem dX9_best_82 : decode cX9_best 82 = .ok (.if_icmp .ne 6, 3) := by decide +kernel
theorem dX9_best_85 : decode cX9_best 85 = .ok (.goto 49, 3) := by decide +kernel
theorem dX9_best_88 : decode cX9_best 88 = .ok (.aload_n 0, 1) := by decide +kernel
theorem dX9_best_89 : decode cX9_best 89 = .ok (.invokevirtual 190, 3) := by decide +kernel
theorem dX9_best_92 : decode cX9_best 92 = .ok (.aload_n 0, 1) := by decide +kernel
theorem dX9_best_93 : decode cX9_best 93 = .ok (.getfield 36, 3) := by decide +kernel
theorem dX9_best_96 : decode cX9_best 96 = .ok (.iload_n 1, 1) := by decide +kernel
theorem dX9_best_97 : decode cX9_best 97 = .ok (.iload 7, 2) := by decide +kernel
theorem dX9_best_99 : decode cX9_best 99 = .ok (.invokevirtual 124, 3) := by decide +kernel
theorem dX9_best_102 : decode cX9_best 102 = .ok (.aload_n 0, 1) := by decide +kernel
theorem dX9_best_103 : decode cX9_best 103 = .ok (.getfield 36, 3) := by decide +kernel
theorem dX9_best_106 : decode cX9_best 106 = .ok (.iload_n 2, 1) := by decide +kernel
theorem dX9_best_107 : decode cX9_best 107 = .ok (.invokevirtual 175, 3) := by decide +kernel
theorem dX9_best_110 : decode cX9_best 110 = .ok (.aload_n 0, 1) := by decide +kernel
theorem dX9_best_111 : decode cX9_best 111 = .ok (.getfield 36, 3) := by decide +kernel
theorem dX9_best_114 : decode cX9_best 114 = .ok (.invokevirtual 160, 3) := by decide +kernel
theorem dX9_best_117 : decode cX9_best 117 = .ok (.istore 8, 2) := by decide +kernel
theorem dX9_best_119 : decode cX9_best 119 = .ok (.iload 8, 2) := by decide +kernel
theorem dX9_best_121 : decode cX9_best 121 = .ok (.iload 6, 2) := by decide +kernel
theorem dX9_best_123 : decode cX9_best 123 = .ok (.if_icmp .le 11, 3) := by decide +kernel
theorem dX9_best_126 : decode cX9_best 126 = .ok (.iload 8, 2) := by decide +kernel
theorem dX9_best_128 : decode cX9_best 128 = .ok (.istore 6, 2) := by decide +kernel
theorem dX9_best_130 : decode cX9_best 130 = .ok (.iload 7, 2) := by decide +kernel
theorem dX9_best_132 : decode cX9_best 132 = .ok (.istore 5, 2) := by decide +kernel
theorem dX9_best_134 : decode cX9_best 134 = .ok (.iinc 7 1, 3) := by decide +kernel
theorem dX9_best_137 : decode cX9_best 137 = .ok (.goto (-66), 3) := by decide +kernel
theorem dX9_best_140 : decode cX9_best 140 = .ok (.iload 5, 2) := by decide +kernel
theorem dX9_best_142 : decode cX9_best 142 = .ok (.ireturn, 1) := by decide +kernel
theorem dX9_kind_0 : decode cX9_kind 0 = .ok (.aload_n 0, 1) := by decide +kernel
theorem dX9_kind_1 : decode cX9_kind 1 = .ok (.getfield 32, 3) := by decide +kernel
theorem dX9_kind_4 : decode cX9_kind 4 = .ok (.iload_n 1, 1) := by decide +kernel
theorem dX9_kind_5 : decode cX9_kind 5 = .ok (.invokevirtual 96, 3) := by decide +kernel
theorem dX9_kind_8 : decode cX9_kind 8 = .ok (.ifCond .ne 9, 3) := by decide +kernel
theorem dX9_kind_11 : decode cX9_kind 11 = .ok (.aload_n 0, 1) := by decide +kernel
theorem dX9_kind_12 : decode cX9_kind 12 = .ok (.iconst 0, 1) := by decide +kernel
theorem dX9_kind_13 : decode cX9_kind 13 = .ok (.invokevirtual 68, 3) := by decide +kernel
theorem dX9_kind_16 : decode cX9_kind 16 = .ok (.ireturn, 1) := by decide +kernel
theorem dX9_kind_17 : decode cX9_kind 17 = .ok (.aload_n 0, 1) := by decide +kernel
theorem dX9_kind_18 : decode cX9_kind 18 = .ok (.iload_n 2, 1) := by decide +kernel
theorem dX9_kind_19 : decode cX9_kind 19 = .ok (.iconst 1, 1) := by decide +kernel
theorem dX9_kind_20 : decode cX9_kind 20 = .ok (.bipush 100, 2) := by decide +kernel
theorem dX9_kind_22 : decode cX9_kind 22 = .ok (.invokevirtual 171, 3) := by decide +kernel
theorem dX9_kind_25 : decode cX9_kind 25 = .ok (.istore_n 3, 1) := by decide +kernel
theorem dX9_kind_26 : decode cX9_kind 26 = .ok (.iload_n 3, 1) := by decide +kernel
theorem dX9_kind_27 : decode cX9_kind 27 = .ok (.ifCond .eq 5, 3) := by decide +kernel
theorem dX9_kind_30 : decode cX9_kind 30 = .ok (.iload_n 3, 1) := by decide +kernel
theorem dX9_kind_31 : decode cX9_kind 31 = .ok (.ireturn, 1) := by decide +kernel
theorem dX9_kind_32 : decode cX9_kind 32 = .ok (.iconst 0, 1) := by decide +kernel
theorem dX9_kind_33 : decode cX9_kind 33 = .ok (.istore 4, 2) := by decide +kernel
theorem dX9_kind_35 : decode cX9_kind 35 = .ok (.iconst (-1), 1) := by decide +kernel
theorem dX9_kind_36 : decode cX9_kind 36 = .ok (.istore 5, 2) := by decide +kernel
theorem dX9_kind_38 : decode cX9_kind 38 = .ok (.iconst 0, 1) := by decide +kernel
theorem dX9_kind_39 : decode cX9_kind 39 = .ok (.istore 6, 2) := by decide +kernel
theorem dX9_kind_41 : decode cX9_kind 41 = .ok (.iload 6, 2) := by decide +kernel
theorem dX9_kind_43 : decode cX9_kind 43 = .ok (.bipush 6, 2) := by decide +kernel
theorem dX9_kind_45 : decode cX9_kind 45 = .ok (.if_icmp .ge 56, 3) := by decide +kernel
theorem dX9_kind_48 : decode cX9_kind 48 = .ok (.aload_n 0, 1) := by decide +kernel
theorem dX9_kind_49 : decode cX9_kind 49 = .ok (.invokevirtual 190, 3) := by decide +kernel
theorem dX9_kind_52 : decode cX9_kind 52 = .ok (.aload_n 0, 1) := by decide +kernel
theorem dX9_kind_53 : decode cX9_kind 53 = .ok (.getfield 36, 3) := by decide +kernel
theorem dX9_kind_56 : decode cX9_kind 56 = .ok (.getfield 99, 3) := by decide +kernel
theorem dX9_kind_59 : decode cX9_kind 59 = .ok (.iload_n 1, 1) := by decide +kernel
theorem dX9_kind_60 : decode cX9_kind 60 = .ok (.iload 6, 2) := by decide +kernel
theorem dX9_kind_62 : decode cX9_kind 62 = .ok (.iastore, 1) := by decide +kernel
theorem dX9_kind_63 : decode cX9_kind 63 = .ok (.aload_n 0, 1) := by decide +kernel
theorem dX9_kind_64 : decode cX9_kind 64 = .ok (.getfield 36, 3) := by decide +kernel
theorem dX9_kind_67 : decode cX9_kind 67 = .ok (.iload_n 2, 1) := by decide +kernel
theorem dX9_kind_68 : decode cX9_kind 68 = .ok (.invokevirtual 175, 3) := by decide +kernel
theorem dX9_kind_71 : decode cX9_kind 71 = .ok (.aload_n 0, 1) := by decide +kernel
theorem dX9_kind_72 : decode cX9_kind 72 = .ok (.getfield 36, 3) := by decide +kernel
theorem dX9_kind_75 : decode cX9_kind 75 = .ok (.invokevirtual 160, 3) := by decide +kernel
theorem dX9_kind_78 : decode cX9_kind 78 = .ok (.istore 7, 2) := by decide +kernel
theorem dX9_kind_80 : decode cX9_kind 80 = .ok (.iload 7, 2) := by decide +kernel
theorem dX9_kind_82 : decode cX9_kind 82 = .ok (.iload 5, 2) := by decide +kernel
theorem dX9_kind_84 : decode cX9_kind 84 = .ok (.if_icmp .le 11, 3) := by decide +kernel
theorem dX9_kind_87 : decode cX9_kind 87 = .ok (.iload 7, 2) := by decide +kernel
theorem dX9_kind_89 : decode cX9_kind 89 = .ok (.istore 5, 2) := by decide +kernel
theorem dX9_kind_91 : decode cX9_kind 91 = .ok (.iload 6, 2) := by decide +kernel
theorem dX9_kind_93 : decode cX9_kind 93 = .ok (.istore 4, 2) := by decide +kernel
theorem dX9_kind_95 : decode cX9_kind 95 = .ok (.iinc 6 1, 3) := by decide +kernel
theorem dX9_kind_98 : decode cX9_kind 98 = .ok (.goto (-57), 3) := by decide +kernel
theorem dX9_kind_101 : decode cX9_kind 101 = .ok (.iload 4, 2) := by decide +kernel
theorem dX9_kind_103 : decode cX9_kind 103 = .ok (.ireturn, 1) := by decide +kernel
theorem dX9_mend_0 : decode cX9_mend 0 = .ok (.aload_n 0, 1) := by decide +kernel
theorem dX9_mend_1 : decode cX9_mend 1 = .ok (.getfield 32, 3) := by decide +kernel
theorem dX9_mend_4 : decode cX9_mend 4 = .ok (.invokevirtual 160, 3) := by decide +kernel
theorem dX9_mend_7 : decode cX9_mend 7 = .ok (.istore_n 1, 1) := by decide +kernel
theorem dX9_mend_8 : decode cX9_mend 8 = .ok (.aload_n 0, 1) := by decide +kernel
theorem dX9_mend_9 : decode cX9_mend 9 = .ok (.getfield 32, 3) := by decide +kernel
theorem dX9_mend_12 : decode cX9_mend 12 = .ok (.getfield 93, 3) := by decide +kernel
theorem dX9_mend_15 : decode cX9_mend 15 = .ok (.ifCond .eq 21, 3) := by decide +kernel
theorem dX9_mend_18 : decode cX9_mend 18 = .ok (.iload_n 1, 1) := by decide +kernel
theorem dX9_mend_19 : decode cX9_mend 19 = .ok (.invokestatic 60, 3) := by decide +kernel
theorem dX9_mend_22 : decode cX9_mend 22 = .ok (.ifCond .eq 14, 3) := by decide +kernel
theorem dX9_mend_25 : decode cX9_mend 25 = .ok (.aload_n 0, 1) := by decide +kernel
theorem dX9_mend_26 : decode cX9_mend 26 = .ok (.getfield 32, 3) := by decide +kernel
theorem dX9_mend_29 : decode cX9_mend 29 = .ok (.iload_n 1, 1) := by decide +kernel
theorem dX9_mend_30 : decode cX9_mend 30 = .ok (.invokevirtual 136, 3) := by decide +kernel
theorem dX9_mend_33 : decode cX9_mend 33 = .ok (.ifCond .eq 9, 3) := by decide +kernel
theorem dX9_mend_36 : decode cX9_mend 36 = .ok (.aload_n 0, 1) := by decide +kernel
theorem dX9_mend_37 : decode cX9_mend 37 = .ok (.iconst 3, 1) := by decide +kernel
theorem dX9_mend_38 : decode cX9_mend 38 = .ok (.invokevirtual 68, 3) := by decide +kernel
theorem dX9_mend_41 : decode cX9_mend 41 = .ok (.ireturn, 1) := by decide +kernel
theorem dX9_mend_42 : decode cX9_mend 42 = .ok (.aload_n 0, 1) := by decide +kernel
theorem dX9_mend_43 : decode cX9_mend 43 = .ok (.invokevirtual 190, 3) := by decide +kernel
theorem dX9_mend_46 : decode cX9_mend 46 = .ok (.aload_n 0, 1) := by decide +kernel
theorem dX9_mend_47 : decode cX9_mend 47 = .ok (.getfield 36, 3) := by decide +kernel
theorem dX9_mend_50 : decode cX9_mend 50 = .ok (.iload_n 1, 1) := by decide +kernel
theorem dX9_mend_51 : decode cX9_mend 51 = .ok (.bipush 10, 2) := by decide +kernel
theorem dX9_mend_53 : decode cX9_mend 53 = .ok (.iconst 0, 1) := by decide +kernel
theorem dX9_mend_54 : decode cX9_mend 54 = .ok (.invokevirtual 152, 3) := by decide +kernel
theorem dX9_mend_57 : decode cX9_mend 57 = .ok (.aload_n 0, 1) := by decide +kernel
theorem dX9_mend_58 : decode cX9_mend 58 = .ok (.getfield 36, 3) := by decide +kernel
theorem dX9_mend_61 : decode cX9_mend 61 = .ok (.invokevirtual 160, 3) := by decide +kernel
theorem dX9_mend_64 : decode cX9_mend 64 = .ok (.iload_n 1, 1) := by decide +kernel
theorem dX9_mend_65 : decode cX9_mend 65 = .ok (.if_icmp .le 7, 3) := by decide +kernel
theorem dX9_mend_68 : decode cX9_mend 68 = .ok (.iload_n 1, 1) := by decide +kernel
theorem dX9_mend_69 : decode cX9_mend 69 = .ok (.goto 8, 3) := by decide +kernel
theorem dX9_mend_72 : decode cX9_mend 72 = .ok (.aload_n 0, 1) := by decide +kernel
theorem dX9_mend_73 : decode cX9_mend 73 = .ok (.iconst 3, 1) := by decide +kernel
theorem dX9_mend_74 : decode cX9_mend 74 = .ok (.invokevirtual 68, 3) := by decide +kernel
theorem dX9_mend_77 : decode cX9_mend 77 = .ok (.ireturn, 1) := by decide +kernel
theorem dX9_needed_0 : decode cX9_needed 0 = .ok (.aload_n 0, 1) := by decide +kernel
theorem dX9_needed_1 : decode cX9_needed 1 = .ok (.iload_n 1, 1) := by decide +kernel
theorem dX9_needed_2 : decode cX9_needed 2 = .ok (.iconst 1, 1) := by decide +kernel
theorem dX9_needed_3 : decode cX9_needed 3 = .ok (.bipush 100, 2) := by decide +kernel
theorem dX9_needed_5 : decode cX9_needed 5 = .ok (.invokevirtual 171, 3) := by decide +kernel
theorem dX9_needed_8 : decode cX9_needed 8 = .ok (.istore_n 2, 1) := by decide +kernel
theorem dX9_needed_9 : decode cX9_needed 9 = .ok (.iload_n 2, 1) := by decide +kernel
theorem dX9_needed_10 : decode cX9_needed 10 = .ok (.ifCond .eq 5, 3) := by decide +kernel
theorem dX9_needed_13 : decode cX9_needed 13 = .ok (.iload_n 2, 1) := by decide +kernel
theorem dX9_needed_14 : decode cX9_needed 14 = .ok (.ireturn, 1) := by decide +kernel
theorem dX9_needed_15 : decode cX9_needed 15 = .ok (.aload_n 0, 1) := by decide +kernel
theorem dX9_needed_16 : decode cX9_needed 16 = .ok (.invokevirtual 190, 3) := by decide +kernel
theorem dX9_needed_19 : decode cX9_needed 19 = .ok (.aload_n 0, 1) := by decide +kernel
theorem dX9_needed_20 : decode cX9_needed 20 = .ok (.getfield 36, 3) := by decide +kernel
theorem dX9_needed_23 : decode cX9_needed 23 = .ok (.iload_n 1, 1) := by decide +kernel
theorem dX9_needed_24 : decode cX9_needed 24 = .ok (.invokevirtual 175, 3) := by decide +kernel
theorem dX9_needed_27 : decode cX9_needed 27 = .ok (.aload_n 0, 1) := by decide +kernel
theorem dX9_needed_28 : decode cX9_needed 28 = .ok (.getfield 36, 3) := by decide +kernel
theorem dX9_needed_31 : decode cX9_needed 31 = .ok (.invokevirtual 160, 3) := by decide +kernel
theorem dX9_needed_34 : decode cX9_needed 34 = .ok (.istore_n 3, 1) := by decide +kernel
theorem dX9_needed_35 : decode cX9_needed 35 = .ok (.iconst (-1), 1) := by decide +kernel
theorem dX9_needed_36 : decode cX9_needed 36 = .ok (.istore 4, 2) := by decide +kernel
theorem dX9_needed_38 : decode cX9_needed 38 = .ok (.iconst 0, 1) := by decide +kernel
theorem dX9_needed_39 : decode cX9_needed 39 = .ok (.istore 5, 2) := by decide +kernel
theorem dX9_needed_41 : decode cX9_needed 41 = .ok (.iload 5, 2) := by decide +kernel
theorem dX9_needed_43 : decode cX9_needed 43 = .ok (.aload_n 0, 1) := by decide +kernel
theorem dX9_needed_44 : decode cX9_needed 44 = .ok (.getfield 32, 3) := by decide +kernel
theorem dX9_needed_47 : decode cX9_needed 47 = .ok (.getfield 93, 3) := by decide +kernel
theorem dX9_needed_50 : decode cX9_needed 50 = .ok (.if_icmp .ge 54, 3) := by decide +kernel
theorem dX9_needed_53 : decode cX9_needed 53 = .ok (.aload_n 0, 1) := by decide +kernel
theorem dX9_needed_54 : decode cX9_needed 54 = .ok (.invokevirtual 190, 3) := by decide +kernel
theorem dX9_needed_57 : decode cX9_needed 57 = .ok (.aload_n 0, 1) := by decide +kernel
theorem dX9_needed_58 : decode cX9_needed 58 = .ok (.getfield 36, 3) := by decide +kernel
theorem dX9_needed_61 : decode cX9_needed 61 = .ok (.getfield 102, 3) := by decide +kernel
theorem dX9_needed_64 : decode cX9_needed 64 = .ok (.iload 5, 2) := by decide +kernel
theorem dX9_needed_66 : decode cX9_needed 66 = .ok (.iconst 0, 1) := by decide +kernel
theorem dX9_needed_67 : decode cX9_needed 67 = .ok (.iastore, 1) := by decide +kernel
theorem dX9_needed_68 : decode cX9_needed 68 = .ok (.aload_n 0, 1) := by decide +kernel
theorem dX9_needed_69 : decode cX9_needed 69 = .ok (.getfield 36, 3) := by decide +kernel
theorem dX9_needed_72 : decode cX9_needed 72 = .ok (.iload_n 1, 1) := by decide +kernel
theorem dX9_needed_73 : decode cX9_needed 73 = .ok (.invokevirtual 175, 3) := by decide +kernel
theorem dX9_needed_76 : decode cX9_needed 76 = .ok (.aload_n 0, 1) := by decide +kernel
theorem dX9_needed_77 : decode cX9_needed 77 = .ok (.getfield 36, 3) := by decide +kernel
theorem dX9_needed_80 : decode cX9_needed 80 = .ok (.invokevirtual 160, 3) := by decide +kernel
theorem dX9_needed_83 : decode cX9_needed 83 = .ok (.istore 6, 2) := by decide +kernel
theorem dX9_needed_85 : decode cX9_needed 85 = .ok (.iload 6, 2) := by decide +kernel
theorem dX9_needed_87 : decode cX9_needed 87 = .ok (.iload_n 3, 1) := by decide +kernel
theorem dX9_needed_88 : decode cX9_needed 88 = .ok (.if_icmp .ge 10, 3) := by decide +kernel
theorem dX9_needed_91 : decode cX9_needed 91 = .ok (.iload 6, 2) := by decide +kernel
theorem dX9_needed_93 : decode cX9_needed 93 = .ok (.istore_n 3, 1) := by decide +kernel
theorem dX9_needed_94 : decode cX9_needed 94 = .ok (.iload 5, 2) := by decide +kernel
theorem dX9_needed_96 : decode cX9_needed 96 = .ok (.istore 4, 2) := by decide +kernel
theorem dX9_needed_98 : decode cX9_needed 98 = .ok (.iinc 5 1, 3) := by decide +kernel
theorem dX9_needed_101 : decode cX9_needed 101 = .ok (.goto (-60), 3) := by decide +kernel
theorem dX9_needed_104 : decode cX9_needed 104 = .ok (.iload 4, 2) := by decide +kernel
theorem dX9_needed_106 : decode cX9_needed 106 = .ok (.ifCond .ge 11, 3) := by decide +kernel
theorem dX9_needed_109 : decode cX9_needed 109 = .ok (.aload_n 0, 1) := by decide +kernel
theorem dX9_needed_110 : decode cX9_needed 110 = .ok (.iconst 3, 1) := by decide +kernel
theorem dX9_needed_111 : decode cX9_needed 111 = .ok (.invokevirtual 68, 3) := by decide +kernel
theorem dX9_needed_114 : decode cX9_needed 114 = .ok (.goto 5, 3) := by decide +kernel
theorem dX9_needed_117 : decode cX9_needed 117 = .ok (.iload 4, 2) := by decide +kernel
theorem dX9_needed_119 : decode cX9_needed 119 = .ok (.ireturn, 1) := by decide +kernel
theorem dX9_steepest_0 : decode cX9_steepest 0 = .ok (.iconst 0, 1) := by decide +kernel
theorem dX9_steepest_1 : decode cX9_steepest 1 = .ok (.istore_n 1, 1) := by decide +kernel
theorem dX9_steepest_2 : decode cX9_steepest 2 = .ok (.iconst 0, 1) := by decide +kernel
theorem dX9_steepest_3 : decode cX9_steepest 3 = .ok (.istore_n 2, 1) := by decide +kernel
theorem dX9_steepest_4 : decode cX9_steepest 4 = .ok (.iconst 1, 1) := by decide +kernel
theorem dX9_steepest_5 : decode cX9_steepest 5 = .ok (.istore_n 3, 1) := by decide +kernel
theorem dX9_steepest_6 : decode cX9_steepest 6 = .ok (.iload_n 3, 1) := by decide +kernel
theorem dX9_steepest_7 : decode cX9_steepest 7 = .ok (.bipush 40, 2) := by decide +kernel
theorem dX9_steepest_9 : decode cX9_steepest 9 = .ok (.if_icmp .ge 61, 3) := by decide +kernel
theorem dX9_steepest_12 : decode cX9_steepest 12 = .ok (.aload_n 0, 1) := by decide +kernel
theorem dX9_steepest_13 : decode cX9_steepest 13 = .ok (.getfield 32, 3) := by decide +kernel
theorem dX9_steepest_16 : decode cX9_steepest 16 = .ok (.iload_n 3, 1) := by decide +kernel
theorem dX9_steepest_17 : decode cX9_steepest 17 = .ok (.invokevirtual 164, 3) := by decide +kernel
theorem dX9_steepest_20 : decode cX9_steepest 20 = .ok (.ifCond .ne 6, 3) := by decide +kernel
theorem dX9_steepest_23 : decode cX9_steepest 23 = .ok (.goto 41, 3) := by decide +kernel
theorem dX9_steepest_26 : decode cX9_steepest 26 = .ok (.aload_n 0, 1) := by decide +kernel
theorem dX9_steepest_27 : decode cX9_steepest 27 = .ok (.getfield 32, 3) := by decide +kernel
theorem dX9_steepest_30 : decode cX9_steepest 30 = .ok (.getfield 139, 3) := by decide +kernel
theorem dX9_steepest_33 : decode cX9_steepest 33 = .ok (.iload_n 3, 1) := by decide +kernel
theorem dX9_steepest_34 : decode cX9_steepest 34 = .ok (.iaload, 1) := by decide +kernel
theorem dX9_steepest_35 : decode cX9_steepest 35 = .ok (.aload_n 0, 1) := by decide +kernel
theorem dX9_steepest_36 : decode cX9_steepest 36 = .ok (.getfield 32, 3) := by decide +kernel
theorem dX9_steepest_39 : decode cX9_steepest 39 = .ok (.getfield 139, 3) := by decide +kernel
theorem dX9_steepest_42 : decode cX9_steepest 42 = .ok (.iload_n 3, 1) := by decide +kernel
theorem dX9_steepest_43 : decode cX9_steepest 43 = .ok (.iconst 1, 1) := by decide +kernel
theorem dX9_steepest_44 : decode cX9_steepest 44 = .ok (.isub, 1) := by decide +kernel
theorem dX9_steepest_45 : decode cX9_steepest 45 = .ok (.iaload, 1) := by decide +kernel
theorem dX9_steepest_46 : decode cX9_steepest 46 = .ok (.isub, 1) := by decide +kernel
theorem dX9_steepest_47 : decode cX9_steepest 47 = .ok (.istore 4, 2) := by decide +kernel
theorem dX9_steepest_49 : decode cX9_steepest 49 = .ok (.iload_n 1, 1) := by decide +kernel
theorem dX9_steepest_50 : decode cX9_steepest 50 = .ok (.ifCond .eq 9, 3) := by decide +kernel
theorem dX9_steepest_53 : decode cX9_steepest 53 = .ok (.iload 4, 2) := by decide +kernel
theorem dX9_steepest_55 : decode cX9_steepest 55 = .ok (.iload_n 2, 1) := by decide +kernel
theorem dX9_steepest_56 : decode cX9_steepest 56 = .ok (.if_icmp .le 8, 3) := by decide +kernel
theorem dX9_steepest_59 : decode cX9_steepest 59 = .ok (.iload 4, 2) := by decide +kernel
theorem dX9_steepest_61 : decode cX9_steepest 61 = .ok (.istore_n 2, 1) := by decide +kernel
theorem dX9_steepest_62 : decode cX9_steepest 62 = .ok (.iload_n 3, 1) := by decide +kernel
theorem dX9_steepest_63 : decode cX9_steepest 63 = .ok (.istore_n 1, 1) := by decide +kernel
theorem dX9_steepest_64 : decode cX9_steepest 64 = .ok (.iinc 3 1, 3) := by decide +kernel
theorem dX9_steepest_67 : decode cX9_steepest 67 = .ok (.goto (-61), 3) := by decide +kernel
theorem dX9_steepest_70 : decode cX9_steepest 70 = .ok (.iload_n 1, 1) := by decide +kernel
theorem dX9_steepest_71 : decode cX9_steepest 71 = .ok (.ifCond .ne 11, 3) := by decide +kernel
theorem dX9_steepest_74 : decode cX9_steepest 74 = .ok (.aload_n 0, 1) := by decide +kernel
theorem dX9_steepest_75 : decode cX9_steepest 75 = .ok (.iconst 3, 1) := by decide +kernel
theorem dX9_steepest_76 : decode cX9_steepest 76 = .ok (.invokevirtual 68, 3) := by decide +kernel
theorem dX9_steepest_79 : decode cX9_steepest 79 = .ok (.goto 4, 3) := by decide +kernel
theorem dX9_steepest_82 : decode cX9_steepest 82 = .ok (.iload_n 1, 1) := by decide +kernel
theorem dX9_steepest_83 : decode cX9_steepest 83 = .ok (.ireturn, 1) := by decide +kernel
theorem dX9_whose_0 : decode cX9_whose 0 = .ok (.iload_n 1, 1) := by decide +kernel
theorem dX9_whose_1 : decode cX9_whose 1 = .ok (.invokestatic 60, 3) := by decide +kernel
theorem dX9_whose_4 : decode cX9_whose 4 = .ok (.ifCond .eq 13, 3) := by decide +kernel
theorem dX9_whose_7 : decode cX9_whose 7 = .ok (.iload_n 2, 1) := by decide +kernel
theorem dX9_whose_8 : decode cX9_whose 8 = .ok (.iconst 0, 1) := by decide +kernel
theorem dX9_whose_9 : decode cX9_whose 9 = .ok (.bipush 40, 2) := by decide +kernel
theorem dX9_whose_11 : decode cX9_whose 11 = .ok (.invokestatic 64, 3) := by decide +kernel
theorem dX9_whose_14 : decode cX9_whose 14 = .ok (.ifCond .ne 9, 3) := by decide +kernel
theorem dX9_whose_17 : decode cX9_whose 17 = .ok (.aload_n 0, 1) := by decide +kernel
theorem dX9_whose_18 : decode cX9_whose 18 = .ok (.iconst 0, 1) := by decide +kernel
theorem dX9_whose_19 : decode cX9_whose 19 = .ok (.invokevirtual 68, 3) := by decide +kernel
theorem dX9_whose_22 : decode cX9_whose 22 = .ok (.ireturn, 1) := by decide +kernel
theorem dX9_whose_23 : decode cX9_whose 23 = .ok (.iconst 0, 1) := by decide +kernel
theorem dX9_whose_24 : decode cX9_whose 24 = .ok (.istore_n 3, 1) := by decide +kernel
theorem dX9_whose_25 : decode cX9_whose 25 = .ok (.iconst 0, 1) := by decide +kernel
theorem dX9_whose_26 : decode cX9_whose 26 = .ok (.istore 4, 2) := by decide +kernel
theorem dX9_whose_28 : decode cX9_whose 28 = .ok (.iload 4, 2) := by decide +kernel
theorem dX9_whose_30 : decode cX9_whose 30 = .ok (.aload_n 0, 1) := by decide +kernel
theorem dX9_whose_31 : decode cX9_whose 31 = .ok (.getfield 32, 3) := by decide +kernel
theorem dX9_whose_34 : decode cX9_whose 34 = .ok (.getfield 93, 3) := by decide +kernel
theorem dX9_whose_37 : decode cX9_whose 37 = .ok (.if_icmp .ge 30, 3) := by decide +kernel
theorem dX9_whose_40 : decode cX9_whose 40 = .ok (.aload_n 0, 1) := by decide +kernel
theorem dX9_whose_41 : decode cX9_whose 41 = .ok (.getfield 32, 3) := by decide +kernel
theorem dX9_whose_44 : decode cX9_whose 44 = .ok (.iload 4, 2) := by decide +kernel
theorem dX9_whose_46 : decode cX9_whose 46 = .ok (.iload_n 1, 1) := by decide +kernel
theorem dX9_whose_47 : decode cX9_whose 47 = .ok (.invokevirtual 117, 3) := by decide +kernel
theorem dX9_whose_50 : decode cX9_whose 50 = .ok (.iload_n 2, 1) := by decide +kernel
theorem dX9_whose_51 : decode cX9_whose 51 = .ok (.if_icmp .ne 10, 3) := by decide +kernel
theorem dX9_whose_54 : decode cX9_whose 54 = .ok (.iload_n 3, 1) := by decide +kernel
theorem dX9_whose_55 : decode cX9_whose 55 = .ok (.iconst 1, 1) := by decide +kernel
theorem dX9_whose_56 : decode cX9_whose 56 = .ok (.iload 4, 2) := by decide +kernel
theorem dX9_whose_58 : decode cX9_whose 58 = .ok (.ishl, 1) := by decide +kernel
theorem dX9_whose_59 : decode cX9_whose 59 = .ok (.ior, 1) := by decide +kernel
theorem dX9_whose_60 : decode cX9_whose 60 = .ok (.istore_n 3, 1) := by decide +kernel
theorem dX9_whose_61 : decode cX9_whose 61 = .ok (.iinc 4 1, 3) := by decide +kernel
theorem dX9_whose_64 : decode cX9_whose 64 = .ok (.goto (-36), 3) := by decide +kernel
theorem dX9_whose_67 : decode cX9_whose 67 = .ok (.iload_n 3, 1) := by decide +kernel
theorem dX9_whose_68 : decode cX9_whose 68 = .ok (.ireturn, 1) := by decide +kernel
theorem dX9_bears_0 : decode cX9_bears 0 = .ok (.aload_n 0, 1) := by decide +kernel
theorem dX9_bears_1 : decode cX9_bears 1 = .ok (.iload_n 1, 1) := by decide +kernel
theorem dX9_bears_2 : decode cX9_bears 2 = .ok (.iconst 1, 1) := by decide +kernel
theorem dX9_bears_3 : decode cX9_bears 3 = .ok (.sipush 200, 3) := by decide +kernel
theorem dX9_bears_6 : decode cX9_bears 6 = .ok (.invokevirtual 171, 3) := by decide +kernel
theorem dX9_bears_9 : decode cX9_bears 9 = .ok (.istore_n 2, 1) := by decide +kernel
theorem dX9_bears_10 : decode cX9_bears 10 = .ok (.iload_n 2, 1) := by decide +kernel
theorem dX9_bears_11 : decode cX9_bears 11 = .ok (.ifCond .eq 5, 3) := by decide +kernel
theorem dX9_bears_14 : decode cX9_bears 14 = .ok (.iload_n 2, 1) := by decide +kernel
theorem dX9_bears_15 : decode cX9_bears 15 = .ok (.ireturn, 1) := by decide +kernel
theorem dX9_bears_16 : decode cX9_bears 16 = .ok (.bipush 9, 2) := by decide +kernel
theorem dX9_bears_18 : decode cX9_bears 18 = .ok (.istore_n 3, 1) := by decide +kernel
theorem dX9_bears_19 : decode cX9_bears 19 = .ok (.iload_n 3, 1) := by decide +kernel
theorem dX9_bears_20 : decode cX9_bears 20 = .ok (.ifCond .lt 43, 3) := by decide +kernel
theorem dX9_bears_23 : decode cX9_bears 23 = .ok (.aload_n 0, 1) := by decide +kernel
theorem dX9_bears_24 : decode cX9_bears 24 = .ok (.invokevirtual 190, 3) := by decide +kernel
theorem dX9_bears_27 : decode cX9_bears 27 = .ok (.aload_n 0, 1) := by decide +kernel
theorem dX9_bears_28 : decode cX9_bears 28 = .ok (.getfield 36, 3) := by decide +kernel
theorem dX9_bears_31 : decode cX9_bears 31 = .ok (.iload_n 3, 1) := by decide +kernel
theorem dX9_bears_32 : decode cX9_bears 32 = .ok (.putfield 75, 3) := by decide +kernel
theorem dX9_bears_35 : decode cX9_bears 35 = .ok (.aload_n 0, 1) := by decide +kernel
theorem dX9_bears_36 : decode cX9_bears 36 = .ok (.getfield 36, 3) := by decide +kernel
theorem dX9_bears_39 : decode cX9_bears 39 = .ok (.iload_n 1, 1) := by decide +kernel
theorem dX9_bears_40 : decode cX9_bears 40 = .ok (.invokevirtual 175, 3) := by decide +kernel
theorem dX9_bears_43 : decode cX9_bears 43 = .ok (.aload_n 0, 1) := by decide +kernel
theorem dX9_bears_44 : decode cX9_bears 44 = .ok (.getfield 36, 3) := by decide +kernel
theorem dX9_bears_47 : decode cX9_bears 47 = .ok (.invokevirtual 160, 3) := by decide +kernel
theorem dX9_bears_50 : decode cX9_bears 50 = .ok (.bipush 40, 2) := by decide +kernel
theorem dX9_bears_52 : decode cX9_bears 52 = .ok (.if_icmp .ne 5, 3) := by decide +kernel
theorem dX9_bears_55 : decode cX9_bears 55 = .ok (.iload_n 3, 1) := by decide +kernel
theorem dX9_bears_56 : decode cX9_bears 56 = .ok (.ireturn, 1) := by decide +kernel
theorem dX9_bears_57 : decode cX9_bears 57 = .ok (.iinc 3 (-1), 3) := by decide +kernel
theorem dX9_bears_60 : decode cX9_bears 60 = .ok (.goto (-41), 3) := by decide +kernel
theorem dX9_bears_63 : decode cX9_bears 63 = .ok (.aload_n 0, 1) := by decide +kernel
theorem dX9_bears_64 : decode cX9_bears 64 = .ok (.iconst 3, 1) := by decide +kernel
theorem dX9_bears_65 : decode cX9_bears 65 = .ok (.invokevirtual 68, 3) := by decide +kernel
theorem dX9_bears_68 : decode cX9_bears 68 = .ok (.ireturn, 1) := by decide +kernel
theorem dX9_meetsFor_0 : decode cX9_meetsFor 0 = .ok (.iload_n 1, 1) := by decide +kernel
theorem dX9_meetsFor_1 : decode cX9_meetsFor 1 = .ok (.iconst 0, 1) := by decide +kernel
theorem dX9_meetsFor_2 : decode cX9_meetsFor 2 = .ok (.bipush 40, 2) := by decide +kernel
theorem dX9_meetsFor_4 : decode cX9_meetsFor 4 = .ok (.invokestatic 64, 3) := by decide +kernel
theorem dX9_meetsFor_7 : decode cX9_meetsFor 7 = .ok (.ifCond .ne 9, 3) := by decide +kernel
theorem dX9_meetsFor_10 : decode cX9_meetsFor 10 = .ok (.aload_n 0, 1) := by decide +kernel
theorem dX9_meetsFor_11 : decode cX9_meetsFor 11 = .ok (.iconst 0, 1) := by decide +kernel
theorem dX9_meetsFor_12 : decode cX9_meetsFor 12 = .ok (.invokevirtual 68, 3) := by decide +kernel
theorem dX9_meetsFor_15 : decode cX9_meetsFor 15 = .ok (.ireturn, 1) := by decide +kernel
theorem dX9_meetsFor_16 : decode cX9_meetsFor 16 = .ok (.iconst 0, 1) := by decide +kernel
theorem dX9_meetsFor_17 : decode cX9_meetsFor 17 = .ok (.istore_n 2, 1) := by decide +kernel
theorem dX9_meetsFor_18 : decode cX9_meetsFor 18 = .ok (.iload_n 2, 1) := by decide +kernel
theorem dX9_meetsFor_19 : decode cX9_meetsFor 19 = .ok (.bipush 20, 2) := by decide +kernel
theorem dX9_meetsFor_21 : decode cX9_meetsFor 21 = .ok (.if_icmp .gt 23, 3) := by decide +kernel
theorem dX9_meetsFor_24 : decode cX9_meetsFor 24 = .ok (.aload_n 0, 1) := by decide +kernel
theorem dX9_meetsFor_25 : decode cX9_meetsFor 25 = .ok (.getfield 32, 3) := by decide +kernel
theorem dX9_meetsFor_28 : decode cX9_meetsFor 28 = .ok (.iload_n 2, 1) := by decide +kernel
theorem dX9_meetsFor_29 : decode cX9_meetsFor 29 = .ok (.invokevirtual 201, 3) := by decide +kernel
theorem dX9_meetsFor_32 : decode cX9_meetsFor 32 = .ok (.iload_n 1, 1) := by decide +kernel
theorem dX9_meetsFor_33 : decode cX9_meetsFor 33 = .ok (.if_icmp .lt 5, 3) := by decide +kernel
theorem dX9_meetsFor_36 : decode cX9_meetsFor 36 = .ok (.iload_n 2, 1) := by decide +kernel
theorem dX9_meetsFor_37 : decode cX9_meetsFor 37 = .ok (.ireturn, 1) := by decide +kernel
theorem dX9_meetsFor_38 : decode cX9_meetsFor 38 = .ok (.iinc 2 1, 3) := by decide +kernel
theorem dX9_meetsFor_41 : decode cX9_meetsFor 41 = .ok (.goto (-23), 3) := by decide +kernel
theorem dX9_meetsFor_44 : decode cX9_meetsFor 44 = .ok (.aload_n 0, 1) := by decide +kernel
theorem dX9_meetsFor_45 : decode cX9_meetsFor 45 = .ok (.iconst 3, 1) := by decide +kernel
theorem dX9_meetsFor_46 : decode cX9_meetsFor 46 = .ok (.invokevirtual 68, 3) := by decide +kernel
theorem dX9_meetsFor_49 : decode cX9_meetsFor 49 = .ok (.ireturn, 1) := by decide +kernel
theorem dX9_alone_0 : decode cX9_alone 0 = .ok (.aload_n 0, 1) := by decide +kernel
theorem dX9_alone_1 : decode cX9_alone 1 = .ok (.getfield 32, 3) := by decide +kernel
theorem dX9_alone_4 : decode cX9_alone 4 = .ok (.iload_n 1, 1) := by decide +kernel
theorem dX9_alone_5 : decode cX9_alone 5 = .ok (.invokevirtual 96, 3) := by decide +kernel
theorem dX9_alone_8 : decode cX9_alone 8 = .ok (.ifCond .ne 9, 3) := by decide +kernel
theorem dX9_alone_11 : decode cX9_alone 11 = .ok (.aload_n 0, 1) := by decide +kernel
theorem dX9_alone_12 : decode cX9_alone 12 = .ok (.iconst 0, 1) := by decide +kernel
theorem dX9_alone_13 : decode cX9_alone 13 = .ok (.invokevirtual 68, 3) := by decide +kernel
theorem dX9_alone_16 : decode cX9_alone 16 = .ok (.ireturn, 1) := by decide +kernel
theorem dX9_alone_17 : decode cX9_alone 17 = .ok (.iconst 1, 1) := by decide +kernel
theorem dX9_alone_18 : decode cX9_alone 18 = .ok (.aload_n 0, 1) := by decide +kernel
theorem dX9_alone_19 : decode cX9_alone 19 = .ok (.getfield 32, 3) := by decide +kernel
theorem dX9_alone_22 : decode cX9_alone 22 = .ok (.iload_n 1, 1) := by decide +kernel
theorem dX9_alone_23 : decode cX9_alone 23 = .ok (.invokevirtual 114, 3) := by decide +kernel
theorem dX9_alone_26 : decode cX9_alone 26 = .ok (.invokestatic 196, 3) := by decide +kernel
theorem dX9_alone_29 : decode cX9_alone 29 = .ok (.istore_n 2, 1) := by decide +kernel
theorem dX9_alone_30 : decode cX9_alone 30 = .ok (.iconst 0, 1) := by decide +kernel
theorem dX9_alone_31 : decode cX9_alone 31 = .ok (.istore_n 3, 1) := by decide +kernel
theorem dX9_alone_32 : decode cX9_alone 32 = .ok (.iconst 0, 1) := by decide +kernel
theorem dX9_alone_33 : decode cX9_alone 33 = .ok (.istore 4, 2) := by decide +kernel
theorem dX9_alone_35 : decode cX9_alone 35 = .ok (.iload 4, 2) := by decide +kernel
theorem dX9_alone_37 : decode cX9_alone 37 = .ok (.bipush 40, 2) := by decide +kernel
theorem dX9_alone_39 : decode cX9_alone 39 = .ok (.if_icmp .ge 40, 3) := by decide +kernel
theorem dX9_alone_42 : decode cX9_alone 42 = .ok (.aload_n 0, 1) := by decide +kernel
theorem dX9_alone_43 : decode cX9_alone 43 = .ok (.getfield 32, 3) := by decide +kernel
theorem dX9_alone_46 : decode cX9_alone 46 = .ok (.iload 4, 2) := by decide +kernel
theorem dX9_alone_48 : decode cX9_alone 48 = .ok (.invokevirtual 136, 3) := by decide +kernel
theorem dX9_alone_51 : decode cX9_alone 51 = .ok (.ifCond .ne 22, 3) := by decide +kernel
theorem dX9_alone_54 : decode cX9_alone 54 = .ok (.iload_n 3, 1) := by decide +kernel
theorem dX9_alone_55 : decode cX9_alone 55 = .ok (.aload_n 0, 1) := by decide +kernel
theorem dX9_alone_56 : decode cX9_alone 56 = .ok (.getfield 32, 3) := by decide +kernel
theorem dX9_alone_59 : decode cX9_alone 59 = .ok (.getfield 72, 3) := by decide +kernel
theorem dX9_alone_62 : decode cX9_alone 62 = .ok (.iload 4, 2) := by decide +kernel
theorem dX9_alone_64 : decode cX9_alone 64 = .ok (.iaload, 1) := by decide +kernel
theorem dX9_alone_65 : decode cX9_alone 65 = .ok (.iload_n 2, 1) := by decide +kernel
theorem dX9_alone_66 : decode cX9_alone 66 = .ok (.iadd, 1) := by decide +kernel
theorem dX9_alone_67 : decode cX9_alone 67 = .ok (.iconst 1, 1) := by decide +kernel
theorem dX9_alone_68 : decode cX9_alone 68 = .ok (.isub, 1) := by decide +kernel
theorem dX9_alone_69 : decode cX9_alone 69 = .ok (.iload_n 2, 1) := by decide +kernel
theorem dX9_alone_70 : decode cX9_alone 70 = .ok (.idiv, 1) := by decide +kernel
theorem dX9_alone_71 : decode cX9_alone 71 = .ok (.iadd, 1) := by decide +kernel
theorem dX9_alone_72 : decode cX9_alone 72 = .ok (.istore_n 3, 1) := by decide +kernel
theorem dX9_alone_73 : decode cX9_alone 73 = .ok (.iinc 4 1, 3) := by decide +kernel
theorem dX9_alone_76 : decode cX9_alone 76 = .ok (.goto (-41), 3) := by decide +kernel
theorem dX9_alone_79 : decode cX9_alone 79 = .ok (.iload_n 3, 1) := by decide +kernel
theorem dX9_alone_80 : decode cX9_alone 80 = .ok (.ireturn, 1) := by decide +kernel
theorem dX9_feed_0 : decode cX9_feed 0 = .ok (.iload_n 2, 1) := by decide +kernel
theorem dX9_feed_1 : decode cX9_feed 1 = .ok (.iconst 1, 1) := by decide +kernel
theorem dX9_feed_2 : decode cX9_feed 2 = .ok (.iconst 4, 1) := by decide +kernel
theorem dX9_feed_3 : decode cX9_feed 3 = .ok (.invokestatic 64, 3) := by decide +kernel
theorem dX9_feed_6 : decode cX9_feed 6 = .ok (.ifCond .ne 9, 3) := by decide +kernel
theorem dX9_feed_9 : decode cX9_feed 9 = .ok (.aload_n 0, 1) := by decide +kernel
theorem dX9_feed_10 : decode cX9_feed 10 = .ok (.iconst 0, 1) := by decide +kernel
theorem dX9_feed_11 : decode cX9_feed 11 = .ok (.invokevirtual 68, 3) := by decide +kernel
theorem dX9_feed_14 : decode cX9_feed 14 = .ok (.ireturn, 1) := by decide +kernel
theorem dX9_feed_15 : decode cX9_feed 15 = .ok (.aload_n 0, 1) := by decide +kernel
theorem dX9_feed_16 : decode cX9_feed 16 = .ok (.getfield 45, 3) := by decide +kernel
theorem dX9_feed_19 : decode cX9_feed 19 = .ok (.getfield 204, 3) := by decide +kernel
theorem dX9_feed_22 : decode cX9_feed 22 = .ok (.iload_n 2, 1) := by decide +kernel
theorem dX9_feed_23 : decode cX9_feed 23 = .ok (.iadd, 1) := by decide +kernel
theorem dX9_feed_24 : decode cX9_feed 24 = .ok (.bipush 120, 2) := by decide +kernel
theorem dX9_feed_26 : decode cX9_feed 26 = .ok (.if_icmp .le 9, 3) := by decide +kernel
theorem dX9_feed_29 : decode cX9_feed 29 = .ok (.aload_n 0, 1) := by decide +kernel
theorem dX9_feed_30 : decode cX9_feed 30 = .ok (.iconst 1, 1) := by decide +kernel
theorem dX9_feed_31 : decode cX9_feed 31 = .ok (.invokevirtual 68, 3) := by decide +kernel
theorem dX9_feed_34 : decode cX9_feed 34 = .ok (.ireturn, 1) := by decide +kernel
theorem dX9_feed_35 : decode cX9_feed 35 = .ok (.iload_n 2, 1) := by decide +kernel
theorem dX9_feed_36 : decode cX9_feed 36 = .ok (.iconst 1, 1) := by decide +kernel
theorem dX9_feed_37 : decode cX9_feed 37 = .ok (.isub, 1) := by decide +kernel
theorem dX9_feed_38 : decode cX9_feed 38 = .ok (.istore_n 3, 1) := by decide +kernel
theorem dX9_feed_39 : decode cX9_feed 39 = .ok (.iload_n 3, 1) := by decide +kernel
theorem dX9_feed_40 : decode cX9_feed 40 = .ok (.ifCond .lt 26, 3) := by decide +kernel
theorem dX9_feed_43 : decode cX9_feed 43 = .ok (.aload_n 0, 1) := by decide +kernel
theorem dX9_feed_44 : decode cX9_feed 44 = .ok (.getfield 45, 3) := by decide +kernel
theorem dX9_feed_47 : decode cX9_feed 47 = .ok (.iload_n 1, 1) := by decide +kernel
theorem dX9_feed_48 : decode cX9_feed 48 = .ok (.bipush 8, 2) := by decide +kernel
theorem dX9_feed_50 : decode cX9_feed 50 = .ok (.iload_n 3, 1) := by decide +kernel
theorem dX9_feed_51 : decode cX9_feed 51 = .ok (.imul, 1) := by decide +kernel
theorem dX9_feed_52 : decode cX9_feed 52 = .ok (.iushr, 1) := by decide +kernel
theorem dX9_feed_53 : decode cX9_feed 53 = .ok (.sipush 255, 3) := by decide +kernel
theorem dX9_feed_56 : decode cX9_feed 56 = .ok (.iand, 1) := by decide +kernel
theorem dX9_feed_57 : decode cX9_feed 57 = .ok (.invokevirtual 207, 3) := by decide +kernel
theorem dX9_feed_60 : decode cX9_feed 60 = .ok (.iinc 3 (-1), 3) := by decide +kernel
theorem dX9_feed_63 : decode cX9_feed 63 = .ok (.goto (-24), 3) := by decide +kernel
theorem dX9_feed_66 : decode cX9_feed 66 = .ok (.aload_n 0, 1) := by decide +kernel
theorem dX9_feed_67 : decode cX9_feed 67 = .ok (.getfield 45, 3) := by decide +kernel
theorem dX9_feed_70 : decode cX9_feed 70 = .ok (.getfield 204, 3) := by decide +kernel
theorem dX9_feed_73 : decode cX9_feed 73 = .ok (.ireturn, 1) := by decide +kernel
theorem dX9_wipe_0 : decode cX9_wipe 0 = .ok (.aload_n 0, 1) := by decide +kernel
theorem dX9_wipe_1 : decode cX9_wipe 1 = .ok (.getfield 45, 3) := by decide +kernel
theorem dX9_wipe_4 : decode cX9_wipe 4 = .ok (.getfield 204, 3) := by decide +kernel
theorem dX9_wipe_7 : decode cX9_wipe 7 = .ok (.istore_n 1, 1) := by decide +kernel
theorem dX9_wipe_8 : decode cX9_wipe 8 = .ok (.aload_n 0, 1) := by decide +kernel
theorem dX9_wipe_9 : decode cX9_wipe 9 = .ok (.getfield 45, 3) := by decide +kernel
theorem dX9_wipe_12 : decode cX9_wipe 12 = .ok (.iconst 0, 1) := by decide +kernel
theorem dX9_wipe_13 : decode cX9_wipe 13 = .ok (.putfield 204, 3) := by decide +kernel
theorem dX9_wipe_16 : decode cX9_wipe 16 = .ok (.iload_n 1, 1) := by decide +kernel
theorem dX9_wipe_17 : decode cX9_wipe 17 = .ok (.ireturn, 1) := by decide +kernel
theorem dX9_court_0 : decode cX9_court 0 = .ok (.aload_n 0, 1) := by decide +kernel
theorem dX9_court_1 : decode cX9_court 1 = .ok (.invokevirtual 190, 3) := by decide +kernel
theorem dX9_court_4 : decode cX9_court 4 = .ok (.aload_n 0, 1) := by decide +kernel
theorem dX9_court_5 : decode cX9_court 5 = .ok (.getfield 45, 3) := by decide +kernel
theorem dX9_court_8 : decode cX9_court 8 = .ok (.aload_n 0, 1) := by decide +kernel
theorem dX9_court_9 : decode cX9_court 9 = .ok (.getfield 36, 3) := by decide +kernel
theorem dX9_court_12 : decode cX9_court 12 = .ok (.invokevirtual 210, 3) := by decide +kernel
theorem dX9_court_15 : decode cX9_court 15 = .ok (.istore_n 1, 1) := by decide +kernel
theorem dX9_court_16 : decode cX9_court 16 = .ok (.iload_n 1, 1) := by decide +kernel
theorem dX9_court_17 : decode cX9_court 17 = .ok (.ifCond .lt 14, 3) := by decide +kernel
theorem dX9_court_20 : decode cX9_court 20 = .ok (.aload_n 0, 1) := by decide +kernel
theorem dX9_court_21 : decode cX9_court 21 = .ok (.getfield 32, 3) := by decide +kernel
theorem dX9_court_24 : decode cX9_court 24 = .ok (.aload_n 0, 1) := by decide +kernel
theorem dX9_court_25 : decode cX9_court 25 = .ok (.getfield 36, 3) := by decide +kernel
theorem dX9_court_28 : decode cX9_court 28 = .ok (.invokevirtual 214, 3) := by decide +kernel
theorem dX9_court_31 : decode cX9_court 31 = .ok (.aload_n 0, 1) := by decide +kernel
theorem dX9_court_32 : decode cX9_court 32 = .ok (.getfield 45, 3) := by decide +kernel
theorem dX9_court_35 : decode cX9_court 35 = .ok (.iconst 0, 1) := by decide +kernel
theorem dX9_court_36 : decode cX9_court 36 = .ok (.putfield 204, 3) := by decide +kernel
theorem dX9_court_39 : decode cX9_court 39 = .ok (.iload_n 1, 1) := by decide +kernel
theorem dX9_court_40 : decode cX9_court 40 = .ok (.ireturn, 1) := by decide +kernel
theorem dX9_sheet_0 : decode cX9_sheet 0 = .ok (.iload_n 1, 1) := by decide +kernel
theorem dX9_sheet_1 : decode cX9_sheet 1 = .ok (.invokestatic 218, 3) := by decide +kernel
theorem dX9_sheet_4 : decode cX9_sheet 4 = .ok (.ifCond .eq 25, 3) := by decide +kernel
theorem dX9_sheet_7 : decode cX9_sheet 7 = .ok (.iload_n 2, 1) := by decide +kernel
theorem dX9_sheet_8 : decode cX9_sheet 8 = .ok (.ifCond .eq 27, 3) := by decide +kernel
theorem dX9_sheet_11 : decode cX9_sheet 11 = .ok (.iload_n 2, 1) := by decide +kernel
theorem dX9_sheet_12 : decode cX9_sheet 12 = .ok (.bipush 8, 2) := by decide +kernel
theorem dX9_sheet_14 : decode cX9_sheet 14 = .ok (.if_icmp .eq 21, 3) := by decide +kernel
theorem dX9_sheet_17 : decode cX9_sheet 17 = .ok (.iload_n 2, 1) := by decide +kernel
theorem dX9_sheet_18 : decode cX9_sheet 18 = .ok (.bipush 16, 2) := by decide +kernel
theorem dX9_sheet_20 : decode cX9_sheet 20 = .ok (.if_icmp .eq 15, 3) := by decide +kernel
theorem dX9_sheet_23 : decode cX9_sheet 23 = .ok (.iload_n 2, 1) := by decide +kernel
theorem dX9_sheet_24 : decode cX9_sheet 24 = .ok (.bipush 64, 2) := by decide +kernel
theorem dX9_sheet_26 : decode cX9_sheet 26 = .ok (.if_icmp .eq 9, 3) := by decide +kernel
theorem dX9_sheet_29 : decode cX9_sheet 29 = .ok (.aload_n 0, 1) := by decide +kernel
theorem dX9_sheet_30 : decode cX9_sheet 30 = .ok (.iconst 0, 1) := by decide +kernel
theorem dX9_sheet_31 : decode cX9_sheet 31 = .ok (.invokevirtual 68, 3) := by decide +kernel
theorem dX9_sheet_34 : decode cX9_sheet 34 = .ok (.ireturn, 1) := by decide +kernel
theorem dX9_sheet_35 : decode cX9_sheet 35 = .ok (.iload_n 3, 1) := by decide +kernel
theorem dX9_sheet_36 : decode cX9_sheet 36 = .ok (.ifCond .ge 10, 3) := by decide +kernel
theorem dX9_sheet_39 : decode cX9_sheet 39 = .ok (.aload_n 0, 1) := by decide +kernel
theorem dX9_sheet_40 : decode cX9_sheet 40 = .ok (.bipush 6, 2) := by decide +kernel
theorem dX9_sheet_42 : decode cX9_sheet 42 = .ok (.invokevirtual 68, 3) := by decide +kernel
theorem dX9_sheet_45 : decode cX9_sheet 45 = .ok (.ireturn, 1) := by decide +kernel
theorem dX9_sheet_46 : decode cX9_sheet 46 = .ok (.iload_n 3, 1) := by decide +kernel
theorem dX9_sheet_47 : decode cX9_sheet 47 = .ok (.bipush 40, 2) := by decide +kernel
theorem dX9_sheet_49 : decode cX9_sheet 49 = .ok (.if_icmp .le 9, 3) := by decide +kernel
theorem dX9_sheet_52 : decode cX9_sheet 52 = .ok (.aload_n 0, 1) := by decide +kernel
theorem dX9_sheet_53 : decode cX9_sheet 53 = .ok (.iconst 0, 1) := by decide +kernel
theorem dX9_sheet_54 : decode cX9_sheet 54 = .ok (.invokevirtual 68, 3) := by decide +kernel
theorem dX9_sheet_57 : decode cX9_sheet 57 = .ok (.ireturn, 1) := by decide +kernel
theorem dX9_sheet_58 : decode cX9_sheet 58 = .ok (.aload_n 0, 1) := by decide +kernel
theorem dX9_sheet_59 : decode cX9_sheet 59 = .ok (.getfield 52, 3) := by decide +kernel
theorem dX9_sheet_62 : decode cX9_sheet 62 = .ok (.iload_n 1, 1) := by decide +kernel
theorem dX9_sheet_63 : decode cX9_sheet 63 = .ok (.aaload, 1) := by decide +kernel
theorem dX9_sheet_64 : decode cX9_sheet 64 = .ok (.iload_n 2, 1) := by decide +kernel
theorem dX9_sheet_65 : decode cX9_sheet 65 = .ok (.iload_n 3, 1) := by decide +kernel
theorem dX9_sheet_66 : decode cX9_sheet 66 = .ok (.invokevirtual 221, 3) := by decide +kernel
theorem dX9_sheet_69 : decode cX9_sheet 69 = .ok (.aload_n 0, 1) := by decide +kernel
theorem dX9_sheet_70 : decode cX9_sheet 70 = .ok (.getfield 52, 3) := by decide +kernel
theorem dX9_sheet_73 : decode cX9_sheet 73 = .ok (.iload_n 1, 1) := by decide +kernel
theorem dX9_sheet_74 : decode cX9_sheet 74 = .ok (.aaload, 1) := by decide +kernel
theorem dX9_sheet_75 : decode cX9_sheet 75 = .ok (.getfield 224, 3) := by decide +kernel
theorem dX9_sheet_78 : decode cX9_sheet 78 = .ok (.ireturn, 1) := by decide +kernel
theorem dX9_write_0 : decode cX9_write 0 = .ok (.iload_n 1, 1) := by decide +kernel
theorem dX9_write_1 : decode cX9_write 1 = .ok (.invokestatic 218, 3) := by decide +kernel
theorem dX9_write_4 : decode cX9_write 4 = .ok (.ifCond .ne 10, 3) := by decide +kernel
theorem dX9_write_7 : decode cX9_write 7 = .ok (.aload_n 0, 1) := by decide +kernel
theorem dX9_write_8 : decode cX9_write 8 = .ok (.iconst 0, 1) := by decide +kernel
theorem dX9_write_9 : decode cX9_write 9 = .ok (.invokevirtual 68, 3) := by decide +kernel
theorem dX9_write_12 : decode cX9_write 12 = .ok (.i2l, 1) := by decide +kernel
theorem dX9_write_13 : decode cX9_write 13 = .ok (.lreturn, 1) := by decide +kernel
theorem dX9_write_14 : decode cX9_write 14 = .ok (.aload_n 0, 1) := by decide +kernel
theorem dX9_write_15 : decode cX9_write 15 = .ok (.getfield 52, 3) := by decide +kernel
theorem dX9_write_18 : decode cX9_write 18 = .ok (.iload_n 1, 1) := by decide +kernel
theorem dX9_write_19 : decode cX9_write 19 = .ok (.aaload, 1) := by decide +kernel
theorem dX9_write_20 : decode cX9_write 20 = .ok (.astore 5, 2) := by decide +kernel
end
section
theorem dX9_write_22 : decode cX9_write 22 = .ok (.aload 5, 2) := by decide +kernel
theorem dX9_write_24 : decode cX9_write 24 = .ok (.invokevirtual 225, 3) := by decide +kernel
theorem dX9_write_27 : decode cX9_write 27 = .ok (.ifCond .eq 10, 3) := by decide +kernel
theorem dX9_write_30 : decode cX9_write 30 = .ok (.aload_n 0, 1) := by decide +kernel
theorem dX9_write_31 : decode cX9_write 31 = .ok (.iconst 5, 1) := by decide +kernel
theorem dX9_write_32 : decode cX9_write 32 = .ok (.invokevirtual 68, 3) := by decide +kernel
theorem dX9_write_35 : decode cX9_write 35 = .ok (.i2l, 1) := by decide +kernel
theorem dX9_write_36 : decode cX9_write 36 = .ok (.lreturn, 1) := by decide +kernel
theorem dX9_write_37 : decode cX9_write 37 = .ok (.aload 5, 2) := by decide +kernel
theorem dX9_write_39 : decode cX9_write 39 = .ok (.iload_n 2, 1) := by decide +kernel
theorem dX9_write_40 : decode cX9_write 40 = .ok (.iconst 1, 1) := by decide +kernel
theorem dX9_write_41 : decode cX9_write 41 = .ok (.invokevirtual 228, 3) := by decide +kernel
theorem dX9_write_44 : decode cX9_write 44 = .ok (.ifCond .ne 10, 3) := by decide +kernel
theorem dX9_write_47 : decode cX9_write 47 = .ok (.aload_n 0, 1) := by decide +kernel
theorem dX9_write_48 : decode cX9_write 48 = .ok (.iconst 0, 1) := by decide +kernel
theorem dX9_write_49 : decode cX9_write 49 = .ok (.invokevirtual 68, 3) := by decide +kernel
theorem dX9_write_52 : decode cX9_write 52 = .ok (.i2l, 1) := by decide +kernel
theorem dX9_write_53 : decode cX9_write 53 = .ok (.lreturn, 1) := by decide +kernel
theorem dX9_write_54 : decode cX9_write 54 = .ok (.aload 5, 2) := by decide +kernel
theorem dX9_write_56 : decode cX9_write 56 = .ok (.getfield 231, 3) := by decide +kernel
theorem dX9_write_59 : decode cX9_write 59 = .ok (.iload_n 2, 1) := by decide +kernel
theorem dX9_write_60 : decode cX9_write 60 = .ok (.laload, 1) := by decide +kernel
theorem dX9_write_61 : decode cX9_write 61 = .ok (.lstore 6, 2) := by decide +kernel
theorem dX9_write_63 : decode cX9_write 63 = .ok (.aload 5, 2) := by decide +kernel
theorem dX9_write_65 : decode cX9_write 65 = .ok (.iload_n 2, 1) := by decide +kernel
theorem dX9_write_66 : decode cX9_write 66 = .ok (.lload_n 3, 1) := by decide +kernel
theorem dX9_write_67 : decode cX9_write 67 = .ok (.invokevirtual 235, 3) := by decide +kernel
theorem dX9_write_70 : decode cX9_write 70 = .ok (.lload 6, 2) := by decide +kernel
theorem dX9_write_72 : decode cX9_write 72 = .ok (.lreturn, 1) := by decide +kernel
theorem dX9_copy_0 : decode cX9_copy 0 = .ok (.iload_n 1, 1) := by decide +kernel
theorem dX9_copy_1 : decode cX9_copy 1 = .ok (.invokestatic 218, 3) := by decide +kernel
theorem dX9_copy_4 : decode cX9_copy 4 = .ok (.ifCond .eq 10, 3) := by decide +kernel
theorem dX9_copy_7 : decode cX9_copy 7 = .ok (.iload_n 3, 1) := by decide +kernel
theorem dX9_copy_8 : decode cX9_copy 8 = .ok (.invokestatic 218, 3) := by decide +kernel
theorem dX9_copy_11 : decode cX9_copy 11 = .ok (.ifCond .ne 9, 3) := by decide +kernel
theorem dX9_copy_14 : decode cX9_copy 14 = .ok (.aload_n 0, 1) := by decide +kernel
theorem dX9_copy_15 : decode cX9_copy 15 = .ok (.iconst 0, 1) := by decide +kernel
theorem dX9_copy_16 : decode cX9_copy 16 = .ok (.invokevirtual 68, 3) := by decide +kernel
theorem dX9_copy_19 : decode cX9_copy 19 = .ok (.ireturn, 1) := by decide +kernel
theorem dX9_copy_20 : decode cX9_copy 20 = .ok (.aload_n 0, 1) := by decide +kernel
theorem dX9_copy_21 : decode cX9_copy 21 = .ok (.getfield 52, 3) := by decide +kernel
theorem dX9_copy_24 : decode cX9_copy 24 = .ok (.iload_n 1, 1) := by decide +kernel
theorem dX9_copy_25 : decode cX9_copy 25 = .ok (.aaload, 1) := by decide +kernel
theorem dX9_copy_26 : decode cX9_copy 26 = .ok (.astore 6, 2) := by decide +kernel
theorem dX9_copy_28 : decode cX9_copy 28 = .ok (.aload_n 0, 1) := by decide +kernel
theorem dX9_copy_29 : decode cX9_copy 29 = .ok (.getfield 52, 3) := by decide +kernel
theorem dX9_copy_32 : decode cX9_copy 32 = .ok (.iload_n 3, 1) := by decide +kernel
theorem dX9_copy_33 : decode cX9_copy 33 = .ok (.aaload, 1) := by decide +kernel
theorem dX9_copy_34 : decode cX9_copy 34 = .ok (.astore 7, 2) := by decide +kernel
theorem dX9_copy_36 : decode cX9_copy 36 = .ok (.aload 6, 2) := by decide +kernel
theorem dX9_copy_38 : decode cX9_copy 38 = .ok (.invokevirtual 225, 3) := by decide +kernel
theorem dX9_copy_41 : decode cX9_copy 41 = .ok (.ifCond .ne 11, 3) := by decide +kernel
theorem dX9_copy_44 : decode cX9_copy 44 = .ok (.aload 7, 2) := by decide +kernel
theorem dX9_copy_46 : decode cX9_copy 46 = .ok (.invokevirtual 225, 3) := by decide +kernel
theorem dX9_copy_49 : decode cX9_copy 49 = .ok (.ifCond .eq 9, 3) := by decide +kernel
theorem dX9_copy_52 : decode cX9_copy 52 = .ok (.aload_n 0, 1) := by decide +kernel
theorem dX9_copy_53 : decode cX9_copy 53 = .ok (.iconst 5, 1) := by decide +kernel
theorem dX9_copy_54 : decode cX9_copy 54 = .ok (.invokevirtual 68, 3) := by decide +kernel
theorem dX9_copy_57 : decode cX9_copy 57 = .ok (.ireturn, 1) := by decide +kernel
theorem dX9_copy_58 : decode cX9_copy 58 = .ok (.aload 6, 2) := by decide +kernel
theorem dX9_copy_60 : decode cX9_copy 60 = .ok (.getfield 239, 3) := by decide +kernel
theorem dX9_copy_63 : decode cX9_copy 63 = .ok (.aload 7, 2) := by decide +kernel
theorem dX9_copy_65 : decode cX9_copy 65 = .ok (.getfield 239, 3) := by decide +kernel
theorem dX9_copy_68 : decode cX9_copy 68 = .ok (.if_icmp .eq 9, 3) := by decide +kernel
theorem dX9_copy_71 : decode cX9_copy 71 = .ok (.aload_n 0, 1) := by decide +kernel
theorem dX9_copy_72 : decode cX9_copy 72 = .ok (.iconst 2, 1) := by decide +kernel
theorem dX9_copy_73 : decode cX9_copy 73 = .ok (.invokevirtual 68, 3) := by decide +kernel
theorem dX9_copy_76 : decode cX9_copy 76 = .ok (.ireturn, 1) := by decide +kernel
theorem dX9_copy_77 : decode cX9_copy 77 = .ok (.aload 6, 2) := by decide +kernel
theorem dX9_copy_79 : decode cX9_copy 79 = .ok (.iload_n 2, 1) := by decide +kernel
theorem dX9_copy_80 : decode cX9_copy 80 = .ok (.iload 5, 2) := by decide +kernel
theorem dX9_copy_82 : decode cX9_copy 82 = .ok (.invokevirtual 228, 3) := by decide +kernel
theorem dX9_copy_85 : decode cX9_copy 85 = .ok (.ifCond .eq 15, 3) := by decide +kernel
theorem dX9_copy_88 : decode cX9_copy 88 = .ok (.aload 7, 2) := by decide +kernel
theorem dX9_copy_90 : decode cX9_copy 90 = .ok (.iload 4, 2) := by decide +kernel
theorem dX9_copy_92 : decode cX9_copy 92 = .ok (.iload 5, 2) := by decide +kernel
theorem dX9_copy_94 : decode cX9_copy 94 = .ok (.invokevirtual 228, 3) := by decide +kernel
theorem dX9_copy_97 : decode cX9_copy 97 = .ok (.ifCond .ne 9, 3) := by decide +kernel
theorem dX9_copy_100 : decode cX9_copy 100 = .ok (.aload_n 0, 1) := by decide +kernel
theorem dX9_copy_101 : decode cX9_copy 101 = .ok (.iconst 0, 1) := by decide +kernel
theorem dX9_copy_102 : decode cX9_copy 102 = .ok (.invokevirtual 68, 3) := by decide +kernel
theorem dX9_copy_105 : decode cX9_copy 105 = .ok (.ireturn, 1) := by decide +kernel
theorem dX9_copy_106 : decode cX9_copy 106 = .ok (.aload 6, 2) := by decide +kernel
theorem dX9_copy_108 : decode cX9_copy 108 = .ok (.getfield 231, 3) := by decide +kernel
theorem dX9_copy_111 : decode cX9_copy 111 = .ok (.iload_n 2, 1) := by decide +kernel
theorem dX9_copy_112 : decode cX9_copy 112 = .ok (.aload 7, 2) := by decide +kernel
theorem dX9_copy_114 : decode cX9_copy 114 = .ok (.getfield 231, 3) := by decide +kernel
theorem dX9_copy_117 : decode cX9_copy 117 = .ok (.iload 4, 2) := by decide +kernel
theorem dX9_copy_119 : decode cX9_copy 119 = .ok (.iload 5, 2) := by decide +kernel
theorem dX9_copy_121 : decode cX9_copy 121 = .ok (.invokestatic 242, 3) := by decide +kernel
theorem dX9_copy_124 : decode cX9_copy 124 = .ok (.iload 5, 2) := by decide +kernel
theorem dX9_copy_126 : decode cX9_copy 126 = .ok (.ireturn, 1) := by decide +kernel
theorem dX9_lays_0 : decode cX9_lays 0 = .ok (.iload_n 1, 1) := by decide +kernel
theorem dX9_lays_1 : decode cX9_lays 1 = .ok (.invokestatic 218, 3) := by decide +kernel
theorem dX9_lays_4 : decode cX9_lays 4 = .ok (.ifCond .ne 9, 3) := by decide +kernel
theorem dX9_lays_7 : decode cX9_lays 7 = .ok (.aload_n 0, 1) := by decide +kernel
theorem dX9_lays_8 : decode cX9_lays 8 = .ok (.iconst 0, 1) := by decide +kernel
theorem dX9_lays_9 : decode cX9_lays 9 = .ok (.invokevirtual 68, 3) := by decide +kernel
theorem dX9_lays_12 : decode cX9_lays 12 = .ok (.ireturn, 1) := by decide +kernel
theorem dX9_lays_13 : decode cX9_lays 13 = .ok (.aload_n 0, 1) := by decide +kernel
theorem dX9_lays_14 : decode cX9_lays 14 = .ok (.getfield 52, 3) := by decide +kernel
theorem dX9_lays_17 : decode cX9_lays 17 = .ok (.iload_n 1, 1) := by decide +kernel
theorem dX9_lays_18 : decode cX9_lays 18 = .ok (.aaload, 1) := by decide +kernel
theorem dX9_lays_19 : decode cX9_lays 19 = .ok (.astore_n 2, 1) := by decide +kernel
theorem dX9_lays_20 : decode cX9_lays 20 = .ok (.aload_n 2, 1) := by decide +kernel
theorem dX9_lays_21 : decode cX9_lays 21 = .ok (.invokevirtual 225, 3) := by decide +kernel
theorem dX9_lays_24 : decode cX9_lays 24 = .ok (.ifCond .eq 9, 3) := by decide +kernel
theorem dX9_lays_27 : decode cX9_lays 27 = .ok (.aload_n 0, 1) := by decide +kernel
theorem dX9_lays_28 : decode cX9_lays 28 = .ok (.iconst 5, 1) := by decide +kernel
theorem dX9_lays_29 : decode cX9_lays 29 = .ok (.invokevirtual 68, 3) := by decide +kernel
theorem dX9_lays_32 : decode cX9_lays 32 = .ok (.ireturn, 1) := by decide +kernel
theorem dX9_lays_33 : decode cX9_lays 33 = .ok (.iconst 0, 1) := by decide +kernel
theorem dX9_lays_34 : decode cX9_lays 34 = .ok (.istore_n 3, 1) := by decide +kernel
theorem dX9_lays_35 : decode cX9_lays 35 = .ok (.iconst 0, 1) := by decide +kernel
theorem dX9_lays_36 : decode cX9_lays 36 = .ok (.istore 4, 2) := by decide +kernel
theorem dX9_lays_38 : decode cX9_lays 38 = .ok (.iload 4, 2) := by decide +kernel
theorem dX9_lays_40 : decode cX9_lays 40 = .ok (.bipush 40, 2) := by decide +kernel
theorem dX9_lays_42 : decode cX9_lays 42 = .ok (.if_icmp .ge 60, 3) := by decide +kernel
theorem dX9_lays_45 : decode cX9_lays 45 = .ok (.aload_n 2, 1) := by decide +kernel
theorem dX9_lays_46 : decode cX9_lays 46 = .ok (.iload 4, 2) := by decide +kernel
theorem dX9_lays_48 : decode cX9_lays 48 = .ok (.iconst 1, 1) := by decide +kernel
theorem dX9_lays_49 : decode cX9_lays 49 = .ok (.invokevirtual 228, 3) := by decide +kernel
theorem dX9_lays_52 : decode cX9_lays 52 = .ok (.ifCond .eq 50, 3) := by decide +kernel
theorem dX9_lays_55 : decode cX9_lays 55 = .ok (.aload_n 2, 1) := by decide +kernel
theorem dX9_lays_56 : decode cX9_lays 56 = .ok (.getfield 231, 3) := by decide +kernel
theorem dX9_lays_59 : decode cX9_lays 59 = .ok (.iload 4, 2) := by decide +kernel
theorem dX9_lays_61 : decode cX9_lays 61 = .ok (.laload, 1) := by decide +kernel
theorem dX9_lays_62 : decode cX9_lays 62 = .ok (.lstore 5, 2) := by decide +kernel
theorem dX9_lays_64 : decode cX9_lays 64 = .ok (.lload 5, 2) := by decide +kernel
theorem dX9_lays_66 : decode cX9_lays 66 = .ok (.lconst 1, 1) := by decide +kernel
theorem dX9_lays_67 : decode cX9_lays 67 = .ok (.lcmp, 1) := by decide +kernel
theorem dX9_lays_68 : decode cX9_lays 68 = .ok (.ifCond .lt 28, 3) := by decide +kernel
theorem dX9_lays_71 : decode cX9_lays 71 = .ok (.lload 5, 2) := by decide +kernel
theorem dX9_lays_73 : decode cX9_lays 73 = .ok (.ldc2_w 248, 3) := by decide +kernel
theorem dX9_lays_76 : decode cX9_lays 76 = .ok (.lcmp, 1) := by decide +kernel
theorem dX9_lays_77 : decode cX9_lays 77 = .ok (.ifCond .gt 19, 3) := by decide +kernel
theorem dX9_lays_80 : decode cX9_lays 80 = .ok (.aload_n 0, 1) := by decide +kernel
theorem dX9_lays_81 : decode cX9_lays 81 = .ok (.getfield 32, 3) := by decide +kernel
theorem dX9_lays_84 : decode cX9_lays 84 = .ok (.getfield 72, 3) := by decide +kernel
theorem dX9_lays_87 : decode cX9_lays 87 = .ok (.iload 4, 2) := by decide +kernel
theorem dX9_lays_89 : decode cX9_lays 89 = .ok (.lload 5, 2) := by decide +kernel
theorem dX9_lays_91 : decode cX9_lays 91 = .ok (.l2i, 1) := by decide +kernel
theorem dX9_lays_92 : decode cX9_lays 92 = .ok (.iastore, 1) := by decide +kernel
theorem dX9_lays_93 : decode cX9_lays 93 = .ok (.iinc 3 1, 3) := by decide +kernel
theorem dX9_lays_96 : decode cX9_lays 96 = .ok (.iinc 4 1, 3) := by decide +kernel
theorem dX9_lays_99 : decode cX9_lays 99 = .ok (.goto (-61), 3) := by decide +kernel
theorem dX9_lays_102 : decode cX9_lays 102 = .ok (.iload_n 3, 1) := by decide +kernel
theorem dX9_lays_103 : decode cX9_lays 103 = .ok (.ireturn, 1) := by decide +kernel
theorem dX9_stair_0 : decode cX9_stair 0 = .ok (.iload_n 1, 1) := by decide +kernel
theorem dX9_stair_1 : decode cX9_stair 1 = .ok (.invokestatic 218, 3) := by decide +kernel
theorem dX9_stair_4 : decode cX9_stair 4 = .ok (.ifCond .ne 9, 3) := by decide +kernel
theorem dX9_stair_7 : decode cX9_stair 7 = .ok (.aload_n 0, 1) := by decide +kernel
theorem dX9_stair_8 : decode cX9_stair 8 = .ok (.iconst 0, 1) := by decide +kernel
theorem dX9_stair_9 : decode cX9_stair 9 = .ok (.invokevirtual 68, 3) := by decide +kernel
theorem dX9_stair_12 : decode cX9_stair 12 = .ok (.ireturn, 1) := by decide +kernel
theorem dX9_stair_13 : decode cX9_stair 13 = .ok (.aload_n 0, 1) := by decide +kernel
theorem dX9_stair_14 : decode cX9_stair 14 = .ok (.getfield 52, 3) := by decide +kernel
theorem dX9_stair_17 : decode cX9_stair 17 = .ok (.iload_n 1, 1) := by decide +kernel
theorem dX9_stair_18 : decode cX9_stair 18 = .ok (.aaload, 1) := by decide +kernel
theorem dX9_stair_19 : decode cX9_stair 19 = .ok (.astore_n 3, 1) := by decide +kernel
theorem dX9_stair_20 : decode cX9_stair 20 = .ok (.aload_n 3, 1) := by decide +kernel
theorem dX9_stair_21 : decode cX9_stair 21 = .ok (.invokevirtual 225, 3) := by decide +kernel
theorem dX9_stair_24 : decode cX9_stair 24 = .ok (.ifCond .eq 9, 3) := by decide +kernel
theorem dX9_stair_27 : decode cX9_stair 27 = .ok (.aload_n 0, 1) := by decide +kernel
theorem dX9_stair_28 : decode cX9_stair 28 = .ok (.iconst 5, 1) := by decide +kernel
theorem dX9_stair_29 : decode cX9_stair 29 = .ok (.invokevirtual 68, 3) := by decide +kernel
theorem dX9_stair_32 : decode cX9_stair 32 = .ok (.ireturn, 1) := by decide +kernel
theorem dX9_stair_33 : decode cX9_stair 33 = .ok (.aload_n 0, 1) := by decide +kernel
theorem dX9_stair_34 : decode cX9_stair 34 = .ok (.iload_n 2, 1) := by decide +kernel
theorem dX9_stair_35 : decode cX9_stair 35 = .ok (.iconst 0, 1) := by decide +kernel
theorem dX9_stair_36 : decode cX9_stair 36 = .ok (.sipush 200, 3) := by decide +kernel
theorem dX9_stair_39 : decode cX9_stair 39 = .ok (.invokevirtual 171, 3) := by decide +kernel
theorem dX9_stair_42 : decode cX9_stair 42 = .ok (.istore 4, 2) := by decide +kernel
theorem dX9_stair_44 : decode cX9_stair 44 = .ok (.iload 4, 2) := by decide +kernel
theorem dX9_stair_46 : decode cX9_stair 46 = .ok (.ifCond .eq 6, 3) := by decide +kernel
theorem dX9_stair_49 : decode cX9_stair 49 = .ok (.iload 4, 2) := by decide +kernel
theorem dX9_stair_51 : decode cX9_stair 51 = .ok (.ireturn, 1) := by decide +kernel
theorem dX9_stair_52 : decode cX9_stair 52 = .ok (.aload_n 0, 1) := by decide +kernel
theorem dX9_stair_53 : decode cX9_stair 53 = .ok (.invokevirtual 190, 3) := by decide +kernel
theorem dX9_stair_56 : decode cX9_stair 56 = .ok (.aload_n 0, 1) := by decide +kernel
theorem dX9_stair_57 : decode cX9_stair 57 = .ok (.getfield 36, 3) := by decide +kernel
theorem dX9_stair_60 : decode cX9_stair 60 = .ok (.iload_n 2, 1) := by decide +kernel
theorem dX9_stair_61 : decode cX9_stair 61 = .ok (.invokevirtual 175, 3) := by decide +kernel
theorem dX9_stair_64 : decode cX9_stair 64 = .ok (.iconst 0, 1) := by decide +kernel
theorem dX9_stair_65 : decode cX9_stair 65 = .ok (.istore 5, 2) := by decide +kernel
theorem dX9_stair_67 : decode cX9_stair 67 = .ok (.iconst 0, 1) := by decide +kernel
theorem dX9_stair_68 : decode cX9_stair 68 = .ok (.istore 6, 2) := by decide +kernel
theorem dX9_stair_70 : decode cX9_stair 70 = .ok (.iload 6, 2) := by decide +kernel
theorem dX9_stair_72 : decode cX9_stair 72 = .ok (.bipush 40, 2) := by decide +kernel
theorem dX9_stair_74 : decode cX9_stair 74 = .ok (.if_icmp .ge 55, 3) := by decide +kernel
theorem dX9_stair_77 : decode cX9_stair 77 = .ok (.aload_n 3, 1) := by decide +kernel
theorem dX9_stair_78 : decode cX9_stair 78 = .ok (.iload 6, 2) := by decide +kernel
theorem dX9_stair_80 : decode cX9_stair 80 = .ok (.iconst 1, 1) := by decide +kernel
theorem dX9_stair_81 : decode cX9_stair 81 = .ok (.invokevirtual 228, 3) := by decide +kernel
theorem dX9_stair_84 : decode cX9_stair 84 = .ok (.ifCond .eq 45, 3) := by decide +kernel
theorem dX9_stair_87 : decode cX9_stair 87 = .ok (.aload_n 3, 1) := by decide +kernel
theorem dX9_stair_88 : decode cX9_stair 88 = .ok (.iload 6, 2) := by decide +kernel
theorem dX9_stair_90 : decode cX9_stair 90 = .ok (.aload_n 0, 1) := by decide +kernel
theorem dX9_stair_91 : decode cX9_stair 91 = .ok (.getfield 36, 3) := by decide +kernel
theorem dX9_stair_94 : decode cX9_stair 94 = .ok (.iload 6, 2) := by decide +kernel
theorem dX9_stair_96 : decode cX9_stair 96 = .ok (.invokevirtual 136, 3) := by decide +kernel
theorem dX9_stair_99 : decode cX9_stair 99 = .ok (.ifCond .eq 17, 3) := by decide +kernel
theorem dX9_stair_102 : decode cX9_stair 102 = .ok (.aload_n 0, 1) := by decide +kernel
theorem dX9_stair_103 : decode cX9_stair 103 = .ok (.getfield 36, 3) := by decide +kernel
theorem dX9_stair_106 : decode cX9_stair 106 = .ok (.getfield 139, 3) := by decide +kernel
theorem dX9_stair_109 : decode cX9_stair 109 = .ok (.iload 6, 2) := by decide +kernel
theorem dX9_stair_111 : decode cX9_stair 111 = .ok (.iaload, 1) := by decide +kernel
theorem dX9_stair_112 : decode cX9_stair 112 = .ok (.i2l, 1) := by decide +kernel
theorem dX9_stair_113 : decode cX9_stair 113 = .ok (.goto 4, 3) := by decide +kernel
theorem dX9_stair_116 : decode cX9_stair 116 = .ok (.lconst 0, 1) := by decide +kernel
theorem dX9_stair_117 : decode cX9_stair 117 = .ok (.invokevirtual 235, 3) := by decide +kernel
theorem dX9_stair_120 : decode cX9_stair 120 = .ok (.iinc 5 1, 3) := by decide +kernel
theorem dX9_stair_123 : decode cX9_stair 123 = .ok (.iinc 6 1, 3) := by decide +kernel
theorem dX9_stair_126 : decode cX9_stair 126 = .ok (.goto (-56), 3) := by decide +kernel
theorem dX9_stair_129 : decode cX9_stair 129 = .ok (.iload 5, 2) := by decide +kernel
theorem dX9_stair_131 : decode cX9_stair 131 = .ok (.ireturn, 1) := by decide +kernel
theorem dX9_read_0 : decode cX9_read 0 = .ok (.iload_n 1, 1) := by decide +kernel
theorem dX9_read_1 : decode cX9_read 1 = .ok (.invokestatic 218, 3) := by decide +kernel
theorem dX9_read_4 : decode cX9_read 4 = .ok (.ifCond .ne 9, 3) := by decide +kernel
theorem dX9_read_7 : decode cX9_read 7 = .ok (.aload_n 0, 1) := by decide +kernel
theorem dX9_read_8 : decode cX9_read 8 = .ok (.iconst 0, 1) := by decide +kernel
theorem dX9_read_9 : decode cX9_read 9 = .ok (.invokevirtual 68, 3) := by decide +kernel
theorem dX9_read_12 : decode cX9_read 12 = .ok (.ireturn, 1) := by decide +kernel
theorem dX9_read_13 : decode cX9_read 13 = .ok (.aload_n 0, 1) := by decide +kernel
theorem dX9_read_14 : decode cX9_read 14 = .ok (.getfield 52, 3) := by decide +kernel
theorem dX9_read_17 : decode cX9_read 17 = .ok (.iload_n 1, 1) := by decide +kernel
theorem dX9_read_18 : decode cX9_read 18 = .ok (.aaload, 1) := by decide +kernel
theorem dX9_read_19 : decode cX9_read 19 = .ok (.astore_n 2, 1) := by decide +kernel
theorem dX9_read_20 : decode cX9_read 20 = .ok (.aload_n 2, 1) := by decide +kernel
theorem dX9_read_21 : decode cX9_read 21 = .ok (.invokevirtual 225, 3) := by decide +kernel
theorem dX9_read_24 : decode cX9_read 24 = .ok (.ifCond .eq 9, 3) := by decide +kernel
theorem dX9_read_27 : decode cX9_read 27 = .ok (.aload_n 0, 1) := by decide +kernel
theorem dX9_read_28 : decode cX9_read 28 = .ok (.iconst 5, 1) := by decide +kernel
theorem dX9_read_29 : decode cX9_read 29 = .ok (.invokevirtual 68, 3) := by decide +kernel
theorem dX9_read_32 : decode cX9_read 32 = .ok (.ireturn, 1) := by decide +kernel
theorem dX9_read_33 : decode cX9_read 33 = .ok (.aload_n 0, 1) := by decide +kernel
theorem dX9_read_34 : decode cX9_read 34 = .ok (.bipush 40, 2) := by decide +kernel
theorem dX9_read_36 : decode cX9_read 36 = .ok (.invokevirtual 193, 3) := by decide +kernel
theorem dX9_read_39 : decode cX9_read 39 = .ok (.ifCond .eq 9, 3) := by decide +kernel
theorem dX9_read_42 : decode cX9_read 42 = .ok (.aload_n 0, 1) := by decide +kernel
theorem dX9_read_43 : decode cX9_read 43 = .ok (.iconst 4, 1) := by decide +kernel
theorem dX9_read_44 : decode cX9_read 44 = .ok (.invokevirtual 68, 3) := by decide +kernel
theorem dX9_read_47 : decode cX9_read 47 = .ok (.ireturn, 1) := by decide +kernel
theorem dX9_read_48 : decode cX9_read 48 = .ok (.aload_n 0, 1) := by decide +kernel
theorem dX9_read_49 : decode cX9_read 49 = .ok (.invokevirtual 190, 3) := by decide +kernel
theorem dX9_read_52 : decode cX9_read 52 = .ok (.iconst 0, 1) := by decide +kernel
theorem dX9_read_53 : decode cX9_read 53 = .ok (.istore_n 3, 1) := by decide +kernel
theorem dX9_read_54 : decode cX9_read 54 = .ok (.iload_n 3, 1) := by decide +kernel
theorem dX9_read_55 : decode cX9_read 55 = .ok (.bipush 40, 2) := by decide +kernel
theorem dX9_read_57 : decode cX9_read 57 = .ok (.if_icmp .ge 48, 3) := by decide +kernel
theorem dX9_read_60 : decode cX9_read 60 = .ok (.aload_n 2, 1) := by decide +kernel
theorem dX9_read_61 : decode cX9_read 61 = .ok (.iload_n 3, 1) := by decide +kernel
theorem dX9_read_62 : decode cX9_read 62 = .ok (.iconst 1, 1) := by decide +kernel
theorem dX9_read_63 : decode cX9_read 63 = .ok (.invokevirtual 228, 3) := by decide +kernel
theorem dX9_read_66 : decode cX9_read 66 = .ok (.ifCond .eq 39, 3) := by decide +kernel
theorem dX9_read_69 : decode cX9_read 69 = .ok (.aload_n 2, 1) := by decide +kernel
theorem dX9_read_70 : decode cX9_read 70 = .ok (.getfield 231, 3) := by decide +kernel
theorem dX9_read_73 : decode cX9_read 73 = .ok (.iload_n 3, 1) := by decide +kernel
theorem dX9_read_74 : decode cX9_read 74 = .ok (.laload, 1) := by decide +kernel
theorem dX9_read_75 : decode cX9_read 75 = .ok (.aload_n 0, 1) := by decide +kernel
theorem dX9_read_76 : decode cX9_read 76 = .ok (.getfield 36, 3) := by decide +kernel
theorem dX9_read_79 : decode cX9_read 79 = .ok (.invokevirtual 160, 3) := by decide +kernel
theorem dX9_read_82 : decode cX9_read 82 = .ok (.i2l, 1) := by decide +kernel
theorem dX9_read_83 : decode cX9_read 83 = .ok (.lcmp, 1) := by decide +kernel
theorem dX9_read_84 : decode cX9_read 84 = .ok (.ifCond .eq 7, 3) := by decide +kernel
theorem dX9_read_87 : decode cX9_read 87 = .ok (.iconst 1, 1) := by decide +kernel
theorem dX9_read_88 : decode cX9_read 88 = .ok (.iload_n 3, 1) := by decide +kernel
theorem dX9_read_89 : decode cX9_read 89 = .ok (.iadd, 1) := by decide +kernel
theorem dX9_read_90 : decode cX9_read 90 = .ok (.ireturn, 1) := by decide +kernel
theorem dX9_read_91 : decode cX9_read 91 = .ok (.aload_n 0, 1) := by decide +kernel
theorem dX9_read_92 : decode cX9_read 92 = .ok (.getfield 36, 3) := by decide +kernel
theorem dX9_read_95 : decode cX9_read 95 = .ok (.iconst 1, 1) := by decide +kernel
theorem dX9_read_96 : decode cX9_read 96 = .ok (.invokevirtual 175, 3) := by decide +kernel
theorem dX9_read_99 : decode cX9_read 99 = .ok (.iinc 3 1, 3) := by decide +kernel
theorem dX9_read_102 : decode cX9_read 102 = .ok (.goto (-48), 3) := by decide +kernel
theorem dX9_read_105 : decode cX9_read 105 = .ok (.iconst 0, 1) := by decide +kernel
theorem dX9_read_106 : decode cX9_read 106 = .ok (.ireturn, 1) := by decide +kernel
theorem dX9_image_0 : decode cX9_image 0 = .ok (.aload_n 0, 1) := by decide +kernel
theorem dX9_image_1 : decode cX9_image 1 = .ok (.getfield 39, 3) := by decide +kernel
theorem dX9_image_4 : decode cX9_image 4 = .ok (.aload_n 0, 1) := by decide +kernel
theorem dX9_image_5 : decode cX9_image 5 = .ok (.getfield 32, 3) := by decide +kernel
theorem dX9_image_8 : decode cX9_image 8 = .ok (.invokevirtual 214, 3) := by decide +kernel
theorem dX9_image_11 : decode cX9_image 11 = .ok (.aload_n 0, 1) := by decide +kernel
theorem dX9_image_12 : decode cX9_image 12 = .ok (.iconst 1, 1) := by decide +kernel
theorem dX9_image_13 : decode cX9_image 13 = .ok (.putfield 250, 3) := by decide +kernel
theorem dX9_image_16 : decode cX9_image 16 = .ok (.iconst 1, 1) := by decide +kernel
theorem dX9_image_17 : decode cX9_image 17 = .ok (.ireturn, 1) := by decide +kernel
theorem dX9_undo_0 : decode cX9_undo 0 = .ok (.aload_n 0, 1) := by decide +kernel
theorem dX9_undo_1 : decode cX9_undo 1 = .ok (.getfield 250, 3) := by decide +kernel
theorem dX9_undo_4 : decode cX9_undo 4 = .ok (.ifCond .ne 9, 3) := by decide +kernel
theorem dX9_undo_7 : decode cX9_undo 7 = .ok (.aload_n 0, 1) := by decide +kernel
theorem dX9_undo_8 : decode cX9_undo 8 = .ok (.iconst 3, 1) := by decide +kernel
theorem dX9_undo_9 : decode cX9_undo 9 = .ok (.invokevirtual 68, 3) := by decide +kernel
theorem dX9_undo_12 : decode cX9_undo 12 = .ok (.ireturn, 1) := by decide +kernel
theorem dX9_undo_13 : decode cX9_undo 13 = .ok (.aload_n 0, 1) := by decide +kernel
theorem dX9_undo_14 : decode cX9_undo 14 = .ok (.getfield 32, 3) := by decide +kernel
theorem dX9_undo_17 : decode cX9_undo 17 = .ok (.aload_n 0, 1) := by decide +kernel
theorem dX9_undo_18 : decode cX9_undo 18 = .ok (.getfield 39, 3) := by decide +kernel
theorem dX9_undo_21 : decode cX9_undo 21 = .ok (.invokevirtual 214, 3) := by decide +kernel
theorem dX9_undo_24 : decode cX9_undo 24 = .ok (.aload_n 0, 1) := by decide +kernel
theorem dX9_undo_25 : decode cX9_undo 25 = .ok (.getfield 32, 3) := by decide +kernel
theorem dX9_undo_28 : decode cX9_undo 28 = .ok (.getfield 93, 3) := by decide +kernel
theorem dX9_undo_31 : decode cX9_undo 31 = .ok (.ireturn, 1) := by decide +kernel
theorem dX9_tear_0 : decode cX9_tear 0 = .ok (.aload_n 0, 1) := by decide +kernel
theorem dX9_tear_1 : decode cX9_tear 1 = .ok (.getfield 250, 3) := by decide +kernel
theorem dX9_tear_4 : decode cX9_tear 4 = .ok (.ifCond .eq 7, 3) := by decide +kernel
theorem dX9_tear_7 : decode cX9_tear 7 = .ok (.iconst 1, 1) := by decide +kernel
theorem dX9_tear_8 : decode cX9_tear 8 = .ok (.goto 4, 3) := by decide +kernel
theorem dX9_tear_11 : decode cX9_tear 11 = .ok (.iconst 0, 1) := by decide +kernel
theorem dX9_tear_12 : decode cX9_tear 12 = .ok (.istore_n 1, 1) := by decide +kernel
theorem dX9_tear_13 : decode cX9_tear 13 = .ok (.aload_n 0, 1) := by decide +kernel
theorem dX9_tear_14 : decode cX9_tear 14 = .ok (.iconst 0, 1) := by decide +kernel
theorem dX9_tear_15 : decode cX9_tear 15 = .ok (.putfield 250, 3) := by decide +kernel
theorem dX9_tear_18 : decode cX9_tear 18 = .ok (.iload_n 1, 1) := by decide +kernel
theorem dX9_tear_19 : decode cX9_tear 19 = .ok (.ireturn, 1) := by decide +kernel
theorem dX9_count_0 : decode cX9_count 0 = .ok (.iload_n 1, 1) := by decide +kernel
theorem dX9_count_1 : decode cX9_count 1 = .ok (.tableswitch 63 0 3 #[31, 39, 47, 55], 31) := by decide +kernel
theorem dX9_count_32 : decode cX9_count 32 = .ok (.aload_n 0, 1) := by decide +kernel
theorem dX9_count_33 : decode cX9_count 33 = .ok (.getfield 32, 3) := by decide +kernel
theorem dX9_count_36 : decode cX9_count 36 = .ok (.getfield 93, 3) := by decide +kernel
theorem dX9_count_39 : decode cX9_count 39 = .ok (.ireturn, 1) := by decide +kernel
theorem dX9_count_40 : decode cX9_count 40 = .ok (.aload_n 0, 1) := by decide +kernel
theorem dX9_count_41 : decode cX9_count 41 = .ok (.getfield 45, 3) := by decide +kernel
theorem dX9_count_44 : decode cX9_count 44 = .ok (.getfield 204, 3) := by decide +kernel
theorem dX9_count_47 : decode cX9_count 47 = .ok (.ireturn, 1) := by decide +kernel
theorem dX9_count_48 : decode cX9_count 48 = .ok (.aload_n 0, 1) := by decide +kernel
theorem dX9_count_49 : decode cX9_count 49 = .ok (.getfield 32, 3) := by decide +kernel
theorem dX9_count_52 : decode cX9_count 52 = .ok (.invokevirtual 254, 3) := by decide +kernel
theorem dX9_count_55 : decode cX9_count 55 = .ok (.ireturn, 1) := by decide +kernel
theorem dX9_count_56 : decode cX9_count 56 = .ok (.aload_n 0, 1) := by decide +kernel
theorem dX9_count_57 : decode cX9_count 57 = .ok (.getfield 32, 3) := by decide +kernel
theorem dX9_count_60 : decode cX9_count 60 = .ok (.getfield 181, 3) := by decide +kernel
theorem dX9_count_63 : decode cX9_count 63 = .ok (.ireturn, 1) := by decide +kernel
theorem dX9_count_64 : decode cX9_count 64 = .ok (.aload_n 0, 1) := by decide +kernel
theorem dX9_count_65 : decode cX9_count 65 = .ok (.iconst 0, 1) := by decide +kernel
theorem dX9_count_66 : decode cX9_count 66 = .ok (.invokevirtual 68, 3) := by decide +kernel
theorem dX9_count_69 : decode cX9_count 69 = .ok (.ireturn, 1) := by decide +kernel
theorem dX9_status_0 : decode cX9_status 0 = .ok (.iload_n 1, 1) := by decide +kernel
theorem dX9_status_1 : decode cX9_status 1 = .ok (.iconst (-1), 1) := by decide +kernel
theorem dX9_status_2 : decode cX9_status 2 = .ok (.bipush 6, 2) := by decide +kernel
theorem dX9_status_4 : decode cX9_status 4 = .ok (.invokestatic 64, 3) := by decide +kernel
theorem dX9_status_7 : decode cX9_status 7 = .ok (.ifCond .ne 9, 3) := by decide +kernel
theorem dX9_status_10 : decode cX9_status 10 = .ok (.aload_n 0, 1) := by decide +kernel
theorem dX9_status_11 : decode cX9_status 11 = .ok (.iconst 0, 1) := by decide +kernel
theorem dX9_status_12 : decode cX9_status 12 = .ok (.invokevirtual 68, 3) := by decide +kernel
theorem dX9_status_15 : decode cX9_status 15 = .ok (.ireturn, 1) := by decide +kernel
theorem dX9_status_16 : decode cX9_status 16 = .ok (.iload_n 1, 1) := by decide +kernel
theorem dX9_status_17 : decode cX9_status 17 = .ok (.ifCond .lt 10, 3) := by decide +kernel
theorem dX9_status_20 : decode cX9_status 20 = .ok (.aload_n 0, 1) := by decide +kernel
theorem dX9_status_21 : decode cX9_status 21 = .ok (.getfield 56, 3) := by decide +kernel
theorem dX9_status_24 : decode cX9_status 24 = .ok (.iload_n 1, 1) := by decide +kernel
theorem dX9_status_25 : decode cX9_status 25 = .ok (.iaload, 1) := by decide +kernel
theorem dX9_status_26 : decode cX9_status 26 = .ok (.ireturn, 1) := by decide +kernel
theorem dX9_status_27 : decode cX9_status 27 = .ok (.iconst 0, 1) := by decide +kernel
theorem dX9_status_28 : decode cX9_status 28 = .ok (.istore_n 2, 1) := by decide +kernel
theorem dX9_status_29 : decode cX9_status 29 = .ok (.iconst 0, 1) := by decide +kernel
theorem dX9_status_30 : decode cX9_status 30 = .ok (.istore_n 3, 1) := by decide +kernel
theorem dX9_status_31 : decode cX9_status 31 = .ok (.iload_n 3, 1) := by decide +kernel
theorem dX9_status_32 : decode cX9_status 32 = .ok (.bipush 7, 2) := by decide +kernel
theorem dX9_status_34 : decode cX9_status 34 = .ok (.if_icmp .ge 18, 3) := by decide +kernel
theorem dX9_status_37 : decode cX9_status 37 = .ok (.iload_n 2, 1) := by decide +kernel
theorem dX9_status_38 : decode cX9_status 38 = .ok (.aload_n 0, 1) := by decide +kernel
theorem dX9_status_39 : decode cX9_status 39 = .ok (.getfield 56, 3) := by decide +kernel
theorem dX9_status_42 : decode cX9_status 42 = .ok (.iload_n 3, 1) := by decide +kernel
theorem dX9_status_43 : decode cX9_status 43 = .ok (.iaload, 1) := by decide +kernel
theorem dX9_status_44 : decode cX9_status 44 = .ok (.iadd, 1) := by decide +kernel
theorem dX9_status_45 : decode cX9_status 45 = .ok (.istore_n 2, 1) := by decide +kernel
theorem dX9_status_46 : decode cX9_status 46 = .ok (.iinc 3 1, 3) := by decide +kernel
theorem dX9_status_49 : decode cX9_status 49 = .ok (.goto (-18), 3) := by decide +kernel
theorem dX9_status_52 : decode cX9_status 52 = .ok (.iload_n 2, 1) := by decide +kernel
theorem dX9_status_53 : decode cX9_status 53 = .ok (.ireturn, 1) := by decide +kernel
theorem dX9_found_0 : decode cX9_found 0 = .ok (.iload_n 1, 1) := by decide +kernel
theorem dX9_found_1 : decode cX9_found 1 = .ok (.iconst 0, 1) := by decide +kernel
theorem dX9_found_2 : decode cX9_found 2 = .ok (.bipush 6, 2) := by decide +kernel
theorem dX9_found_4 : decode cX9_found 4 = .ok (.invokestatic 64, 3) := by decide +kernel
theorem dX9_found_7 : decode cX9_found 7 = .ok (.ifCond .eq 13, 3) := by decide +kernel
theorem dX9_found_10 : decode cX9_found 10 = .ok (.aload_n 0, 1) := by decide +kernel
theorem dX9_found_11 : decode cX9_found 11 = .ok (.getfield 56, 3) := by decide +kernel
theorem dX9_found_14 : decode cX9_found 14 = .ok (.iload_n 1, 1) := by decide +kernel
theorem dX9_found_15 : decode cX9_found 15 = .ok (.dup2, 1) := by decide +kernel
theorem dX9_found_16 : decode cX9_found 16 = .ok (.iaload, 1) := by decide +kernel
theorem dX9_found_17 : decode cX9_found 17 = .ok (.iconst 1, 1) := by decide +kernel
theorem dX9_found_18 : decode cX9_found 18 = .ok (.iadd, 1) := by decide +kernel
theorem dX9_found_19 : decode cX9_found 19 = .ok (.iastore, 1) := by decide +kernel
theorem dX9_found_20 : decode cX9_found 20 = .ok (.ldc_w 257, 3) := by decide +kernel
theorem dX9_found_23 : decode cX9_found 23 = .ok (.iload_n 1, 1) := by decide +kernel
theorem dX9_found_24 : decode cX9_found 24 = .ok (.isub, 1) := by decide +kernel
theorem dX9_found_25 : decode cX9_found 25 = .ok (.ireturn, 1) := by decide +kernel
theorem dX9_isTooLateFor_0 : decode cX9_isTooLateFor 0 = .ok (.aload_n 0, 1) := by decide +kernel
theorem dX9_isTooLateFor_1 : decode cX9_isTooLateFor 1 = .ok (.getfield 32, 3) := by decide +kernel
theorem dX9_isTooLateFor_4 : decode cX9_isTooLateFor 4 = .ok (.getfield 184, 3) := by decide +kernel
theorem dX9_isTooLateFor_7 : decode cX9_isTooLateFor 7 = .ok (.iload_n 1, 1) := by decide +kernel
theorem dX9_isTooLateFor_8 : decode cX9_isTooLateFor 8 = .ok (.iadd, 1) := by decide +kernel
theorem dX9_isTooLateFor_9 : decode cX9_isTooLateFor 9 = .ok (.sipush 9999, 3) := by decide +kernel
theorem dX9_isTooLateFor_12 : decode cX9_isTooLateFor 12 = .ok (.if_icmp .le 7, 3) := by decide +kernel
theorem dX9_isTooLateFor_15 : decode cX9_isTooLateFor 15 = .ok (.iconst 1, 1) := by decide +kernel
theorem dX9_isTooLateFor_16 : decode cX9_isTooLateFor 16 = .ok (.goto 4, 3) := by decide +kernel
theorem dX9_isTooLateFor_19 : decode cX9_isTooLateFor 19 = .ok (.iconst 0, 1) := by decide +kernel
theorem dX9_isTooLateFor_20 : decode cX9_isTooLateFor 20 = .ok (.ireturn, 1) := by decide +kernel
theorem dX9_againstYears_0 : decode cX9_againstYears 0 = .ok (.iload_n 1, 1) := by decide +kernel
theorem dX9_againstYears_1 : decode cX9_againstYears 1 = .ok (.iload_n 2, 1) := by decide +kernel
theorem dX9_againstYears_2 : decode cX9_againstYears 2 = .ok (.iload_n 3, 1) := by decide +kernel
theorem dX9_againstYears_3 : decode cX9_againstYears 3 = .ok (.invokestatic 64, 3) := by decide +kernel
theorem dX9_againstYears_6 : decode cX9_againstYears 6 = .ok (.ifCond .ne 9, 3) := by decide +kernel
theorem dX9_againstYears_9 : decode cX9_againstYears 9 = .ok (.aload_n 0, 1) := by decide +kernel
theorem dX9_againstYears_10 : decode cX9_againstYears 10 = .ok (.iconst 0, 1) := by decide +kernel
theorem dX9_againstYears_11 : decode cX9_againstYears 11 = .ok (.invokevirtual 68, 3) := by decide +kernel
theorem dX9_againstYears_14 : decode cX9_againstYears 14 = .ok (.ireturn, 1) := by decide +kernel
theorem dX9_againstYears_15 : decode cX9_againstYears 15 = .ok (.aload_n 0, 1) := by decide +kernel
theorem dX9_againstYears_16 : decode cX9_againstYears 16 = .ok (.iload_n 1, 1) := by decide +kernel
theorem dX9_againstYears_17 : decode cX9_againstYears 17 = .ok (.invokevirtual 193, 3) := by decide +kernel
theorem dX9_againstYears_20 : decode cX9_againstYears 20 = .ok (.ifCond .eq 11, 3) := by decide +kernel
theorem dX9_againstYears_23 : decode cX9_againstYears 23 = .ok (.aload_n 0, 1) := by decide +kernel
theorem dX9_againstYears_24 : decode cX9_againstYears 24 = .ok (.iconst 4, 1) := by decide +kernel
theorem dX9_againstYears_25 : decode cX9_againstYears 25 = .ok (.invokevirtual 68, 3) := by decide +kernel
theorem dX9_againstYears_28 : decode cX9_againstYears 28 = .ok (.goto 4, 3) := by decide +kernel
theorem dX9_againstYears_31 : decode cX9_againstYears 31 = .ok (.iconst 0, 1) := by decide +kernel
theorem dX9_againstYears_32 : decode cX9_againstYears 32 = .ok (.ireturn, 1) := by decide +kernel
theorem dX9_startTrial_0 : decode cX9_startTrial 0 = .ok (.aload_n 0, 1) := by decide +kernel
theorem dX9_startTrial_1 : decode cX9_startTrial 1 = .ok (.getfield 36, 3) := by decide +kernel
theorem dX9_startTrial_4 : decode cX9_startTrial 4 = .ok (.aload_n 0, 1) := by decide +kernel
theorem dX9_startTrial_5 : decode cX9_startTrial 5 = .ok (.getfield 32, 3) := by decide +kernel
theorem dX9_startTrial_8 : decode cX9_startTrial 8 = .ok (.invokevirtual 214, 3) := by decide +kernel
theorem dX9_startTrial_11 : decode cX9_startTrial 11 = .ok (.return_, 1) := by decide +kernel
theorem dX9_isWithin_0 : decode cX9_isWithin 0 = .ok (.iload_n 0, 1) := by decide +kernel
theorem dX9_isWithin_1 : decode cX9_isWithin 1 = .ok (.iload_n 1, 1) := by decide +kernel
theorem dX9_isWithin_2 : decode cX9_isWithin 2 = .ok (.if_icmp .lt 12, 3) := by decide +kernel
theorem dX9_isWithin_5 : decode cX9_isWithin 5 = .ok (.iload_n 0, 1) := by decide +kernel
theorem dX9_isWithin_6 : decode cX9_isWithin 6 = .ok (.iload_n 2, 1) := by decide +kernel
theorem dX9_isWithin_7 : decode cX9_isWithin 7 = .ok (.if_icmp .gt 7, 3) := by decide +kernel
theorem dX9_isWithin_10 : decode cX9_isWithin 10 = .ok (.iconst 1, 1) := by decide +kernel
theorem dX9_isWithin_11 : decode cX9_isWithin 11 = .ok (.goto 4, 3) := by decide +kernel
theorem dX9_isWithin_14 : decode cX9_isWithin 14 = .ok (.iconst 0, 1) := by decide +kernel
theorem dX9_isWithin_15 : decode cX9_isWithin 15 = .ok (.ireturn, 1) := by decide +kernel
theorem dX9_isPlace_0 : decode cX9_isPlace 0 = .ok (.iload_n 0, 1) := by decide +kernel
theorem dX9_isPlace_1 : decode cX9_isPlace 1 = .ok (.ifCond .lt 13, 3) := by decide +kernel
theorem dX9_isPlace_4 : decode cX9_isPlace 4 = .ok (.iload_n 0, 1) := by decide +kernel
theorem dX9_isPlace_5 : decode cX9_isPlace 5 = .ok (.bipush 40, 2) := by decide +kernel
theorem dX9_isPlace_7 : decode cX9_isPlace 7 = .ok (.if_icmp .ge 7, 3) := by decide +kernel
theorem dX9_isPlace_10 : decode cX9_isPlace 10 = .ok (.iconst 1, 1) := by decide +kernel
theorem dX9_isPlace_11 : decode cX9_isPlace 11 = .ok (.goto 4, 3) := by decide +kernel
theorem dX9_isPlace_14 : decode cX9_isPlace 14 = .ok (.iconst 0, 1) := by decide +kernel
theorem dX9_isPlace_15 : decode cX9_isPlace 15 = .ok (.ireturn, 1) := by decide +kernel
theorem dX9_isKind_0 : decode cX9_isKind 0 = .ok (.iload_n 0, 1) := by decide +kernel
theorem dX9_isKind_1 : decode cX9_isKind 1 = .ok (.ifCond .lt 13, 3) := by decide +kernel
theorem dX9_isKind_4 : decode cX9_isKind 4 = .ok (.iload_n 0, 1) := by decide +kernel
theorem dX9_isKind_5 : decode cX9_isKind 5 = .ok (.bipush 6, 2) := by decide +kernel
theorem dX9_isKind_7 : decode cX9_isKind 7 = .ok (.if_icmp .ge 7, 3) := by decide +kernel
theorem dX9_isKind_10 : decode cX9_isKind 10 = .ok (.iconst 1, 1) := by decide +kernel
theorem dX9_isKind_11 : decode cX9_isKind 11 = .ok (.goto 4, 3) := by decide +kernel
theorem dX9_isKind_14 : decode cX9_isKind 14 = .ok (.iconst 0, 1) := by decide +kernel
theorem dX9_isKind_15 : decode cX9_isKind 15 = .ok (.ireturn, 1) := by decide +kernel
theorem dX9_isSheet_0 : decode cX9_isSheet 0 = .ok (.iload_n 0, 1) := by decide +kernel
theorem dX9_isSheet_1 : decode cX9_isSheet 1 = .ok (.ifCond .lt 12, 3) := by decide +kernel
theorem dX9_isSheet_4 : decode cX9_isSheet 4 = .ok (.iload_n 0, 1) := by decide +kernel
theorem dX9_isSheet_5 : decode cX9_isSheet 5 = .ok (.iconst 4, 1) := by decide +kernel
theorem dX9_isSheet_6 : decode cX9_isSheet 6 = .ok (.if_icmp .ge 7, 3) := by decide +kernel
theorem dX9_isSheet_9 : decode cX9_isSheet 9 = .ok (.iconst 1, 1) := by decide +kernel
theorem dX9_isSheet_10 : decode cX9_isSheet 10 = .ok (.goto 4, 3) := by decide +kernel
theorem dX9_isSheet_13 : decode cX9_isSheet 13 = .ok (.iconst 0, 1) := by decide +kernel
theorem dX9_isSheet_14 : decode cX9_isSheet 14 = .ok (.ireturn, 1) := by decide +kernel
theorem dX9_isOfKind_0 : decode cX9_isOfKind 0 = .ok (.iload_n 1, 1) := by decide +kernel
theorem dX9_isOfKind_1 : decode cX9_isOfKind 1 = .ok (.tableswitch 66 0 5 #[39, 41, 46, 51, 56, 61], 39) := by decide +kernel
theorem dX9_isOfKind_40 : decode cX9_isOfKind 40 = .ok (.iconst 1, 1) := by decide +kernel
theorem dX9_isOfKind_41 : decode cX9_isOfKind 41 = .ok (.ireturn, 1) := by decide +kernel
theorem dX9_isOfKind_42 : decode cX9_isOfKind 42 = .ok (.aload_n 0, 1) := by decide +kernel
theorem dX9_isOfKind_43 : decode cX9_isOfKind 43 = .ok (.instanceof 12, 3) := by decide +kernel
theorem dX9_isOfKind_46 : decode cX9_isOfKind 46 = .ok (.ireturn, 1) := by decide +kernel
theorem dX9_isOfKind_47 : decode cX9_isOfKind 47 = .ok (.aload_n 0, 1) := by decide +kernel
theorem dX9_isOfKind_48 : decode cX9_isOfKind 48 = .ok (.instanceof 15, 3) := by decide +kernel
theorem dX9_isOfKind_51 : decode cX9_isOfKind 51 = .ok (.ireturn, 1) := by decide +kernel
theorem dX9_isOfKind_52 : decode cX9_isOfKind 52 = .ok (.aload_n 0, 1) := by decide +kernel
theorem dX9_isOfKind_53 : decode cX9_isOfKind 53 = .ok (.instanceof 18, 3) := by decide +kernel
theorem dX9_isOfKind_56 : decode cX9_isOfKind 56 = .ok (.ireturn, 1) := by decide +kernel
theorem dX9_isOfKind_57 : decode cX9_isOfKind 57 = .ok (.aload_n 0, 1) := by decide +kernel
theorem dX9_isOfKind_58 : decode cX9_isOfKind 58 = .ok (.instanceof 21, 3) := by decide +kernel
theorem dX9_isOfKind_61 : decode cX9_isOfKind 61 = .ok (.ireturn, 1) := by decide +kernel
theorem dX9_isOfKind_62 : decode cX9_isOfKind 62 = .ok (.aload_n 0, 1) := by decide +kernel
theorem dX9_isOfKind_63 : decode cX9_isOfKind 63 = .ok (.instanceof 24, 3) := by decide +kernel
theorem dX9_isOfKind_66 : decode cX9_isOfKind 66 = .ok (.ireturn, 1) := by decide +kernel
theorem dX9_isOfKind_67 : decode cX9_isOfKind 67 = .ok (.iconst 0, 1) := by decide +kernel
theorem dX9_isOfKind_68 : decode cX9_isOfKind 68 = .ok (.ireturn, 1) := by decide +kernel
theorem dX10_init_0 : decode cX10_init 0 = .ok (.aload_n 0, 1) := by decide +kernel
theorem dX10_init_1 : decode cX10_init 1 = .ok (.invokespecial 1, 3) := by decide +kernel
theorem dX10_init_4 : decode cX10_init 4 = .ok (.aload_n 0, 1) := by decide +kernel
theorem dX10_init_5 : decode cX10_init 5 = .ok (.sipush 510, 3) := by decide +kernel
theorem dX10_init_8 : decode cX10_init 8 = .ok (.newarray .int, 2) := by decide +kernel
theorem dX10_init_10 : decode cX10_init 10 = .ok (.putfield 7, 3) := by decide +kernel
theorem dX10_init_13 : decode cX10_init 13 = .ok (.aload_n 0, 1) := by decide +kernel
theorem dX10_init_14 : decode cX10_init 14 = .ok (.bipush 7, 2) := by decide +kernel
theorem dX10_init_16 : decode cX10_init 16 = .ok (.newarray .int, 2) := by decide +kernel
theorem dX10_init_18 : decode cX10_init 18 = .ok (.putfield 13, 3) := by decide +kernel
theorem dX10_init_21 : decode cX10_init 21 = .ok (.aload_n 0, 1) := by decide +kernel
theorem dX10_init_22 : decode cX10_init 22 = .ok (.bipush 120, 2) := by decide +kernel
theorem dX10_init_24 : decode cX10_init 24 = .ok (.newarray .int, 2) := by decide +kernel
theorem dX10_init_26 : decode cX10_init 26 = .ok (.putfield 16, 3) := by decide +kernel
theorem dX10_init_29 : decode cX10_init 29 = .ok (.aload_n 0, 1) := by decide +kernel
theorem dX10_init_30 : decode cX10_init 30 = .ok (.iconst 4, 1) := by decide +kernel
theorem dX10_init_31 : decode cX10_init 31 = .ok (.newarray .int, 2) := by decide +kernel
theorem dX10_init_33 : decode cX10_init 33 = .ok (.putfield 19, 3) := by decide +kernel
theorem dX10_init_36 : decode cX10_init 36 = .ok (.aload_n 0, 1) := by decide +kernel
theorem dX10_init_37 : decode cX10_init 37 = .ok (.iconst 4, 1) := by decide +kernel
theorem dX10_init_38 : decode cX10_init 38 = .ok (.newarray .int, 2) := by decide +kernel
theorem dX10_init_40 : decode cX10_init 40 = .ok (.putfield 22, 3) := by decide +kernel
theorem dX10_init_43 : decode cX10_init 43 = .ok (.aload_n 0, 1) := by decide +kernel
theorem dX10_init_44 : decode cX10_init 44 = .ok (.sipush 160, 3) := by decide +kernel
theorem dX10_init_47 : decode cX10_init 47 = .ok (.newarray .long, 2) := by decide +kernel
theorem dX10_init_49 : decode cX10_init 49 = .ok (.putfield 25, 3) := by decide +kernel
theorem dX10_init_52 : decode cX10_init 52 = .ok (.aload_n 0, 1) := by decide +kernel
theorem dX10_init_53 : decode cX10_init 53 = .ok (.bipush 40, 2) := by decide +kernel
theorem dX10_init_55 : decode cX10_init 55 = .ok (.newarray .long, 2) := by decide +kernel
theorem dX10_init_57 : decode cX10_init 57 = .ok (.putfield 29, 3) := by decide +kernel
theorem dX10_init_60 : decode cX10_init 60 = .ok (.aload_n 0, 1) := by decide +kernel
theorem dX10_init_61 : decode cX10_init 61 = .ok (.sipush 255, 3) := by decide +kernel
theorem dX10_init_64 : decode cX10_init 64 = .ok (.newarray .int, 2) := by decide +kernel
theorem dX10_init_66 : decode cX10_init 66 = .ok (.putfield 32, 3) := by decide +kernel
theorem dX10_init_69 : decode cX10_init 69 = .ok (.aload_n 0, 1) := by decide +kernel
theorem dX10_init_70 : decode cX10_init 70 = .ok (.sipush 255, 3) := by decide +kernel
theorem dX10_init_73 : decode cX10_init 73 = .ok (.newarray .int, 2) := by decide +kernel
theorem dX10_init_75 : decode cX10_init 75 = .ok (.putfield 35, 3) := by decide +kernel
theorem dX10_init_78 : decode cX10_init 78 = .ok (.aload_n 0, 1) := by decide +kernel
theorem dX10_init_79 : decode cX10_init 79 = .ok (.getfield 7, 3) := by decide +kernel
theorem dX10_init_82 : decode cX10_init 82 = .ok (.iconst 2, 1) := by decide +kernel
theorem dX10_init_83 : decode cX10_init 83 = .ok (.iconst 4, 1) := by decide +kernel
theorem dX10_init_84 : decode cX10_init 84 = .ok (.iastore, 1) := by decide +kernel
theorem dX10_init_85 : decode cX10_init 85 = .ok (.aload_n 0, 1) := by decide +kernel
theorem dX10_init_86 : decode cX10_init 86 = .ok (.getfield 7, 3) := by decide +kernel
theorem dX10_init_89 : decode cX10_init 89 = .ok (.iconst 3, 1) := by decide +kernel
theorem dX10_init_90 : decode cX10_init 90 = .ok (.iconst 1, 1) := by decide +kernel
theorem dX10_init_91 : decode cX10_init 91 = .ok (.iastore, 1) := by decide +kernel
theorem dX10_init_92 : decode cX10_init 92 = .ok (.iconst 0, 1) := by decide +kernel
theorem dX10_init_93 : decode cX10_init 93 = .ok (.istore_n 1, 1) := by decide +kernel
theorem dX10_init_94 : decode cX10_init 94 = .ok (.iload_n 1, 1) := by decide +kernel
theorem dX10_init_95 : decode cX10_init 95 = .ok (.bipush 40, 2) := by decide +kernel
theorem dX10_init_97 : decode cX10_init 97 = .ok (.if_icmp .ge 18, 3) := by decide +kernel
theorem dX10_init_100 : decode cX10_init 100 = .ok (.aload_n 0, 1) := by decide +kernel
theorem dX10_init_101 : decode cX10_init 101 = .ok (.getfield 7, 3) := by decide +kernel
theorem dX10_init_104 : decode cX10_init 104 = .ok (.iconst 5, 1) := by decide +kernel
theorem dX10_init_105 : decode cX10_init 105 = .ok (.iload_n 1, 1) := by decide +kernel
theorem dX10_init_106 : decode cX10_init 106 = .ok (.iadd, 1) := by decide +kernel
theorem dX10_init_107 : decode cX10_init 107 = .ok (.iconst 3, 1) := by decide +kernel
theorem dX10_init_108 : decode cX10_init 108 = .ok (.iastore, 1) := by decide +kernel
theorem dX10_init_109 : decode cX10_init 109 = .ok (.iinc 1 1, 3) := by decide +kernel
theorem dX10_init_112 : decode cX10_init 112 = .ok (.goto (-18), 3) := by decide +kernel
theorem dX10_init_115 : decode cX10_init 115 = .ok (.return_, 1) := by decide +kernel
theorem dX10_in_0 : decode cX10_in 0 = .ok (.iload_n 0, 1) := by decide +kernel
theorem dX10_in_1 : decode cX10_in 1 = .ok (.iload_n 1, 1) := by decide +kernel
theorem dX10_in_2 : decode cX10_in 2 = .ok (.if_icmp .lt 12, 3) := by decide +kernel
theorem dX10_in_5 : decode cX10_in 5 = .ok (.iload_n 0, 1) := by decide +kernel
theorem dX10_in_6 : decode cX10_in 6 = .ok (.iload_n 2, 1) := by decide +kernel
theorem dX10_in_7 : decode cX10_in 7 = .ok (.if_icmp .gt 7, 3) := by decide +kernel
theorem dX10_in_10 : decode cX10_in 10 = .ok (.iconst 1, 1) := by decide +kernel
theorem dX10_in_11 : decode cX10_in 11 = .ok (.goto 4, 3) := by decide +kernel
theorem dX10_in_14 : decode cX10_in 14 = .ok (.iconst 0, 1) := by decide +kernel
theorem dX10_in_15 : decode cX10_in 15 = .ok (.ireturn, 1) := by decide +kernel
theorem dX10_finds_0 : decode cX10_finds 0 = .ok (.aload_n 0, 1) := by decide +kernel
theorem dX10_finds_1 : decode cX10_finds 1 = .ok (.getfield 13, 3) := by decide +kernel
theorem dX10_finds_4 : decode cX10_finds 4 = .ok (.ldc 38, 2) := by decide +kernel
theorem dX10_finds_6 : decode cX10_finds 6 = .ok (.iload_n 1, 1) := by decide +kernel
theorem dX10_finds_7 : decode cX10_finds 7 = .ok (.isub, 1) := by decide +kernel
theorem dX10_finds_8 : decode cX10_finds 8 = .ok (.dup2, 1) := by decide +kernel
theorem dX10_finds_9 : decode cX10_finds 9 = .ok (.iaload, 1) := by decide +kernel
theorem dX10_finds_10 : decode cX10_finds 10 = .ok (.iconst 1, 1) := by decide +kernel
theorem dX10_finds_11 : decode cX10_finds 11 = .ok (.iadd, 1) := by decide +kernel
theorem dX10_finds_12 : decode cX10_finds 12 = .ok (.iastore, 1) := by decide +kernel
theorem dX10_finds_13 : decode cX10_finds 13 = .ok (.iload_n 1, 1) := by decide +kernel
theorem dX10_finds_14 : decode cX10_finds 14 = .ok (.ireturn, 1) := by decide +kernel
theorem dX10_its_0 : decode cX10_its 0 = .ok (.aload_n 0, 1) := by decide +kernel
theorem dX10_its_1 : decode cX10_its 1 = .ok (.getfield 7, 3) := by decide +kernel
theorem dX10_its_4 : decode cX10_its 4 = .ok (.aload_n 0, 1) := by decide +kernel
theorem dX10_its_5 : decode cX10_its 5 = .ok (.getfield 39, 3) := by decide +kernel
theorem dX10_its_8 : decode cX10_its 8 = .ok (.iload_n 1, 1) := by decide +kernel
theorem dX10_its_9 : decode cX10_its 9 = .ok (.iadd, 1) := by decide +kernel
theorem dX10_its_10 : decode cX10_its 10 = .ok (.iaload, 1) := by decide +kernel
theorem dX10_its_11 : decode cX10_its 11 = .ok (.ireturn, 1) := by decide +kernel
theorem dX10_fineOf_0 : decode cX10_fineOf 0 = .ok (.aload_n 0, 1) := by decide +kernel
theorem dX10_fineOf_1 : decode cX10_fineOf 1 = .ok (.getfield 7, 3) := by decide +kernel
theorem dX10_fineOf_4 : decode cX10_fineOf 4 = .ok (.aload_n 0, 1) := by decide +kernel
theorem dX10_fineOf_5 : decode cX10_fineOf 5 = .ok (.getfield 39, 3) := by decide +kernel
theorem dX10_fineOf_8 : decode cX10_fineOf 8 = .ok (.sipush 205, 3) := by decide +kernel
theorem dX10_fineOf_11 : decode cX10_fineOf 11 = .ok (.iadd, 1) := by decide +kernel
theorem dX10_fineOf_12 : decode cX10_fineOf 12 = .ok (.iconst 5, 1) := by decide +kernel
theorem dX10_fineOf_13 : decode cX10_fineOf 13 = .ok (.iload_n 1, 1) := by decide +kernel
theorem dX10_fineOf_14 : decode cX10_fineOf 14 = .ok (.imul, 1) := by decide +kernel
theorem dX10_fineOf_15 : decode cX10_fineOf 15 = .ok (.iadd, 1) := by decide +kernel
theorem dX10_fineOf_16 : decode cX10_fineOf 16 = .ok (.iload_n 2, 1) := by decide +kernel
theorem dX10_fineOf_17 : decode cX10_fineOf 17 = .ok (.iadd, 1) := by decide +kernel
theorem dX10_fineOf_18 : decode cX10_fineOf 18 = .ok (.iaload, 1) := by decide +kernel
theorem dX10_fineOf_19 : decode cX10_fineOf 19 = .ok (.ireturn, 1) := by decide +kernel
theorem dX10_sets_0 : decode cX10_sets 0 = .ok (.aload_n 0, 1) := by decide +kernel
theorem dX10_sets_1 : decode cX10_sets 1 = .ok (.getfield 7, 3) := by decide +kernel
theorem dX10_sets_4 : decode cX10_sets 4 = .ok (.aload_n 0, 1) := by decide +kernel
theorem dX10_sets_5 : decode cX10_sets 5 = .ok (.getfield 39, 3) := by decide +kernel
theorem dX10_sets_8 : decode cX10_sets 8 = .ok (.sipush 205, 3) := by decide +kernel
theorem dX10_sets_11 : decode cX10_sets 11 = .ok (.iadd, 1) := by decide +kernel
theorem dX10_sets_12 : decode cX10_sets 12 = .ok (.iconst 5, 1) := by decide +kernel
theorem dX10_sets_13 : decode cX10_sets 13 = .ok (.iload_n 1, 1) := by decide +kernel
theorem dX10_sets_14 : decode cX10_sets 14 = .ok (.imul, 1) := by decide +kernel
theorem dX10_sets_15 : decode cX10_sets 15 = .ok (.iadd, 1) := by decide +kernel
theorem dX10_sets_16 : decode cX10_sets 16 = .ok (.iload_n 2, 1) := by decide +kernel
theorem dX10_sets_17 : decode cX10_sets 17 = .ok (.iadd, 1) := by decide +kernel
theorem dX10_sets_18 : decode cX10_sets 18 = .ok (.iload_n 3, 1) := by decide +kernel
theorem dX10_sets_19 : decode cX10_sets 19 = .ok (.iastore, 1) := by decide +kernel
theorem dX10_sets_20 : decode cX10_sets 20 = .ok (.return_, 1) := by decide +kernel
theorem dX10_isFine_0 : decode cX10_isFine 0 = .ok (.iload_n 1, 1) := by decide +kernel
theorem dX10_isFine_1 : decode cX10_isFine 1 = .ok (.iconst 0, 1) := by decide +kernel
theorem dX10_isFine_2 : decode cX10_isFine 2 = .ok (.aload_n 0, 1) := by decide +kernel
theorem dX10_isFine_3 : decode cX10_isFine 3 = .ok (.iconst 4, 1) := by decide +kernel
theorem dX10_isFine_4 : decode cX10_isFine 4 = .ok (.invokevirtual 43, 3) := by decide +kernel
theorem dX10_isFine_7 : decode cX10_isFine 7 = .ok (.iconst 1, 1) := by decide +kernel
theorem dX10_isFine_8 : decode cX10_isFine 8 = .ok (.isub, 1) := by decide +kernel
theorem dX10_isFine_9 : decode cX10_isFine 9 = .ok (.invokestatic 47, 3) := by decide +kernel
theorem dX10_isFine_12 : decode cX10_isFine 12 = .ok (.ireturn, 1) := by decide +kernel
theorem dX10_isPlace_0 : decode cX10_isPlace 0 = .ok (.iload_n 0, 1) := by decide +kernel
theorem dX10_isPlace_1 : decode cX10_isPlace 1 = .ok (.iconst 0, 1) := by decide +kernel
theorem dX10_isPlace_2 : decode cX10_isPlace 2 = .ok (.bipush 39, 2) := by decide +kernel
theorem dX10_isPlace_4 : decode cX10_isPlace 4 = .ok (.invokestatic 47, 3) := by decide +kernel
theorem dX10_isPlace_7 : decode cX10_isPlace 7 = .ok (.ireturn, 1) := by decide +kernel
theorem dX10_isKind_0 : decode cX10_isKind 0 = .ok (.iload_n 0, 1) := by decide +kernel
theorem dX10_isKind_1 : decode cX10_isKind 1 = .ok (.iconst 0, 1) := by decide +kernel
theorem dX10_isKind_2 : decode cX10_isKind 2 = .ok (.iconst 5, 1) := by decide +kernel
theorem dX10_isKind_3 : decode cX10_isKind 3 = .ok (.invokestatic 47, 3) := by decide +kernel
theorem dX10_isKind_6 : decode cX10_isKind 6 = .ok (.ireturn, 1) := by decide +kernel
theorem dX10_isWhole_0 : decode cX10_isWhole 0 = .ok (.aload_n 0, 1) := by decide +kernel
theorem dX10_isWhole_1 : decode cX10_isWhole 1 = .ok (.bipush 45, 2) := by decide +kernel
theorem dX10_isWhole_3 : decode cX10_isWhole 3 = .ok (.iload_n 1, 1) := by decide +kernel
theorem dX10_isWhole_4 : decode cX10_isWhole 4 = .ok (.iadd, 1) := by decide +kernel
theorem dX10_isWhole_5 : decode cX10_isWhole 5 = .ok (.invokevirtual 43, 3) := by decide +kernel
theorem dX10_isWhole_8 : decode cX10_isWhole 8 = .ok (.iconst 1, 1) := by decide +kernel
theorem dX10_isWhole_9 : decode cX10_isWhole 9 = .ok (.if_icmp .ne 7, 3) := by decide +kernel
theorem dX10_isWhole_12 : decode cX10_isWhole 12 = .ok (.iconst 1, 1) := by decide +kernel
theorem dX10_isWhole_13 : decode cX10_isWhole 13 = .ok (.goto 4, 3) := by decide +kernel
theorem dX10_isWhole_16 : decode cX10_isWhole 16 = .ok (.iconst 0, 1) := by decide +kernel
theorem dX10_isWhole_17 : decode cX10_isWhole 17 = .ok (.ireturn, 1) := by decide +kernel
theorem dX10_wholes_0 : decode cX10_wholes 0 = .ok (.iconst 0, 1) := by decide +kernel
theorem dX10_wholes_1 : decode cX10_wholes 1 = .ok (.istore_n 1, 1) := by decide +kernel
theorem dX10_wholes_2 : decode cX10_wholes 2 = .ok (.iconst 0, 1) := by decide +kernel
theorem dX10_wholes_3 : decode cX10_wholes 3 = .ok (.istore_n 2, 1) := by decide +kernel
theorem dX10_wholes_4 : decode cX10_wholes 4 = .ok (.iload_n 2, 1) := by decide +kernel
theorem dX10_wholes_5 : decode cX10_wholes 5 = .ok (.bipush 40, 2) := by decide +kernel
theorem dX10_wholes_7 : decode cX10_wholes 7 = .ok (.if_icmp .ge 20, 3) := by decide +kernel
theorem dX10_wholes_10 : decode cX10_wholes 10 = .ok (.iload_n 1, 1) := by decide +kernel
theorem dX10_wholes_11 : decode cX10_wholes 11 = .ok (.aload_n 0, 1) := by decide +kernel
theorem dX10_wholes_12 : decode cX10_wholes 12 = .ok (.bipush 45, 2) := by decide +kernel
theorem dX10_wholes_14 : decode cX10_wholes 14 = .ok (.iload_n 2, 1) := by decide +kernel
theorem dX10_wholes_15 : decode cX10_wholes 15 = .ok (.iadd, 1) := by decide +kernel
theorem dX10_wholes_16 : decode cX10_wholes 16 = .ok (.invokevirtual 43, 3) := by decide +kernel
theorem dX10_wholes_19 : decode cX10_wholes 19 = .ok (.iadd, 1) := by decide +kernel
theorem dX10_wholes_20 : decode cX10_wholes 20 = .ok (.istore_n 1, 1) := by decide +kernel
theorem dX10_wholes_21 : decode cX10_wholes 21 = .ok (.iinc 2 1, 3) := by decide +kernel
theorem dX10_wholes_24 : decode cX10_wholes 24 = .ok (.goto (-20), 3) := by decide +kernel
theorem dX10_wholes_27 : decode cX10_wholes 27 = .ok (.iload_n 1, 1) := by decide +kernel
theorem dX10_wholes_28 : decode cX10_wholes 28 = .ok (.ireturn, 1) := by decide +kernel
theorem dX10_works_0 : decode cX10_works 0 = .ok (.aload_n 0, 1) := by decide +kernel
theorem dX10_works_1 : decode cX10_works 1 = .ok (.iload_n 1, 1) := by decide +kernel
theorem dX10_works_2 : decode cX10_works 2 = .ok (.iconst 3, 1) := by decide +kernel
theorem dX10_works_3 : decode cX10_works 3 = .ok (.invokevirtual 51, 3) := by decide +kernel
theorem dX10_works_6 : decode cX10_works 6 = .ok (.istore_n 2, 1) := by decide +kernel
theorem dX10_works_7 : decode cX10_works 7 = .ok (.aload_n 0, 1) := by decide +kernel
theorem dX10_works_8 : decode cX10_works 8 = .ok (.iload_n 1, 1) := by decide +kernel
theorem dX10_works_9 : decode cX10_works 9 = .ok (.iconst 0, 1) := by decide +kernel
theorem dX10_works_10 : decode cX10_works 10 = .ok (.invokevirtual 51, 3) := by decide +kernel
theorem dX10_works_13 : decode cX10_works 13 = .ok (.tableswitch 62 1 5 #[35, 62, 39, 43, 49], 35) := by decide +kernel
theorem dX10_works_48 : decode cX10_works 48 = .ok (.iconst 2, 1) := by decide +kernel
theorem dX10_works_49 : decode cX10_works 49 = .ok (.iload_n 2, 1) := by decide +kernel
theorem dX10_works_50 : decode cX10_works 50 = .ok (.imul, 1) := by decide +kernel
theorem dX10_works_51 : decode cX10_works 51 = .ok (.ireturn, 1) := by decide +kernel
theorem dX10_works_52 : decode cX10_works 52 = .ok (.iload_n 2, 1) := by decide +kernel
theorem dX10_works_53 : decode cX10_works 53 = .ok (.iconst 2, 1) := by decide +kernel
theorem dX10_works_54 : decode cX10_works 54 = .ok (.iadd, 1) := by decide +kernel
theorem dX10_works_55 : decode cX10_works 55 = .ok (.ireturn, 1) := by decide +kernel
theorem dX10_works_56 : decode cX10_works 56 = .ok (.iload_n 2, 1) := by decide +kernel
theorem dX10_works_57 : decode cX10_works 57 = .ok (.iconst 2, 1) := by decide +kernel
theorem dX10_works_58 : decode cX10_works 58 = .ok (.iadd, 1) := by decide +kernel
theorem dX10_works_59 : decode cX10_works 59 = .ok (.iconst 2, 1) := by decide +kernel
theorem dX10_works_60 : decode cX10_works 60 = .ok (.idiv, 1) := by decide +kernel
theorem dX10_works_61 : decode cX10_works 61 = .ok (.ireturn, 1) := by decide +kernel
theorem dX10_works_62 : decode cX10_works 62 = .ok (.iload_n 2, 1) := by decide +kernel
theorem dX10_works_63 : decode cX10_works 63 = .ok (.bipush 40, 2) := by decide +kernel
theorem dX10_works_65 : decode cX10_works 65 = .ok (.aload_n 0, 1) := by decide +kernel
theorem dX10_works_66 : decode cX10_works 66 = .ok (.invokevirtual 55, 3) := by decide +kernel
theorem dX10_works_69 : decode cX10_works 69 = .ok (.isub, 1) := by decide +kernel
theorem dX10_works_70 : decode cX10_works 70 = .ok (.bipush 10, 2) := by decide +kernel
theorem dX10_works_72 : decode cX10_works 72 = .ok (.idiv, 1) := by decide +kernel
theorem dX10_works_73 : decode cX10_works 73 = .ok (.iadd, 1) := by decide +kernel
theorem dX10_works_74 : decode cX10_works 74 = .ok (.ireturn, 1) := by decide +kernel
theorem dX10_works_75 : decode cX10_works 75 = .ok (.iload_n 2, 1) := by decide +kernel
theorem dX10_works_76 : decode cX10_works 76 = .ok (.ireturn, 1) := by decide +kernel
theorem dX10_highAt_0 : decode cX10_highAt 0 = .ok (.aload_n 0, 1) := by decide +kernel
theorem dX10_highAt_1 : decode cX10_highAt 1 = .ok (.iconst 5, 1) := by decide +kernel
theorem dX10_highAt_2 : decode cX10_highAt 2 = .ok (.iload_n 2, 1) := by decide +kernel
theorem dX10_highAt_3 : decode cX10_highAt 3 = .ok (.iadd, 1) := by decide +kernel
theorem dX10_highAt_4 : decode cX10_highAt 4 = .ok (.invokevirtual 43, 3) := by decide +kernel
theorem dX10_highAt_7 : decode cX10_highAt 7 = .ok (.istore_n 3, 1) := by decide +kernel
theorem dX10_highAt_8 : decode cX10_highAt 8 = .ok (.aload_n 0, 1) := by decide +kernel
theorem dX10_highAt_9 : decode cX10_highAt 9 = .ok (.iload_n 1, 1) := by decide +kernel
theorem dX10_highAt_10 : decode cX10_highAt 10 = .ok (.iconst 0, 1) := by decide +kernel
theorem dX10_highAt_11 : decode cX10_highAt 11 = .ok (.invokevirtual 51, 3) := by decide +kernel
theorem dX10_highAt_14 : decode cX10_highAt 14 = .ok (.tableswitch 60 2 5 #[30, 35, 40, 45], 30) := by decide +kernel
theorem dX10_highAt_44 : decode cX10_highAt 44 = .ok (.iload_n 3, 1) := by decide +kernel
theorem dX10_highAt_45 : decode cX10_highAt 45 = .ok (.bipush 6, 2) := by decide +kernel
theorem dX10_highAt_47 : decode cX10_highAt 47 = .ok (.iadd, 1) := by decide +kernel
theorem dX10_highAt_48 : decode cX10_highAt 48 = .ok (.ireturn, 1) := by decide +kernel
theorem dX10_highAt_49 : decode cX10_highAt 49 = .ok (.iload_n 3, 1) := by decide +kernel
theorem dX10_highAt_50 : decode cX10_highAt 50 = .ok (.bipush 13, 2) := by decide +kernel
theorem dX10_highAt_52 : decode cX10_highAt 52 = .ok (.iadd, 1) := by decide +kernel
theorem dX10_highAt_53 : decode cX10_highAt 53 = .ok (.ireturn, 1) := by decide +kernel
theorem dX10_highAt_54 : decode cX10_highAt 54 = .ok (.iload_n 3, 1) := by decide +kernel
theorem dX10_highAt_55 : decode cX10_highAt 55 = .ok (.bipush 16, 2) := by decide +kernel
theorem dX10_highAt_57 : decode cX10_highAt 57 = .ok (.iadd, 1) := by decide +kernel
theorem dX10_highAt_58 : decode cX10_highAt 58 = .ok (.ireturn, 1) := by decide +kernel
theorem dX10_highAt_59 : decode cX10_highAt 59 = .ok (.iload_n 3, 1) := by decide +kernel
theorem dX10_highAt_60 : decode cX10_highAt 60 = .ok (.iconst 5, 1) := by decide +kernel
theorem dX10_highAt_61 : decode cX10_highAt 61 = .ok (.if_icmp .le 8, 3) := by decide +kernel
theorem dX10_highAt_64 : decode cX10_highAt 64 = .ok (.bipush 7, 2) := by decide +kernel
theorem dX10_highAt_66 : decode cX10_highAt 66 = .ok (.goto 7, 3) := by decide +kernel
theorem dX10_highAt_69 : decode cX10_highAt 69 = .ok (.iload_n 3, 1) := by decide +kernel
theorem dX10_highAt_70 : decode cX10_highAt 70 = .ok (.bipush 6, 2) := by decide +kernel
theorem dX10_highAt_72 : decode cX10_highAt 72 = .ok (.iadd, 1) := by decide +kernel
theorem dX10_highAt_73 : decode cX10_highAt 73 = .ok (.ireturn, 1) := by decide +kernel
theorem dX10_highAt_74 : decode cX10_highAt 74 = .ok (.iload_n 3, 1) := by decide +kernel
theorem dX10_highAt_75 : decode cX10_highAt 75 = .ok (.bipush 8, 2) := by decide +kernel
theorem dX10_highAt_77 : decode cX10_highAt 77 = .ok (.iadd, 1) := by decide +kernel
theorem dX10_highAt_78 : decode cX10_highAt 78 = .ok (.ireturn, 1) := by decide +kernel
theorem dX10_rock_0 : decode cX10_rock 0 = .ok (.iload_n 1, 1) := by decide +kernel
theorem dX10_rock_1 : decode cX10_rock 1 = .ok (.invokestatic 59, 3) := by decide +kernel
theorem dX10_rock_4 : decode cX10_rock 4 = .ok (.ifCond .eq 13, 3) := by decide +kernel
theorem dX10_rock_7 : decode cX10_rock 7 = .ok (.iload_n 2, 1) := by decide +kernel
theorem dX10_rock_8 : decode cX10_rock 8 = .ok (.iconst 1, 1) := by decide +kernel
theorem dX10_rock_9 : decode cX10_rock 9 = .ok (.bipush 9, 2) := by decide +kernel
theorem dX10_rock_11 : decode cX10_rock 11 = .ok (.invokestatic 47, 3) := by decide +kernel
theorem dX10_rock_14 : decode cX10_rock 14 = .ok (.ifCond .ne 10, 3) := by decide +kernel
theorem dX10_rock_17 : decode cX10_rock 17 = .ok (.aload_n 0, 1) := by decide +kernel
theorem dX10_rock_18 : decode cX10_rock 18 = .ok (.ldc 38, 2) := by decide +kernel
theorem dX10_rock_20 : decode cX10_rock 20 = .ok (.invokevirtual 63, 3) := by decide +kernel
theorem dX10_rock_23 : decode cX10_rock 23 = .ok (.ireturn, 1) := by decide +kernel
theorem dX10_rock_24 : decode cX10_rock 24 = .ok (.aload_n 0, 1) := by decide +kernel
theorem dX10_rock_25 : decode cX10_rock 25 = .ok (.getfield 7, 3) := by decide +kernel
theorem dX10_rock_28 : decode cX10_rock 28 = .ok (.iconst 5, 1) := by decide +kernel
theorem dX10_rock_29 : decode cX10_rock 29 = .ok (.iload_n 1, 1) := by decide +kernel
theorem dX10_rock_30 : decode cX10_rock 30 = .ok (.iadd, 1) := by decide +kernel
theorem dX10_rock_31 : decode cX10_rock 31 = .ok (.iaload, 1) := by decide +kernel
theorem dX10_rock_32 : decode cX10_rock 32 = .ok (.istore_n 3, 1) := by decide +kernel
theorem dX10_rock_33 : decode cX10_rock 33 = .ok (.aload_n 0, 1) := by decide +kernel
theorem dX10_rock_34 : decode cX10_rock 34 = .ok (.getfield 7, 3) := by decide +kernel
theorem dX10_rock_37 : decode cX10_rock 37 = .ok (.iconst 5, 1) := by decide +kernel
theorem dX10_rock_38 : decode cX10_rock 38 = .ok (.iload_n 1, 1) := by decide +kernel
theorem dX10_rock_39 : decode cX10_rock 39 = .ok (.iadd, 1) := by decide +kernel
theorem dX10_rock_40 : decode cX10_rock 40 = .ok (.iload_n 2, 1) := by decide +kernel
theorem dX10_rock_41 : decode cX10_rock 41 = .ok (.iastore, 1) := by decide +kernel
theorem dX10_rock_42 : decode cX10_rock 42 = .ok (.iload_n 3, 1) := by decide +kernel
theorem dX10_rock_43 : decode cX10_rock 43 = .ok (.ireturn, 1) := by decide +kernel
theorem dX10_let_0 : decode cX10_let 0 = .ok (.iload_n 1, 1) := by decide +kernel
theorem dX10_let_1 : decode cX10_let 1 = .ok (.iconst 0, 1) := by decide +kernel
theorem dX10_let_2 : decode cX10_let 2 = .ok (.iconst 1, 1) := by decide +kernel
theorem dX10_let_3 : decode cX10_let 3 = .ok (.invokestatic 47, 3) := by decide +kernel
theorem dX10_let_6 : decode cX10_let 6 = .ok (.ifCond .eq 22, 3) := by decide +kernel
theorem dX10_let_9 : decode cX10_let 9 = .ok (.iload_n 2, 1) := by decide +kernel
theorem dX10_let_10 : decode cX10_let 10 = .ok (.iconst 0, 1) := by decide +kernel
theorem dX10_let_11 : decode cX10_let 11 = .ok (.iload_n 1, 1) := by decide +kernel
theorem dX10_let_12 : decode cX10_let 12 = .ok (.ifCond .ne 8, 3) := by decide +kernel
theorem dX10_let_15 : decode cX10_let 15 = .ok (.bipush 9, 2) := by decide +kernel
theorem dX10_let_17 : decode cX10_let 17 = .ok (.goto 5, 3) := by decide +kernel
theorem dX10_let_20 : decode cX10_let 20 = .ok (.bipush 20, 2) := by decide +kernel
theorem dX10_let_22 : decode cX10_let 22 = .ok (.invokestatic 47, 3) := by decide +kernel
theorem dX10_let_25 : decode cX10_let 25 = .ok (.ifCond .ne 10, 3) := by decide +kernel
theorem dX10_let_28 : decode cX10_let 28 = .ok (.aload_n 0, 1) := by decide +kernel
theorem dX10_let_29 : decode cX10_let 29 = .ok (.ldc 38, 2) := by decide +kernel
theorem dX10_let_31 : decode cX10_let 31 = .ok (.invokevirtual 63, 3) := by decide +kernel
theorem dX10_let_34 : decode cX10_let 34 = .ok (.ireturn, 1) := by decide +kernel
theorem dX10_let_35 : decode cX10_let 35 = .ok (.aload_n 0, 1) := by decide +kernel
theorem dX10_let_36 : decode cX10_let 36 = .ok (.getfield 7, 3) := by decide +kernel
theorem dX10_let_39 : decode cX10_let 39 = .ok (.iconst 1, 1) := by decide +kernel
theorem dX10_let_40 : decode cX10_let 40 = .ok (.iload_n 1, 1) := by decide +kernel
theorem dX10_let_41 : decode cX10_let 41 = .ok (.iadd, 1) := by decide +kernel
theorem dX10_let_42 : decode cX10_let 42 = .ok (.iaload, 1) := by decide +kernel
theorem dX10_let_43 : decode cX10_let 43 = .ok (.istore_n 3, 1) := by decide +kernel
theorem dX10_let_44 : decode cX10_let 44 = .ok (.aload_n 0, 1) := by decide +kernel
theorem dX10_let_45 : decode cX10_let 45 = .ok (.getfield 7, 3) := by decide +kernel
theorem dX10_let_48 : decode cX10_let 48 = .ok (.iconst 1, 1) := by decide +kernel
theorem dX10_let_49 : decode cX10_let 49 = .ok (.iload_n 1, 1) := by decide +kernel
theorem dX10_let_50 : decode cX10_let 50 = .ok (.iadd, 1) := by decide +kernel
theorem dX10_let_51 : decode cX10_let 51 = .ok (.iload_n 2, 1) := by decide +kernel
theorem dX10_let_52 : decode cX10_let 52 = .ok (.iastore, 1) := by decide +kernel
theorem dX10_let_53 : decode cX10_let 53 = .ok (.iload_n 3, 1) := by decide +kernel
theorem dX10_let_54 : decode cX10_let 54 = .ok (.ireturn, 1) := by decide +kernel
theorem dX10_addFine_0 : decode cX10_addFine 0 = .ok (.aload_n 0, 1) := by decide +kernel
theorem dX10_addFine_1 : decode cX10_addFine 1 = .ok (.getfield 7, 3) := by decide +kernel
theorem dX10_addFine_4 : decode cX10_addFine 4 = .ok (.iconst 4, 1) := by decide +kernel
theorem dX10_addFine_5 : decode cX10_addFine 5 = .ok (.iaload, 1) := by decide +kernel
theorem dX10_addFine_6 : decode cX10_addFine 6 = .ok (.istore 5, 2) := by decide +kernel
theorem dX10_addFine_8 : decode cX10_addFine 8 = .ok (.aload_n 0, 1) := by decide +kernel
theorem dX10_addFine_9 : decode cX10_addFine 9 = .ok (.iload 5, 2) := by decide +kernel
theorem dX10_addFine_11 : decode cX10_addFine 11 = .ok (.iconst 0, 1) := by decide +kernel
theorem dX10_addFine_12 : decode cX10_addFine 12 = .ok (.iload_n 1, 1) := by decide +kernel
theorem dX10_addFine_13 : decode cX10_addFine 13 = .ok (.invokevirtual 66, 3) := by decide +kernel
theorem dX10_addFine_16 : decode cX10_addFine 16 = .ok (.aload_n 0, 1) := by decide +kernel
theorem dX10_addFine_17 : decode cX10_addFine 17 = .ok (.iload 5, 2) := by decide +kernel
theorem dX10_addFine_19 : decode cX10_addFine 19 = .ok (.iconst 1, 1) := by decide +kernel
theorem dX10_addFine_20 : decode cX10_addFine 20 = .ok (.iload_n 2, 1) := by decide +kernel
theorem dX10_addFine_21 : decode cX10_addFine 21 = .ok (.invokevirtual 66, 3) := by decide +kernel
theorem dX10_addFine_24 : decode cX10_addFine 24 = .ok (.aload_n 0, 1) := by decide +kernel
theorem dX10_addFine_25 : decode cX10_addFine 25 = .ok (.iload 5, 2) := by decide +kernel
theorem dX10_addFine_27 : decode cX10_addFine 27 = .ok (.iconst 2, 1) := by decide +kernel
theorem dX10_addFine_28 : decode cX10_addFine 28 = .ok (.iload_n 3, 1) := by decide +kernel
theorem dX10_addFine_29 : decode cX10_addFine 29 = .ok (.invokevirtual 66, 3) := by decide +kernel
theorem dX10_addFine_32 : decode cX10_addFine 32 = .ok (.aload_n 0, 1) := by decide +kernel
theorem dX10_addFine_33 : decode cX10_addFine 33 = .ok (.iload 5, 2) := by decide +kernel
theorem dX10_addFine_35 : decode cX10_addFine 35 = .ok (.iconst 3, 1) := by decide +kernel
theorem dX10_addFine_36 : decode cX10_addFine 36 = .ok (.iload 4, 2) := by decide +kernel
theorem dX10_addFine_38 : decode cX10_addFine 38 = .ok (.invokevirtual 66, 3) := by decide +kernel
theorem dX10_addFine_41 : decode cX10_addFine 41 = .ok (.aload_n 0, 1) := by decide +kernel
theorem dX10_addFine_42 : decode cX10_addFine 42 = .ok (.iload 5, 2) := by decide +kernel
theorem dX10_addFine_44 : decode cX10_addFine 44 = .ok (.iconst 4, 1) := by decide +kernel
theorem dX10_addFine_45 : decode cX10_addFine 45 = .ok (.iconst 0, 1) := by decide +kernel
theorem dX10_addFine_46 : decode cX10_addFine 46 = .ok (.invokevirtual 66, 3) := by decide +kernel
theorem dX10_addFine_49 : decode cX10_addFine 49 = .ok (.aload_n 0, 1) := by decide +kernel
theorem dX10_addFine_50 : decode cX10_addFine 50 = .ok (.getfield 7, 3) := by decide +kernel
theorem dX10_addFine_53 : decode cX10_addFine 53 = .ok (.iconst 4, 1) := by decide +kernel
theorem dX10_addFine_54 : decode cX10_addFine 54 = .ok (.dup2, 1) := by decide +kernel
theorem dX10_addFine_55 : decode cX10_addFine 55 = .ok (.iaload, 1) := by decide +kernel
theorem dX10_addFine_56 : decode cX10_addFine 56 = .ok (.iconst 1, 1) := by decide +kernel
theorem dX10_addFine_57 : decode cX10_addFine 57 = .ok (.iadd, 1) := by decide +kernel
theorem dX10_addFine_58 : decode cX10_addFine 58 = .ok (.iastore, 1) := by decide +kernel
theorem dX10_addFine_59 : decode cX10_addFine 59 = .ok (.return_, 1) := by decide +kernel
theorem dX10_fine_0 : decode cX10_fine 0 = .ok (.iload_n 1, 1) := by decide +kernel
theorem dX10_fine_1 : decode cX10_fine 1 = .ok (.invokestatic 70, 3) := by decide +kernel
theorem dX10_fine_4 : decode cX10_fine 4 = .ok (.ifCond .eq 20, 3) := by decide +kernel
theorem dX10_fine_7 : decode cX10_fine 7 = .ok (.iload_n 2, 1) := by decide +kernel
theorem dX10_fine_8 : decode cX10_fine 8 = .ok (.iconst 1, 1) := by decide +kernel
theorem dX10_fine_9 : decode cX10_fine 9 = .ok (.bipush 40, 2) := by decide +kernel
theorem dX10_fine_11 : decode cX10_fine 11 = .ok (.invokestatic 47, 3) := by decide +kernel
theorem dX10_fine_14 : decode cX10_fine 14 = .ok (.ifCond .eq 10, 3) := by decide +kernel
theorem dX10_fine_17 : decode cX10_fine 17 = .ok (.iload_n 3, 1) := by decide +kernel
theorem dX10_fine_18 : decode cX10_fine 18 = .ok (.invokestatic 59, 3) := by decide +kernel
theorem dX10_fine_21 : decode cX10_fine 21 = .ok (.ifCond .ne 10, 3) := by decide +kernel
theorem dX10_fine_24 : decode cX10_fine 24 = .ok (.aload_n 0, 1) := by decide +kernel
theorem dX10_fine_25 : decode cX10_fine 25 = .ok (.ldc 38, 2) := by decide +kernel
theorem dX10_fine_27 : decode cX10_fine 27 = .ok (.invokevirtual 63, 3) := by decide +kernel
theorem dX10_fine_30 : decode cX10_fine 30 = .ok (.ireturn, 1) := by decide +kernel
theorem dX10_fine_31 : decode cX10_fine 31 = .ok (.aload_n 0, 1) := by decide +kernel
theorem dX10_fine_32 : decode cX10_fine 32 = .ok (.getfield 7, 3) := by decide +kernel
theorem dX10_fine_35 : decode cX10_fine 35 = .ok (.iconst 4, 1) := by decide +kernel
theorem dX10_fine_36 : decode cX10_fine 36 = .ok (.iaload, 1) := by decide +kernel
theorem dX10_fine_37 : decode cX10_fine 37 = .ok (.bipush 10, 2) := by decide +kernel
theorem dX10_fine_39 : decode cX10_fine 39 = .ok (.if_icmp .ne 10, 3) := by decide +kernel
theorem dX10_fine_42 : decode cX10_fine 42 = .ok (.aload_n 0, 1) := by decide +kernel
theorem dX10_fine_43 : decode cX10_fine 43 = .ok (.ldc 73, 2) := by decide +kernel
theorem dX10_fine_45 : decode cX10_fine 45 = .ok (.invokevirtual 63, 3) := by decide +kernel
theorem dX10_fine_48 : decode cX10_fine 48 = .ok (.ireturn, 1) := by decide +kernel
theorem dX10_fine_49 : decode cX10_fine 49 = .ok (.aload_n 0, 1) := by decide +kernel
theorem dX10_fine_50 : decode cX10_fine 50 = .ok (.iload_n 1, 1) := by decide +kernel
theorem dX10_fine_51 : decode cX10_fine 51 = .ok (.iload_n 2, 1) := by decide +kernel
theorem dX10_fine_52 : decode cX10_fine 52 = .ok (.iload_n 3, 1) := by decide +kernel
theorem dX10_fine_53 : decode cX10_fine 53 = .ok (.iconst 3, 1) := by decide +kernel
theorem dX10_fine_54 : decode cX10_fine 54 = .ok (.invokevirtual 74, 3) := by decide +kernel
theorem dX10_fine_57 : decode cX10_fine 57 = .ok (.aload_n 0, 1) := by decide +kernel
theorem dX10_fine_58 : decode cX10_fine 58 = .ok (.getfield 7, 3) := by decide +kernel
theorem dX10_fine_61 : decode cX10_fine 61 = .ok (.iconst 4, 1) := by decide +kernel
theorem dX10_fine_62 : decode cX10_fine 62 = .ok (.iaload, 1) := by decide +kernel
theorem dX10_fine_63 : decode cX10_fine 63 = .ok (.iconst 1, 1) := by decide +kernel
theorem dX10_fine_64 : decode cX10_fine 64 = .ok (.isub, 1) := by decide +kernel
theorem dX10_fine_65 : decode cX10_fine 65 = .ok (.ireturn, 1) := by decide +kernel
theorem dX10_cutBy_0 : decode cX10_cutBy 0 = .ok (.iconst 0, 1) := by decide +kernel
theorem dX10_cutBy_1 : decode cX10_cutBy 1 = .ok (.istore_n 2, 1) := by decide +kernel
theorem dX10_cutBy_2 : decode cX10_cutBy 2 = .ok (.iconst 0, 1) := by decide +kernel
theorem dX10_cutBy_3 : decode cX10_cutBy 3 = .ok (.istore_n 3, 1) := by decide +kernel
theorem dX10_cutBy_4 : decode cX10_cutBy 4 = .ok (.iload_n 3, 1) := by decide +kernel
theorem dX10_cutBy_5 : decode cX10_cutBy 5 = .ok (.bipush 40, 2) := by decide +kernel
theorem dX10_cutBy_7 : decode cX10_cutBy 7 = .ok (.if_icmp .ge 37, 3) := by decide +kernel
theorem dX10_cutBy_10 : decode cX10_cutBy 10 = .ok (.iload_n 2, 1) := by decide +kernel
theorem dX10_cutBy_11 : decode cX10_cutBy 11 = .ok (.aload_n 0, 1) := by decide +kernel
theorem dX10_cutBy_12 : decode cX10_cutBy 12 = .ok (.iload_n 3, 1) := by decide +kernel
theorem dX10_cutBy_13 : decode cX10_cutBy 13 = .ok (.invokevirtual 78, 3) := by decide +kernel
theorem dX10_cutBy_16 : decode cX10_cutBy 16 = .ok (.ifCond .eq 19, 3) := by decide +kernel
theorem dX10_cutBy_19 : decode cX10_cutBy 19 = .ok (.aload_n 0, 1) := by decide +kernel
theorem dX10_cutBy_20 : decode cX10_cutBy 20 = .ok (.bipush 125, 2) := by decide +kernel
theorem dX10_cutBy_22 : decode cX10_cutBy 22 = .ok (.iload_n 3, 1) := by decide +kernel
theorem dX10_cutBy_23 : decode cX10_cutBy 23 = .ok (.iadd, 1) := by decide +kernel
theorem dX10_cutBy_24 : decode cX10_cutBy 24 = .ok (.invokevirtual 43, 3) := by decide +kernel
theorem dX10_cutBy_27 : decode cX10_cutBy 27 = .ok (.iload_n 1, 1) := by decide +kernel
theorem dX10_cutBy_28 : decode cX10_cutBy 28 = .ok (.if_icmp .ne 7, 3) := by decide +kernel
theorem dX10_cutBy_31 : decode cX10_cutBy 31 = .ok (.iconst 1, 1) := by decide +kernel
theorem dX10_cutBy_32 : decode cX10_cutBy 32 = .ok (.goto 4, 3) := by decide +kernel
theorem dX10_cutBy_35 : decode cX10_cutBy 35 = .ok (.iconst 0, 1) := by decide +kernel
theorem dX10_cutBy_36 : decode cX10_cutBy 36 = .ok (.iadd, 1) := by decide +kernel
theorem dX10_cutBy_37 : decode cX10_cutBy 37 = .ok (.istore_n 2, 1) := by decide +kernel
theorem dX10_cutBy_38 : decode cX10_cutBy 38 = .ok (.iinc 3 1, 3) := by decide +kernel
theorem dX10_cutBy_41 : decode cX10_cutBy 41 = .ok (.goto (-37), 3) := by decide +kernel
theorem dX10_cutBy_44 : decode cX10_cutBy 44 = .ok (.iload_n 2, 1) := by decide +kernel
theorem dX10_cutBy_45 : decode cX10_cutBy 45 = .ok (.ireturn, 1) := by decide +kernel
theorem dX10_of_0 : decode cX10_of 0 = .ok (.aload_n 0, 1) := by decide +kernel
theorem dX10_of_1 : decode cX10_of 1 = .ok (.iload_n 1, 1) := by decide +kernel
theorem dX10_of_2 : decode cX10_of 2 = .ok (.invokevirtual 81, 3) := by decide +kernel
theorem dX10_of_5 : decode cX10_of 5 = .ok (.ifCond .eq 13, 3) := by decide +kernel
theorem dX10_of_8 : decode cX10_of 8 = .ok (.iload_n 2, 1) := by decide +kernel
theorem dX10_of_9 : decode cX10_of 9 = .ok (.iconst 0, 1) := by decide +kernel
theorem dX10_of_10 : decode cX10_of 10 = .ok (.bipush 7, 2) := by decide +kernel
theorem dX10_of_12 : decode cX10_of 12 = .ok (.invokestatic 47, 3) := by decide +kernel
theorem dX10_of_15 : decode cX10_of 15 = .ok (.ifCond .ne 10, 3) := by decide +kernel
theorem dX10_of_18 : decode cX10_of 18 = .ok (.aload_n 0, 1) := by decide +kernel
theorem dX10_of_19 : decode cX10_of 19 = .ok (.ldc 38, 2) := by decide +kernel
theorem dX10_of_21 : decode cX10_of 21 = .ok (.invokevirtual 63, 3) := by decide +kernel
theorem dX10_of_24 : decode cX10_of 24 = .ok (.ireturn, 1) := by decide +kernel
theorem dX10_of_25 : decode cX10_of 25 = .ok (.iload_n 2, 1) := by decide +kernel
theorem dX10_of_26 : decode cX10_of 26 = .ok (.tableswitch 50 5 7 #[26, 32, 44], 26) := by decide +kernel
theorem dX10_of_52 : decode cX10_of 52 = .ok (.aload_n 0, 1) := by decide +kernel
theorem dX10_of_53 : decode cX10_of 53 = .ok (.iload_n 1, 1) := by decide +kernel
theorem dX10_of_54 : decode cX10_of 54 = .ok (.invokevirtual 84, 3) := by decide +kernel
theorem dX10_of_57 : decode cX10_of 57 = .ok (.ireturn, 1) := by decide +kernel
theorem dX10_of_58 : decode cX10_of 58 = .ok (.aload_n 0, 1) := by decide +kernel
theorem dX10_of_59 : decode cX10_of 59 = .ok (.iload_n 1, 1) := by decide +kernel
theorem dX10_of_60 : decode cX10_of 60 = .ok (.aload_n 0, 1) := by decide +kernel
theorem dX10_of_61 : decode cX10_of 61 = .ok (.iload_n 1, 1) := by decide +kernel
theorem dX10_of_62 : decode cX10_of 62 = .ok (.iconst 2, 1) := by decide +kernel
theorem dX10_of_63 : decode cX10_of 63 = .ok (.invokevirtual 51, 3) := by decide +kernel
theorem dX10_of_66 : decode cX10_of 66 = .ok (.invokevirtual 87, 3) := by decide +kernel
theorem dX10_of_69 : decode cX10_of 69 = .ok (.ireturn, 1) := by decide +kernel
theorem dX10_of_70 : decode cX10_of 70 = .ok (.aload_n 0, 1) := by decide +kernel
theorem dX10_of_71 : decode cX10_of 71 = .ok (.iload_n 1, 1) := by decide +kernel
theorem dX10_of_72 : decode cX10_of 72 = .ok (.invokevirtual 90, 3) := by decide +kernel
theorem dX10_of_75 : decode cX10_of 75 = .ok (.ireturn, 1) := by decide +kernel
theorem dX10_of_76 : decode cX10_of 76 = .ok (.aload_n 0, 1) := by decide +kernel
theorem dX10_of_77 : decode cX10_of 77 = .ok (.iload_n 1, 1) := by decide +kernel
theorem dX10_of_78 : decode cX10_of 78 = .ok (.iload_n 2, 1) := by decide +kernel
theorem dX10_of_79 : decode cX10_of 79 = .ok (.invokevirtual 51, 3) := by decide +kernel
theorem dX10_of_82 : decode cX10_of 82 = .ok (.ireturn, 1) := by decide +kernel
theorem dX10_isPart_0 : decode cX10_isPart 0 = .ok (.iload_n 0, 1) := by decide +kernel
theorem dX10_isPart_1 : decode cX10_isPart 1 = .ok (.iconst 1, 1) := by decide +kernel
theorem dX10_isPart_2 : decode cX10_isPart 2 = .ok (.if_icmp .ne 13, 3) := by decide +kernel
theorem dX10_isPart_5 : decode cX10_isPart 5 = .ok (.iload_n 1, 1) := by decide +kernel
theorem dX10_isPart_6 : decode cX10_isPart 6 = .ok (.iconst 0, 1) := by decide +kernel
theorem dX10_isPart_7 : decode cX10_isPart 7 = .ok (.bipush 40, 2) := by decide +kernel
theorem dX10_isPart_9 : decode cX10_isPart 9 = .ok (.invokestatic 47, 3) := by decide +kernel
theorem dX10_isPart_12 : decode cX10_isPart 12 = .ok (.goto 35, 3) := by decide +kernel
theorem dX10_isPart_15 : decode cX10_isPart 15 = .ok (.iload_n 0, 1) := by decide +kernel
theorem dX10_isPart_16 : decode cX10_isPart 16 = .ok (.iconst 2, 1) := by decide +kernel
theorem dX10_isPart_17 : decode cX10_isPart 17 = .ok (.if_icmp .ne 10, 3) := by decide +kernel
theorem dX10_isPart_20 : decode cX10_isPart 20 = .ok (.iload_n 1, 1) := by decide +kernel
theorem dX10_isPart_21 : decode cX10_isPart 21 = .ok (.invokestatic 59, 3) := by decide +kernel
theorem dX10_isPart_24 : decode cX10_isPart 24 = .ok (.goto 23, 3) := by decide +kernel
theorem dX10_isPart_27 : decode cX10_isPart 27 = .ok (.iload_n 0, 1) := by decide +kernel
theorem dX10_isPart_28 : decode cX10_isPart 28 = .ok (.iconst 3, 1) := by decide +kernel
theorem dX10_isPart_29 : decode cX10_isPart 29 = .ok (.if_icmp .ne 17, 3) := by decide +kernel
theorem dX10_isPart_32 : decode cX10_isPart 32 = .ok (.iload_n 1, 1) := by decide +kernel
theorem dX10_isPart_33 : decode cX10_isPart 33 = .ok (.iconst 1, 1) := by decide +kernel
theorem dX10_isPart_34 : decode cX10_isPart 34 = .ok (.bipush 9, 2) := by decide +kernel
theorem dX10_isPart_36 : decode cX10_isPart 36 = .ok (.invokestatic 47, 3) := by decide +kernel
theorem dX10_isPart_39 : decode cX10_isPart 39 = .ok (.ifCond .eq 7, 3) := by decide +kernel
theorem dX10_isPart_42 : decode cX10_isPart 42 = .ok (.iconst 1, 1) := by decide +kernel
theorem dX10_isPart_43 : decode cX10_isPart 43 = .ok (.goto 4, 3) := by decide +kernel
theorem dX10_isPart_46 : decode cX10_isPart 46 = .ok (.iconst 0, 1) := by decide +kernel
theorem dX10_isPart_47 : decode cX10_isPart 47 = .ok (.ireturn, 1) := by decide +kernel
theorem dX10_set_0 : decode cX10_set 0 = .ok (.aload_n 0, 1) := by decide +kernel
theorem dX10_set_1 : decode cX10_set 1 = .ok (.iload_n 1, 1) := by decide +kernel
theorem dX10_set_2 : decode cX10_set 2 = .ok (.invokevirtual 81, 3) := by decide +kernel
theorem dX10_set_5 : decode cX10_set 5 = .ok (.ifCond .eq 11, 3) := by decide +kernel
theorem dX10_set_8 : decode cX10_set 8 = .ok (.iload_n 2, 1) := by decide +kernel
theorem dX10_set_9 : decode cX10_set 9 = .ok (.iload_n 3, 1) := by decide +kernel
theorem dX10_set_10 : decode cX10_set 10 = .ok (.invokestatic 93, 3) := by decide +kernel
theorem dX10_set_13 : decode cX10_set 13 = .ok (.ifCond .ne 10, 3) := by decide +kernel
theorem dX10_set_16 : decode cX10_set 16 = .ok (.aload_n 0, 1) := by decide +kernel
theorem dX10_set_17 : decode cX10_set 17 = .ok (.ldc 38, 2) := by decide +kernel
theorem dX10_set_19 : decode cX10_set 19 = .ok (.invokevirtual 63, 3) := by decide +kernel
theorem dX10_set_22 : decode cX10_set 22 = .ok (.ireturn, 1) := by decide +kernel
theorem dX10_set_23 : decode cX10_set 23 = .ok (.aload_n 0, 1) := by decide +kernel
theorem dX10_set_24 : decode cX10_set 24 = .ok (.iload_n 1, 1) := by decide +kernel
theorem dX10_set_25 : decode cX10_set 25 = .ok (.iload_n 2, 1) := by decide +kernel
theorem dX10_set_26 : decode cX10_set 26 = .ok (.invokevirtual 51, 3) := by decide +kernel
theorem dX10_set_29 : decode cX10_set 29 = .ok (.istore 4, 2) := by decide +kernel
theorem dX10_set_31 : decode cX10_set 31 = .ok (.aload_n 0, 1) := by decide +kernel
theorem dX10_set_32 : decode cX10_set 32 = .ok (.iload_n 1, 1) := by decide +kernel
theorem dX10_set_33 : decode cX10_set 33 = .ok (.iload_n 2, 1) := by decide +kernel
theorem dX10_set_34 : decode cX10_set 34 = .ok (.iload_n 3, 1) := by decide +kernel
theorem dX10_set_35 : decode cX10_set 35 = .ok (.invokevirtual 66, 3) := by decide +kernel
theorem dX10_set_38 : decode cX10_set 38 = .ok (.iload_n 2, 1) := by decide +kernel
theorem dX10_set_39 : decode cX10_set 39 = .ok (.iconst 2, 1) := by decide +kernel
theorem dX10_set_40 : decode cX10_set 40 = .ok (.if_icmp .ne 10, 3) := by decide +kernel
theorem dX10_set_43 : decode cX10_set 43 = .ok (.aload_n 0, 1) := by decide +kernel
theorem dX10_set_44 : decode cX10_set 44 = .ok (.iload_n 1, 1) := by decide +kernel
theorem dX10_set_45 : decode cX10_set 45 = .ok (.iconst 4, 1) := by decide +kernel
theorem dX10_set_46 : decode cX10_set 46 = .ok (.iconst 0, 1) := by decide +kernel
theorem dX10_set_47 : decode cX10_set 47 = .ok (.invokevirtual 66, 3) := by decide +kernel
theorem dX10_set_50 : decode cX10_set 50 = .ok (.iload 4, 2) := by decide +kernel
theorem dX10_set_52 : decode cX10_set 52 = .ok (.ireturn, 1) := by decide +kernel
theorem dX10_turn_0 : decode cX10_turn 0 = .ok (.aload_n 0, 1) := by decide +kernel
theorem dX10_turn_1 : decode cX10_turn 1 = .ok (.iload_n 1, 1) := by decide +kernel
theorem dX10_turn_2 : decode cX10_turn 2 = .ok (.invokevirtual 81, 3) := by decide +kernel
theorem dX10_turn_5 : decode cX10_turn 5 = .ok (.ifCond .eq 10, 3) := by decide +kernel
theorem dX10_turn_8 : decode cX10_turn 8 = .ok (.iload_n 2, 1) := by decide +kernel
theorem dX10_turn_9 : decode cX10_turn 9 = .ok (.invokestatic 70, 3) := by decide +kernel
theorem dX10_turn_12 : decode cX10_turn 12 = .ok (.ifCond .ne 10, 3) := by decide +kernel
theorem dX10_turn_15 : decode cX10_turn 15 = .ok (.aload_n 0, 1) := by decide +kernel
theorem dX10_turn_16 : decode cX10_turn 16 = .ok (.ldc 38, 2) := by decide +kernel
theorem dX10_turn_18 : decode cX10_turn 18 = .ok (.invokevirtual 63, 3) := by decide +kernel
theorem dX10_turn_21 : decode cX10_turn 21 = .ok (.ireturn, 1) := by decide +kernel
theorem dX10_turn_22 : decode cX10_turn 22 = .ok (.aload_n 0, 1) := by decide +kernel
theorem dX10_turn_23 : decode cX10_turn 23 = .ok (.iload_n 1, 1) := by decide +kernel
theorem dX10_turn_24 : decode cX10_turn 24 = .ok (.iconst 0, 1) := by decide +kernel
theorem dX10_turn_25 : decode cX10_turn 25 = .ok (.invokevirtual 51, 3) := by decide +kernel
theorem dX10_turn_28 : decode cX10_turn 28 = .ok (.istore_n 3, 1) := by decide +kernel
theorem dX10_turn_29 : decode cX10_turn 29 = .ok (.aload_n 0, 1) := by decide +kernel
theorem dX10_turn_30 : decode cX10_turn 30 = .ok (.iload_n 1, 1) := by decide +kernel
theorem dX10_turn_31 : decode cX10_turn 31 = .ok (.iconst 0, 1) := by decide +kernel
theorem dX10_turn_32 : decode cX10_turn 32 = .ok (.iload_n 2, 1) := by decide +kernel
theorem dX10_turn_33 : decode cX10_turn 33 = .ok (.invokevirtual 66, 3) := by decide +kernel
theorem dX10_turn_36 : decode cX10_turn 36 = .ok (.iload_n 3, 1) := by decide +kernel
theorem dX10_turn_37 : decode cX10_turn 37 = .ok (.ireturn, 1) := by decide +kernel
theorem dX10_isUnder_0 : decode cX10_isUnder 0 = .ok (.iload_n 1, 1) := by decide +kernel
theorem dX10_isUnder_1 : decode cX10_isUnder 1 = .ok (.ifCond .eq 28, 3) := by decide +kernel
theorem dX10_isUnder_4 : decode cX10_isUnder 4 = .ok (.iload_n 1, 1) := by decide +kernel
theorem dX10_isUnder_5 : decode cX10_isUnder 5 = .ok (.iload_n 0, 1) := by decide +kernel
theorem dX10_isUnder_6 : decode cX10_isUnder 6 = .ok (.if_icmp .eq 23, 3) := by decide +kernel
theorem dX10_isUnder_9 : decode cX10_isUnder 9 = .ok (.iload_n 1, 1) := by decide +kernel
theorem dX10_isUnder_10 : decode cX10_isUnder 10 = .ok (.iconst 3, 1) := by decide +kernel
theorem dX10_isUnder_11 : decode cX10_isUnder 11 = .ok (.if_icmp .ne 8, 3) := by decide +kernel
theorem dX10_isUnder_14 : decode cX10_isUnder 14 = .ok (.iload_n 0, 1) := by decide +kernel
theorem dX10_isUnder_15 : decode cX10_isUnder 15 = .ok (.iconst 4, 1) := by decide +kernel
theorem dX10_isUnder_16 : decode cX10_isUnder 16 = .ok (.if_icmp .eq 13, 3) := by decide +kernel
theorem dX10_isUnder_19 : decode cX10_isUnder 19 = .ok (.iload_n 1, 1) := by decide +kernel
theorem dX10_isUnder_20 : decode cX10_isUnder 20 = .ok (.iconst 2, 1) := by decide +kernel
theorem dX10_isUnder_21 : decode cX10_isUnder 21 = .ok (.if_icmp .ne 12, 3) := by decide +kernel
theorem dX10_isUnder_24 : decode cX10_isUnder 24 = .ok (.iload_n 0, 1) := by decide +kernel
theorem dX10_isUnder_25 : decode cX10_isUnder 25 = .ok (.iconst 5, 1) := by decide +kernel
theorem dX10_isUnder_26 : decode cX10_isUnder 26 = .ok (.if_icmp .ne 7, 3) := by decide +kernel
theorem dX10_isUnder_29 : decode cX10_isUnder 29 = .ok (.iconst 1, 1) := by decide +kernel
theorem dX10_isUnder_30 : decode cX10_isUnder 30 = .ok (.goto 4, 3) := by decide +kernel
theorem dX10_isUnder_33 : decode cX10_isUnder 33 = .ok (.iconst 0, 1) := by decide +kernel
theorem dX10_isUnder_34 : decode cX10_isUnder 34 = .ok (.ireturn, 1) := by decide +kernel
theorem dX10_as_0 : decode cX10_as 0 = .ok (.aload_n 0, 1) := by decide +kernel
theorem dX10_as_1 : decode cX10_as 1 = .ok (.iload_n 1, 1) := by decide +kernel
theorem dX10_as_2 : decode cX10_as 2 = .ok (.invokevirtual 81, 3) := by decide +kernel
theorem dX10_as_5 : decode cX10_as 5 = .ok (.ifCond .eq 10, 3) := by decide +kernel
theorem dX10_as_8 : decode cX10_as 8 = .ok (.iload_n 2, 1) := by decide +kernel
theorem dX10_as_9 : decode cX10_as 9 = .ok (.invokestatic 70, 3) := by decide +kernel
theorem dX10_as_12 : decode cX10_as 12 = .ok (.ifCond .ne 10, 3) := by decide +kernel
theorem dX10_as_15 : decode cX10_as 15 = .ok (.aload_n 0, 1) := by decide +kernel
theorem dX10_as_16 : decode cX10_as 16 = .ok (.ldc 38, 2) := by decide +kernel
theorem dX10_as_18 : decode cX10_as 18 = .ok (.invokevirtual 63, 3) := by decide +kernel
theorem dX10_as_21 : decode cX10_as 21 = .ok (.ireturn, 1) := by decide +kernel
theorem dX10_as_22 : decode cX10_as 22 = .ok (.aload_n 0, 1) := by decide +kernel
theorem dX10_as_23 : decode cX10_as 23 = .ok (.iload_n 1, 1) := by decide +kernel
theorem dX10_as_24 : decode cX10_as 24 = .ok (.iconst 0, 1) := by decide +kernel
theorem dX10_as_25 : decode cX10_as 25 = .ok (.invokevirtual 51, 3) := by decide +kernel
theorem dX10_as_28 : decode cX10_as 28 = .ok (.iload_n 2, 1) := by decide +kernel
theorem dX10_as_29 : decode cX10_as 29 = .ok (.invokestatic 97, 3) := by decide +kernel
theorem dX10_as_32 : decode cX10_as 32 = .ok (.ifCond .eq 12, 3) := by decide +kernel
theorem dX10_as_35 : decode cX10_as 35 = .ok (.aload_n 0, 1) := by decide +kernel
theorem dX10_as_36 : decode cX10_as 36 = .ok (.iload_n 1, 1) := by decide +kernel
theorem dX10_as_37 : decode cX10_as 37 = .ok (.iconst 1, 1) := by decide +kernel
theorem dX10_as_38 : decode cX10_as 38 = .ok (.invokevirtual 51, 3) := by decide +kernel
theorem dX10_as_41 : decode cX10_as 41 = .ok (.goto 9, 3) := by decide +kernel
theorem dX10_as_44 : decode cX10_as 44 = .ok (.aload_n 0, 1) := by decide +kernel
theorem dX10_as_45 : decode cX10_as 45 = .ok (.ldc 100, 2) := by decide +kernel
theorem dX10_as_47 : decode cX10_as 47 = .ok (.invokevirtual 63, 3) := by decide +kernel
theorem dX10_as_50 : decode cX10_as 50 = .ok (.ireturn, 1) := by decide +kernel
theorem dX10_placeOf_0 : decode cX10_placeOf 0 = .ok (.iload_n 1, 1) := by decide +kernel
theorem dX10_placeOf_1 : decode cX10_placeOf 1 = .ok (.invokestatic 59, 3) := by decide +kernel
theorem dX10_placeOf_4 : decode cX10_placeOf 4 = .ok (.ifCond .eq 12, 3) := by decide +kernel
theorem dX10_placeOf_7 : decode cX10_placeOf 7 = .ok (.iload_n 2, 1) := by decide +kernel
theorem dX10_placeOf_8 : decode cX10_placeOf 8 = .ok (.iconst 0, 1) := by decide +kernel
theorem dX10_placeOf_9 : decode cX10_placeOf 9 = .ok (.iconst 4, 1) := by decide +kernel
theorem dX10_placeOf_10 : decode cX10_placeOf 10 = .ok (.invokestatic 47, 3) := by decide +kernel
theorem dX10_placeOf_13 : decode cX10_placeOf 13 = .ok (.ifCond .ne 10, 3) := by decide +kernel
theorem dX10_placeOf_16 : decode cX10_placeOf 16 = .ok (.aload_n 0, 1) := by decide +kernel
theorem dX10_placeOf_17 : decode cX10_placeOf 17 = .ok (.ldc 38, 2) := by decide +kernel
theorem dX10_placeOf_19 : decode cX10_placeOf 19 = .ok (.invokevirtual 63, 3) := by decide +kernel
theorem dX10_placeOf_22 : decode cX10_placeOf 22 = .ok (.ireturn, 1) := by decide +kernel
theorem dX10_placeOf_23 : decode cX10_placeOf 23 = .ok (.iload_n 2, 1) := by decide +kernel
theorem dX10_placeOf_24 : decode cX10_placeOf 24 = .ok (.iconst 1, 1) := by decide +kernel
theorem dX10_placeOf_25 : decode cX10_placeOf 25 = .ok (.if_icmp .le 18, 3) := by decide +kernel
theorem dX10_placeOf_28 : decode cX10_placeOf 28 = .ok (.aload_n 0, 1) := by decide +kernel
theorem dX10_placeOf_29 : decode cX10_placeOf 29 = .ok (.iload_n 1, 1) := by decide +kernel
theorem dX10_placeOf_30 : decode cX10_placeOf 30 = .ok (.invokevirtual 78, 3) := by decide +kernel
theorem dX10_placeOf_33 : decode cX10_placeOf 33 = .ok (.ifCond .ne 10, 3) := by decide +kernel
theorem dX10_placeOf_36 : decode cX10_placeOf 36 = .ok (.aload_n 0, 1) := by decide +kernel
theorem dX10_placeOf_37 : decode cX10_placeOf 37 = .ok (.ldc 101, 2) := by decide +kernel
theorem dX10_placeOf_39 : decode cX10_placeOf 39 = .ok (.invokevirtual 63, 3) := by decide +kernel
theorem dX10_placeOf_42 : decode cX10_placeOf 42 = .ok (.ireturn, 1) := by decide +kernel
theorem dX10_placeOf_43 : decode cX10_placeOf 43 = .ok (.aload_n 0, 1) := by decide +kernel
theorem dX10_placeOf_44 : decode cX10_placeOf 44 = .ok (.getfield 7, 3) := by decide +kernel
theorem dX10_placeOf_47 : decode cX10_placeOf 47 = .ok (.iconst 5, 1) := by decide +kernel
theorem dX10_placeOf_48 : decode cX10_placeOf 48 = .ok (.bipush 40, 2) := by decide +kernel
theorem dX10_placeOf_50 : decode cX10_placeOf 50 = .ok (.iload_n 2, 1) := by decide +kernel
theorem dX10_placeOf_51 : decode cX10_placeOf 51 = .ok (.imul, 1) := by decide +kernel
theorem dX10_placeOf_52 : decode cX10_placeOf 52 = .ok (.iadd, 1) := by decide +kernel
theorem dX10_placeOf_53 : decode cX10_placeOf 53 = .ok (.iload_n 1, 1) := by decide +kernel
theorem dX10_placeOf_54 : decode cX10_placeOf 54 = .ok (.iadd, 1) := by decide +kernel
theorem dX10_placeOf_55 : decode cX10_placeOf 55 = .ok (.iaload, 1) := by decide +kernel
theorem dX10_placeOf_56 : decode cX10_placeOf 56 = .ok (.ireturn, 1) := by decide +kernel
theorem dX10_wholeSet_0 : decode cX10_wholeSet 0 = .ok (.lconst 0, 1) := by decide +kernel
theorem dX10_wholeSet_1 : decode cX10_wholeSet 1 = .ok (.lstore_n 1, 1) := by decide +kernel
theorem dX10_wholeSet_2 : decode cX10_wholeSet 2 = .ok (.iconst 0, 1) := by decide +kernel
theorem dX10_wholeSet_3 : decode cX10_wholeSet 3 = .ok (.istore_n 3, 1) := by decide +kernel
theorem dX10_wholeSet_4 : decode cX10_wholeSet 4 = .ok (.iload_n 3, 1) := by decide +kernel
theorem dX10_wholeSet_5 : decode cX10_wholeSet 5 = .ok (.bipush 40, 2) := by decide +kernel
theorem dX10_wholeSet_7 : decode cX10_wholeSet 7 = .ok (.if_icmp .ge 27, 3) := by decide +kernel
theorem dX10_wholeSet_10 : decode cX10_wholeSet 10 = .ok (.lload_n 1, 1) := by decide +kernel
theorem dX10_wholeSet_11 : decode cX10_wholeSet 11 = .ok (.aload_n 0, 1) := by decide +kernel
theorem dX10_wholeSet_12 : decode cX10_wholeSet 12 = .ok (.iload_n 3, 1) := by decide +kernel
theorem dX10_wholeSet_13 : decode cX10_wholeSet 13 = .ok (.invokevirtual 78, 3) := by decide +kernel
theorem dX10_wholeSet_16 : decode cX10_wholeSet 16 = .ok (.ifCond .eq 9, 3) := by decide +kernel
theorem dX10_wholeSet_19 : decode cX10_wholeSet 19 = .ok (.lconst 1, 1) := by decide +kernel
theorem dX10_wholeSet_20 : decode cX10_wholeSet 20 = .ok (.iload_n 3, 1) := by decide +kernel
theorem dX10_wholeSet_21 : decode cX10_wholeSet 21 = .ok (.lshl, 1) := by decide +kernel
theorem dX10_wholeSet_22 : decode cX10_wholeSet 22 = .ok (.goto 4, 3) := by decide +kernel
theorem dX10_wholeSet_25 : decode cX10_wholeSet 25 = .ok (.lconst 0, 1) := by decide +kernel
theorem dX10_wholeSet_26 : decode cX10_wholeSet 26 = .ok (.lor, 1) := by decide +kernel
theorem dX10_wholeSet_27 : decode cX10_wholeSet 27 = .ok (.lstore_n 1, 1) := by decide +kernel
theorem dX10_wholeSet_28 : decode cX10_wholeSet 28 = .ok (.iinc 3 1, 3) := by decide +kernel
theorem dX10_wholeSet_31 : decode cX10_wholeSet 31 = .ok (.goto (-27), 3) := by decide +kernel
theorem dX10_wholeSet_34 : decode cX10_wholeSet 34 = .ok (.lload_n 1, 1) := by decide +kernel
theorem dX10_wholeSet_35 : decode cX10_wholeSet 35 = .ok (.lreturn, 1) := by decide +kernel
theorem dX10_whole_0 : decode cX10_whole 0 = .ok (.aload_n 0, 1) := by decide +kernel
theorem dX10_whole_1 : decode cX10_whole 1 = .ok (.invokevirtual 102, 3) := by decide +kernel
theorem dX10_whole_4 : decode cX10_whole 4 = .ok (.lreturn, 1) := by decide +kernel
theorem dX10_cuts_0 : decode cX10_cuts 0 = .ok (.aload_n 0, 1) := by decide +kernel
theorem dX10_cuts_1 : decode cX10_cuts 1 = .ok (.getfield 7, 3) := by decide +kernel
theorem dX10_cuts_4 : decode cX10_cuts 4 = .ok (.aload_n 0, 1) := by decide +kernel
theorem dX10_cuts_5 : decode cX10_cuts 5 = .ok (.getfield 39, 3) := by decide +kernel
theorem dX10_cuts_8 : decode cX10_cuts 8 = .ok (.bipush 45, 2) := by decide +kernel
theorem dX10_cuts_10 : decode cX10_cuts 10 = .ok (.iadd, 1) := by decide +kernel
theorem dX10_cuts_11 : decode cX10_cuts 11 = .ok (.iload_n 1, 1) := by decide +kernel
theorem dX10_cuts_12 : decode cX10_cuts 12 = .ok (.iadd, 1) := by decide +kernel
theorem dX10_cuts_13 : decode cX10_cuts 13 = .ok (.iconst 1, 1) := by decide +kernel
theorem dX10_cuts_14 : decode cX10_cuts 14 = .ok (.iastore, 1) := by decide +kernel
theorem dX10_cuts_15 : decode cX10_cuts 15 = .ok (.aload_n 0, 1) := by decide +kernel
theorem dX10_cuts_16 : decode cX10_cuts 16 = .ok (.getfield 7, 3) := by decide +kernel
theorem dX10_cuts_19 : decode cX10_cuts 19 = .ok (.aload_n 0, 1) := by decide +kernel
theorem dX10_cuts_20 : decode cX10_cuts 20 = .ok (.getfield 39, 3) := by decide +kernel
theorem dX10_cuts_23 : decode cX10_cuts 23 = .ok (.bipush 85, 2) := by decide +kernel
theorem dX10_cuts_25 : decode cX10_cuts 25 = .ok (.iadd, 1) := by decide +kernel
theorem dX10_cuts_26 : decode cX10_cuts 26 = .ok (.iload_n 1, 1) := by decide +kernel
theorem dX10_cuts_27 : decode cX10_cuts 27 = .ok (.iadd, 1) := by decide +kernel
theorem dX10_cuts_28 : decode cX10_cuts 28 = .ok (.iload_n 2, 1) := by decide +kernel
theorem dX10_cuts_29 : decode cX10_cuts 29 = .ok (.iastore, 1) := by decide +kernel
theorem dX10_cuts_30 : decode cX10_cuts 30 = .ok (.aload_n 0, 1) := by decide +kernel
theorem dX10_cuts_31 : decode cX10_cuts 31 = .ok (.getfield 7, 3) := by decide +kernel
theorem dX10_cuts_34 : decode cX10_cuts 34 = .ok (.aload_n 0, 1) := by decide +kernel
theorem dX10_cuts_35 : decode cX10_cuts 35 = .ok (.getfield 39, 3) := by decide +kernel
theorem dX10_cuts_38 : decode cX10_cuts 38 = .ok (.bipush 125, 2) := by decide +kernel
theorem dX10_cuts_40 : decode cX10_cuts 40 = .ok (.iadd, 1) := by decide +kernel
theorem dX10_cuts_41 : decode cX10_cuts 41 = .ok (.iload_n 1, 1) := by decide +kernel
theorem dX10_cuts_42 : decode cX10_cuts 42 = .ok (.iadd, 1) := by decide +kernel
theorem dX10_cuts_43 : decode cX10_cuts 43 = .ok (.iload_n 3, 1) := by decide +kernel
theorem dX10_cuts_44 : decode cX10_cuts 44 = .ok (.iastore, 1) := by decide +kernel
theorem dX10_cuts_45 : decode cX10_cuts 45 = .ok (.aload_n 0, 1) := by decide +kernel
theorem dX10_cuts_46 : decode cX10_cuts 46 = .ok (.getfield 7, 3) := by decide +kernel
theorem dX10_cuts_49 : decode cX10_cuts 49 = .ok (.aload_n 0, 1) := by decide +kernel
theorem dX10_cuts_50 : decode cX10_cuts 50 = .ok (.getfield 39, 3) := by decide +kernel
theorem dX10_cuts_53 : decode cX10_cuts 53 = .ok (.sipush 165, 3) := by decide +kernel
theorem dX10_cuts_56 : decode cX10_cuts 56 = .ok (.iadd, 1) := by decide +kernel
theorem dX10_cuts_57 : decode cX10_cuts 57 = .ok (.iload_n 1, 1) := by decide +kernel
theorem dX10_cuts_58 : decode cX10_cuts 58 = .ok (.iadd, 1) := by decide +kernel
theorem dX10_cuts_59 : decode cX10_cuts 59 = .ok (.aload_n 0, 1) := by decide +kernel
theorem dX10_cuts_60 : decode cX10_cuts 60 = .ok (.iconst 0, 1) := by decide +kernel
theorem dX10_cuts_61 : decode cX10_cuts 61 = .ok (.invokevirtual 43, 3) := by decide +kernel
theorem dX10_cuts_64 : decode cX10_cuts 64 = .ok (.iastore, 1) := by decide +kernel
theorem dX10_cuts_65 : decode cX10_cuts 65 = .ok (.return_, 1) := by decide +kernel
theorem dX10_breaks_0 : decode cX10_breaks 0 = .ok (.aload_n 0, 1) := by decide +kernel
theorem dX10_breaks_1 : decode cX10_breaks 1 = .ok (.getfield 7, 3) := by decide +kernel
theorem dX10_breaks_4 : decode cX10_breaks 4 = .ok (.aload_n 0, 1) := by decide +kernel
theorem dX10_breaks_5 : decode cX10_breaks 5 = .ok (.getfield 39, 3) := by decide +kernel
theorem dX10_breaks_8 : decode cX10_breaks 8 = .ok (.bipush 45, 2) := by decide +kernel
theorem dX10_breaks_10 : decode cX10_breaks 10 = .ok (.iadd, 1) := by decide +kernel
theorem dX10_breaks_11 : decode cX10_breaks 11 = .ok (.iload_n 1, 1) := by decide +kernel
theorem dX10_breaks_12 : decode cX10_breaks 12 = .ok (.iadd, 1) := by decide +kernel
theorem dX10_breaks_13 : decode cX10_breaks 13 = .ok (.iconst 0, 1) := by decide +kernel
theorem dX10_breaks_14 : decode cX10_breaks 14 = .ok (.iastore, 1) := by decide +kernel
theorem dX10_breaks_15 : decode cX10_breaks 15 = .ok (.aload_n 0, 1) := by decide +kernel
theorem dX10_breaks_16 : decode cX10_breaks 16 = .ok (.getfield 7, 3) := by decide +kernel
theorem dX10_breaks_19 : decode cX10_breaks 19 = .ok (.aload_n 0, 1) := by decide +kernel
theorem dX10_breaks_20 : decode cX10_breaks 20 = .ok (.getfield 39, 3) := by decide +kernel
theorem dX10_breaks_23 : decode cX10_breaks 23 = .ok (.bipush 85, 2) := by decide +kernel
theorem dX10_breaks_25 : decode cX10_breaks 25 = .ok (.iadd, 1) := by decide +kernel
theorem dX10_breaks_26 : decode cX10_breaks 26 = .ok (.iload_n 1, 1) := by decide +kernel
theorem dX10_breaks_27 : decode cX10_breaks 27 = .ok (.iadd, 1) := by decide +kernel
theorem dX10_breaks_28 : decode cX10_breaks 28 = .ok (.iconst 0, 1) := by decide +kernel
theorem dX10_breaks_29 : decode cX10_breaks 29 = .ok (.iastore, 1) := by decide +kernel
theorem dX10_breaks_30 : decode cX10_breaks 30 = .ok (.aload_n 0, 1) := by decide +kernel
theorem dX10_breaks_31 : decode cX10_breaks 31 = .ok (.getfield 7, 3) := by decide +kernel
theorem dX10_breaks_34 : decode cX10_breaks 34 = .ok (.aload_n 0, 1) := by decide +kernel
theorem dX10_breaks_35 : decode cX10_breaks 35 = .ok (.getfield 39, 3) := by decide +kernel
theorem dX10_breaks_38 : decode cX10_breaks 38 = .ok (.bipush 125, 2) := by decide +kernel
theorem dX10_breaks_40 : decode cX10_breaks 40 = .ok (.iadd, 1) := by decide +kernel
theorem dX10_breaks_41 : decode cX10_breaks 41 = .ok (.iload_n 1, 1) := by decide +kernel
theorem dX10_breaks_42 : decode cX10_breaks 42 = .ok (.iadd, 1) := by decide +kernel
theorem dX10_breaks_43 : decode cX10_breaks 43 = .ok (.iconst 0, 1) := by decide +kernel
theorem dX10_breaks_44 : decode cX10_breaks 44 = .ok (.iastore, 1) := by decide +kernel
theorem dX10_breaks_45 : decode cX10_breaks 45 = .ok (.aload_n 0, 1) := by decide +kernel
theorem dX10_breaks_46 : decode cX10_breaks 46 = .ok (.getfield 7, 3) := by decide +kernel
theorem dX10_breaks_49 : decode cX10_breaks 49 = .ok (.aload_n 0, 1) := by decide +kernel
theorem dX10_breaks_50 : decode cX10_breaks 50 = .ok (.getfield 39, 3) := by decide +kernel
theorem dX10_breaks_53 : decode cX10_breaks 53 = .ok (.sipush 165, 3) := by decide +kernel
theorem dX10_breaks_56 : decode cX10_breaks 56 = .ok (.iadd, 1) := by decide +kernel
theorem dX10_breaks_57 : decode cX10_breaks 57 = .ok (.iload_n 1, 1) := by decide +kernel
theorem dX10_breaks_58 : decode cX10_breaks 58 = .ok (.iadd, 1) := by decide +kernel
theorem dX10_breaks_59 : decode cX10_breaks 59 = .ok (.iconst 0, 1) := by decide +kernel
theorem dX10_breaks_60 : decode cX10_breaks 60 = .ok (.iastore, 1) := by decide +kernel
theorem dX10_breaks_61 : decode cX10_breaks 61 = .ok (.return_, 1) := by decide +kernel
theorem dX10_make_0 : decode cX10_make 0 = .ok (.iload_n 1, 1) := by decide +kernel
theorem dX10_make_1 : decode cX10_make 1 = .ok (.invokestatic 59, 3) := by decide +kernel
theorem dX10_make_4 : decode cX10_make 4 = .ok (.ifCond .eq 11, 3) := by decide +kernel
theorem dX10_make_7 : decode cX10_make 7 = .ok (.aload_n 0, 1) := by decide +kernel
theorem dX10_make_8 : decode cX10_make 8 = .ok (.iload_n 3, 1) := by decide +kernel
theorem dX10_make_9 : decode cX10_make 9 = .ok (.invokevirtual 81, 3) := by decide +kernel
theorem dX10_make_12 : decode cX10_make 12 = .ok (.ifCond .ne 10, 3) := by decide +kernel
theorem dX10_make_15 : decode cX10_make 15 = .ok (.aload_n 0, 1) := by decide +kernel
theorem dX10_make_16 : decode cX10_make 16 = .ok (.ldc 38, 2) := by decide +kernel
theorem dX10_make_18 : decode cX10_make 18 = .ok (.invokevirtual 63, 3) := by decide +kernel
theorem dX10_make_21 : decode cX10_make 21 = .ok (.ireturn, 1) := by decide +kernel
theorem dX10_make_22 : decode cX10_make 22 = .ok (.aload_n 0, 1) := by decide +kernel
theorem dX10_make_23 : decode cX10_make 23 = .ok (.iload_n 1, 1) := by decide +kernel
theorem dX10_make_24 : decode cX10_make 24 = .ok (.invokevirtual 78, 3) := by decide +kernel
theorem dX10_make_27 : decode cX10_make 27 = .ok (.iload_n 2, 1) := by decide +kernel
theorem dX10_make_28 : decode cX10_make 28 = .ok (.if_icmp .ne 5, 3) := by decide +kernel
theorem dX10_make_31 : decode cX10_make 31 = .ok (.iconst 0, 1) := by decide +kernel
theorem dX10_make_32 : decode cX10_make 32 = .ok (.ireturn, 1) := by decide +kernel
theorem dX10_make_33 : decode cX10_make 33 = .ok (.iload_n 2, 1) := by decide +kernel
theorem dX10_make_34 : decode cX10_make 34 = .ok (.ifCond .eq 14, 3) := by decide +kernel
theorem dX10_make_37 : decode cX10_make 37 = .ok (.aload_n 0, 1) := by decide +kernel
theorem dX10_make_38 : decode cX10_make 38 = .ok (.iload_n 1, 1) := by decide +kernel
theorem dX10_make_39 : decode cX10_make 39 = .ok (.bipush 10, 2) := by decide +kernel
theorem dX10_make_41 : decode cX10_make 41 = .ok (.iload_n 3, 1) := by decide +kernel
theorem dX10_make_42 : decode cX10_make 42 = .ok (.invokevirtual 106, 3) := by decide +kernel
theorem dX10_make_45 : decode cX10_make 45 = .ok (.goto 8, 3) := by decide +kernel
theorem dX10_make_48 : decode cX10_make 48 = .ok (.aload_n 0, 1) := by decide +kernel
theorem dX10_make_49 : decode cX10_make 49 = .ok (.iload_n 1, 1) := by decide +kernel
theorem dX10_make_50 : decode cX10_make 50 = .ok (.invokevirtual 109, 3) := by decide +kernel
theorem dX10_make_53 : decode cX10_make 53 = .ok (.iconst 1, 1) := by decide +kernel
theorem dX10_make_54 : decode cX10_make 54 = .ok (.ireturn, 1) := by decide +kernel
theorem dX10_rises_0 : decode cX10_rises 0 = .ok (.aload_n 0, 1) := by decide +kernel
theorem dX10_rises_1 : decode cX10_rises 1 = .ok (.bipush 85, 2) := by decide +kernel
theorem dX10_rises_3 : decode cX10_rises 3 = .ok (.iload_n 1, 1) := by decide +kernel
theorem dX10_rises_4 : decode cX10_rises 4 = .ok (.iadd, 1) := by decide +kernel
theorem dX10_rises_5 : decode cX10_rises 5 = .ok (.invokevirtual 43, 3) := by decide +kernel
theorem dX10_rises_8 : decode cX10_rises 8 = .ok (.aload_n 0, 1) := by decide +kernel
theorem dX10_rises_9 : decode cX10_rises 9 = .ok (.bipush 85, 2) := by decide +kernel
theorem dX10_rises_11 : decode cX10_rises 11 = .ok (.iload_n 1, 1) := by decide +kernel
theorem dX10_rises_12 : decode cX10_rises 12 = .ok (.iadd, 1) := by decide +kernel
theorem dX10_rises_13 : decode cX10_rises 13 = .ok (.iconst 1, 1) := by decide +kernel
theorem dX10_rises_14 : decode cX10_rises 14 = .ok (.isub, 1) := by decide +kernel
theorem dX10_rises_15 : decode cX10_rises 15 = .ok (.invokevirtual 43, 3) := by decide +kernel
theorem dX10_rises_18 : decode cX10_rises 18 = .ok (.isub, 1) := by decide +kernel
theorem dX10_rises_19 : decode cX10_rises 19 = .ok (.ireturn, 1) := by decide +kernel
theorem dX10_meets_0 : decode cX10_meets 0 = .ok (.aload_n 0, 1) := by decide +kernel
theorem dX10_meets_1 : decode cX10_meets 1 = .ok (.iload_n 1, 1) := by decide +kernel
theorem dX10_meets_2 : decode cX10_meets 2 = .ok (.invokevirtual 113, 3) := by decide +kernel
theorem dX10_meets_5 : decode cX10_meets 5 = .ok (.iconst 0, 1) := by decide +kernel
theorem dX10_meets_6 : decode cX10_meets 6 = .ok (.aload_n 0, 1) := by decide +kernel
theorem dX10_meets_7 : decode cX10_meets 7 = .ok (.iconst 2, 1) := by decide +kernel
theorem dX10_meets_8 : decode cX10_meets 8 = .ok (.invokevirtual 43, 3) := by decide +kernel
theorem dX10_meets_11 : decode cX10_meets 11 = .ok (.isub, 1) := by decide +kernel
theorem dX10_meets_12 : decode cX10_meets 12 = .ok (.aload_n 0, 1) := by decide +kernel
theorem dX10_meets_13 : decode cX10_meets 13 = .ok (.iconst 2, 1) := by decide +kernel
theorem dX10_meets_14 : decode cX10_meets 14 = .ok (.invokevirtual 43, 3) := by decide +kernel
theorem dX10_meets_17 : decode cX10_meets 17 = .ok (.invokestatic 47, 3) := by decide +kernel
theorem dX10_meets_20 : decode cX10_meets 20 = .ok (.ireturn, 1) := by decide +kernel
theorem dX10_reachNow_0 : decode cX10_reachNow 0 = .ok (.iconst 0, 1) := by decide +kernel
theorem dX10_reachNow_1 : decode cX10_reachNow 1 = .ok (.istore_n 1, 1) := by decide +kernel
theorem dX10_reachNow_2 : decode cX10_reachNow 2 = .ok (.iload_n 1, 1) := by decide +kernel
theorem dX10_reachNow_3 : decode cX10_reachNow 3 = .ok (.bipush 40, 2) := by decide +kernel
theorem dX10_reachNow_5 : decode cX10_reachNow 5 = .ok (.if_icmp .ge 37, 3) := by decide +kernel
theorem dX10_reachNow_8 : decode cX10_reachNow 8 = .ok (.aload_n 0, 1) := by decide +kernel
theorem dX10_reachNow_9 : decode cX10_reachNow 9 = .ok (.iload_n 1, 1) := by decide +kernel
theorem dX10_reachNow_10 : decode cX10_reachNow 10 = .ok (.invokevirtual 78, 3) := by decide +kernel
theorem dX10_reachNow_13 : decode cX10_reachNow 13 = .ok (.ifCond .eq 29, 3) := by decide +kernel
theorem dX10_reachNow_16 : decode cX10_reachNow 16 = .ok (.iload_n 1, 1) := by decide +kernel
theorem dX10_reachNow_17 : decode cX10_reachNow 17 = .ok (.ifCond .eq 19, 3) := by decide +kernel
theorem dX10_reachNow_20 : decode cX10_reachNow 20 = .ok (.aload_n 0, 1) := by decide +kernel
theorem dX10_reachNow_21 : decode cX10_reachNow 21 = .ok (.iload_n 1, 1) := by decide +kernel
theorem dX10_reachNow_22 : decode cX10_reachNow 22 = .ok (.ifCond .ne 7, 3) := by decide +kernel
theorem dX10_reachNow_25 : decode cX10_reachNow 25 = .ok (.iconst 1, 1) := by decide +kernel
theorem dX10_reachNow_26 : decode cX10_reachNow 26 = .ok (.goto 4, 3) := by decide +kernel
theorem dX10_reachNow_29 : decode cX10_reachNow 29 = .ok (.iload_n 1, 1) := by decide +kernel
theorem dX10_reachNow_30 : decode cX10_reachNow 30 = .ok (.invokevirtual 116, 3) := by decide +kernel
theorem dX10_reachNow_33 : decode cX10_reachNow 33 = .ok (.ifCond .eq 9, 3) := by decide +kernel
theorem dX10_reachNow_36 : decode cX10_reachNow 36 = .ok (.iinc 1 1, 3) := by decide +kernel
theorem dX10_reachNow_39 : decode cX10_reachNow 39 = .ok (.goto (-37), 3) := by decide +kernel
theorem dX10_reachNow_42 : decode cX10_reachNow 42 = .ok (.iload_n 1, 1) := by decide +kernel
theorem dX10_reachNow_43 : decode cX10_reachNow 43 = .ok (.ireturn, 1) := by decide +kernel
theorem dX10_reach_0 : decode cX10_reach 0 = .ok (.aload_n 0, 1) := by decide +kernel
theorem dX10_reach_1 : decode cX10_reach 1 = .ok (.invokevirtual 119, 3) := by decide +kernel
theorem dX10_reach_4 : decode cX10_reach 4 = .ok (.ireturn, 1) := by decide +kernel
theorem dX10_areBoth_0 : decode cX10_areBoth 0 = .ok (.aload_n 0, 1) := by decide +kernel
theorem dX10_areBoth_1 : decode cX10_areBoth 1 = .ok (.iload_n 1, 1) := by decide +kernel
theorem dX10_areBoth_2 : decode cX10_areBoth 2 = .ok (.invokevirtual 78, 3) := by decide +kernel
theorem dX10_areBoth_5 : decode cX10_areBoth 5 = .ok (.ifCond .eq 17, 3) := by decide +kernel
theorem dX10_areBoth_8 : decode cX10_areBoth 8 = .ok (.aload_n 0, 1) := by decide +kernel
theorem dX10_areBoth_9 : decode cX10_areBoth 9 = .ok (.iload_n 1, 1) := by decide +kernel
theorem dX10_areBoth_10 : decode cX10_areBoth 10 = .ok (.iconst 1, 1) := by decide +kernel
theorem dX10_areBoth_11 : decode cX10_areBoth 11 = .ok (.isub, 1) := by decide +kernel
theorem dX10_areBoth_12 : decode cX10_areBoth 12 = .ok (.invokevirtual 78, 3) := by decide +kernel
theorem dX10_areBoth_15 : decode cX10_areBoth 15 = .ok (.ifCond .eq 7, 3) := by decide +kernel
theorem dX10_areBoth_18 : decode cX10_areBoth 18 = .ok (.iconst 1, 1) := by decide +kernel
theorem dX10_areBoth_19 : decode cX10_areBoth 19 = .ok (.goto 4, 3) := by decide +kernel
theorem dX10_areBoth_22 : decode cX10_areBoth 22 = .ok (.iconst 0, 1) := by decide +kernel
theorem dX10_areBoth_23 : decode cX10_areBoth 23 = .ok (.ireturn, 1) := by decide +kernel
theorem dX10_faults_0 : decode cX10_faults 0 = .ok (.lconst 0, 1) := by decide +kernel
theorem dX10_faults_1 : decode cX10_faults 1 = .ok (.lstore_n 1, 1) := by decide +kernel
end
section
theorem dX10_faults_2 : decode cX10_faults 2 = .ok (.iconst 1, 1) := by decide +kernel
theorem dX10_faults_3 : decode cX10_faults 3 = .ok (.istore_n 3, 1) := by decide +kernel
theorem dX10_faults_4 : decode cX10_faults 4 = .ok (.iload_n 3, 1) := by decide +kernel
theorem dX10_faults_5 : decode cX10_faults 5 = .ok (.bipush 40, 2) := by decide +kernel
theorem dX10_faults_7 : decode cX10_faults 7 = .ok (.if_icmp .ge 35, 3) := by decide +kernel
theorem dX10_faults_10 : decode cX10_faults 10 = .ok (.lload_n 1, 1) := by decide +kernel
theorem dX10_faults_11 : decode cX10_faults 11 = .ok (.aload_n 0, 1) := by decide +kernel
theorem dX10_faults_12 : decode cX10_faults 12 = .ok (.iload_n 3, 1) := by decide +kernel
theorem dX10_faults_13 : decode cX10_faults 13 = .ok (.invokevirtual 122, 3) := by decide +kernel
theorem dX10_faults_16 : decode cX10_faults 16 = .ok (.ifCond .eq 17, 3) := by decide +kernel
theorem dX10_faults_19 : decode cX10_faults 19 = .ok (.aload_n 0, 1) := by decide +kernel
theorem dX10_faults_20 : decode cX10_faults 20 = .ok (.iload_n 3, 1) := by decide +kernel
theorem dX10_faults_21 : decode cX10_faults 21 = .ok (.invokevirtual 116, 3) := by decide +kernel
theorem dX10_faults_24 : decode cX10_faults 24 = .ok (.ifCond .ne 9, 3) := by decide +kernel
theorem dX10_faults_27 : decode cX10_faults 27 = .ok (.lconst 1, 1) := by decide +kernel
theorem dX10_faults_28 : decode cX10_faults 28 = .ok (.iload_n 3, 1) := by decide +kernel
theorem dX10_faults_29 : decode cX10_faults 29 = .ok (.lshl, 1) := by decide +kernel
theorem dX10_faults_30 : decode cX10_faults 30 = .ok (.goto 4, 3) := by decide +kernel
theorem dX10_faults_33 : decode cX10_faults 33 = .ok (.lconst 0, 1) := by decide +kernel
theorem dX10_faults_34 : decode cX10_faults 34 = .ok (.lor, 1) := by decide +kernel
theorem dX10_faults_35 : decode cX10_faults 35 = .ok (.lstore_n 1, 1) := by decide +kernel
theorem dX10_faults_36 : decode cX10_faults 36 = .ok (.iinc 3 1, 3) := by decide +kernel
theorem dX10_faults_39 : decode cX10_faults 39 = .ok (.goto (-35), 3) := by decide +kernel
theorem dX10_faults_42 : decode cX10_faults 42 = .ok (.lload_n 1, 1) := by decide +kernel
theorem dX10_faults_43 : decode cX10_faults 43 = .ok (.lreturn, 1) := by decide +kernel
theorem dX10_serves_0 : decode cX10_serves 0 = .ok (.aload_n 0, 1) := by decide +kernel
theorem dX10_serves_1 : decode cX10_serves 1 = .ok (.iload_n 1, 1) := by decide +kernel
theorem dX10_serves_2 : decode cX10_serves 2 = .ok (.iconst 1, 1) := by decide +kernel
theorem dX10_serves_3 : decode cX10_serves 3 = .ok (.invokevirtual 51, 3) := by decide +kernel
theorem dX10_serves_6 : decode cX10_serves 6 = .ok (.ifCond .eq 12, 3) := by decide +kernel
theorem dX10_serves_9 : decode cX10_serves 9 = .ok (.aload_n 0, 1) := by decide +kernel
theorem dX10_serves_10 : decode cX10_serves 10 = .ok (.invokevirtual 55, 3) := by decide +kernel
theorem dX10_serves_13 : decode cX10_serves 13 = .ok (.bipush 40, 2) := by decide +kernel
theorem dX10_serves_15 : decode cX10_serves 15 = .ok (.if_icmp .ne 4, 3) := by decide +kernel
theorem dX10_serves_18 : decode cX10_serves 18 = .ok (.return_, 1) := by decide +kernel
theorem dX10_serves_19 : decode cX10_serves 19 = .ok (.aload_n 0, 1) := by decide +kernel
theorem dX10_serves_20 : decode cX10_serves 20 = .ok (.aload_n 0, 1) := by decide +kernel
theorem dX10_serves_21 : decode cX10_serves 21 = .ok (.iload_n 1, 1) := by decide +kernel
theorem dX10_serves_22 : decode cX10_serves 22 = .ok (.iconst 2, 1) := by decide +kernel
theorem dX10_serves_23 : decode cX10_serves 23 = .ok (.invokevirtual 51, 3) := by decide +kernel
theorem dX10_serves_26 : decode cX10_serves 26 = .ok (.invokevirtual 78, 3) := by decide +kernel
theorem dX10_serves_29 : decode cX10_serves 29 = .ok (.ifCond .eq 30, 3) := by decide +kernel
theorem dX10_serves_32 : decode cX10_serves 32 = .ok (.aload_n 0, 1) := by decide +kernel
theorem dX10_serves_33 : decode cX10_serves 33 = .ok (.iload_n 1, 1) := by decide +kernel
theorem dX10_serves_34 : decode cX10_serves 34 = .ok (.iconst 2, 1) := by decide +kernel
theorem dX10_serves_35 : decode cX10_serves 35 = .ok (.aload_n 0, 1) := by decide +kernel
theorem dX10_serves_36 : decode cX10_serves 36 = .ok (.iload_n 1, 1) := by decide +kernel
theorem dX10_serves_37 : decode cX10_serves 37 = .ok (.iconst 2, 1) := by decide +kernel
theorem dX10_serves_38 : decode cX10_serves 38 = .ok (.invokevirtual 51, 3) := by decide +kernel
theorem dX10_serves_41 : decode cX10_serves 41 = .ok (.iconst 1, 1) := by decide +kernel
theorem dX10_serves_42 : decode cX10_serves 42 = .ok (.iadd, 1) := by decide +kernel
theorem dX10_serves_43 : decode cX10_serves 43 = .ok (.bipush 40, 2) := by decide +kernel
theorem dX10_serves_45 : decode cX10_serves 45 = .ok (.irem, 1) := by decide +kernel
theorem dX10_serves_46 : decode cX10_serves 46 = .ok (.invokevirtual 66, 3) := by decide +kernel
theorem dX10_serves_49 : decode cX10_serves 49 = .ok (.aload_n 0, 1) := by decide +kernel
theorem dX10_serves_50 : decode cX10_serves 50 = .ok (.iload_n 1, 1) := by decide +kernel
theorem dX10_serves_51 : decode cX10_serves 51 = .ok (.iconst 4, 1) := by decide +kernel
theorem dX10_serves_52 : decode cX10_serves 52 = .ok (.iconst 0, 1) := by decide +kernel
theorem dX10_serves_53 : decode cX10_serves 53 = .ok (.invokevirtual 66, 3) := by decide +kernel
theorem dX10_serves_56 : decode cX10_serves 56 = .ok (.goto (-37), 3) := by decide +kernel
theorem dX10_serves_59 : decode cX10_serves 59 = .ok (.aload_n 0, 1) := by decide +kernel
theorem dX10_serves_60 : decode cX10_serves 60 = .ok (.iload_n 1, 1) := by decide +kernel
theorem dX10_serves_61 : decode cX10_serves 61 = .ok (.iconst 2, 1) := by decide +kernel
theorem dX10_serves_62 : decode cX10_serves 62 = .ok (.invokevirtual 51, 3) := by decide +kernel
theorem dX10_serves_65 : decode cX10_serves 65 = .ok (.istore_n 2, 1) := by decide +kernel
theorem dX10_serves_66 : decode cX10_serves 66 = .ok (.aload_n 0, 1) := by decide +kernel
theorem dX10_serves_67 : decode cX10_serves 67 = .ok (.iload_n 1, 1) := by decide +kernel
theorem dX10_serves_68 : decode cX10_serves 68 = .ok (.iconst 4, 1) := by decide +kernel
theorem dX10_serves_69 : decode cX10_serves 69 = .ok (.invokevirtual 51, 3) := by decide +kernel
theorem dX10_serves_72 : decode cX10_serves 72 = .ok (.aload_n 0, 1) := by decide +kernel
theorem dX10_serves_73 : decode cX10_serves 73 = .ok (.iload_n 1, 1) := by decide +kernel
theorem dX10_serves_74 : decode cX10_serves 74 = .ok (.invokevirtual 84, 3) := by decide +kernel
theorem dX10_serves_77 : decode cX10_serves 77 = .ok (.iadd, 1) := by decide +kernel
theorem dX10_serves_78 : decode cX10_serves 78 = .ok (.istore_n 3, 1) := by decide +kernel
theorem dX10_serves_79 : decode cX10_serves 79 = .ok (.aload_n 0, 1) := by decide +kernel
theorem dX10_serves_80 : decode cX10_serves 80 = .ok (.iload_n 1, 1) := by decide +kernel
theorem dX10_serves_81 : decode cX10_serves 81 = .ok (.iconst 4, 1) := by decide +kernel
theorem dX10_serves_82 : decode cX10_serves 82 = .ok (.iload_n 3, 1) := by decide +kernel
theorem dX10_serves_83 : decode cX10_serves 83 = .ok (.invokevirtual 66, 3) := by decide +kernel
theorem dX10_serves_86 : decode cX10_serves 86 = .ok (.iload_n 3, 1) := by decide +kernel
theorem dX10_serves_87 : decode cX10_serves 87 = .ok (.aload_n 0, 1) := by decide +kernel
theorem dX10_serves_88 : decode cX10_serves 88 = .ok (.iconst 5, 1) := by decide +kernel
theorem dX10_serves_89 : decode cX10_serves 89 = .ok (.iload_n 2, 1) := by decide +kernel
theorem dX10_serves_90 : decode cX10_serves 90 = .ok (.iadd, 1) := by decide +kernel
theorem dX10_serves_91 : decode cX10_serves 91 = .ok (.invokevirtual 43, 3) := by decide +kernel
theorem dX10_serves_94 : decode cX10_serves 94 = .ok (.if_icmp .lt 63, 3) := by decide +kernel
theorem dX10_serves_97 : decode cX10_serves 97 = .ok (.aload_n 0, 1) := by decide +kernel
theorem dX10_serves_98 : decode cX10_serves 98 = .ok (.iload_n 2, 1) := by decide +kernel
theorem dX10_serves_99 : decode cX10_serves 99 = .ok (.aload_n 0, 1) := by decide +kernel
theorem dX10_serves_100 : decode cX10_serves 100 = .ok (.iload_n 1, 1) := by decide +kernel
theorem dX10_serves_101 : decode cX10_serves 101 = .ok (.iload_n 2, 1) := by decide +kernel
theorem dX10_serves_102 : decode cX10_serves 102 = .ok (.invokevirtual 87, 3) := by decide +kernel
theorem dX10_serves_105 : decode cX10_serves 105 = .ok (.iload_n 1, 1) := by decide +kernel
theorem dX10_serves_106 : decode cX10_serves 106 = .ok (.invokevirtual 106, 3) := by decide +kernel
theorem dX10_serves_109 : decode cX10_serves 109 = .ok (.aload_n 0, 1) := by decide +kernel
theorem dX10_serves_110 : decode cX10_serves 110 = .ok (.iload_n 1, 1) := by decide +kernel
theorem dX10_serves_111 : decode cX10_serves 111 = .ok (.iconst 1, 1) := by decide +kernel
theorem dX10_serves_112 : decode cX10_serves 112 = .ok (.invokevirtual 51, 3) := by decide +kernel
theorem dX10_serves_115 : decode cX10_serves 115 = .ok (.aload_n 0, 1) := by decide +kernel
theorem dX10_serves_116 : decode cX10_serves 116 = .ok (.iload_n 1, 1) := by decide +kernel
theorem dX10_serves_117 : decode cX10_serves 117 = .ok (.iconst 0, 1) := by decide +kernel
theorem dX10_serves_118 : decode cX10_serves 118 = .ok (.invokevirtual 51, 3) := by decide +kernel
theorem dX10_serves_121 : decode cX10_serves 121 = .ok (.iconst 4, 1) := by decide +kernel
theorem dX10_serves_122 : decode cX10_serves 122 = .ok (.if_icmp .ne 7, 3) := by decide +kernel
theorem dX10_serves_125 : decode cX10_serves 125 = .ok (.iconst 2, 1) := by decide +kernel
theorem dX10_serves_126 : decode cX10_serves 126 = .ok (.goto 4, 3) := by decide +kernel
theorem dX10_serves_129 : decode cX10_serves 129 = .ok (.iconst 1, 1) := by decide +kernel
theorem dX10_serves_130 : decode cX10_serves 130 = .ok (.isub, 1) := by decide +kernel
theorem dX10_serves_131 : decode cX10_serves 131 = .ok (.istore 4, 2) := by decide +kernel
theorem dX10_serves_133 : decode cX10_serves 133 = .ok (.aload_n 0, 1) := by decide +kernel
theorem dX10_serves_134 : decode cX10_serves 134 = .ok (.iload_n 1, 1) := by decide +kernel
theorem dX10_serves_135 : decode cX10_serves 135 = .ok (.iconst 1, 1) := by decide +kernel
theorem dX10_serves_136 : decode cX10_serves 136 = .ok (.iload 4, 2) := by decide +kernel
theorem dX10_serves_138 : decode cX10_serves 138 = .ok (.ifCond .ge 7, 3) := by decide +kernel
theorem dX10_serves_141 : decode cX10_serves 141 = .ok (.iconst 0, 1) := by decide +kernel
theorem dX10_serves_142 : decode cX10_serves 142 = .ok (.goto 5, 3) := by decide +kernel
theorem dX10_serves_145 : decode cX10_serves 145 = .ok (.iload 4, 2) := by decide +kernel
theorem dX10_serves_147 : decode cX10_serves 147 = .ok (.invokevirtual 66, 3) := by decide +kernel
theorem dX10_serves_150 : decode cX10_serves 150 = .ok (.aload_n 0, 1) := by decide +kernel
theorem dX10_serves_151 : decode cX10_serves 151 = .ok (.iload_n 1, 1) := by decide +kernel
theorem dX10_serves_152 : decode cX10_serves 152 = .ok (.iconst 4, 1) := by decide +kernel
theorem dX10_serves_153 : decode cX10_serves 153 = .ok (.iconst 0, 1) := by decide +kernel
theorem dX10_serves_154 : decode cX10_serves 154 = .ok (.invokevirtual 66, 3) := by decide +kernel
theorem dX10_serves_157 : decode cX10_serves 157 = .ok (.return_, 1) := by decide +kernel
theorem dX10_freezes_0 : decode cX10_freezes 0 = .ok (.iconst 0, 1) := by decide +kernel
theorem dX10_freezes_1 : decode cX10_freezes 1 = .ok (.istore_n 1, 1) := by decide +kernel
theorem dX10_freezes_2 : decode cX10_freezes 2 = .ok (.iload_n 1, 1) := by decide +kernel
theorem dX10_freezes_3 : decode cX10_freezes 3 = .ok (.bipush 40, 2) := by decide +kernel
theorem dX10_freezes_5 : decode cX10_freezes 5 = .ok (.if_icmp .ge 62, 3) := by decide +kernel
theorem dX10_freezes_8 : decode cX10_freezes 8 = .ok (.aload_n 0, 1) := by decide +kernel
theorem dX10_freezes_9 : decode cX10_freezes 9 = .ok (.iload_n 1, 1) := by decide +kernel
theorem dX10_freezes_10 : decode cX10_freezes 10 = .ok (.invokevirtual 78, 3) := by decide +kernel
theorem dX10_freezes_13 : decode cX10_freezes 13 = .ok (.ifCond .eq 48, 3) := by decide +kernel
theorem dX10_freezes_16 : decode cX10_freezes 16 = .ok (.aload_n 0, 1) := by decide +kernel
theorem dX10_freezes_17 : decode cX10_freezes 17 = .ok (.iconst 3, 1) := by decide +kernel
theorem dX10_freezes_18 : decode cX10_freezes 18 = .ok (.invokevirtual 43, 3) := by decide +kernel
theorem dX10_freezes_21 : decode cX10_freezes 21 = .ok (.ldc 125, 2) := by decide +kernel
theorem dX10_freezes_23 : decode cX10_freezes 23 = .ok (.imul, 1) := by decide +kernel
theorem dX10_freezes_24 : decode cX10_freezes 24 = .ok (.sipush 12345, 3) := by decide +kernel
theorem dX10_freezes_27 : decode cX10_freezes 27 = .ok (.iadd, 1) := by decide +kernel
theorem dX10_freezes_28 : decode cX10_freezes 28 = .ok (.istore_n 2, 1) := by decide +kernel
theorem dX10_freezes_29 : decode cX10_freezes 29 = .ok (.aload_n 0, 1) := by decide +kernel
theorem dX10_freezes_30 : decode cX10_freezes 30 = .ok (.getfield 7, 3) := by decide +kernel
theorem dX10_freezes_33 : decode cX10_freezes 33 = .ok (.aload_n 0, 1) := by decide +kernel
theorem dX10_freezes_34 : decode cX10_freezes 34 = .ok (.getfield 39, 3) := by decide +kernel
theorem dX10_freezes_37 : decode cX10_freezes 37 = .ok (.iconst 3, 1) := by decide +kernel
theorem dX10_freezes_38 : decode cX10_freezes 38 = .ok (.iadd, 1) := by decide +kernel
theorem dX10_freezes_39 : decode cX10_freezes 39 = .ok (.iload_n 2, 1) := by decide +kernel
theorem dX10_freezes_40 : decode cX10_freezes 40 = .ok (.iastore, 1) := by decide +kernel
theorem dX10_freezes_41 : decode cX10_freezes 41 = .ok (.iload_n 2, 1) := by decide +kernel
theorem dX10_freezes_42 : decode cX10_freezes 42 = .ok (.bipush 8, 2) := by decide +kernel
theorem dX10_freezes_44 : decode cX10_freezes 44 = .ok (.iushr, 1) := by decide +kernel
theorem dX10_freezes_45 : decode cX10_freezes 45 = .ok (.bipush 10, 2) := by decide +kernel
theorem dX10_freezes_47 : decode cX10_freezes 47 = .ok (.irem, 1) := by decide +kernel
theorem dX10_freezes_48 : decode cX10_freezes 48 = .ok (.aload_n 0, 1) := by decide +kernel
theorem dX10_freezes_49 : decode cX10_freezes 49 = .ok (.iconst 1, 1) := by decide +kernel
theorem dX10_freezes_50 : decode cX10_freezes 50 = .ok (.invokevirtual 43, 3) := by decide +kernel
theorem dX10_freezes_53 : decode cX10_freezes 53 = .ok (.if_icmp .ge 8, 3) := by decide +kernel
theorem dX10_freezes_56 : decode cX10_freezes 56 = .ok (.aload_n 0, 1) := by decide +kernel
theorem dX10_freezes_57 : decode cX10_freezes 57 = .ok (.iload_n 1, 1) := by decide +kernel
theorem dX10_freezes_58 : decode cX10_freezes 58 = .ok (.invokevirtual 109, 3) := by decide +kernel
theorem dX10_freezes_61 : decode cX10_freezes 61 = .ok (.iinc 1 1, 3) := by decide +kernel
theorem dX10_freezes_64 : decode cX10_freezes 64 = .ok (.goto (-62), 3) := by decide +kernel
theorem dX10_freezes_67 : decode cX10_freezes 67 = .ok (.return_, 1) := by decide +kernel
theorem dX10_yearGoes_0 : decode cX10_yearGoes 0 = .ok (.iconst 0, 1) := by decide +kernel
theorem dX10_yearGoes_1 : decode cX10_yearGoes 1 = .ok (.istore_n 1, 1) := by decide +kernel
theorem dX10_yearGoes_2 : decode cX10_yearGoes 2 = .ok (.iload_n 1, 1) := by decide +kernel
theorem dX10_yearGoes_3 : decode cX10_yearGoes 3 = .ok (.aload_n 0, 1) := by decide +kernel
theorem dX10_yearGoes_4 : decode cX10_yearGoes 4 = .ok (.iconst 4, 1) := by decide +kernel
theorem dX10_yearGoes_5 : decode cX10_yearGoes 5 = .ok (.invokevirtual 43, 3) := by decide +kernel
theorem dX10_yearGoes_8 : decode cX10_yearGoes 8 = .ok (.if_icmp .ge 14, 3) := by decide +kernel
theorem dX10_yearGoes_11 : decode cX10_yearGoes 11 = .ok (.aload_n 0, 1) := by decide +kernel
theorem dX10_yearGoes_12 : decode cX10_yearGoes 12 = .ok (.iload_n 1, 1) := by decide +kernel
theorem dX10_yearGoes_13 : decode cX10_yearGoes 13 = .ok (.invokevirtual 126, 3) := by decide +kernel
theorem dX10_yearGoes_16 : decode cX10_yearGoes 16 = .ok (.iinc 1 1, 3) := by decide +kernel
theorem dX10_yearGoes_19 : decode cX10_yearGoes 19 = .ok (.goto (-17), 3) := by decide +kernel
theorem dX10_yearGoes_22 : decode cX10_yearGoes 22 = .ok (.aload_n 0, 1) := by decide +kernel
theorem dX10_yearGoes_23 : decode cX10_yearGoes 23 = .ok (.iconst 1, 1) := by decide +kernel
theorem dX10_yearGoes_24 : decode cX10_yearGoes 24 = .ok (.invokevirtual 43, 3) := by decide +kernel
theorem dX10_yearGoes_27 : decode cX10_yearGoes 27 = .ok (.ifCond .le 7, 3) := by decide +kernel
theorem dX10_yearGoes_30 : decode cX10_yearGoes 30 = .ok (.aload_n 0, 1) := by decide +kernel
theorem dX10_yearGoes_31 : decode cX10_yearGoes 31 = .ok (.invokevirtual 129, 3) := by decide +kernel
theorem dX10_yearGoes_34 : decode cX10_yearGoes 34 = .ok (.aload_n 0, 1) := by decide +kernel
theorem dX10_yearGoes_35 : decode cX10_yearGoes 35 = .ok (.getfield 7, 3) := by decide +kernel
theorem dX10_yearGoes_38 : decode cX10_yearGoes 38 = .ok (.aload_n 0, 1) := by decide +kernel
theorem dX10_yearGoes_39 : decode cX10_yearGoes 39 = .ok (.getfield 39, 3) := by decide +kernel
theorem dX10_yearGoes_42 : decode cX10_yearGoes 42 = .ok (.iconst 0, 1) := by decide +kernel
theorem dX10_yearGoes_43 : decode cX10_yearGoes 43 = .ok (.iadd, 1) := by decide +kernel
theorem dX10_yearGoes_44 : decode cX10_yearGoes 44 = .ok (.dup2, 1) := by decide +kernel
theorem dX10_yearGoes_45 : decode cX10_yearGoes 45 = .ok (.iaload, 1) := by decide +kernel
theorem dX10_yearGoes_46 : decode cX10_yearGoes 46 = .ok (.iconst 1, 1) := by decide +kernel
theorem dX10_yearGoes_47 : decode cX10_yearGoes 47 = .ok (.iadd, 1) := by decide +kernel
theorem dX10_yearGoes_48 : decode cX10_yearGoes 48 = .ok (.iastore, 1) := by decide +kernel
theorem dX10_yearGoes_49 : decode cX10_yearGoes 49 = .ok (.return_, 1) := by decide +kernel
theorem dX10_go_0 : decode cX10_go 0 = .ok (.iconst 0, 1) := by decide +kernel
theorem dX10_go_1 : decode cX10_go 1 = .ok (.istore_n 2, 1) := by decide +kernel
theorem dX10_go_2 : decode cX10_go 2 = .ok (.iload_n 2, 1) := by decide +kernel
theorem dX10_go_3 : decode cX10_go 3 = .ok (.iload_n 1, 1) := by decide +kernel
theorem dX10_go_4 : decode cX10_go 4 = .ok (.if_icmp .ge 13, 3) := by decide +kernel
theorem dX10_go_7 : decode cX10_go 7 = .ok (.aload_n 0, 1) := by decide +kernel
theorem dX10_go_8 : decode cX10_go 8 = .ok (.invokevirtual 132, 3) := by decide +kernel
theorem dX10_go_11 : decode cX10_go 11 = .ok (.iinc 2 1, 3) := by decide +kernel
theorem dX10_go_14 : decode cX10_go 14 = .ok (.goto (-12), 3) := by decide +kernel
theorem dX10_go_17 : decode cX10_go 17 = .ok (.return_, 1) := by decide +kernel
theorem dX10_isLate_0 : decode cX10_isLate 0 = .ok (.aload_n 0, 1) := by decide +kernel
theorem dX10_isLate_1 : decode cX10_isLate 1 = .ok (.getfield 7, 3) := by decide +kernel
theorem dX10_isLate_4 : decode cX10_isLate 4 = .ok (.iconst 0, 1) := by decide +kernel
theorem dX10_isLate_5 : decode cX10_isLate 5 = .ok (.iaload, 1) := by decide +kernel
theorem dX10_isLate_6 : decode cX10_isLate 6 = .ok (.iload_n 1, 1) := by decide +kernel
theorem dX10_isLate_7 : decode cX10_isLate 7 = .ok (.iadd, 1) := by decide +kernel
theorem dX10_isLate_8 : decode cX10_isLate 8 = .ok (.sipush 9999, 3) := by decide +kernel
theorem dX10_isLate_11 : decode cX10_isLate 11 = .ok (.if_icmp .le 7, 3) := by decide +kernel
theorem dX10_isLate_14 : decode cX10_isLate 14 = .ok (.iconst 1, 1) := by decide +kernel
theorem dX10_isLate_15 : decode cX10_isLate 15 = .ok (.goto 4, 3) := by decide +kernel
theorem dX10_isLate_18 : decode cX10_isLate 18 = .ok (.iconst 0, 1) := by decide +kernel
theorem dX10_isLate_19 : decode cX10_isLate 19 = .ok (.ireturn, 1) := by decide +kernel
theorem dX10_years_0 : decode cX10_years 0 = .ok (.iload_n 1, 1) := by decide +kernel
theorem dX10_years_1 : decode cX10_years 1 = .ok (.iconst 1, 1) := by decide +kernel
theorem dX10_years_2 : decode cX10_years 2 = .ok (.sipush 200, 3) := by decide +kernel
theorem dX10_years_5 : decode cX10_years 5 = .ok (.invokestatic 47, 3) := by decide +kernel
theorem dX10_years_8 : decode cX10_years 8 = .ok (.ifCond .ne 10, 3) := by decide +kernel
theorem dX10_years_11 : decode cX10_years 11 = .ok (.aload_n 0, 1) := by decide +kernel
theorem dX10_years_12 : decode cX10_years 12 = .ok (.ldc 38, 2) := by decide +kernel
theorem dX10_years_14 : decode cX10_years 14 = .ok (.invokevirtual 63, 3) := by decide +kernel
theorem dX10_years_17 : decode cX10_years 17 = .ok (.ireturn, 1) := by decide +kernel
theorem dX10_years_18 : decode cX10_years 18 = .ok (.aload_n 0, 1) := by decide +kernel
theorem dX10_years_19 : decode cX10_years 19 = .ok (.iload_n 1, 1) := by decide +kernel
theorem dX10_years_20 : decode cX10_years 20 = .ok (.invokevirtual 135, 3) := by decide +kernel
theorem dX10_years_23 : decode cX10_years 23 = .ok (.ifCond .eq 10, 3) := by decide +kernel
theorem dX10_years_26 : decode cX10_years 26 = .ok (.aload_n 0, 1) := by decide +kernel
theorem dX10_years_27 : decode cX10_years 27 = .ok (.ldc 101, 2) := by decide +kernel
theorem dX10_years_29 : decode cX10_years 29 = .ok (.invokevirtual 63, 3) := by decide +kernel
theorem dX10_years_32 : decode cX10_years 32 = .ok (.ireturn, 1) := by decide +kernel
theorem dX10_years_33 : decode cX10_years 33 = .ok (.aload_n 0, 1) := by decide +kernel
theorem dX10_years_34 : decode cX10_years 34 = .ok (.iload_n 1, 1) := by decide +kernel
theorem dX10_years_35 : decode cX10_years 35 = .ok (.invokevirtual 138, 3) := by decide +kernel
theorem dX10_years_38 : decode cX10_years 38 = .ok (.aload_n 0, 1) := by decide +kernel
theorem dX10_years_39 : decode cX10_years 39 = .ok (.invokevirtual 55, 3) := by decide +kernel
theorem dX10_years_42 : decode cX10_years 42 = .ok (.ireturn, 1) := by decide +kernel
theorem dX10_seed_0 : decode cX10_seed 0 = .ok (.aload_n 0, 1) := by decide +kernel
theorem dX10_seed_1 : decode cX10_seed 1 = .ok (.getfield 7, 3) := by decide +kernel
theorem dX10_seed_4 : decode cX10_seed 4 = .ok (.iconst 3, 1) := by decide +kernel
theorem dX10_seed_5 : decode cX10_seed 5 = .ok (.iaload, 1) := by decide +kernel
theorem dX10_seed_6 : decode cX10_seed 6 = .ok (.istore_n 2, 1) := by decide +kernel
theorem dX10_seed_7 : decode cX10_seed 7 = .ok (.aload_n 0, 1) := by decide +kernel
theorem dX10_seed_8 : decode cX10_seed 8 = .ok (.getfield 7, 3) := by decide +kernel
theorem dX10_seed_11 : decode cX10_seed 11 = .ok (.iconst 3, 1) := by decide +kernel
theorem dX10_seed_12 : decode cX10_seed 12 = .ok (.iload_n 1, 1) := by decide +kernel
theorem dX10_seed_13 : decode cX10_seed 13 = .ok (.iastore, 1) := by decide +kernel
theorem dX10_seed_14 : decode cX10_seed 14 = .ok (.iload_n 2, 1) := by decide +kernel
theorem dX10_seed_15 : decode cX10_seed 15 = .ok (.ireturn, 1) := by decide +kernel
theorem dX10_now_0 : decode cX10_now 0 = .ok (.iconst 0, 1) := by decide +kernel
theorem dX10_now_1 : decode cX10_now 1 = .ok (.istore_n 2, 1) := by decide +kernel
theorem dX10_now_2 : decode cX10_now 2 = .ok (.iload_n 1, 1) := by decide +kernel
theorem dX10_now_3 : decode cX10_now 3 = .ok (.tableswitch 74 0 4 #[33, 33, 33, 40, 45], 33) := by decide +kernel
theorem dX10_now_36 : decode cX10_now 36 = .ok (.aload_n 0, 1) := by decide +kernel
theorem dX10_now_37 : decode cX10_now 37 = .ok (.getfield 7, 3) := by decide +kernel
theorem dX10_now_40 : decode cX10_now 40 = .ok (.iload_n 1, 1) := by decide +kernel
theorem dX10_now_41 : decode cX10_now 41 = .ok (.iaload, 1) := by decide +kernel
theorem dX10_now_42 : decode cX10_now 42 = .ok (.ireturn, 1) := by decide +kernel
theorem dX10_now_43 : decode cX10_now 43 = .ok (.aload_n 0, 1) := by decide +kernel
theorem dX10_now_44 : decode cX10_now 44 = .ok (.invokevirtual 55, 3) := by decide +kernel
theorem dX10_now_47 : decode cX10_now 47 = .ok (.ireturn, 1) := by decide +kernel
theorem dX10_now_48 : decode cX10_now 48 = .ok (.iconst 0, 1) := by decide +kernel
theorem dX10_now_49 : decode cX10_now 49 = .ok (.istore_n 3, 1) := by decide +kernel
theorem dX10_now_50 : decode cX10_now 50 = .ok (.iload_n 3, 1) := by decide +kernel
theorem dX10_now_51 : decode cX10_now 51 = .ok (.aload_n 0, 1) := by decide +kernel
theorem dX10_now_52 : decode cX10_now 52 = .ok (.getfield 7, 3) := by decide +kernel
theorem dX10_now_55 : decode cX10_now 55 = .ok (.iconst 4, 1) := by decide +kernel
theorem dX10_now_56 : decode cX10_now 56 = .ok (.iaload, 1) := by decide +kernel
theorem dX10_now_57 : decode cX10_now 57 = .ok (.if_icmp .ge 18, 3) := by decide +kernel
theorem dX10_now_60 : decode cX10_now 60 = .ok (.iload_n 2, 1) := by decide +kernel
theorem dX10_now_61 : decode cX10_now 61 = .ok (.aload_n 0, 1) := by decide +kernel
theorem dX10_now_62 : decode cX10_now 62 = .ok (.iload_n 3, 1) := by decide +kernel
theorem dX10_now_63 : decode cX10_now 63 = .ok (.iconst 1, 1) := by decide +kernel
theorem dX10_now_64 : decode cX10_now 64 = .ok (.invokevirtual 51, 3) := by decide +kernel
theorem dX10_now_67 : decode cX10_now 67 = .ok (.iadd, 1) := by decide +kernel
theorem dX10_now_68 : decode cX10_now 68 = .ok (.istore_n 2, 1) := by decide +kernel
theorem dX10_now_69 : decode cX10_now 69 = .ok (.iinc 3 1, 3) := by decide +kernel
theorem dX10_now_72 : decode cX10_now 72 = .ok (.goto (-22), 3) := by decide +kernel
theorem dX10_now_75 : decode cX10_now 75 = .ok (.iload_n 2, 1) := by decide +kernel
theorem dX10_now_76 : decode cX10_now 76 = .ok (.ireturn, 1) := by decide +kernel
theorem dX10_now_77 : decode cX10_now 77 = .ok (.aload_n 0, 1) := by decide +kernel
theorem dX10_now_78 : decode cX10_now 78 = .ok (.ldc 38, 2) := by decide +kernel
theorem dX10_now_80 : decode cX10_now 80 = .ok (.invokevirtual 63, 3) := by decide +kernel
theorem dX10_now_83 : decode cX10_now 83 = .ok (.ireturn, 1) := by decide +kernel
theorem dX10_lends_0 : decode cX10_lends 0 = .ok (.aload_n 0, 1) := by decide +kernel
theorem dX10_lends_1 : decode cX10_lends 1 = .ok (.iconst 0, 1) := by decide +kernel
theorem dX10_lends_2 : decode cX10_lends 2 = .ok (.putfield 39, 3) := by decide +kernel
theorem dX10_lends_5 : decode cX10_lends 5 = .ok (.iconst 0, 1) := by decide +kernel
theorem dX10_lends_6 : decode cX10_lends 6 = .ok (.istore_n 1, 1) := by decide +kernel
theorem dX10_lends_7 : decode cX10_lends 7 = .ok (.iload_n 1, 1) := by decide +kernel
theorem dX10_lends_8 : decode cX10_lends 8 = .ok (.sipush 255, 3) := by decide +kernel
theorem dX10_lends_11 : decode cX10_lends 11 = .ok (.if_icmp .ge 25, 3) := by decide +kernel
theorem dX10_lends_14 : decode cX10_lends 14 = .ok (.aload_n 0, 1) := by decide +kernel
theorem dX10_lends_15 : decode cX10_lends 15 = .ok (.getfield 7, 3) := by decide +kernel
theorem dX10_lends_18 : decode cX10_lends 18 = .ok (.sipush 255, 3) := by decide +kernel
theorem dX10_lends_21 : decode cX10_lends 21 = .ok (.iload_n 1, 1) := by decide +kernel
theorem dX10_lends_22 : decode cX10_lends 22 = .ok (.iadd, 1) := by decide +kernel
theorem dX10_lends_23 : decode cX10_lends 23 = .ok (.aload_n 0, 1) := by decide +kernel
theorem dX10_lends_24 : decode cX10_lends 24 = .ok (.getfield 7, 3) := by decide +kernel
theorem dX10_lends_27 : decode cX10_lends 27 = .ok (.iload_n 1, 1) := by decide +kernel
theorem dX10_lends_28 : decode cX10_lends 28 = .ok (.iaload, 1) := by decide +kernel
theorem dX10_lends_29 : decode cX10_lends 29 = .ok (.iastore, 1) := by decide +kernel
theorem dX10_lends_30 : decode cX10_lends 30 = .ok (.iinc 1 1, 3) := by decide +kernel
theorem dX10_lends_33 : decode cX10_lends 33 = .ok (.goto (-26), 3) := by decide +kernel
theorem dX10_lends_36 : decode cX10_lends 36 = .ok (.aload_n 0, 1) := by decide +kernel
theorem dX10_lends_37 : decode cX10_lends 37 = .ok (.sipush 255, 3) := by decide +kernel
theorem dX10_lends_40 : decode cX10_lends 40 = .ok (.putfield 39, 3) := by decide +kernel
theorem dX10_lends_43 : decode cX10_lends 43 = .ok (.return_, 1) := by decide +kernel
theorem dX10_isLong_0 : decode cX10_isLong 0 = .ok (.iload_n 0, 1) := by decide +kernel
theorem dX10_isLong_1 : decode cX10_isLong 1 = .ok (.iconst 0, 1) := by decide +kernel
theorem dX10_isLong_2 : decode cX10_isLong 2 = .ok (.sipush 200, 3) := by decide +kernel
theorem dX10_isLong_5 : decode cX10_isLong 5 = .ok (.invokestatic 47, 3) := by decide +kernel
theorem dX10_isLong_8 : decode cX10_isLong 8 = .ok (.ireturn, 1) := by decide +kernel
theorem dX10_on_0 : decode cX10_on 0 = .ok (.iload_n 1, 1) := by decide +kernel
theorem dX10_on_1 : decode cX10_on 1 = .ok (.invokestatic 141, 3) := by decide +kernel
theorem dX10_on_4 : decode cX10_on 4 = .ok (.ifCond .ne 11, 3) := by decide +kernel
theorem dX10_on_7 : decode cX10_on 7 = .ok (.aload_n 0, 1) := by decide +kernel
theorem dX10_on_8 : decode cX10_on 8 = .ok (.ldc 38, 2) := by decide +kernel
theorem dX10_on_10 : decode cX10_on 10 = .ok (.invokevirtual 63, 3) := by decide +kernel
theorem dX10_on_13 : decode cX10_on 13 = .ok (.i2l, 1) := by decide +kernel
theorem dX10_on_14 : decode cX10_on 14 = .ok (.lreturn, 1) := by decide +kernel
theorem dX10_on_15 : decode cX10_on 15 = .ok (.aload_n 0, 1) := by decide +kernel
theorem dX10_on_16 : decode cX10_on 16 = .ok (.iload_n 1, 1) := by decide +kernel
theorem dX10_on_17 : decode cX10_on 17 = .ok (.invokevirtual 135, 3) := by decide +kernel
theorem dX10_on_20 : decode cX10_on 20 = .ok (.ifCond .eq 11, 3) := by decide +kernel
theorem dX10_on_23 : decode cX10_on 23 = .ok (.aload_n 0, 1) := by decide +kernel
theorem dX10_on_24 : decode cX10_on 24 = .ok (.ldc 101, 2) := by decide +kernel
theorem dX10_on_26 : decode cX10_on 26 = .ok (.invokevirtual 63, 3) := by decide +kernel
theorem dX10_on_29 : decode cX10_on 29 = .ok (.i2l, 1) := by decide +kernel
theorem dX10_on_30 : decode cX10_on 30 = .ok (.lreturn, 1) := by decide +kernel
theorem dX10_on_31 : decode cX10_on 31 = .ok (.aload_n 0, 1) := by decide +kernel
theorem dX10_on_32 : decode cX10_on 32 = .ok (.invokevirtual 144, 3) := by decide +kernel
theorem dX10_on_35 : decode cX10_on 35 = .ok (.aload_n 0, 1) := by decide +kernel
theorem dX10_on_36 : decode cX10_on 36 = .ok (.iload_n 1, 1) := by decide +kernel
theorem dX10_on_37 : decode cX10_on 37 = .ok (.invokevirtual 138, 3) := by decide +kernel
theorem dX10_on_40 : decode cX10_on 40 = .ok (.aload_n 0, 1) := by decide +kernel
theorem dX10_on_41 : decode cX10_on 41 = .ok (.invokevirtual 102, 3) := by decide +kernel
theorem dX10_on_44 : decode cX10_on 44 = .ok (.lstore_n 2, 1) := by decide +kernel
theorem dX10_on_45 : decode cX10_on 45 = .ok (.aload_n 0, 1) := by decide +kernel
theorem dX10_on_46 : decode cX10_on 46 = .ok (.iconst 0, 1) := by decide +kernel
theorem dX10_on_47 : decode cX10_on 47 = .ok (.putfield 39, 3) := by decide +kernel
theorem dX10_on_50 : decode cX10_on 50 = .ok (.lload_n 2, 1) := by decide +kernel
theorem dX10_on_51 : decode cX10_on 51 = .ok (.lreturn, 1) := by decide +kernel
theorem dX10_reachOn_0 : decode cX10_reachOn 0 = .ok (.iload_n 1, 1) := by decide +kernel
theorem dX10_reachOn_1 : decode cX10_reachOn 1 = .ok (.invokestatic 141, 3) := by decide +kernel
theorem dX10_reachOn_4 : decode cX10_reachOn 4 = .ok (.ifCond .ne 10, 3) := by decide +kernel
theorem dX10_reachOn_7 : decode cX10_reachOn 7 = .ok (.aload_n 0, 1) := by decide +kernel
theorem dX10_reachOn_8 : decode cX10_reachOn 8 = .ok (.ldc 38, 2) := by decide +kernel
theorem dX10_reachOn_10 : decode cX10_reachOn 10 = .ok (.invokevirtual 63, 3) := by decide +kernel
theorem dX10_reachOn_13 : decode cX10_reachOn 13 = .ok (.ireturn, 1) := by decide +kernel
theorem dX10_reachOn_14 : decode cX10_reachOn 14 = .ok (.aload_n 0, 1) := by decide +kernel
theorem dX10_reachOn_15 : decode cX10_reachOn 15 = .ok (.iload_n 1, 1) := by decide +kernel
theorem dX10_reachOn_16 : decode cX10_reachOn 16 = .ok (.invokevirtual 135, 3) := by decide +kernel
theorem dX10_reachOn_19 : decode cX10_reachOn 19 = .ok (.ifCond .eq 10, 3) := by decide +kernel
theorem dX10_reachOn_22 : decode cX10_reachOn 22 = .ok (.aload_n 0, 1) := by decide +kernel
theorem dX10_reachOn_23 : decode cX10_reachOn 23 = .ok (.ldc 101, 2) := by decide +kernel
theorem dX10_reachOn_25 : decode cX10_reachOn 25 = .ok (.invokevirtual 63, 3) := by decide +kernel
theorem dX10_reachOn_28 : decode cX10_reachOn 28 = .ok (.ireturn, 1) := by decide +kernel
theorem dX10_reachOn_29 : decode cX10_reachOn 29 = .ok (.aload_n 0, 1) := by decide +kernel
theorem dX10_reachOn_30 : decode cX10_reachOn 30 = .ok (.invokevirtual 144, 3) := by decide +kernel
theorem dX10_reachOn_33 : decode cX10_reachOn 33 = .ok (.aload_n 0, 1) := by decide +kernel
theorem dX10_reachOn_34 : decode cX10_reachOn 34 = .ok (.iload_n 1, 1) := by decide +kernel
theorem dX10_reachOn_35 : decode cX10_reachOn 35 = .ok (.invokevirtual 138, 3) := by decide +kernel
theorem dX10_reachOn_38 : decode cX10_reachOn 38 = .ok (.aload_n 0, 1) := by decide +kernel
theorem dX10_reachOn_39 : decode cX10_reachOn 39 = .ok (.invokevirtual 119, 3) := by decide +kernel
theorem dX10_reachOn_42 : decode cX10_reachOn 42 = .ok (.istore_n 2, 1) := by decide +kernel
theorem dX10_reachOn_43 : decode cX10_reachOn 43 = .ok (.aload_n 0, 1) := by decide +kernel
theorem dX10_reachOn_44 : decode cX10_reachOn 44 = .ok (.iconst 0, 1) := by decide +kernel
theorem dX10_reachOn_45 : decode cX10_reachOn 45 = .ok (.putfield 39, 3) := by decide +kernel
theorem dX10_reachOn_48 : decode cX10_reachOn 48 = .ok (.iload_n 2, 1) := by decide +kernel
theorem dX10_reachOn_49 : decode cX10_reachOn 49 = .ok (.ireturn, 1) := by decide +kernel
theorem dX10_pass_0 : decode cX10_pass 0 = .ok (.aload_n 0, 1) := by decide +kernel
theorem dX10_pass_1 : decode cX10_pass 1 = .ok (.sipush 200, 3) := by decide +kernel
theorem dX10_pass_4 : decode cX10_pass 4 = .ok (.invokevirtual 135, 3) := by decide +kernel
theorem dX10_pass_7 : decode cX10_pass 7 = .ok (.ifCond .eq 10, 3) := by decide +kernel
theorem dX10_pass_10 : decode cX10_pass 10 = .ok (.aload_n 0, 1) := by decide +kernel
theorem dX10_pass_11 : decode cX10_pass 11 = .ok (.ldc 101, 2) := by decide +kernel
theorem dX10_pass_13 : decode cX10_pass 13 = .ok (.invokevirtual 63, 3) := by decide +kernel
theorem dX10_pass_16 : decode cX10_pass 16 = .ok (.ireturn, 1) := by decide +kernel
theorem dX10_pass_17 : decode cX10_pass 17 = .ok (.aload_n 0, 1) := by decide +kernel
theorem dX10_pass_18 : decode cX10_pass 18 = .ok (.invokevirtual 144, 3) := by decide +kernel
theorem dX10_pass_21 : decode cX10_pass 21 = .ok (.iconst 0, 1) := by decide +kernel
theorem dX10_pass_22 : decode cX10_pass 22 = .ok (.istore_n 1, 1) := by decide +kernel
theorem dX10_pass_23 : decode cX10_pass 23 = .ok (.iload_n 1, 1) := by decide +kernel
theorem dX10_pass_24 : decode cX10_pass 24 = .ok (.sipush 200, 3) := by decide +kernel
theorem dX10_pass_27 : decode cX10_pass 27 = .ok (.if_icmp .gt 22, 3) := by decide +kernel
theorem dX10_pass_30 : decode cX10_pass 30 = .ok (.aload_n 0, 1) := by decide +kernel
theorem dX10_pass_31 : decode cX10_pass 31 = .ok (.invokevirtual 119, 3) := by decide +kernel
theorem dX10_pass_34 : decode cX10_pass 34 = .ok (.bipush 40, 2) := by decide +kernel
theorem dX10_pass_36 : decode cX10_pass 36 = .ok (.if_icmp .ge 13, 3) := by decide +kernel
theorem dX10_pass_39 : decode cX10_pass 39 = .ok (.aload_n 0, 1) := by decide +kernel
theorem dX10_pass_40 : decode cX10_pass 40 = .ok (.invokevirtual 132, 3) := by decide +kernel
theorem dX10_pass_43 : decode cX10_pass 43 = .ok (.iinc 1 1, 3) := by decide +kernel
theorem dX10_pass_46 : decode cX10_pass 46 = .ok (.goto (-23), 3) := by decide +kernel
theorem dX10_pass_49 : decode cX10_pass 49 = .ok (.aload_n 0, 1) := by decide +kernel
theorem dX10_pass_50 : decode cX10_pass 50 = .ok (.iconst 0, 1) := by decide +kernel
theorem dX10_pass_51 : decode cX10_pass 51 = .ok (.putfield 39, 3) := by decide +kernel
theorem dX10_pass_54 : decode cX10_pass 54 = .ok (.iload_n 1, 1) := by decide +kernel
theorem dX10_pass_55 : decode cX10_pass 55 = .ok (.sipush 200, 3) := by decide +kernel
theorem dX10_pass_58 : decode cX10_pass 58 = .ok (.if_icmp .le 12, 3) := by decide +kernel
theorem dX10_pass_61 : decode cX10_pass 61 = .ok (.aload_n 0, 1) := by decide +kernel
theorem dX10_pass_62 : decode cX10_pass 62 = .ok (.ldc 147, 2) := by decide +kernel
theorem dX10_pass_64 : decode cX10_pass 64 = .ok (.invokevirtual 63, 3) := by decide +kernel
theorem dX10_pass_67 : decode cX10_pass 67 = .ok (.goto 4, 3) := by decide +kernel
theorem dX10_pass_70 : decode cX10_pass 70 = .ok (.iload_n 1, 1) := by decide +kernel
theorem dX10_pass_71 : decode cX10_pass 71 = .ok (.ireturn, 1) := by decide +kernel
theorem dX10_paid_0 : decode cX10_paid 0 = .ok (.aload_n 0, 1) := by decide +kernel
theorem dX10_paid_1 : decode cX10_paid 1 = .ok (.iload_n 1, 1) := by decide +kernel
theorem dX10_paid_2 : decode cX10_paid 2 = .ok (.invokevirtual 81, 3) := by decide +kernel
theorem dX10_paid_5 : decode cX10_paid 5 = .ok (.ifCond .ne 10, 3) := by decide +kernel
theorem dX10_paid_8 : decode cX10_paid 8 = .ok (.aload_n 0, 1) := by decide +kernel
theorem dX10_paid_9 : decode cX10_paid 9 = .ok (.ldc 38, 2) := by decide +kernel
theorem dX10_paid_11 : decode cX10_paid 11 = .ok (.invokevirtual 63, 3) := by decide +kernel
theorem dX10_paid_14 : decode cX10_paid 14 = .ok (.ireturn, 1) := by decide +kernel
theorem dX10_paid_15 : decode cX10_paid 15 = .ok (.aload_n 0, 1) := by decide +kernel
theorem dX10_paid_16 : decode cX10_paid 16 = .ok (.sipush 200, 3) := by decide +kernel
theorem dX10_paid_19 : decode cX10_paid 19 = .ok (.invokevirtual 135, 3) := by decide +kernel
theorem dX10_paid_22 : decode cX10_paid 22 = .ok (.ifCond .eq 10, 3) := by decide +kernel
theorem dX10_paid_25 : decode cX10_paid 25 = .ok (.aload_n 0, 1) := by decide +kernel
theorem dX10_paid_26 : decode cX10_paid 26 = .ok (.ldc 101, 2) := by decide +kernel
theorem dX10_paid_28 : decode cX10_paid 28 = .ok (.invokevirtual 63, 3) := by decide +kernel
theorem dX10_paid_31 : decode cX10_paid 31 = .ok (.ireturn, 1) := by decide +kernel
theorem dX10_paid_32 : decode cX10_paid 32 = .ok (.aload_n 0, 1) := by decide +kernel
theorem dX10_paid_33 : decode cX10_paid 33 = .ok (.invokevirtual 144, 3) := by decide +kernel
theorem dX10_paid_36 : decode cX10_paid 36 = .ok (.iconst 0, 1) := by decide +kernel
theorem dX10_paid_37 : decode cX10_paid 37 = .ok (.istore_n 2, 1) := by decide +kernel
theorem dX10_paid_38 : decode cX10_paid 38 = .ok (.iload_n 2, 1) := by decide +kernel
theorem dX10_paid_39 : decode cX10_paid 39 = .ok (.sipush 200, 3) := by decide +kernel
theorem dX10_paid_42 : decode cX10_paid 42 = .ok (.if_icmp .gt 22, 3) := by decide +kernel
theorem dX10_paid_45 : decode cX10_paid 45 = .ok (.aload_n 0, 1) := by decide +kernel
theorem dX10_paid_46 : decode cX10_paid 46 = .ok (.iload_n 1, 1) := by decide +kernel
theorem dX10_paid_47 : decode cX10_paid 47 = .ok (.iconst 1, 1) := by decide +kernel
theorem dX10_paid_48 : decode cX10_paid 48 = .ok (.invokevirtual 51, 3) := by decide +kernel
theorem dX10_paid_51 : decode cX10_paid 51 = .ok (.ifCond .le 13, 3) := by decide +kernel
theorem dX10_paid_54 : decode cX10_paid 54 = .ok (.aload_n 0, 1) := by decide +kernel
theorem dX10_paid_55 : decode cX10_paid 55 = .ok (.invokevirtual 132, 3) := by decide +kernel
theorem dX10_paid_58 : decode cX10_paid 58 = .ok (.iinc 2 1, 3) := by decide +kernel
theorem dX10_paid_61 : decode cX10_paid 61 = .ok (.goto (-23), 3) := by decide +kernel
theorem dX10_paid_64 : decode cX10_paid 64 = .ok (.aload_n 0, 1) := by decide +kernel
theorem dX10_paid_65 : decode cX10_paid 65 = .ok (.iconst 0, 1) := by decide +kernel
theorem dX10_paid_66 : decode cX10_paid 66 = .ok (.putfield 39, 3) := by decide +kernel
theorem dX10_paid_69 : decode cX10_paid 69 = .ok (.iload_n 2, 1) := by decide +kernel
theorem dX10_paid_70 : decode cX10_paid 70 = .ok (.sipush 200, 3) := by decide +kernel
theorem dX10_paid_73 : decode cX10_paid 73 = .ok (.if_icmp .le 12, 3) := by decide +kernel
theorem dX10_paid_76 : decode cX10_paid 76 = .ok (.aload_n 0, 1) := by decide +kernel
theorem dX10_paid_77 : decode cX10_paid 77 = .ok (.ldc 147, 2) := by decide +kernel
theorem dX10_paid_79 : decode cX10_paid 79 = .ok (.invokevirtual 63, 3) := by decide +kernel
theorem dX10_paid_82 : decode cX10_paid 82 = .ok (.goto 4, 3) := by decide +kernel
theorem dX10_paid_85 : decode cX10_paid 85 = .ok (.iload_n 2, 1) := by decide +kernel
theorem dX10_paid_86 : decode cX10_paid 86 = .ok (.ireturn, 1) := by decide +kernel
theorem dX10_farthest_0 : decode cX10_farthest 0 = .ok (.iload_n 1, 1) := by decide +kernel
theorem dX10_farthest_1 : decode cX10_farthest 1 = .ok (.invokestatic 141, 3) := by decide +kernel
theorem dX10_farthest_4 : decode cX10_farthest 4 = .ok (.ifCond .ne 10, 3) := by decide +kernel
theorem dX10_farthest_7 : decode cX10_farthest 7 = .ok (.aload_n 0, 1) := by decide +kernel
theorem dX10_farthest_8 : decode cX10_farthest 8 = .ok (.ldc 38, 2) := by decide +kernel
theorem dX10_farthest_10 : decode cX10_farthest 10 = .ok (.invokevirtual 63, 3) := by decide +kernel
theorem dX10_farthest_13 : decode cX10_farthest 13 = .ok (.ireturn, 1) := by decide +kernel
theorem dX10_farthest_14 : decode cX10_farthest 14 = .ok (.aload_n 0, 1) := by decide +kernel
theorem dX10_farthest_15 : decode cX10_farthest 15 = .ok (.iload_n 1, 1) := by decide +kernel
theorem dX10_farthest_16 : decode cX10_farthest 16 = .ok (.invokevirtual 135, 3) := by decide +kernel
theorem dX10_farthest_19 : decode cX10_farthest 19 = .ok (.ifCond .eq 10, 3) := by decide +kernel
theorem dX10_farthest_22 : decode cX10_farthest 22 = .ok (.aload_n 0, 1) := by decide +kernel
theorem dX10_farthest_23 : decode cX10_farthest 23 = .ok (.ldc 101, 2) := by decide +kernel
theorem dX10_farthest_25 : decode cX10_farthest 25 = .ok (.invokevirtual 63, 3) := by decide +kernel
theorem dX10_farthest_28 : decode cX10_farthest 28 = .ok (.ireturn, 1) := by decide +kernel
theorem dX10_farthest_29 : decode cX10_farthest 29 = .ok (.aload_n 0, 1) := by decide +kernel
theorem dX10_farthest_30 : decode cX10_farthest 30 = .ok (.invokevirtual 144, 3) := by decide +kernel
theorem dX10_farthest_33 : decode cX10_farthest 33 = .ok (.aload_n 0, 1) := by decide +kernel
theorem dX10_farthest_34 : decode cX10_farthest 34 = .ok (.invokevirtual 119, 3) := by decide +kernel
theorem dX10_farthest_37 : decode cX10_farthest 37 = .ok (.istore_n 2, 1) := by decide +kernel
theorem dX10_farthest_38 : decode cX10_farthest 38 = .ok (.iconst 0, 1) := by decide +kernel
theorem dX10_farthest_39 : decode cX10_farthest 39 = .ok (.istore_n 3, 1) := by decide +kernel
theorem dX10_farthest_40 : decode cX10_farthest 40 = .ok (.iload_n 3, 1) := by decide +kernel
theorem dX10_farthest_41 : decode cX10_farthest 41 = .ok (.iload_n 1, 1) := by decide +kernel
theorem dX10_farthest_42 : decode cX10_farthest 42 = .ok (.if_icmp .ge 32, 3) := by decide +kernel
theorem dX10_farthest_45 : decode cX10_farthest 45 = .ok (.aload_n 0, 1) := by decide +kernel
theorem dX10_farthest_46 : decode cX10_farthest 46 = .ok (.invokevirtual 132, 3) := by decide +kernel
theorem dX10_farthest_49 : decode cX10_farthest 49 = .ok (.aload_n 0, 1) := by decide +kernel
theorem dX10_farthest_50 : decode cX10_farthest 50 = .ok (.invokevirtual 119, 3) := by decide +kernel
theorem dX10_farthest_53 : decode cX10_farthest 53 = .ok (.istore 4, 2) := by decide +kernel
theorem dX10_farthest_55 : decode cX10_farthest 55 = .ok (.iload 4, 2) := by decide +kernel
theorem dX10_farthest_57 : decode cX10_farthest 57 = .ok (.iload_n 2, 1) := by decide +kernel
theorem dX10_farthest_58 : decode cX10_farthest 58 = .ok (.if_icmp .le 8, 3) := by decide +kernel
theorem dX10_farthest_61 : decode cX10_farthest 61 = .ok (.iload 4, 2) := by decide +kernel
theorem dX10_farthest_63 : decode cX10_farthest 63 = .ok (.goto 4, 3) := by decide +kernel
theorem dX10_farthest_66 : decode cX10_farthest 66 = .ok (.iload_n 2, 1) := by decide +kernel
theorem dX10_farthest_67 : decode cX10_farthest 67 = .ok (.istore_n 2, 1) := by decide +kernel
theorem dX10_farthest_68 : decode cX10_farthest 68 = .ok (.iinc 3 1, 3) := by decide +kernel
theorem dX10_farthest_71 : decode cX10_farthest 71 = .ok (.goto (-31), 3) := by decide +kernel
theorem dX10_farthest_74 : decode cX10_farthest 74 = .ok (.aload_n 0, 1) := by decide +kernel
theorem dX10_farthest_75 : decode cX10_farthest 75 = .ok (.iconst 0, 1) := by decide +kernel
theorem dX10_farthest_76 : decode cX10_farthest 76 = .ok (.putfield 39, 3) := by decide +kernel
theorem dX10_farthest_79 : decode cX10_farthest 79 = .ok (.iload_n 2, 1) := by decide +kernel
theorem dX10_farthest_80 : decode cX10_farthest 80 = .ok (.ireturn, 1) := by decide +kernel
theorem dX10_isSoon_0 : decode cX10_isSoon 0 = .ok (.iload_n 0, 1) := by decide +kernel
theorem dX10_isSoon_1 : decode cX10_isSoon 1 = .ok (.iconst 1, 1) := by decide +kernel
theorem dX10_isSoon_2 : decode cX10_isSoon 2 = .ok (.bipush 100, 2) := by decide +kernel
theorem dX10_isSoon_4 : decode cX10_isSoon 4 = .ok (.invokestatic 47, 3) := by decide +kernel
theorem dX10_isSoon_7 : decode cX10_isSoon 7 = .ok (.ireturn, 1) := by decide +kernel
theorem dX10_reachThen_0 : decode cX10_reachThen 0 = .ok (.aload_n 0, 1) := by decide +kernel
theorem dX10_reachThen_1 : decode cX10_reachThen 1 = .ok (.iload_n 1, 1) := by decide +kernel
theorem dX10_reachThen_2 : decode cX10_reachThen 2 = .ok (.invokevirtual 138, 3) := by decide +kernel
theorem dX10_reachThen_5 : decode cX10_reachThen 5 = .ok (.aload_n 0, 1) := by decide +kernel
theorem dX10_reachThen_6 : decode cX10_reachThen 6 = .ok (.invokevirtual 119, 3) := by decide +kernel
theorem dX10_reachThen_9 : decode cX10_reachThen 9 = .ok (.istore_n 2, 1) := by decide +kernel
theorem dX10_reachThen_10 : decode cX10_reachThen 10 = .ok (.aload_n 0, 1) := by decide +kernel
theorem dX10_reachThen_11 : decode cX10_reachThen 11 = .ok (.iconst 0, 1) := by decide +kernel
theorem dX10_reachThen_12 : decode cX10_reachThen 12 = .ok (.putfield 39, 3) := by decide +kernel
theorem dX10_reachThen_15 : decode cX10_reachThen 15 = .ok (.iload_n 2, 1) := by decide +kernel
theorem dX10_reachThen_16 : decode cX10_reachThen 16 = .ok (.ireturn, 1) := by decide +kernel
theorem dX10_best_0 : decode cX10_best 0 = .ok (.aload_n 0, 1) := by decide +kernel
theorem dX10_best_1 : decode cX10_best 1 = .ok (.iload_n 1, 1) := by decide +kernel
theorem dX10_best_2 : decode cX10_best 2 = .ok (.invokevirtual 81, 3) := by decide +kernel
theorem dX10_best_5 : decode cX10_best 5 = .ok (.ifCond .eq 10, 3) := by decide +kernel
theorem dX10_best_8 : decode cX10_best 8 = .ok (.iload_n 2, 1) := by decide +kernel
theorem dX10_best_9 : decode cX10_best 9 = .ok (.invokestatic 148, 3) := by decide +kernel
theorem dX10_best_12 : decode cX10_best 12 = .ok (.ifCond .ne 10, 3) := by decide +kernel
theorem dX10_best_15 : decode cX10_best 15 = .ok (.aload_n 0, 1) := by decide +kernel
theorem dX10_best_16 : decode cX10_best 16 = .ok (.ldc 38, 2) := by decide +kernel
theorem dX10_best_18 : decode cX10_best 18 = .ok (.invokevirtual 63, 3) := by decide +kernel
theorem dX10_best_21 : decode cX10_best 21 = .ok (.ireturn, 1) := by decide +kernel
theorem dX10_best_22 : decode cX10_best 22 = .ok (.aload_n 0, 1) := by decide +kernel
theorem dX10_best_23 : decode cX10_best 23 = .ok (.iload_n 2, 1) := by decide +kernel
theorem dX10_best_24 : decode cX10_best 24 = .ok (.invokevirtual 135, 3) := by decide +kernel
theorem dX10_best_27 : decode cX10_best 27 = .ok (.ifCond .eq 10, 3) := by decide +kernel
theorem dX10_best_30 : decode cX10_best 30 = .ok (.aload_n 0, 1) := by decide +kernel
theorem dX10_best_31 : decode cX10_best 31 = .ok (.ldc 101, 2) := by decide +kernel
theorem dX10_best_33 : decode cX10_best 33 = .ok (.invokevirtual 63, 3) := by decide +kernel
theorem dX10_best_36 : decode cX10_best 36 = .ok (.ireturn, 1) := by decide +kernel
theorem dX10_best_37 : decode cX10_best 37 = .ok (.aload_n 0, 1) := by decide +kernel
theorem dX10_best_38 : decode cX10_best 38 = .ok (.invokevirtual 144, 3) := by decide +kernel
theorem dX10_best_41 : decode cX10_best 41 = .ok (.aload_n 0, 1) := by decide +kernel
theorem dX10_best_42 : decode cX10_best 42 = .ok (.iload_n 1, 1) := by decide +kernel
theorem dX10_best_43 : decode cX10_best 43 = .ok (.iconst 2, 1) := by decide +kernel
theorem dX10_best_44 : decode cX10_best 44 = .ok (.invokevirtual 51, 3) := by decide +kernel
theorem dX10_best_47 : decode cX10_best 47 = .ok (.istore_n 3, 1) := by decide +kernel
theorem dX10_best_48 : decode cX10_best 48 = .ok (.iload_n 3, 1) := by decide +kernel
theorem dX10_best_49 : decode cX10_best 49 = .ok (.istore 4, 2) := by decide +kernel
theorem dX10_best_51 : decode cX10_best 51 = .ok (.aload_n 0, 1) := by decide +kernel
theorem dX10_best_52 : decode cX10_best 52 = .ok (.iload_n 2, 1) := by decide +kernel
theorem dX10_best_53 : decode cX10_best 53 = .ok (.invokevirtual 151, 3) := by decide +kernel
theorem dX10_best_56 : decode cX10_best 56 = .ok (.istore 5, 2) := by decide +kernel
theorem dX10_best_58 : decode cX10_best 58 = .ok (.iconst 0, 1) := by decide +kernel
theorem dX10_best_59 : decode cX10_best 59 = .ok (.istore 6, 2) := by decide +kernel
theorem dX10_best_61 : decode cX10_best 61 = .ok (.iload 6, 2) := by decide +kernel
theorem dX10_best_63 : decode cX10_best 63 = .ok (.bipush 40, 2) := by decide +kernel
theorem dX10_best_65 : decode cX10_best 65 = .ok (.if_icmp .ge 72, 3) := by decide +kernel
theorem dX10_best_68 : decode cX10_best 68 = .ok (.iload 6, 2) := by decide +kernel
theorem dX10_best_70 : decode cX10_best 70 = .ok (.iload 4, 2) := by decide +kernel
theorem dX10_best_72 : decode cX10_best 72 = .ok (.if_icmp .eq 59, 3) := by decide +kernel
theorem dX10_best_75 : decode cX10_best 75 = .ok (.aload_n 0, 1) := by decide +kernel
theorem dX10_best_76 : decode cX10_best 76 = .ok (.invokevirtual 144, 3) := by decide +kernel
theorem dX10_best_79 : decode cX10_best 79 = .ok (.aload_n 0, 1) := by decide +kernel
theorem dX10_best_80 : decode cX10_best 80 = .ok (.iload_n 1, 1) := by decide +kernel
theorem dX10_best_81 : decode cX10_best 81 = .ok (.iconst 2, 1) := by decide +kernel
theorem dX10_best_82 : decode cX10_best 82 = .ok (.iload 6, 2) := by decide +kernel
theorem dX10_best_84 : decode cX10_best 84 = .ok (.invokevirtual 66, 3) := by decide +kernel
theorem dX10_best_87 : decode cX10_best 87 = .ok (.aload_n 0, 1) := by decide +kernel
theorem dX10_best_88 : decode cX10_best 88 = .ok (.iload_n 1, 1) := by decide +kernel
theorem dX10_best_89 : decode cX10_best 89 = .ok (.iconst 4, 1) := by decide +kernel
theorem dX10_best_90 : decode cX10_best 90 = .ok (.iconst 0, 1) := by decide +kernel
theorem dX10_best_91 : decode cX10_best 91 = .ok (.invokevirtual 66, 3) := by decide +kernel
theorem dX10_best_94 : decode cX10_best 94 = .ok (.aload_n 0, 1) := by decide +kernel
theorem dX10_best_95 : decode cX10_best 95 = .ok (.iload_n 2, 1) := by decide +kernel
theorem dX10_best_96 : decode cX10_best 96 = .ok (.invokevirtual 151, 3) := by decide +kernel
theorem dX10_best_99 : decode cX10_best 99 = .ok (.istore 7, 2) := by decide +kernel
theorem dX10_best_101 : decode cX10_best 101 = .ok (.iload 7, 2) := by decide +kernel
theorem dX10_best_103 : decode cX10_best 103 = .ok (.iload 5, 2) := by decide +kernel
theorem dX10_best_105 : decode cX10_best 105 = .ok (.if_icmp .le 8, 3) := by decide +kernel
theorem dX10_best_108 : decode cX10_best 108 = .ok (.iload 6, 2) := by decide +kernel
theorem dX10_best_110 : decode cX10_best 110 = .ok (.goto 4, 3) := by decide +kernel
theorem dX10_best_113 : decode cX10_best 113 = .ok (.iload_n 3, 1) := by decide +kernel
theorem dX10_best_114 : decode cX10_best 114 = .ok (.istore_n 3, 1) := by decide +kernel
theorem dX10_best_115 : decode cX10_best 115 = .ok (.iload 7, 2) := by decide +kernel
theorem dX10_best_117 : decode cX10_best 117 = .ok (.iload 5, 2) := by decide +kernel
theorem dX10_best_119 : decode cX10_best 119 = .ok (.if_icmp .le 8, 3) := by decide +kernel
theorem dX10_best_122 : decode cX10_best 122 = .ok (.iload 7, 2) := by decide +kernel
theorem dX10_best_124 : decode cX10_best 124 = .ok (.goto 5, 3) := by decide +kernel
theorem dX10_best_127 : decode cX10_best 127 = .ok (.iload 5, 2) := by decide +kernel
theorem dX10_best_129 : decode cX10_best 129 = .ok (.istore 5, 2) := by decide +kernel
theorem dX10_best_131 : decode cX10_best 131 = .ok (.iinc 6 1, 3) := by decide +kernel
theorem dX10_best_134 : decode cX10_best 134 = .ok (.goto (-73), 3) := by decide +kernel
theorem dX10_best_137 : decode cX10_best 137 = .ok (.iload_n 3, 1) := by decide +kernel
theorem dX10_best_138 : decode cX10_best 138 = .ok (.ireturn, 1) := by decide +kernel
theorem dX10_kind_0 : decode cX10_kind 0 = .ok (.aload_n 0, 1) := by decide +kernel
theorem dX10_kind_1 : decode cX10_kind 1 = .ok (.iload_n 1, 1) := by decide +kernel
theorem dX10_kind_2 : decode cX10_kind 2 = .ok (.invokevirtual 81, 3) := by decide +kernel
theorem dX10_kind_5 : decode cX10_kind 5 = .ok (.ifCond .eq 10, 3) := by decide +kernel
theorem dX10_kind_8 : decode cX10_kind 8 = .ok (.iload_n 2, 1) := by decide +kernel
theorem dX10_kind_9 : decode cX10_kind 9 = .ok (.invokestatic 148, 3) := by decide +kernel
theorem dX10_kind_12 : decode cX10_kind 12 = .ok (.ifCond .ne 10, 3) := by decide +kernel
theorem dX10_kind_15 : decode cX10_kind 15 = .ok (.aload_n 0, 1) := by decide +kernel
theorem dX10_kind_16 : decode cX10_kind 16 = .ok (.ldc 38, 2) := by decide +kernel
theorem dX10_kind_18 : decode cX10_kind 18 = .ok (.invokevirtual 63, 3) := by decide +kernel
theorem dX10_kind_21 : decode cX10_kind 21 = .ok (.ireturn, 1) := by decide +kernel
theorem dX10_kind_22 : decode cX10_kind 22 = .ok (.aload_n 0, 1) := by decide +kernel
theorem dX10_kind_23 : decode cX10_kind 23 = .ok (.iload_n 2, 1) := by decide +kernel
theorem dX10_kind_24 : decode cX10_kind 24 = .ok (.invokevirtual 135, 3) := by decide +kernel
theorem dX10_kind_27 : decode cX10_kind 27 = .ok (.ifCond .eq 10, 3) := by decide +kernel
theorem dX10_kind_30 : decode cX10_kind 30 = .ok (.aload_n 0, 1) := by decide +kernel
theorem dX10_kind_31 : decode cX10_kind 31 = .ok (.ldc 101, 2) := by decide +kernel
theorem dX10_kind_33 : decode cX10_kind 33 = .ok (.invokevirtual 63, 3) := by decide +kernel
theorem dX10_kind_36 : decode cX10_kind 36 = .ok (.ireturn, 1) := by decide +kernel
theorem dX10_kind_37 : decode cX10_kind 37 = .ok (.iconst 0, 1) := by decide +kernel
theorem dX10_kind_38 : decode cX10_kind 38 = .ok (.istore_n 3, 1) := by decide +kernel
theorem dX10_kind_39 : decode cX10_kind 39 = .ok (.iconst (-1), 1) := by decide +kernel
theorem dX10_kind_40 : decode cX10_kind 40 = .ok (.istore 4, 2) := by decide +kernel
theorem dX10_kind_42 : decode cX10_kind 42 = .ok (.iconst 0, 1) := by decide +kernel
theorem dX10_kind_43 : decode cX10_kind 43 = .ok (.istore 5, 2) := by decide +kernel
theorem dX10_kind_45 : decode cX10_kind 45 = .ok (.iload 5, 2) := by decide +kernel
theorem dX10_kind_47 : decode cX10_kind 47 = .ok (.iconst 5, 1) := by decide +kernel
theorem dX10_kind_48 : decode cX10_kind 48 = .ok (.if_icmp .gt 58, 3) := by decide +kernel
theorem dX10_kind_51 : decode cX10_kind 51 = .ok (.aload_n 0, 1) := by decide +kernel
theorem dX10_kind_52 : decode cX10_kind 52 = .ok (.invokevirtual 144, 3) := by decide +kernel
theorem dX10_kind_55 : decode cX10_kind 55 = .ok (.aload_n 0, 1) := by decide +kernel
theorem dX10_kind_56 : decode cX10_kind 56 = .ok (.iload_n 1, 1) := by decide +kernel
theorem dX10_kind_57 : decode cX10_kind 57 = .ok (.iconst 0, 1) := by decide +kernel
theorem dX10_kind_58 : decode cX10_kind 58 = .ok (.iload 5, 2) := by decide +kernel
theorem dX10_kind_60 : decode cX10_kind 60 = .ok (.invokevirtual 66, 3) := by decide +kernel
theorem dX10_kind_63 : decode cX10_kind 63 = .ok (.aload_n 0, 1) := by decide +kernel
theorem dX10_kind_64 : decode cX10_kind 64 = .ok (.iload_n 2, 1) := by decide +kernel
theorem dX10_kind_65 : decode cX10_kind 65 = .ok (.invokevirtual 151, 3) := by decide +kernel
theorem dX10_kind_68 : decode cX10_kind 68 = .ok (.istore 6, 2) := by decide +kernel
theorem dX10_kind_70 : decode cX10_kind 70 = .ok (.iload 6, 2) := by decide +kernel
theorem dX10_kind_72 : decode cX10_kind 72 = .ok (.iload 4, 2) := by decide +kernel
theorem dX10_kind_74 : decode cX10_kind 74 = .ok (.if_icmp .le 8, 3) := by decide +kernel
theorem dX10_kind_77 : decode cX10_kind 77 = .ok (.iload 5, 2) := by decide +kernel
theorem dX10_kind_79 : decode cX10_kind 79 = .ok (.goto 4, 3) := by decide +kernel
theorem dX10_kind_82 : decode cX10_kind 82 = .ok (.iload_n 3, 1) := by decide +kernel
theorem dX10_kind_83 : decode cX10_kind 83 = .ok (.istore_n 3, 1) := by decide +kernel
theorem dX10_kind_84 : decode cX10_kind 84 = .ok (.iload 6, 2) := by decide +kernel
theorem dX10_kind_86 : decode cX10_kind 86 = .ok (.iload 4, 2) := by decide +kernel
theorem dX10_kind_88 : decode cX10_kind 88 = .ok (.if_icmp .le 8, 3) := by decide +kernel
theorem dX10_kind_91 : decode cX10_kind 91 = .ok (.iload 6, 2) := by decide +kernel
theorem dX10_kind_93 : decode cX10_kind 93 = .ok (.goto 5, 3) := by decide +kernel
theorem dX10_kind_96 : decode cX10_kind 96 = .ok (.iload 4, 2) := by decide +kernel
theorem dX10_kind_98 : decode cX10_kind 98 = .ok (.istore 4, 2) := by decide +kernel
theorem dX10_kind_100 : decode cX10_kind 100 = .ok (.iinc 5 1, 3) := by decide +kernel
theorem dX10_kind_103 : decode cX10_kind 103 = .ok (.goto (-58), 3) := by decide +kernel
theorem dX10_kind_106 : decode cX10_kind 106 = .ok (.iload_n 3, 1) := by decide +kernel
theorem dX10_kind_107 : decode cX10_kind 107 = .ok (.ireturn, 1) := by decide +kernel
theorem dX10_mend_0 : decode cX10_mend 0 = .ok (.aload_n 0, 1) := by decide +kernel
theorem dX10_mend_1 : decode cX10_mend 1 = .ok (.invokevirtual 119, 3) := by decide +kernel
theorem dX10_mend_4 : decode cX10_mend 4 = .ok (.istore_n 1, 1) := by decide +kernel
theorem dX10_mend_5 : decode cX10_mend 5 = .ok (.iconst (-1), 1) := by decide +kernel
theorem dX10_mend_6 : decode cX10_mend 6 = .ok (.istore_n 2, 1) := by decide +kernel
theorem dX10_mend_7 : decode cX10_mend 7 = .ok (.iconst 0, 1) := by decide +kernel
theorem dX10_mend_8 : decode cX10_mend 8 = .ok (.istore_n 3, 1) := by decide +kernel
theorem dX10_mend_9 : decode cX10_mend 9 = .ok (.iload_n 3, 1) := by decide +kernel
theorem dX10_mend_10 : decode cX10_mend 10 = .ok (.bipush 40, 2) := by decide +kernel
theorem dX10_mend_12 : decode cX10_mend 12 = .ok (.if_icmp .ge 70, 3) := by decide +kernel
theorem dX10_mend_15 : decode cX10_mend 15 = .ok (.aload_n 0, 1) := by decide +kernel
theorem dX10_mend_16 : decode cX10_mend 16 = .ok (.getfield 7, 3) := by decide +kernel
theorem dX10_mend_19 : decode cX10_mend 19 = .ok (.iconst 4, 1) := by decide +kernel
theorem dX10_mend_20 : decode cX10_mend 20 = .ok (.iaload, 1) := by decide +kernel
theorem dX10_mend_21 : decode cX10_mend 21 = .ok (.ifCond .le 61, 3) := by decide +kernel
theorem dX10_mend_24 : decode cX10_mend 24 = .ok (.aload_n 0, 1) := by decide +kernel
theorem dX10_mend_25 : decode cX10_mend 25 = .ok (.iload_n 3, 1) := by decide +kernel
theorem dX10_mend_26 : decode cX10_mend 26 = .ok (.invokevirtual 78, 3) := by decide +kernel
theorem dX10_mend_29 : decode cX10_mend 29 = .ok (.ifCond .ne 47, 3) := by decide +kernel
theorem dX10_mend_32 : decode cX10_mend 32 = .ok (.aload_n 0, 1) := by decide +kernel
theorem dX10_mend_33 : decode cX10_mend 33 = .ok (.invokevirtual 144, 3) := by decide +kernel
theorem dX10_mend_36 : decode cX10_mend 36 = .ok (.aload_n 0, 1) := by decide +kernel
theorem dX10_mend_37 : decode cX10_mend 37 = .ok (.iload_n 3, 1) := by decide +kernel
theorem dX10_mend_38 : decode cX10_mend 38 = .ok (.bipush 10, 2) := by decide +kernel
theorem dX10_mend_40 : decode cX10_mend 40 = .ok (.iconst 0, 1) := by decide +kernel
theorem dX10_mend_41 : decode cX10_mend 41 = .ok (.invokevirtual 106, 3) := by decide +kernel
theorem dX10_mend_44 : decode cX10_mend 44 = .ok (.aload_n 0, 1) := by decide +kernel
theorem dX10_mend_45 : decode cX10_mend 45 = .ok (.iconst 0, 1) := by decide +kernel
theorem dX10_mend_46 : decode cX10_mend 46 = .ok (.invokevirtual 151, 3) := by decide +kernel
theorem dX10_mend_49 : decode cX10_mend 49 = .ok (.istore 4, 2) := by decide +kernel
theorem dX10_mend_51 : decode cX10_mend 51 = .ok (.iload 4, 2) := by decide +kernel
theorem dX10_mend_53 : decode cX10_mend 53 = .ok (.iload_n 1, 1) := by decide +kernel
theorem dX10_mend_54 : decode cX10_mend 54 = .ok (.if_icmp .le 7, 3) := by decide +kernel
theorem dX10_mend_57 : decode cX10_mend 57 = .ok (.iload_n 3, 1) := by decide +kernel
theorem dX10_mend_58 : decode cX10_mend 58 = .ok (.goto 4, 3) := by decide +kernel
theorem dX10_mend_61 : decode cX10_mend 61 = .ok (.iload_n 2, 1) := by decide +kernel
theorem dX10_mend_62 : decode cX10_mend 62 = .ok (.istore_n 2, 1) := by decide +kernel
theorem dX10_mend_63 : decode cX10_mend 63 = .ok (.iload 4, 2) := by decide +kernel
theorem dX10_mend_65 : decode cX10_mend 65 = .ok (.iload_n 1, 1) := by decide +kernel
theorem dX10_mend_66 : decode cX10_mend 66 = .ok (.if_icmp .le 8, 3) := by decide +kernel
theorem dX10_mend_69 : decode cX10_mend 69 = .ok (.iload 4, 2) := by decide +kernel
theorem dX10_mend_71 : decode cX10_mend 71 = .ok (.goto 4, 3) := by decide +kernel
theorem dX10_mend_74 : decode cX10_mend 74 = .ok (.iload_n 1, 1) := by decide +kernel
theorem dX10_mend_75 : decode cX10_mend 75 = .ok (.istore_n 1, 1) := by decide +kernel
theorem dX10_mend_76 : decode cX10_mend 76 = .ok (.iinc 3 1, 3) := by decide +kernel
theorem dX10_mend_79 : decode cX10_mend 79 = .ok (.goto (-70), 3) := by decide +kernel
theorem dX10_mend_82 : decode cX10_mend 82 = .ok (.iload_n 2, 1) := by decide +kernel
theorem dX10_mend_83 : decode cX10_mend 83 = .ok (.ifCond .ge 12, 3) := by decide +kernel
theorem dX10_mend_86 : decode cX10_mend 86 = .ok (.aload_n 0, 1) := by decide +kernel
theorem dX10_mend_87 : decode cX10_mend 87 = .ok (.ldc 147, 2) := by decide +kernel
theorem dX10_mend_89 : decode cX10_mend 89 = .ok (.invokevirtual 63, 3) := by decide +kernel
theorem dX10_mend_92 : decode cX10_mend 92 = .ok (.goto 4, 3) := by decide +kernel
theorem dX10_mend_95 : decode cX10_mend 95 = .ok (.iload_n 2, 1) := by decide +kernel
theorem dX10_mend_96 : decode cX10_mend 96 = .ok (.ireturn, 1) := by decide +kernel
theorem dX10_needed_0 : decode cX10_needed 0 = .ok (.iload_n 1, 1) := by decide +kernel
theorem dX10_needed_1 : decode cX10_needed 1 = .ok (.invokestatic 148, 3) := by decide +kernel
theorem dX10_needed_4 : decode cX10_needed 4 = .ok (.ifCond .ne 10, 3) := by decide +kernel
theorem dX10_needed_7 : decode cX10_needed 7 = .ok (.aload_n 0, 1) := by decide +kernel
theorem dX10_needed_8 : decode cX10_needed 8 = .ok (.ldc 38, 2) := by decide +kernel
theorem dX10_needed_10 : decode cX10_needed 10 = .ok (.invokevirtual 63, 3) := by decide +kernel
theorem dX10_needed_13 : decode cX10_needed 13 = .ok (.ireturn, 1) := by decide +kernel
theorem dX10_needed_14 : decode cX10_needed 14 = .ok (.aload_n 0, 1) := by decide +kernel
theorem dX10_needed_15 : decode cX10_needed 15 = .ok (.iload_n 1, 1) := by decide +kernel
theorem dX10_needed_16 : decode cX10_needed 16 = .ok (.invokevirtual 135, 3) := by decide +kernel
theorem dX10_needed_19 : decode cX10_needed 19 = .ok (.ifCond .eq 10, 3) := by decide +kernel
theorem dX10_needed_22 : decode cX10_needed 22 = .ok (.aload_n 0, 1) := by decide +kernel
theorem dX10_needed_23 : decode cX10_needed 23 = .ok (.ldc 101, 2) := by decide +kernel
theorem dX10_needed_25 : decode cX10_needed 25 = .ok (.invokevirtual 63, 3) := by decide +kernel
theorem dX10_needed_28 : decode cX10_needed 28 = .ok (.ireturn, 1) := by decide +kernel
theorem dX10_needed_29 : decode cX10_needed 29 = .ok (.aload_n 0, 1) := by decide +kernel
theorem dX10_needed_30 : decode cX10_needed 30 = .ok (.invokevirtual 144, 3) := by decide +kernel
theorem dX10_needed_33 : decode cX10_needed 33 = .ok (.aload_n 0, 1) := by decide +kernel
theorem dX10_needed_34 : decode cX10_needed 34 = .ok (.iload_n 1, 1) := by decide +kernel
theorem dX10_needed_35 : decode cX10_needed 35 = .ok (.invokevirtual 151, 3) := by decide +kernel
theorem dX10_needed_38 : decode cX10_needed 38 = .ok (.istore_n 2, 1) := by decide +kernel
theorem dX10_needed_39 : decode cX10_needed 39 = .ok (.iconst (-1), 1) := by decide +kernel
theorem dX10_needed_40 : decode cX10_needed 40 = .ok (.istore_n 3, 1) := by decide +kernel
theorem dX10_needed_41 : decode cX10_needed 41 = .ok (.iconst 0, 1) := by decide +kernel
theorem dX10_needed_42 : decode cX10_needed 42 = .ok (.istore 4, 2) := by decide +kernel
theorem dX10_needed_44 : decode cX10_needed 44 = .ok (.iload 4, 2) := by decide +kernel
theorem dX10_needed_46 : decode cX10_needed 46 = .ok (.aload_n 0, 1) := by decide +kernel
theorem dX10_needed_47 : decode cX10_needed 47 = .ok (.getfield 7, 3) := by decide +kernel
theorem dX10_needed_50 : decode cX10_needed 50 = .ok (.iconst 4, 1) := by decide +kernel
theorem dX10_needed_51 : decode cX10_needed 51 = .ok (.iaload, 1) := by decide +kernel
theorem dX10_needed_52 : decode cX10_needed 52 = .ok (.if_icmp .ge 54, 3) := by decide +kernel
theorem dX10_needed_55 : decode cX10_needed 55 = .ok (.aload_n 0, 1) := by decide +kernel
theorem dX10_needed_56 : decode cX10_needed 56 = .ok (.invokevirtual 144, 3) := by decide +kernel
theorem dX10_needed_59 : decode cX10_needed 59 = .ok (.aload_n 0, 1) := by decide +kernel
theorem dX10_needed_60 : decode cX10_needed 60 = .ok (.iload 4, 2) := by decide +kernel
theorem dX10_needed_62 : decode cX10_needed 62 = .ok (.iconst 1, 1) := by decide +kernel
theorem dX10_needed_63 : decode cX10_needed 63 = .ok (.iconst 0, 1) := by decide +kernel
theorem dX10_needed_64 : decode cX10_needed 64 = .ok (.invokevirtual 66, 3) := by decide +kernel
theorem dX10_needed_67 : decode cX10_needed 67 = .ok (.aload_n 0, 1) := by decide +kernel
theorem dX10_needed_68 : decode cX10_needed 68 = .ok (.iload_n 1, 1) := by decide +kernel
theorem dX10_needed_69 : decode cX10_needed 69 = .ok (.invokevirtual 151, 3) := by decide +kernel
theorem dX10_needed_72 : decode cX10_needed 72 = .ok (.istore 5, 2) := by decide +kernel
theorem dX10_needed_74 : decode cX10_needed 74 = .ok (.iload 5, 2) := by decide +kernel
theorem dX10_needed_76 : decode cX10_needed 76 = .ok (.iload_n 2, 1) := by decide +kernel
theorem dX10_needed_77 : decode cX10_needed 77 = .ok (.if_icmp .ge 8, 3) := by decide +kernel
theorem dX10_needed_80 : decode cX10_needed 80 = .ok (.iload 4, 2) := by decide +kernel
theorem dX10_needed_82 : decode cX10_needed 82 = .ok (.goto 4, 3) := by decide +kernel
theorem dX10_needed_85 : decode cX10_needed 85 = .ok (.iload_n 3, 1) := by decide +kernel
theorem dX10_needed_86 : decode cX10_needed 86 = .ok (.istore_n 3, 1) := by decide +kernel
theorem dX10_needed_87 : decode cX10_needed 87 = .ok (.iload 5, 2) := by decide +kernel
theorem dX10_needed_89 : decode cX10_needed 89 = .ok (.iload_n 2, 1) := by decide +kernel
theorem dX10_needed_90 : decode cX10_needed 90 = .ok (.if_icmp .ge 8, 3) := by decide +kernel
theorem dX10_needed_93 : decode cX10_needed 93 = .ok (.iload 5, 2) := by decide +kernel
theorem dX10_needed_95 : decode cX10_needed 95 = .ok (.goto 4, 3) := by decide +kernel
theorem dX10_needed_98 : decode cX10_needed 98 = .ok (.iload_n 2, 1) := by decide +kernel
theorem dX10_needed_99 : decode cX10_needed 99 = .ok (.istore_n 2, 1) := by decide +kernel
theorem dX10_needed_100 : decode cX10_needed 100 = .ok (.iinc 4 1, 3) := by decide +kernel
theorem dX10_needed_103 : decode cX10_needed 103 = .ok (.goto (-59), 3) := by decide +kernel
theorem dX10_needed_106 : decode cX10_needed 106 = .ok (.iload_n 3, 1) := by decide +kernel
theorem dX10_needed_107 : decode cX10_needed 107 = .ok (.ifCond .ge 12, 3) := by decide +kernel
theorem dX10_needed_110 : decode cX10_needed 110 = .ok (.aload_n 0, 1) := by decide +kernel
theorem dX10_needed_111 : decode cX10_needed 111 = .ok (.ldc 147, 2) := by decide +kernel
theorem dX10_needed_113 : decode cX10_needed 113 = .ok (.invokevirtual 63, 3) := by decide +kernel
theorem dX10_needed_116 : decode cX10_needed 116 = .ok (.goto 4, 3) := by decide +kernel
theorem dX10_needed_119 : decode cX10_needed 119 = .ok (.iload_n 3, 1) := by decide +kernel
theorem dX10_needed_120 : decode cX10_needed 120 = .ok (.ireturn, 1) := by decide +kernel
theorem dX10_steepest_0 : decode cX10_steepest 0 = .ok (.iconst (-1), 1) := by decide +kernel
theorem dX10_steepest_1 : decode cX10_steepest 1 = .ok (.istore_n 1, 1) := by decide +kernel
theorem dX10_steepest_2 : decode cX10_steepest 2 = .ok (.iconst 1, 1) := by decide +kernel
theorem dX10_steepest_3 : decode cX10_steepest 3 = .ok (.istore_n 2, 1) := by decide +kernel
theorem dX10_steepest_4 : decode cX10_steepest 4 = .ok (.iload_n 2, 1) := by decide +kernel
theorem dX10_steepest_5 : decode cX10_steepest 5 = .ok (.bipush 40, 2) := by decide +kernel
theorem dX10_steepest_7 : decode cX10_steepest 7 = .ok (.if_icmp .ge 48, 3) := by decide +kernel
theorem dX10_steepest_10 : decode cX10_steepest 10 = .ok (.aload_n 0, 1) := by decide +kernel
theorem dX10_steepest_11 : decode cX10_steepest 11 = .ok (.iload_n 2, 1) := by decide +kernel
theorem dX10_steepest_12 : decode cX10_steepest 12 = .ok (.invokevirtual 122, 3) := by decide +kernel
theorem dX10_steepest_15 : decode cX10_steepest 15 = .ok (.ifCond .eq 34, 3) := by decide +kernel
theorem dX10_steepest_18 : decode cX10_steepest 18 = .ok (.iload_n 1, 1) := by decide +kernel
theorem dX10_steepest_19 : decode cX10_steepest 19 = .ok (.ifCond .lt 24, 3) := by decide +kernel
theorem dX10_steepest_22 : decode cX10_steepest 22 = .ok (.aload_n 0, 1) := by decide +kernel
theorem dX10_steepest_23 : decode cX10_steepest 23 = .ok (.iload_n 2, 1) := by decide +kernel
theorem dX10_steepest_24 : decode cX10_steepest 24 = .ok (.invokevirtual 113, 3) := by decide +kernel
theorem dX10_steepest_27 : decode cX10_steepest 27 = .ok (.aload_n 0, 1) := by decide +kernel
theorem dX10_steepest_28 : decode cX10_steepest 28 = .ok (.iload_n 1, 1) := by decide +kernel
theorem dX10_steepest_29 : decode cX10_steepest 29 = .ok (.ifCond .ge 7, 3) := by decide +kernel
theorem dX10_steepest_32 : decode cX10_steepest 32 = .ok (.iconst 1, 1) := by decide +kernel
theorem dX10_steepest_33 : decode cX10_steepest 33 = .ok (.goto 4, 3) := by decide +kernel
theorem dX10_steepest_36 : decode cX10_steepest 36 = .ok (.iload_n 1, 1) := by decide +kernel
theorem dX10_steepest_37 : decode cX10_steepest 37 = .ok (.invokevirtual 113, 3) := by decide +kernel
theorem dX10_steepest_40 : decode cX10_steepest 40 = .ok (.if_icmp .le 7, 3) := by decide +kernel
theorem dX10_steepest_43 : decode cX10_steepest 43 = .ok (.iload_n 2, 1) := by decide +kernel
theorem dX10_steepest_44 : decode cX10_steepest 44 = .ok (.goto 4, 3) := by decide +kernel
theorem dX10_steepest_47 : decode cX10_steepest 47 = .ok (.iload_n 1, 1) := by decide +kernel
theorem dX10_steepest_48 : decode cX10_steepest 48 = .ok (.istore_n 1, 1) := by decide +kernel
theorem dX10_steepest_49 : decode cX10_steepest 49 = .ok (.iinc 2 1, 3) := by decide +kernel
theorem dX10_steepest_52 : decode cX10_steepest 52 = .ok (.goto (-48), 3) := by decide +kernel
theorem dX10_steepest_55 : decode cX10_steepest 55 = .ok (.iload_n 1, 1) := by decide +kernel
theorem dX10_steepest_56 : decode cX10_steepest 56 = .ok (.ifCond .ge 12, 3) := by decide +kernel
theorem dX10_steepest_59 : decode cX10_steepest 59 = .ok (.aload_n 0, 1) := by decide +kernel
theorem dX10_steepest_60 : decode cX10_steepest 60 = .ok (.ldc 147, 2) := by decide +kernel
theorem dX10_steepest_62 : decode cX10_steepest 62 = .ok (.invokevirtual 63, 3) := by decide +kernel
theorem dX10_steepest_65 : decode cX10_steepest 65 = .ok (.goto 4, 3) := by decide +kernel
theorem dX10_steepest_68 : decode cX10_steepest 68 = .ok (.iload_n 1, 1) := by decide +kernel
theorem dX10_steepest_69 : decode cX10_steepest 69 = .ok (.ireturn, 1) := by decide +kernel
theorem dX10_whose_0 : decode cX10_whose 0 = .ok (.iload_n 1, 1) := by decide +kernel
theorem dX10_whose_1 : decode cX10_whose 1 = .ok (.invokestatic 59, 3) := by decide +kernel
theorem dX10_whose_4 : decode cX10_whose 4 = .ok (.ifCond .eq 13, 3) := by decide +kernel
theorem dX10_whose_7 : decode cX10_whose 7 = .ok (.iload_n 2, 1) := by decide +kernel
theorem dX10_whose_8 : decode cX10_whose 8 = .ok (.iconst 0, 1) := by decide +kernel
theorem dX10_whose_9 : decode cX10_whose 9 = .ok (.bipush 40, 2) := by decide +kernel
theorem dX10_whose_11 : decode cX10_whose 11 = .ok (.invokestatic 47, 3) := by decide +kernel
theorem dX10_whose_14 : decode cX10_whose 14 = .ok (.ifCond .ne 10, 3) := by decide +kernel
theorem dX10_whose_17 : decode cX10_whose 17 = .ok (.aload_n 0, 1) := by decide +kernel
theorem dX10_whose_18 : decode cX10_whose 18 = .ok (.ldc 38, 2) := by decide +kernel
theorem dX10_whose_20 : decode cX10_whose 20 = .ok (.invokevirtual 63, 3) := by decide +kernel
theorem dX10_whose_23 : decode cX10_whose 23 = .ok (.ireturn, 1) := by decide +kernel
theorem dX10_whose_24 : decode cX10_whose 24 = .ok (.iconst 0, 1) := by decide +kernel
theorem dX10_whose_25 : decode cX10_whose 25 = .ok (.istore_n 3, 1) := by decide +kernel
theorem dX10_whose_26 : decode cX10_whose 26 = .ok (.iconst 0, 1) := by decide +kernel
theorem dX10_whose_27 : decode cX10_whose 27 = .ok (.istore 4, 2) := by decide +kernel
theorem dX10_whose_29 : decode cX10_whose 29 = .ok (.iload 4, 2) := by decide +kernel
theorem dX10_whose_31 : decode cX10_whose 31 = .ok (.aload_n 0, 1) := by decide +kernel
theorem dX10_whose_32 : decode cX10_whose 32 = .ok (.getfield 7, 3) := by decide +kernel
theorem dX10_whose_35 : decode cX10_whose 35 = .ok (.iconst 4, 1) := by decide +kernel
theorem dX10_whose_36 : decode cX10_whose 36 = .ok (.iaload, 1) := by decide +kernel
theorem dX10_whose_37 : decode cX10_whose 37 = .ok (.if_icmp .ge 31, 3) := by decide +kernel
theorem dX10_whose_40 : decode cX10_whose 40 = .ok (.iload_n 3, 1) := by decide +kernel
theorem dX10_whose_41 : decode cX10_whose 41 = .ok (.aload_n 0, 1) := by decide +kernel
theorem dX10_whose_42 : decode cX10_whose 42 = .ok (.iload 4, 2) := by decide +kernel
theorem dX10_whose_44 : decode cX10_whose 44 = .ok (.iload_n 1, 1) := by decide +kernel
theorem dX10_whose_45 : decode cX10_whose 45 = .ok (.invokevirtual 87, 3) := by decide +kernel
theorem dX10_whose_48 : decode cX10_whose 48 = .ok (.iload_n 2, 1) := by decide +kernel
theorem dX10_whose_49 : decode cX10_whose 49 = .ok (.if_icmp .ne 10, 3) := by decide +kernel
theorem dX10_whose_52 : decode cX10_whose 52 = .ok (.iconst 1, 1) := by decide +kernel
theorem dX10_whose_53 : decode cX10_whose 53 = .ok (.iload 4, 2) := by decide +kernel
theorem dX10_whose_55 : decode cX10_whose 55 = .ok (.ishl, 1) := by decide +kernel
theorem dX10_whose_56 : decode cX10_whose 56 = .ok (.goto 4, 3) := by decide +kernel
theorem dX10_whose_59 : decode cX10_whose 59 = .ok (.iconst 0, 1) := by decide +kernel
theorem dX10_whose_60 : decode cX10_whose 60 = .ok (.ior, 1) := by decide +kernel
theorem dX10_whose_61 : decode cX10_whose 61 = .ok (.istore_n 3, 1) := by decide +kernel
theorem dX10_whose_62 : decode cX10_whose 62 = .ok (.iinc 4 1, 3) := by decide +kernel
theorem dX10_whose_65 : decode cX10_whose 65 = .ok (.goto (-36), 3) := by decide +kernel
theorem dX10_whose_68 : decode cX10_whose 68 = .ok (.iload_n 3, 1) := by decide +kernel
theorem dX10_whose_69 : decode cX10_whose 69 = .ok (.ireturn, 1) := by decide +kernel
theorem dX10_bears_0 : decode cX10_bears 0 = .ok (.iload_n 1, 1) := by decide +kernel
theorem dX10_bears_1 : decode cX10_bears 1 = .ok (.iconst 1, 1) := by decide +kernel
theorem dX10_bears_2 : decode cX10_bears 2 = .ok (.sipush 200, 3) := by decide +kernel
theorem dX10_bears_5 : decode cX10_bears 5 = .ok (.invokestatic 47, 3) := by decide +kernel
theorem dX10_bears_8 : decode cX10_bears 8 = .ok (.ifCond .ne 10, 3) := by decide +kernel
theorem dX10_bears_11 : decode cX10_bears 11 = .ok (.aload_n 0, 1) := by decide +kernel
theorem dX10_bears_12 : decode cX10_bears 12 = .ok (.ldc 38, 2) := by decide +kernel
theorem dX10_bears_14 : decode cX10_bears 14 = .ok (.invokevirtual 63, 3) := by decide +kernel
theorem dX10_bears_17 : decode cX10_bears 17 = .ok (.ireturn, 1) := by decide +kernel
theorem dX10_bears_18 : decode cX10_bears 18 = .ok (.aload_n 0, 1) := by decide +kernel
theorem dX10_bears_19 : decode cX10_bears 19 = .ok (.iload_n 1, 1) := by decide +kernel
theorem dX10_bears_20 : decode cX10_bears 20 = .ok (.invokevirtual 135, 3) := by decide +kernel
theorem dX10_bears_23 : decode cX10_bears 23 = .ok (.ifCond .eq 10, 3) := by decide +kernel
theorem dX10_bears_26 : decode cX10_bears 26 = .ok (.aload_n 0, 1) := by decide +kernel
theorem dX10_bears_27 : decode cX10_bears 27 = .ok (.ldc 101, 2) := by decide +kernel
theorem dX10_bears_29 : decode cX10_bears 29 = .ok (.invokevirtual 63, 3) := by decide +kernel
theorem dX10_bears_32 : decode cX10_bears 32 = .ok (.ireturn, 1) := by decide +kernel
theorem dX10_bears_33 : decode cX10_bears 33 = .ok (.iconst (-1), 1) := by decide +kernel
theorem dX10_bears_34 : decode cX10_bears 34 = .ok (.istore_n 2, 1) := by decide +kernel
theorem dX10_bears_35 : decode cX10_bears 35 = .ok (.iconst 0, 1) := by decide +kernel
theorem dX10_bears_36 : decode cX10_bears 36 = .ok (.istore_n 3, 1) := by decide +kernel
theorem dX10_bears_37 : decode cX10_bears 37 = .ok (.iload_n 3, 1) := by decide +kernel
theorem dX10_bears_38 : decode cX10_bears 38 = .ok (.bipush 10, 2) := by decide +kernel
theorem dX10_bears_40 : decode cX10_bears 40 = .ok (.if_icmp .ge 41, 3) := by decide +kernel
theorem dX10_bears_43 : decode cX10_bears 43 = .ok (.aload_n 0, 1) := by decide +kernel
theorem dX10_bears_44 : decode cX10_bears 44 = .ok (.invokevirtual 144, 3) := by decide +kernel
theorem dX10_bears_47 : decode cX10_bears 47 = .ok (.aload_n 0, 1) := by decide +kernel
theorem dX10_bears_48 : decode cX10_bears 48 = .ok (.getfield 7, 3) := by decide +kernel
theorem dX10_bears_51 : decode cX10_bears 51 = .ok (.aload_n 0, 1) := by decide +kernel
theorem dX10_bears_52 : decode cX10_bears 52 = .ok (.getfield 39, 3) := by decide +kernel
theorem dX10_bears_55 : decode cX10_bears 55 = .ok (.iconst 1, 1) := by decide +kernel
theorem dX10_bears_56 : decode cX10_bears 56 = .ok (.iadd, 1) := by decide +kernel
theorem dX10_bears_57 : decode cX10_bears 57 = .ok (.iload_n 3, 1) := by decide +kernel
theorem dX10_bears_58 : decode cX10_bears 58 = .ok (.iastore, 1) := by decide +kernel
theorem dX10_bears_59 : decode cX10_bears 59 = .ok (.aload_n 0, 1) := by decide +kernel
theorem dX10_bears_60 : decode cX10_bears 60 = .ok (.iload_n 1, 1) := by decide +kernel
theorem dX10_bears_61 : decode cX10_bears 61 = .ok (.invokevirtual 151, 3) := by decide +kernel
theorem dX10_bears_64 : decode cX10_bears 64 = .ok (.bipush 40, 2) := by decide +kernel
theorem dX10_bears_66 : decode cX10_bears 66 = .ok (.if_icmp .ne 7, 3) := by decide +kernel
theorem dX10_bears_69 : decode cX10_bears 69 = .ok (.iload_n 3, 1) := by decide +kernel
theorem dX10_bears_70 : decode cX10_bears 70 = .ok (.goto 4, 3) := by decide +kernel
theorem dX10_bears_73 : decode cX10_bears 73 = .ok (.iload_n 2, 1) := by decide +kernel
theorem dX10_bears_74 : decode cX10_bears 74 = .ok (.istore_n 2, 1) := by decide +kernel
theorem dX10_bears_75 : decode cX10_bears 75 = .ok (.iinc 3 1, 3) := by decide +kernel
theorem dX10_bears_78 : decode cX10_bears 78 = .ok (.goto (-41), 3) := by decide +kernel
theorem dX10_bears_81 : decode cX10_bears 81 = .ok (.iload_n 2, 1) := by decide +kernel
theorem dX10_bears_82 : decode cX10_bears 82 = .ok (.ifCond .ge 12, 3) := by decide +kernel
theorem dX10_bears_85 : decode cX10_bears 85 = .ok (.aload_n 0, 1) := by decide +kernel
theorem dX10_bears_86 : decode cX10_bears 86 = .ok (.ldc 147, 2) := by decide +kernel
theorem dX10_bears_88 : decode cX10_bears 88 = .ok (.invokevirtual 63, 3) := by decide +kernel
theorem dX10_bears_91 : decode cX10_bears 91 = .ok (.goto 4, 3) := by decide +kernel
theorem dX10_bears_94 : decode cX10_bears 94 = .ok (.iload_n 2, 1) := by decide +kernel
theorem dX10_bears_95 : decode cX10_bears 95 = .ok (.ireturn, 1) := by decide +kernel
theorem dX10_meetsFor_0 : decode cX10_meetsFor 0 = .ok (.iload_n 1, 1) := by decide +kernel
theorem dX10_meetsFor_1 : decode cX10_meetsFor 1 = .ok (.iconst 0, 1) := by decide +kernel
theorem dX10_meetsFor_2 : decode cX10_meetsFor 2 = .ok (.bipush 40, 2) := by decide +kernel
theorem dX10_meetsFor_4 : decode cX10_meetsFor 4 = .ok (.invokestatic 47, 3) := by decide +kernel
theorem dX10_meetsFor_7 : decode cX10_meetsFor 7 = .ok (.ifCond .ne 10, 3) := by decide +kernel
theorem dX10_meetsFor_10 : decode cX10_meetsFor 10 = .ok (.aload_n 0, 1) := by decide +kernel
theorem dX10_meetsFor_11 : decode cX10_meetsFor 11 = .ok (.ldc 38, 2) := by decide +kernel
theorem dX10_meetsFor_13 : decode cX10_meetsFor 13 = .ok (.invokevirtual 63, 3) := by decide +kernel
theorem dX10_meetsFor_16 : decode cX10_meetsFor 16 = .ok (.ireturn, 1) := by decide +kernel
theorem dX10_meetsFor_17 : decode cX10_meetsFor 17 = .ok (.aload_n 0, 1) := by decide +kernel
theorem dX10_meetsFor_18 : decode cX10_meetsFor 18 = .ok (.getfield 7, 3) := by decide +kernel
theorem dX10_meetsFor_21 : decode cX10_meetsFor 21 = .ok (.iconst 2, 1) := by decide +kernel
theorem dX10_meetsFor_22 : decode cX10_meetsFor 22 = .ok (.iaload, 1) := by decide +kernel
theorem dX10_meetsFor_23 : decode cX10_meetsFor 23 = .ok (.istore_n 2, 1) := by decide +kernel
theorem dX10_meetsFor_24 : decode cX10_meetsFor 24 = .ok (.iconst 0, 1) := by decide +kernel
theorem dX10_meetsFor_25 : decode cX10_meetsFor 25 = .ok (.istore_n 3, 1) := by decide +kernel
theorem dX10_meetsFor_26 : decode cX10_meetsFor 26 = .ok (.iconst 0, 1) := by decide +kernel
theorem dX10_meetsFor_27 : decode cX10_meetsFor 27 = .ok (.istore 4, 2) := by decide +kernel
theorem dX10_meetsFor_29 : decode cX10_meetsFor 29 = .ok (.iload 4, 2) := by decide +kernel
theorem dX10_meetsFor_31 : decode cX10_meetsFor 31 = .ok (.ifCond .ne 47, 3) := by decide +kernel
theorem dX10_meetsFor_34 : decode cX10_meetsFor 34 = .ok (.iload_n 3, 1) := by decide +kernel
theorem dX10_meetsFor_35 : decode cX10_meetsFor 35 = .ok (.bipush 20, 2) := by decide +kernel
theorem dX10_meetsFor_37 : decode cX10_meetsFor 37 = .ok (.if_icmp .gt 41, 3) := by decide +kernel
theorem dX10_meetsFor_40 : decode cX10_meetsFor 40 = .ok (.aload_n 0, 1) := by decide +kernel
theorem dX10_meetsFor_41 : decode cX10_meetsFor 41 = .ok (.getfield 7, 3) := by decide +kernel
theorem dX10_meetsFor_44 : decode cX10_meetsFor 44 = .ok (.iconst 2, 1) := by decide +kernel
theorem dX10_meetsFor_45 : decode cX10_meetsFor 45 = .ok (.iload_n 3, 1) := by decide +kernel
theorem dX10_meetsFor_46 : decode cX10_meetsFor 46 = .ok (.iastore, 1) := by decide +kernel
theorem dX10_meetsFor_47 : decode cX10_meetsFor 47 = .ok (.aload_n 0, 1) := by decide +kernel
theorem dX10_meetsFor_48 : decode cX10_meetsFor 48 = .ok (.invokevirtual 119, 3) := by decide +kernel
theorem dX10_meetsFor_51 : decode cX10_meetsFor 51 = .ok (.iload_n 1, 1) := by decide +kernel
theorem dX10_meetsFor_52 : decode cX10_meetsFor 52 = .ok (.if_icmp .lt 7, 3) := by decide +kernel
theorem dX10_meetsFor_55 : decode cX10_meetsFor 55 = .ok (.iconst 1, 1) := by decide +kernel
theorem dX10_meetsFor_56 : decode cX10_meetsFor 56 = .ok (.goto 4, 3) := by decide +kernel
theorem dX10_meetsFor_59 : decode cX10_meetsFor 59 = .ok (.iconst 0, 1) := by decide +kernel
theorem dX10_meetsFor_60 : decode cX10_meetsFor 60 = .ok (.istore 4, 2) := by decide +kernel
theorem dX10_meetsFor_62 : decode cX10_meetsFor 62 = .ok (.iload 4, 2) := by decide +kernel
theorem dX10_meetsFor_64 : decode cX10_meetsFor 64 = .ok (.ifCond .eq 7, 3) := by decide +kernel
theorem dX10_meetsFor_67 : decode cX10_meetsFor 67 = .ok (.iload_n 3, 1) := by decide +kernel
theorem dX10_meetsFor_68 : decode cX10_meetsFor 68 = .ok (.goto 6, 3) := by decide +kernel
theorem dX10_meetsFor_71 : decode cX10_meetsFor 71 = .ok (.iload_n 3, 1) := by decide +kernel
theorem dX10_meetsFor_72 : decode cX10_meetsFor 72 = .ok (.iconst 1, 1) := by decide +kernel
theorem dX10_meetsFor_73 : decode cX10_meetsFor 73 = .ok (.iadd, 1) := by decide +kernel
theorem dX10_meetsFor_74 : decode cX10_meetsFor 74 = .ok (.istore_n 3, 1) := by decide +kernel
theorem dX10_meetsFor_75 : decode cX10_meetsFor 75 = .ok (.goto (-46), 3) := by decide +kernel
theorem dX10_meetsFor_78 : decode cX10_meetsFor 78 = .ok (.aload_n 0, 1) := by decide +kernel
theorem dX10_meetsFor_79 : decode cX10_meetsFor 79 = .ok (.getfield 7, 3) := by decide +kernel
theorem dX10_meetsFor_82 : decode cX10_meetsFor 82 = .ok (.iconst 2, 1) := by decide +kernel
theorem dX10_meetsFor_83 : decode cX10_meetsFor 83 = .ok (.iload_n 2, 1) := by decide +kernel
theorem dX10_meetsFor_84 : decode cX10_meetsFor 84 = .ok (.iastore, 1) := by decide +kernel
theorem dX10_meetsFor_85 : decode cX10_meetsFor 85 = .ok (.iload 4, 2) := by decide +kernel
theorem dX10_meetsFor_87 : decode cX10_meetsFor 87 = .ok (.ifCond .eq 7, 3) := by decide +kernel
theorem dX10_meetsFor_90 : decode cX10_meetsFor 90 = .ok (.iload_n 3, 1) := by decide +kernel
theorem dX10_meetsFor_91 : decode cX10_meetsFor 91 = .ok (.goto 9, 3) := by decide +kernel
theorem dX10_meetsFor_94 : decode cX10_meetsFor 94 = .ok (.aload_n 0, 1) := by decide +kernel
theorem dX10_meetsFor_95 : decode cX10_meetsFor 95 = .ok (.ldc 147, 2) := by decide +kernel
theorem dX10_meetsFor_97 : decode cX10_meetsFor 97 = .ok (.invokevirtual 63, 3) := by decide +kernel
theorem dX10_meetsFor_100 : decode cX10_meetsFor 100 = .ok (.ireturn, 1) := by decide +kernel
theorem dX10_alone_0 : decode cX10_alone 0 = .ok (.aload_n 0, 1) := by decide +kernel
theorem dX10_alone_1 : decode cX10_alone 1 = .ok (.iload_n 1, 1) := by decide +kernel
theorem dX10_alone_2 : decode cX10_alone 2 = .ok (.invokevirtual 81, 3) := by decide +kernel
theorem dX10_alone_5 : decode cX10_alone 5 = .ok (.ifCond .ne 10, 3) := by decide +kernel
theorem dX10_alone_8 : decode cX10_alone 8 = .ok (.aload_n 0, 1) := by decide +kernel
theorem dX10_alone_9 : decode cX10_alone 9 = .ok (.ldc 38, 2) := by decide +kernel
theorem dX10_alone_11 : decode cX10_alone 11 = .ok (.invokevirtual 63, 3) := by decide +kernel
theorem dX10_alone_14 : decode cX10_alone 14 = .ok (.ireturn, 1) := by decide +kernel
theorem dX10_alone_15 : decode cX10_alone 15 = .ok (.aload_n 0, 1) := by decide +kernel
theorem dX10_alone_16 : decode cX10_alone 16 = .ok (.iload_n 1, 1) := by decide +kernel
theorem dX10_alone_17 : decode cX10_alone 17 = .ok (.invokevirtual 84, 3) := by decide +kernel
theorem dX10_alone_20 : decode cX10_alone 20 = .ok (.istore_n 2, 1) := by decide +kernel
theorem dX10_alone_21 : decode cX10_alone 21 = .ok (.iconst 0, 1) := by decide +kernel
theorem dX10_alone_22 : decode cX10_alone 22 = .ok (.istore_n 3, 1) := by decide +kernel
theorem dX10_alone_23 : decode cX10_alone 23 = .ok (.iconst 0, 1) := by decide +kernel
theorem dX10_alone_24 : decode cX10_alone 24 = .ok (.istore 4, 2) := by decide +kernel
theorem dX10_alone_26 : decode cX10_alone 26 = .ok (.iload 4, 2) := by decide +kernel
theorem dX10_alone_28 : decode cX10_alone 28 = .ok (.bipush 40, 2) := by decide +kernel
theorem dX10_alone_30 : decode cX10_alone 30 = .ok (.if_icmp .ge 40, 3) := by decide +kernel
theorem dX10_alone_33 : decode cX10_alone 33 = .ok (.iload_n 3, 1) := by decide +kernel
theorem dX10_alone_34 : decode cX10_alone 34 = .ok (.aload_n 0, 1) := by decide +kernel
theorem dX10_alone_35 : decode cX10_alone 35 = .ok (.iload 4, 2) := by decide +kernel
theorem dX10_alone_37 : decode cX10_alone 37 = .ok (.invokevirtual 78, 3) := by decide +kernel
theorem dX10_alone_40 : decode cX10_alone 40 = .ok (.ifCond .eq 7, 3) := by decide +kernel
theorem dX10_alone_43 : decode cX10_alone 43 = .ok (.iconst 0, 1) := by decide +kernel
theorem dX10_alone_44 : decode cX10_alone 44 = .ok (.goto 18, 3) := by decide +kernel
theorem dX10_alone_47 : decode cX10_alone 47 = .ok (.aload_n 0, 1) := by decide +kernel
theorem dX10_alone_48 : decode cX10_alone 48 = .ok (.getfield 7, 3) := by decide +kernel
theorem dX10_alone_51 : decode cX10_alone 51 = .ok (.iconst 5, 1) := by decide +kernel
theorem dX10_alone_52 : decode cX10_alone 52 = .ok (.iload 4, 2) := by decide +kernel
theorem dX10_alone_54 : decode cX10_alone 54 = .ok (.iadd, 1) := by decide +kernel
theorem dX10_alone_55 : decode cX10_alone 55 = .ok (.iaload, 1) := by decide +kernel
theorem dX10_alone_56 : decode cX10_alone 56 = .ok (.iload_n 2, 1) := by decide +kernel
theorem dX10_alone_57 : decode cX10_alone 57 = .ok (.iadd, 1) := by decide +kernel
theorem dX10_alone_58 : decode cX10_alone 58 = .ok (.iconst 1, 1) := by decide +kernel
theorem dX10_alone_59 : decode cX10_alone 59 = .ok (.isub, 1) := by decide +kernel
theorem dX10_alone_60 : decode cX10_alone 60 = .ok (.iload_n 2, 1) := by decide +kernel
theorem dX10_alone_61 : decode cX10_alone 61 = .ok (.idiv, 1) := by decide +kernel
theorem dX10_alone_62 : decode cX10_alone 62 = .ok (.iadd, 1) := by decide +kernel
theorem dX10_alone_63 : decode cX10_alone 63 = .ok (.istore_n 3, 1) := by decide +kernel
theorem dX10_alone_64 : decode cX10_alone 64 = .ok (.iinc 4 1, 3) := by decide +kernel
theorem dX10_alone_67 : decode cX10_alone 67 = .ok (.goto (-41), 3) := by decide +kernel
theorem dX10_alone_70 : decode cX10_alone 70 = .ok (.iload_n 3, 1) := by decide +kernel
theorem dX10_alone_71 : decode cX10_alone 71 = .ok (.ireturn, 1) := by decide +kernel
theorem dX10_feed_0 : decode cX10_feed 0 = .ok (.iload_n 2, 1) := by decide +kernel
theorem dX10_feed_1 : decode cX10_feed 1 = .ok (.iconst 1, 1) := by decide +kernel
theorem dX10_feed_2 : decode cX10_feed 2 = .ok (.iconst 4, 1) := by decide +kernel
theorem dX10_feed_3 : decode cX10_feed 3 = .ok (.invokestatic 47, 3) := by decide +kernel
theorem dX10_feed_6 : decode cX10_feed 6 = .ok (.ifCond .ne 10, 3) := by decide +kernel
theorem dX10_feed_9 : decode cX10_feed 9 = .ok (.aload_n 0, 1) := by decide +kernel
theorem dX10_feed_10 : decode cX10_feed 10 = .ok (.ldc 38, 2) := by decide +kernel
theorem dX10_feed_12 : decode cX10_feed 12 = .ok (.invokevirtual 63, 3) := by decide +kernel
theorem dX10_feed_15 : decode cX10_feed 15 = .ok (.ireturn, 1) := by decide +kernel
theorem dX10_feed_16 : decode cX10_feed 16 = .ok (.aload_n 0, 1) := by decide +kernel
theorem dX10_feed_17 : decode cX10_feed 17 = .ok (.getfield 154, 3) := by decide +kernel
theorem dX10_feed_20 : decode cX10_feed 20 = .ok (.iload_n 2, 1) := by decide +kernel
theorem dX10_feed_21 : decode cX10_feed 21 = .ok (.iadd, 1) := by decide +kernel
theorem dX10_feed_22 : decode cX10_feed 22 = .ok (.bipush 120, 2) := by decide +kernel
theorem dX10_feed_24 : decode cX10_feed 24 = .ok (.if_icmp .le 10, 3) := by decide +kernel
theorem dX10_feed_27 : decode cX10_feed 27 = .ok (.aload_n 0, 1) := by decide +kernel
theorem dX10_feed_28 : decode cX10_feed 28 = .ok (.ldc 73, 2) := by decide +kernel
theorem dX10_feed_30 : decode cX10_feed 30 = .ok (.invokevirtual 63, 3) := by decide +kernel
theorem dX10_feed_33 : decode cX10_feed 33 = .ok (.ireturn, 1) := by decide +kernel
theorem dX10_feed_34 : decode cX10_feed 34 = .ok (.iload_n 2, 1) := by decide +kernel
theorem dX10_feed_35 : decode cX10_feed 35 = .ok (.iconst 1, 1) := by decide +kernel
theorem dX10_feed_36 : decode cX10_feed 36 = .ok (.isub, 1) := by decide +kernel
theorem dX10_feed_37 : decode cX10_feed 37 = .ok (.istore_n 3, 1) := by decide +kernel
theorem dX10_feed_38 : decode cX10_feed 38 = .ok (.iload_n 3, 1) := by decide +kernel
theorem dX10_feed_39 : decode cX10_feed 39 = .ok (.ifCond .lt 38, 3) := by decide +kernel
theorem dX10_feed_42 : decode cX10_feed 42 = .ok (.aload_n 0, 1) := by decide +kernel
theorem dX10_feed_43 : decode cX10_feed 43 = .ok (.getfield 16, 3) := by decide +kernel
theorem dX10_feed_46 : decode cX10_feed 46 = .ok (.aload_n 0, 1) := by decide +kernel
theorem dX10_feed_47 : decode cX10_feed 47 = .ok (.getfield 154, 3) := by decide +kernel
theorem dX10_feed_50 : decode cX10_feed 50 = .ok (.iload_n 1, 1) := by decide +kernel
theorem dX10_feed_51 : decode cX10_feed 51 = .ok (.bipush 8, 2) := by decide +kernel
theorem dX10_feed_53 : decode cX10_feed 53 = .ok (.iload_n 3, 1) := by decide +kernel
theorem dX10_feed_54 : decode cX10_feed 54 = .ok (.imul, 1) := by decide +kernel
theorem dX10_feed_55 : decode cX10_feed 55 = .ok (.ishr, 1) := by decide +kernel
theorem dX10_feed_56 : decode cX10_feed 56 = .ok (.sipush 255, 3) := by decide +kernel
theorem dX10_feed_59 : decode cX10_feed 59 = .ok (.iand, 1) := by decide +kernel
theorem dX10_feed_60 : decode cX10_feed 60 = .ok (.iastore, 1) := by decide +kernel
theorem dX10_feed_61 : decode cX10_feed 61 = .ok (.aload_n 0, 1) := by decide +kernel
theorem dX10_feed_62 : decode cX10_feed 62 = .ok (.dup, 1) := by decide +kernel
theorem dX10_feed_63 : decode cX10_feed 63 = .ok (.getfield 154, 3) := by decide +kernel
theorem dX10_feed_66 : decode cX10_feed 66 = .ok (.iconst 1, 1) := by decide +kernel
theorem dX10_feed_67 : decode cX10_feed 67 = .ok (.iadd, 1) := by decide +kernel
theorem dX10_feed_68 : decode cX10_feed 68 = .ok (.putfield 154, 3) := by decide +kernel
theorem dX10_feed_71 : decode cX10_feed 71 = .ok (.iinc 3 (-1), 3) := by decide +kernel
theorem dX10_feed_74 : decode cX10_feed 74 = .ok (.goto (-36), 3) := by decide +kernel
theorem dX10_feed_77 : decode cX10_feed 77 = .ok (.aload_n 0, 1) := by decide +kernel
theorem dX10_feed_78 : decode cX10_feed 78 = .ok (.getfield 154, 3) := by decide +kernel
theorem dX10_feed_81 : decode cX10_feed 81 = .ok (.ireturn, 1) := by decide +kernel
theorem dX10_wipe_0 : decode cX10_wipe 0 = .ok (.aload_n 0, 1) := by decide +kernel
theorem dX10_wipe_1 : decode cX10_wipe 1 = .ok (.getfield 154, 3) := by decide +kernel
theorem dX10_wipe_4 : decode cX10_wipe 4 = .ok (.istore_n 1, 1) := by decide +kernel
theorem dX10_wipe_5 : decode cX10_wipe 5 = .ok (.aload_n 0, 1) := by decide +kernel
theorem dX10_wipe_6 : decode cX10_wipe 6 = .ok (.iconst 0, 1) := by decide +kernel
theorem dX10_wipe_7 : decode cX10_wipe 7 = .ok (.putfield 154, 3) := by decide +kernel
theorem dX10_wipe_10 : decode cX10_wipe 10 = .ok (.iload_n 1, 1) := by decide +kernel
theorem dX10_wipe_11 : decode cX10_wipe 11 = .ok (.ireturn, 1) := by decide +kernel
theorem dX10_byteAt_0 : decode cX10_byteAt 0 = .ok (.iload_n 1, 1) := by decide +kernel
theorem dX10_byteAt_1 : decode cX10_byteAt 1 = .ok (.aload_n 0, 1) := by decide +kernel
theorem dX10_byteAt_2 : decode cX10_byteAt 2 = .ok (.getfield 154, 3) := by decide +kernel
theorem dX10_byteAt_5 : decode cX10_byteAt 5 = .ok (.if_icmp .ge 12, 3) := by decide +kernel
theorem dX10_byteAt_8 : decode cX10_byteAt 8 = .ok (.aload_n 0, 1) := by decide +kernel
theorem dX10_byteAt_9 : decode cX10_byteAt 9 = .ok (.getfield 16, 3) := by decide +kernel
theorem dX10_byteAt_12 : decode cX10_byteAt 12 = .ok (.iload_n 1, 1) := by decide +kernel
theorem dX10_byteAt_13 : decode cX10_byteAt 13 = .ok (.iaload, 1) := by decide +kernel
theorem dX10_byteAt_14 : decode cX10_byteAt 14 = .ok (.goto 4, 3) := by decide +kernel
theorem dX10_byteAt_17 : decode cX10_byteAt 17 = .ok (.iconst (-1), 1) := by decide +kernel
theorem dX10_byteAt_18 : decode cX10_byteAt 18 = .ok (.ireturn, 1) := by decide +kernel
theorem dX10_isLetter_0 : decode cX10_isLetter 0 = .ok (.iload_n 0, 1) := by decide +kernel
theorem dX10_isLetter_1 : decode cX10_isLetter 1 = .ok (.bipush 97, 2) := by decide +kernel
theorem dX10_isLetter_3 : decode cX10_isLetter 3 = .ok (.bipush 122, 2) := by decide +kernel
theorem dX10_isLetter_5 : decode cX10_isLetter 5 = .ok (.invokestatic 47, 3) := by decide +kernel
theorem dX10_isLetter_8 : decode cX10_isLetter 8 = .ok (.ireturn, 1) := by decide +kernel
theorem dX10_isDigit_0 : decode cX10_isDigit 0 = .ok (.iload_n 0, 1) := by decide +kernel
theorem dX10_isDigit_1 : decode cX10_isDigit 1 = .ok (.bipush 48, 2) := by decide +kernel
theorem dX10_isDigit_3 : decode cX10_isDigit 3 = .ok (.bipush 57, 2) := by decide +kernel
theorem dX10_isDigit_5 : decode cX10_isDigit 5 = .ok (.invokestatic 47, 3) := by decide +kernel
theorem dX10_isDigit_8 : decode cX10_isDigit 8 = .ok (.ireturn, 1) := by decide +kernel
theorem dX10_advance_0 : decode cX10_advance 0 = .ok (.aload_n 0, 1) := by decide +kernel
theorem dX10_advance_1 : decode cX10_advance 1 = .ok (.aload_n 0, 1) := by decide +kernel
theorem dX10_advance_2 : decode cX10_advance 2 = .ok (.getfield 157, 3) := by decide +kernel
theorem dX10_advance_5 : decode cX10_advance 5 = .ok (.putfield 160, 3) := by decide +kernel
theorem dX10_advance_8 : decode cX10_advance 8 = .ok (.aload_n 0, 1) := by decide +kernel
theorem dX10_advance_9 : decode cX10_advance 9 = .ok (.aload_n 0, 1) := by decide +kernel
theorem dX10_advance_10 : decode cX10_advance 10 = .ok (.getfield 160, 3) := by decide +kernel
theorem dX10_advance_13 : decode cX10_advance 13 = .ok (.invokevirtual 163, 3) := by decide +kernel
theorem dX10_advance_16 : decode cX10_advance 16 = .ok (.bipush 32, 2) := by decide +kernel
theorem dX10_advance_18 : decode cX10_advance 18 = .ok (.if_icmp .ne 16, 3) := by decide +kernel
theorem dX10_advance_21 : decode cX10_advance 21 = .ok (.aload_n 0, 1) := by decide +kernel
theorem dX10_advance_22 : decode cX10_advance 22 = .ok (.dup, 1) := by decide +kernel
theorem dX10_advance_23 : decode cX10_advance 23 = .ok (.getfield 160, 3) := by decide +kernel
theorem dX10_advance_26 : decode cX10_advance 26 = .ok (.iconst 1, 1) := by decide +kernel
theorem dX10_advance_27 : decode cX10_advance 27 = .ok (.iadd, 1) := by decide +kernel
theorem dX10_advance_28 : decode cX10_advance 28 = .ok (.putfield 160, 3) := by decide +kernel
theorem dX10_advance_31 : decode cX10_advance 31 = .ok (.goto (-23), 3) := by decide +kernel
theorem dX10_advance_34 : decode cX10_advance 34 = .ok (.aload_n 0, 1) := by decide +kernel
theorem dX10_advance_35 : decode cX10_advance 35 = .ok (.aload_n 0, 1) := by decide +kernel
theorem dX10_advance_36 : decode cX10_advance 36 = .ok (.getfield 160, 3) := by decide +kernel
theorem dX10_advance_39 : decode cX10_advance 39 = .ok (.putfield 157, 3) := by decide +kernel
theorem dX10_advance_42 : decode cX10_advance 42 = .ok (.aload_n 0, 1) := by decide +kernel
theorem dX10_advance_43 : decode cX10_advance 43 = .ok (.aload_n 0, 1) := by decide +kernel
theorem dX10_advance_44 : decode cX10_advance 44 = .ok (.getfield 160, 3) := by decide +kernel
theorem dX10_advance_47 : decode cX10_advance 47 = .ok (.invokevirtual 163, 3) := by decide +kernel
theorem dX10_advance_50 : decode cX10_advance 50 = .ok (.istore_n 1, 1) := by decide +kernel
theorem dX10_advance_51 : decode cX10_advance 51 = .ok (.aload_n 0, 1) := by decide +kernel
theorem dX10_advance_52 : decode cX10_advance 52 = .ok (.iload_n 1, 1) := by decide +kernel
theorem dX10_advance_53 : decode cX10_advance 53 = .ok (.ifCond .ge 7, 3) := by decide +kernel
theorem dX10_advance_56 : decode cX10_advance 56 = .ok (.iconst 0, 1) := by decide +kernel
theorem dX10_advance_57 : decode cX10_advance 57 = .ok (.goto 26, 3) := by decide +kernel
theorem dX10_advance_60 : decode cX10_advance 60 = .ok (.iload_n 1, 1) := by decide +kernel
theorem dX10_advance_61 : decode cX10_advance 61 = .ok (.invokestatic 166, 3) := by decide +kernel
theorem dX10_advance_64 : decode cX10_advance 64 = .ok (.ifCond .eq 7, 3) := by decide +kernel
theorem dX10_advance_67 : decode cX10_advance 67 = .ok (.iconst 1, 1) := by decide +kernel
theorem dX10_advance_68 : decode cX10_advance 68 = .ok (.goto 15, 3) := by decide +kernel
theorem dX10_advance_71 : decode cX10_advance 71 = .ok (.iload_n 1, 1) := by decide +kernel
theorem dX10_advance_72 : decode cX10_advance 72 = .ok (.invokestatic 169, 3) := by decide +kernel
theorem dX10_advance_75 : decode cX10_advance 75 = .ok (.ifCond .eq 7, 3) := by decide +kernel
theorem dX10_advance_78 : decode cX10_advance 78 = .ok (.iconst 2, 1) := by decide +kernel
theorem dX10_advance_79 : decode cX10_advance 79 = .ok (.goto 4, 3) := by decide +kernel
theorem dX10_advance_82 : decode cX10_advance 82 = .ok (.iconst 3, 1) := by decide +kernel
theorem dX10_advance_83 : decode cX10_advance 83 = .ok (.putfield 172, 3) := by decide +kernel
theorem dX10_advance_86 : decode cX10_advance 86 = .ok (.aload_n 0, 1) := by decide +kernel
theorem dX10_advance_87 : decode cX10_advance 87 = .ok (.lconst 0, 1) := by decide +kernel
theorem dX10_advance_88 : decode cX10_advance 88 = .ok (.putfield 175, 3) := by decide +kernel
theorem dX10_advance_91 : decode cX10_advance 91 = .ok (.aload_n 0, 1) := by decide +kernel
theorem dX10_advance_92 : decode cX10_advance 92 = .ok (.aload_n 0, 1) := by decide +kernel
theorem dX10_advance_93 : decode cX10_advance 93 = .ok (.getfield 172, 3) := by decide +kernel
theorem dX10_advance_96 : decode cX10_advance 96 = .ok (.iconst 2, 1) := by decide +kernel
theorem dX10_advance_97 : decode cX10_advance 97 = .ok (.if_icmp .ne 7, 3) := by decide +kernel
theorem dX10_advance_100 : decode cX10_advance 100 = .ok (.iconst 0, 1) := by decide +kernel
theorem dX10_advance_101 : decode cX10_advance 101 = .ok (.goto 4, 3) := by decide +kernel
theorem dX10_advance_104 : decode cX10_advance 104 = .ok (.iload_n 1, 1) := by decide +kernel
theorem dX10_advance_105 : decode cX10_advance 105 = .ok (.putfield 179, 3) := by decide +kernel
theorem dX10_advance_108 : decode cX10_advance 108 = .ok (.aload_n 0, 1) := by decide +kernel
theorem dX10_advance_109 : decode cX10_advance 109 = .ok (.getfield 172, 3) := by decide +kernel
theorem dX10_advance_112 : decode cX10_advance 112 = .ok (.iconst 3, 1) := by decide +kernel
theorem dX10_advance_113 : decode cX10_advance 113 = .ok (.if_icmp .ne 13, 3) := by decide +kernel
theorem dX10_advance_116 : decode cX10_advance 116 = .ok (.aload_n 0, 1) := by decide +kernel
theorem dX10_advance_117 : decode cX10_advance 117 = .ok (.dup, 1) := by decide +kernel
theorem dX10_advance_118 : decode cX10_advance 118 = .ok (.getfield 157, 3) := by decide +kernel
theorem dX10_advance_121 : decode cX10_advance 121 = .ok (.iconst 1, 1) := by decide +kernel
theorem dX10_advance_122 : decode cX10_advance 122 = .ok (.iadd, 1) := by decide +kernel
theorem dX10_advance_123 : decode cX10_advance 123 = .ok (.putfield 157, 3) := by decide +kernel
theorem dX10_advance_126 : decode cX10_advance 126 = .ok (.aload_n 0, 1) := by decide +kernel
theorem dX10_advance_127 : decode cX10_advance 127 = .ok (.getfield 172, 3) := by decide +kernel
theorem dX10_advance_130 : decode cX10_advance 130 = .ok (.iconst 1, 1) := by decide +kernel
theorem dX10_advance_131 : decode cX10_advance 131 = .ok (.if_icmp .ne 76, 3) := by decide +kernel
theorem dX10_advance_134 : decode cX10_advance 134 = .ok (.aload_n 0, 1) := by decide +kernel
theorem dX10_advance_135 : decode cX10_advance 135 = .ok (.aload_n 0, 1) := by decide +kernel
theorem dX10_advance_136 : decode cX10_advance 136 = .ok (.getfield 157, 3) := by decide +kernel
theorem dX10_advance_139 : decode cX10_advance 139 = .ok (.invokevirtual 163, 3) := by decide +kernel
theorem dX10_advance_142 : decode cX10_advance 142 = .ok (.invokestatic 166, 3) := by decide +kernel
theorem dX10_advance_145 : decode cX10_advance 145 = .ok (.ifCond .eq 62, 3) := by decide +kernel
theorem dX10_advance_148 : decode cX10_advance 148 = .ok (.aload_n 0, 1) := by decide +kernel
theorem dX10_advance_149 : decode cX10_advance 149 = .ok (.aload_n 0, 1) := by decide +kernel
theorem dX10_advance_150 : decode cX10_advance 150 = .ok (.getfield 157, 3) := by decide +kernel
theorem dX10_advance_153 : decode cX10_advance 153 = .ok (.aload_n 0, 1) := by decide +kernel
theorem dX10_advance_154 : decode cX10_advance 154 = .ok (.getfield 160, 3) := by decide +kernel
theorem dX10_advance_157 : decode cX10_advance 157 = .ok (.isub, 1) := by decide +kernel
theorem dX10_advance_158 : decode cX10_advance 158 = .ok (.bipush 12, 2) := by decide +kernel
theorem dX10_advance_160 : decode cX10_advance 160 = .ok (.if_icmp .ge 28, 3) := by decide +kernel
theorem dX10_advance_163 : decode cX10_advance 163 = .ok (.ldc2_w 182, 3) := by decide +kernel
theorem dX10_advance_166 : decode cX10_advance 166 = .ok (.aload_n 0, 1) := by decide +kernel
theorem dX10_advance_167 : decode cX10_advance 167 = .ok (.getfield 175, 3) := by decide +kernel
theorem dX10_advance_170 : decode cX10_advance 170 = .ok (.lmul, 1) := by decide +kernel
theorem dX10_advance_171 : decode cX10_advance 171 = .ok (.aload_n 0, 1) := by decide +kernel
theorem dX10_advance_172 : decode cX10_advance 172 = .ok (.aload_n 0, 1) := by decide +kernel
theorem dX10_advance_173 : decode cX10_advance 173 = .ok (.getfield 157, 3) := by decide +kernel
theorem dX10_advance_176 : decode cX10_advance 176 = .ok (.invokevirtual 163, 3) := by decide +kernel
theorem dX10_advance_179 : decode cX10_advance 179 = .ok (.i2l, 1) := by decide +kernel
theorem dX10_advance_180 : decode cX10_advance 180 = .ok (.ladd, 1) := by decide +kernel
theorem dX10_advance_181 : decode cX10_advance 181 = .ok (.ldc2_w 184, 3) := by decide +kernel
theorem dX10_advance_184 : decode cX10_advance 184 = .ok (.lsub, 1) := by decide +kernel
theorem dX10_advance_185 : decode cX10_advance 185 = .ok (.goto 6, 3) := by decide +kernel
theorem dX10_advance_188 : decode cX10_advance 188 = .ok (.ldc2_w 186, 3) := by decide +kernel
theorem dX10_advance_191 : decode cX10_advance 191 = .ok (.putfield 175, 3) := by decide +kernel
theorem dX10_advance_194 : decode cX10_advance 194 = .ok (.aload_n 0, 1) := by decide +kernel
theorem dX10_advance_195 : decode cX10_advance 195 = .ok (.dup, 1) := by decide +kernel
theorem dX10_advance_196 : decode cX10_advance 196 = .ok (.getfield 157, 3) := by decide +kernel
theorem dX10_advance_199 : decode cX10_advance 199 = .ok (.iconst 1, 1) := by decide +kernel
theorem dX10_advance_200 : decode cX10_advance 200 = .ok (.iadd, 1) := by decide +kernel
theorem dX10_advance_201 : decode cX10_advance 201 = .ok (.putfield 157, 3) := by decide +kernel
theorem dX10_advance_204 : decode cX10_advance 204 = .ok (.goto (-78), 3) := by decide +kernel
theorem dX10_advance_207 : decode cX10_advance 207 = .ok (.aload_n 0, 1) := by decide +kernel
theorem dX10_advance_208 : decode cX10_advance 208 = .ok (.getfield 172, 3) := by decide +kernel
theorem dX10_advance_211 : decode cX10_advance 211 = .ok (.iconst 2, 1) := by decide +kernel
theorem dX10_advance_212 : decode cX10_advance 212 = .ok (.if_icmp .ne 69, 3) := by decide +kernel
theorem dX10_advance_215 : decode cX10_advance 215 = .ok (.aload_n 0, 1) := by decide +kernel
theorem dX10_advance_216 : decode cX10_advance 216 = .ok (.aload_n 0, 1) := by decide +kernel
theorem dX10_advance_217 : decode cX10_advance 217 = .ok (.getfield 157, 3) := by decide +kernel
theorem dX10_advance_220 : decode cX10_advance 220 = .ok (.invokevirtual 163, 3) := by decide +kernel
theorem dX10_advance_223 : decode cX10_advance 223 = .ok (.invokestatic 169, 3) := by decide +kernel
theorem dX10_advance_226 : decode cX10_advance 226 = .ok (.ifCond .eq 55, 3) := by decide +kernel
theorem dX10_advance_229 : decode cX10_advance 229 = .ok (.aload_n 0, 1) := by decide +kernel
theorem dX10_advance_230 : decode cX10_advance 230 = .ok (.aload_n 0, 1) := by decide +kernel
theorem dX10_advance_231 : decode cX10_advance 231 = .ok (.getfield 179, 3) := by decide +kernel
theorem dX10_advance_234 : decode cX10_advance 234 = .ok (.sipush 999, 3) := by decide +kernel
theorem dX10_advance_237 : decode cX10_advance 237 = .ok (.if_icmp .le 9, 3) := by decide +kernel
theorem dX10_advance_240 : decode cX10_advance 240 = .ok (.sipush 10000, 3) := by decide +kernel
theorem dX10_advance_243 : decode cX10_advance 243 = .ok (.goto 22, 3) := by decide +kernel
theorem dX10_advance_246 : decode cX10_advance 246 = .ok (.bipush 10, 2) := by decide +kernel
theorem dX10_advance_248 : decode cX10_advance 248 = .ok (.aload_n 0, 1) := by decide +kernel
theorem dX10_advance_249 : decode cX10_advance 249 = .ok (.getfield 179, 3) := by decide +kernel
theorem dX10_advance_252 : decode cX10_advance 252 = .ok (.imul, 1) := by decide +kernel
theorem dX10_advance_253 : decode cX10_advance 253 = .ok (.aload_n 0, 1) := by decide +kernel
theorem dX10_advance_254 : decode cX10_advance 254 = .ok (.aload_n 0, 1) := by decide +kernel
theorem dX10_advance_255 : decode cX10_advance 255 = .ok (.getfield 157, 3) := by decide +kernel
theorem dX10_advance_258 : decode cX10_advance 258 = .ok (.invokevirtual 163, 3) := by decide +kernel
theorem dX10_advance_261 : decode cX10_advance 261 = .ok (.iadd, 1) := by decide +kernel
theorem dX10_advance_262 : decode cX10_advance 262 = .ok (.bipush 48, 2) := by decide +kernel
theorem dX10_advance_264 : decode cX10_advance 264 = .ok (.isub, 1) := by decide +kernel
theorem dX10_advance_265 : decode cX10_advance 265 = .ok (.putfield 179, 3) := by decide +kernel
theorem dX10_advance_268 : decode cX10_advance 268 = .ok (.aload_n 0, 1) := by decide +kernel
theorem dX10_advance_269 : decode cX10_advance 269 = .ok (.dup, 1) := by decide +kernel
theorem dX10_advance_270 : decode cX10_advance 270 = .ok (.getfield 157, 3) := by decide +kernel
theorem dX10_advance_273 : decode cX10_advance 273 = .ok (.iconst 1, 1) := by decide +kernel
theorem dX10_advance_274 : decode cX10_advance 274 = .ok (.iadd, 1) := by decide +kernel
theorem dX10_advance_275 : decode cX10_advance 275 = .ok (.putfield 157, 3) := by decide +kernel
theorem dX10_advance_278 : decode cX10_advance 278 = .ok (.goto (-71), 3) := by decide +kernel
theorem dX10_advance_281 : decode cX10_advance 281 = .ok (.return_, 1) := by decide +kernel
theorem dX10_isWord_0 : decode cX10_isWord 0 = .ok (.aload_n 0, 1) := by decide +kernel
theorem dX10_isWord_1 : decode cX10_isWord 1 = .ok (.getfield 172, 3) := by decide +kernel
theorem dX10_isWord_4 : decode cX10_isWord 4 = .ok (.iconst 1, 1) := by decide +kernel
theorem dX10_isWord_5 : decode cX10_isWord 5 = .ok (.if_icmp .ne 16, 3) := by decide +kernel
theorem dX10_isWord_8 : decode cX10_isWord 8 = .ok (.aload_n 0, 1) := by decide +kernel
theorem dX10_isWord_9 : decode cX10_isWord 9 = .ok (.getfield 175, 3) := by decide +kernel
theorem dX10_isWord_12 : decode cX10_isWord 12 = .ok (.lload_n 1, 1) := by decide +kernel
theorem dX10_isWord_13 : decode cX10_isWord 13 = .ok (.lcmp, 1) := by decide +kernel
theorem dX10_isWord_14 : decode cX10_isWord 14 = .ok (.ifCond .ne 7, 3) := by decide +kernel
theorem dX10_isWord_17 : decode cX10_isWord 17 = .ok (.iconst 1, 1) := by decide +kernel
theorem dX10_isWord_18 : decode cX10_isWord 18 = .ok (.goto 4, 3) := by decide +kernel
theorem dX10_isWord_21 : decode cX10_isWord 21 = .ok (.iconst 0, 1) := by decide +kernel
theorem dX10_isWord_22 : decode cX10_isWord 22 = .ok (.ireturn, 1) := by decide +kernel
theorem dX10_kindHere_0 : decode cX10_kindHere 0 = .ok (.aload_n 0, 1) := by decide +kernel
theorem dX10_kindHere_1 : decode cX10_kindHere 1 = .ok (.ldc2_w 188, 3) := by decide +kernel
theorem dX10_kindHere_4 : decode cX10_kindHere 4 = .ok (.invokevirtual 190, 3) := by decide +kernel
theorem dX10_kindHere_7 : decode cX10_kindHere 7 = .ok (.ifCond .eq 7, 3) := by decide +kernel
theorem dX10_kindHere_10 : decode cX10_kindHere 10 = .ok (.iconst 0, 1) := by decide +kernel
theorem dX10_kindHere_11 : decode cX10_kindHere 11 = .ok (.goto 74, 3) := by decide +kernel
theorem dX10_kindHere_14 : decode cX10_kindHere 14 = .ok (.aload_n 0, 1) := by decide +kernel
theorem dX10_kindHere_15 : decode cX10_kindHere 15 = .ok (.ldc2_w 194, 3) := by decide +kernel
theorem dX10_kindHere_18 : decode cX10_kindHere 18 = .ok (.invokevirtual 190, 3) := by decide +kernel
theorem dX10_kindHere_21 : decode cX10_kindHere 21 = .ok (.ifCond .eq 7, 3) := by decide +kernel
theorem dX10_kindHere_24 : decode cX10_kindHere 24 = .ok (.iconst 1, 1) := by decide +kernel
theorem dX10_kindHere_25 : decode cX10_kindHere 25 = .ok (.goto 60, 3) := by decide +kernel
theorem dX10_kindHere_28 : decode cX10_kindHere 28 = .ok (.aload_n 0, 1) := by decide +kernel
theorem dX10_kindHere_29 : decode cX10_kindHere 29 = .ok (.ldc2_w 196, 3) := by decide +kernel
theorem dX10_kindHere_32 : decode cX10_kindHere 32 = .ok (.invokevirtual 190, 3) := by decide +kernel
theorem dX10_kindHere_35 : decode cX10_kindHere 35 = .ok (.ifCond .eq 7, 3) := by decide +kernel
theorem dX10_kindHere_38 : decode cX10_kindHere 38 = .ok (.iconst 2, 1) := by decide +kernel
theorem dX10_kindHere_39 : decode cX10_kindHere 39 = .ok (.goto 46, 3) := by decide +kernel
theorem dX10_kindHere_42 : decode cX10_kindHere 42 = .ok (.aload_n 0, 1) := by decide +kernel
theorem dX10_kindHere_43 : decode cX10_kindHere 43 = .ok (.ldc2_w 198, 3) := by decide +kernel
theorem dX10_kindHere_46 : decode cX10_kindHere 46 = .ok (.invokevirtual 190, 3) := by decide +kernel
theorem dX10_kindHere_49 : decode cX10_kindHere 49 = .ok (.ifCond .eq 7, 3) := by decide +kernel
theorem dX10_kindHere_52 : decode cX10_kindHere 52 = .ok (.iconst 3, 1) := by decide +kernel
theorem dX10_kindHere_53 : decode cX10_kindHere 53 = .ok (.goto 32, 3) := by decide +kernel
theorem dX10_kindHere_56 : decode cX10_kindHere 56 = .ok (.aload_n 0, 1) := by decide +kernel
theorem dX10_kindHere_57 : decode cX10_kindHere 57 = .ok (.ldc2_w 200, 3) := by decide +kernel
theorem dX10_kindHere_60 : decode cX10_kindHere 60 = .ok (.invokevirtual 190, 3) := by decide +kernel
theorem dX10_kindHere_63 : decode cX10_kindHere 63 = .ok (.ifCond .eq 7, 3) := by decide +kernel
theorem dX10_kindHere_66 : decode cX10_kindHere 66 = .ok (.iconst 4, 1) := by decide +kernel
theorem dX10_kindHere_67 : decode cX10_kindHere 67 = .ok (.goto 18, 3) := by decide +kernel
theorem dX10_kindHere_70 : decode cX10_kindHere 70 = .ok (.aload_n 0, 1) := by decide +kernel
theorem dX10_kindHere_71 : decode cX10_kindHere 71 = .ok (.ldc2_w 202, 3) := by decide +kernel
theorem dX10_kindHere_74 : decode cX10_kindHere 74 = .ok (.invokevirtual 190, 3) := by decide +kernel
theorem dX10_kindHere_77 : decode cX10_kindHere 77 = .ok (.ifCond .eq 7, 3) := by decide +kernel
theorem dX10_kindHere_80 : decode cX10_kindHere 80 = .ok (.iconst 5, 1) := by decide +kernel
theorem dX10_kindHere_81 : decode cX10_kindHere 81 = .ok (.goto 4, 3) := by decide +kernel
theorem dX10_kindHere_84 : decode cX10_kindHere 84 = .ok (.iconst (-1), 1) := by decide +kernel
theorem dX10_kindHere_85 : decode cX10_kindHere 85 = .ok (.ireturn, 1) := by decide +kernel
theorem dX10_wantNumber_0 : decode cX10_wantNumber 0 = .ok (.aload_n 0, 1) := by decide +kernel
theorem dX10_wantNumber_1 : decode cX10_wantNumber 1 = .ok (.getfield 179, 3) := by decide +kernel
theorem dX10_wantNumber_4 : decode cX10_wantNumber 4 = .ok (.istore_n 3, 1) := by decide +kernel
theorem dX10_wantNumber_5 : decode cX10_wantNumber 5 = .ok (.aload_n 0, 1) := by decide +kernel
theorem dX10_wantNumber_6 : decode cX10_wantNumber 6 = .ok (.aload_n 0, 1) := by decide +kernel
theorem dX10_wantNumber_7 : decode cX10_wantNumber 7 = .ok (.getfield 204, 3) := by decide +kernel
theorem dX10_wantNumber_10 : decode cX10_wantNumber 10 = .ok (.ifCond .eq 24, 3) := by decide +kernel
theorem dX10_wantNumber_13 : decode cX10_wantNumber 13 = .ok (.aload_n 0, 1) := by decide +kernel
theorem dX10_wantNumber_14 : decode cX10_wantNumber 14 = .ok (.getfield 172, 3) := by decide +kernel
theorem dX10_wantNumber_17 : decode cX10_wantNumber 17 = .ok (.iconst 2, 1) := by decide +kernel
theorem dX10_wantNumber_18 : decode cX10_wantNumber 18 = .ok (.if_icmp .ne 16, 3) := by decide +kernel
theorem dX10_wantNumber_21 : decode cX10_wantNumber 21 = .ok (.iload_n 3, 1) := by decide +kernel
theorem dX10_wantNumber_22 : decode cX10_wantNumber 22 = .ok (.iload_n 1, 1) := by decide +kernel
theorem dX10_wantNumber_23 : decode cX10_wantNumber 23 = .ok (.iload_n 2, 1) := by decide +kernel
theorem dX10_wantNumber_24 : decode cX10_wantNumber 24 = .ok (.invokestatic 47, 3) := by decide +kernel
theorem dX10_wantNumber_27 : decode cX10_wantNumber 27 = .ok (.ifCond .eq 7, 3) := by decide +kernel
theorem dX10_wantNumber_30 : decode cX10_wantNumber 30 = .ok (.iconst 1, 1) := by decide +kernel
theorem dX10_wantNumber_31 : decode cX10_wantNumber 31 = .ok (.goto 4, 3) := by decide +kernel
theorem dX10_wantNumber_34 : decode cX10_wantNumber 34 = .ok (.iconst 0, 1) := by decide +kernel
theorem dX10_wantNumber_35 : decode cX10_wantNumber 35 = .ok (.putfield 204, 3) := by decide +kernel
theorem dX10_wantNumber_38 : decode cX10_wantNumber 38 = .ok (.aload_n 0, 1) := by decide +kernel
theorem dX10_wantNumber_39 : decode cX10_wantNumber 39 = .ok (.getfield 204, 3) := by decide +kernel
theorem dX10_wantNumber_42 : decode cX10_wantNumber 42 = .ok (.ifCond .eq 7, 3) := by decide +kernel
theorem dX10_wantNumber_45 : decode cX10_wantNumber 45 = .ok (.aload_n 0, 1) := by decide +kernel
theorem dX10_wantNumber_46 : decode cX10_wantNumber 46 = .ok (.invokevirtual 208, 3) := by decide +kernel
theorem dX10_wantNumber_49 : decode cX10_wantNumber 49 = .ok (.iload_n 3, 1) := by decide +kernel
theorem dX10_wantNumber_50 : decode cX10_wantNumber 50 = .ok (.ireturn, 1) := by decide +kernel
theorem dX10_mayWant_0 : decode cX10_mayWant 0 = .ok (.aload_n 0, 1) := by decide +kernel
theorem dX10_mayWant_1 : decode cX10_mayWant 1 = .ok (.getfield 204, 3) := by decide +kernel
theorem dX10_mayWant_4 : decode cX10_mayWant 4 = .ok (.ifCond .eq 11, 3) := by decide +kernel
theorem dX10_mayWant_7 : decode cX10_mayWant 7 = .ok (.aload_n 0, 1) := by decide +kernel
theorem dX10_mayWant_8 : decode cX10_mayWant 8 = .ok (.lload_n 1, 1) := by decide +kernel
theorem dX10_mayWant_9 : decode cX10_mayWant 9 = .ok (.invokevirtual 190, 3) := by decide +kernel
theorem dX10_mayWant_12 : decode cX10_mayWant 12 = .ok (.ifCond .ne 6, 3) := by decide +kernel
end
section
theorem dX10_mayWant_15 : decode cX10_mayWant 15 = .ok (.iload 5, 2) := by decide +kernel
theorem dX10_mayWant_17 : decode cX10_mayWant 17 = .ok (.ireturn, 1) := by decide +kernel
theorem dX10_mayWant_18 : decode cX10_mayWant 18 = .ok (.aload_n 0, 1) := by decide +kernel
theorem dX10_mayWant_19 : decode cX10_mayWant 19 = .ok (.invokevirtual 208, 3) := by decide +kernel
theorem dX10_mayWant_22 : decode cX10_mayWant 22 = .ok (.aload_n 0, 1) := by decide +kernel
theorem dX10_mayWant_23 : decode cX10_mayWant 23 = .ok (.iload_n 3, 1) := by decide +kernel
theorem dX10_mayWant_24 : decode cX10_mayWant 24 = .ok (.iload 4, 2) := by decide +kernel
theorem dX10_mayWant_26 : decode cX10_mayWant 26 = .ok (.invokevirtual 211, 3) := by decide +kernel
theorem dX10_mayWant_29 : decode cX10_mayWant 29 = .ok (.ireturn, 1) := by decide +kernel
theorem dX10_wantWord_0 : decode cX10_wantWord 0 = .ok (.aload_n 0, 1) := by decide +kernel
theorem dX10_wantWord_1 : decode cX10_wantWord 1 = .ok (.aload_n 0, 1) := by decide +kernel
theorem dX10_wantWord_2 : decode cX10_wantWord 2 = .ok (.getfield 204, 3) := by decide +kernel
theorem dX10_wantWord_5 : decode cX10_wantWord 5 = .ok (.ifCond .eq 15, 3) := by decide +kernel
theorem dX10_wantWord_8 : decode cX10_wantWord 8 = .ok (.aload_n 0, 1) := by decide +kernel
theorem dX10_wantWord_9 : decode cX10_wantWord 9 = .ok (.lload_n 1, 1) := by decide +kernel
theorem dX10_wantWord_10 : decode cX10_wantWord 10 = .ok (.invokevirtual 190, 3) := by decide +kernel
theorem dX10_wantWord_13 : decode cX10_wantWord 13 = .ok (.ifCond .eq 7, 3) := by decide +kernel
theorem dX10_wantWord_16 : decode cX10_wantWord 16 = .ok (.iconst 1, 1) := by decide +kernel
theorem dX10_wantWord_17 : decode cX10_wantWord 17 = .ok (.goto 4, 3) := by decide +kernel
theorem dX10_wantWord_20 : decode cX10_wantWord 20 = .ok (.iconst 0, 1) := by decide +kernel
theorem dX10_wantWord_21 : decode cX10_wantWord 21 = .ok (.putfield 204, 3) := by decide +kernel
theorem dX10_wantWord_24 : decode cX10_wantWord 24 = .ok (.aload_n 0, 1) := by decide +kernel
theorem dX10_wantWord_25 : decode cX10_wantWord 25 = .ok (.getfield 204, 3) := by decide +kernel
theorem dX10_wantWord_28 : decode cX10_wantWord 28 = .ok (.ifCond .eq 7, 3) := by decide +kernel
theorem dX10_wantWord_31 : decode cX10_wantWord 31 = .ok (.aload_n 0, 1) := by decide +kernel
theorem dX10_wantWord_32 : decode cX10_wantWord 32 = .ok (.invokevirtual 208, 3) := by decide +kernel
theorem dX10_wantWord_35 : decode cX10_wantWord 35 = .ok (.return_, 1) := by decide +kernel
theorem dX10_wantFine_0 : decode cX10_wantFine 0 = .ok (.aload_n 0, 1) := by decide +kernel
theorem dX10_wantFine_1 : decode cX10_wantFine 1 = .ok (.aload_n 0, 1) := by decide +kernel
theorem dX10_wantFine_2 : decode cX10_wantFine 2 = .ok (.getfield 7, 3) := by decide +kernel
theorem dX10_wantFine_5 : decode cX10_wantFine 5 = .ok (.iconst 4, 1) := by decide +kernel
theorem dX10_wantFine_6 : decode cX10_wantFine 6 = .ok (.iaload, 1) := by decide +kernel
theorem dX10_wantFine_7 : decode cX10_wantFine 7 = .ok (.bipush 10, 2) := by decide +kernel
theorem dX10_wantFine_9 : decode cX10_wantFine 9 = .ok (.if_icmp .ge 7, 3) := by decide +kernel
theorem dX10_wantFine_12 : decode cX10_wantFine 12 = .ok (.iconst 1, 1) := by decide +kernel
theorem dX10_wantFine_13 : decode cX10_wantFine 13 = .ok (.goto 4, 3) := by decide +kernel
theorem dX10_wantFine_16 : decode cX10_wantFine 16 = .ok (.iconst 0, 1) := by decide +kernel
theorem dX10_wantFine_17 : decode cX10_wantFine 17 = .ok (.putfield 204, 3) := by decide +kernel
theorem dX10_wantFine_20 : decode cX10_wantFine 20 = .ok (.aload_n 0, 1) := by decide +kernel
theorem dX10_wantFine_21 : decode cX10_wantFine 21 = .ok (.getfield 204, 3) := by decide +kernel
theorem dX10_wantFine_24 : decode cX10_wantFine 24 = .ok (.ifCond .eq 7, 3) := by decide +kernel
theorem dX10_wantFine_27 : decode cX10_wantFine 27 = .ok (.aload_n 0, 1) := by decide +kernel
theorem dX10_wantFine_28 : decode cX10_wantFine 28 = .ok (.invokevirtual 208, 3) := by decide +kernel
theorem dX10_wantFine_31 : decode cX10_wantFine 31 = .ok (.aload_n 0, 1) := by decide +kernel
theorem dX10_wantFine_32 : decode cX10_wantFine 32 = .ok (.iconst 1, 1) := by decide +kernel
theorem dX10_wantFine_33 : decode cX10_wantFine 33 = .ok (.bipush 40, 2) := by decide +kernel
theorem dX10_wantFine_35 : decode cX10_wantFine 35 = .ok (.invokevirtual 211, 3) := by decide +kernel
theorem dX10_wantFine_38 : decode cX10_wantFine 38 = .ok (.istore_n 2, 1) := by decide +kernel
theorem dX10_wantFine_39 : decode cX10_wantFine 39 = .ok (.aload_n 0, 1) := by decide +kernel
theorem dX10_wantFine_40 : decode cX10_wantFine 40 = .ok (.ldc2_w 214, 3) := by decide +kernel
theorem dX10_wantFine_43 : decode cX10_wantFine 43 = .ok (.invokevirtual 216, 3) := by decide +kernel
theorem dX10_wantFine_46 : decode cX10_wantFine 46 = .ok (.aload_n 0, 1) := by decide +kernel
theorem dX10_wantFine_47 : decode cX10_wantFine 47 = .ok (.iconst 0, 1) := by decide +kernel
theorem dX10_wantFine_48 : decode cX10_wantFine 48 = .ok (.bipush 39, 2) := by decide +kernel
theorem dX10_wantFine_50 : decode cX10_wantFine 50 = .ok (.invokevirtual 211, 3) := by decide +kernel
theorem dX10_wantFine_53 : decode cX10_wantFine 53 = .ok (.istore_n 3, 1) := by decide +kernel
theorem dX10_wantFine_54 : decode cX10_wantFine 54 = .ok (.aload_n 0, 1) := by decide +kernel
theorem dX10_wantFine_55 : decode cX10_wantFine 55 = .ok (.ldc2_w 220, 3) := by decide +kernel
theorem dX10_wantFine_58 : decode cX10_wantFine 58 = .ok (.iconst 1, 1) := by decide +kernel
theorem dX10_wantFine_59 : decode cX10_wantFine 59 = .ok (.bipush 9, 2) := by decide +kernel
theorem dX10_wantFine_61 : decode cX10_wantFine 61 = .ok (.iconst 3, 1) := by decide +kernel
theorem dX10_wantFine_62 : decode cX10_wantFine 62 = .ok (.invokevirtual 222, 3) := by decide +kernel
theorem dX10_wantFine_65 : decode cX10_wantFine 65 = .ok (.istore 4, 2) := by decide +kernel
theorem dX10_wantFine_67 : decode cX10_wantFine 67 = .ok (.aload_n 0, 1) := by decide +kernel
theorem dX10_wantFine_68 : decode cX10_wantFine 68 = .ok (.getfield 204, 3) := by decide +kernel
theorem dX10_wantFine_71 : decode cX10_wantFine 71 = .ok (.ifCond .eq 12, 3) := by decide +kernel
theorem dX10_wantFine_74 : decode cX10_wantFine 74 = .ok (.aload_n 0, 1) := by decide +kernel
theorem dX10_wantFine_75 : decode cX10_wantFine 75 = .ok (.iload_n 1, 1) := by decide +kernel
theorem dX10_wantFine_76 : decode cX10_wantFine 76 = .ok (.iload_n 2, 1) := by decide +kernel
theorem dX10_wantFine_77 : decode cX10_wantFine 77 = .ok (.iload_n 3, 1) := by decide +kernel
theorem dX10_wantFine_78 : decode cX10_wantFine 78 = .ok (.iload 4, 2) := by decide +kernel
theorem dX10_wantFine_80 : decode cX10_wantFine 80 = .ok (.invokevirtual 74, 3) := by decide +kernel
theorem dX10_wantFine_83 : decode cX10_wantFine 83 = .ok (.return_, 1) := by decide +kernel
theorem dX10_wantRock_0 : decode cX10_wantRock 0 = .ok (.aload_n 0, 1) := by decide +kernel
theorem dX10_wantRock_1 : decode cX10_wantRock 1 = .ok (.invokevirtual 208, 3) := by decide +kernel
theorem dX10_wantRock_4 : decode cX10_wantRock 4 = .ok (.aload_n 0, 1) := by decide +kernel
theorem dX10_wantRock_5 : decode cX10_wantRock 5 = .ok (.iconst 0, 1) := by decide +kernel
theorem dX10_wantRock_6 : decode cX10_wantRock 6 = .ok (.bipush 39, 2) := by decide +kernel
theorem dX10_wantRock_8 : decode cX10_wantRock 8 = .ok (.invokevirtual 211, 3) := by decide +kernel
theorem dX10_wantRock_11 : decode cX10_wantRock 11 = .ok (.istore_n 1, 1) := by decide +kernel
theorem dX10_wantRock_12 : decode cX10_wantRock 12 = .ok (.aload_n 0, 1) := by decide +kernel
theorem dX10_wantRock_13 : decode cX10_wantRock 13 = .ok (.ldc2_w 226, 3) := by decide +kernel
theorem dX10_wantRock_16 : decode cX10_wantRock 16 = .ok (.iload_n 1, 1) := by decide +kernel
theorem dX10_wantRock_17 : decode cX10_wantRock 17 = .ok (.bipush 39, 2) := by decide +kernel
theorem dX10_wantRock_19 : decode cX10_wantRock 19 = .ok (.iload_n 1, 1) := by decide +kernel
theorem dX10_wantRock_20 : decode cX10_wantRock 20 = .ok (.invokevirtual 222, 3) := by decide +kernel
theorem dX10_wantRock_23 : decode cX10_wantRock 23 = .ok (.istore_n 2, 1) := by decide +kernel
theorem dX10_wantRock_24 : decode cX10_wantRock 24 = .ok (.aload_n 0, 1) := by decide +kernel
theorem dX10_wantRock_25 : decode cX10_wantRock 25 = .ok (.ldc2_w 228, 3) := by decide +kernel
theorem dX10_wantRock_28 : decode cX10_wantRock 28 = .ok (.invokevirtual 216, 3) := by decide +kernel
theorem dX10_wantRock_31 : decode cX10_wantRock 31 = .ok (.aload_n 0, 1) := by decide +kernel
theorem dX10_wantRock_32 : decode cX10_wantRock 32 = .ok (.iconst 1, 1) := by decide +kernel
theorem dX10_wantRock_33 : decode cX10_wantRock 33 = .ok (.bipush 9, 2) := by decide +kernel
theorem dX10_wantRock_35 : decode cX10_wantRock 35 = .ok (.invokevirtual 211, 3) := by decide +kernel
theorem dX10_wantRock_38 : decode cX10_wantRock 38 = .ok (.istore_n 3, 1) := by decide +kernel
theorem dX10_wantRock_39 : decode cX10_wantRock 39 = .ok (.iload_n 1, 1) := by decide +kernel
theorem dX10_wantRock_40 : decode cX10_wantRock 40 = .ok (.istore 4, 2) := by decide +kernel
theorem dX10_wantRock_42 : decode cX10_wantRock 42 = .ok (.iload 4, 2) := by decide +kernel
theorem dX10_wantRock_44 : decode cX10_wantRock 44 = .ok (.iload_n 2, 1) := by decide +kernel
theorem dX10_wantRock_45 : decode cX10_wantRock 45 = .ok (.if_icmp .gt 26, 3) := by decide +kernel
theorem dX10_wantRock_48 : decode cX10_wantRock 48 = .ok (.aload_n 0, 1) := by decide +kernel
theorem dX10_wantRock_49 : decode cX10_wantRock 49 = .ok (.getfield 204, 3) := by decide +kernel
theorem dX10_wantRock_52 : decode cX10_wantRock 52 = .ok (.ifCond .eq 19, 3) := by decide +kernel
theorem dX10_wantRock_55 : decode cX10_wantRock 55 = .ok (.aload_n 0, 1) := by decide +kernel
theorem dX10_wantRock_56 : decode cX10_wantRock 56 = .ok (.getfield 7, 3) := by decide +kernel
theorem dX10_wantRock_59 : decode cX10_wantRock 59 = .ok (.iconst 5, 1) := by decide +kernel
theorem dX10_wantRock_60 : decode cX10_wantRock 60 = .ok (.iload 4, 2) := by decide +kernel
theorem dX10_wantRock_62 : decode cX10_wantRock 62 = .ok (.iadd, 1) := by decide +kernel
theorem dX10_wantRock_63 : decode cX10_wantRock 63 = .ok (.iload_n 3, 1) := by decide +kernel
theorem dX10_wantRock_64 : decode cX10_wantRock 64 = .ok (.iastore, 1) := by decide +kernel
theorem dX10_wantRock_65 : decode cX10_wantRock 65 = .ok (.iinc 4 1, 3) := by decide +kernel
theorem dX10_wantRock_68 : decode cX10_wantRock 68 = .ok (.goto (-26), 3) := by decide +kernel
theorem dX10_wantRock_71 : decode cX10_wantRock 71 = .ok (.return_, 1) := by decide +kernel
theorem dX10_wantLet_0 : decode cX10_wantLet 0 = .ok (.aload_n 0, 1) := by decide +kernel
theorem dX10_wantLet_1 : decode cX10_wantLet 1 = .ok (.invokevirtual 208, 3) := by decide +kernel
theorem dX10_wantLet_4 : decode cX10_wantLet 4 = .ok (.aload_n 0, 1) := by decide +kernel
theorem dX10_wantLet_5 : decode cX10_wantLet 5 = .ok (.iconst 0, 1) := by decide +kernel
theorem dX10_wantLet_6 : decode cX10_wantLet 6 = .ok (.iload_n 2, 1) := by decide +kernel
theorem dX10_wantLet_7 : decode cX10_wantLet 7 = .ok (.invokevirtual 211, 3) := by decide +kernel
theorem dX10_wantLet_10 : decode cX10_wantLet 10 = .ok (.istore_n 3, 1) := by decide +kernel
theorem dX10_wantLet_11 : decode cX10_wantLet 11 = .ok (.aload_n 0, 1) := by decide +kernel
theorem dX10_wantLet_12 : decode cX10_wantLet 12 = .ok (.getfield 204, 3) := by decide +kernel
theorem dX10_wantLet_15 : decode cX10_wantLet 15 = .ok (.ifCond .eq 10, 3) := by decide +kernel
theorem dX10_wantLet_18 : decode cX10_wantLet 18 = .ok (.aload_n 0, 1) := by decide +kernel
theorem dX10_wantLet_19 : decode cX10_wantLet 19 = .ok (.getfield 7, 3) := by decide +kernel
theorem dX10_wantLet_22 : decode cX10_wantLet 22 = .ok (.iload_n 1, 1) := by decide +kernel
theorem dX10_wantLet_23 : decode cX10_wantLet 23 = .ok (.iload_n 3, 1) := by decide +kernel
theorem dX10_wantLet_24 : decode cX10_wantLet 24 = .ok (.iastore, 1) := by decide +kernel
theorem dX10_wantLet_25 : decode cX10_wantLet 25 = .ok (.return_, 1) := by decide +kernel
theorem dX10_wantItem_0 : decode cX10_wantItem 0 = .ok (.aload_n 0, 1) := by decide +kernel
theorem dX10_wantItem_1 : decode cX10_wantItem 1 = .ok (.invokevirtual 230, 3) := by decide +kernel
theorem dX10_wantItem_4 : decode cX10_wantItem 4 = .ok (.ifCond .lt 14, 3) := by decide +kernel
theorem dX10_wantItem_7 : decode cX10_wantItem 7 = .ok (.aload_n 0, 1) := by decide +kernel
theorem dX10_wantItem_8 : decode cX10_wantItem 8 = .ok (.aload_n 0, 1) := by decide +kernel
theorem dX10_wantItem_9 : decode cX10_wantItem 9 = .ok (.invokevirtual 230, 3) := by decide +kernel
theorem dX10_wantItem_12 : decode cX10_wantItem 12 = .ok (.invokevirtual 233, 3) := by decide +kernel
theorem dX10_wantItem_15 : decode cX10_wantItem 15 = .ok (.goto 65, 3) := by decide +kernel
theorem dX10_wantItem_18 : decode cX10_wantItem 18 = .ok (.aload_n 0, 1) := by decide +kernel
theorem dX10_wantItem_19 : decode cX10_wantItem 19 = .ok (.ldc2_w 236, 3) := by decide +kernel
theorem dX10_wantItem_22 : decode cX10_wantItem 22 = .ok (.invokevirtual 190, 3) := by decide +kernel
theorem dX10_wantItem_25 : decode cX10_wantItem 25 = .ok (.ifCond .eq 10, 3) := by decide +kernel
theorem dX10_wantItem_28 : decode cX10_wantItem 28 = .ok (.aload_n 0, 1) := by decide +kernel
theorem dX10_wantItem_29 : decode cX10_wantItem 29 = .ok (.invokevirtual 238, 3) := by decide +kernel
theorem dX10_wantItem_32 : decode cX10_wantItem 32 = .ok (.goto 48, 3) := by decide +kernel
theorem dX10_wantItem_35 : decode cX10_wantItem 35 = .ok (.aload_n 0, 1) := by decide +kernel
theorem dX10_wantItem_36 : decode cX10_wantItem 36 = .ok (.ldc2_w 241, 3) := by decide +kernel
theorem dX10_wantItem_39 : decode cX10_wantItem 39 = .ok (.invokevirtual 190, 3) := by decide +kernel
theorem dX10_wantItem_42 : decode cX10_wantItem 42 = .ok (.ifCond .eq 13, 3) := by decide +kernel
theorem dX10_wantItem_45 : decode cX10_wantItem 45 = .ok (.aload_n 0, 1) := by decide +kernel
theorem dX10_wantItem_46 : decode cX10_wantItem 46 = .ok (.iconst 1, 1) := by decide +kernel
theorem dX10_wantItem_47 : decode cX10_wantItem 47 = .ok (.bipush 9, 2) := by decide +kernel
theorem dX10_wantItem_49 : decode cX10_wantItem 49 = .ok (.invokevirtual 243, 3) := by decide +kernel
theorem dX10_wantItem_52 : decode cX10_wantItem 52 = .ok (.goto 28, 3) := by decide +kernel
theorem dX10_wantItem_55 : decode cX10_wantItem 55 = .ok (.aload_n 0, 1) := by decide +kernel
theorem dX10_wantItem_56 : decode cX10_wantItem 56 = .ok (.ldc2_w 247, 3) := by decide +kernel
theorem dX10_wantItem_59 : decode cX10_wantItem 59 = .ok (.invokevirtual 190, 3) := by decide +kernel
theorem dX10_wantItem_62 : decode cX10_wantItem 62 = .ok (.ifCond .eq 13, 3) := by decide +kernel
theorem dX10_wantItem_65 : decode cX10_wantItem 65 = .ok (.aload_n 0, 1) := by decide +kernel
theorem dX10_wantItem_66 : decode cX10_wantItem 66 = .ok (.iconst 2, 1) := by decide +kernel
theorem dX10_wantItem_67 : decode cX10_wantItem 67 = .ok (.bipush 20, 2) := by decide +kernel
theorem dX10_wantItem_69 : decode cX10_wantItem 69 = .ok (.invokevirtual 243, 3) := by decide +kernel
theorem dX10_wantItem_72 : decode cX10_wantItem 72 = .ok (.goto 8, 3) := by decide +kernel
theorem dX10_wantItem_75 : decode cX10_wantItem 75 = .ok (.aload_n 0, 1) := by decide +kernel
theorem dX10_wantItem_76 : decode cX10_wantItem 76 = .ok (.iconst 0, 1) := by decide +kernel
theorem dX10_wantItem_77 : decode cX10_wantItem 77 = .ok (.putfield 204, 3) := by decide +kernel
theorem dX10_wantItem_80 : decode cX10_wantItem 80 = .ok (.return_, 1) := by decide +kernel
theorem dX10_court_0 : decode cX10_court 0 = .ok (.aload_n 0, 1) := by decide +kernel
theorem dX10_court_1 : decode cX10_court 1 = .ok (.iconst 1, 1) := by decide +kernel
theorem dX10_court_2 : decode cX10_court 2 = .ok (.aload_n 0, 1) := by decide +kernel
theorem dX10_court_3 : decode cX10_court 3 = .ok (.getfield 35, 3) := by decide +kernel
theorem dX10_court_6 : decode cX10_court 6 = .ok (.invokevirtual 249, 3) := by decide +kernel
theorem dX10_court_9 : decode cX10_court 9 = .ok (.aload_n 0, 1) := by decide +kernel
theorem dX10_court_10 : decode cX10_court 10 = .ok (.iconst 0, 1) := by decide +kernel
theorem dX10_court_11 : decode cX10_court 11 = .ok (.putfield 157, 3) := by decide +kernel
theorem dX10_court_14 : decode cX10_court 14 = .ok (.aload_n 0, 1) := by decide +kernel
theorem dX10_court_15 : decode cX10_court 15 = .ok (.iconst 1, 1) := by decide +kernel
theorem dX10_court_16 : decode cX10_court 16 = .ok (.putfield 204, 3) := by decide +kernel
theorem dX10_court_19 : decode cX10_court 19 = .ok (.iconst 0, 1) := by decide +kernel
theorem dX10_court_20 : decode cX10_court 20 = .ok (.istore_n 1, 1) := by decide +kernel
theorem dX10_court_21 : decode cX10_court 21 = .ok (.iconst 1, 1) := by decide +kernel
theorem dX10_court_22 : decode cX10_court 22 = .ok (.istore_n 2, 1) := by decide +kernel
theorem dX10_court_23 : decode cX10_court 23 = .ok (.iload_n 2, 1) := by decide +kernel
theorem dX10_court_24 : decode cX10_court 24 = .ok (.ifCond .eq 47, 3) := by decide +kernel
theorem dX10_court_27 : decode cX10_court 27 = .ok (.aload_n 0, 1) := by decide +kernel
theorem dX10_court_28 : decode cX10_court 28 = .ok (.invokevirtual 208, 3) := by decide +kernel
theorem dX10_court_31 : decode cX10_court 31 = .ok (.aload_n 0, 1) := by decide +kernel
theorem dX10_court_32 : decode cX10_court 32 = .ok (.invokevirtual 253, 3) := by decide +kernel
theorem dX10_court_35 : decode cX10_court 35 = .ok (.iinc 1 1, 3) := by decide +kernel
theorem dX10_court_38 : decode cX10_court 38 = .ok (.aload_n 0, 1) := by decide +kernel
theorem dX10_court_39 : decode cX10_court 39 = .ok (.getfield 204, 3) := by decide +kernel
theorem dX10_court_42 : decode cX10_court 42 = .ok (.ifCond .eq 24, 3) := by decide +kernel
theorem dX10_court_45 : decode cX10_court 45 = .ok (.aload_n 0, 1) := by decide +kernel
theorem dX10_court_46 : decode cX10_court 46 = .ok (.getfield 172, 3) := by decide +kernel
theorem dX10_court_49 : decode cX10_court 49 = .ok (.iconst 3, 1) := by decide +kernel
theorem dX10_court_50 : decode cX10_court 50 = .ok (.if_icmp .ne 16, 3) := by decide +kernel
theorem dX10_court_53 : decode cX10_court 53 = .ok (.aload_n 0, 1) := by decide +kernel
theorem dX10_court_54 : decode cX10_court 54 = .ok (.getfield 179, 3) := by decide +kernel
theorem dX10_court_57 : decode cX10_court 57 = .ok (.bipush 59, 2) := by decide +kernel
theorem dX10_court_59 : decode cX10_court 59 = .ok (.if_icmp .ne 7, 3) := by decide +kernel
theorem dX10_court_62 : decode cX10_court 62 = .ok (.iconst 1, 1) := by decide +kernel
theorem dX10_court_63 : decode cX10_court 63 = .ok (.goto 4, 3) := by decide +kernel
theorem dX10_court_66 : decode cX10_court 66 = .ok (.iconst 0, 1) := by decide +kernel
theorem dX10_court_67 : decode cX10_court 67 = .ok (.istore_n 2, 1) := by decide +kernel
theorem dX10_court_68 : decode cX10_court 68 = .ok (.goto (-45), 3) := by decide +kernel
theorem dX10_court_71 : decode cX10_court 71 = .ok (.aload_n 0, 1) := by decide +kernel
theorem dX10_court_72 : decode cX10_court 72 = .ok (.aload_n 0, 1) := by decide +kernel
theorem dX10_court_73 : decode cX10_court 73 = .ok (.getfield 204, 3) := by decide +kernel
theorem dX10_court_76 : decode cX10_court 76 = .ok (.ifCond .eq 14, 3) := by decide +kernel
theorem dX10_court_79 : decode cX10_court 79 = .ok (.aload_n 0, 1) := by decide +kernel
theorem dX10_court_80 : decode cX10_court 80 = .ok (.getfield 172, 3) := by decide +kernel
theorem dX10_court_83 : decode cX10_court 83 = .ok (.ifCond .ne 7, 3) := by decide +kernel
theorem dX10_court_86 : decode cX10_court 86 = .ok (.iconst 1, 1) := by decide +kernel
theorem dX10_court_87 : decode cX10_court 87 = .ok (.goto 4, 3) := by decide +kernel
theorem dX10_court_90 : decode cX10_court 90 = .ok (.iconst 0, 1) := by decide +kernel
theorem dX10_court_91 : decode cX10_court 91 = .ok (.putfield 204, 3) := by decide +kernel
theorem dX10_court_94 : decode cX10_court 94 = .ok (.aload_n 0, 1) := by decide +kernel
theorem dX10_court_95 : decode cX10_court 95 = .ok (.iconst 0, 1) := by decide +kernel
theorem dX10_court_96 : decode cX10_court 96 = .ok (.putfield 154, 3) := by decide +kernel
theorem dX10_court_99 : decode cX10_court 99 = .ok (.aload_n 0, 1) := by decide +kernel
theorem dX10_court_100 : decode cX10_court 100 = .ok (.getfield 204, 3) := by decide +kernel
theorem dX10_court_103 : decode cX10_court 103 = .ok (.ifCond .ne 19, 3) := by decide +kernel
theorem dX10_court_106 : decode cX10_court 106 = .ok (.aload_n 0, 1) := by decide +kernel
theorem dX10_court_107 : decode cX10_court 107 = .ok (.iconst 0, 1) := by decide +kernel
theorem dX10_court_108 : decode cX10_court 108 = .ok (.aload_n 0, 1) := by decide +kernel
theorem dX10_court_109 : decode cX10_court 109 = .ok (.getfield 35, 3) := by decide +kernel
theorem dX10_court_112 : decode cX10_court 112 = .ok (.invokevirtual 249, 3) := by decide +kernel
theorem dX10_court_115 : decode cX10_court 115 = .ok (.iconst (-1), 1) := by decide +kernel
theorem dX10_court_116 : decode cX10_court 116 = .ok (.aload_n 0, 1) := by decide +kernel
theorem dX10_court_117 : decode cX10_court 117 = .ok (.getfield 160, 3) := by decide +kernel
theorem dX10_court_120 : decode cX10_court 120 = .ok (.isub, 1) := by decide +kernel
theorem dX10_court_121 : decode cX10_court 121 = .ok (.ireturn, 1) := by decide +kernel
theorem dX10_court_122 : decode cX10_court 122 = .ok (.iload_n 1, 1) := by decide +kernel
theorem dX10_court_123 : decode cX10_court 123 = .ok (.ireturn, 1) := by decide +kernel
theorem dX10_isSheet_0 : decode cX10_isSheet 0 = .ok (.iload_n 0, 1) := by decide +kernel
theorem dX10_isSheet_1 : decode cX10_isSheet 1 = .ok (.iconst 0, 1) := by decide +kernel
theorem dX10_isSheet_2 : decode cX10_isSheet 2 = .ok (.iconst 3, 1) := by decide +kernel
theorem dX10_isSheet_3 : decode cX10_isSheet 3 = .ok (.invokestatic 47, 3) := by decide +kernel
theorem dX10_isSheet_6 : decode cX10_isSheet 6 = .ok (.ireturn, 1) := by decide +kernel
theorem dX10_narrow_0 : decode cX10_narrow 0 = .ok (.iload_n 0, 1) := by decide +kernel
theorem dX10_narrow_1 : decode cX10_narrow 1 = .ok (.bipush 8, 2) := by decide +kernel
theorem dX10_narrow_3 : decode cX10_narrow 3 = .ok (.if_icmp .ne 13, 3) := by decide +kernel
theorem dX10_narrow_6 : decode cX10_narrow 6 = .ok (.lload_n 1, 1) := by decide +kernel
theorem dX10_narrow_7 : decode cX10_narrow 7 = .ok (.bipush 56, 2) := by decide +kernel
theorem dX10_narrow_9 : decode cX10_narrow 9 = .ok (.lshl, 1) := by decide +kernel
theorem dX10_narrow_10 : decode cX10_narrow 10 = .ok (.bipush 56, 2) := by decide +kernel
theorem dX10_narrow_12 : decode cX10_narrow 12 = .ok (.lshr, 1) := by decide +kernel
theorem dX10_narrow_13 : decode cX10_narrow 13 = .ok (.goto 20, 3) := by decide +kernel
theorem dX10_narrow_16 : decode cX10_narrow 16 = .ok (.iload_n 0, 1) := by decide +kernel
theorem dX10_narrow_17 : decode cX10_narrow 17 = .ok (.bipush 16, 2) := by decide +kernel
theorem dX10_narrow_19 : decode cX10_narrow 19 = .ok (.if_icmp .ne 13, 3) := by decide +kernel
theorem dX10_narrow_22 : decode cX10_narrow 22 = .ok (.lload_n 1, 1) := by decide +kernel
theorem dX10_narrow_23 : decode cX10_narrow 23 = .ok (.bipush 48, 2) := by decide +kernel
theorem dX10_narrow_25 : decode cX10_narrow 25 = .ok (.lshl, 1) := by decide +kernel
theorem dX10_narrow_26 : decode cX10_narrow 26 = .ok (.bipush 48, 2) := by decide +kernel
theorem dX10_narrow_28 : decode cX10_narrow 28 = .ok (.lshr, 1) := by decide +kernel
theorem dX10_narrow_29 : decode cX10_narrow 29 = .ok (.goto 4, 3) := by decide +kernel
theorem dX10_narrow_32 : decode cX10_narrow 32 = .ok (.lload_n 1, 1) := by decide +kernel
theorem dX10_narrow_33 : decode cX10_narrow 33 = .ok (.lreturn, 1) := by decide +kernel
theorem dX10_sheet_0 : decode cX10_sheet 0 = .ok (.iload_n 1, 1) := by decide +kernel
theorem dX10_sheet_1 : decode cX10_sheet 1 = .ok (.invokestatic 256, 3) := by decide +kernel
theorem dX10_sheet_4 : decode cX10_sheet 4 = .ok (.ifCond .eq 25, 3) := by decide +kernel
theorem dX10_sheet_7 : decode cX10_sheet 7 = .ok (.iload_n 2, 1) := by decide +kernel
theorem dX10_sheet_8 : decode cX10_sheet 8 = .ok (.ifCond .eq 28, 3) := by decide +kernel
theorem dX10_sheet_11 : decode cX10_sheet 11 = .ok (.iload_n 2, 1) := by decide +kernel
theorem dX10_sheet_12 : decode cX10_sheet 12 = .ok (.bipush 8, 2) := by decide +kernel
theorem dX10_sheet_14 : decode cX10_sheet 14 = .ok (.if_icmp .eq 22, 3) := by decide +kernel
theorem dX10_sheet_17 : decode cX10_sheet 17 = .ok (.iload_n 2, 1) := by decide +kernel
theorem dX10_sheet_18 : decode cX10_sheet 18 = .ok (.bipush 16, 2) := by decide +kernel
theorem dX10_sheet_20 : decode cX10_sheet 20 = .ok (.if_icmp .eq 16, 3) := by decide +kernel
theorem dX10_sheet_23 : decode cX10_sheet 23 = .ok (.iload_n 2, 1) := by decide +kernel
theorem dX10_sheet_24 : decode cX10_sheet 24 = .ok (.bipush 64, 2) := by decide +kernel
theorem dX10_sheet_26 : decode cX10_sheet 26 = .ok (.if_icmp .eq 10, 3) := by decide +kernel
theorem dX10_sheet_29 : decode cX10_sheet 29 = .ok (.aload_n 0, 1) := by decide +kernel
theorem dX10_sheet_30 : decode cX10_sheet 30 = .ok (.ldc 38, 2) := by decide +kernel
theorem dX10_sheet_32 : decode cX10_sheet 32 = .ok (.invokevirtual 63, 3) := by decide +kernel
theorem dX10_sheet_35 : decode cX10_sheet 35 = .ok (.ireturn, 1) := by decide +kernel
theorem dX10_sheet_36 : decode cX10_sheet 36 = .ok (.iload_n 3, 1) := by decide +kernel
theorem dX10_sheet_37 : decode cX10_sheet 37 = .ok (.ifCond .ge 11, 3) := by decide +kernel
theorem dX10_sheet_40 : decode cX10_sheet 40 = .ok (.aload_n 0, 1) := by decide +kernel
theorem dX10_sheet_41 : decode cX10_sheet 41 = .ok (.ldc_w 259, 3) := by decide +kernel
theorem dX10_sheet_44 : decode cX10_sheet 44 = .ok (.invokevirtual 63, 3) := by decide +kernel
theorem dX10_sheet_47 : decode cX10_sheet 47 = .ok (.ireturn, 1) := by decide +kernel
theorem dX10_sheet_48 : decode cX10_sheet 48 = .ok (.iload_n 3, 1) := by decide +kernel
theorem dX10_sheet_49 : decode cX10_sheet 49 = .ok (.bipush 40, 2) := by decide +kernel
theorem dX10_sheet_51 : decode cX10_sheet 51 = .ok (.if_icmp .le 10, 3) := by decide +kernel
theorem dX10_sheet_54 : decode cX10_sheet 54 = .ok (.aload_n 0, 1) := by decide +kernel
theorem dX10_sheet_55 : decode cX10_sheet 55 = .ok (.ldc 38, 2) := by decide +kernel
theorem dX10_sheet_57 : decode cX10_sheet 57 = .ok (.invokevirtual 63, 3) := by decide +kernel
theorem dX10_sheet_60 : decode cX10_sheet 60 = .ok (.ireturn, 1) := by decide +kernel
theorem dX10_sheet_61 : decode cX10_sheet 61 = .ok (.aload_n 0, 1) := by decide +kernel
theorem dX10_sheet_62 : decode cX10_sheet 62 = .ok (.getfield 19, 3) := by decide +kernel
theorem dX10_sheet_65 : decode cX10_sheet 65 = .ok (.iload_n 1, 1) := by decide +kernel
theorem dX10_sheet_66 : decode cX10_sheet 66 = .ok (.iload_n 2, 1) := by decide +kernel
theorem dX10_sheet_67 : decode cX10_sheet 67 = .ok (.iastore, 1) := by decide +kernel
theorem dX10_sheet_68 : decode cX10_sheet 68 = .ok (.aload_n 0, 1) := by decide +kernel
theorem dX10_sheet_69 : decode cX10_sheet 69 = .ok (.getfield 22, 3) := by decide +kernel
theorem dX10_sheet_72 : decode cX10_sheet 72 = .ok (.iload_n 1, 1) := by decide +kernel
theorem dX10_sheet_73 : decode cX10_sheet 73 = .ok (.iload_n 2, 1) := by decide +kernel
theorem dX10_sheet_74 : decode cX10_sheet 74 = .ok (.ifCond .ne 7, 3) := by decide +kernel
theorem dX10_sheet_77 : decode cX10_sheet 77 = .ok (.iconst 0, 1) := by decide +kernel
theorem dX10_sheet_78 : decode cX10_sheet 78 = .ok (.goto 4, 3) := by decide +kernel
theorem dX10_sheet_81 : decode cX10_sheet 81 = .ok (.iload_n 3, 1) := by decide +kernel
theorem dX10_sheet_82 : decode cX10_sheet 82 = .ok (.iastore, 1) := by decide +kernel
theorem dX10_sheet_83 : decode cX10_sheet 83 = .ok (.iconst 0, 1) := by decide +kernel
theorem dX10_sheet_84 : decode cX10_sheet 84 = .ok (.istore 4, 2) := by decide +kernel
theorem dX10_sheet_86 : decode cX10_sheet 86 = .ok (.iload 4, 2) := by decide +kernel
theorem dX10_sheet_88 : decode cX10_sheet 88 = .ok (.bipush 40, 2) := by decide +kernel
theorem dX10_sheet_90 : decode cX10_sheet 90 = .ok (.if_icmp .ge 22, 3) := by decide +kernel
theorem dX10_sheet_93 : decode cX10_sheet 93 = .ok (.aload_n 0, 1) := by decide +kernel
theorem dX10_sheet_94 : decode cX10_sheet 94 = .ok (.getfield 25, 3) := by decide +kernel
theorem dX10_sheet_97 : decode cX10_sheet 97 = .ok (.bipush 40, 2) := by decide +kernel
theorem dX10_sheet_99 : decode cX10_sheet 99 = .ok (.iload_n 1, 1) := by decide +kernel
theorem dX10_sheet_100 : decode cX10_sheet 100 = .ok (.imul, 1) := by decide +kernel
theorem dX10_sheet_101 : decode cX10_sheet 101 = .ok (.iload 4, 2) := by decide +kernel
theorem dX10_sheet_103 : decode cX10_sheet 103 = .ok (.iadd, 1) := by decide +kernel
theorem dX10_sheet_104 : decode cX10_sheet 104 = .ok (.lconst 0, 1) := by decide +kernel
theorem dX10_sheet_105 : decode cX10_sheet 105 = .ok (.lastore, 1) := by decide +kernel
theorem dX10_sheet_106 : decode cX10_sheet 106 = .ok (.iinc 4 1, 3) := by decide +kernel
theorem dX10_sheet_109 : decode cX10_sheet 109 = .ok (.goto (-23), 3) := by decide +kernel
theorem dX10_sheet_112 : decode cX10_sheet 112 = .ok (.aload_n 0, 1) := by decide +kernel
theorem dX10_sheet_113 : decode cX10_sheet 113 = .ok (.getfield 22, 3) := by decide +kernel
theorem dX10_sheet_116 : decode cX10_sheet 116 = .ok (.iload_n 1, 1) := by decide +kernel
theorem dX10_sheet_117 : decode cX10_sheet 117 = .ok (.iaload, 1) := by decide +kernel
theorem dX10_sheet_118 : decode cX10_sheet 118 = .ok (.ireturn, 1) := by decide +kernel
theorem dX10_write_0 : decode cX10_write 0 = .ok (.iload_n 1, 1) := by decide +kernel
theorem dX10_write_1 : decode cX10_write 1 = .ok (.invokestatic 256, 3) := by decide +kernel
theorem dX10_write_4 : decode cX10_write 4 = .ok (.ifCond .ne 11, 3) := by decide +kernel
theorem dX10_write_7 : decode cX10_write 7 = .ok (.aload_n 0, 1) := by decide +kernel
theorem dX10_write_8 : decode cX10_write 8 = .ok (.ldc 38, 2) := by decide +kernel
theorem dX10_write_10 : decode cX10_write 10 = .ok (.invokevirtual 63, 3) := by decide +kernel
theorem dX10_write_13 : decode cX10_write 13 = .ok (.i2l, 1) := by decide +kernel
theorem dX10_write_14 : decode cX10_write 14 = .ok (.lreturn, 1) := by decide +kernel
theorem dX10_write_15 : decode cX10_write 15 = .ok (.aload_n 0, 1) := by decide +kernel
theorem dX10_write_16 : decode cX10_write 16 = .ok (.getfield 19, 3) := by decide +kernel
theorem dX10_write_19 : decode cX10_write 19 = .ok (.iload_n 1, 1) := by decide +kernel
theorem dX10_write_20 : decode cX10_write 20 = .ok (.iaload, 1) := by decide +kernel
theorem dX10_write_21 : decode cX10_write 21 = .ok (.ifCond .ne 12, 3) := by decide +kernel
theorem dX10_write_24 : decode cX10_write 24 = .ok (.aload_n 0, 1) := by decide +kernel
theorem dX10_write_25 : decode cX10_write 25 = .ok (.ldc_w 260, 3) := by decide +kernel
theorem dX10_write_28 : decode cX10_write 28 = .ok (.invokevirtual 63, 3) := by decide +kernel
theorem dX10_write_31 : decode cX10_write 31 = .ok (.i2l, 1) := by decide +kernel
theorem dX10_write_32 : decode cX10_write 32 = .ok (.lreturn, 1) := by decide +kernel
theorem dX10_write_33 : decode cX10_write 33 = .ok (.iload_n 2, 1) := by decide +kernel
theorem dX10_write_34 : decode cX10_write 34 = .ok (.iconst 0, 1) := by decide +kernel
theorem dX10_write_35 : decode cX10_write 35 = .ok (.aload_n 0, 1) := by decide +kernel
theorem dX10_write_36 : decode cX10_write 36 = .ok (.getfield 22, 3) := by decide +kernel
theorem dX10_write_39 : decode cX10_write 39 = .ok (.iload_n 1, 1) := by decide +kernel
theorem dX10_write_40 : decode cX10_write 40 = .ok (.iaload, 1) := by decide +kernel
theorem dX10_write_41 : decode cX10_write 41 = .ok (.iconst 1, 1) := by decide +kernel
theorem dX10_write_42 : decode cX10_write 42 = .ok (.isub, 1) := by decide +kernel
theorem dX10_write_43 : decode cX10_write 43 = .ok (.invokestatic 47, 3) := by decide +kernel
theorem dX10_write_46 : decode cX10_write 46 = .ok (.ifCond .ne 11, 3) := by decide +kernel
theorem dX10_write_49 : decode cX10_write 49 = .ok (.aload_n 0, 1) := by decide +kernel
theorem dX10_write_50 : decode cX10_write 50 = .ok (.ldc 38, 2) := by decide +kernel
theorem dX10_write_52 : decode cX10_write 52 = .ok (.invokevirtual 63, 3) := by decide +kernel
theorem dX10_write_55 : decode cX10_write 55 = .ok (.i2l, 1) := by decide +kernel
theorem dX10_write_56 : decode cX10_write 56 = .ok (.lreturn, 1) := by decide +kernel
theorem dX10_write_57 : decode cX10_write 57 = .ok (.aload_n 0, 1) := by decide +kernel
theorem dX10_write_58 : decode cX10_write 58 = .ok (.getfield 25, 3) := by decide +kernel
theorem dX10_write_61 : decode cX10_write 61 = .ok (.bipush 40, 2) := by decide +kernel
theorem dX10_write_63 : decode cX10_write 63 = .ok (.iload_n 1, 1) := by decide +kernel
theorem dX10_write_64 : decode cX10_write 64 = .ok (.imul, 1) := by decide +kernel
theorem dX10_write_65 : decode cX10_write 65 = .ok (.iload_n 2, 1) := by decide +kernel
theorem dX10_write_66 : decode cX10_write 66 = .ok (.iadd, 1) := by decide +kernel
theorem dX10_write_67 : decode cX10_write 67 = .ok (.laload, 1) := by decide +kernel
theorem dX10_write_68 : decode cX10_write 68 = .ok (.lstore 5, 2) := by decide +kernel
theorem dX10_write_70 : decode cX10_write 70 = .ok (.aload_n 0, 1) := by decide +kernel
theorem dX10_write_71 : decode cX10_write 71 = .ok (.getfield 25, 3) := by decide +kernel
theorem dX10_write_74 : decode cX10_write 74 = .ok (.bipush 40, 2) := by decide +kernel
theorem dX10_write_76 : decode cX10_write 76 = .ok (.iload_n 1, 1) := by decide +kernel
theorem dX10_write_77 : decode cX10_write 77 = .ok (.imul, 1) := by decide +kernel
theorem dX10_write_78 : decode cX10_write 78 = .ok (.iload_n 2, 1) := by decide +kernel
theorem dX10_write_79 : decode cX10_write 79 = .ok (.iadd, 1) := by decide +kernel
theorem dX10_write_80 : decode cX10_write 80 = .ok (.aload_n 0, 1) := by decide +kernel
theorem dX10_write_81 : decode cX10_write 81 = .ok (.getfield 19, 3) := by decide +kernel
theorem dX10_write_84 : decode cX10_write 84 = .ok (.iload_n 1, 1) := by decide +kernel
theorem dX10_write_85 : decode cX10_write 85 = .ok (.iaload, 1) := by decide +kernel
theorem dX10_write_86 : decode cX10_write 86 = .ok (.lload_n 3, 1) := by decide +kernel
theorem dX10_write_87 : decode cX10_write 87 = .ok (.invokestatic 261, 3) := by decide +kernel
theorem dX10_write_90 : decode cX10_write 90 = .ok (.lastore, 1) := by decide +kernel
theorem dX10_write_91 : decode cX10_write 91 = .ok (.lload 5, 2) := by decide +kernel
theorem dX10_write_93 : decode cX10_write 93 = .ok (.lreturn, 1) := by decide +kernel
theorem dX10_isPart__0 : decode cX10_isPart_ 0 = .ok (.iload_n 2, 1) := by decide +kernel
theorem dX10_isPart__1 : decode cX10_isPart_ 1 = .ok (.ifCond .lt 33, 3) := by decide +kernel
theorem dX10_isPart__4 : decode cX10_isPart_ 4 = .ok (.iload_n 3, 1) := by decide +kernel
theorem dX10_isPart__5 : decode cX10_isPart_ 5 = .ok (.ifCond .lt 29, 3) := by decide +kernel
theorem dX10_isPart__8 : decode cX10_isPart_ 8 = .ok (.iload_n 3, 1) := by decide +kernel
theorem dX10_isPart__9 : decode cX10_isPart_ 9 = .ok (.aload_n 0, 1) := by decide +kernel
theorem dX10_isPart__10 : decode cX10_isPart_ 10 = .ok (.getfield 22, 3) := by decide +kernel
theorem dX10_isPart__13 : decode cX10_isPart_ 13 = .ok (.iload_n 1, 1) := by decide +kernel
theorem dX10_isPart__14 : decode cX10_isPart_ 14 = .ok (.iaload, 1) := by decide +kernel
theorem dX10_isPart__15 : decode cX10_isPart_ 15 = .ok (.if_icmp .gt 19, 3) := by decide +kernel
theorem dX10_isPart__18 : decode cX10_isPart_ 18 = .ok (.iload_n 2, 1) := by decide +kernel
theorem dX10_isPart__19 : decode cX10_isPart_ 19 = .ok (.aload_n 0, 1) := by decide +kernel
theorem dX10_isPart__20 : decode cX10_isPart_ 20 = .ok (.getfield 22, 3) := by decide +kernel
theorem dX10_isPart__23 : decode cX10_isPart_ 23 = .ok (.iload_n 1, 1) := by decide +kernel
theorem dX10_isPart__24 : decode cX10_isPart_ 24 = .ok (.iaload, 1) := by decide +kernel
theorem dX10_isPart__25 : decode cX10_isPart_ 25 = .ok (.iload_n 3, 1) := by decide +kernel
theorem dX10_isPart__26 : decode cX10_isPart_ 26 = .ok (.isub, 1) := by decide +kernel
theorem dX10_isPart__27 : decode cX10_isPart_ 27 = .ok (.if_icmp .gt 7, 3) := by decide +kernel
theorem dX10_isPart__30 : decode cX10_isPart_ 30 = .ok (.iconst 1, 1) := by decide +kernel
theorem dX10_isPart__31 : decode cX10_isPart_ 31 = .ok (.goto 4, 3) := by decide +kernel
theorem dX10_isPart__34 : decode cX10_isPart_ 34 = .ok (.iconst 0, 1) := by decide +kernel
theorem dX10_isPart__35 : decode cX10_isPart_ 35 = .ok (.ireturn, 1) := by decide +kernel
theorem dX10_copy_0 : decode cX10_copy 0 = .ok (.iload_n 1, 1) := by decide +kernel
theorem dX10_copy_1 : decode cX10_copy 1 = .ok (.invokestatic 256, 3) := by decide +kernel
theorem dX10_copy_4 : decode cX10_copy 4 = .ok (.ifCond .eq 10, 3) := by decide +kernel
theorem dX10_copy_7 : decode cX10_copy 7 = .ok (.iload_n 3, 1) := by decide +kernel
theorem dX10_copy_8 : decode cX10_copy 8 = .ok (.invokestatic 256, 3) := by decide +kernel
theorem dX10_copy_11 : decode cX10_copy 11 = .ok (.ifCond .ne 10, 3) := by decide +kernel
theorem dX10_copy_14 : decode cX10_copy 14 = .ok (.aload_n 0, 1) := by decide +kernel
theorem dX10_copy_15 : decode cX10_copy 15 = .ok (.ldc 38, 2) := by decide +kernel
theorem dX10_copy_17 : decode cX10_copy 17 = .ok (.invokevirtual 63, 3) := by decide +kernel
theorem dX10_copy_20 : decode cX10_copy 20 = .ok (.ireturn, 1) := by decide +kernel
theorem dX10_copy_21 : decode cX10_copy 21 = .ok (.aload_n 0, 1) := by decide +kernel
theorem dX10_copy_22 : decode cX10_copy 22 = .ok (.getfield 19, 3) := by decide +kernel
theorem dX10_copy_25 : decode cX10_copy 25 = .ok (.iload_n 1, 1) := by decide +kernel
theorem dX10_copy_26 : decode cX10_copy 26 = .ok (.iaload, 1) := by decide +kernel
theorem dX10_copy_27 : decode cX10_copy 27 = .ok (.ifCond .eq 12, 3) := by decide +kernel
theorem dX10_copy_30 : decode cX10_copy 30 = .ok (.aload_n 0, 1) := by decide +kernel
theorem dX10_copy_31 : decode cX10_copy 31 = .ok (.getfield 19, 3) := by decide +kernel
theorem dX10_copy_34 : decode cX10_copy 34 = .ok (.iload_n 3, 1) := by decide +kernel
theorem dX10_copy_35 : decode cX10_copy 35 = .ok (.iaload, 1) := by decide +kernel
theorem dX10_copy_36 : decode cX10_copy 36 = .ok (.ifCond .ne 11, 3) := by decide +kernel
theorem dX10_copy_39 : decode cX10_copy 39 = .ok (.aload_n 0, 1) := by decide +kernel
theorem dX10_copy_40 : decode cX10_copy 40 = .ok (.ldc_w 260, 3) := by decide +kernel
theorem dX10_copy_43 : decode cX10_copy 43 = .ok (.invokevirtual 63, 3) := by decide +kernel
theorem dX10_copy_46 : decode cX10_copy 46 = .ok (.ireturn, 1) := by decide +kernel
theorem dX10_copy_47 : decode cX10_copy 47 = .ok (.aload_n 0, 1) := by decide +kernel
theorem dX10_copy_48 : decode cX10_copy 48 = .ok (.getfield 19, 3) := by decide +kernel
theorem dX10_copy_51 : decode cX10_copy 51 = .ok (.iload_n 1, 1) := by decide +kernel
theorem dX10_copy_52 : decode cX10_copy 52 = .ok (.iaload, 1) := by decide +kernel
theorem dX10_copy_53 : decode cX10_copy 53 = .ok (.aload_n 0, 1) := by decide +kernel
theorem dX10_copy_54 : decode cX10_copy 54 = .ok (.getfield 19, 3) := by decide +kernel
theorem dX10_copy_57 : decode cX10_copy 57 = .ok (.iload_n 3, 1) := by decide +kernel
theorem dX10_copy_58 : decode cX10_copy 58 = .ok (.iaload, 1) := by decide +kernel
theorem dX10_copy_59 : decode cX10_copy 59 = .ok (.if_icmp .eq 10, 3) := by decide +kernel
theorem dX10_copy_62 : decode cX10_copy 62 = .ok (.aload_n 0, 1) := by decide +kernel
theorem dX10_copy_63 : decode cX10_copy 63 = .ok (.ldc 100, 2) := by decide +kernel
theorem dX10_copy_65 : decode cX10_copy 65 = .ok (.invokevirtual 63, 3) := by decide +kernel
theorem dX10_copy_68 : decode cX10_copy 68 = .ok (.ireturn, 1) := by decide +kernel
theorem dX10_copy_69 : decode cX10_copy 69 = .ok (.aload_n 0, 1) := by decide +kernel
theorem dX10_copy_70 : decode cX10_copy 70 = .ok (.iload_n 1, 1) := by decide +kernel
theorem dX10_copy_71 : decode cX10_copy 71 = .ok (.iload_n 2, 1) := by decide +kernel
theorem dX10_copy_72 : decode cX10_copy 72 = .ok (.iload 5, 2) := by decide +kernel
theorem dX10_copy_74 : decode cX10_copy 74 = .ok (.invokevirtual 265, 3) := by decide +kernel
theorem dX10_copy_77 : decode cX10_copy 77 = .ok (.ifCond .eq 15, 3) := by decide +kernel
theorem dX10_copy_80 : decode cX10_copy 80 = .ok (.aload_n 0, 1) := by decide +kernel
theorem dX10_copy_81 : decode cX10_copy 81 = .ok (.iload_n 3, 1) := by decide +kernel
theorem dX10_copy_82 : decode cX10_copy 82 = .ok (.iload 4, 2) := by decide +kernel
theorem dX10_copy_84 : decode cX10_copy 84 = .ok (.iload 5, 2) := by decide +kernel
theorem dX10_copy_86 : decode cX10_copy 86 = .ok (.invokevirtual 265, 3) := by decide +kernel
theorem dX10_copy_89 : decode cX10_copy 89 = .ok (.ifCond .ne 10, 3) := by decide +kernel
theorem dX10_copy_92 : decode cX10_copy 92 = .ok (.aload_n 0, 1) := by decide +kernel
theorem dX10_copy_93 : decode cX10_copy 93 = .ok (.ldc 38, 2) := by decide +kernel
theorem dX10_copy_95 : decode cX10_copy 95 = .ok (.invokevirtual 63, 3) := by decide +kernel
theorem dX10_copy_98 : decode cX10_copy 98 = .ok (.ireturn, 1) := by decide +kernel
theorem dX10_copy_99 : decode cX10_copy 99 = .ok (.iconst 0, 1) := by decide +kernel
theorem dX10_copy_100 : decode cX10_copy 100 = .ok (.istore 6, 2) := by decide +kernel
theorem dX10_copy_102 : decode cX10_copy 102 = .ok (.iload 6, 2) := by decide +kernel
theorem dX10_copy_104 : decode cX10_copy 104 = .ok (.iload 5, 2) := by decide +kernel
theorem dX10_copy_106 : decode cX10_copy 106 = .ok (.if_icmp .ge 30, 3) := by decide +kernel
theorem dX10_copy_109 : decode cX10_copy 109 = .ok (.aload_n 0, 1) := by decide +kernel
theorem dX10_copy_110 : decode cX10_copy 110 = .ok (.getfield 29, 3) := by decide +kernel
theorem dX10_copy_113 : decode cX10_copy 113 = .ok (.iload 6, 2) := by decide +kernel
theorem dX10_copy_115 : decode cX10_copy 115 = .ok (.aload_n 0, 1) := by decide +kernel
theorem dX10_copy_116 : decode cX10_copy 116 = .ok (.getfield 25, 3) := by decide +kernel
theorem dX10_copy_119 : decode cX10_copy 119 = .ok (.bipush 40, 2) := by decide +kernel
theorem dX10_copy_121 : decode cX10_copy 121 = .ok (.iload_n 1, 1) := by decide +kernel
theorem dX10_copy_122 : decode cX10_copy 122 = .ok (.imul, 1) := by decide +kernel
theorem dX10_copy_123 : decode cX10_copy 123 = .ok (.iload_n 2, 1) := by decide +kernel
theorem dX10_copy_124 : decode cX10_copy 124 = .ok (.iadd, 1) := by decide +kernel
theorem dX10_copy_125 : decode cX10_copy 125 = .ok (.iload 6, 2) := by decide +kernel
theorem dX10_copy_127 : decode cX10_copy 127 = .ok (.iadd, 1) := by decide +kernel
theorem dX10_copy_128 : decode cX10_copy 128 = .ok (.laload, 1) := by decide +kernel
theorem dX10_copy_129 : decode cX10_copy 129 = .ok (.lastore, 1) := by decide +kernel
theorem dX10_copy_130 : decode cX10_copy 130 = .ok (.iinc 6 1, 3) := by decide +kernel
theorem dX10_copy_133 : decode cX10_copy 133 = .ok (.goto (-31), 3) := by decide +kernel
theorem dX10_copy_136 : decode cX10_copy 136 = .ok (.iconst 0, 1) := by decide +kernel
theorem dX10_copy_137 : decode cX10_copy 137 = .ok (.istore 6, 2) := by decide +kernel
theorem dX10_copy_139 : decode cX10_copy 139 = .ok (.iload 6, 2) := by decide +kernel
theorem dX10_copy_141 : decode cX10_copy 141 = .ok (.iload 5, 2) := by decide +kernel
theorem dX10_copy_143 : decode cX10_copy 143 = .ok (.if_icmp .ge 31, 3) := by decide +kernel
theorem dX10_copy_146 : decode cX10_copy 146 = .ok (.aload_n 0, 1) := by decide +kernel
theorem dX10_copy_147 : decode cX10_copy 147 = .ok (.getfield 25, 3) := by decide +kernel
theorem dX10_copy_150 : decode cX10_copy 150 = .ok (.bipush 40, 2) := by decide +kernel
theorem dX10_copy_152 : decode cX10_copy 152 = .ok (.iload_n 3, 1) := by decide +kernel
theorem dX10_copy_153 : decode cX10_copy 153 = .ok (.imul, 1) := by decide +kernel
theorem dX10_copy_154 : decode cX10_copy 154 = .ok (.iload 4, 2) := by decide +kernel
theorem dX10_copy_156 : decode cX10_copy 156 = .ok (.iadd, 1) := by decide +kernel
theorem dX10_copy_157 : decode cX10_copy 157 = .ok (.iload 6, 2) := by decide +kernel
theorem dX10_copy_159 : decode cX10_copy 159 = .ok (.iadd, 1) := by decide +kernel
theorem dX10_copy_160 : decode cX10_copy 160 = .ok (.aload_n 0, 1) := by decide +kernel
theorem dX10_copy_161 : decode cX10_copy 161 = .ok (.getfield 29, 3) := by decide +kernel
theorem dX10_copy_164 : decode cX10_copy 164 = .ok (.iload 6, 2) := by decide +kernel
theorem dX10_copy_166 : decode cX10_copy 166 = .ok (.laload, 1) := by decide +kernel
theorem dX10_copy_167 : decode cX10_copy 167 = .ok (.lastore, 1) := by decide +kernel
theorem dX10_copy_168 : decode cX10_copy 168 = .ok (.iinc 6 1, 3) := by decide +kernel
theorem dX10_copy_171 : decode cX10_copy 171 = .ok (.goto (-32), 3) := by decide +kernel
theorem dX10_copy_174 : decode cX10_copy 174 = .ok (.iload 5, 2) := by decide +kernel
theorem dX10_copy_176 : decode cX10_copy 176 = .ok (.ireturn, 1) := by decide +kernel
theorem dX10_lays_0 : decode cX10_lays 0 = .ok (.iload_n 1, 1) := by decide +kernel
theorem dX10_lays_1 : decode cX10_lays 1 = .ok (.invokestatic 256, 3) := by decide +kernel
theorem dX10_lays_4 : decode cX10_lays 4 = .ok (.ifCond .ne 10, 3) := by decide +kernel
theorem dX10_lays_7 : decode cX10_lays 7 = .ok (.aload_n 0, 1) := by decide +kernel
theorem dX10_lays_8 : decode cX10_lays 8 = .ok (.ldc 38, 2) := by decide +kernel
theorem dX10_lays_10 : decode cX10_lays 10 = .ok (.invokevirtual 63, 3) := by decide +kernel
theorem dX10_lays_13 : decode cX10_lays 13 = .ok (.ireturn, 1) := by decide +kernel
theorem dX10_lays_14 : decode cX10_lays 14 = .ok (.aload_n 0, 1) := by decide +kernel
theorem dX10_lays_15 : decode cX10_lays 15 = .ok (.getfield 19, 3) := by decide +kernel
theorem dX10_lays_18 : decode cX10_lays 18 = .ok (.iload_n 1, 1) := by decide +kernel
theorem dX10_lays_19 : decode cX10_lays 19 = .ok (.iaload, 1) := by decide +kernel
theorem dX10_lays_20 : decode cX10_lays 20 = .ok (.ifCond .ne 11, 3) := by decide +kernel
theorem dX10_lays_23 : decode cX10_lays 23 = .ok (.aload_n 0, 1) := by decide +kernel
theorem dX10_lays_24 : decode cX10_lays 24 = .ok (.ldc_w 260, 3) := by decide +kernel
theorem dX10_lays_27 : decode cX10_lays 27 = .ok (.invokevirtual 63, 3) := by decide +kernel
theorem dX10_lays_30 : decode cX10_lays 30 = .ok (.ireturn, 1) := by decide +kernel
theorem dX10_lays_31 : decode cX10_lays 31 = .ok (.iconst 0, 1) := by decide +kernel
theorem dX10_lays_32 : decode cX10_lays 32 = .ok (.istore_n 2, 1) := by decide +kernel
theorem dX10_lays_33 : decode cX10_lays 33 = .ok (.iconst 0, 1) := by decide +kernel
theorem dX10_lays_34 : decode cX10_lays 34 = .ok (.istore_n 3, 1) := by decide +kernel
theorem dX10_lays_35 : decode cX10_lays 35 = .ok (.iload_n 3, 1) := by decide +kernel
theorem dX10_lays_36 : decode cX10_lays 36 = .ok (.bipush 40, 2) := by decide +kernel
theorem dX10_lays_38 : decode cX10_lays 38 = .ok (.if_icmp .ge 62, 3) := by decide +kernel
theorem dX10_lays_41 : decode cX10_lays 41 = .ok (.iload_n 3, 1) := by decide +kernel
theorem dX10_lays_42 : decode cX10_lays 42 = .ok (.aload_n 0, 1) := by decide +kernel
theorem dX10_lays_43 : decode cX10_lays 43 = .ok (.getfield 22, 3) := by decide +kernel
theorem dX10_lays_46 : decode cX10_lays 46 = .ok (.iload_n 1, 1) := by decide +kernel
theorem dX10_lays_47 : decode cX10_lays 47 = .ok (.iaload, 1) := by decide +kernel
theorem dX10_lays_48 : decode cX10_lays 48 = .ok (.if_icmp .ge 52, 3) := by decide +kernel
theorem dX10_lays_51 : decode cX10_lays 51 = .ok (.aload_n 0, 1) := by decide +kernel
theorem dX10_lays_52 : decode cX10_lays 52 = .ok (.getfield 25, 3) := by decide +kernel
theorem dX10_lays_55 : decode cX10_lays 55 = .ok (.bipush 40, 2) := by decide +kernel
theorem dX10_lays_57 : decode cX10_lays 57 = .ok (.iload_n 1, 1) := by decide +kernel
theorem dX10_lays_58 : decode cX10_lays 58 = .ok (.imul, 1) := by decide +kernel
theorem dX10_lays_59 : decode cX10_lays 59 = .ok (.iload_n 3, 1) := by decide +kernel
theorem dX10_lays_60 : decode cX10_lays 60 = .ok (.iadd, 1) := by decide +kernel
theorem dX10_lays_61 : decode cX10_lays 61 = .ok (.laload, 1) := by decide +kernel
theorem dX10_lays_62 : decode cX10_lays 62 = .ok (.lstore 4, 2) := by decide +kernel
theorem dX10_lays_64 : decode cX10_lays 64 = .ok (.lload 4, 2) := by decide +kernel
theorem dX10_lays_66 : decode cX10_lays 66 = .ok (.lconst 1, 1) := by decide +kernel
theorem dX10_lays_67 : decode cX10_lays 67 = .ok (.lcmp, 1) := by decide +kernel
theorem dX10_lays_68 : decode cX10_lays 68 = .ok (.ifCond .lt 26, 3) := by decide +kernel
theorem dX10_lays_71 : decode cX10_lays 71 = .ok (.lload 4, 2) := by decide +kernel
theorem dX10_lays_73 : decode cX10_lays 73 = .ok (.ldc2_w 267, 3) := by decide +kernel
theorem dX10_lays_76 : decode cX10_lays 76 = .ok (.lcmp, 1) := by decide +kernel
theorem dX10_lays_77 : decode cX10_lays 77 = .ok (.ifCond .gt 17, 3) := by decide +kernel
theorem dX10_lays_80 : decode cX10_lays 80 = .ok (.aload_n 0, 1) := by decide +kernel
theorem dX10_lays_81 : decode cX10_lays 81 = .ok (.getfield 7, 3) := by decide +kernel
theorem dX10_lays_84 : decode cX10_lays 84 = .ok (.iconst 5, 1) := by decide +kernel
theorem dX10_lays_85 : decode cX10_lays 85 = .ok (.iload_n 3, 1) := by decide +kernel
theorem dX10_lays_86 : decode cX10_lays 86 = .ok (.iadd, 1) := by decide +kernel
theorem dX10_lays_87 : decode cX10_lays 87 = .ok (.lload 4, 2) := by decide +kernel
theorem dX10_lays_89 : decode cX10_lays 89 = .ok (.l2i, 1) := by decide +kernel
theorem dX10_lays_90 : decode cX10_lays 90 = .ok (.iastore, 1) := by decide +kernel
theorem dX10_lays_91 : decode cX10_lays 91 = .ok (.iinc 2 1, 3) := by decide +kernel
theorem dX10_lays_94 : decode cX10_lays 94 = .ok (.iinc 3 1, 3) := by decide +kernel
theorem dX10_lays_97 : decode cX10_lays 97 = .ok (.goto (-62), 3) := by decide +kernel
theorem dX10_lays_100 : decode cX10_lays 100 = .ok (.iload_n 2, 1) := by decide +kernel
theorem dX10_lays_101 : decode cX10_lays 101 = .ok (.ireturn, 1) := by decide +kernel
theorem dX10_stair_0 : decode cX10_stair 0 = .ok (.iload_n 1, 1) := by decide +kernel
theorem dX10_stair_1 : decode cX10_stair 1 = .ok (.invokestatic 256, 3) := by decide +kernel
theorem dX10_stair_4 : decode cX10_stair 4 = .ok (.ifCond .ne 8, 3) := by decide +kernel
theorem dX10_stair_7 : decode cX10_stair 7 = .ok (.ldc 38, 2) := by decide +kernel
theorem dX10_stair_9 : decode cX10_stair 9 = .ok (.goto 44, 3) := by decide +kernel
theorem dX10_stair_12 : decode cX10_stair 12 = .ok (.aload_n 0, 1) := by decide +kernel
theorem dX10_stair_13 : decode cX10_stair 13 = .ok (.getfield 19, 3) := by decide +kernel
theorem dX10_stair_16 : decode cX10_stair 16 = .ok (.iload_n 1, 1) := by decide +kernel
theorem dX10_stair_17 : decode cX10_stair 17 = .ok (.iaload, 1) := by decide +kernel
theorem dX10_stair_18 : decode cX10_stair 18 = .ok (.ifCond .ne 9, 3) := by decide +kernel
theorem dX10_stair_21 : decode cX10_stair 21 = .ok (.ldc_w 260, 3) := by decide +kernel
theorem dX10_stair_24 : decode cX10_stair 24 = .ok (.goto 29, 3) := by decide +kernel
theorem dX10_stair_27 : decode cX10_stair 27 = .ok (.iload_n 2, 1) := by decide +kernel
theorem dX10_stair_28 : decode cX10_stair 28 = .ok (.invokestatic 141, 3) := by decide +kernel
theorem dX10_stair_31 : decode cX10_stair 31 = .ok (.ifCond .ne 8, 3) := by decide +kernel
theorem dX10_stair_34 : decode cX10_stair 34 = .ok (.ldc 38, 2) := by decide +kernel
theorem dX10_stair_36 : decode cX10_stair 36 = .ok (.goto 17, 3) := by decide +kernel
theorem dX10_stair_39 : decode cX10_stair 39 = .ok (.aload_n 0, 1) := by decide +kernel
theorem dX10_stair_40 : decode cX10_stair 40 = .ok (.iload_n 2, 1) := by decide +kernel
theorem dX10_stair_41 : decode cX10_stair 41 = .ok (.invokevirtual 135, 3) := by decide +kernel
theorem dX10_stair_44 : decode cX10_stair 44 = .ok (.ifCond .eq 8, 3) := by decide +kernel
theorem dX10_stair_47 : decode cX10_stair 47 = .ok (.ldc 101, 2) := by decide +kernel
theorem dX10_stair_49 : decode cX10_stair 49 = .ok (.goto 4, 3) := by decide +kernel
theorem dX10_stair_52 : decode cX10_stair 52 = .ok (.iconst 0, 1) := by decide +kernel
theorem dX10_stair_53 : decode cX10_stair 53 = .ok (.istore_n 3, 1) := by decide +kernel
theorem dX10_stair_54 : decode cX10_stair 54 = .ok (.iload_n 3, 1) := by decide +kernel
theorem dX10_stair_55 : decode cX10_stair 55 = .ok (.ifCond .eq 9, 3) := by decide +kernel
theorem dX10_stair_58 : decode cX10_stair 58 = .ok (.aload_n 0, 1) := by decide +kernel
theorem dX10_stair_59 : decode cX10_stair 59 = .ok (.iload_n 3, 1) := by decide +kernel
theorem dX10_stair_60 : decode cX10_stair 60 = .ok (.invokevirtual 63, 3) := by decide +kernel
theorem dX10_stair_63 : decode cX10_stair 63 = .ok (.ireturn, 1) := by decide +kernel
theorem dX10_stair_64 : decode cX10_stair 64 = .ok (.aload_n 0, 1) := by decide +kernel
theorem dX10_stair_65 : decode cX10_stair 65 = .ok (.invokevirtual 144, 3) := by decide +kernel
theorem dX10_stair_68 : decode cX10_stair 68 = .ok (.aload_n 0, 1) := by decide +kernel
theorem dX10_stair_69 : decode cX10_stair 69 = .ok (.iload_n 2, 1) := by decide +kernel
theorem dX10_stair_70 : decode cX10_stair 70 = .ok (.invokevirtual 138, 3) := by decide +kernel
theorem dX10_stair_73 : decode cX10_stair 73 = .ok (.iconst 0, 1) := by decide +kernel
theorem dX10_stair_74 : decode cX10_stair 74 = .ok (.istore 4, 2) := by decide +kernel
theorem dX10_stair_76 : decode cX10_stair 76 = .ok (.iload 4, 2) := by decide +kernel
theorem dX10_stair_78 : decode cX10_stair 78 = .ok (.bipush 40, 2) := by decide +kernel
theorem dX10_stair_80 : decode cX10_stair 80 = .ok (.if_icmp .ge 55, 3) := by decide +kernel
theorem dX10_stair_83 : decode cX10_stair 83 = .ok (.iload 4, 2) := by decide +kernel
theorem dX10_stair_85 : decode cX10_stair 85 = .ok (.aload_n 0, 1) := by decide +kernel
theorem dX10_stair_86 : decode cX10_stair 86 = .ok (.getfield 22, 3) := by decide +kernel
theorem dX10_stair_89 : decode cX10_stair 89 = .ok (.iload_n 1, 1) := by decide +kernel
theorem dX10_stair_90 : decode cX10_stair 90 = .ok (.iaload, 1) := by decide +kernel
theorem dX10_stair_91 : decode cX10_stair 91 = .ok (.if_icmp .ge 44, 3) := by decide +kernel
theorem dX10_stair_94 : decode cX10_stair 94 = .ok (.aload_n 0, 1) := by decide +kernel
theorem dX10_stair_95 : decode cX10_stair 95 = .ok (.getfield 25, 3) := by decide +kernel
theorem dX10_stair_98 : decode cX10_stair 98 = .ok (.bipush 40, 2) := by decide +kernel
theorem dX10_stair_100 : decode cX10_stair 100 = .ok (.iload_n 1, 1) := by decide +kernel
theorem dX10_stair_101 : decode cX10_stair 101 = .ok (.imul, 1) := by decide +kernel
theorem dX10_stair_102 : decode cX10_stair 102 = .ok (.iload 4, 2) := by decide +kernel
theorem dX10_stair_104 : decode cX10_stair 104 = .ok (.iadd, 1) := by decide +kernel
theorem dX10_stair_105 : decode cX10_stair 105 = .ok (.aload_n 0, 1) := by decide +kernel
theorem dX10_stair_106 : decode cX10_stair 106 = .ok (.iload 4, 2) := by decide +kernel
theorem dX10_stair_108 : decode cX10_stair 108 = .ok (.invokevirtual 78, 3) := by decide +kernel
theorem dX10_stair_111 : decode cX10_stair 111 = .ok (.ifCond .eq 16, 3) := by decide +kernel
theorem dX10_stair_114 : decode cX10_stair 114 = .ok (.aload_n 0, 1) := by decide +kernel
theorem dX10_stair_115 : decode cX10_stair 115 = .ok (.bipush 85, 2) := by decide +kernel
theorem dX10_stair_117 : decode cX10_stair 117 = .ok (.iload 4, 2) := by decide +kernel
theorem dX10_stair_119 : decode cX10_stair 119 = .ok (.iadd, 1) := by decide +kernel
theorem dX10_stair_120 : decode cX10_stair 120 = .ok (.invokevirtual 43, 3) := by decide +kernel
theorem dX10_stair_123 : decode cX10_stair 123 = .ok (.i2l, 1) := by decide +kernel
theorem dX10_stair_124 : decode cX10_stair 124 = .ok (.goto 4, 3) := by decide +kernel
theorem dX10_stair_127 : decode cX10_stair 127 = .ok (.lconst 0, 1) := by decide +kernel
theorem dX10_stair_128 : decode cX10_stair 128 = .ok (.lastore, 1) := by decide +kernel
theorem dX10_stair_129 : decode cX10_stair 129 = .ok (.iinc 4 1, 3) := by decide +kernel
theorem dX10_stair_132 : decode cX10_stair 132 = .ok (.goto (-56), 3) := by decide +kernel
theorem dX10_stair_135 : decode cX10_stair 135 = .ok (.aload_n 0, 1) := by decide +kernel
theorem dX10_stair_136 : decode cX10_stair 136 = .ok (.iconst 0, 1) := by decide +kernel
theorem dX10_stair_137 : decode cX10_stair 137 = .ok (.putfield 39, 3) := by decide +kernel
theorem dX10_stair_140 : decode cX10_stair 140 = .ok (.iload 4, 2) := by decide +kernel
theorem dX10_stair_142 : decode cX10_stair 142 = .ok (.ireturn, 1) := by decide +kernel
theorem dX10_read_0 : decode cX10_read 0 = .ok (.iload_n 1, 1) := by decide +kernel
theorem dX10_read_1 : decode cX10_read 1 = .ok (.invokestatic 256, 3) := by decide +kernel
theorem dX10_read_4 : decode cX10_read 4 = .ok (.ifCond .ne 8, 3) := by decide +kernel
theorem dX10_read_7 : decode cX10_read 7 = .ok (.ldc 38, 2) := by decide +kernel
theorem dX10_read_9 : decode cX10_read 9 = .ok (.goto 33, 3) := by decide +kernel
theorem dX10_read_12 : decode cX10_read 12 = .ok (.aload_n 0, 1) := by decide +kernel
theorem dX10_read_13 : decode cX10_read 13 = .ok (.getfield 19, 3) := by decide +kernel
theorem dX10_read_16 : decode cX10_read 16 = .ok (.iload_n 1, 1) := by decide +kernel
theorem dX10_read_17 : decode cX10_read 17 = .ok (.iaload, 1) := by decide +kernel
theorem dX10_read_18 : decode cX10_read 18 = .ok (.ifCond .ne 9, 3) := by decide +kernel
theorem dX10_read_21 : decode cX10_read 21 = .ok (.ldc_w 260, 3) := by decide +kernel
theorem dX10_read_24 : decode cX10_read 24 = .ok (.goto 18, 3) := by decide +kernel
theorem dX10_read_27 : decode cX10_read 27 = .ok (.aload_n 0, 1) := by decide +kernel
theorem dX10_read_28 : decode cX10_read 28 = .ok (.bipush 40, 2) := by decide +kernel
theorem dX10_read_30 : decode cX10_read 30 = .ok (.invokevirtual 135, 3) := by decide +kernel
theorem dX10_read_33 : decode cX10_read 33 = .ok (.ifCond .eq 8, 3) := by decide +kernel
theorem dX10_read_36 : decode cX10_read 36 = .ok (.ldc 101, 2) := by decide +kernel
theorem dX10_read_38 : decode cX10_read 38 = .ok (.goto 4, 3) := by decide +kernel
theorem dX10_read_41 : decode cX10_read 41 = .ok (.iconst 0, 1) := by decide +kernel
theorem dX10_read_42 : decode cX10_read 42 = .ok (.istore_n 2, 1) := by decide +kernel
theorem dX10_read_43 : decode cX10_read 43 = .ok (.iload_n 2, 1) := by decide +kernel
theorem dX10_read_44 : decode cX10_read 44 = .ok (.ifCond .eq 9, 3) := by decide +kernel
theorem dX10_read_47 : decode cX10_read 47 = .ok (.aload_n 0, 1) := by decide +kernel
theorem dX10_read_48 : decode cX10_read 48 = .ok (.iload_n 2, 1) := by decide +kernel
theorem dX10_read_49 : decode cX10_read 49 = .ok (.invokevirtual 63, 3) := by decide +kernel
theorem dX10_read_52 : decode cX10_read 52 = .ok (.ireturn, 1) := by decide +kernel
theorem dX10_read_53 : decode cX10_read 53 = .ok (.aload_n 0, 1) := by decide +kernel
theorem dX10_read_54 : decode cX10_read 54 = .ok (.invokevirtual 144, 3) := by decide +kernel
theorem dX10_read_57 : decode cX10_read 57 = .ok (.iconst 0, 1) := by decide +kernel
theorem dX10_read_58 : decode cX10_read 58 = .ok (.istore_n 3, 1) := by decide +kernel
theorem dX10_read_59 : decode cX10_read 59 = .ok (.iconst 0, 1) := by decide +kernel
theorem dX10_read_60 : decode cX10_read 60 = .ok (.istore 4, 2) := by decide +kernel
theorem dX10_read_62 : decode cX10_read 62 = .ok (.iload 4, 2) := by decide +kernel
theorem dX10_read_64 : decode cX10_read 64 = .ok (.aload_n 0, 1) := by decide +kernel
theorem dX10_read_65 : decode cX10_read 65 = .ok (.getfield 22, 3) := by decide +kernel
theorem dX10_read_68 : decode cX10_read 68 = .ok (.iload_n 1, 1) := by decide +kernel
theorem dX10_read_69 : decode cX10_read 69 = .ok (.iaload, 1) := by decide +kernel
theorem dX10_read_70 : decode cX10_read 70 = .ok (.if_icmp .ge 47, 3) := by decide +kernel
theorem dX10_read_73 : decode cX10_read 73 = .ok (.iload_n 3, 1) := by decide +kernel
theorem dX10_read_74 : decode cX10_read 74 = .ok (.ifCond .ne 43, 3) := by decide +kernel
theorem dX10_read_77 : decode cX10_read 77 = .ok (.aload_n 0, 1) := by decide +kernel
theorem dX10_read_78 : decode cX10_read 78 = .ok (.getfield 25, 3) := by decide +kernel
theorem dX10_read_81 : decode cX10_read 81 = .ok (.bipush 40, 2) := by decide +kernel
theorem dX10_read_83 : decode cX10_read 83 = .ok (.iload_n 1, 1) := by decide +kernel
theorem dX10_read_84 : decode cX10_read 84 = .ok (.imul, 1) := by decide +kernel
theorem dX10_read_85 : decode cX10_read 85 = .ok (.iload 4, 2) := by decide +kernel
theorem dX10_read_87 : decode cX10_read 87 = .ok (.iadd, 1) := by decide +kernel
theorem dX10_read_88 : decode cX10_read 88 = .ok (.laload, 1) := by decide +kernel
theorem dX10_read_89 : decode cX10_read 89 = .ok (.aload_n 0, 1) := by decide +kernel
theorem dX10_read_90 : decode cX10_read 90 = .ok (.invokevirtual 119, 3) := by decide +kernel
theorem dX10_read_93 : decode cX10_read 93 = .ok (.i2l, 1) := by decide +kernel
theorem dX10_read_94 : decode cX10_read 94 = .ok (.lcmp, 1) := by decide +kernel
theorem dX10_read_95 : decode cX10_read 95 = .ok (.ifCond .ne 7, 3) := by decide +kernel
theorem dX10_read_98 : decode cX10_read 98 = .ok (.iconst 0, 1) := by decide +kernel
theorem dX10_read_99 : decode cX10_read 99 = .ok (.goto 7, 3) := by decide +kernel
theorem dX10_read_102 : decode cX10_read 102 = .ok (.iload 4, 2) := by decide +kernel
theorem dX10_read_104 : decode cX10_read 104 = .ok (.iconst 1, 1) := by decide +kernel
theorem dX10_read_105 : decode cX10_read 105 = .ok (.iadd, 1) := by decide +kernel
theorem dX10_read_106 : decode cX10_read 106 = .ok (.istore_n 3, 1) := by decide +kernel
theorem dX10_read_107 : decode cX10_read 107 = .ok (.aload_n 0, 1) := by decide +kernel
theorem dX10_read_108 : decode cX10_read 108 = .ok (.invokevirtual 132, 3) := by decide +kernel
theorem dX10_read_111 : decode cX10_read 111 = .ok (.iinc 4 1, 3) := by decide +kernel
theorem dX10_read_114 : decode cX10_read 114 = .ok (.goto (-52), 3) := by decide +kernel
theorem dX10_read_117 : decode cX10_read 117 = .ok (.aload_n 0, 1) := by decide +kernel
theorem dX10_read_118 : decode cX10_read 118 = .ok (.iconst 0, 1) := by decide +kernel
theorem dX10_read_119 : decode cX10_read 119 = .ok (.putfield 39, 3) := by decide +kernel
theorem dX10_read_122 : decode cX10_read 122 = .ok (.iload_n 3, 1) := by decide +kernel
theorem dX10_read_123 : decode cX10_read 123 = .ok (.ireturn, 1) := by decide +kernel
theorem dX10_moveAll_0 : decode cX10_moveAll 0 = .ok (.iconst 0, 1) := by decide +kernel
theorem dX10_moveAll_1 : decode cX10_moveAll 1 = .ok (.istore_n 3, 1) := by decide +kernel
theorem dX10_moveAll_2 : decode cX10_moveAll 2 = .ok (.iload_n 3, 1) := by decide +kernel
theorem dX10_moveAll_3 : decode cX10_moveAll 3 = .ok (.sipush 255, 3) := by decide +kernel
theorem dX10_moveAll_6 : decode cX10_moveAll 6 = .ok (.if_icmp .ge 34, 3) := by decide +kernel
theorem dX10_moveAll_9 : decode cX10_moveAll 9 = .ok (.iload_n 1, 1) := by decide +kernel
theorem dX10_moveAll_10 : decode cX10_moveAll 10 = .ok (.ifCond .eq 15, 3) := by decide +kernel
theorem dX10_moveAll_13 : decode cX10_moveAll 13 = .ok (.aload_n 2, 1) := by decide +kernel
theorem dX10_moveAll_14 : decode cX10_moveAll 14 = .ok (.iload_n 3, 1) := by decide +kernel
theorem dX10_moveAll_15 : decode cX10_moveAll 15 = .ok (.aload_n 0, 1) := by decide +kernel
theorem dX10_moveAll_16 : decode cX10_moveAll 16 = .ok (.getfield 7, 3) := by decide +kernel
theorem dX10_moveAll_19 : decode cX10_moveAll 19 = .ok (.iload_n 3, 1) := by decide +kernel
theorem dX10_moveAll_20 : decode cX10_moveAll 20 = .ok (.iaload, 1) := by decide +kernel
theorem dX10_moveAll_21 : decode cX10_moveAll 21 = .ok (.iastore, 1) := by decide +kernel
theorem dX10_moveAll_22 : decode cX10_moveAll 22 = .ok (.goto 12, 3) := by decide +kernel
theorem dX10_moveAll_25 : decode cX10_moveAll 25 = .ok (.aload_n 0, 1) := by decide +kernel
theorem dX10_moveAll_26 : decode cX10_moveAll 26 = .ok (.getfield 7, 3) := by decide +kernel
theorem dX10_moveAll_29 : decode cX10_moveAll 29 = .ok (.iload_n 3, 1) := by decide +kernel
theorem dX10_moveAll_30 : decode cX10_moveAll 30 = .ok (.aload_n 2, 1) := by decide +kernel
theorem dX10_moveAll_31 : decode cX10_moveAll 31 = .ok (.iload_n 3, 1) := by decide +kernel
theorem dX10_moveAll_32 : decode cX10_moveAll 32 = .ok (.iaload, 1) := by decide +kernel
theorem dX10_moveAll_33 : decode cX10_moveAll 33 = .ok (.iastore, 1) := by decide +kernel
theorem dX10_moveAll_34 : decode cX10_moveAll 34 = .ok (.iinc 3 1, 3) := by decide +kernel
theorem dX10_moveAll_37 : decode cX10_moveAll 37 = .ok (.goto (-35), 3) := by decide +kernel
theorem dX10_moveAll_40 : decode cX10_moveAll 40 = .ok (.return_, 1) := by decide +kernel
theorem dX10_image_0 : decode cX10_image 0 = .ok (.aload_n 0, 1) := by decide +kernel
theorem dX10_image_1 : decode cX10_image 1 = .ok (.iconst 1, 1) := by decide +kernel
theorem dX10_image_2 : decode cX10_image 2 = .ok (.aload_n 0, 1) := by decide +kernel
theorem dX10_image_3 : decode cX10_image 3 = .ok (.getfield 32, 3) := by decide +kernel
theorem dX10_image_6 : decode cX10_image 6 = .ok (.invokevirtual 249, 3) := by decide +kernel
theorem dX10_image_9 : decode cX10_image 9 = .ok (.aload_n 0, 1) := by decide +kernel
theorem dX10_image_10 : decode cX10_image 10 = .ok (.iconst 1, 1) := by decide +kernel
theorem dX10_image_11 : decode cX10_image 11 = .ok (.putfield 269, 3) := by decide +kernel
theorem dX10_image_14 : decode cX10_image 14 = .ok (.iconst 1, 1) := by decide +kernel
theorem dX10_image_15 : decode cX10_image 15 = .ok (.ireturn, 1) := by decide +kernel
theorem dX10_undo_0 : decode cX10_undo 0 = .ok (.aload_n 0, 1) := by decide +kernel
theorem dX10_undo_1 : decode cX10_undo 1 = .ok (.getfield 269, 3) := by decide +kernel
theorem dX10_undo_4 : decode cX10_undo 4 = .ok (.ifCond .ne 10, 3) := by decide +kernel
theorem dX10_undo_7 : decode cX10_undo 7 = .ok (.aload_n 0, 1) := by decide +kernel
theorem dX10_undo_8 : decode cX10_undo 8 = .ok (.ldc 147, 2) := by decide +kernel
theorem dX10_undo_10 : decode cX10_undo 10 = .ok (.invokevirtual 63, 3) := by decide +kernel
theorem dX10_undo_13 : decode cX10_undo 13 = .ok (.ireturn, 1) := by decide +kernel
theorem dX10_undo_14 : decode cX10_undo 14 = .ok (.aload_n 0, 1) := by decide +kernel
theorem dX10_undo_15 : decode cX10_undo 15 = .ok (.iconst 0, 1) := by decide +kernel
theorem dX10_undo_16 : decode cX10_undo 16 = .ok (.aload_n 0, 1) := by decide +kernel
theorem dX10_undo_17 : decode cX10_undo 17 = .ok (.getfield 32, 3) := by decide +kernel
theorem dX10_undo_20 : decode cX10_undo 20 = .ok (.invokevirtual 249, 3) := by decide +kernel
theorem dX10_undo_23 : decode cX10_undo 23 = .ok (.aload_n 0, 1) := by decide +kernel
theorem dX10_undo_24 : decode cX10_undo 24 = .ok (.getfield 7, 3) := by decide +kernel
theorem dX10_undo_27 : decode cX10_undo 27 = .ok (.iconst 4, 1) := by decide +kernel
theorem dX10_undo_28 : decode cX10_undo 28 = .ok (.iaload, 1) := by decide +kernel
theorem dX10_undo_29 : decode cX10_undo 29 = .ok (.ireturn, 1) := by decide +kernel
theorem dX10_tear_0 : decode cX10_tear 0 = .ok (.aload_n 0, 1) := by decide +kernel
theorem dX10_tear_1 : decode cX10_tear 1 = .ok (.getfield 269, 3) := by decide +kernel
theorem dX10_tear_4 : decode cX10_tear 4 = .ok (.ifCond .eq 7, 3) := by decide +kernel
theorem dX10_tear_7 : decode cX10_tear 7 = .ok (.iconst 1, 1) := by decide +kernel
theorem dX10_tear_8 : decode cX10_tear 8 = .ok (.goto 4, 3) := by decide +kernel
theorem dX10_tear_11 : decode cX10_tear 11 = .ok (.iconst 0, 1) := by decide +kernel
theorem dX10_tear_12 : decode cX10_tear 12 = .ok (.istore_n 1, 1) := by decide +kernel
theorem dX10_tear_13 : decode cX10_tear 13 = .ok (.aload_n 0, 1) := by decide +kernel
theorem dX10_tear_14 : decode cX10_tear 14 = .ok (.iconst 0, 1) := by decide +kernel
theorem dX10_tear_15 : decode cX10_tear 15 = .ok (.putfield 269, 3) := by decide +kernel
theorem dX10_tear_18 : decode cX10_tear 18 = .ok (.iload_n 1, 1) := by decide +kernel
theorem dX10_tear_19 : decode cX10_tear 19 = .ok (.ireturn, 1) := by decide +kernel
theorem dX10_count_0 : decode cX10_count 0 = .ok (.iconst 0, 1) := by decide +kernel
theorem dX10_count_1 : decode cX10_count 1 = .ok (.istore_n 2, 1) := by decide +kernel
theorem dX10_count_2 : decode cX10_count 2 = .ok (.iload_n 1, 1) := by decide +kernel
theorem dX10_count_3 : decode cX10_count 3 = .ok (.tableswitch 88 0 3 #[29, 36, 41, 81], 29) := by decide +kernel
theorem dX10_count_32 : decode cX10_count 32 = .ok (.aload_n 0, 1) := by decide +kernel
theorem dX10_count_33 : decode cX10_count 33 = .ok (.getfield 7, 3) := by decide +kernel
theorem dX10_count_36 : decode cX10_count 36 = .ok (.iconst 4, 1) := by decide +kernel
theorem dX10_count_37 : decode cX10_count 37 = .ok (.iaload, 1) := by decide +kernel
theorem dX10_count_38 : decode cX10_count 38 = .ok (.ireturn, 1) := by decide +kernel
theorem dX10_count_39 : decode cX10_count 39 = .ok (.aload_n 0, 1) := by decide +kernel
theorem dX10_count_40 : decode cX10_count 40 = .ok (.getfield 154, 3) := by decide +kernel
theorem dX10_count_43 : decode cX10_count 43 = .ok (.ireturn, 1) := by decide +kernel
theorem dX10_count_44 : decode cX10_count 44 = .ok (.iconst 0, 1) := by decide +kernel
theorem dX10_count_45 : decode cX10_count 45 = .ok (.istore_n 3, 1) := by decide +kernel
theorem dX10_count_46 : decode cX10_count 46 = .ok (.iload_n 3, 1) := by decide +kernel
theorem dX10_count_47 : decode cX10_count 47 = .ok (.bipush 40, 2) := by decide +kernel
theorem dX10_count_49 : decode cX10_count 49 = .ok (.if_icmp .ge 33, 3) := by decide +kernel
theorem dX10_count_52 : decode cX10_count 52 = .ok (.iload_n 2, 1) := by decide +kernel
theorem dX10_count_53 : decode cX10_count 53 = .ok (.aload_n 0, 1) := by decide +kernel
theorem dX10_count_54 : decode cX10_count 54 = .ok (.iload_n 3, 1) := by decide +kernel
theorem dX10_count_55 : decode cX10_count 55 = .ok (.invokevirtual 78, 3) := by decide +kernel
theorem dX10_count_58 : decode cX10_count 58 = .ok (.ifCond .eq 15, 3) := by decide +kernel
theorem dX10_count_61 : decode cX10_count 61 = .ok (.aload_n 0, 1) := by decide +kernel
theorem dX10_count_62 : decode cX10_count 62 = .ok (.getfield 7, 3) := by decide +kernel
theorem dX10_count_65 : decode cX10_count 65 = .ok (.bipush 85, 2) := by decide +kernel
theorem dX10_count_67 : decode cX10_count 67 = .ok (.iload_n 3, 1) := by decide +kernel
theorem dX10_count_68 : decode cX10_count 68 = .ok (.iadd, 1) := by decide +kernel
theorem dX10_count_69 : decode cX10_count 69 = .ok (.iaload, 1) := by decide +kernel
theorem dX10_count_70 : decode cX10_count 70 = .ok (.goto 4, 3) := by decide +kernel
theorem dX10_count_73 : decode cX10_count 73 = .ok (.iconst 0, 1) := by decide +kernel
theorem dX10_count_74 : decode cX10_count 74 = .ok (.iadd, 1) := by decide +kernel
theorem dX10_count_75 : decode cX10_count 75 = .ok (.istore_n 2, 1) := by decide +kernel
theorem dX10_count_76 : decode cX10_count 76 = .ok (.iinc 3 1, 3) := by decide +kernel
theorem dX10_count_79 : decode cX10_count 79 = .ok (.goto (-33), 3) := by decide +kernel
theorem dX10_count_82 : decode cX10_count 82 = .ok (.iload_n 2, 1) := by decide +kernel
theorem dX10_count_83 : decode cX10_count 83 = .ok (.ireturn, 1) := by decide +kernel
theorem dX10_count_84 : decode cX10_count 84 = .ok (.aload_n 0, 1) := by decide +kernel
theorem dX10_count_85 : decode cX10_count 85 = .ok (.getfield 7, 3) := by decide +kernel
theorem dX10_count_88 : decode cX10_count 88 = .ok (.iconst 3, 1) := by decide +kernel
theorem dX10_count_89 : decode cX10_count 89 = .ok (.iaload, 1) := by decide +kernel
theorem dX10_count_90 : decode cX10_count 90 = .ok (.ireturn, 1) := by decide +kernel
theorem dX10_count_91 : decode cX10_count 91 = .ok (.aload_n 0, 1) := by decide +kernel
theorem dX10_count_92 : decode cX10_count 92 = .ok (.ldc 38, 2) := by decide +kernel
theorem dX10_count_94 : decode cX10_count 94 = .ok (.invokevirtual 63, 3) := by decide +kernel
theorem dX10_count_97 : decode cX10_count 97 = .ok (.ireturn, 1) := by decide +kernel
theorem dX10_status_0 : decode cX10_status 0 = .ok (.iload_n 1, 1) := by decide +kernel
theorem dX10_status_1 : decode cX10_status 1 = .ok (.iconst (-1), 1) := by decide +kernel
theorem dX10_status_2 : decode cX10_status 2 = .ok (.bipush 6, 2) := by decide +kernel
theorem dX10_status_4 : decode cX10_status 4 = .ok (.invokestatic 47, 3) := by decide +kernel
theorem dX10_status_7 : decode cX10_status 7 = .ok (.ifCond .ne 10, 3) := by decide +kernel
theorem dX10_status_10 : decode cX10_status 10 = .ok (.aload_n 0, 1) := by decide +kernel
theorem dX10_status_11 : decode cX10_status 11 = .ok (.ldc 38, 2) := by decide +kernel
theorem dX10_status_13 : decode cX10_status 13 = .ok (.invokevirtual 63, 3) := by decide +kernel
theorem dX10_status_16 : decode cX10_status 16 = .ok (.ireturn, 1) := by decide +kernel
theorem dX10_status_17 : decode cX10_status 17 = .ok (.iconst 0, 1) := by decide +kernel
theorem dX10_status_18 : decode cX10_status 18 = .ok (.istore_n 2, 1) := by decide +kernel
theorem dX10_status_19 : decode cX10_status 19 = .ok (.iconst 0, 1) := by decide +kernel
theorem dX10_status_20 : decode cX10_status 20 = .ok (.istore_n 3, 1) := by decide +kernel
theorem dX10_status_21 : decode cX10_status 21 = .ok (.iload_n 3, 1) := by decide +kernel
theorem dX10_status_22 : decode cX10_status 22 = .ok (.bipush 7, 2) := by decide +kernel
theorem dX10_status_24 : decode cX10_status 24 = .ok (.if_icmp .ge 18, 3) := by decide +kernel
theorem dX10_status_27 : decode cX10_status 27 = .ok (.iload_n 2, 1) := by decide +kernel
theorem dX10_status_28 : decode cX10_status 28 = .ok (.aload_n 0, 1) := by decide +kernel
theorem dX10_status_29 : decode cX10_status 29 = .ok (.getfield 13, 3) := by decide +kernel
theorem dX10_status_32 : decode cX10_status 32 = .ok (.iload_n 3, 1) := by decide +kernel
theorem dX10_status_33 : decode cX10_status 33 = .ok (.iaload, 1) := by decide +kernel
theorem dX10_status_34 : decode cX10_status 34 = .ok (.iadd, 1) := by decide +kernel
theorem dX10_status_35 : decode cX10_status 35 = .ok (.istore_n 2, 1) := by decide +kernel
theorem dX10_status_36 : decode cX10_status 36 = .ok (.iinc 3 1, 3) := by decide +kernel
theorem dX10_status_39 : decode cX10_status 39 = .ok (.goto (-18), 3) := by decide +kernel
theorem dX10_status_42 : decode cX10_status 42 = .ok (.iload_n 1, 1) := by decide +kernel
theorem dX10_status_43 : decode cX10_status 43 = .ok (.ifCond .ge 7, 3) := by decide +kernel
theorem dX10_status_46 : decode cX10_status 46 = .ok (.iload_n 2, 1) := by decide +kernel
theorem dX10_status_47 : decode cX10_status 47 = .ok (.goto 17, 3) := by decide +kernel
theorem dX10_status_50 : decode cX10_status 50 = .ok (.aload_n 0, 1) := by decide +kernel
theorem dX10_status_51 : decode cX10_status 51 = .ok (.getfield 13, 3) := by decide +kernel
theorem dX10_status_54 : decode cX10_status 54 = .ok (.iload_n 1, 1) := by decide +kernel
theorem dX10_status_55 : decode cX10_status 55 = .ok (.ifCond .ge 7, 3) := by decide +kernel
theorem dX10_status_58 : decode cX10_status 58 = .ok (.iconst 0, 1) := by decide +kernel
theorem dX10_status_59 : decode cX10_status 59 = .ok (.goto 4, 3) := by decide +kernel
theorem dX10_status_62 : decode cX10_status 62 = .ok (.iload_n 1, 1) := by decide +kernel
theorem dX10_status_63 : decode cX10_status 63 = .ok (.iaload, 1) := by decide +kernel
theorem dX10_status_64 : decode cX10_status 64 = .ok (.ireturn, 1) := by decide +kernel
theorem dJ13_bitCount_95d88_0 : decode cJ13_bitCount_95d88 0 = .ok (.lload_n 0, 1) := by decide +kernel
theorem dJ13_bitCount_95d88_1 : decode cJ13_bitCount_95d88 1 = .ok (.lload_n 0, 1) := by decide +kernel
theorem dJ13_bitCount_95d88_2 : decode cJ13_bitCount_95d88 2 = .ok (.iconst 1, 1) := by decide +kernel
theorem dJ13_bitCount_95d88_3 : decode cJ13_bitCount_95d88 3 = .ok (.lushr, 1) := by decide +kernel
theorem dJ13_bitCount_95d88_4 : decode cJ13_bitCount_95d88 4 = .ok (.ldc2_w 314, 3) := by decide +kernel
theorem dJ13_bitCount_95d88_7 : decode cJ13_bitCount_95d88 7 = .ok (.land, 1) := by decide +kernel
theorem dJ13_bitCount_95d88_8 : decode cJ13_bitCount_95d88 8 = .ok (.lsub, 1) := by decide +kernel
theorem dJ13_bitCount_95d88_9 : decode cJ13_bitCount_95d88 9 = .ok (.lstore_n 0, 1) := by decide +kernel
theorem dJ13_bitCount_95d88_10 : decode cJ13_bitCount_95d88 10 = .ok (.lload_n 0, 1) := by decide +kernel
theorem dJ13_bitCount_95d88_11 : decode cJ13_bitCount_95d88 11 = .ok (.ldc2_w 316, 3) := by decide +kernel
theorem dJ13_bitCount_95d88_14 : decode cJ13_bitCount_95d88 14 = .ok (.land, 1) := by decide +kernel
theorem dJ13_bitCount_95d88_15 : decode cJ13_bitCount_95d88 15 = .ok (.lload_n 0, 1) := by decide +kernel
theorem dJ13_bitCount_95d88_16 : decode cJ13_bitCount_95d88 16 = .ok (.iconst 2, 1) := by decide +kernel
theorem dJ13_bitCount_95d88_17 : decode cJ13_bitCount_95d88 17 = .ok (.lushr, 1) := by decide +kernel
theorem dJ13_bitCount_95d88_18 : decode cJ13_bitCount_95d88 18 = .ok (.ldc2_w 316, 3) := by decide +kernel
theorem dJ13_bitCount_95d88_21 : decode cJ13_bitCount_95d88 21 = .ok (.land, 1) := by decide +kernel
theorem dJ13_bitCount_95d88_22 : decode cJ13_bitCount_95d88 22 = .ok (.ladd, 1) := by decide +kernel
theorem dJ13_bitCount_95d88_23 : decode cJ13_bitCount_95d88 23 = .ok (.lstore_n 0, 1) := by decide +kernel
theorem dJ13_bitCount_95d88_24 : decode cJ13_bitCount_95d88 24 = .ok (.lload_n 0, 1) := by decide +kernel
theorem dJ13_bitCount_95d88_25 : decode cJ13_bitCount_95d88 25 = .ok (.lload_n 0, 1) := by decide +kernel
theorem dJ13_bitCount_95d88_26 : decode cJ13_bitCount_95d88 26 = .ok (.iconst 4, 1) := by decide +kernel
theorem dJ13_bitCount_95d88_27 : decode cJ13_bitCount_95d88 27 = .ok (.lushr, 1) := by decide +kernel
theorem dJ13_bitCount_95d88_28 : decode cJ13_bitCount_95d88 28 = .ok (.ladd, 1) := by decide +kernel
theorem dJ13_bitCount_95d88_29 : decode cJ13_bitCount_95d88 29 = .ok (.ldc2_w 318, 3) := by decide +kernel
theorem dJ13_bitCount_95d88_32 : decode cJ13_bitCount_95d88 32 = .ok (.land, 1) := by decide +kernel
theorem dJ13_bitCount_95d88_33 : decode cJ13_bitCount_95d88 33 = .ok (.lstore_n 0, 1) := by decide +kernel
theorem dJ13_bitCount_95d88_34 : decode cJ13_bitCount_95d88 34 = .ok (.lload_n 0, 1) := by decide +kernel
theorem dJ13_bitCount_95d88_35 : decode cJ13_bitCount_95d88 35 = .ok (.lload_n 0, 1) := by decide +kernel
theorem dJ13_bitCount_95d88_36 : decode cJ13_bitCount_95d88 36 = .ok (.bipush 8, 2) := by decide +kernel
theorem dJ13_bitCount_95d88_38 : decode cJ13_bitCount_95d88 38 = .ok (.lushr, 1) := by decide +kernel
theorem dJ13_bitCount_95d88_39 : decode cJ13_bitCount_95d88 39 = .ok (.ladd, 1) := by decide +kernel
theorem dJ13_bitCount_95d88_40 : decode cJ13_bitCount_95d88 40 = .ok (.lstore_n 0, 1) := by decide +kernel
theorem dJ13_bitCount_95d88_41 : decode cJ13_bitCount_95d88 41 = .ok (.lload_n 0, 1) := by decide +kernel
theorem dJ13_bitCount_95d88_42 : decode cJ13_bitCount_95d88 42 = .ok (.lload_n 0, 1) := by decide +kernel
theorem dJ13_bitCount_95d88_43 : decode cJ13_bitCount_95d88 43 = .ok (.bipush 16, 2) := by decide +kernel
theorem dJ13_bitCount_95d88_45 : decode cJ13_bitCount_95d88 45 = .ok (.lushr, 1) := by decide +kernel
theorem dJ13_bitCount_95d88_46 : decode cJ13_bitCount_95d88 46 = .ok (.ladd, 1) := by decide +kernel
theorem dJ13_bitCount_95d88_47 : decode cJ13_bitCount_95d88 47 = .ok (.lstore_n 0, 1) := by decide +kernel
theorem dJ13_bitCount_95d88_48 : decode cJ13_bitCount_95d88 48 = .ok (.lload_n 0, 1) := by decide +kernel
theorem dJ13_bitCount_95d88_49 : decode cJ13_bitCount_95d88 49 = .ok (.lload_n 0, 1) := by decide +kernel
theorem dJ13_bitCount_95d88_50 : decode cJ13_bitCount_95d88 50 = .ok (.bipush 32, 2) := by decide +kernel
theorem dJ13_bitCount_95d88_52 : decode cJ13_bitCount_95d88 52 = .ok (.lushr, 1) := by decide +kernel
theorem dJ13_bitCount_95d88_53 : decode cJ13_bitCount_95d88 53 = .ok (.ladd, 1) := by decide +kernel
theorem dJ13_bitCount_95d88_54 : decode cJ13_bitCount_95d88 54 = .ok (.lstore_n 0, 1) := by decide +kernel
theorem dJ13_bitCount_95d88_55 : decode cJ13_bitCount_95d88 55 = .ok (.lload_n 0, 1) := by decide +kernel
theorem dJ13_bitCount_95d88_56 : decode cJ13_bitCount_95d88 56 = .ok (.l2i, 1) := by decide +kernel
theorem dJ13_bitCount_95d88_57 : decode cJ13_bitCount_95d88 57 = .ok (.bipush 127, 2) := by decide +kernel
theorem dJ13_bitCount_95d88_59 : decode cJ13_bitCount_95d88 59 = .ok (.iand, 1) := by decide +kernel
theorem dJ13_bitCount_95d88_60 : decode cJ13_bitCount_95d88 60 = .ok (.ireturn, 1) := by decide +kernel
theorem dJ9_abs_0f7a4_0 : decode cJ9_abs_0f7a4 0 = .ok (.iload_n 0, 1) := by decide +kernel
theorem dJ9_abs_0f7a4_1 : decode cJ9_abs_0f7a4 1 = .ok (.ifCond .ge 8, 3) := by decide +kernel
theorem dJ9_abs_0f7a4_4 : decode cJ9_abs_0f7a4 4 = .ok (.iload_n 0, 1) := by decide +kernel
theorem dJ9_abs_0f7a4_5 : decode cJ9_abs_0f7a4 5 = .ok (.ineg, 1) := by decide +kernel
theorem dJ9_abs_0f7a4_6 : decode cJ9_abs_0f7a4 6 = .ok (.goto 4, 3) := by decide +kernel
theorem dJ9_abs_0f7a4_9 : decode cJ9_abs_0f7a4 9 = .ok (.iload_n 0, 1) := by decide +kernel
theorem dJ9_abs_0f7a4_10 : decode cJ9_abs_0f7a4 10 = .ok (.ireturn, 1) := by decide +kernel
theorem dJ9_max_7cf53_0 : decode cJ9_max_7cf53 0 = .ok (.iload_n 0, 1) := by decide +kernel
theorem dJ9_max_7cf53_1 : decode cJ9_max_7cf53 1 = .ok (.iload_n 1, 1) := by decide +kernel
theorem dJ9_max_7cf53_2 : decode cJ9_max_7cf53 2 = .ok (.if_icmp .lt 7, 3) := by decide +kernel
theorem dJ9_max_7cf53_5 : decode cJ9_max_7cf53 5 = .ok (.iload_n 0, 1) := by decide +kernel
theorem dJ9_max_7cf53_6 : decode cJ9_max_7cf53 6 = .ok (.goto 4, 3) := by decide +kernel
theorem dJ9_max_7cf53_9 : decode cJ9_max_7cf53 9 = .ok (.iload_n 1, 1) := by decide +kernel
theorem dJ9_max_7cf53_10 : decode cJ9_max_7cf53 10 = .ok (.ireturn, 1) := by decide +kernel
theorem dJ9_min_7cf53_0 : decode cJ9_min_7cf53 0 = .ok (.iload_n 0, 1) := by decide +kernel
theorem dJ9_min_7cf53_1 : decode cJ9_min_7cf53 1 = .ok (.iload_n 1, 1) := by decide +kernel
theorem dJ9_min_7cf53_2 : decode cJ9_min_7cf53 2 = .ok (.if_icmp .gt 7, 3) := by decide +kernel
theorem dJ9_min_7cf53_5 : decode cJ9_min_7cf53 5 = .ok (.iload_n 0, 1) := by decide +kernel
theorem dJ9_min_7cf53_6 : decode cJ9_min_7cf53 6 = .ok (.goto 4, 3) := by decide +kernel
theorem dJ9_min_7cf53_9 : decode cJ9_min_7cf53 9 = .ok (.iload_n 1, 1) := by decide +kernel
theorem dJ9_min_7cf53_10 : decode cJ9_min_7cf53 10 = .ok (.ireturn, 1) := by decide +kernel
theorem dJ0_length_8abf5_0 : decode cJ0_length_8abf5 0 = .ok (.aload_n 0, 1) := by decide +kernel
theorem dJ0_length_8abf5_1 : decode cJ0_length_8abf5 1 = .ok (.getfield 9, 3) := by decide +kernel
theorem dJ0_length_8abf5_4 : decode cJ0_length_8abf5 4 = .ok (.arraylength, 1) := by decide +kernel
theorem dJ0_length_8abf5_5 : decode cJ0_length_8abf5 5 = .ok (.aload_n 0, 1) := by decide +kernel
theorem dJ0_length_8abf5_6 : decode cJ0_length_8abf5 6 = .ok (.invokevirtual 335, 3) := by decide +kernel
theorem dJ0_length_8abf5_9 : decode cJ0_length_8abf5 9 = .ok (.ishr, 1) := by decide +kernel
theorem dJ0_length_8abf5_10 : decode cJ0_length_8abf5 10 = .ok (.ireturn, 1) := by decide +kernel
theorem dJ0_charAt_5068e_0 : decode cJ0_charAt_5068e 0 = .ok (.aload_n 0, 1) := by decide +kernel
theorem dJ0_charAt_5068e_1 : decode cJ0_charAt_5068e 1 = .ok (.invokevirtual 492, 3) := by decide +kernel
theorem dJ0_charAt_5068e_4 : decode cJ0_charAt_5068e 4 = .ok (.ifCond .eq 12, 3) := by decide +kernel
theorem dJ0_charAt_5068e_7 : decode cJ0_charAt_5068e 7 = .ok (.aload_n 0, 1) := by decide +kernel
theorem dJ0_charAt_5068e_8 : decode cJ0_charAt_5068e 8 = .ok (.getfield 9, 3) := by decide +kernel
theorem dJ0_charAt_5068e_11 : decode cJ0_charAt_5068e 11 = .ok (.iload_n 1, 1) := by decide +kernel
theorem dJ0_charAt_5068e_12 : decode cJ0_charAt_5068e 12 = .ok (.invokestatic 495, 3) := by decide +kernel
theorem dJ0_charAt_5068e_15 : decode cJ0_charAt_5068e 15 = .ok (.ireturn, 1) := by decide +kernel
theorem dJ0_charAt_5068e_16 : decode cJ0_charAt_5068e 16 = .ok (.aload_n 0, 1) := by decide +kernel
theorem dJ0_charAt_5068e_17 : decode cJ0_charAt_5068e 17 = .ok (.getfield 9, 3) := by decide +kernel
theorem dJ0_charAt_5068e_20 : decode cJ0_charAt_5068e 20 = .ok (.iload_n 1, 1) := by decide +kernel
theorem dJ0_charAt_5068e_21 : decode cJ0_charAt_5068e 21 = .ok (.invokestatic 498, 3) := by decide +kernel
theorem dJ0_charAt_5068e_24 : decode cJ0_charAt_5068e 24 = .ok (.ireturn, 1) := by decide +kernel
theorem dJ0_coder_7d493_0 : decode cJ0_coder_7d493 0 = .ok (.getstatic 38, 3) := by decide +kernel
theorem dJ0_coder_7d493_3 : decode cJ0_coder_7d493 3 = .ok (.ifCond .eq 10, 3) := by decide +kernel
theorem dJ0_coder_7d493_6 : decode cJ0_coder_7d493 6 = .ok (.aload_n 0, 1) := by decide +kernel
theorem dJ0_coder_7d493_7 : decode cJ0_coder_7d493 7 = .ok (.getfield 15, 3) := by decide +kernel
theorem dJ0_coder_7d493_10 : decode cJ0_coder_7d493 10 = .ok (.goto 4, 3) := by decide +kernel
theorem dJ0_coder_7d493_13 : decode cJ0_coder_7d493 13 = .ok (.iconst 1, 1) := by decide +kernel
theorem dJ0_coder_7d493_14 : decode cJ0_coder_7d493 14 = .ok (.ireturn, 1) := by decide +kernel
theorem dJ0_isLatin1_aae02_0 : decode cJ0_isLatin1_aae02 0 = .ok (.getstatic 38, 3) := by decide +kernel
theorem dJ0_isLatin1_aae02_3 : decode cJ0_isLatin1_aae02 3 = .ok (.ifCond .eq 14, 3) := by decide +kernel
theorem dJ0_isLatin1_aae02_6 : decode cJ0_isLatin1_aae02 6 = .ok (.aload_n 0, 1) := by decide +kernel
theorem dJ0_isLatin1_aae02_7 : decode cJ0_isLatin1_aae02 7 = .ok (.getfield 15, 3) := by decide +kernel
theorem dJ0_isLatin1_aae02_10 : decode cJ0_isLatin1_aae02 10 = .ok (.ifCond .ne 7, 3) := by decide +kernel
theorem dJ0_isLatin1_aae02_13 : decode cJ0_isLatin1_aae02 13 = .ok (.iconst 1, 1) := by decide +kernel
theorem dJ0_isLatin1_aae02_14 : decode cJ0_isLatin1_aae02 14 = .ok (.goto 4, 3) := by decide +kernel
theorem dJ0_isLatin1_aae02_17 : decode cJ0_isLatin1_aae02 17 = .ok (.iconst 0, 1) := by decide +kernel
theorem dJ0_isLatin1_aae02_18 : decode cJ0_isLatin1_aae02 18 = .ok (.ireturn, 1) := by decide +kernel
theorem dJ0_checkIndex_df160_0 : decode cJ0_checkIndex_df160 0 = .ok (.iload_n 0, 1) := by decide +kernel
theorem dJ0_checkIndex_df160_1 : decode cJ0_checkIndex_df160 1 = .ok (.iload_n 1, 1) := by decide +kernel
theorem dJ0_checkIndex_df160_2 : decode cJ0_checkIndex_df160 2 = .ok (.getstatic 1053, 3) := by decide +kernel
theorem dJ0_checkIndex_df160_5 : decode cJ0_checkIndex_df160 5 = .ok (.invokestatic 1059, 3) := by decide +kernel
theorem dJ0_checkIndex_df160_8 : decode cJ0_checkIndex_df160 8 = .ok (.pop, 1) := by decide +kernel
theorem dJ0_checkIndex_df160_9 : decode cJ0_checkIndex_df160 9 = .ok (.return_, 1) := by decide +kernel
theorem dJ1_charAt_3b067_0 : decode cJ1_charAt_3b067 0 = .ok (.iload_n 1, 1) := by decide +kernel
theorem dJ1_charAt_3b067_1 : decode cJ1_charAt_3b067 1 = .ok (.aload_n 0, 1) := by decide +kernel
theorem dJ1_charAt_3b067_2 : decode cJ1_charAt_3b067 2 = .ok (.arraylength, 1) := by decide +kernel
theorem dJ1_charAt_3b067_3 : decode cJ1_charAt_3b067 3 = .ok (.invokestatic 9, 3) := by decide +kernel
theorem dJ1_charAt_3b067_6 : decode cJ1_charAt_3b067 6 = .ok (.aload_n 0, 1) := by decide +kernel
theorem dJ1_charAt_3b067_7 : decode cJ1_charAt_3b067 7 = .ok (.iload_n 1, 1) := by decide +kernel
theorem dJ1_charAt_3b067_8 : decode cJ1_charAt_3b067 8 = .ok (.baload, 1) := by decide +kernel
theorem dJ1_charAt_3b067_9 : decode cJ1_charAt_3b067 9 = .ok (.sipush 255, 3) := by decide +kernel
theorem dJ1_charAt_3b067_12 : decode cJ1_charAt_3b067 12 = .ok (.iand, 1) := by decide +kernel
theorem dJ1_charAt_3b067_13 : decode cJ1_charAt_3b067 13 = .ok (.i2c, 1) := by decide +kernel
theorem dJ1_charAt_3b067_14 : decode cJ1_charAt_3b067 14 = .ok (.ireturn, 1) := by decide +kernel
theorem dJ2_getChar_3b067_0 : decode cJ2_getChar_3b067 0 = .ok (.getstatic 44, 3) := by decide +kernel
theorem dJ2_getChar_3b067_3 : decode cJ2_getChar_3b067 3 = .ok (.ifCond .ne 25, 3) := by decide +kernel
theorem dJ2_getChar_3b067_6 : decode cJ2_getChar_3b067 6 = .ok (.iload_n 1, 1) := by decide +kernel
theorem dJ2_getChar_3b067_7 : decode cJ2_getChar_3b067 7 = .ok (.ifCond .lt 11, 3) := by decide +kernel
theorem dJ2_getChar_3b067_10 : decode cJ2_getChar_3b067 10 = .ok (.iload_n 1, 1) := by decide +kernel
theorem dJ2_getChar_3b067_11 : decode cJ2_getChar_3b067 11 = .ok (.aload_n 0, 1) := by decide +kernel
theorem dJ2_getChar_3b067_12 : decode cJ2_getChar_3b067 12 = .ok (.invokestatic 48, 3) := by decide +kernel
theorem dJ2_getChar_3b067_15 : decode cJ2_getChar_3b067 15 = .ok (.if_icmp .lt 13, 3) := by decide +kernel
theorem dJ2_getChar_3b067_18 : decode cJ2_getChar_3b067 18 = .ok (.new 52, 3) := by decide +kernel
theorem dJ2_getChar_3b067_21 : decode cJ2_getChar_3b067 21 = .ok (.dup, 1) := by decide +kernel
theorem dJ2_getChar_3b067_22 : decode cJ2_getChar_3b067 22 = .ok (.ldc 54, 2) := by decide +kernel
theorem dJ2_getChar_3b067_24 : decode cJ2_getChar_3b067 24 = .ok (.invokespecial 56, 3) := by decide +kernel
theorem dJ2_getChar_3b067_27 : decode cJ2_getChar_3b067 27 = .ok (.athrow, 1) := by decide +kernel
theorem dJ2_getChar_3b067_28 : decode cJ2_getChar_3b067 28 = .ok (.iload_n 1, 1) := by decide +kernel
theorem dJ2_getChar_3b067_29 : decode cJ2_getChar_3b067 29 = .ok (.iconst 1, 1) := by decide +kernel
theorem dJ2_getChar_3b067_30 : decode cJ2_getChar_3b067 30 = .ok (.ishl, 1) := by decide +kernel
theorem dJ2_getChar_3b067_31 : decode cJ2_getChar_3b067 31 = .ok (.istore_n 1, 1) := by decide +kernel
theorem dJ2_getChar_3b067_32 : decode cJ2_getChar_3b067 32 = .ok (.aload_n 0, 1) := by decide +kernel
theorem dJ2_getChar_3b067_33 : decode cJ2_getChar_3b067 33 = .ok (.iload_n 1, 1) := by decide +kernel
theorem dJ2_getChar_3b067_34 : decode cJ2_getChar_3b067 34 = .ok (.iinc 1 1, 3) := by decide +kernel
theorem dJ2_getChar_3b067_37 : decode cJ2_getChar_3b067 37 = .ok (.baload, 1) := by decide +kernel
theorem dJ2_getChar_3b067_38 : decode cJ2_getChar_3b067 38 = .ok (.sipush 255, 3) := by decide +kernel
theorem dJ2_getChar_3b067_41 : decode cJ2_getChar_3b067 41 = .ok (.iand, 1) := by decide +kernel
theorem dJ2_getChar_3b067_42 : decode cJ2_getChar_3b067 42 = .ok (.getstatic 59, 3) := by decide +kernel
theorem dJ2_getChar_3b067_45 : decode cJ2_getChar_3b067 45 = .ok (.ishl, 1) := by decide +kernel
theorem dJ2_getChar_3b067_46 : decode cJ2_getChar_3b067 46 = .ok (.aload_n 0, 1) := by decide +kernel
theorem dJ2_getChar_3b067_47 : decode cJ2_getChar_3b067 47 = .ok (.iload_n 1, 1) := by decide +kernel
theorem dJ2_getChar_3b067_48 : decode cJ2_getChar_3b067 48 = .ok (.baload, 1) := by decide +kernel
theorem dJ2_getChar_3b067_49 : decode cJ2_getChar_3b067 49 = .ok (.sipush 255, 3) := by decide +kernel
theorem dJ2_getChar_3b067_52 : decode cJ2_getChar_3b067 52 = .ok (.iand, 1) := by decide +kernel
theorem dJ2_getChar_3b067_53 : decode cJ2_getChar_3b067 53 = .ok (.getstatic 63, 3) := by decide +kernel
theorem dJ2_getChar_3b067_56 : decode cJ2_getChar_3b067 56 = .ok (.ishl, 1) := by decide +kernel
theorem dJ2_getChar_3b067_57 : decode cJ2_getChar_3b067 57 = .ok (.ior, 1) := by decide +kernel
theorem dJ2_getChar_3b067_58 : decode cJ2_getChar_3b067 58 = .ok (.i2c, 1) := by decide +kernel
theorem dJ2_getChar_3b067_59 : decode cJ2_getChar_3b067 59 = .ok (.ireturn, 1) := by decide +kernel
theorem dJ2_length_9d52b_0 : decode cJ2_length_9d52b 0 = .ok (.aload_n 0, 1) := by decide +kernel
theorem dJ2_length_9d52b_1 : decode cJ2_length_9d52b 1 = .ok (.arraylength, 1) := by decide +kernel
theorem dJ2_length_9d52b_2 : decode cJ2_length_9d52b 2 = .ok (.iconst 1, 1) := by decide +kernel
theorem dJ2_length_9d52b_3 : decode cJ2_length_9d52b 3 = .ok (.ishr, 1) := by decide +kernel
theorem dJ2_length_9d52b_4 : decode cJ2_length_9d52b 4 = .ok (.ireturn, 1) := by decide +kernel
theorem dJ2_charAt_3b067_0 : decode cJ2_charAt_3b067 0 = .ok (.iload_n 1, 1) := by decide +kernel
theorem dJ2_charAt_3b067_1 : decode cJ2_charAt_3b067 1 = .ok (.aload_n 0, 1) := by decide +kernel
theorem dJ2_charAt_3b067_2 : decode cJ2_charAt_3b067 2 = .ok (.invokestatic 67, 3) := by decide +kernel
theorem dJ2_charAt_3b067_5 : decode cJ2_charAt_3b067 5 = .ok (.aload_n 0, 1) := by decide +kernel
theorem dJ2_charAt_3b067_6 : decode cJ2_charAt_3b067 6 = .ok (.iload_n 1, 1) := by decide +kernel
theorem dJ2_charAt_3b067_7 : decode cJ2_charAt_3b067 7 = .ok (.invokestatic 71, 3) := by decide +kernel
theorem dJ2_charAt_3b067_10 : decode cJ2_charAt_3b067 10 = .ok (.ireturn, 1) := by decide +kernel
theorem dJ2_checkIndex_2214a_0 : decode cJ2_checkIndex_2214a 0 = .ok (.iload_n 0, 1) := by decide +kernel
theorem dJ2_checkIndex_2214a_1 : decode cJ2_checkIndex_2214a 1 = .ok (.aload_n 1, 1) := by decide +kernel
theorem dJ2_checkIndex_2214a_2 : decode cJ2_checkIndex_2214a 2 = .ok (.invokestatic 48, 3) := by decide +kernel
theorem dJ2_checkIndex_2214a_5 : decode cJ2_checkIndex_2214a 5 = .ok (.invokestatic 414, 3) := by decide +kernel
theorem dJ2_checkIndex_2214a_8 : decode cJ2_checkIndex_2214a 8 = .ok (.return_, 1) := by decide +kernel
theorem dJ7_fill_d0a16_0 : decode cJ7_fill_d0a16 0 = .ok (.iconst 0, 1) := by decide +kernel
theorem dJ7_fill_d0a16_1 : decode cJ7_fill_d0a16 1 = .ok (.istore_n 3, 1) := by decide +kernel
theorem dJ7_fill_d0a16_2 : decode cJ7_fill_d0a16 2 = .ok (.aload_n 0, 1) := by decide +kernel
theorem dJ7_fill_d0a16_3 : decode cJ7_fill_d0a16 3 = .ok (.arraylength, 1) := by decide +kernel
theorem dJ7_fill_d0a16_4 : decode cJ7_fill_d0a16 4 = .ok (.istore 4, 2) := by decide +kernel
theorem dJ7_fill_d0a16_6 : decode cJ7_fill_d0a16 6 = .ok (.iload_n 3, 1) := by decide +kernel
theorem dJ7_fill_d0a16_7 : decode cJ7_fill_d0a16 7 = .ok (.iload 4, 2) := by decide +kernel
theorem dJ7_fill_d0a16_9 : decode cJ7_fill_d0a16 9 = .ok (.if_icmp .ge 13, 3) := by decide +kernel
theorem dJ7_fill_d0a16_12 : decode cJ7_fill_d0a16 12 = .ok (.aload_n 0, 1) := by decide +kernel
theorem dJ7_fill_d0a16_13 : decode cJ7_fill_d0a16 13 = .ok (.iload_n 3, 1) := by decide +kernel
theorem dJ7_fill_d0a16_14 : decode cJ7_fill_d0a16 14 = .ok (.lload_n 1, 1) := by decide +kernel
theorem dJ7_fill_d0a16_15 : decode cJ7_fill_d0a16 15 = .ok (.lastore, 1) := by decide +kernel
theorem dJ7_fill_d0a16_16 : decode cJ7_fill_d0a16 16 = .ok (.iinc 3 1, 3) := by decide +kernel
theorem dJ7_fill_d0a16_19 : decode cJ7_fill_d0a16 19 = .ok (.goto (-13), 3) := by decide +kernel
theorem dJ7_fill_d0a16_22 : decode cJ7_fill_d0a16 22 = .ok (.return_, 1) := by decide +kernel
theorem dJ7_fill_53178_0 : decode cJ7_fill_53178 0 = .ok (.iconst 0, 1) := by decide +kernel
theorem dJ7_fill_53178_1 : decode cJ7_fill_53178 1 = .ok (.istore_n 2, 1) := by decide +kernel
theorem dJ7_fill_53178_2 : decode cJ7_fill_53178 2 = .ok (.aload_n 0, 1) := by decide +kernel
theorem dJ7_fill_53178_3 : decode cJ7_fill_53178 3 = .ok (.arraylength, 1) := by decide +kernel
theorem dJ7_fill_53178_4 : decode cJ7_fill_53178 4 = .ok (.istore_n 3, 1) := by decide +kernel
theorem dJ7_fill_53178_5 : decode cJ7_fill_53178 5 = .ok (.iload_n 2, 1) := by decide +kernel
theorem dJ7_fill_53178_6 : decode cJ7_fill_53178 6 = .ok (.iload_n 3, 1) := by decide +kernel
theorem dJ7_fill_53178_7 : decode cJ7_fill_53178 7 = .ok (.if_icmp .ge 13, 3) := by decide +kernel
theorem dJ7_fill_53178_10 : decode cJ7_fill_53178 10 = .ok (.aload_n 0, 1) := by decide +kernel
theorem dJ7_fill_53178_11 : decode cJ7_fill_53178 11 = .ok (.iload_n 2, 1) := by decide +kernel
theorem dJ7_fill_53178_12 : decode cJ7_fill_53178 12 = .ok (.iload_n 1, 1) := by decide +kernel
theorem dJ7_fill_53178_13 : decode cJ7_fill_53178 13 = .ok (.iastore, 1) := by decide +kernel
theorem dJ7_fill_53178_14 : decode cJ7_fill_53178 14 = .ok (.iinc 2 1, 3) := by decide +kernel
theorem dJ7_fill_53178_17 : decode cJ7_fill_53178 17 = .ok (.goto (-12), 3) := by decide +kernel
theorem dJ7_fill_53178_20 : decode cJ7_fill_53178 20 = .ok (.return_, 1) := by decide +kernel
theorem dJ3_checkIndex_8e157_0 : decode cJ3_checkIndex_8e157 0 = .ok (.iload_n 0, 1) := by decide +kernel
theorem dJ3_checkIndex_8e157_1 : decode cJ3_checkIndex_8e157 1 = .ok (.ifCond .lt 8, 3) := by decide +kernel
theorem dJ3_checkIndex_8e157_4 : decode cJ3_checkIndex_8e157 4 = .ok (.iload_n 0, 1) := by decide +kernel
theorem dJ3_checkIndex_8e157_5 : decode cJ3_checkIndex_8e157 5 = .ok (.iload_n 1, 1) := by decide +kernel
theorem dJ3_checkIndex_8e157_6 : decode cJ3_checkIndex_8e157 6 = .ok (.if_icmp .lt 10, 3) := by decide +kernel
theorem dJ3_checkIndex_8e157_9 : decode cJ3_checkIndex_8e157 9 = .ok (.aload_n 2, 1) := by decide +kernel
theorem dJ3_checkIndex_8e157_10 : decode cJ3_checkIndex_8e157 10 = .ok (.iload_n 0, 1) := by decide +kernel
theorem dJ3_checkIndex_8e157_11 : decode cJ3_checkIndex_8e157 11 = .ok (.iload_n 1, 1) := by decide +kernel
theorem dJ3_checkIndex_8e157_12 : decode cJ3_checkIndex_8e157 12 = .ok (.invokestatic 95, 3) := by decide +kernel
theorem dJ3_checkIndex_8e157_15 : decode cJ3_checkIndex_8e157 15 = .ok (.athrow, 1) := by decide +kernel
theorem dJ3_checkIndex_8e157_16 : decode cJ3_checkIndex_8e157 16 = .ok (.iload_n 0, 1) := by decide +kernel
theorem dJ3_checkIndex_8e157_17 : decode cJ3_checkIndex_8e157 17 = .ok (.ireturn, 1) := by decide +kernel
theorem dL_law_0 : decode cL_law 0 = .ok (.new 7, 3) := by decide +kernel
theorem dL_law_3 : decode cL_law 3 = .ok (.dup, 1) := by decide +kernel
theorem dL_law_4 : decode cL_law 4 = .ok (.invokespecial 9, 3) := by decide +kernel
theorem dL_law_7 : decode cL_law 7 = .ok (.astore_n 1, 1) := by decide +kernel
theorem dL_law_8 : decode cL_law 8 = .ok (.new 10, 3) := by decide +kernel
theorem dL_law_11 : decode cL_law 11 = .ok (.dup, 1) := by decide +kernel
theorem dL_law_12 : decode cL_law 12 = .ok (.invokespecial 12, 3) := by decide +kernel
theorem dL_law_15 : decode cL_law 15 = .ok (.astore_n 2, 1) := by decide +kernel
theorem dL_law_16 : decode cL_law 16 = .ok (.iconst 0, 1) := by decide +kernel
theorem dL_law_17 : decode cL_law 17 = .ok (.istore_n 3, 1) := by decide +kernel
theorem dL_law_18 : decode cL_law 18 = .ok (.iload_n 3, 1) := by decide +kernel
theorem dL_law_19 : decode cL_law 19 = .ok (.aload_n 0, 1) := by decide +kernel
theorem dL_law_20 : decode cL_law 20 = .ok (.arraylength, 1) := by decide +kernel
theorem dL_law_21 : decode cL_law 21 = .ok (.bipush 6, 2) := by decide +kernel
theorem dL_law_23 : decode cL_law 23 = .ok (.isub, 1) := by decide +kernel
theorem dL_law_24 : decode cL_law 24 = .ok (.if_icmp .gt 1381, 3) := by decide +kernel
theorem dL_law_27 : decode cL_law 27 = .ok (.aload_n 0, 1) := by decide +kernel
theorem dL_law_28 : decode cL_law 28 = .ok (.iload_n 3, 1) := by decide +kernel
theorem dL_law_29 : decode cL_law 29 = .ok (.iaload, 1) := by decide +kernel
theorem dL_law_30 : decode cL_law 30 = .ok (.bipush 63, 2) := by decide +kernel
theorem dL_law_32 : decode cL_law 32 = .ok (.iand, 1) := by decide +kernel
theorem dL_law_33 : decode cL_law 33 = .ok (.tableswitch 1366 0 42 #[187, 220, 253, 296, 329, 372, 405, 438, 471, 485, 544, 557, 571, 594, 617, 640, 664, 687, 700, 723, 746, 779, 812, 825, 848, 861, 894, 917, 940, 963, 996, 1009, 1022, 1065, 1139, 1202, 1225, 1258, 1281, 1294, 1307, 1320, 1343], 187) := by decide +kernel
theorem dL_law_220 : decode cL_law 220 = .ok (.aload_n 1, 1) := by decide +kernel
theorem dL_law_221 : decode cL_law 221 = .ok (.aload_n 0, 1) := by decide +kernel
theorem dL_law_222 : decode cL_law 222 = .ok (.iload_n 3, 1) := by decide +kernel
theorem dL_law_223 : decode cL_law 223 = .ok (.iconst 1, 1) := by decide +kernel
theorem dL_law_224 : decode cL_law 224 = .ok (.iadd, 1) := by decide +kernel
theorem dL_law_225 : decode cL_law 225 = .ok (.iaload, 1) := by decide +kernel
theorem dL_law_226 : decode cL_law 226 = .ok (.aload_n 0, 1) := by decide +kernel
theorem dL_law_227 : decode cL_law 227 = .ok (.iload_n 3, 1) := by decide +kernel
theorem dL_law_228 : decode cL_law 228 = .ok (.iconst 2, 1) := by decide +kernel
theorem dL_law_229 : decode cL_law 229 = .ok (.iadd, 1) := by decide +kernel
theorem dL_law_230 : decode cL_law 230 = .ok (.iaload, 1) := by decide +kernel
theorem dL_law_231 : decode cL_law 231 = .ok (.invokevirtual 13, 3) := by decide +kernel
theorem dL_law_234 : decode cL_law 234 = .ok (.aload_n 2, 1) := by decide +kernel
theorem dL_law_235 : decode cL_law 235 = .ok (.aload_n 0, 1) := by decide +kernel
theorem dL_law_236 : decode cL_law 236 = .ok (.iload_n 3, 1) := by decide +kernel
theorem dL_law_237 : decode cL_law 237 = .ok (.iconst 1, 1) := by decide +kernel
theorem dL_law_238 : decode cL_law 238 = .ok (.iadd, 1) := by decide +kernel
theorem dL_law_239 : decode cL_law 239 = .ok (.iaload, 1) := by decide +kernel
theorem dL_law_240 : decode cL_law 240 = .ok (.aload_n 0, 1) := by decide +kernel
theorem dL_law_241 : decode cL_law 241 = .ok (.iload_n 3, 1) := by decide +kernel
theorem dL_law_242 : decode cL_law 242 = .ok (.iconst 2, 1) := by decide +kernel
theorem dL_law_243 : decode cL_law 243 = .ok (.iadd, 1) := by decide +kernel
theorem dL_law_244 : decode cL_law 244 = .ok (.iaload, 1) := by decide +kernel
theorem dL_law_245 : decode cL_law 245 = .ok (.invokevirtual 17, 3) := by decide +kernel
theorem dL_law_248 : decode cL_law 248 = .ok (.if_icmp .eq 1151, 3) := by decide +kernel
theorem dL_law_251 : decode cL_law 251 = .ok (.iconst 0, 1) := by decide +kernel
theorem dL_law_252 : decode cL_law 252 = .ok (.ireturn, 1) := by decide +kernel
theorem dL_law_253 : decode cL_law 253 = .ok (.aload_n 1, 1) := by decide +kernel
theorem dL_law_254 : decode cL_law 254 = .ok (.aload_n 0, 1) := by decide +kernel
theorem dL_law_255 : decode cL_law 255 = .ok (.iload_n 3, 1) := by decide +kernel
theorem dL_law_256 : decode cL_law 256 = .ok (.iconst 1, 1) := by decide +kernel
theorem dL_law_257 : decode cL_law 257 = .ok (.iadd, 1) := by decide +kernel
theorem dL_law_258 : decode cL_law 258 = .ok (.iaload, 1) := by decide +kernel
theorem dL_law_259 : decode cL_law 259 = .ok (.aload_n 0, 1) := by decide +kernel
theorem dL_law_260 : decode cL_law 260 = .ok (.iload_n 3, 1) := by decide +kernel
theorem dL_law_261 : decode cL_law 261 = .ok (.iconst 2, 1) := by decide +kernel
theorem dL_law_262 : decode cL_law 262 = .ok (.iadd, 1) := by decide +kernel
theorem dL_law_263 : decode cL_law 263 = .ok (.iaload, 1) := by decide +kernel
theorem dL_law_264 : decode cL_law 264 = .ok (.invokevirtual 18, 3) := by decide +kernel
theorem dL_law_267 : decode cL_law 267 = .ok (.aload_n 2, 1) := by decide +kernel
theorem dL_law_268 : decode cL_law 268 = .ok (.aload_n 0, 1) := by decide +kernel
theorem dL_law_269 : decode cL_law 269 = .ok (.iload_n 3, 1) := by decide +kernel
theorem dL_law_270 : decode cL_law 270 = .ok (.iconst 1, 1) := by decide +kernel
theorem dL_law_271 : decode cL_law 271 = .ok (.iadd, 1) := by decide +kernel
theorem dL_law_272 : decode cL_law 272 = .ok (.iaload, 1) := by decide +kernel
theorem dL_law_273 : decode cL_law 273 = .ok (.aload_n 0, 1) := by decide +kernel
theorem dL_law_274 : decode cL_law 274 = .ok (.iload_n 3, 1) := by decide +kernel
theorem dL_law_275 : decode cL_law 275 = .ok (.iconst 2, 1) := by decide +kernel
theorem dL_law_276 : decode cL_law 276 = .ok (.iadd, 1) := by decide +kernel
theorem dL_law_277 : decode cL_law 277 = .ok (.iaload, 1) := by decide +kernel
theorem dL_law_278 : decode cL_law 278 = .ok (.invokevirtual 21, 3) := by decide +kernel
theorem dL_law_281 : decode cL_law 281 = .ok (.if_icmp .eq 1118, 3) := by decide +kernel
theorem dL_law_284 : decode cL_law 284 = .ok (.iconst 0, 1) := by decide +kernel
theorem dL_law_285 : decode cL_law 285 = .ok (.ireturn, 1) := by decide +kernel
theorem dL_law_286 : decode cL_law 286 = .ok (.aload_n 1, 1) := by decide +kernel
theorem dL_law_287 : decode cL_law 287 = .ok (.aload_n 0, 1) := by decide +kernel
theorem dL_law_288 : decode cL_law 288 = .ok (.iload_n 3, 1) := by decide +kernel
theorem dL_law_289 : decode cL_law 289 = .ok (.iconst 1, 1) := by decide +kernel
theorem dL_law_290 : decode cL_law 290 = .ok (.iadd, 1) := by decide +kernel
theorem dL_law_291 : decode cL_law 291 = .ok (.iaload, 1) := by decide +kernel
theorem dL_law_292 : decode cL_law 292 = .ok (.aload_n 0, 1) := by decide +kernel
theorem dL_law_293 : decode cL_law 293 = .ok (.iload_n 3, 1) := by decide +kernel
theorem dL_law_294 : decode cL_law 294 = .ok (.iconst 2, 1) := by decide +kernel
theorem dL_law_295 : decode cL_law 295 = .ok (.iadd, 1) := by decide +kernel
theorem dL_law_296 : decode cL_law 296 = .ok (.iaload, 1) := by decide +kernel
theorem dL_law_297 : decode cL_law 297 = .ok (.aload_n 0, 1) := by decide +kernel
theorem dL_law_298 : decode cL_law 298 = .ok (.iload_n 3, 1) := by decide +kernel
theorem dL_law_299 : decode cL_law 299 = .ok (.iconst 3, 1) := by decide +kernel
theorem dL_law_300 : decode cL_law 300 = .ok (.iadd, 1) := by decide +kernel
theorem dL_law_301 : decode cL_law 301 = .ok (.iaload, 1) := by decide +kernel
theorem dL_law_302 : decode cL_law 302 = .ok (.invokevirtual 22, 3) := by decide +kernel
theorem dL_law_305 : decode cL_law 305 = .ok (.aload_n 2, 1) := by decide +kernel
theorem dL_law_306 : decode cL_law 306 = .ok (.aload_n 0, 1) := by decide +kernel
theorem dL_law_307 : decode cL_law 307 = .ok (.iload_n 3, 1) := by decide +kernel
theorem dL_law_308 : decode cL_law 308 = .ok (.iconst 1, 1) := by decide +kernel
theorem dL_law_309 : decode cL_law 309 = .ok (.iadd, 1) := by decide +kernel
theorem dL_law_310 : decode cL_law 310 = .ok (.iaload, 1) := by decide +kernel
theorem dL_law_311 : decode cL_law 311 = .ok (.aload_n 0, 1) := by decide +kernel
theorem dL_law_312 : decode cL_law 312 = .ok (.iload_n 3, 1) := by decide +kernel
theorem dL_law_313 : decode cL_law 313 = .ok (.iconst 2, 1) := by decide +kernel
theorem dL_law_314 : decode cL_law 314 = .ok (.iadd, 1) := by decide +kernel
theorem dL_law_315 : decode cL_law 315 = .ok (.iaload, 1) := by decide +kernel
theorem dL_law_316 : decode cL_law 316 = .ok (.aload_n 0, 1) := by decide +kernel
theorem dL_law_317 : decode cL_law 317 = .ok (.iload_n 3, 1) := by decide +kernel
theorem dL_law_318 : decode cL_law 318 = .ok (.iconst 3, 1) := by decide +kernel
theorem dL_law_319 : decode cL_law 319 = .ok (.iadd, 1) := by decide +kernel
theorem dL_law_320 : decode cL_law 320 = .ok (.iaload, 1) := by decide +kernel
theorem dL_law_321 : decode cL_law 321 = .ok (.invokevirtual 26, 3) := by decide +kernel
theorem dL_law_324 : decode cL_law 324 = .ok (.if_icmp .eq 1075, 3) := by decide +kernel
theorem dL_law_327 : decode cL_law 327 = .ok (.iconst 0, 1) := by decide +kernel
theorem dL_law_328 : decode cL_law 328 = .ok (.ireturn, 1) := by decide +kernel
theorem dL_law_329 : decode cL_law 329 = .ok (.aload_n 1, 1) := by decide +kernel
theorem dL_law_330 : decode cL_law 330 = .ok (.aload_n 0, 1) := by decide +kernel
theorem dL_law_331 : decode cL_law 331 = .ok (.iload_n 3, 1) := by decide +kernel
theorem dL_law_332 : decode cL_law 332 = .ok (.iconst 1, 1) := by decide +kernel
theorem dL_law_333 : decode cL_law 333 = .ok (.iadd, 1) := by decide +kernel
theorem dL_law_334 : decode cL_law 334 = .ok (.iaload, 1) := by decide +kernel
theorem dL_law_335 : decode cL_law 335 = .ok (.aload_n 0, 1) := by decide +kernel
theorem dL_law_336 : decode cL_law 336 = .ok (.iload_n 3, 1) := by decide +kernel
theorem dL_law_337 : decode cL_law 337 = .ok (.iconst 2, 1) := by decide +kernel
theorem dL_law_338 : decode cL_law 338 = .ok (.iadd, 1) := by decide +kernel
theorem dL_law_339 : decode cL_law 339 = .ok (.iaload, 1) := by decide +kernel
theorem dL_law_340 : decode cL_law 340 = .ok (.invokevirtual 27, 3) := by decide +kernel
theorem dL_law_343 : decode cL_law 343 = .ok (.aload_n 2, 1) := by decide +kernel
theorem dL_law_344 : decode cL_law 344 = .ok (.aload_n 0, 1) := by decide +kernel
theorem dL_law_345 : decode cL_law 345 = .ok (.iload_n 3, 1) := by decide +kernel
theorem dL_law_346 : decode cL_law 346 = .ok (.iconst 1, 1) := by decide +kernel
theorem dL_law_347 : decode cL_law 347 = .ok (.iadd, 1) := by decide +kernel
theorem dL_law_348 : decode cL_law 348 = .ok (.iaload, 1) := by decide +kernel
theorem dL_law_349 : decode cL_law 349 = .ok (.aload_n 0, 1) := by decide +kernel
theorem dL_law_350 : decode cL_law 350 = .ok (.iload_n 3, 1) := by decide +kernel
theorem dL_law_351 : decode cL_law 351 = .ok (.iconst 2, 1) := by decide +kernel
theorem dL_law_352 : decode cL_law 352 = .ok (.iadd, 1) := by decide +kernel
theorem dL_law_353 : decode cL_law 353 = .ok (.iaload, 1) := by decide +kernel
theorem dL_law_354 : decode cL_law 354 = .ok (.invokevirtual 30, 3) := by decide +kernel
theorem dL_law_357 : decode cL_law 357 = .ok (.if_icmp .eq 1042, 3) := by decide +kernel
theorem dL_law_360 : decode cL_law 360 = .ok (.iconst 0, 1) := by decide +kernel
theorem dL_law_361 : decode cL_law 361 = .ok (.ireturn, 1) := by decide +kernel
theorem dL_law_362 : decode cL_law 362 = .ok (.aload_n 1, 1) := by decide +kernel
theorem dL_law_363 : decode cL_law 363 = .ok (.aload_n 0, 1) := by decide +kernel
theorem dL_law_364 : decode cL_law 364 = .ok (.iload_n 3, 1) := by decide +kernel
theorem dL_law_365 : decode cL_law 365 = .ok (.iconst 1, 1) := by decide +kernel
theorem dL_law_366 : decode cL_law 366 = .ok (.iadd, 1) := by decide +kernel
theorem dL_law_367 : decode cL_law 367 = .ok (.iaload, 1) := by decide +kernel
theorem dL_law_368 : decode cL_law 368 = .ok (.aload_n 0, 1) := by decide +kernel
theorem dL_law_369 : decode cL_law 369 = .ok (.iload_n 3, 1) := by decide +kernel
theorem dL_law_370 : decode cL_law 370 = .ok (.iconst 2, 1) := by decide +kernel
theorem dL_law_371 : decode cL_law 371 = .ok (.iadd, 1) := by decide +kernel
theorem dL_law_372 : decode cL_law 372 = .ok (.iaload, 1) := by decide +kernel
theorem dL_law_373 : decode cL_law 373 = .ok (.aload_n 0, 1) := by decide +kernel
theorem dL_law_374 : decode cL_law 374 = .ok (.iload_n 3, 1) := by decide +kernel
theorem dL_law_375 : decode cL_law 375 = .ok (.iconst 3, 1) := by decide +kernel
theorem dL_law_376 : decode cL_law 376 = .ok (.iadd, 1) := by decide +kernel
theorem dL_law_377 : decode cL_law 377 = .ok (.iaload, 1) := by decide +kernel
theorem dL_law_378 : decode cL_law 378 = .ok (.invokevirtual 31, 3) := by decide +kernel
theorem dL_law_381 : decode cL_law 381 = .ok (.aload_n 2, 1) := by decide +kernel
theorem dL_law_382 : decode cL_law 382 = .ok (.aload_n 0, 1) := by decide +kernel
theorem dL_law_383 : decode cL_law 383 = .ok (.iload_n 3, 1) := by decide +kernel
theorem dL_law_384 : decode cL_law 384 = .ok (.iconst 1, 1) := by decide +kernel
theorem dL_law_385 : decode cL_law 385 = .ok (.iadd, 1) := by decide +kernel
theorem dL_law_386 : decode cL_law 386 = .ok (.iaload, 1) := by decide +kernel
theorem dL_law_387 : decode cL_law 387 = .ok (.aload_n 0, 1) := by decide +kernel
theorem dL_law_388 : decode cL_law 388 = .ok (.iload_n 3, 1) := by decide +kernel
theorem dL_law_389 : decode cL_law 389 = .ok (.iconst 2, 1) := by decide +kernel
theorem dL_law_390 : decode cL_law 390 = .ok (.iadd, 1) := by decide +kernel
theorem dL_law_391 : decode cL_law 391 = .ok (.iaload, 1) := by decide +kernel
theorem dL_law_392 : decode cL_law 392 = .ok (.aload_n 0, 1) := by decide +kernel
theorem dL_law_393 : decode cL_law 393 = .ok (.iload_n 3, 1) := by decide +kernel
theorem dL_law_394 : decode cL_law 394 = .ok (.iconst 3, 1) := by decide +kernel
theorem dL_law_395 : decode cL_law 395 = .ok (.iadd, 1) := by decide +kernel
theorem dL_law_396 : decode cL_law 396 = .ok (.iaload, 1) := by decide +kernel
theorem dL_law_397 : decode cL_law 397 = .ok (.invokevirtual 34, 3) := by decide +kernel
theorem dL_law_400 : decode cL_law 400 = .ok (.if_icmp .eq 999, 3) := by decide +kernel
theorem dL_law_403 : decode cL_law 403 = .ok (.iconst 0, 1) := by decide +kernel
theorem dL_law_404 : decode cL_law 404 = .ok (.ireturn, 1) := by decide +kernel
theorem dL_law_405 : decode cL_law 405 = .ok (.aload_n 1, 1) := by decide +kernel
theorem dL_law_406 : decode cL_law 406 = .ok (.aload_n 0, 1) := by decide +kernel
theorem dL_law_407 : decode cL_law 407 = .ok (.iload_n 3, 1) := by decide +kernel
theorem dL_law_408 : decode cL_law 408 = .ok (.iconst 1, 1) := by decide +kernel
theorem dL_law_409 : decode cL_law 409 = .ok (.iadd, 1) := by decide +kernel
theorem dL_law_410 : decode cL_law 410 = .ok (.iaload, 1) := by decide +kernel
theorem dL_law_411 : decode cL_law 411 = .ok (.aload_n 0, 1) := by decide +kernel
theorem dL_law_412 : decode cL_law 412 = .ok (.iload_n 3, 1) := by decide +kernel
theorem dL_law_413 : decode cL_law 413 = .ok (.iconst 2, 1) := by decide +kernel
theorem dL_law_414 : decode cL_law 414 = .ok (.iadd, 1) := by decide +kernel
theorem dL_law_415 : decode cL_law 415 = .ok (.iaload, 1) := by decide +kernel
theorem dL_law_416 : decode cL_law 416 = .ok (.invokevirtual 35, 3) := by decide +kernel
theorem dL_law_419 : decode cL_law 419 = .ok (.aload_n 2, 1) := by decide +kernel
theorem dL_law_420 : decode cL_law 420 = .ok (.aload_n 0, 1) := by decide +kernel
theorem dL_law_421 : decode cL_law 421 = .ok (.iload_n 3, 1) := by decide +kernel
theorem dL_law_422 : decode cL_law 422 = .ok (.iconst 1, 1) := by decide +kernel
theorem dL_law_423 : decode cL_law 423 = .ok (.iadd, 1) := by decide +kernel
theorem dL_law_424 : decode cL_law 424 = .ok (.iaload, 1) := by decide +kernel
theorem dL_law_425 : decode cL_law 425 = .ok (.aload_n 0, 1) := by decide +kernel
theorem dL_law_426 : decode cL_law 426 = .ok (.iload_n 3, 1) := by decide +kernel
theorem dL_law_427 : decode cL_law 427 = .ok (.iconst 2, 1) := by decide +kernel
theorem dL_law_428 : decode cL_law 428 = .ok (.iadd, 1) := by decide +kernel
theorem dL_law_429 : decode cL_law 429 = .ok (.iaload, 1) := by decide +kernel
theorem dL_law_430 : decode cL_law 430 = .ok (.invokevirtual 38, 3) := by decide +kernel
theorem dL_law_433 : decode cL_law 433 = .ok (.if_icmp .eq 966, 3) := by decide +kernel
theorem dL_law_436 : decode cL_law 436 = .ok (.iconst 0, 1) := by decide +kernel
theorem dL_law_437 : decode cL_law 437 = .ok (.ireturn, 1) := by decide +kernel
theorem dL_law_438 : decode cL_law 438 = .ok (.aload_n 1, 1) := by decide +kernel
theorem dL_law_439 : decode cL_law 439 = .ok (.aload_n 0, 1) := by decide +kernel
theorem dL_law_440 : decode cL_law 440 = .ok (.iload_n 3, 1) := by decide +kernel
theorem dL_law_441 : decode cL_law 441 = .ok (.iconst 1, 1) := by decide +kernel
theorem dL_law_442 : decode cL_law 442 = .ok (.iadd, 1) := by decide +kernel
theorem dL_law_443 : decode cL_law 443 = .ok (.iaload, 1) := by decide +kernel
theorem dL_law_444 : decode cL_law 444 = .ok (.aload_n 0, 1) := by decide +kernel
theorem dL_law_445 : decode cL_law 445 = .ok (.iload_n 3, 1) := by decide +kernel
theorem dL_law_446 : decode cL_law 446 = .ok (.iconst 2, 1) := by decide +kernel
theorem dL_law_447 : decode cL_law 447 = .ok (.iadd, 1) := by decide +kernel
theorem dL_law_448 : decode cL_law 448 = .ok (.iaload, 1) := by decide +kernel
theorem dL_law_449 : decode cL_law 449 = .ok (.invokevirtual 39, 3) := by decide +kernel
theorem dL_law_452 : decode cL_law 452 = .ok (.aload_n 2, 1) := by decide +kernel
theorem dL_law_453 : decode cL_law 453 = .ok (.aload_n 0, 1) := by decide +kernel
theorem dL_law_454 : decode cL_law 454 = .ok (.iload_n 3, 1) := by decide +kernel
theorem dL_law_455 : decode cL_law 455 = .ok (.iconst 1, 1) := by decide +kernel
theorem dL_law_456 : decode cL_law 456 = .ok (.iadd, 1) := by decide +kernel
theorem dL_law_457 : decode cL_law 457 = .ok (.iaload, 1) := by decide +kernel
theorem dL_law_458 : decode cL_law 458 = .ok (.aload_n 0, 1) := by decide +kernel
theorem dL_law_459 : decode cL_law 459 = .ok (.iload_n 3, 1) := by decide +kernel
theorem dL_law_460 : decode cL_law 460 = .ok (.iconst 2, 1) := by decide +kernel
theorem dL_law_461 : decode cL_law 461 = .ok (.iadd, 1) := by decide +kernel
theorem dL_law_462 : decode cL_law 462 = .ok (.iaload, 1) := by decide +kernel
theorem dL_law_463 : decode cL_law 463 = .ok (.invokevirtual 42, 3) := by decide +kernel
theorem dL_law_466 : decode cL_law 466 = .ok (.if_icmp .eq 933, 3) := by decide +kernel
theorem dL_law_469 : decode cL_law 469 = .ok (.iconst 0, 1) := by decide +kernel
theorem dL_law_470 : decode cL_law 470 = .ok (.ireturn, 1) := by decide +kernel
theorem dL_law_471 : decode cL_law 471 = .ok (.aload_n 1, 1) := by decide +kernel
theorem dL_law_472 : decode cL_law 472 = .ok (.aload_n 0, 1) := by decide +kernel
theorem dL_law_473 : decode cL_law 473 = .ok (.iload_n 3, 1) := by decide +kernel
end
section
theorem dL_law_474 : decode cL_law 474 = .ok (.iconst 1, 1) := by decide +kernel
theorem dL_law_475 : decode cL_law 475 = .ok (.iadd, 1) := by decide +kernel
theorem dL_law_476 : decode cL_law 476 = .ok (.iaload, 1) := by decide +kernel
theorem dL_law_477 : decode cL_law 477 = .ok (.aload_n 0, 1) := by decide +kernel
theorem dL_law_478 : decode cL_law 478 = .ok (.iload_n 3, 1) := by decide +kernel
theorem dL_law_479 : decode cL_law 479 = .ok (.iconst 2, 1) := by decide +kernel
theorem dL_law_480 : decode cL_law 480 = .ok (.iadd, 1) := by decide +kernel
theorem dL_law_481 : decode cL_law 481 = .ok (.iaload, 1) := by decide +kernel
theorem dL_law_482 : decode cL_law 482 = .ok (.invokevirtual 43, 3) := by decide +kernel
theorem dL_law_485 : decode cL_law 485 = .ok (.aload_n 2, 1) := by decide +kernel
theorem dL_law_486 : decode cL_law 486 = .ok (.aload_n 0, 1) := by decide +kernel
theorem dL_law_487 : decode cL_law 487 = .ok (.iload_n 3, 1) := by decide +kernel
theorem dL_law_488 : decode cL_law 488 = .ok (.iconst 1, 1) := by decide +kernel
theorem dL_law_489 : decode cL_law 489 = .ok (.iadd, 1) := by decide +kernel
theorem dL_law_490 : decode cL_law 490 = .ok (.iaload, 1) := by decide +kernel
theorem dL_law_491 : decode cL_law 491 = .ok (.aload_n 0, 1) := by decide +kernel
theorem dL_law_492 : decode cL_law 492 = .ok (.iload_n 3, 1) := by decide +kernel
theorem dL_law_493 : decode cL_law 493 = .ok (.iconst 2, 1) := by decide +kernel
theorem dL_law_494 : decode cL_law 494 = .ok (.iadd, 1) := by decide +kernel
theorem dL_law_495 : decode cL_law 495 = .ok (.iaload, 1) := by decide +kernel
theorem dL_law_496 : decode cL_law 496 = .ok (.invokevirtual 46, 3) := by decide +kernel
theorem dL_law_499 : decode cL_law 499 = .ok (.if_icmp .eq 900, 3) := by decide +kernel
theorem dL_law_502 : decode cL_law 502 = .ok (.iconst 0, 1) := by decide +kernel
theorem dL_law_503 : decode cL_law 503 = .ok (.ireturn, 1) := by decide +kernel
theorem dL_law_504 : decode cL_law 504 = .ok (.aload_n 1, 1) := by decide +kernel
theorem dL_law_505 : decode cL_law 505 = .ok (.invokevirtual 47, 3) := by decide +kernel
theorem dL_law_508 : decode cL_law 508 = .ok (.aload_n 2, 1) := by decide +kernel
theorem dL_law_509 : decode cL_law 509 = .ok (.invokevirtual 51, 3) := by decide +kernel
theorem dL_law_512 : decode cL_law 512 = .ok (.lcmp, 1) := by decide +kernel
theorem dL_law_513 : decode cL_law 513 = .ok (.ifCond .eq 886, 3) := by decide +kernel
theorem dL_law_516 : decode cL_law 516 = .ok (.iconst 0, 1) := by decide +kernel
theorem dL_law_517 : decode cL_law 517 = .ok (.ireturn, 1) := by decide +kernel
theorem dL_law_518 : decode cL_law 518 = .ok (.aload_n 1, 1) := by decide +kernel
theorem dL_law_519 : decode cL_law 519 = .ok (.aload_n 0, 1) := by decide +kernel
theorem dL_law_520 : decode cL_law 520 = .ok (.iload_n 3, 1) := by decide +kernel
theorem dL_law_521 : decode cL_law 521 = .ok (.iconst 1, 1) := by decide +kernel
theorem dL_law_522 : decode cL_law 522 = .ok (.iadd, 1) := by decide +kernel
theorem dL_law_523 : decode cL_law 523 = .ok (.iaload, 1) := by decide +kernel
theorem dL_law_524 : decode cL_law 524 = .ok (.aload_n 0, 1) := by decide +kernel
theorem dL_law_525 : decode cL_law 525 = .ok (.iload_n 3, 1) := by decide +kernel
theorem dL_law_526 : decode cL_law 526 = .ok (.iconst 2, 1) := by decide +kernel
theorem dL_law_527 : decode cL_law 527 = .ok (.iadd, 1) := by decide +kernel
theorem dL_law_528 : decode cL_law 528 = .ok (.iaload, 1) := by decide +kernel
theorem dL_law_529 : decode cL_law 529 = .ok (.ifCond .eq 7, 3) := by decide +kernel
theorem dL_law_532 : decode cL_law 532 = .ok (.iconst 1, 1) := by decide +kernel
theorem dL_law_533 : decode cL_law 533 = .ok (.goto 4, 3) := by decide +kernel
theorem dL_law_536 : decode cL_law 536 = .ok (.iconst 0, 1) := by decide +kernel
theorem dL_law_537 : decode cL_law 537 = .ok (.aload_n 0, 1) := by decide +kernel
theorem dL_law_538 : decode cL_law 538 = .ok (.iload_n 3, 1) := by decide +kernel
theorem dL_law_539 : decode cL_law 539 = .ok (.iconst 3, 1) := by decide +kernel
theorem dL_law_540 : decode cL_law 540 = .ok (.iadd, 1) := by decide +kernel
theorem dL_law_541 : decode cL_law 541 = .ok (.iaload, 1) := by decide +kernel
theorem dL_law_542 : decode cL_law 542 = .ok (.invokevirtual 52, 3) := by decide +kernel
theorem dL_law_545 : decode cL_law 545 = .ok (.aload_n 2, 1) := by decide +kernel
theorem dL_law_546 : decode cL_law 546 = .ok (.aload_n 0, 1) := by decide +kernel
theorem dL_law_547 : decode cL_law 547 = .ok (.iload_n 3, 1) := by decide +kernel
theorem dL_law_548 : decode cL_law 548 = .ok (.iconst 1, 1) := by decide +kernel
theorem dL_law_549 : decode cL_law 549 = .ok (.iadd, 1) := by decide +kernel
theorem dL_law_550 : decode cL_law 550 = .ok (.iaload, 1) := by decide +kernel
theorem dL_law_551 : decode cL_law 551 = .ok (.aload_n 0, 1) := by decide +kernel
theorem dL_law_552 : decode cL_law 552 = .ok (.iload_n 3, 1) := by decide +kernel
theorem dL_law_553 : decode cL_law 553 = .ok (.iconst 2, 1) := by decide +kernel
theorem dL_law_554 : decode cL_law 554 = .ok (.iadd, 1) := by decide +kernel
theorem dL_law_555 : decode cL_law 555 = .ok (.iaload, 1) := by decide +kernel
theorem dL_law_556 : decode cL_law 556 = .ok (.ifCond .eq 7, 3) := by decide +kernel
theorem dL_law_559 : decode cL_law 559 = .ok (.iconst 1, 1) := by decide +kernel
theorem dL_law_560 : decode cL_law 560 = .ok (.goto 4, 3) := by decide +kernel
theorem dL_law_563 : decode cL_law 563 = .ok (.iconst 0, 1) := by decide +kernel
theorem dL_law_564 : decode cL_law 564 = .ok (.aload_n 0, 1) := by decide +kernel
theorem dL_law_565 : decode cL_law 565 = .ok (.iload_n 3, 1) := by decide +kernel
theorem dL_law_566 : decode cL_law 566 = .ok (.iconst 3, 1) := by decide +kernel
theorem dL_law_567 : decode cL_law 567 = .ok (.iadd, 1) := by decide +kernel
theorem dL_law_568 : decode cL_law 568 = .ok (.iaload, 1) := by decide +kernel
theorem dL_law_569 : decode cL_law 569 = .ok (.invokevirtual 56, 3) := by decide +kernel
theorem dL_law_572 : decode cL_law 572 = .ok (.if_icmp .eq 827, 3) := by decide +kernel
theorem dL_law_575 : decode cL_law 575 = .ok (.iconst 0, 1) := by decide +kernel
theorem dL_law_576 : decode cL_law 576 = .ok (.ireturn, 1) := by decide +kernel
theorem dL_law_577 : decode cL_law 577 = .ok (.aload_n 1, 1) := by decide +kernel
theorem dL_law_578 : decode cL_law 578 = .ok (.invokevirtual 57, 3) := by decide +kernel
theorem dL_law_581 : decode cL_law 581 = .ok (.aload_n 2, 1) := by decide +kernel
theorem dL_law_582 : decode cL_law 582 = .ok (.invokevirtual 61, 3) := by decide +kernel
theorem dL_law_585 : decode cL_law 585 = .ok (.if_icmp .eq 814, 3) := by decide +kernel
theorem dL_law_588 : decode cL_law 588 = .ok (.iconst 0, 1) := by decide +kernel
theorem dL_law_589 : decode cL_law 589 = .ok (.ireturn, 1) := by decide +kernel
theorem dL_law_590 : decode cL_law 590 = .ok (.aload_n 1, 1) := by decide +kernel
theorem dL_law_591 : decode cL_law 591 = .ok (.invokevirtual 62, 3) := by decide +kernel
theorem dL_law_594 : decode cL_law 594 = .ok (.aload_n 2, 1) := by decide +kernel
theorem dL_law_595 : decode cL_law 595 = .ok (.invokevirtual 65, 3) := by decide +kernel
theorem dL_law_598 : decode cL_law 598 = .ok (.lcmp, 1) := by decide +kernel
theorem dL_law_599 : decode cL_law 599 = .ok (.ifCond .eq 800, 3) := by decide +kernel
theorem dL_law_602 : decode cL_law 602 = .ok (.iconst 0, 1) := by decide +kernel
theorem dL_law_603 : decode cL_law 603 = .ok (.ireturn, 1) := by decide +kernel
theorem dL_law_604 : decode cL_law 604 = .ok (.aload_n 1, 1) := by decide +kernel
theorem dL_law_605 : decode cL_law 605 = .ok (.aload_n 0, 1) := by decide +kernel
theorem dL_law_606 : decode cL_law 606 = .ok (.iload_n 3, 1) := by decide +kernel
theorem dL_law_607 : decode cL_law 607 = .ok (.iconst 1, 1) := by decide +kernel
theorem dL_law_608 : decode cL_law 608 = .ok (.iadd, 1) := by decide +kernel
theorem dL_law_609 : decode cL_law 609 = .ok (.iaload, 1) := by decide +kernel
theorem dL_law_610 : decode cL_law 610 = .ok (.invokevirtual 66, 3) := by decide +kernel
theorem dL_law_613 : decode cL_law 613 = .ok (.aload_n 2, 1) := by decide +kernel
theorem dL_law_614 : decode cL_law 614 = .ok (.aload_n 0, 1) := by decide +kernel
theorem dL_law_615 : decode cL_law 615 = .ok (.iload_n 3, 1) := by decide +kernel
theorem dL_law_616 : decode cL_law 616 = .ok (.iconst 1, 1) := by decide +kernel
theorem dL_law_617 : decode cL_law 617 = .ok (.iadd, 1) := by decide +kernel
theorem dL_law_618 : decode cL_law 618 = .ok (.iaload, 1) := by decide +kernel
theorem dL_law_619 : decode cL_law 619 = .ok (.invokevirtual 70, 3) := by decide +kernel
theorem dL_law_622 : decode cL_law 622 = .ok (.if_icmp .eq 777, 3) := by decide +kernel
theorem dL_law_625 : decode cL_law 625 = .ok (.iconst 0, 1) := by decide +kernel
theorem dL_law_626 : decode cL_law 626 = .ok (.ireturn, 1) := by decide +kernel
theorem dL_law_627 : decode cL_law 627 = .ok (.aload_n 1, 1) := by decide +kernel
theorem dL_law_628 : decode cL_law 628 = .ok (.aload_n 0, 1) := by decide +kernel
theorem dL_law_629 : decode cL_law 629 = .ok (.iload_n 3, 1) := by decide +kernel
theorem dL_law_630 : decode cL_law 630 = .ok (.iconst 1, 1) := by decide +kernel
theorem dL_law_631 : decode cL_law 631 = .ok (.iadd, 1) := by decide +kernel
theorem dL_law_632 : decode cL_law 632 = .ok (.iaload, 1) := by decide +kernel
theorem dL_law_633 : decode cL_law 633 = .ok (.invokevirtual 71, 3) := by decide +kernel
theorem dL_law_636 : decode cL_law 636 = .ok (.aload_n 2, 1) := by decide +kernel
theorem dL_law_637 : decode cL_law 637 = .ok (.aload_n 0, 1) := by decide +kernel
theorem dL_law_638 : decode cL_law 638 = .ok (.iload_n 3, 1) := by decide +kernel
theorem dL_law_639 : decode cL_law 639 = .ok (.iconst 1, 1) := by decide +kernel
theorem dL_law_640 : decode cL_law 640 = .ok (.iadd, 1) := by decide +kernel
theorem dL_law_641 : decode cL_law 641 = .ok (.iaload, 1) := by decide +kernel
theorem dL_law_642 : decode cL_law 642 = .ok (.invokevirtual 74, 3) := by decide +kernel
theorem dL_law_645 : decode cL_law 645 = .ok (.if_icmp .eq 754, 3) := by decide +kernel
theorem dL_law_648 : decode cL_law 648 = .ok (.iconst 0, 1) := by decide +kernel
theorem dL_law_649 : decode cL_law 649 = .ok (.ireturn, 1) := by decide +kernel
theorem dL_law_650 : decode cL_law 650 = .ok (.aload_n 1, 1) := by decide +kernel
theorem dL_law_651 : decode cL_law 651 = .ok (.aload_n 0, 1) := by decide +kernel
theorem dL_law_652 : decode cL_law 652 = .ok (.iload_n 3, 1) := by decide +kernel
theorem dL_law_653 : decode cL_law 653 = .ok (.iconst 1, 1) := by decide +kernel
theorem dL_law_654 : decode cL_law 654 = .ok (.iadd, 1) := by decide +kernel
theorem dL_law_655 : decode cL_law 655 = .ok (.iaload, 1) := by decide +kernel
theorem dL_law_656 : decode cL_law 656 = .ok (.invokevirtual 75, 3) := by decide +kernel
theorem dL_law_659 : decode cL_law 659 = .ok (.aload_n 2, 1) := by decide +kernel
theorem dL_law_660 : decode cL_law 660 = .ok (.aload_n 0, 1) := by decide +kernel
theorem dL_law_661 : decode cL_law 661 = .ok (.iload_n 3, 1) := by decide +kernel
theorem dL_law_662 : decode cL_law 662 = .ok (.iconst 1, 1) := by decide +kernel
theorem dL_law_663 : decode cL_law 663 = .ok (.iadd, 1) := by decide +kernel
theorem dL_law_664 : decode cL_law 664 = .ok (.iaload, 1) := by decide +kernel
theorem dL_law_665 : decode cL_law 665 = .ok (.invokevirtual 78, 3) := by decide +kernel
theorem dL_law_668 : decode cL_law 668 = .ok (.if_icmp .eq 731, 3) := by decide +kernel
theorem dL_law_671 : decode cL_law 671 = .ok (.iconst 0, 1) := by decide +kernel
theorem dL_law_672 : decode cL_law 672 = .ok (.ireturn, 1) := by decide +kernel
theorem dL_law_673 : decode cL_law 673 = .ok (.aload_n 1, 1) := by decide +kernel
theorem dL_law_674 : decode cL_law 674 = .ok (.aload_n 0, 1) := by decide +kernel
theorem dL_law_675 : decode cL_law 675 = .ok (.iload_n 3, 1) := by decide +kernel
theorem dL_law_676 : decode cL_law 676 = .ok (.iconst 1, 1) := by decide +kernel
theorem dL_law_677 : decode cL_law 677 = .ok (.iadd, 1) := by decide +kernel
theorem dL_law_678 : decode cL_law 678 = .ok (.iaload, 1) := by decide +kernel
theorem dL_law_679 : decode cL_law 679 = .ok (.invokevirtual 79, 3) := by decide +kernel
theorem dL_law_682 : decode cL_law 682 = .ok (.aload_n 2, 1) := by decide +kernel
theorem dL_law_683 : decode cL_law 683 = .ok (.aload_n 0, 1) := by decide +kernel
theorem dL_law_684 : decode cL_law 684 = .ok (.iload_n 3, 1) := by decide +kernel
theorem dL_law_685 : decode cL_law 685 = .ok (.iconst 1, 1) := by decide +kernel
theorem dL_law_686 : decode cL_law 686 = .ok (.iadd, 1) := by decide +kernel
theorem dL_law_687 : decode cL_law 687 = .ok (.iaload, 1) := by decide +kernel
theorem dL_law_688 : decode cL_law 688 = .ok (.invokevirtual 83, 3) := by decide +kernel
theorem dL_law_691 : decode cL_law 691 = .ok (.lcmp, 1) := by decide +kernel
theorem dL_law_692 : decode cL_law 692 = .ok (.ifCond .eq 707, 3) := by decide +kernel
theorem dL_law_695 : decode cL_law 695 = .ok (.iconst 0, 1) := by decide +kernel
theorem dL_law_696 : decode cL_law 696 = .ok (.ireturn, 1) := by decide +kernel
theorem dL_law_697 : decode cL_law 697 = .ok (.aload_n 1, 1) := by decide +kernel
theorem dL_law_698 : decode cL_law 698 = .ok (.aload_n 0, 1) := by decide +kernel
theorem dL_law_699 : decode cL_law 699 = .ok (.iload_n 3, 1) := by decide +kernel
theorem dL_law_700 : decode cL_law 700 = .ok (.iconst 1, 1) := by decide +kernel
theorem dL_law_701 : decode cL_law 701 = .ok (.iadd, 1) := by decide +kernel
theorem dL_law_702 : decode cL_law 702 = .ok (.iaload, 1) := by decide +kernel
theorem dL_law_703 : decode cL_law 703 = .ok (.invokevirtual 84, 3) := by decide +kernel
theorem dL_law_706 : decode cL_law 706 = .ok (.aload_n 2, 1) := by decide +kernel
theorem dL_law_707 : decode cL_law 707 = .ok (.aload_n 0, 1) := by decide +kernel
theorem dL_law_708 : decode cL_law 708 = .ok (.iload_n 3, 1) := by decide +kernel
theorem dL_law_709 : decode cL_law 709 = .ok (.iconst 1, 1) := by decide +kernel
theorem dL_law_710 : decode cL_law 710 = .ok (.iadd, 1) := by decide +kernel
theorem dL_law_711 : decode cL_law 711 = .ok (.iaload, 1) := by decide +kernel
theorem dL_law_712 : decode cL_law 712 = .ok (.invokevirtual 87, 3) := by decide +kernel
theorem dL_law_715 : decode cL_law 715 = .ok (.if_icmp .eq 684, 3) := by decide +kernel
theorem dL_law_718 : decode cL_law 718 = .ok (.iconst 0, 1) := by decide +kernel
theorem dL_law_719 : decode cL_law 719 = .ok (.ireturn, 1) := by decide +kernel
theorem dL_law_720 : decode cL_law 720 = .ok (.aload_n 1, 1) := by decide +kernel
theorem dL_law_721 : decode cL_law 721 = .ok (.invokevirtual 88, 3) := by decide +kernel
theorem dL_law_724 : decode cL_law 724 = .ok (.aload_n 2, 1) := by decide +kernel
theorem dL_law_725 : decode cL_law 725 = .ok (.invokevirtual 91, 3) := by decide +kernel
theorem dL_law_728 : decode cL_law 728 = .ok (.if_icmp .eq 671, 3) := by decide +kernel
theorem dL_law_731 : decode cL_law 731 = .ok (.iconst 0, 1) := by decide +kernel
theorem dL_law_732 : decode cL_law 732 = .ok (.ireturn, 1) := by decide +kernel
theorem dL_law_733 : decode cL_law 733 = .ok (.aload_n 1, 1) := by decide +kernel
theorem dL_law_734 : decode cL_law 734 = .ok (.aload_n 0, 1) := by decide +kernel
theorem dL_law_735 : decode cL_law 735 = .ok (.iload_n 3, 1) := by decide +kernel
theorem dL_law_736 : decode cL_law 736 = .ok (.iconst 1, 1) := by decide +kernel
theorem dL_law_737 : decode cL_law 737 = .ok (.iadd, 1) := by decide +kernel
theorem dL_law_738 : decode cL_law 738 = .ok (.iaload, 1) := by decide +kernel
theorem dL_law_739 : decode cL_law 739 = .ok (.invokevirtual 92, 3) := by decide +kernel
theorem dL_law_742 : decode cL_law 742 = .ok (.aload_n 2, 1) := by decide +kernel
theorem dL_law_743 : decode cL_law 743 = .ok (.aload_n 0, 1) := by decide +kernel
theorem dL_law_744 : decode cL_law 744 = .ok (.iload_n 3, 1) := by decide +kernel
theorem dL_law_745 : decode cL_law 745 = .ok (.iconst 1, 1) := by decide +kernel
theorem dL_law_746 : decode cL_law 746 = .ok (.iadd, 1) := by decide +kernel
theorem dL_law_747 : decode cL_law 747 = .ok (.iaload, 1) := by decide +kernel
theorem dL_law_748 : decode cL_law 748 = .ok (.invokevirtual 95, 3) := by decide +kernel
theorem dL_law_751 : decode cL_law 751 = .ok (.if_icmp .eq 648, 3) := by decide +kernel
theorem dL_law_754 : decode cL_law 754 = .ok (.iconst 0, 1) := by decide +kernel
theorem dL_law_755 : decode cL_law 755 = .ok (.ireturn, 1) := by decide +kernel
theorem dL_law_756 : decode cL_law 756 = .ok (.aload_n 1, 1) := by decide +kernel
theorem dL_law_757 : decode cL_law 757 = .ok (.aload_n 0, 1) := by decide +kernel
theorem dL_law_758 : decode cL_law 758 = .ok (.iload_n 3, 1) := by decide +kernel
theorem dL_law_759 : decode cL_law 759 = .ok (.iconst 1, 1) := by decide +kernel
theorem dL_law_760 : decode cL_law 760 = .ok (.iadd, 1) := by decide +kernel
theorem dL_law_761 : decode cL_law 761 = .ok (.iaload, 1) := by decide +kernel
theorem dL_law_762 : decode cL_law 762 = .ok (.invokevirtual 96, 3) := by decide +kernel
theorem dL_law_765 : decode cL_law 765 = .ok (.aload_n 2, 1) := by decide +kernel
theorem dL_law_766 : decode cL_law 766 = .ok (.aload_n 0, 1) := by decide +kernel
theorem dL_law_767 : decode cL_law 767 = .ok (.iload_n 3, 1) := by decide +kernel
theorem dL_law_768 : decode cL_law 768 = .ok (.iconst 1, 1) := by decide +kernel
theorem dL_law_769 : decode cL_law 769 = .ok (.iadd, 1) := by decide +kernel
theorem dL_law_770 : decode cL_law 770 = .ok (.iaload, 1) := by decide +kernel
theorem dL_law_771 : decode cL_law 771 = .ok (.invokevirtual 99, 3) := by decide +kernel
theorem dL_law_774 : decode cL_law 774 = .ok (.if_icmp .eq 625, 3) := by decide +kernel
theorem dL_law_777 : decode cL_law 777 = .ok (.iconst 0, 1) := by decide +kernel
theorem dL_law_778 : decode cL_law 778 = .ok (.ireturn, 1) := by decide +kernel
theorem dL_law_779 : decode cL_law 779 = .ok (.aload_n 1, 1) := by decide +kernel
theorem dL_law_780 : decode cL_law 780 = .ok (.aload_n 0, 1) := by decide +kernel
theorem dL_law_781 : decode cL_law 781 = .ok (.iload_n 3, 1) := by decide +kernel
theorem dL_law_782 : decode cL_law 782 = .ok (.iconst 1, 1) := by decide +kernel
theorem dL_law_783 : decode cL_law 783 = .ok (.iadd, 1) := by decide +kernel
theorem dL_law_784 : decode cL_law 784 = .ok (.iaload, 1) := by decide +kernel
theorem dL_law_785 : decode cL_law 785 = .ok (.aload_n 0, 1) := by decide +kernel
theorem dL_law_786 : decode cL_law 786 = .ok (.iload_n 3, 1) := by decide +kernel
theorem dL_law_787 : decode cL_law 787 = .ok (.iconst 2, 1) := by decide +kernel
theorem dL_law_788 : decode cL_law 788 = .ok (.iadd, 1) := by decide +kernel
theorem dL_law_789 : decode cL_law 789 = .ok (.iaload, 1) := by decide +kernel
theorem dL_law_790 : decode cL_law 790 = .ok (.invokevirtual 100, 3) := by decide +kernel
theorem dL_law_793 : decode cL_law 793 = .ok (.aload_n 2, 1) := by decide +kernel
theorem dL_law_794 : decode cL_law 794 = .ok (.aload_n 0, 1) := by decide +kernel
theorem dL_law_795 : decode cL_law 795 = .ok (.iload_n 3, 1) := by decide +kernel
theorem dL_law_796 : decode cL_law 796 = .ok (.iconst 1, 1) := by decide +kernel
theorem dL_law_797 : decode cL_law 797 = .ok (.iadd, 1) := by decide +kernel
theorem dL_law_798 : decode cL_law 798 = .ok (.iaload, 1) := by decide +kernel
theorem dL_law_799 : decode cL_law 799 = .ok (.aload_n 0, 1) := by decide +kernel
theorem dL_law_800 : decode cL_law 800 = .ok (.iload_n 3, 1) := by decide +kernel
theorem dL_law_801 : decode cL_law 801 = .ok (.iconst 2, 1) := by decide +kernel
theorem dL_law_802 : decode cL_law 802 = .ok (.iadd, 1) := by decide +kernel
theorem dL_law_803 : decode cL_law 803 = .ok (.iaload, 1) := by decide +kernel
theorem dL_law_804 : decode cL_law 804 = .ok (.invokevirtual 103, 3) := by decide +kernel
theorem dL_law_807 : decode cL_law 807 = .ok (.if_icmp .eq 592, 3) := by decide +kernel
theorem dL_law_810 : decode cL_law 810 = .ok (.iconst 0, 1) := by decide +kernel
theorem dL_law_811 : decode cL_law 811 = .ok (.ireturn, 1) := by decide +kernel
theorem dL_law_812 : decode cL_law 812 = .ok (.aload_n 1, 1) := by decide +kernel
theorem dL_law_813 : decode cL_law 813 = .ok (.aload_n 0, 1) := by decide +kernel
theorem dL_law_814 : decode cL_law 814 = .ok (.iload_n 3, 1) := by decide +kernel
theorem dL_law_815 : decode cL_law 815 = .ok (.iconst 1, 1) := by decide +kernel
theorem dL_law_816 : decode cL_law 816 = .ok (.iadd, 1) := by decide +kernel
theorem dL_law_817 : decode cL_law 817 = .ok (.iaload, 1) := by decide +kernel
theorem dL_law_818 : decode cL_law 818 = .ok (.aload_n 0, 1) := by decide +kernel
theorem dL_law_819 : decode cL_law 819 = .ok (.iload_n 3, 1) := by decide +kernel
theorem dL_law_820 : decode cL_law 820 = .ok (.iconst 2, 1) := by decide +kernel
theorem dL_law_821 : decode cL_law 821 = .ok (.iadd, 1) := by decide +kernel
theorem dL_law_822 : decode cL_law 822 = .ok (.iaload, 1) := by decide +kernel
theorem dL_law_823 : decode cL_law 823 = .ok (.invokevirtual 104, 3) := by decide +kernel
theorem dL_law_826 : decode cL_law 826 = .ok (.aload_n 2, 1) := by decide +kernel
theorem dL_law_827 : decode cL_law 827 = .ok (.aload_n 0, 1) := by decide +kernel
theorem dL_law_828 : decode cL_law 828 = .ok (.iload_n 3, 1) := by decide +kernel
theorem dL_law_829 : decode cL_law 829 = .ok (.iconst 1, 1) := by decide +kernel
theorem dL_law_830 : decode cL_law 830 = .ok (.iadd, 1) := by decide +kernel
theorem dL_law_831 : decode cL_law 831 = .ok (.iaload, 1) := by decide +kernel
theorem dL_law_832 : decode cL_law 832 = .ok (.aload_n 0, 1) := by decide +kernel
theorem dL_law_833 : decode cL_law 833 = .ok (.iload_n 3, 1) := by decide +kernel
theorem dL_law_834 : decode cL_law 834 = .ok (.iconst 2, 1) := by decide +kernel
theorem dL_law_835 : decode cL_law 835 = .ok (.iadd, 1) := by decide +kernel
theorem dL_law_836 : decode cL_law 836 = .ok (.iaload, 1) := by decide +kernel
theorem dL_law_837 : decode cL_law 837 = .ok (.invokevirtual 107, 3) := by decide +kernel
theorem dL_law_840 : decode cL_law 840 = .ok (.if_icmp .eq 559, 3) := by decide +kernel
theorem dL_law_843 : decode cL_law 843 = .ok (.iconst 0, 1) := by decide +kernel
theorem dL_law_844 : decode cL_law 844 = .ok (.ireturn, 1) := by decide +kernel
theorem dL_law_845 : decode cL_law 845 = .ok (.aload_n 1, 1) := by decide +kernel
theorem dL_law_846 : decode cL_law 846 = .ok (.invokevirtual 108, 3) := by decide +kernel
theorem dL_law_849 : decode cL_law 849 = .ok (.aload_n 2, 1) := by decide +kernel
theorem dL_law_850 : decode cL_law 850 = .ok (.invokevirtual 111, 3) := by decide +kernel
theorem dL_law_853 : decode cL_law 853 = .ok (.if_icmp .eq 546, 3) := by decide +kernel
theorem dL_law_856 : decode cL_law 856 = .ok (.iconst 0, 1) := by decide +kernel
theorem dL_law_857 : decode cL_law 857 = .ok (.ireturn, 1) := by decide +kernel
theorem dL_law_858 : decode cL_law 858 = .ok (.aload_n 1, 1) := by decide +kernel
theorem dL_law_859 : decode cL_law 859 = .ok (.aload_n 0, 1) := by decide +kernel
theorem dL_law_860 : decode cL_law 860 = .ok (.iload_n 3, 1) := by decide +kernel
theorem dL_law_861 : decode cL_law 861 = .ok (.iconst 1, 1) := by decide +kernel
theorem dL_law_862 : decode cL_law 862 = .ok (.iadd, 1) := by decide +kernel
theorem dL_law_863 : decode cL_law 863 = .ok (.iaload, 1) := by decide +kernel
theorem dL_law_864 : decode cL_law 864 = .ok (.invokevirtual 112, 3) := by decide +kernel
theorem dL_law_867 : decode cL_law 867 = .ok (.aload_n 2, 1) := by decide +kernel
theorem dL_law_868 : decode cL_law 868 = .ok (.aload_n 0, 1) := by decide +kernel
theorem dL_law_869 : decode cL_law 869 = .ok (.iload_n 3, 1) := by decide +kernel
theorem dL_law_870 : decode cL_law 870 = .ok (.iconst 1, 1) := by decide +kernel
theorem dL_law_871 : decode cL_law 871 = .ok (.iadd, 1) := by decide +kernel
theorem dL_law_872 : decode cL_law 872 = .ok (.iaload, 1) := by decide +kernel
theorem dL_law_873 : decode cL_law 873 = .ok (.invokevirtual 115, 3) := by decide +kernel
theorem dL_law_876 : decode cL_law 876 = .ok (.if_icmp .eq 523, 3) := by decide +kernel
theorem dL_law_879 : decode cL_law 879 = .ok (.iconst 0, 1) := by decide +kernel
theorem dL_law_880 : decode cL_law 880 = .ok (.ireturn, 1) := by decide +kernel
theorem dL_law_881 : decode cL_law 881 = .ok (.aload_n 1, 1) := by decide +kernel
theorem dL_law_882 : decode cL_law 882 = .ok (.invokevirtual 116, 3) := by decide +kernel
theorem dL_law_885 : decode cL_law 885 = .ok (.aload_n 2, 1) := by decide +kernel
theorem dL_law_886 : decode cL_law 886 = .ok (.invokevirtual 119, 3) := by decide +kernel
theorem dL_law_889 : decode cL_law 889 = .ok (.if_icmp .eq 510, 3) := by decide +kernel
theorem dL_law_892 : decode cL_law 892 = .ok (.iconst 0, 1) := by decide +kernel
theorem dL_law_893 : decode cL_law 893 = .ok (.ireturn, 1) := by decide +kernel
theorem dL_law_894 : decode cL_law 894 = .ok (.aload_n 1, 1) := by decide +kernel
theorem dL_law_895 : decode cL_law 895 = .ok (.aload_n 0, 1) := by decide +kernel
theorem dL_law_896 : decode cL_law 896 = .ok (.iload_n 3, 1) := by decide +kernel
theorem dL_law_897 : decode cL_law 897 = .ok (.iconst 1, 1) := by decide +kernel
theorem dL_law_898 : decode cL_law 898 = .ok (.iadd, 1) := by decide +kernel
theorem dL_law_899 : decode cL_law 899 = .ok (.iaload, 1) := by decide +kernel
theorem dL_law_900 : decode cL_law 900 = .ok (.aload_n 0, 1) := by decide +kernel
theorem dL_law_901 : decode cL_law 901 = .ok (.iload_n 3, 1) := by decide +kernel
theorem dL_law_902 : decode cL_law 902 = .ok (.iconst 2, 1) := by decide +kernel
theorem dL_law_903 : decode cL_law 903 = .ok (.iadd, 1) := by decide +kernel
theorem dL_law_904 : decode cL_law 904 = .ok (.iaload, 1) := by decide +kernel
theorem dL_law_905 : decode cL_law 905 = .ok (.invokevirtual 120, 3) := by decide +kernel
theorem dL_law_908 : decode cL_law 908 = .ok (.aload_n 2, 1) := by decide +kernel
theorem dL_law_909 : decode cL_law 909 = .ok (.aload_n 0, 1) := by decide +kernel
theorem dL_law_910 : decode cL_law 910 = .ok (.iload_n 3, 1) := by decide +kernel
theorem dL_law_911 : decode cL_law 911 = .ok (.iconst 1, 1) := by decide +kernel
theorem dL_law_912 : decode cL_law 912 = .ok (.iadd, 1) := by decide +kernel
theorem dL_law_913 : decode cL_law 913 = .ok (.iaload, 1) := by decide +kernel
theorem dL_law_914 : decode cL_law 914 = .ok (.aload_n 0, 1) := by decide +kernel
theorem dL_law_915 : decode cL_law 915 = .ok (.iload_n 3, 1) := by decide +kernel
theorem dL_law_916 : decode cL_law 916 = .ok (.iconst 2, 1) := by decide +kernel
theorem dL_law_917 : decode cL_law 917 = .ok (.iadd, 1) := by decide +kernel
theorem dL_law_918 : decode cL_law 918 = .ok (.iaload, 1) := by decide +kernel
theorem dL_law_919 : decode cL_law 919 = .ok (.invokevirtual 123, 3) := by decide +kernel
theorem dL_law_922 : decode cL_law 922 = .ok (.if_icmp .eq 477, 3) := by decide +kernel
theorem dL_law_925 : decode cL_law 925 = .ok (.iconst 0, 1) := by decide +kernel
theorem dL_law_926 : decode cL_law 926 = .ok (.ireturn, 1) := by decide +kernel
theorem dL_law_927 : decode cL_law 927 = .ok (.aload_n 1, 1) := by decide +kernel
theorem dL_law_928 : decode cL_law 928 = .ok (.aload_n 0, 1) := by decide +kernel
theorem dL_law_929 : decode cL_law 929 = .ok (.iload_n 3, 1) := by decide +kernel
theorem dL_law_930 : decode cL_law 930 = .ok (.iconst 1, 1) := by decide +kernel
theorem dL_law_931 : decode cL_law 931 = .ok (.iadd, 1) := by decide +kernel
theorem dL_law_932 : decode cL_law 932 = .ok (.iaload, 1) := by decide +kernel
theorem dL_law_933 : decode cL_law 933 = .ok (.invokevirtual 124, 3) := by decide +kernel
theorem dL_law_936 : decode cL_law 936 = .ok (.aload_n 2, 1) := by decide +kernel
theorem dL_law_937 : decode cL_law 937 = .ok (.aload_n 0, 1) := by decide +kernel
theorem dL_law_938 : decode cL_law 938 = .ok (.iload_n 3, 1) := by decide +kernel
theorem dL_law_939 : decode cL_law 939 = .ok (.iconst 1, 1) := by decide +kernel
theorem dL_law_940 : decode cL_law 940 = .ok (.iadd, 1) := by decide +kernel
theorem dL_law_941 : decode cL_law 941 = .ok (.iaload, 1) := by decide +kernel
theorem dL_law_942 : decode cL_law 942 = .ok (.invokevirtual 127, 3) := by decide +kernel
theorem dL_law_945 : decode cL_law 945 = .ok (.if_icmp .eq 454, 3) := by decide +kernel
theorem dL_law_948 : decode cL_law 948 = .ok (.iconst 0, 1) := by decide +kernel
theorem dL_law_949 : decode cL_law 949 = .ok (.ireturn, 1) := by decide +kernel
theorem dL_law_950 : decode cL_law 950 = .ok (.aload_n 1, 1) := by decide +kernel
theorem dL_law_951 : decode cL_law 951 = .ok (.aload_n 0, 1) := by decide +kernel
theorem dL_law_952 : decode cL_law 952 = .ok (.iload_n 3, 1) := by decide +kernel
theorem dL_law_953 : decode cL_law 953 = .ok (.iconst 1, 1) := by decide +kernel
theorem dL_law_954 : decode cL_law 954 = .ok (.iadd, 1) := by decide +kernel
theorem dL_law_955 : decode cL_law 955 = .ok (.iaload, 1) := by decide +kernel
theorem dL_law_956 : decode cL_law 956 = .ok (.invokevirtual 128, 3) := by decide +kernel
theorem dL_law_959 : decode cL_law 959 = .ok (.aload_n 2, 1) := by decide +kernel
theorem dL_law_960 : decode cL_law 960 = .ok (.aload_n 0, 1) := by decide +kernel
theorem dL_law_961 : decode cL_law 961 = .ok (.iload_n 3, 1) := by decide +kernel
theorem dL_law_962 : decode cL_law 962 = .ok (.iconst 1, 1) := by decide +kernel
theorem dL_law_963 : decode cL_law 963 = .ok (.iadd, 1) := by decide +kernel
theorem dL_law_964 : decode cL_law 964 = .ok (.iaload, 1) := by decide +kernel
theorem dL_law_965 : decode cL_law 965 = .ok (.invokevirtual 131, 3) := by decide +kernel
theorem dL_law_968 : decode cL_law 968 = .ok (.if_icmp .eq 431, 3) := by decide +kernel
theorem dL_law_971 : decode cL_law 971 = .ok (.iconst 0, 1) := by decide +kernel
theorem dL_law_972 : decode cL_law 972 = .ok (.ireturn, 1) := by decide +kernel
theorem dL_law_973 : decode cL_law 973 = .ok (.aload_n 1, 1) := by decide +kernel
theorem dL_law_974 : decode cL_law 974 = .ok (.aload_n 0, 1) := by decide +kernel
theorem dL_law_975 : decode cL_law 975 = .ok (.iload_n 3, 1) := by decide +kernel
theorem dL_law_976 : decode cL_law 976 = .ok (.iconst 1, 1) := by decide +kernel
theorem dL_law_977 : decode cL_law 977 = .ok (.iadd, 1) := by decide +kernel
theorem dL_law_978 : decode cL_law 978 = .ok (.iaload, 1) := by decide +kernel
theorem dL_law_979 : decode cL_law 979 = .ok (.invokevirtual 132, 3) := by decide +kernel
theorem dL_law_982 : decode cL_law 982 = .ok (.aload_n 2, 1) := by decide +kernel
theorem dL_law_983 : decode cL_law 983 = .ok (.aload_n 0, 1) := by decide +kernel
theorem dL_law_984 : decode cL_law 984 = .ok (.iload_n 3, 1) := by decide +kernel
theorem dL_law_985 : decode cL_law 985 = .ok (.iconst 1, 1) := by decide +kernel
theorem dL_law_986 : decode cL_law 986 = .ok (.iadd, 1) := by decide +kernel
theorem dL_law_987 : decode cL_law 987 = .ok (.iaload, 1) := by decide +kernel
theorem dL_law_988 : decode cL_law 988 = .ok (.invokevirtual 135, 3) := by decide +kernel
theorem dL_law_991 : decode cL_law 991 = .ok (.if_icmp .eq 408, 3) := by decide +kernel
theorem dL_law_994 : decode cL_law 994 = .ok (.iconst 0, 1) := by decide +kernel
theorem dL_law_995 : decode cL_law 995 = .ok (.ireturn, 1) := by decide +kernel
theorem dL_law_996 : decode cL_law 996 = .ok (.aload_n 1, 1) := by decide +kernel
theorem dL_law_997 : decode cL_law 997 = .ok (.aload_n 0, 1) := by decide +kernel
theorem dL_law_998 : decode cL_law 998 = .ok (.iload_n 3, 1) := by decide +kernel
theorem dL_law_999 : decode cL_law 999 = .ok (.iconst 1, 1) := by decide +kernel
theorem dL_law_1000 : decode cL_law 1000 = .ok (.iadd, 1) := by decide +kernel
theorem dL_law_1001 : decode cL_law 1001 = .ok (.iaload, 1) := by decide +kernel
theorem dL_law_1002 : decode cL_law 1002 = .ok (.aload_n 0, 1) := by decide +kernel
theorem dL_law_1003 : decode cL_law 1003 = .ok (.iload_n 3, 1) := by decide +kernel
theorem dL_law_1004 : decode cL_law 1004 = .ok (.iconst 2, 1) := by decide +kernel
theorem dL_law_1005 : decode cL_law 1005 = .ok (.iadd, 1) := by decide +kernel
theorem dL_law_1006 : decode cL_law 1006 = .ok (.iaload, 1) := by decide +kernel
theorem dL_law_1007 : decode cL_law 1007 = .ok (.invokevirtual 136, 3) := by decide +kernel
theorem dL_law_1010 : decode cL_law 1010 = .ok (.aload_n 2, 1) := by decide +kernel
theorem dL_law_1011 : decode cL_law 1011 = .ok (.aload_n 0, 1) := by decide +kernel
theorem dL_law_1012 : decode cL_law 1012 = .ok (.iload_n 3, 1) := by decide +kernel
theorem dL_law_1013 : decode cL_law 1013 = .ok (.iconst 1, 1) := by decide +kernel
theorem dL_law_1014 : decode cL_law 1014 = .ok (.iadd, 1) := by decide +kernel
theorem dL_law_1015 : decode cL_law 1015 = .ok (.iaload, 1) := by decide +kernel
theorem dL_law_1016 : decode cL_law 1016 = .ok (.aload_n 0, 1) := by decide +kernel
theorem dL_law_1017 : decode cL_law 1017 = .ok (.iload_n 3, 1) := by decide +kernel
theorem dL_law_1018 : decode cL_law 1018 = .ok (.iconst 2, 1) := by decide +kernel
theorem dL_law_1019 : decode cL_law 1019 = .ok (.iadd, 1) := by decide +kernel
theorem dL_law_1020 : decode cL_law 1020 = .ok (.iaload, 1) := by decide +kernel
theorem dL_law_1021 : decode cL_law 1021 = .ok (.invokevirtual 139, 3) := by decide +kernel
theorem dL_law_1024 : decode cL_law 1024 = .ok (.if_icmp .eq 375, 3) := by decide +kernel
theorem dL_law_1027 : decode cL_law 1027 = .ok (.iconst 0, 1) := by decide +kernel
theorem dL_law_1028 : decode cL_law 1028 = .ok (.ireturn, 1) := by decide +kernel
theorem dL_law_1029 : decode cL_law 1029 = .ok (.aload_n 1, 1) := by decide +kernel
theorem dL_law_1030 : decode cL_law 1030 = .ok (.invokevirtual 140, 3) := by decide +kernel
theorem dL_law_1033 : decode cL_law 1033 = .ok (.aload_n 2, 1) := by decide +kernel
theorem dL_law_1034 : decode cL_law 1034 = .ok (.invokevirtual 143, 3) := by decide +kernel
theorem dL_law_1037 : decode cL_law 1037 = .ok (.if_icmp .eq 362, 3) := by decide +kernel
theorem dL_law_1040 : decode cL_law 1040 = .ok (.iconst 0, 1) := by decide +kernel
theorem dL_law_1041 : decode cL_law 1041 = .ok (.ireturn, 1) := by decide +kernel
theorem dL_law_1042 : decode cL_law 1042 = .ok (.aload_n 1, 1) := by decide +kernel
theorem dL_law_1043 : decode cL_law 1043 = .ok (.invokevirtual 144, 3) := by decide +kernel
theorem dL_law_1046 : decode cL_law 1046 = .ok (.aload_n 2, 1) := by decide +kernel
theorem dL_law_1047 : decode cL_law 1047 = .ok (.invokevirtual 147, 3) := by decide +kernel
theorem dL_law_1050 : decode cL_law 1050 = .ok (.if_icmp .eq 349, 3) := by decide +kernel
theorem dL_law_1053 : decode cL_law 1053 = .ok (.iconst 0, 1) := by decide +kernel
theorem dL_law_1054 : decode cL_law 1054 = .ok (.ireturn, 1) := by decide +kernel
theorem dL_law_1055 : decode cL_law 1055 = .ok (.aload_n 1, 1) := by decide +kernel
theorem dL_law_1056 : decode cL_law 1056 = .ok (.aload_n 0, 1) := by decide +kernel
theorem dL_law_1057 : decode cL_law 1057 = .ok (.iload_n 3, 1) := by decide +kernel
theorem dL_law_1058 : decode cL_law 1058 = .ok (.iconst 1, 1) := by decide +kernel
theorem dL_law_1059 : decode cL_law 1059 = .ok (.iadd, 1) := by decide +kernel
theorem dL_law_1060 : decode cL_law 1060 = .ok (.iaload, 1) := by decide +kernel
theorem dL_law_1061 : decode cL_law 1061 = .ok (.aload_n 0, 1) := by decide +kernel
theorem dL_law_1062 : decode cL_law 1062 = .ok (.iload_n 3, 1) := by decide +kernel
theorem dL_law_1063 : decode cL_law 1063 = .ok (.iconst 2, 1) := by decide +kernel
theorem dL_law_1064 : decode cL_law 1064 = .ok (.iadd, 1) := by decide +kernel
theorem dL_law_1065 : decode cL_law 1065 = .ok (.iaload, 1) := by decide +kernel
theorem dL_law_1066 : decode cL_law 1066 = .ok (.aload_n 0, 1) := by decide +kernel
theorem dL_law_1067 : decode cL_law 1067 = .ok (.iload_n 3, 1) := by decide +kernel
theorem dL_law_1068 : decode cL_law 1068 = .ok (.iconst 3, 1) := by decide +kernel
theorem dL_law_1069 : decode cL_law 1069 = .ok (.iadd, 1) := by decide +kernel
theorem dL_law_1070 : decode cL_law 1070 = .ok (.iaload, 1) := by decide +kernel
theorem dL_law_1071 : decode cL_law 1071 = .ok (.invokevirtual 148, 3) := by decide +kernel
theorem dL_law_1074 : decode cL_law 1074 = .ok (.aload_n 2, 1) := by decide +kernel
theorem dL_law_1075 : decode cL_law 1075 = .ok (.aload_n 0, 1) := by decide +kernel
theorem dL_law_1076 : decode cL_law 1076 = .ok (.iload_n 3, 1) := by decide +kernel
theorem dL_law_1077 : decode cL_law 1077 = .ok (.iconst 1, 1) := by decide +kernel
theorem dL_law_1078 : decode cL_law 1078 = .ok (.iadd, 1) := by decide +kernel
theorem dL_law_1079 : decode cL_law 1079 = .ok (.iaload, 1) := by decide +kernel
theorem dL_law_1080 : decode cL_law 1080 = .ok (.aload_n 0, 1) := by decide +kernel
theorem dL_law_1081 : decode cL_law 1081 = .ok (.iload_n 3, 1) := by decide +kernel
theorem dL_law_1082 : decode cL_law 1082 = .ok (.iconst 2, 1) := by decide +kernel
theorem dL_law_1083 : decode cL_law 1083 = .ok (.iadd, 1) := by decide +kernel
theorem dL_law_1084 : decode cL_law 1084 = .ok (.iaload, 1) := by decide +kernel
theorem dL_law_1085 : decode cL_law 1085 = .ok (.aload_n 0, 1) := by decide +kernel
theorem dL_law_1086 : decode cL_law 1086 = .ok (.iload_n 3, 1) := by decide +kernel
theorem dL_law_1087 : decode cL_law 1087 = .ok (.iconst 3, 1) := by decide +kernel
theorem dL_law_1088 : decode cL_law 1088 = .ok (.iadd, 1) := by decide +kernel
theorem dL_law_1089 : decode cL_law 1089 = .ok (.iaload, 1) := by decide +kernel
theorem dL_law_1090 : decode cL_law 1090 = .ok (.invokevirtual 151, 3) := by decide +kernel
theorem dL_law_1093 : decode cL_law 1093 = .ok (.if_icmp .eq 306, 3) := by decide +kernel
theorem dL_law_1096 : decode cL_law 1096 = .ok (.iconst 0, 1) := by decide +kernel
theorem dL_law_1097 : decode cL_law 1097 = .ok (.ireturn, 1) := by decide +kernel
theorem dL_law_1098 : decode cL_law 1098 = .ok (.aload_n 1, 1) := by decide +kernel
theorem dL_law_1099 : decode cL_law 1099 = .ok (.aload_n 0, 1) := by decide +kernel
theorem dL_law_1100 : decode cL_law 1100 = .ok (.iload_n 3, 1) := by decide +kernel
theorem dL_law_1101 : decode cL_law 1101 = .ok (.iconst 1, 1) := by decide +kernel
theorem dL_law_1102 : decode cL_law 1102 = .ok (.iadd, 1) := by decide +kernel
theorem dL_law_1103 : decode cL_law 1103 = .ok (.iaload, 1) := by decide +kernel
theorem dL_law_1104 : decode cL_law 1104 = .ok (.aload_n 0, 1) := by decide +kernel
theorem dL_law_1105 : decode cL_law 1105 = .ok (.iload_n 3, 1) := by decide +kernel
theorem dL_law_1106 : decode cL_law 1106 = .ok (.iconst 2, 1) := by decide +kernel
theorem dL_law_1107 : decode cL_law 1107 = .ok (.iadd, 1) := by decide +kernel
theorem dL_law_1108 : decode cL_law 1108 = .ok (.iaload, 1) := by decide +kernel
theorem dL_law_1109 : decode cL_law 1109 = .ok (.aload_n 0, 1) := by decide +kernel
theorem dL_law_1110 : decode cL_law 1110 = .ok (.iload_n 3, 1) := by decide +kernel
theorem dL_law_1111 : decode cL_law 1111 = .ok (.iconst 3, 1) := by decide +kernel
theorem dL_law_1112 : decode cL_law 1112 = .ok (.iadd, 1) := by decide +kernel
theorem dL_law_1113 : decode cL_law 1113 = .ok (.iaload, 1) := by decide +kernel
theorem dL_law_1114 : decode cL_law 1114 = .ok (.i2l, 1) := by decide +kernel
theorem dL_law_1115 : decode cL_law 1115 = .ok (.bipush 32, 2) := by decide +kernel
theorem dL_law_1117 : decode cL_law 1117 = .ok (.lshl, 1) := by decide +kernel
theorem dL_law_1118 : decode cL_law 1118 = .ok (.aload_n 0, 1) := by decide +kernel
theorem dL_law_1119 : decode cL_law 1119 = .ok (.iload_n 3, 1) := by decide +kernel
theorem dL_law_1120 : decode cL_law 1120 = .ok (.iconst 4, 1) := by decide +kernel
theorem dL_law_1121 : decode cL_law 1121 = .ok (.iadd, 1) := by decide +kernel
theorem dL_law_1122 : decode cL_law 1122 = .ok (.iaload, 1) := by decide +kernel
theorem dL_law_1123 : decode cL_law 1123 = .ok (.i2l, 1) := by decide +kernel
theorem dL_law_1124 : decode cL_law 1124 = .ok (.ldc2_w 152, 3) := by decide +kernel
theorem dL_law_1127 : decode cL_law 1127 = .ok (.land, 1) := by decide +kernel
theorem dL_law_1128 : decode cL_law 1128 = .ok (.lor, 1) := by decide +kernel
theorem dL_law_1129 : decode cL_law 1129 = .ok (.invokevirtual 154, 3) := by decide +kernel
theorem dL_law_1132 : decode cL_law 1132 = .ok (.aload_n 2, 1) := by decide +kernel
theorem dL_law_1133 : decode cL_law 1133 = .ok (.aload_n 0, 1) := by decide +kernel
theorem dL_law_1134 : decode cL_law 1134 = .ok (.iload_n 3, 1) := by decide +kernel
theorem dL_law_1135 : decode cL_law 1135 = .ok (.iconst 1, 1) := by decide +kernel
theorem dL_law_1136 : decode cL_law 1136 = .ok (.iadd, 1) := by decide +kernel
theorem dL_law_1137 : decode cL_law 1137 = .ok (.iaload, 1) := by decide +kernel
theorem dL_law_1138 : decode cL_law 1138 = .ok (.aload_n 0, 1) := by decide +kernel
theorem dL_law_1139 : decode cL_law 1139 = .ok (.iload_n 3, 1) := by decide +kernel
theorem dL_law_1140 : decode cL_law 1140 = .ok (.iconst 2, 1) := by decide +kernel
theorem dL_law_1141 : decode cL_law 1141 = .ok (.iadd, 1) := by decide +kernel
theorem dL_law_1142 : decode cL_law 1142 = .ok (.iaload, 1) := by decide +kernel
theorem dL_law_1143 : decode cL_law 1143 = .ok (.aload_n 0, 1) := by decide +kernel
theorem dL_law_1144 : decode cL_law 1144 = .ok (.iload_n 3, 1) := by decide +kernel
theorem dL_law_1145 : decode cL_law 1145 = .ok (.iconst 3, 1) := by decide +kernel
theorem dL_law_1146 : decode cL_law 1146 = .ok (.iadd, 1) := by decide +kernel
theorem dL_law_1147 : decode cL_law 1147 = .ok (.iaload, 1) := by decide +kernel
theorem dL_law_1148 : decode cL_law 1148 = .ok (.i2l, 1) := by decide +kernel
theorem dL_law_1149 : decode cL_law 1149 = .ok (.bipush 32, 2) := by decide +kernel
theorem dL_law_1151 : decode cL_law 1151 = .ok (.lshl, 1) := by decide +kernel
theorem dL_law_1152 : decode cL_law 1152 = .ok (.aload_n 0, 1) := by decide +kernel
theorem dL_law_1153 : decode cL_law 1153 = .ok (.iload_n 3, 1) := by decide +kernel
theorem dL_law_1154 : decode cL_law 1154 = .ok (.iconst 4, 1) := by decide +kernel
theorem dL_law_1155 : decode cL_law 1155 = .ok (.iadd, 1) := by decide +kernel
theorem dL_law_1156 : decode cL_law 1156 = .ok (.iaload, 1) := by decide +kernel
theorem dL_law_1157 : decode cL_law 1157 = .ok (.i2l, 1) := by decide +kernel
theorem dL_law_1158 : decode cL_law 1158 = .ok (.ldc2_w 152, 3) := by decide +kernel
theorem dL_law_1161 : decode cL_law 1161 = .ok (.land, 1) := by decide +kernel
theorem dL_law_1162 : decode cL_law 1162 = .ok (.lor, 1) := by decide +kernel
theorem dL_law_1163 : decode cL_law 1163 = .ok (.invokevirtual 158, 3) := by decide +kernel
theorem dL_law_1166 : decode cL_law 1166 = .ok (.lcmp, 1) := by decide +kernel
theorem dL_law_1167 : decode cL_law 1167 = .ok (.ifCond .eq 232, 3) := by decide +kernel
theorem dL_law_1170 : decode cL_law 1170 = .ok (.iconst 0, 1) := by decide +kernel
theorem dL_law_1171 : decode cL_law 1171 = .ok (.ireturn, 1) := by decide +kernel
theorem dL_law_1172 : decode cL_law 1172 = .ok (.aload_n 1, 1) := by decide +kernel
theorem dL_law_1173 : decode cL_law 1173 = .ok (.aload_n 0, 1) := by decide +kernel
theorem dL_law_1174 : decode cL_law 1174 = .ok (.iload_n 3, 1) := by decide +kernel
theorem dL_law_1175 : decode cL_law 1175 = .ok (.iconst 1, 1) := by decide +kernel
theorem dL_law_1176 : decode cL_law 1176 = .ok (.iadd, 1) := by decide +kernel
theorem dL_law_1177 : decode cL_law 1177 = .ok (.iaload, 1) := by decide +kernel
theorem dL_law_1178 : decode cL_law 1178 = .ok (.aload_n 0, 1) := by decide +kernel
theorem dL_law_1179 : decode cL_law 1179 = .ok (.iload_n 3, 1) := by decide +kernel
theorem dL_law_1180 : decode cL_law 1180 = .ok (.iconst 2, 1) := by decide +kernel
theorem dL_law_1181 : decode cL_law 1181 = .ok (.iadd, 1) := by decide +kernel
theorem dL_law_1182 : decode cL_law 1182 = .ok (.iaload, 1) := by decide +kernel
theorem dL_law_1183 : decode cL_law 1183 = .ok (.aload_n 0, 1) := by decide +kernel
theorem dL_law_1184 : decode cL_law 1184 = .ok (.iload_n 3, 1) := by decide +kernel
theorem dL_law_1185 : decode cL_law 1185 = .ok (.iconst 3, 1) := by decide +kernel
theorem dL_law_1186 : decode cL_law 1186 = .ok (.iadd, 1) := by decide +kernel
theorem dL_law_1187 : decode cL_law 1187 = .ok (.iaload, 1) := by decide +kernel
theorem dL_law_1188 : decode cL_law 1188 = .ok (.aload_n 0, 1) := by decide +kernel
theorem dL_law_1189 : decode cL_law 1189 = .ok (.iload_n 3, 1) := by decide +kernel
theorem dL_law_1190 : decode cL_law 1190 = .ok (.iconst 4, 1) := by decide +kernel
theorem dL_law_1191 : decode cL_law 1191 = .ok (.iadd, 1) := by decide +kernel
theorem dL_law_1192 : decode cL_law 1192 = .ok (.iaload, 1) := by decide +kernel
theorem dL_law_1193 : decode cL_law 1193 = .ok (.aload_n 0, 1) := by decide +kernel
theorem dL_law_1194 : decode cL_law 1194 = .ok (.iload_n 3, 1) := by decide +kernel
theorem dL_law_1195 : decode cL_law 1195 = .ok (.iconst 5, 1) := by decide +kernel
theorem dL_law_1196 : decode cL_law 1196 = .ok (.iadd, 1) := by decide +kernel
theorem dL_law_1197 : decode cL_law 1197 = .ok (.iaload, 1) := by decide +kernel
theorem dL_law_1198 : decode cL_law 1198 = .ok (.invokevirtual 159, 3) := by decide +kernel
theorem dL_law_1201 : decode cL_law 1201 = .ok (.aload_n 2, 1) := by decide +kernel
theorem dL_law_1202 : decode cL_law 1202 = .ok (.aload_n 0, 1) := by decide +kernel
theorem dL_law_1203 : decode cL_law 1203 = .ok (.iload_n 3, 1) := by decide +kernel
theorem dL_law_1204 : decode cL_law 1204 = .ok (.iconst 1, 1) := by decide +kernel
theorem dL_law_1205 : decode cL_law 1205 = .ok (.iadd, 1) := by decide +kernel
theorem dL_law_1206 : decode cL_law 1206 = .ok (.iaload, 1) := by decide +kernel
theorem dL_law_1207 : decode cL_law 1207 = .ok (.aload_n 0, 1) := by decide +kernel
theorem dL_law_1208 : decode cL_law 1208 = .ok (.iload_n 3, 1) := by decide +kernel
theorem dL_law_1209 : decode cL_law 1209 = .ok (.iconst 2, 1) := by decide +kernel
theorem dL_law_1210 : decode cL_law 1210 = .ok (.iadd, 1) := by decide +kernel
theorem dL_law_1211 : decode cL_law 1211 = .ok (.iaload, 1) := by decide +kernel
theorem dL_law_1212 : decode cL_law 1212 = .ok (.aload_n 0, 1) := by decide +kernel
theorem dL_law_1213 : decode cL_law 1213 = .ok (.iload_n 3, 1) := by decide +kernel
theorem dL_law_1214 : decode cL_law 1214 = .ok (.iconst 3, 1) := by decide +kernel
theorem dL_law_1215 : decode cL_law 1215 = .ok (.iadd, 1) := by decide +kernel
theorem dL_law_1216 : decode cL_law 1216 = .ok (.iaload, 1) := by decide +kernel
theorem dL_law_1217 : decode cL_law 1217 = .ok (.aload_n 0, 1) := by decide +kernel
theorem dL_law_1218 : decode cL_law 1218 = .ok (.iload_n 3, 1) := by decide +kernel
theorem dL_law_1219 : decode cL_law 1219 = .ok (.iconst 4, 1) := by decide +kernel
theorem dL_law_1220 : decode cL_law 1220 = .ok (.iadd, 1) := by decide +kernel
theorem dL_law_1221 : decode cL_law 1221 = .ok (.iaload, 1) := by decide +kernel
theorem dL_law_1222 : decode cL_law 1222 = .ok (.aload_n 0, 1) := by decide +kernel
theorem dL_law_1223 : decode cL_law 1223 = .ok (.iload_n 3, 1) := by decide +kernel
theorem dL_law_1224 : decode cL_law 1224 = .ok (.iconst 5, 1) := by decide +kernel
theorem dL_law_1225 : decode cL_law 1225 = .ok (.iadd, 1) := by decide +kernel
theorem dL_law_1226 : decode cL_law 1226 = .ok (.iaload, 1) := by decide +kernel
theorem dL_law_1227 : decode cL_law 1227 = .ok (.invokevirtual 163, 3) := by decide +kernel
theorem dL_law_1230 : decode cL_law 1230 = .ok (.if_icmp .eq 169, 3) := by decide +kernel
theorem dL_law_1233 : decode cL_law 1233 = .ok (.iconst 0, 1) := by decide +kernel
theorem dL_law_1234 : decode cL_law 1234 = .ok (.ireturn, 1) := by decide +kernel
theorem dL_law_1235 : decode cL_law 1235 = .ok (.aload_n 1, 1) := by decide +kernel
theorem dL_law_1236 : decode cL_law 1236 = .ok (.aload_n 0, 1) := by decide +kernel
theorem dL_law_1237 : decode cL_law 1237 = .ok (.iload_n 3, 1) := by decide +kernel
theorem dL_law_1238 : decode cL_law 1238 = .ok (.iconst 1, 1) := by decide +kernel
theorem dL_law_1239 : decode cL_law 1239 = .ok (.iadd, 1) := by decide +kernel
theorem dL_law_1240 : decode cL_law 1240 = .ok (.iaload, 1) := by decide +kernel
theorem dL_law_1241 : decode cL_law 1241 = .ok (.invokevirtual 164, 3) := by decide +kernel
theorem dL_law_1244 : decode cL_law 1244 = .ok (.aload_n 2, 1) := by decide +kernel
theorem dL_law_1245 : decode cL_law 1245 = .ok (.aload_n 0, 1) := by decide +kernel
theorem dL_law_1246 : decode cL_law 1246 = .ok (.iload_n 3, 1) := by decide +kernel
theorem dL_law_1247 : decode cL_law 1247 = .ok (.iconst 1, 1) := by decide +kernel
theorem dL_law_1248 : decode cL_law 1248 = .ok (.iadd, 1) := by decide +kernel
theorem dL_law_1249 : decode cL_law 1249 = .ok (.iaload, 1) := by decide +kernel
theorem dL_law_1250 : decode cL_law 1250 = .ok (.invokevirtual 167, 3) := by decide +kernel
theorem dL_law_1253 : decode cL_law 1253 = .ok (.if_icmp .eq 146, 3) := by decide +kernel
theorem dL_law_1256 : decode cL_law 1256 = .ok (.iconst 0, 1) := by decide +kernel
theorem dL_law_1257 : decode cL_law 1257 = .ok (.ireturn, 1) := by decide +kernel
theorem dL_law_1258 : decode cL_law 1258 = .ok (.aload_n 1, 1) := by decide +kernel
theorem dL_law_1259 : decode cL_law 1259 = .ok (.aload_n 0, 1) := by decide +kernel
theorem dL_law_1260 : decode cL_law 1260 = .ok (.iload_n 3, 1) := by decide +kernel
theorem dL_law_1261 : decode cL_law 1261 = .ok (.iconst 1, 1) := by decide +kernel
theorem dL_law_1262 : decode cL_law 1262 = .ok (.iadd, 1) := by decide +kernel
theorem dL_law_1263 : decode cL_law 1263 = .ok (.iaload, 1) := by decide +kernel
theorem dL_law_1264 : decode cL_law 1264 = .ok (.aload_n 0, 1) := by decide +kernel
theorem dL_law_1265 : decode cL_law 1265 = .ok (.iload_n 3, 1) := by decide +kernel
theorem dL_law_1266 : decode cL_law 1266 = .ok (.iconst 2, 1) := by decide +kernel
theorem dL_law_1267 : decode cL_law 1267 = .ok (.iadd, 1) := by decide +kernel
theorem dL_law_1268 : decode cL_law 1268 = .ok (.iaload, 1) := by decide +kernel
theorem dL_law_1269 : decode cL_law 1269 = .ok (.invokevirtual 168, 3) := by decide +kernel
theorem dL_law_1272 : decode cL_law 1272 = .ok (.aload_n 2, 1) := by decide +kernel
theorem dL_law_1273 : decode cL_law 1273 = .ok (.aload_n 0, 1) := by decide +kernel
theorem dL_law_1274 : decode cL_law 1274 = .ok (.iload_n 3, 1) := by decide +kernel
theorem dL_law_1275 : decode cL_law 1275 = .ok (.iconst 1, 1) := by decide +kernel
theorem dL_law_1276 : decode cL_law 1276 = .ok (.iadd, 1) := by decide +kernel
theorem dL_law_1277 : decode cL_law 1277 = .ok (.iaload, 1) := by decide +kernel
theorem dL_law_1278 : decode cL_law 1278 = .ok (.aload_n 0, 1) := by decide +kernel
theorem dL_law_1279 : decode cL_law 1279 = .ok (.iload_n 3, 1) := by decide +kernel
theorem dL_law_1280 : decode cL_law 1280 = .ok (.iconst 2, 1) := by decide +kernel
theorem dL_law_1281 : decode cL_law 1281 = .ok (.iadd, 1) := by decide +kernel
theorem dL_law_1282 : decode cL_law 1282 = .ok (.iaload, 1) := by decide +kernel
theorem dL_law_1283 : decode cL_law 1283 = .ok (.invokevirtual 171, 3) := by decide +kernel
theorem dL_law_1286 : decode cL_law 1286 = .ok (.if_icmp .eq 113, 3) := by decide +kernel
theorem dL_law_1289 : decode cL_law 1289 = .ok (.iconst 0, 1) := by decide +kernel
theorem dL_law_1290 : decode cL_law 1290 = .ok (.ireturn, 1) := by decide +kernel
theorem dL_law_1291 : decode cL_law 1291 = .ok (.aload_n 1, 1) := by decide +kernel
theorem dL_law_1292 : decode cL_law 1292 = .ok (.aload_n 0, 1) := by decide +kernel
theorem dL_law_1293 : decode cL_law 1293 = .ok (.iload_n 3, 1) := by decide +kernel
theorem dL_law_1294 : decode cL_law 1294 = .ok (.iconst 1, 1) := by decide +kernel
theorem dL_law_1295 : decode cL_law 1295 = .ok (.iadd, 1) := by decide +kernel
theorem dL_law_1296 : decode cL_law 1296 = .ok (.iaload, 1) := by decide +kernel
theorem dL_law_1297 : decode cL_law 1297 = .ok (.invokevirtual 172, 3) := by decide +kernel
theorem dL_law_1300 : decode cL_law 1300 = .ok (.aload_n 2, 1) := by decide +kernel
theorem dL_law_1301 : decode cL_law 1301 = .ok (.aload_n 0, 1) := by decide +kernel
theorem dL_law_1302 : decode cL_law 1302 = .ok (.iload_n 3, 1) := by decide +kernel
theorem dL_law_1303 : decode cL_law 1303 = .ok (.iconst 1, 1) := by decide +kernel
theorem dL_law_1304 : decode cL_law 1304 = .ok (.iadd, 1) := by decide +kernel
theorem dL_law_1305 : decode cL_law 1305 = .ok (.iaload, 1) := by decide +kernel
theorem dL_law_1306 : decode cL_law 1306 = .ok (.invokevirtual 175, 3) := by decide +kernel
theorem dL_law_1309 : decode cL_law 1309 = .ok (.if_icmp .eq 90, 3) := by decide +kernel
theorem dL_law_1312 : decode cL_law 1312 = .ok (.iconst 0, 1) := by decide +kernel
theorem dL_law_1313 : decode cL_law 1313 = .ok (.ireturn, 1) := by decide +kernel
theorem dL_law_1314 : decode cL_law 1314 = .ok (.aload_n 1, 1) := by decide +kernel
theorem dL_law_1315 : decode cL_law 1315 = .ok (.invokevirtual 176, 3) := by decide +kernel
theorem dL_law_1318 : decode cL_law 1318 = .ok (.aload_n 2, 1) := by decide +kernel
theorem dL_law_1319 : decode cL_law 1319 = .ok (.invokevirtual 179, 3) := by decide +kernel
theorem dL_law_1322 : decode cL_law 1322 = .ok (.if_icmp .eq 77, 3) := by decide +kernel
theorem dL_law_1325 : decode cL_law 1325 = .ok (.iconst 0, 1) := by decide +kernel
theorem dL_law_1326 : decode cL_law 1326 = .ok (.ireturn, 1) := by decide +kernel
theorem dL_law_1327 : decode cL_law 1327 = .ok (.aload_n 1, 1) := by decide +kernel
theorem dL_law_1328 : decode cL_law 1328 = .ok (.invokevirtual 180, 3) := by decide +kernel
theorem dL_law_1331 : decode cL_law 1331 = .ok (.aload_n 2, 1) := by decide +kernel
theorem dL_law_1332 : decode cL_law 1332 = .ok (.invokevirtual 183, 3) := by decide +kernel
theorem dL_law_1335 : decode cL_law 1335 = .ok (.if_icmp .eq 64, 3) := by decide +kernel
theorem dL_law_1338 : decode cL_law 1338 = .ok (.iconst 0, 1) := by decide +kernel
theorem dL_law_1339 : decode cL_law 1339 = .ok (.ireturn, 1) := by decide +kernel
theorem dL_law_1340 : decode cL_law 1340 = .ok (.aload_n 1, 1) := by decide +kernel
theorem dL_law_1341 : decode cL_law 1341 = .ok (.invokevirtual 184, 3) := by decide +kernel
theorem dL_law_1344 : decode cL_law 1344 = .ok (.aload_n 2, 1) := by decide +kernel
theorem dL_law_1345 : decode cL_law 1345 = .ok (.invokevirtual 187, 3) := by decide +kernel
theorem dL_law_1348 : decode cL_law 1348 = .ok (.if_icmp .eq 51, 3) := by decide +kernel
theorem dL_law_1351 : decode cL_law 1351 = .ok (.iconst 0, 1) := by decide +kernel
theorem dL_law_1352 : decode cL_law 1352 = .ok (.ireturn, 1) := by decide +kernel
theorem dL_law_1353 : decode cL_law 1353 = .ok (.aload_n 1, 1) := by decide +kernel
theorem dL_law_1354 : decode cL_law 1354 = .ok (.aload_n 0, 1) := by decide +kernel
theorem dL_law_1355 : decode cL_law 1355 = .ok (.iload_n 3, 1) := by decide +kernel
theorem dL_law_1356 : decode cL_law 1356 = .ok (.iconst 1, 1) := by decide +kernel
theorem dL_law_1357 : decode cL_law 1357 = .ok (.iadd, 1) := by decide +kernel
theorem dL_law_1358 : decode cL_law 1358 = .ok (.iaload, 1) := by decide +kernel
theorem dL_law_1359 : decode cL_law 1359 = .ok (.invokevirtual 188, 3) := by decide +kernel
theorem dL_law_1362 : decode cL_law 1362 = .ok (.aload_n 2, 1) := by decide +kernel
theorem dL_law_1363 : decode cL_law 1363 = .ok (.aload_n 0, 1) := by decide +kernel
theorem dL_law_1364 : decode cL_law 1364 = .ok (.iload_n 3, 1) := by decide +kernel
theorem dL_law_1365 : decode cL_law 1365 = .ok (.iconst 1, 1) := by decide +kernel
theorem dL_law_1366 : decode cL_law 1366 = .ok (.iadd, 1) := by decide +kernel
theorem dL_law_1367 : decode cL_law 1367 = .ok (.iaload, 1) := by decide +kernel
theorem dL_law_1368 : decode cL_law 1368 = .ok (.invokevirtual 191, 3) := by decide +kernel
theorem dL_law_1371 : decode cL_law 1371 = .ok (.if_icmp .eq 28, 3) := by decide +kernel
theorem dL_law_1374 : decode cL_law 1374 = .ok (.iconst 0, 1) := by decide +kernel
theorem dL_law_1375 : decode cL_law 1375 = .ok (.ireturn, 1) := by decide +kernel
theorem dL_law_1376 : decode cL_law 1376 = .ok (.aload_n 1, 1) := by decide +kernel
theorem dL_law_1377 : decode cL_law 1377 = .ok (.aload_n 0, 1) := by decide +kernel
theorem dL_law_1378 : decode cL_law 1378 = .ok (.iload_n 3, 1) := by decide +kernel
theorem dL_law_1379 : decode cL_law 1379 = .ok (.iconst 1, 1) := by decide +kernel
theorem dL_law_1380 : decode cL_law 1380 = .ok (.iadd, 1) := by decide +kernel
theorem dL_law_1381 : decode cL_law 1381 = .ok (.iaload, 1) := by decide +kernel
theorem dL_law_1382 : decode cL_law 1382 = .ok (.invokevirtual 192, 3) := by decide +kernel
theorem dL_law_1385 : decode cL_law 1385 = .ok (.aload_n 2, 1) := by decide +kernel
theorem dL_law_1386 : decode cL_law 1386 = .ok (.aload_n 0, 1) := by decide +kernel
theorem dL_law_1387 : decode cL_law 1387 = .ok (.iload_n 3, 1) := by decide +kernel
theorem dL_law_1388 : decode cL_law 1388 = .ok (.iconst 1, 1) := by decide +kernel
theorem dL_law_1389 : decode cL_law 1389 = .ok (.iadd, 1) := by decide +kernel
theorem dL_law_1390 : decode cL_law 1390 = .ok (.iaload, 1) := by decide +kernel
theorem dL_law_1391 : decode cL_law 1391 = .ok (.invokevirtual 195, 3) := by decide +kernel
theorem dL_law_1394 : decode cL_law 1394 = .ok (.if_icmp .eq 5, 3) := by decide +kernel
theorem dL_law_1397 : decode cL_law 1397 = .ok (.iconst 0, 1) := by decide +kernel
theorem dL_law_1398 : decode cL_law 1398 = .ok (.ireturn, 1) := by decide +kernel
theorem dL_law_1399 : decode cL_law 1399 = .ok (.iinc 3 6, 3) := by decide +kernel
theorem dL_law_1402 : decode cL_law 1402 = .ok (.goto (-1384), 3) := by decide +kernel
theorem dL_law_1405 : decode cL_law 1405 = .ok (.iconst 1, 1) := by decide +kernel
theorem dL_law_1406 : decode cL_law 1406 = .ok (.ireturn, 1) := by decide +kernel
end
section
/-! words: one table for every method -/
def sf_gtbl : List Cond := lw_tbl.filter goodWord
def sf_isNest : Cond → Bool
  | .fieldLinkNest _ _ _ _ _ _ => true
  | .methodLinkNest _ _ _ _ => true
  | _ => false
def sf_nwL : List Cond := tables_1.filter sf_isNest
def sf_NW (U : State) : Prop := ∀ w ∈ sf_nwL, va_Nw w U
theorem sf_mem {w : Cond} (i : Nat) (h : lw_tbl[i]? = some w) (hg : goodWord w = true) : w ∈ sf_gtbl := List.mem_filter.mpr ⟨List.mem_of_getElem? h, hg⟩
theorem sf_memN {w : Cond} (i : Nat) (h : tables_1[i]? = some w) (hg : sf_isNest w = true) : w ∈ sf_nwL := List.mem_filter.mpr ⟨List.mem_of_getElem? h, hg⟩
theorem sf_good {w : Cond} (h : w ∈ sf_gtbl) : (w.onTables && w.keeps) = true ∨ ∃ ty, w = .arrayClass ty := good_of_word (List.mem_filter.mp h).2
theorem sf_NW_on {w : Cond} (h : sf_isNest w = true) : w.onTables = true := by
  cases w <;> first | rfl | cases h
theorem sf_NW_same {u U : State} (h : u.vm = U.vm) (hN : sf_NW u) : sf_NW U := fun w hw => (hN w hw).same (sf_NW_on (List.mem_filter.mp hw).2) h
theorem sf_NW_warm {s U : State} (hW : s.WarmedH U.vm) (hN : sf_NW s) : sf_NW U := by
  intro w hw
  have h1 := (List.mem_filter.mp hw).2
  have h2 := hN w hw
  cases w <;> first | exact h2.warmF hW | exact h2.warmM hW | cases h1
/-! guards of the functions that say what a method does -/
def gx {α : Type} (i : Int32) (n : Nat) (k : Option α) : Option α := if i < 0 ∨ n ≤ i.toNatClampNeg then none else k
def gz {α : Type} (y : Int32) (k : Option α) : Option α := if y = 0 then none else k
def bd {α β : Type} (a : Option α) (k : α → Option β) : Option β := match a with
  | none => none
  | some x => k x
theorem gx_s {α : Type} {i : Int32} {n : Nat} {k : Option α} {r : α} (h : gx i n k = some r) : vp_in i n ∧ k = some r := by
  unfold gx at h
  by_cases hc : i < 0 ∨ n ≤ i.toNatClampNeg
  · rw [if_pos hc] at h; cases h
  · rw [if_neg hc] at h; exact ⟨hc, h⟩
theorem gx_in {α : Type} {i : Int32} {n : Nat} {k : Option α} (h : vp_in i n) : gx i n k = k := if_neg h
theorem gz_s {α : Type} {y : Int32} {k : Option α} {r : α} (h : gz y k = some r) : ¬ y = 0 ∧ k = some r := by
  unfold gz at h
  by_cases hc : y = 0
  · rw [if_pos hc] at h; cases h
  · rw [if_neg hc] at h; exact ⟨hc, h⟩
theorem gz_ne {α : Type} {y : Int32} {k : Option α} (h : ¬ y = 0) : gz y k = k := if_neg h
theorem bd_s {α β : Type} {a : Option α} {k : α → Option β} {r : β} (h : bd a k = some r) : ∃ x, a = some x ∧ k x = some r := by
  cases a with
  | none => cases h
  | some x => exact ⟨x, rfl, h⟩
theorem bd_some {α β : Type} {a : Option α} {k : α → Option β} {x : α} (h : a = some x) : bd a k = k x := by rw [h]; rfl
theorem it_p {α : Type} {c : Prop} {_ : Decidable c} {a b r : α} (hc : c) (h : (if c then a else b) = r) : a = r := by rwa [if_pos hc] at h
theorem it_n {α : Type} {c : Prop} {_ : Decidable c} {a b r : α} (hc : ¬ c) (h : (if c then a else b) = r) : b = r := by rwa [if_neg hc] at h
/-! cells of a world put in their places -/
def sf_rp : va_W → List Nat → va_W → va_W
  | ws, i :: is, q :: qs => sf_rp (ws.set i q) is qs
  | ws, _, _ => ws
theorem sf_rp_get : ∀ (is : List Nat) (ws w' : va_W), va_nd is = true → is.length = w'.length → (∀ i ∈ is, i < ws.length) → ∀ (k : Nat) (q : Nat × va_E), (sf_rp ws is w')[k]? = some q → (k ∉ is ∧ ws[k]? = some q) ∨ ∃ j : Nat, is[j]? = some k ∧ w'[j]? = some q
  | [], ws, w', _, _, _, k, q, h => Or.inl ⟨List.not_mem_nil, by cases w' <;> exact h⟩
  | i :: is, ws, [], _, hl, _, k, q, h => by simp at hl
  | i :: is, ws, q0 :: qs, hn, hl, hi, k, q, h => by
    simp only [va_nd, Bool.and_eq_true, decide_eq_true_eq] at hn
    have h' : (sf_rp (ws.set i q0) is qs)[k]? = some q := h
    rcases sf_rp_get is (ws.set i q0) qs hn.2 (by simpa using hl) (fun j hj => by rw [List.length_set]; exact hi j (List.mem_cons_of_mem _ hj)) k q h' with ⟨h1, h2⟩ | ⟨j, h1, h2⟩
    · by_cases hk : k = i
      · subst hk
        rw [List.getElem?_set_self (hi k List.mem_cons_self)] at h2
        exact Or.inr ⟨0, rfl, by rw [List.getElem?_cons_zero]; exact h2⟩
      · rw [List.getElem?_set_ne (Ne.symm hk)] at h2
        exact Or.inl ⟨fun hm => (List.mem_cons.mp hm).elim hk h1, h2⟩
    · exact Or.inr ⟨j + 1, by rw [List.getElem?_cons_succ]; exact h1, by rw [List.getElem?_cons_succ]; exact h2⟩
/-- a call's world among the caller's: which cell stands where -/
theorem sf_at {ws wc : va_W} {is : List Nat} (hC : is.map (fun i => ws[i]?) = wc.map some) : ∀ (k : Nat) (q : Nat × va_E), wc[k]? = some q → ∃ i, is[k]? = some i ∧ ws[i]? = some q := by
  intro k q hq
  have h1 : (is.map (fun i => ws[i]?))[k]? = some (some q) := by rw [hC, List.getElem?_map, hq]; rfl
  rw [List.getElem?_map] at h1
  cases hi : is[k]? with
  | none => rw [hi] at h1; cases h1
  | some i => rw [hi] at h1; exact ⟨i, rfl, Option.some.inj h1⟩
theorem sf_at2 {ws wc : va_W} {is : List Nat} (hC : is.map (fun i => ws[i]?) = wc.map some) : ∀ (k i : Nat), is[k]? = some i → ∃ q, wc[k]? = some q ∧ ws[i]? = some q := by
  intro k i hi
  have h1 : (wc.map some)[k]? = some (ws[i]?) := by rw [← hC, List.getElem?_map, hi]; rfl
  rw [List.getElem?_map] at h1
  cases hq : wc[k]? with
  | none => rw [hq] at h1; cases h1
  | some q => rw [hq] at h1; exact ⟨q, rfl, (Option.some.inj h1).symm⟩
theorem sf_back {A : Nat → Prop} {D : va_G} {ws wc w' : va_W} {H H1 : Heap} (hP : va_P D vwCl ws H) (hD : va_D A ws) (is : List Nat) (hC : is.map (fun i => ws[i]?) = wc.map some) (hnd : va_nd is = true) (hadr : wc.map Prod.fst = w'.map Prod.fst)
    (hk : ∀ q : Nat, q < H.size → ¬ va_A wc H.size q → H1[q]? = H[q]?) (hP1 : va_P D vwCl w' H1) : va_P D vwCl (sf_rp ws is w') H1 ∧ va_D A (sf_rp ws is w') := by
  have hlen : is.length = w'.length := by
    have h1 : is.length = wc.length := by simpa using congrArg List.length hC
    have h2 : wc.length = w'.length := by simpa using congrArg List.length hadr
    exact h1.trans h2
  have hlt : ∀ i ∈ is, i < ws.length := by
    intro i hi
    obtain ⟨k, hk⟩ := List.getElem?_of_mem hi
    obtain ⟨q, -, h2⟩ := sf_at2 hC k i hk
    exact (List.getElem?_eq_some_iff.mp h2).1
  have adr : ∀ (j i : Nat) (q : Nat × va_E), is[j]? = some i → w'[j]? = some q → ∃ q0, ws[i]? = some q0 ∧ q0.1 = q.1 := by
    intro j i q hi hq
    obtain ⟨q0, h1, h2⟩ := sf_at2 hC j i hi
    refine ⟨q0, h2, ?_⟩
    have h3 : (wc.map Prod.fst)[j]? = (w'.map Prod.fst)[j]? := by rw [hadr]
    rw [List.getElem?_map, List.getElem?_map, h1, hq] at h3
    exact Option.some.inj h3
  have got := sf_rp_get is ws w' hnd hlen hlt
  have key : ∀ (k : Nat) (q : Nat × va_E), (sf_rp ws is w')[k]? = some q → ∃ q0, ws[k]? = some q0 ∧ q0.1 = q.1 := by
    intro k q h
    rcases got k q h with ⟨-, h2⟩ | ⟨j, h1, h2⟩
    · exact ⟨q, h2, rfl⟩
    · exact adr j k q h1 h2
  refine ⟨fun k q h => ?_, fun i j x y hi hj hxy => ?_, fun k q h => ?_⟩
  · rcases got k q h with ⟨h1, h2⟩ | ⟨j, h1, h2⟩
    · refine (hP k q h2).kept (hk q.1 (hP k q h2).lt (fun hA => ?_))
      rcases hA with ⟨k2, e, h3⟩ | h3
      · obtain ⟨i, h4, h5⟩ := sf_at hC k2 (q.1, e) h3
        have := hD.1 k i q (q.1, e) h2 h5 rfl
        subst this
        exact h1 (List.mem_of_getElem? h4)
      · exact absurd (hP k q h2).lt (Nat.not_lt.mpr h3)
    · exact hP1 j q h2
  · obtain ⟨x0, h1, h2⟩ := key i x hi
    obtain ⟨y0, h3, h4⟩ := key j y hj
    exact hD.1 i j x0 y0 h1 h3 (h2.trans (hxy.trans h4.symm))
  · obtain ⟨q0, h1, h2⟩ := key k q h
    rw [← h2]
    exact hD.2 k q0 h1
/-! what stands outside every world: the texts, two statics, which kind isn't which -/
abbrev sf_D : Type := va_G × (Nat → Nat) × (Nat → Nat)
def sf_len : List Nat := [4, 6, 4, 5, 7, 7, 2, 3, 4, 2, 2, 5, 5]
def sf_byt : List (List Int32) := [[102, 105, 110, 101], [115, 104, 97, 114, 101, 100], [97, 108, 109, 115], [104, 97, 115, 116, 121], [102, 101, 105, 103, 110, 101, 100], [115, 97, 105, 110, 116, 108, 121], [97, 116], [97, 114, 109], [114, 111, 99, 107], [116, 111], [111, 102], [102, 114, 111, 115, 116], [109, 101, 101, 116, 115]]
def sf_strs : List (String × Nat × String) := [("StairFines$Kind", 7, "fine"), ("StairFines$Shared", 7, "shared"), ("StairFines$Alms", 7, "alms"), ("StairFines$Hasty", 7, "hasty"), ("StairFines$Feigned", 7, "feigned"), ("StairFines$Saintly", 7, "saintly"), ("StairFines$Tape", 82, "at"), ("StairFines$Tape", 84, "arm"), ("StairFines$Tape", 53, "rock"), ("StairFines$Tape", 90, "to"), ("StairFines$Tape", 92, "of"), ("StairFines$Tape", 61, "frost"), ("StairFines$Tape", 74, "meets")]
def sf_ncs : List (String × String) := [("StairFines$Kind", "StairFines$Shared"), ("StairFines$Kind", "StairFines$Alms"), ("StairFines$Kind", "StairFines$Hasty"), ("StairFines$Kind", "StairFines$Feigned"), ("StairFines$Kind", "StairFines$Saintly"), ("StairFines$Shared", "StairFines$Alms"), ("StairFines$Shared", "StairFines$Hasty"), ("StairFines$Shared", "StairFines$Feigned"), ("StairFines$Shared", "StairFines$Saintly"), ("StairFines$Alms", "StairFines$Shared"), ("StairFines$Alms", "StairFines$Hasty"), ("StairFines$Alms", "StairFines$Feigned"), ("StairFines$Alms", "StairFines$Saintly"), ("StairFines$Hasty", "StairFines$Shared"), ("StairFines$Hasty", "StairFines$Alms"), ("StairFines$Hasty", "StairFines$Feigned"), ("StairFines$Hasty", "StairFines$Saintly"), ("StairFines$Feigned", "StairFines$Shared"), ("StairFines$Feigned", "StairFines$Alms"), ("StairFines$Feigned", "StairFines$Saintly"), ("StairFines$Saintly", "StairFines$Shared"), ("StairFines$Saintly", "StairFines$Hasty"), ("StairFines$Saintly", "StairFines$Feigned")]
def sf_St (D : sf_D) (A : Nat → Prop) (U : State) (H : Heap) : Prop :=
  vk_S 13 sf_len sf_byt D.2.1 D.2.2 A U H ∧ (∀ (i : Nat) (q : String × Nat × String), sf_strs[i]? = some q → vk_R q.1 q.2.1 q.2.2 (D.2.1 i) U) ∧ va_Z "java/lang/String" "COMPACT_STRINGS" "Z" (.int 1) A U H ∧ va_Zq "jdk/internal/util/Preconditions" "SIOOBE_FORMATTER" "Ljava/util/function/BiFunction;" A U H ∧ ∀ q ∈ sf_ncs, va_Nc q.1 q.2 U
theorem sf_St_warm {D : sf_D} {A : Nat → Prop} {s U : State} {H : Heap} (hW : s.WarmedH U.vm) (h : sf_St D A s H) : sf_St D A U H :=
  ⟨h.1.moved hW.alike, fun i q hq => (h.2.1 i q hq).warm hW, h.2.2.1.moved hW.alike, h.2.2.2.1.moved hW.alike, fun q hq => (h.2.2.2.2 q hq).moved hW.alike⟩
theorem sf_St_same {D : sf_D} {A : Nat → Prop} {u U : State} {H : Heap} (hv : U.vm = u.vm) (h : sf_St D A u H) : sf_St D A U H :=
  ⟨h.1.moved (hv ▸ Vm.Alike.refl u.vm), fun i q hq => (h.2.1 i q hq).same hv, h.2.2.1.moved (hv ▸ Vm.Alike.refl u.vm), h.2.2.2.1.moved (hv ▸ Vm.Alike.refl u.vm), fun q hq => (h.2.2.2.2 q hq).moved (hv ▸ Vm.Alike.refl u.vm)⟩
theorem sf_St_kept {D : sf_D} {A : Nat → Prop} {U : State} {H H1 : Heap} (h : sf_St D A U H) (hq : ∀ a : Nat, a < H.size → ¬ A a → H1[a]? = H[a]?) : sf_St D A U H1 :=
  ⟨h.1.kept hq, h.2.1, h.2.2.1.kept hq, h.2.2.2.1.kept hq, h.2.2.2.2⟩
theorem sf_St_narrow {D : sf_D} {A B : Nat → Prop} {U : State} {H : Heap} (h : sf_St D A U H) (hAB : ∀ q, B q → A q) : sf_St D B U H :=
  ⟨h.1.narrow hAB, h.2.1, h.2.2.1.narrow hAB, h.2.2.2.1.narrow hAB, h.2.2.2.2⟩
/-! contracts -/
def sf_Pc (D : sf_D) (tys : List (ClassId × FieldType)) (av : List Value) (ws : va_W) (sz : Nat) : Array Value → State → Prop := va_Pc av (fun U => U.heap.size = sz ∧ va_P D.1 vwCl ws U.heap ∧ va_K D.1 vwCl tys U ∧ va_D (fun _ => True) ws ∧ sf_NW U ∧ sf_St D (va_A ws sz) U U.heap)
def sf_Q (D : sf_D) (tys : List (ClassId × FieldType)) (A : Nat → Prop) (o : Option Value) (w' : va_W) : Array Value → State → Outcome → State → Prop := fun _ st oc t => (oc = .returned o ∧ va_P D.1 vwCl w' t.heap ∧ va_K D.1 vwCl tys t ∧ va_D A w') ∧ va_F A st t
def sf_Ct (l : Launch) (y : MethodName) (cc : ByteArray) (maxL : Nat) (ret : Option FieldType) (rm : Room) (D : sf_D) (tys : List (ClassId × FieldType)) (av : List Value) (ws : va_W) (o : Option Value) (w' : va_W) : Prop :=
  ∀ sz : Nat, Met l y (Cond.code y cc maxL ret :: sf_gtbl) rm (sf_Pc D tys av ws sz) (sf_Q D tys (va_A ws sz) o w') 0 0 (va_A ws sz)
theorem sf_Pc_blind {D : sf_D} {tys : List (ClassId × FieldType)} {av : List Value} {ws : va_W} {sz : Nat} : FrameBlind (sf_Pc D tys av ws sz) := by
  intro a U g mk q
  obtain ⟨q0, q1, qP, qK, qD, qN, qS⟩ := q
  exact ⟨q0, q1, qP, va_K.moved (u := U) (U := U.calling g mk a) (Vm.Alike.refl U.vm) qK, qD, sf_NW_same (u := U) (U := U.calling g mk a) rfl qN, sf_St_same (u := U) (U := U.calling g mk a) rfl qS⟩
section SF
variable {p : Program} {l : Launch} {e : Env} {R : Room} {s : State} {m : MethodId} {args : Array Value} {below : List Frame} {meth : Method} {c : Code} {cells slots : Nat} {Q : State → Prop} {cc : ByteArray} {nL : Nat} {own : String} {D : sf_D} {tys : List (ClassId × FieldType)} {A : Nat → Prop} {ws : va_W} {lv lv' : List (Nat × Value)} {pc pc' : Nat} {st rest : List Value}
def sf_Cx (p : Program) (m : MethodId) (meth : Method) (c : Code) (cc : ByteArray) (nL : Nat) (s : State) (args : Array Value) (own : String) (D : sf_D) (tys : List (ClassId × FieldType)) (A : Nat → Prop) : Prop :=
  p.tables.exec = Jvm.exec ∧ c.code = cc ∧ c.maxLocals = nL ∧ s.vm.findClass own = some m.cls ∧ (∀ w ∈ sf_gtbl, w.before args s = true) ∧ sf_NW s ∧ va_K D.1 vwCl tys s ∧ (∀ q, s.heap.size ≤ q → A q) ∧ meth.locks = false ∧ sf_St D A s s.heap
def sf_W (p : Program) (l : Launch) (e : Env) (R : Room) (s : State) (m : MethodId) (args : Array Value) (below : List Frame) (meth : Method) (c : Code) (cells slots : Nat) (Q : State → Prop) (nL : Nat) (D : sf_D) (A : Nat → Prop) (ws : va_W) (lv : List (Nat × Value)) (pc : Nat) (st : List Value) : Prop :=
  ∀ (H : Heap) (locs : List Loc) (ls : Array Slot), va_P D.1 vwCl ws H → va_D A ws → va_S A s.heap H locs → lv_has ls nL lv → W p l e R s m args below meth c H locs cells slots Q (F0 m pc ls st)
/-- a method's contract out of the walk from its entry -/
theorem sf_met {y : MethodName} {maxL : Nat} {ret : Option FieldType} {rm : Room} {av : List Value} {o : Option Value} {w' : va_W} (hy : plainName y.cls = true) (hlen : (lg_sl av).length ≤ maxL) (hlv : lv_args 0 av = lv)
    (body : ∀ (p : Program) (e : Env) (s : State) (m : MethodId) (args : Array Value) (below : List Frame) (meth : Method) (c : Code) (A : Nat → Prop) (Q : State → Prop), sf_Cx p m meth c cc maxL s args y.cls D tys A → meth.sig.returnType = ret → Q = MQ below (sf_Q D tys A o w') args s 0 0 A → sf_W p l e rm s m args below meth c 0 0 Q maxL D A ws lv 0 []) : sf_Ct l y cc maxL ret rm D tys av ws o w' := by
  intro sz
  refine Met.ofW (cc := cc) (maxL := maxL) (ret := ret) hy rfl ?_
  intro p e s m args below meth c s₁ B hml hv
  obtain ⟨rfl, hsz, hP, hK, hD0, hN, hSt⟩ := hv
  have hts := atoms_spec (ws := Cond.code y cc maxL ret :: sf_gtbl) B.pre
  have hown : s.vm.findClass y.cls = some m.cls := findClass_of_methodNamed B.named
  subst hsz
  have hD := hD0.self (sz := s.heap.size)
  have hA : ∀ q : Nat, s.heap.size ≤ q → va_A ws s.heap.size q := fun q h => Or.inr h
  have hl := lv_entry av (n := maxL) hlen
  rw [hlv] at hl
  rw [lg_entry_eq]
  exact body p e s m _ below meth c (va_A ws s.heap.size) _ ⟨B.exec, B.bytes, hml, hown, fun w h => hts w (List.mem_cons_of_mem _ h), hN, hK, hA, B.notSynchronized, hSt⟩ B.returns rfl s.heap [] _ hP hD va_S.rf hl
/-- the ends -/
theorem sw_iret {v : Int32} (cx : sf_Cx p m meth c cc nL s args own D tys A) (hr : meth.sig.returnType = some .int) (hQ : Q = MQ below (sf_Q D tys A (some (.int v)) ws) args s 0 0 A) (hdg : decode cc pc = .ok (.ireturn, 1)) : sf_W p l e R s m args below meth c 0 0 Q nL D A ws lv pc [.int v] := by
  subst hQ
  exact fun H locs ls hP hD hS hl => W.iret cx.1 cx.2.1 hr (fun t ht hW => ⟨⟨rfl, by rw [ht]; exact hP, va_K.moved hW.alike cx.2.2.2.2.2.2.1, hD⟩, hS.F ht⟩) hS.2.2 hdg cx.2.2.2.2.2.2.2.2.1
theorem sw_zret {v : Int32} {ty : FieldType} (cx : sf_Cx p m meth c cc nL s args own D tys A) (hr : meth.sig.returnType = some ty) (hn : narrow ty (.int v) = .int v) (hQ : Q = MQ below (sf_Q D tys A (some (.int v)) ws) args s 0 0 A) (hdg : decode cc pc = .ok (.ireturn, 1)) : sf_W p l e R s m args below meth c 0 0 Q nL D A ws lv pc [.int v] := by
  subst hQ
  exact fun H locs ls hP hD hS hl => W.zret cx.1 cx.2.1 hr hn (fun t ht hW => ⟨⟨rfl, by rw [ht]; exact hP, va_K.moved hW.alike cx.2.2.2.2.2.2.1, hD⟩, hS.F ht⟩) hS.2.2 hdg cx.2.2.2.2.2.2.2.2.1
theorem sw_lret {v : Int64} (cx : sf_Cx p m meth c cc nL s args own D tys A) (hr : meth.sig.returnType = some .long) (hQ : Q = MQ below (sf_Q D tys A (some (.long v)) ws) args s 0 0 A) (hdg : decode cc pc = .ok (.lreturn, 1)) : sf_W p l e R s m args below meth c 0 0 Q nL D A ws lv pc [.long v] := by
  subst hQ
  exact fun H locs ls hP hD hS hl => W.lret cx.1 cx.2.1 hr (fun t ht hW => ⟨⟨rfl, by rw [ht]; exact hP, va_K.moved hW.alike cx.2.2.2.2.2.2.1, hD⟩, hS.F ht⟩) hS.2.2 hdg cx.2.2.2.2.2.2.2.2.1
theorem sw_vret (cx : sf_Cx p m meth c cc nL s args own D tys A) (hr : meth.sig.returnType = none) (hQ : Q = MQ below (sf_Q D tys A none ws) args s 0 0 A) (hdg : decode cc pc = .ok (.return_, 1)) : sf_W p l e R s m args below meth c 0 0 Q nL D A ws lv pc [] := by
  subst hQ
  exact fun H locs ls hP hD hS hl => W.vret cx.1 cx.2.1 hr (fun t ht hW => ⟨⟨rfl, by rw [ht]; exact hP, va_K.moved hW.alike cx.2.2.2.2.2.2.1, hD⟩, hS.F ht⟩) hS.2.2 hdg cx.2.2.2.2.2.2.2.2.1
theorem sw_aret {v : Nat} {rt : FieldType} (cx : sf_Cx p m meth c cc nL s args own D tys A) (hr : meth.sig.returnType = some rt) (hrt : (∃ n, rt = .object n) ∨ ∃ t, rt = .array t) (hQ : Q = MQ below (sf_Q D tys A (some (.ref v)) ws) args s 0 0 A) (hdg : decode cc pc = .ok (.areturn, 1)) : sf_W p l e R s m args below meth c 0 0 Q nL D A ws lv pc [.ref v] := by
  subst hQ
  exact fun H locs ls hP hD hS hl => W.aret cx.1 cx.2.1 hr hrt (Or.inr ⟨v, rfl⟩) (fun t ht hW => ⟨⟨rfl, by rw [ht]; exact hP, va_K.moved hW.alike cx.2.2.2.2.2.2.1, hD⟩, hS.F ht⟩) hS.2.2 hdg cx.2.2.2.2.2.2.2.2.1
end SF
end
section
section SW
variable {p : Program} {l : Launch} {e : Env} {R : Room} {s : State} {m : MethodId} {args : Array Value} {below : List Frame} {meth : Method} {c : Code} {cells slots : Nat} {Q : State → Prop} {cc : ByteArray} {nL : Nat} {own : String} {D : sf_D} {tys : List (ClassId × FieldType)} {A : Nat → Prop} {ws : va_W} {lv lv' : List (Nat × Value)} {pc pc' : Nat} {st rest : List Value}
theorem sw_eq {pc2 : Nat} {st2 : List Value} {ws2 : va_W} {lv2 : List (Nat × Value)} (h1 : ws = ws2) (h2 : lv = lv2) (h3 : pc = pc2) (h4 : st = st2) (k : sf_W p l e R s m args below meth c cells slots Q nL D A ws2 lv2 pc2 st2) : sf_W p l e R s m args below meth c cells slots Q nL D A ws lv pc st := by subst h1; subst h2; subst h3; subst h4; exact k
theorem sw_lv (is : List Nat) (hl : lv_pick lv is = lv') (k : sf_W p l e R s m args below meth c cells slots Q nL D A ws lv' pc st) : sf_W p l e R s m args below meth c cells slots Q nL D A ws lv pc st := fun H locs ls hP hD hS h => k H locs ls hP hD hS (lv_sub h is hl)
theorem sw_iconst (cx : sf_Cx p m meth c cc nL s args own D tys A) {n : Int} {v : Int32} (hdg : decode cc pc = .ok (.iconst n, 1)) (hv : Int32.ofInt n = v) (hn : pc + 1 = pc') (k : sf_W p l e R s m args below meth c cells slots Q nL D A ws lv pc' (.int v :: st)) : sf_W p l e R s m args below meth c cells slots Q nL D A ws lv pc st := fun H locs ls hP hD hS hl => lv_iconst cx.1 cx.2.1 hdg hv (hn ▸ k H locs ls hP hD hS hl)
theorem sw_bipush (cx : sf_Cx p m meth c cc nL s args own D tys A) {n : Int} {v : Int32} (hdg : decode cc pc = .ok (.bipush n, 2)) (hv : (Int8.ofInt n).toInt32 = v) (hn : pc + 2 = pc') (k : sf_W p l e R s m args below meth c cells slots Q nL D A ws lv pc' (.int v :: st)) : sf_W p l e R s m args below meth c cells slots Q nL D A ws lv pc st := fun H locs ls hP hD hS hl => lv_bipush cx.1 cx.2.1 hdg hv (hn ▸ k H locs ls hP hD hS hl)
theorem sw_sipush (cx : sf_Cx p m meth c cc nL s args own D tys A) {n : Int} {v : Int32} (hdg : decode cc pc = .ok (.sipush n, 3)) (hv : (Int16.ofInt n).toInt32 = v) (hn : pc + 3 = pc') (k : sf_W p l e R s m args below meth c cells slots Q nL D A ws lv pc' (.int v :: st)) : sf_W p l e R s m args below meth c cells slots Q nL D A ws lv pc st := fun H locs ls hP hD hS hl => lv_sipush cx.1 cx.2.1 hdg hv (hn ▸ k H locs ls hP hD hS hl)
theorem sw_lconst (cx : sf_Cx p m meth c cc nL s args own D tys A) {n : Fin 2} {v : Int64} (hdg : decode cc pc = .ok (.lconst n, 1)) (hv : Int64.ofNat (n : Nat) = v) (hn : pc + 1 = pc') (k : sf_W p l e R s m args below meth c cells slots Q nL D A ws lv pc' (.long v :: st)) : sf_W p l e R s m args below meth c cells slots Q nL D A ws lv pc st := fun H locs ls hP hD hS hl => lv_lconst cx.1 cx.2.1 hdg hv (hn ▸ k H locs ls hP hD hS hl)
theorem sw_iload_n (cx : sf_Cx p m meth c cc nL s args own D tys A) {j : Fin 4} {i : Nat} {x : Int32} (hdg : decode cc pc = .ok (.iload_n j, 1)) (hi : (j : Nat) = i) (k0 : Nat) (hk : lv[k0]? = some (i, .int x)) (hn : pc + 1 = pc') (k : sf_W p l e R s m args below meth c cells slots Q nL D A ws lv pc' (.int x :: st)) : sf_W p l e R s m args below meth c cells slots Q nL D A ws lv pc st := fun H locs ls hP hD hS hl => lv_iload_n cx.1 cx.2.1 hdg hi (lv_at hl k0 hk) (hn ▸ k H locs ls hP hD hS hl)
theorem sw_iload (cx : sf_Cx p m meth c cc nL s args own D tys A) {i : Nat} {x : Int32} (hdg : decode cc pc = .ok (.iload i, 2)) (k0 : Nat) (hk : lv[k0]? = some (i, .int x)) (hn : pc + 2 = pc') (k : sf_W p l e R s m args below meth c cells slots Q nL D A ws lv pc' (.int x :: st)) : sf_W p l e R s m args below meth c cells slots Q nL D A ws lv pc st := fun H locs ls hP hD hS hl => lv_iload cx.1 cx.2.1 hdg (lv_at hl k0 hk) (hn ▸ k H locs ls hP hD hS hl)
theorem sw_lload_n (cx : sf_Cx p m meth c cc nL s args own D tys A) {j : Fin 4} {i : Nat} {x : Int64} (hdg : decode cc pc = .ok (.lload_n j, 1)) (hi : (j : Nat) = i) (k0 : Nat) (hk : lv[k0]? = some (i, .long x)) (hn : pc + 1 = pc') (k : sf_W p l e R s m args below meth c cells slots Q nL D A ws lv pc' (.long x :: st)) : sf_W p l e R s m args below meth c cells slots Q nL D A ws lv pc st := fun H locs ls hP hD hS hl => lv_lload_n cx.1 cx.2.1 hdg hi (lv_at hl k0 hk) (hn ▸ k H locs ls hP hD hS hl)
theorem sw_lload (cx : sf_Cx p m meth c cc nL s args own D tys A) {i : Nat} {x : Int64} (hdg : decode cc pc = .ok (.lload i, 2)) (k0 : Nat) (hk : lv[k0]? = some (i, .long x)) (hn : pc + 2 = pc') (k : sf_W p l e R s m args below meth c cells slots Q nL D A ws lv pc' (.long x :: st)) : sf_W p l e R s m args below meth c cells slots Q nL D A ws lv pc st := fun H locs ls hP hD hS hl => lv_lload cx.1 cx.2.1 hdg (lv_at hl k0 hk) (hn ▸ k H locs ls hP hD hS hl)
theorem sw_aload_n (cx : sf_Cx p m meth c cc nL s args own D tys A) {j : Fin 4} {i : Nat} {x : Nat} (hdg : decode cc pc = .ok (.aload_n j, 1)) (hi : (j : Nat) = i) (k0 : Nat) (hk : lv[k0]? = some (i, .ref x)) (hn : pc + 1 = pc') (k : sf_W p l e R s m args below meth c cells slots Q nL D A ws lv pc' (.ref x :: st)) : sf_W p l e R s m args below meth c cells slots Q nL D A ws lv pc st := fun H locs ls hP hD hS hl => lv_aload_n cx.1 cx.2.1 hdg hi (lv_at hl k0 hk) (hn ▸ k H locs ls hP hD hS hl)
theorem sw_aload (cx : sf_Cx p m meth c cc nL s args own D tys A) {i : Nat} {x : Nat} (hdg : decode cc pc = .ok (.aload i, 2)) (k0 : Nat) (hk : lv[k0]? = some (i, .ref x)) (hn : pc + 2 = pc') (k : sf_W p l e R s m args below meth c cells slots Q nL D A ws lv pc' (.ref x :: st)) : sf_W p l e R s m args below meth c cells slots Q nL D A ws lv pc st := fun H locs ls hP hD hS hl => lv_aload cx.1 cx.2.1 hdg (lv_at hl k0 hk) (hn ▸ k H locs ls hP hD hS hl)
theorem sw_istore_n (cx : sf_Cx p m meth c cc nL s args own D tys A) {j : Fin 4} {i : Nat} {x : Int32} (hdg : decode cc pc = .ok (.istore_n j, 1)) (hi : (j : Nat) = i) (hn2 : i < nL) (hl' : (i, Value.int x) :: lv.filter (fun q => !(q.1 == i) && !(q.1 + 1 == i && q.2.category == 2)) = lv') (hn : pc + 1 = pc') (k : sf_W p l e R s m args below meth c cells slots Q nL D A ws lv' pc' st) : sf_W p l e R s m args below meth c cells slots Q nL D A ws lv pc (.int x :: st) := fun H locs ls hP hD hS hl => lv_istore_n cx.1 cx.2.1 hdg hi hl hn2 hl' (fun ls2 hl2 => hn ▸ k H locs ls2 hP hD hS hl2)
theorem sw_istore (cx : sf_Cx p m meth c cc nL s args own D tys A) {i : Nat} {x : Int32} (hdg : decode cc pc = .ok (.istore i, 2)) (hn2 : i < nL) (hl' : (i, Value.int x) :: lv.filter (fun q => !(q.1 == i) && !(q.1 + 1 == i && q.2.category == 2)) = lv') (hn : pc + 2 = pc') (k : sf_W p l e R s m args below meth c cells slots Q nL D A ws lv' pc' st) : sf_W p l e R s m args below meth c cells slots Q nL D A ws lv pc (.int x :: st) := fun H locs ls hP hD hS hl => lv_istore cx.1 cx.2.1 hdg hl hn2 hl' (fun ls2 hl2 => hn ▸ k H locs ls2 hP hD hS hl2)
theorem sw_lstore_n (cx : sf_Cx p m meth c cc nL s args own D tys A) {j : Fin 4} {i : Nat} {x : Int64} (hdg : decode cc pc = .ok (.lstore_n j, 1)) (hi : (j : Nat) = i) (hn2 : i + 1 < nL) (hl' : (i, Value.long x) :: lv.filter (fun q => !(q.1 == i) && (!(q.1 == i + 1) && !(q.1 + 1 == i && q.2.category == 2))) = lv') (hn : pc + 1 = pc') (k : sf_W p l e R s m args below meth c cells slots Q nL D A ws lv' pc' st) : sf_W p l e R s m args below meth c cells slots Q nL D A ws lv pc (.long x :: st) := fun H locs ls hP hD hS hl => lv_lstore_n cx.1 cx.2.1 hdg hi hl hn2 hl' (fun ls2 hl2 => hn ▸ k H locs ls2 hP hD hS hl2)
theorem sw_lstore (cx : sf_Cx p m meth c cc nL s args own D tys A) {i : Nat} {x : Int64} (hdg : decode cc pc = .ok (.lstore i, 2)) (hn2 : i + 1 < nL) (hl' : (i, Value.long x) :: lv.filter (fun q => !(q.1 == i) && (!(q.1 == i + 1) && !(q.1 + 1 == i && q.2.category == 2))) = lv') (hn : pc + 2 = pc') (k : sf_W p l e R s m args below meth c cells slots Q nL D A ws lv' pc' st) : sf_W p l e R s m args below meth c cells slots Q nL D A ws lv pc (.long x :: st) := fun H locs ls hP hD hS hl => lv_lstore cx.1 cx.2.1 hdg hl hn2 hl' (fun ls2 hl2 => hn ▸ k H locs ls2 hP hD hS hl2)
theorem sw_astore_n (cx : sf_Cx p m meth c cc nL s args own D tys A) {j : Fin 4} {i : Nat} {x : Nat} (hdg : decode cc pc = .ok (.astore_n j, 1)) (hi : (j : Nat) = i) (hn2 : i < nL) (hl' : (i, Value.ref x) :: lv.filter (fun q => !(q.1 == i) && !(q.1 + 1 == i && q.2.category == 2)) = lv') (hn : pc + 1 = pc') (k : sf_W p l e R s m args below meth c cells slots Q nL D A ws lv' pc' st) : sf_W p l e R s m args below meth c cells slots Q nL D A ws lv pc (.ref x :: st) := fun H locs ls hP hD hS hl => lv_astore_n cx.1 cx.2.1 hdg hi hl hn2 hl' (fun ls2 hl2 => hn ▸ k H locs ls2 hP hD hS hl2)
theorem sw_astore (cx : sf_Cx p m meth c cc nL s args own D tys A) {i : Nat} {x : Nat} (hdg : decode cc pc = .ok (.astore i, 2)) (hn2 : i < nL) (hl' : (i, Value.ref x) :: lv.filter (fun q => !(q.1 == i) && !(q.1 + 1 == i && q.2.category == 2)) = lv') (hn : pc + 2 = pc') (k : sf_W p l e R s m args below meth c cells slots Q nL D A ws lv' pc' st) : sf_W p l e R s m args below meth c cells slots Q nL D A ws lv pc (.ref x :: st) := fun H locs ls hP hD hS hl => lv_astore cx.1 cx.2.1 hdg hl hn2 hl' (fun ls2 hl2 => hn ▸ k H locs ls2 hP hD hS hl2)
theorem sw_iinc (cx : sf_Cx p m meth c cc nL s args own D tys A) {i : Nat} {n : Int} {x v : Int32} (hdg : decode cc pc = .ok (.iinc i n, 3)) (k0 : Nat) (hk : lv[k0]? = some (i, .int x)) (hv : x + Int32.ofInt n = v) (hn2 : i < nL) (hl' : (i, Value.int v) :: lv.filter (fun q => !(q.1 == i) && !(q.1 + 1 == i && q.2.category == 2)) = lv') (hn : pc + 3 = pc') (k : sf_W p l e R s m args below meth c cells slots Q nL D A ws lv' pc' st) : sf_W p l e R s m args below meth c cells slots Q nL D A ws lv pc st := fun H locs ls hP hD hS hl => lv_iinc cx.1 cx.2.1 hdg hl hk hv hn2 hl' (fun ls2 hl2 => hn ▸ k H locs ls2 hP hD hS hl2)
theorem sw_iadd (cx : sf_Cx p m meth c cc nL s args own D tys A) {x y : Int32} (hdg : decode cc pc = .ok (.iadd, 1))  (hn : pc + 1 = pc') (k : sf_W p l e R s m args below meth c cells slots Q nL D A ws lv pc' (.int (x + y) :: st)) : sf_W p l e R s m args below meth c cells slots Q nL D A ws lv pc (.int y :: .int x :: st) := fun H locs ls hP hD hS hl => lv_iadd cx.1 cx.2.1 hdg  (hn ▸ k H locs ls hP hD hS hl)
theorem sw_isub (cx : sf_Cx p m meth c cc nL s args own D tys A) {x y : Int32} (hdg : decode cc pc = .ok (.isub, 1))  (hn : pc + 1 = pc') (k : sf_W p l e R s m args below meth c cells slots Q nL D A ws lv pc' (.int (x - y) :: st)) : sf_W p l e R s m args below meth c cells slots Q nL D A ws lv pc (.int y :: .int x :: st) := fun H locs ls hP hD hS hl => lv_isub cx.1 cx.2.1 hdg  (hn ▸ k H locs ls hP hD hS hl)
theorem sw_imul (cx : sf_Cx p m meth c cc nL s args own D tys A) {x y : Int32} (hdg : decode cc pc = .ok (.imul, 1))  (hn : pc + 1 = pc') (k : sf_W p l e R s m args below meth c cells slots Q nL D A ws lv pc' (.int (x * y) :: st)) : sf_W p l e R s m args below meth c cells slots Q nL D A ws lv pc (.int y :: .int x :: st) := fun H locs ls hP hD hS hl => lv_imul cx.1 cx.2.1 hdg  (hn ▸ k H locs ls hP hD hS hl)
theorem sw_iand (cx : sf_Cx p m meth c cc nL s args own D tys A) {x y : Int32} (hdg : decode cc pc = .ok (.iand, 1))  (hn : pc + 1 = pc') (k : sf_W p l e R s m args below meth c cells slots Q nL D A ws lv pc' (.int (x &&& y) :: st)) : sf_W p l e R s m args below meth c cells slots Q nL D A ws lv pc (.int y :: .int x :: st) := fun H locs ls hP hD hS hl => lv_iand cx.1 cx.2.1 hdg  (hn ▸ k H locs ls hP hD hS hl)
theorem sw_ior (cx : sf_Cx p m meth c cc nL s args own D tys A) {x y : Int32} (hdg : decode cc pc = .ok (.ior, 1))  (hn : pc + 1 = pc') (k : sf_W p l e R s m args below meth c cells slots Q nL D A ws lv pc' (.int (x ||| y) :: st)) : sf_W p l e R s m args below meth c cells slots Q nL D A ws lv pc (.int y :: .int x :: st) := fun H locs ls hP hD hS hl => lv_ior cx.1 cx.2.1 hdg  (hn ▸ k H locs ls hP hD hS hl)
theorem sw_ixor (cx : sf_Cx p m meth c cc nL s args own D tys A) {x y : Int32} (hdg : decode cc pc = .ok (.ixor, 1))  (hn : pc + 1 = pc') (k : sf_W p l e R s m args below meth c cells slots Q nL D A ws lv pc' (.int (x ^^^ y) :: st)) : sf_W p l e R s m args below meth c cells slots Q nL D A ws lv pc (.int y :: .int x :: st) := fun H locs ls hP hD hS hl => lv_ixor cx.1 cx.2.1 hdg  (hn ▸ k H locs ls hP hD hS hl)
theorem sw_ishl (cx : sf_Cx p m meth c cc nL s args own D tys A) {x y : Int32} (hdg : decode cc pc = .ok (.ishl, 1))  (hn : pc + 1 = pc') (k : sf_W p l e R s m args below meth c cells slots Q nL D A ws lv pc' (.int (x <<< (y &&& 31)) :: st)) : sf_W p l e R s m args below meth c cells slots Q nL D A ws lv pc (.int y :: .int x :: st) := fun H locs ls hP hD hS hl => lv_ishl cx.1 cx.2.1 hdg  (hn ▸ k H locs ls hP hD hS hl)
theorem sw_ishr (cx : sf_Cx p m meth c cc nL s args own D tys A) {x y : Int32} (hdg : decode cc pc = .ok (.ishr, 1))  (hn : pc + 1 = pc') (k : sf_W p l e R s m args below meth c cells slots Q nL D A ws lv pc' (.int (x >>> (y &&& 31)) :: st)) : sf_W p l e R s m args below meth c cells slots Q nL D A ws lv pc (.int y :: .int x :: st) := fun H locs ls hP hD hS hl => lv_ishr cx.1 cx.2.1 hdg  (hn ▸ k H locs ls hP hD hS hl)
theorem sw_idiv (cx : sf_Cx p m meth c cc nL s args own D tys A) {x y : Int32} (hdg : decode cc pc = .ok (.idiv, 1)) (hne : ¬ y = 0) (hn : pc + 1 = pc') (k : sf_W p l e R s m args below meth c cells slots Q nL D A ws lv pc' (.int (x / y) :: st)) : sf_W p l e R s m args below meth c cells slots Q nL D A ws lv pc (.int y :: .int x :: st) := fun H locs ls hP hD hS hl => lv_idiv cx.1 cx.2.1 hdg hne (hn ▸ k H locs ls hP hD hS hl)
theorem sw_irem (cx : sf_Cx p m meth c cc nL s args own D tys A) {x y : Int32} (hdg : decode cc pc = .ok (.irem, 1)) (hne : ¬ y = 0) (hn : pc + 1 = pc') (k : sf_W p l e R s m args below meth c cells slots Q nL D A ws lv pc' (.int (x - x / y * y) :: st)) : sf_W p l e R s m args below meth c cells slots Q nL D A ws lv pc (.int y :: .int x :: st) := fun H locs ls hP hD hS hl => lv_irem cx.1 cx.2.1 hdg hne (hn ▸ k H locs ls hP hD hS hl)
theorem sw_ineg (cx : sf_Cx p m meth c cc nL s args own D tys A) {x : Int32} (hdg : decode cc pc = .ok (.ineg, 1))  (hn : pc + 1 = pc') (k : sf_W p l e R s m args below meth c cells slots Q nL D A ws lv pc' (.int (-x) :: st)) : sf_W p l e R s m args below meth c cells slots Q nL D A ws lv pc (.int x :: st) := fun H locs ls hP hD hS hl => lv_ineg cx.1 cx.2.1 hdg  (hn ▸ k H locs ls hP hD hS hl)
theorem sw_ladd (cx : sf_Cx p m meth c cc nL s args own D tys A) {x y : Int64} (hdg : decode cc pc = .ok (.ladd, 1))  (hn : pc + 1 = pc') (k : sf_W p l e R s m args below meth c cells slots Q nL D A ws lv pc' (.long (x + y) :: st)) : sf_W p l e R s m args below meth c cells slots Q nL D A ws lv pc (.long y :: .long x :: st) := fun H locs ls hP hD hS hl => lv_ladd cx.1 cx.2.1 hdg  (hn ▸ k H locs ls hP hD hS hl)
theorem sw_lsub (cx : sf_Cx p m meth c cc nL s args own D tys A) {x y : Int64} (hdg : decode cc pc = .ok (.lsub, 1))  (hn : pc + 1 = pc') (k : sf_W p l e R s m args below meth c cells slots Q nL D A ws lv pc' (.long (x - y) :: st)) : sf_W p l e R s m args below meth c cells slots Q nL D A ws lv pc (.long y :: .long x :: st) := fun H locs ls hP hD hS hl => lv_lsub cx.1 cx.2.1 hdg  (hn ▸ k H locs ls hP hD hS hl)
theorem sw_lmul (cx : sf_Cx p m meth c cc nL s args own D tys A) {x y : Int64} (hdg : decode cc pc = .ok (.lmul, 1))  (hn : pc + 1 = pc') (k : sf_W p l e R s m args below meth c cells slots Q nL D A ws lv pc' (.long (x * y) :: st)) : sf_W p l e R s m args below meth c cells slots Q nL D A ws lv pc (.long y :: .long x :: st) := fun H locs ls hP hD hS hl => lv_lmul cx.1 cx.2.1 hdg  (hn ▸ k H locs ls hP hD hS hl)
theorem sw_land (cx : sf_Cx p m meth c cc nL s args own D tys A) {x y : Int64} (hdg : decode cc pc = .ok (.land, 1))  (hn : pc + 1 = pc') (k : sf_W p l e R s m args below meth c cells slots Q nL D A ws lv pc' (.long (x &&& y) :: st)) : sf_W p l e R s m args below meth c cells slots Q nL D A ws lv pc (.long y :: .long x :: st) := fun H locs ls hP hD hS hl => lv_land cx.1 cx.2.1 hdg  (hn ▸ k H locs ls hP hD hS hl)
theorem sw_lor (cx : sf_Cx p m meth c cc nL s args own D tys A) {x y : Int64} (hdg : decode cc pc = .ok (.lor, 1))  (hn : pc + 1 = pc') (k : sf_W p l e R s m args below meth c cells slots Q nL D A ws lv pc' (.long (x ||| y) :: st)) : sf_W p l e R s m args below meth c cells slots Q nL D A ws lv pc (.long y :: .long x :: st) := fun H locs ls hP hD hS hl => lv_lor cx.1 cx.2.1 hdg  (hn ▸ k H locs ls hP hD hS hl)
theorem sw_lxor (cx : sf_Cx p m meth c cc nL s args own D tys A) {x y : Int64} (hdg : decode cc pc = .ok (.lxor, 1))  (hn : pc + 1 = pc') (k : sf_W p l e R s m args below meth c cells slots Q nL D A ws lv pc' (.long (x ^^^ y) :: st)) : sf_W p l e R s m args below meth c cells slots Q nL D A ws lv pc (.long y :: .long x :: st) := fun H locs ls hP hD hS hl => lv_lxor cx.1 cx.2.1 hdg  (hn ▸ k H locs ls hP hD hS hl)
theorem sw_iushr (cx : sf_Cx p m meth c cc nL s args own D tys A) {x y : Int32} (hdg : decode cc pc = .ok (.iushr, 1))  (hn : pc + 1 = pc') (k : sf_W p l e R s m args below meth c cells slots Q nL D A ws lv pc' (.int ((x.toUInt32 >>> (y.toUInt32 &&& Int32.toUInt32 31)).toInt32) :: st)) : sf_W p l e R s m args below meth c cells slots Q nL D A ws lv pc (.int y :: .int x :: st) := fun H locs ls hP hD hS hl => lv_iushr cx.1 cx.2.1 hdg rfl (hn ▸ k H locs ls hP hD hS hl)
theorem sw_lushr (cx : sf_Cx p m meth c cc nL s args own D tys A) {x : Int64} {y : Int32} (hdg : decode cc pc = .ok (.lushr, 1))  (hn : pc + 1 = pc') (k : sf_W p l e R s m args below meth c cells slots Q nL D A ws lv pc' (.long ((x.toUInt64 >>> (y.toInt64.toUInt64 &&& Int64.toUInt64 63)).toInt64) :: st)) : sf_W p l e R s m args below meth c cells slots Q nL D A ws lv pc (.int y :: .long x :: st) := fun H locs ls hP hD hS hl => lv_lushr cx.1 cx.2.1 hdg rfl (hn ▸ k H locs ls hP hD hS hl)
theorem sw_lshl (cx : sf_Cx p m meth c cc nL s args own D tys A) {x : Int64} {y : Int32} (hdg : decode cc pc = .ok (.lshl, 1))  (hn : pc + 1 = pc') (k : sf_W p l e R s m args below meth c cells slots Q nL D A ws lv pc' (.long (x <<< (y.toInt64 &&& 63)) :: st)) : sf_W p l e R s m args below meth c cells slots Q nL D A ws lv pc (.int y :: .long x :: st) := fun H locs ls hP hD hS hl => lv_lshl cx.1 cx.2.1 hdg rfl (hn ▸ k H locs ls hP hD hS hl)
theorem sw_lshr (cx : sf_Cx p m meth c cc nL s args own D tys A) {x : Int64} {y : Int32} (hdg : decode cc pc = .ok (.lshr, 1))  (hn : pc + 1 = pc') (k : sf_W p l e R s m args below meth c cells slots Q nL D A ws lv pc' (.long (x >>> (y.toInt64 &&& 63)) :: st)) : sf_W p l e R s m args below meth c cells slots Q nL D A ws lv pc (.int y :: .long x :: st) := fun H locs ls hP hD hS hl => lv_lshr cx.1 cx.2.1 hdg rfl (hn ▸ k H locs ls hP hD hS hl)
theorem sw_i2l (cx : sf_Cx p m meth c cc nL s args own D tys A) {x : Int32} (hdg : decode cc pc = .ok (.i2l, 1))  (hn : pc + 1 = pc') (k : sf_W p l e R s m args below meth c cells slots Q nL D A ws lv pc' (.long x.toInt64 :: st)) : sf_W p l e R s m args below meth c cells slots Q nL D A ws lv pc (.int x :: st) := fun H locs ls hP hD hS hl => lv_i2l cx.1 cx.2.1 hdg rfl (hn ▸ k H locs ls hP hD hS hl)
theorem sw_l2i (cx : sf_Cx p m meth c cc nL s args own D tys A) {x : Int64} (hdg : decode cc pc = .ok (.l2i, 1))  (hn : pc + 1 = pc') (k : sf_W p l e R s m args below meth c cells slots Q nL D A ws lv pc' (.int x.toInt32 :: st)) : sf_W p l e R s m args below meth c cells slots Q nL D A ws lv pc (.long x :: st) := fun H locs ls hP hD hS hl => lv_l2i cx.1 cx.2.1 hdg rfl (hn ▸ k H locs ls hP hD hS hl)
theorem sw_i2b (cx : sf_Cx p m meth c cc nL s args own D tys A) {x : Int32} (hdg : decode cc pc = .ok (.i2b, 1))  (hn : pc + 1 = pc') (k : sf_W p l e R s m args below meth c cells slots Q nL D A ws lv pc' (.int x.toInt8.toInt32 :: st)) : sf_W p l e R s m args below meth c cells slots Q nL D A ws lv pc (.int x :: st) := fun H locs ls hP hD hS hl => lv_i2b cx.1 cx.2.1 hdg rfl (hn ▸ k H locs ls hP hD hS hl)
theorem sw_i2s (cx : sf_Cx p m meth c cc nL s args own D tys A) {x : Int32} (hdg : decode cc pc = .ok (.i2s, 1))  (hn : pc + 1 = pc') (k : sf_W p l e R s m args below meth c cells slots Q nL D A ws lv pc' (.int x.toInt16.toInt32 :: st)) : sf_W p l e R s m args below meth c cells slots Q nL D A ws lv pc (.int x :: st) := fun H locs ls hP hD hS hl => lv_i2s cx.1 cx.2.1 hdg rfl (hn ▸ k H locs ls hP hD hS hl)
theorem sw_i2c (cx : sf_Cx p m meth c cc nL s args own D tys A) {x : Int32} (hdg : decode cc pc = .ok (.i2c, 1))  (hn : pc + 1 = pc') (k : sf_W p l e R s m args below meth c cells slots Q nL D A ws lv pc' (.int (x.toUInt32 % 65536).toInt32 :: st)) : sf_W p l e R s m args below meth c cells slots Q nL D A ws lv pc (.int x :: st) := fun H locs ls hP hD hS hl => lv_i2c cx.1 cx.2.1 hdg rfl (hn ▸ k H locs ls hP hD hS hl)
theorem sw_lcmp (cx : sf_Cx p m meth c cc nL s args own D tys A) {x y : Int64} (hdg : decode cc pc = .ok (.lcmp, 1))  (hn : pc + 1 = pc') (k : sf_W p l e R s m args below meth c cells slots Q nL D A ws lv pc' (.int (lg_cmp x y) :: st)) : sf_W p l e R s m args below meth c cells slots Q nL D A ws lv pc (.long y :: .long x :: st) := fun H locs ls hP hD hS hl => W.lcmp cx.1 cx.2.1 hdg  (hn ▸ k H locs ls hP hD hS hl)
theorem sw_dup (cx : sf_Cx p m meth c cc nL s args own D tys A) {va : Value} (hdg : decode cc pc = .ok (.dup, 1)) (hva : va.category = 1) (hn : pc + 1 = pc') (k : sf_W p l e R s m args below meth c cells slots Q nL D A ws lv pc' (va :: va :: st)) : sf_W p l e R s m args below meth c cells slots Q nL D A ws lv pc (va :: st) := fun H locs ls hP hD hS hl => lv_dup cx.1 cx.2.1 hdg hva (hn ▸ k H locs ls hP hD hS hl)
theorem sw_pop (cx : sf_Cx p m meth c cc nL s args own D tys A) {va : Value} (hdg : decode cc pc = .ok (.pop, 1)) (hva : va.category = 1) (hn : pc + 1 = pc') (k : sf_W p l e R s m args below meth c cells slots Q nL D A ws lv pc' st) : sf_W p l e R s m args below meth c cells slots Q nL D A ws lv pc (va :: st) := fun H locs ls hP hD hS hl => lv_pop cx.1 cx.2.1 hdg hva (hn ▸ k H locs ls hP hD hS hl)
theorem sw_dup2 (cx : sf_Cx p m meth c cc nL s args own D tys A) {va vb : Value} (hdg : decode cc pc = .ok (.dup2, 1)) (hva : va.category = 1) (hvb : vb.category = 1) (hn : pc + 1 = pc') (k : sf_W p l e R s m args below meth c cells slots Q nL D A ws lv pc' (va :: vb :: va :: vb :: st)) : sf_W p l e R s m args below meth c cells slots Q nL D A ws lv pc (va :: vb :: st) := fun H locs ls hP hD hS hl => lv_dup2_11 cx.1 cx.2.1 hdg hva hvb (hn ▸ k H locs ls hP hD hS hl)
theorem sw_if_eq (cx : sf_Cx p m meth c cc nL s args own D tys A) {x : Int32} {off : Int} {tgt : Nat} (hdg : decode cc pc = .ok (.ifCond .eq off, 3)) (ht : (pc : Int) + off = (tgt : Int)) (hn : pc + 3 = pc') (kt : x = 0 → sf_W p l e R s m args below meth c cells slots Q nL D A ws lv tgt st) (kf : ¬ x = 0 → sf_W p l e R s m args below meth c cells slots Q nL D A ws lv pc' st) : sf_W p l e R s m args below meth c cells slots Q nL D A ws lv pc (.int x :: st) := fun H locs ls hP hD hS hl => lv_if_eq cx.1 cx.2.1 hdg ht (fun h => kt h H locs ls hP hD hS hl) (fun h => hn ▸ kf h H locs ls hP hD hS hl)
theorem sw_icmp_eq (cx : sf_Cx p m meth c cc nL s args own D tys A) {x y : Int32} {off : Int} {tgt : Nat} (hdg : decode cc pc = .ok (.if_icmp .eq off, 3)) (ht : (pc : Int) + off = (tgt : Int)) (hn : pc + 3 = pc') (kt : x = y → sf_W p l e R s m args below meth c cells slots Q nL D A ws lv tgt st) (kf : ¬ x = y → sf_W p l e R s m args below meth c cells slots Q nL D A ws lv pc' st) : sf_W p l e R s m args below meth c cells slots Q nL D A ws lv pc (.int y :: .int x :: st) := fun H locs ls hP hD hS hl => lv_icmp_eq cx.1 cx.2.1 hdg ht (fun h => kt h H locs ls hP hD hS hl) (fun h => hn ▸ kf h H locs ls hP hD hS hl)
theorem sw_if_ne (cx : sf_Cx p m meth c cc nL s args own D tys A) {x : Int32} {off : Int} {tgt : Nat} (hdg : decode cc pc = .ok (.ifCond .ne off, 3)) (ht : (pc : Int) + off = (tgt : Int)) (hn : pc + 3 = pc') (kt : ¬ x = 0 → sf_W p l e R s m args below meth c cells slots Q nL D A ws lv tgt st) (kf : x = 0 → sf_W p l e R s m args below meth c cells slots Q nL D A ws lv pc' st) : sf_W p l e R s m args below meth c cells slots Q nL D A ws lv pc (.int x :: st) := fun H locs ls hP hD hS hl => lv_if_ne cx.1 cx.2.1 hdg ht (fun h => kt h H locs ls hP hD hS hl) (fun h => hn ▸ kf h H locs ls hP hD hS hl)
theorem sw_icmp_ne (cx : sf_Cx p m meth c cc nL s args own D tys A) {x y : Int32} {off : Int} {tgt : Nat} (hdg : decode cc pc = .ok (.if_icmp .ne off, 3)) (ht : (pc : Int) + off = (tgt : Int)) (hn : pc + 3 = pc') (kt : ¬ x = y → sf_W p l e R s m args below meth c cells slots Q nL D A ws lv tgt st) (kf : x = y → sf_W p l e R s m args below meth c cells slots Q nL D A ws lv pc' st) : sf_W p l e R s m args below meth c cells slots Q nL D A ws lv pc (.int y :: .int x :: st) := fun H locs ls hP hD hS hl => lv_icmp_ne cx.1 cx.2.1 hdg ht (fun h => kt h H locs ls hP hD hS hl) (fun h => hn ▸ kf h H locs ls hP hD hS hl)
theorem sw_if_lt (cx : sf_Cx p m meth c cc nL s args own D tys A) {x : Int32} {off : Int} {tgt : Nat} (hdg : decode cc pc = .ok (.ifCond .lt off, 3)) (ht : (pc : Int) + off = (tgt : Int)) (hn : pc + 3 = pc') (kt : x < 0 → sf_W p l e R s m args below meth c cells slots Q nL D A ws lv tgt st) (kf : ¬ x < 0 → sf_W p l e R s m args below meth c cells slots Q nL D A ws lv pc' st) : sf_W p l e R s m args below meth c cells slots Q nL D A ws lv pc (.int x :: st) := fun H locs ls hP hD hS hl => lv_if_lt cx.1 cx.2.1 hdg ht (fun h => kt h H locs ls hP hD hS hl) (fun h => hn ▸ kf h H locs ls hP hD hS hl)
theorem sw_icmp_lt (cx : sf_Cx p m meth c cc nL s args own D tys A) {x y : Int32} {off : Int} {tgt : Nat} (hdg : decode cc pc = .ok (.if_icmp .lt off, 3)) (ht : (pc : Int) + off = (tgt : Int)) (hn : pc + 3 = pc') (kt : x < y → sf_W p l e R s m args below meth c cells slots Q nL D A ws lv tgt st) (kf : ¬ x < y → sf_W p l e R s m args below meth c cells slots Q nL D A ws lv pc' st) : sf_W p l e R s m args below meth c cells slots Q nL D A ws lv pc (.int y :: .int x :: st) := fun H locs ls hP hD hS hl => lv_icmp_lt cx.1 cx.2.1 hdg ht (fun h => kt h H locs ls hP hD hS hl) (fun h => hn ▸ kf h H locs ls hP hD hS hl)
theorem sw_if_ge (cx : sf_Cx p m meth c cc nL s args own D tys A) {x : Int32} {off : Int} {tgt : Nat} (hdg : decode cc pc = .ok (.ifCond .ge off, 3)) (ht : (pc : Int) + off = (tgt : Int)) (hn : pc + 3 = pc') (kt : 0 ≤ x → sf_W p l e R s m args below meth c cells slots Q nL D A ws lv tgt st) (kf : ¬ 0 ≤ x → sf_W p l e R s m args below meth c cells slots Q nL D A ws lv pc' st) : sf_W p l e R s m args below meth c cells slots Q nL D A ws lv pc (.int x :: st) := fun H locs ls hP hD hS hl => lv_if_ge cx.1 cx.2.1 hdg ht (fun h => kt h H locs ls hP hD hS hl) (fun h => hn ▸ kf h H locs ls hP hD hS hl)
theorem sw_icmp_ge (cx : sf_Cx p m meth c cc nL s args own D tys A) {x y : Int32} {off : Int} {tgt : Nat} (hdg : decode cc pc = .ok (.if_icmp .ge off, 3)) (ht : (pc : Int) + off = (tgt : Int)) (hn : pc + 3 = pc') (kt : y ≤ x → sf_W p l e R s m args below meth c cells slots Q nL D A ws lv tgt st) (kf : ¬ y ≤ x → sf_W p l e R s m args below meth c cells slots Q nL D A ws lv pc' st) : sf_W p l e R s m args below meth c cells slots Q nL D A ws lv pc (.int y :: .int x :: st) := fun H locs ls hP hD hS hl => lv_icmp_ge cx.1 cx.2.1 hdg ht (fun h => kt h H locs ls hP hD hS hl) (fun h => hn ▸ kf h H locs ls hP hD hS hl)
theorem sw_if_gt (cx : sf_Cx p m meth c cc nL s args own D tys A) {x : Int32} {off : Int} {tgt : Nat} (hdg : decode cc pc = .ok (.ifCond .gt off, 3)) (ht : (pc : Int) + off = (tgt : Int)) (hn : pc + 3 = pc') (kt : 0 < x → sf_W p l e R s m args below meth c cells slots Q nL D A ws lv tgt st) (kf : ¬ 0 < x → sf_W p l e R s m args below meth c cells slots Q nL D A ws lv pc' st) : sf_W p l e R s m args below meth c cells slots Q nL D A ws lv pc (.int x :: st) := fun H locs ls hP hD hS hl => lv_if_gt cx.1 cx.2.1 hdg ht (fun h => kt h H locs ls hP hD hS hl) (fun h => hn ▸ kf h H locs ls hP hD hS hl)
theorem sw_icmp_gt (cx : sf_Cx p m meth c cc nL s args own D tys A) {x y : Int32} {off : Int} {tgt : Nat} (hdg : decode cc pc = .ok (.if_icmp .gt off, 3)) (ht : (pc : Int) + off = (tgt : Int)) (hn : pc + 3 = pc') (kt : y < x → sf_W p l e R s m args below meth c cells slots Q nL D A ws lv tgt st) (kf : ¬ y < x → sf_W p l e R s m args below meth c cells slots Q nL D A ws lv pc' st) : sf_W p l e R s m args below meth c cells slots Q nL D A ws lv pc (.int y :: .int x :: st) := fun H locs ls hP hD hS hl => lv_icmp_gt cx.1 cx.2.1 hdg ht (fun h => kt h H locs ls hP hD hS hl) (fun h => hn ▸ kf h H locs ls hP hD hS hl)
theorem sw_if_le (cx : sf_Cx p m meth c cc nL s args own D tys A) {x : Int32} {off : Int} {tgt : Nat} (hdg : decode cc pc = .ok (.ifCond .le off, 3)) (ht : (pc : Int) + off = (tgt : Int)) (hn : pc + 3 = pc') (kt : x ≤ 0 → sf_W p l e R s m args below meth c cells slots Q nL D A ws lv tgt st) (kf : ¬ x ≤ 0 → sf_W p l e R s m args below meth c cells slots Q nL D A ws lv pc' st) : sf_W p l e R s m args below meth c cells slots Q nL D A ws lv pc (.int x :: st) := fun H locs ls hP hD hS hl => lv_if_le cx.1 cx.2.1 hdg ht (fun h => kt h H locs ls hP hD hS hl) (fun h => hn ▸ kf h H locs ls hP hD hS hl)
theorem sw_icmp_le (cx : sf_Cx p m meth c cc nL s args own D tys A) {x y : Int32} {off : Int} {tgt : Nat} (hdg : decode cc pc = .ok (.if_icmp .le off, 3)) (ht : (pc : Int) + off = (tgt : Int)) (hn : pc + 3 = pc') (kt : x ≤ y → sf_W p l e R s m args below meth c cells slots Q nL D A ws lv tgt st) (kf : ¬ x ≤ y → sf_W p l e R s m args below meth c cells slots Q nL D A ws lv pc' st) : sf_W p l e R s m args below meth c cells slots Q nL D A ws lv pc (.int y :: .int x :: st) := fun H locs ls hP hD hS hl => lv_icmp_le cx.1 cx.2.1 hdg ht (fun h => kt h H locs ls hP hD hS hl) (fun h => hn ▸ kf h H locs ls hP hD hS hl)
theorem sw_goto (cx : sf_Cx p m meth c cc nL s args own D tys A) {off : Int} {tgt : Nat} (hdg : decode cc pc = .ok (.goto off, 3)) (ht : (pc : Int) + off = (tgt : Int)) (k : sf_W p l e R s m args below meth c cells slots Q nL D A ws lv tgt st) : sf_W p l e R s m args below meth c cells slots Q nL D A ws lv pc st := fun H locs ls hP hD hS hl => lv_goto cx.1 cx.2.1 hdg ht (k H locs ls hP hD hS hl)
theorem sw_ldc (cx : sf_Cx p m meth c cc nL s args own D tys A) {index : Nat} {v : Int32} (hw : Cond.constant own index v ∈ sf_gtbl) (hdg : decode cc pc = .ok (.ldc index, 2)) (hn : pc + 2 = pc') (k : sf_W p l e R s m args below meth c cells slots Q nL D A ws lv pc' (.int v :: st)) : sf_W p l e R s m args below meth c cells slots Q nL D A ws lv pc st := fun H locs ls hP hD hS hl => lv_ldc cx.1 cx.2.1 cx.2.2.2.1 (cx.2.2.2.2.1 _ hw) hdg (hn ▸ k H locs ls hP hD hS hl)
theorem sw_ldc_w (cx : sf_Cx p m meth c cc nL s args own D tys A) {index : Nat} {v : Int32} (hw : Cond.constant own index v ∈ sf_gtbl) (hdg : decode cc pc = .ok (.ldc_w index, 3)) (hn : pc + 3 = pc') (k : sf_W p l e R s m args below meth c cells slots Q nL D A ws lv pc' (.int v :: st)) : sf_W p l e R s m args below meth c cells slots Q nL D A ws lv pc st := fun H locs ls hP hD hS hl => lv_ldcw cx.1 cx.2.1 cx.2.2.2.1 (cx.2.2.2.2.1 _ hw) hdg (hn ▸ k H locs ls hP hD hS hl)
theorem sw_ldc2_w (cx : sf_Cx p m meth c cc nL s args own D tys A) {index : Nat} {v : Int64} (hw : Cond.constantLong own index v ∈ sf_gtbl) (hdg : decode cc pc = .ok (.ldc2_w index, 3)) (hn : pc + 3 = pc') (k : sf_W p l e R s m args below meth c cells slots Q nL D A ws lv pc' (.long v :: st)) : sf_W p l e R s m args below meth c cells slots Q nL D A ws lv pc st := fun H locs ls hP hD hS hl => lv_ldc2 cx.1 cx.2.1 cx.2.2.2.1 (cx.2.2.2.2.1 _ hw) hdg (hn ▸ k H locs ls hP hD hS hl)
theorem sw_tableOut (cx : sf_Cx p m meth c cc nL s args own D tys A) {dflt lo hi : Int} {offs : Array Int} {len : Nat} {x : Int32} {tgt : Nat} (hdg : decode cc pc = .ok (.tableswitch dflt lo hi offs, len)) (h : x.toInt < lo ∨ hi < x.toInt) (ht : (pc : Int) + dflt = (tgt : Int)) (k : sf_W p l e R s m args below meth c cells slots Q nL D A ws lv tgt st) : sf_W p l e R s m args below meth c cells slots Q nL D A ws lv pc (.int x :: st) := fun H locs ls hP hD hS hl => lv_tableOut cx.1 cx.2.1 hdg h ht (k H locs ls hP hD hS hl)
theorem sw_tableIn (cx : sf_Cx p m meth c cc nL s args own D tys A) {dflt lo hi : Int} {offs : Array Int} {len : Nat} {x : Int32} {off : Int} {tgt : Nat} (hdg : decode cc pc = .ok (.tableswitch dflt lo hi offs, len)) (h1 : ¬ x.toInt < lo) (h2 : ¬ hi < x.toInt) (ho : offs[(x.toInt - lo).toNat]? = some off) (ht : (pc : Int) + off = (tgt : Int)) (k : sf_W p l e R s m args below meth c cells slots Q nL D A ws lv tgt st) : sf_W p l e R s m args below meth c cells slots Q nL D A ws lv pc (.int x :: st) := fun H locs ls hP hD hS hl => lv_tableIn cx.1 cx.2.1 hdg h1 h2 ho ht (k H locs ls hP hD hS hl)
theorem sw_get (cx : sf_Cx p m meth c cc nL s args own D tys A) {C : String} {T : u_T} {N ci index : Nat} (hin : ∀ w ∈ u_ws C T N, w ∈ sf_gtbl) (q0 : Nat) {a : Nat} {fs : List Value} (he : ws[q0]? = some (a, .inr (ci, fs))) (hc : vwCl[ci]? = some (C, T, N)) (k0 : Nat) (hk : k0 < N) (hlink : Cond.fieldLink own index (T k0).1 (T k0).2.1 (T k0).2.2.1 ∈ sf_gtbl) {v : Value} (hv : fs[k0]? = some v) (hdg : decode cc pc = .ok (.getfield index, 3)) (hn : pc + 3 = pc') (k : sf_W p l e R s m args below meth c cells slots Q nL D A ws lv pc' (v :: st)) : sf_W p l e R s m args below meth c cells slots Q nL D A ws lv pc (.ref a :: st) := fun H locs ls hP hD hS hl => va_get cx.1 cx.2.1 cx.2.2.2.2.1 hin cx.2.2.2.1 cx.2.2.2.2.2.2.1 hP q0 he hc k0 hk (cx.2.2.2.2.1 _ hlink) (fun _ h => h) hv hdg (hn ▸ k H locs ls hP hD hS hl)
theorem sw_getN (cx : sf_Cx p m meth c cc nL s args own D tys A) {C : String} {T : u_T} {N ci index : Nat} (hin : ∀ w ∈ u_ws C T N, w ∈ sf_gtbl) {host : String} (q0 : Nat) {a : Nat} {fs : List Value} (he : ws[q0]? = some (a, .inr (ci, fs))) (hc : vwCl[ci]? = some (C, T, N)) (k0 : Nat) (hk : k0 < N) (hlink : Cond.fieldLinkNest own index (T k0).1 (T k0).2.1 (T k0).2.2.1 host ∈ sf_nwL) {v : Value} (hv : fs[k0]? = some v) (hdg : decode cc pc = .ok (.getfield index, 3)) (hn : pc + 3 = pc') (k : sf_W p l e R s m args below meth c cells slots Q nL D A ws lv pc' (v :: st)) : sf_W p l e R s m args below meth c cells slots Q nL D A ws lv pc (.ref a :: st) := fun H locs ls hP hD hS hl => va_getN cx.1 cx.2.1 cx.2.2.2.2.1 hin cx.2.2.2.1 cx.2.2.2.2.2.2.1 hP q0 he hc k0 hk ((cx.2.2.2.2.2.1 _ hlink).use rfl) (fun _ h => h) hv hdg (hn ▸ k H locs ls hP hD hS hl)
theorem sw_put (cx : sf_Cx p m meth c cc nL s args own D tys A) {C : String} {T : u_T} {N ci index : Nat} (hin : ∀ w ∈ u_ws C T N, w ∈ sf_gtbl) (ty0 : Nat → FieldType) (hty : ∀ k, k < N → parseFieldDescriptor (T k).2.2.1 = some (ty0 k)) (hnm : ∀ a, a < N → ∀ b, b < N → a ≠ b → (T a).2.1 ≠ (T b).2.1) (q0 : Nat) {a : Nat} {fs : List Value} (he : ws[q0]? = some (a, .inr (ci, fs))) (hc : vwCl[ci]? = some (C, T, N)) (k0 : Nat) (hk : k0 < N) (hlink : Cond.fieldLink own index (T k0).1 (T k0).2.1 (T k0).2.2.1 ∈ sf_gtbl) (hfin : (T k0).2.2.2 = false) {v : Value} (hv : narrow (ty0 k0) v = v) (hfit : fits (ty0 k0) v = true) (hl0 : k0 < fs.length) (hdg : decode cc pc = .ok (.putfield index, 3)) {ws' : va_W} (hw : ws.set q0 (a, .inr (ci, fs.set k0 v)) = ws') (hn : pc + 3 = pc') (k : sf_W p l e R s m args below meth c cells slots Q nL D A ws' lv pc' st) : sf_W p l e R s m args below meth c cells slots Q nL D A ws lv pc (v :: .ref a :: st) := fun H locs ls hP hD hS hl => va_put cx.1 cx.2.1 cx.2.2.2.2.1 hin ty0 hty hnm cx.2.2.2.1 cx.2.2.2.2.2.2.1 hP hD hS q0 he hc k0 hk (cx.2.2.2.2.1 _ hlink) (fun _ h => h) hfin (hty k0 hk) hv hfit hl0 hdg (fun H1 locs1 hP1 hD1 hS1 => hn ▸ k H1 locs1 ls (hw ▸ hP1) (hw ▸ hD1) hS1 hl)
theorem sw_putN (cx : sf_Cx p m meth c cc nL s args own D tys A) {C : String} {T : u_T} {N ci index : Nat} (hin : ∀ w ∈ u_ws C T N, w ∈ sf_gtbl) {host : String} (ty0 : Nat → FieldType) (hty : ∀ k, k < N → parseFieldDescriptor (T k).2.2.1 = some (ty0 k)) (hnm : ∀ a, a < N → ∀ b, b < N → a ≠ b → (T a).2.1 ≠ (T b).2.1) (q0 : Nat) {a : Nat} {fs : List Value} (he : ws[q0]? = some (a, .inr (ci, fs))) (hc : vwCl[ci]? = some (C, T, N)) (k0 : Nat) (hk : k0 < N) (hlink : Cond.fieldLinkNest own index (T k0).1 (T k0).2.1 (T k0).2.2.1 host ∈ sf_nwL) (hfin : (T k0).2.2.2 = false) {v : Value} (hv : narrow (ty0 k0) v = v) (hfit : fits (ty0 k0) v = true) (hl0 : k0 < fs.length) (hdg : decode cc pc = .ok (.putfield index, 3)) {ws' : va_W} (hw : ws.set q0 (a, .inr (ci, fs.set k0 v)) = ws') (hn : pc + 3 = pc') (k : sf_W p l e R s m args below meth c cells slots Q nL D A ws' lv pc' st) : sf_W p l e R s m args below meth c cells slots Q nL D A ws lv pc (v :: .ref a :: st) := fun H locs ls hP hD hS hl => va_putN cx.1 cx.2.1 cx.2.2.2.2.1 hin ty0 hty hnm cx.2.2.2.1 cx.2.2.2.2.2.2.1 hP hD hS q0 he hc k0 hk ((cx.2.2.2.2.2.1 _ hlink).use rfl) (fun _ h => h) hfin (hty k0 hk) hv hfit hl0 hdg (fun H1 locs1 hP1 hD1 hS1 => hn ▸ k H1 locs1 ls (hw ▸ hP1) (hw ▸ hD1) hS1 hl)
theorem sw_iald (cx : sf_Cx p m meth c cc nL s args own D tys A) (q0 t0 : Nat) {a : Nat} {cA : ClassId} {n : Nat} {f : Nat → Int32} (ha : ws[q0]? = some (a, .inl (cA, n, .inl f))) (ht : tys[t0]? = some (cA, .int)) {i : Int32} (hi : vp_in i n) (hdg : decode cc pc = .ok (.iaload, 1)) (hn : pc + 1 = pc') (k : sf_W p l e R s m args below meth c cells slots Q nL D A ws lv pc' (.int (f i.toNatClampNeg) :: st)) : sf_W p l e R s m args below meth c cells slots Q nL D A ws lv pc (.int i :: .ref a :: st) := fun H locs ls hP hD hS hl => va_iald cx.1 cx.2.1 cx.2.2.2.2.2.2.1 hP q0 t0 ha ht hi hdg (hn ▸ k H locs ls hP hD hS hl)
theorem sw_iast (cx : sf_Cx p m meth c cc nL s args own D tys A) (q0 t0 : Nat) {a : Nat} {cA : ClassId} {n : Nat} {f : Nat → Int32} (ha : ws[q0]? = some (a, .inl (cA, n, .inl f))) (ht : tys[t0]? = some (cA, .int)) {i : Int32} {x : Int32} (hi : vp_in i n) (hdg : decode cc pc = .ok (.iastore, 1)) {ws' : va_W} (hw : ws.set q0 (a, .inl (cA, n, .inl (upd f i.toNatClampNeg x))) = ws') (hn : pc + 1 = pc') (k : sf_W p l e R s m args below meth c cells slots Q nL D A ws' lv pc' st) : sf_W p l e R s m args below meth c cells slots Q nL D A ws lv pc (.int x :: .int i :: .ref a :: st) := fun H locs ls hP hD hS hl => va_iast cx.1 cx.2.1 cx.2.2.2.2.2.2.1 hP hD hS q0 t0 ha ht hi hdg (fun H1 locs1 hP1 hD1 hS1 => hn ▸ k H1 locs1 ls (hw ▸ hP1) (hw ▸ hD1) hS1 hl)
theorem sw_lald (cx : sf_Cx p m meth c cc nL s args own D tys A) (q0 t0 : Nat) {a : Nat} {cA : ClassId} {n : Nat} {f : Nat → Int64} (ha : ws[q0]? = some (a, .inl (cA, n, .inr (.inl f)))) (ht : tys[t0]? = some (cA, .long)) {i : Int32} (hi : vp_in i n) (hdg : decode cc pc = .ok (.laload, 1)) (hn : pc + 1 = pc') (k : sf_W p l e R s m args below meth c cells slots Q nL D A ws lv pc' (.long (f i.toNatClampNeg) :: st)) : sf_W p l e R s m args below meth c cells slots Q nL D A ws lv pc (.int i :: .ref a :: st) := fun H locs ls hP hD hS hl => va_lald cx.1 cx.2.1 cx.2.2.2.2.2.2.1 hP q0 t0 ha ht hi hdg (hn ▸ k H locs ls hP hD hS hl)
theorem sw_last (cx : sf_Cx p m meth c cc nL s args own D tys A) (q0 t0 : Nat) {a : Nat} {cA : ClassId} {n : Nat} {f : Nat → Int64} (ha : ws[q0]? = some (a, .inl (cA, n, .inr (.inl f)))) (ht : tys[t0]? = some (cA, .long)) {i : Int32} {x : Int64} (hi : vp_in i n) (hdg : decode cc pc = .ok (.lastore, 1)) {ws' : va_W} (hw : ws.set q0 (a, .inl (cA, n, .inr (.inl (vp_updL f i.toNatClampNeg x)))) = ws') (hn : pc + 1 = pc') (k : sf_W p l e R s m args below meth c cells slots Q nL D A ws' lv pc' st) : sf_W p l e R s m args below meth c cells slots Q nL D A ws lv pc (.long x :: .int i :: .ref a :: st) := fun H locs ls hP hD hS hl => va_last cx.1 cx.2.1 cx.2.2.2.2.2.2.1 hP hD hS q0 t0 ha ht hi hdg (fun H1 locs1 hP1 hD1 hS1 => hn ▸ k H1 locs1 ls (hw ▸ hP1) (hw ▸ hD1) hS1 hl)
theorem sw_alen (cx : sf_Cx p m meth c cc nL s args own D tys A) (q0 t0 : Nat) {a : Nat} {cA : ClassId} {x : vp_A} (ha : ws[q0]? = some (a, .inl (cA, x))) {ty : FieldType} (ht : tys[t0]? = some (cA, ty)) {v : Int32} (hv : Int32.ofNat x.1 = v) (hdg : decode cc pc = .ok (.arraylength, 1)) (hn : pc + 1 = pc') (k : sf_W p l e R s m args below meth c cells slots Q nL D A ws lv pc' (.int v :: st)) : sf_W p l e R s m args below meth c cells slots Q nL D A ws lv pc (.ref a :: st) := fun H locs ls hP hD hS hl => va_alen cx.1 cx.2.1 cx.2.2.2.2.2.2.1 hP q0 t0 ha ht hv hdg (hn ▸ k H locs ls hP hD hS hl)
theorem sw_aald (cx : sf_Cx p m meth c cc nL s args own D tys A) (q0 t0 : Nat) {a : Nat} {cA : ClassId} {C : String} {n : Nat} {f : Nat → Option Nat} (ha : ws[q0]? = some (a, .inl (cA, n, .inr (.inr (.inr (.inr f)))))) (ht : tys[t0]? = some (cA, .object C)) {i : Int32} (hi : vp_in i n) (hdg : decode cc pc = .ok (.aaload, 1)) (hn : pc + 1 = pc') (k : sf_W p l e R s m args below meth c cells slots Q nL D A ws lv pc' (va_rf (f i.toNatClampNeg) :: st)) : sf_W p l e R s m args below meth c cells slots Q nL D A ws lv pc (.int i :: .ref a :: st) := fun H locs ls hP hD hS hl => va_aldq cx.1 cx.2.1 cx.2.2.2.2.2.2.1 hP q0 t0 ha ht hi hdg (hn ▸ k H locs ls hP hD hS hl)
theorem sw_mmax (cx : sf_Cx p m meth c cc nL s args own D tys A) {x y : Int32} {index : Nat} (hlink : Cond.methodLink own index Lib.Math.max.name ∈ sf_gtbl) (hstat : Cond.static Lib.Math.max.name ∈ sf_gtbl) (hini : Cond.initialized "java/lang/Math" ∈ sf_gtbl) (hcode : Cond.code Lib.Math.max.name Lib.Math.max.code 2 (some .int) ∈ sf_gtbl) (hframes : 1 ≤ R.frames) (hlocals : (st.map fun v => v.category).sum + 13 ≤ R.locals) (hcs : cells ≤ R.cells ∧ slots ≤ R.slots) (hdg : decode cc pc = .ok (.invokestatic index, 3)) (hn : pc + 3 = pc') (k : sf_W p l e R s m args below meth c cells slots Q nL D A ws lv pc' (.int (if x < y then y else x) :: st)) : sf_W p l e R s m args below meth c cells slots Q nL D A ws lv pc (.int y :: .int x :: st) := fun H locs ls hP hD hS hl => va_mmax cx.1 cx.2.1 (cx.2.2.1.trans hl.1.symm) cx.2.2.2.1 (cx.2.2.2.2.1 _ hlink) (cx.2.2.2.2.1 _ hstat) (cx.2.2.2.2.1 _ hini) (cx.2.2.2.2.1 _ hcode) hframes hlocals hcs.1 hcs.2 hdg (hn ▸ k H locs ls hP hD hS hl)
theorem sw_mmin (cx : sf_Cx p m meth c cc nL s args own D tys A) {x y : Int32} {index : Nat} (hlink : Cond.methodLink own index Lib.Math.min.name ∈ sf_gtbl) (hstat : Cond.static Lib.Math.min.name ∈ sf_gtbl) (hini : Cond.initialized "java/lang/Math" ∈ sf_gtbl) (hcode : Cond.code Lib.Math.min.name Lib.Math.min.code 2 (some .int) ∈ sf_gtbl) (hframes : 1 ≤ R.frames) (hlocals : (st.map fun v => v.category).sum + 13 ≤ R.locals) (hcs : cells ≤ R.cells ∧ slots ≤ R.slots) (hdg : decode cc pc = .ok (.invokestatic index, 3)) (hn : pc + 3 = pc') (k : sf_W p l e R s m args below meth c cells slots Q nL D A ws lv pc' (.int (if y < x then y else x) :: st)) : sf_W p l e R s m args below meth c cells slots Q nL D A ws lv pc (.int y :: .int x :: st) := fun H locs ls hP hD hS hl => va_mmin cx.1 cx.2.1 (cx.2.2.1.trans hl.1.symm) cx.2.2.2.1 (cx.2.2.2.2.1 _ hlink) (cx.2.2.2.2.1 _ hstat) (cx.2.2.2.2.1 _ hini) (cx.2.2.2.2.1 _ hcode) hframes hlocals hcs.1 hcs.2 hdg (hn ▸ k H locs ls hP hD hS hl)
theorem sw_mabs (cx : sf_Cx p m meth c cc nL s args own D tys A) {x : Int32} {index : Nat} (hlink : Cond.methodLink own index Lib.Math.abs.name ∈ sf_gtbl) (hstat : Cond.static Lib.Math.abs.name ∈ sf_gtbl) (hini : Cond.initialized "java/lang/Math" ∈ sf_gtbl) (hcode : Cond.code Lib.Math.abs.name Lib.Math.abs.code 1 (some .int) ∈ sf_gtbl) (hframes : 1 ≤ R.frames) (hlocals : (st.map fun v => v.category).sum + 13 ≤ R.locals) (hcs : cells ≤ R.cells ∧ slots ≤ R.slots) (hdg : decode cc pc = .ok (.invokestatic index, 3)) (hn : pc + 3 = pc') (k : sf_W p l e R s m args below meth c cells slots Q nL D A ws lv pc' (.int (if 0 ≤ x then x else 0 - x) :: st)) : sf_W p l e R s m args below meth c cells slots Q nL D A ws lv pc (.int x :: st) := fun H locs ls hP hD hS hl => va_mabs cx.1 cx.2.1 (cx.2.2.1.trans hl.1.symm) cx.2.2.2.1 (cx.2.2.2.2.1 _ hlink) (cx.2.2.2.2.1 _ hstat) (cx.2.2.2.2.1 _ hini) (cx.2.2.2.2.1 _ hcode) hframes hlocals hcs.1 hcs.2 hdg (hn ▸ k H locs ls hP hD hS hl)
/-- what a method that is called brings: its words in the table -/
def sf_Pk (y : MethodName) (bytes : ByteArray) (maxL : Nat) (ret : Option FieldType) (n : Nat) : Prop := Cond.initialized y.cls ∈ sf_gtbl ∧ Cond.code y bytes maxL ret ∈ sf_gtbl ∧ y.cls ≠ "java/lang/invoke/MethodHandle" ∧ y.cls ≠ "java/lang/invoke/VarHandle" ∧ (parseMethodDescriptor y.desc).map (fun d => d.parameters.length) = some n
def sf_PkV (y : MethodName) (bytes : ByteArray) (maxL : Nat) (ret : Option FieldType) (n : Nat) : Prop := sf_Pk y bytes maxL ret n ∧ Cond.instanceMethod y ∈ sf_gtbl ∧ Cond.selects y.cls y y ∈ sf_gtbl
def sf_PkS (y : MethodName) (bytes : ByteArray) (maxL : Nat) (ret : Option FieldType) (n : Nat) : Prop := sf_Pk y bytes maxL ret n ∧ Cond.static y ∈ sf_gtbl
theorem sf_ht {y : MethodName} {bytes : ByteArray} {maxL : Nat} {ret : Option FieldType} (hc : Cond.code y bytes maxL ret ∈ sf_gtbl) : GoodIn sf_gtbl (Cond.code y bytes maxL ret :: sf_gtbl) := by
  intro w hw
  rcases List.mem_cons.mp hw with h | h
  · subst h; exact ⟨hc, sf_good hc⟩
  · exact ⟨h, sf_good h⟩
theorem sf_callB (cx : sf_Cx p m meth c cc nL s args own D tys A) {y : MethodName} {bytes : ByteArray} {maxL n index : Nat} {ret : Option FieldType} {rm : Room} (pk : sf_Pk y bytes maxL ret n) (hlink : Cond.methodLink own index y ∈ sf_gtbl) (hrm : rm.cells = 0 ∧ rm.slots = 0) (hR : rm.frames + 1 ≤ R.frames ∧ 8 + (maxL + 11) + rm.locals ≤ R.locals) : CallB R s args own index y bytes maxL ret (Cond.code y bytes maxL ret :: sf_gtbl) rm 0 0 n :=
  callB_of n cx.2.2.2.2.1 (sf_ht pk.2.1) rfl hrm.1 hrm.2 (cx.2.2.2.2.1 _ pk.1) (cx.2.2.2.2.1 _ hlink) pk.2.2 hR
theorem sf_callN (cx : sf_Cx p m meth c cc nL s args own D tys A) {y : MethodName} {bytes : ByteArray} {maxL n index : Nat} {ret : Option FieldType} {rm : Room} {host : String} (pk : sf_Pk y bytes maxL ret n) (hlink : Cond.methodLinkNest own index y host ∈ sf_nwL) (hrm : rm.cells = 0 ∧ rm.slots = 0) (hR : rm.frames + 1 ≤ R.frames ∧ 8 + (maxL + 11) + rm.locals ≤ R.locals) : va_CN R s args own index y host bytes maxL ret (Cond.code y bytes maxL ret :: sf_gtbl) rm 0 0 n :=
  va_cnB n cx.2.2.2.2.1 (sf_ht pk.2.1) rfl hrm.1 hrm.2 (cx.2.2.2.2.2.1 _ hlink) (cx.2.2.2.2.1 _ pk.1) pk.2.2 hR
/-- the state that a callee finds -/
theorem sf_pre (cx : sf_Cx p m meth c cc nL s args own D tys A) {wc : va_W} {H : Heap} {locs : List Loc} (hP : va_P D.1 vwCl ws H) (hD : va_D A ws) (hS : va_S A s.heap H locs) (is : List Nat) (hC : is.map (fun i => ws[i]?) = wc.map some) (hnd : va_nd is = true) {av : List Value} : ∀ U : State, U.heap = H → s.WarmedH U.vm → sf_Pc D tys av wc H.size av.toArray U := by
  intro U hU hW
  refine ⟨rfl, by rw [hU], ?_, va_K.moved hW.alike cx.2.2.2.2.2.2.1, ((hD.sub is hnd hC).weaken (fun _ _ _ _ => trivial)), sf_NW_warm hW cx.2.2.2.2.2.1, ?_⟩
  rotate_left
  · rw [hU]
    exact sf_St_warm hW (sf_St_narrow (sf_St_kept cx.2.2.2.2.2.2.2.2.2 hS.2.1) (va_free (wc := wc) hD hS cx.2.2.2.2.2.2.2.1 is hC))
  rw [hU]
  intro k q hq
  obtain ⟨i, -, hi⟩ := sf_at hC k q hq
  exact hP i q hi
/-- behind a call -/
theorem sf_go {H : Heap} {locs : List Loc} {ls : Array Slot} {wc w' : va_W} {o : Option Value} {a : Array Value} (cx : sf_Cx p m meth c cc nL s args own D tys A)
    (hr : va_Run p l e R s m args below meth c H locs cells slots 0 0 (F0 m pc ls st) rest (sf_Q D tys (va_A wc H.size) o w' a) (va_A wc H.size)) (hP : va_P D.1 vwCl ws H) (hD : va_D A ws) (hS : va_S A s.heap H locs) (hl : lv_has ls nL lv) (is : List Nat) (hC : is.map (fun i => ws[i]?) = wc.map some) (hnd : va_nd is = true) (hadr : wc.map Prod.fst = w'.map Prod.fst) {wn : va_W} (hw : sf_rp ws is w' = wn)
    (hn : pc + 3 = pc') (k : sf_W p l e R s m args below meth c cells slots Q nL D A wn lv pc' (o.toList ++ rest)) : W p l e R s m args below meth c H locs cells slots Q (F0 m pc ls st) := by
  subst hn; subst hw
  have hF := va_free (wc := wc) hD hS cx.2.2.2.2.2.2.2.1 is hC
  intro T hT X
  obtain ⟨v, st₀, t, T', L, h0, X', hL, e1, e2, ⟨⟨hv, hP1, hK1, hD1⟩, hz, hk⟩, stp⟩ := hr T hT X
  cases hv
  rw [h0] at hz hk
  rw [← e1] at hP1 hz hk
  obtain ⟨hP2, hD2⟩ := sf_back hP hD is hC hnd hadr hk hP1
  obtain ⟨t2, a1, b1⟩ := k T'.heap (locs ++ L) ls hP2 hD2
    ⟨Nat.le_trans hS.1 hz, fun q h1 h2 => by rw [hk q (Nat.lt_of_lt_of_le h1 hS.1) (fun z => h2 (hF q z))]; exact hS.2.1 q h1 h2, fun q hq => by
      rcases List.mem_append.mp hq with h | h
      · exact hS.2.2 q h
      · exact hF _ (hL q h)⟩ hl T' rfl X'
  exact ⟨t2, stp t2 a1, b1⟩
theorem sw_callV (cx : sf_Cx p m meth c cc nL s args own D tys A) {y : MethodName} {bytes : ByteArray} {maxL n index : Nat} {ret : Option FieldType} {rm : Room} {wc w' wn : va_W} {o : Option Value} {As : List Value} {b ci : Nat} {fs : List Value} {q : vw_C} (hc : sf_Ct l y bytes maxL ret rm D tys (.ref b :: As) wc o w') (pk : sf_PkV y bytes maxL ret n) (hlink : Cond.methodLink own index y ∈ sf_gtbl) (hrm : rm.cells = 0 ∧ rm.slots = 0) (hR : rm.frames + 1 ≤ R.frames ∧ 8 + (maxL + 11) + rm.locals ≤ R.locals) (hcs : cells ≤ R.cells ∧ slots ≤ R.slots) (is : List Nat) (hC : is.map (fun i => ws[i]?) = wc.map some) (hnd : va_nd is = true) (hadr : wc.map Prod.fst = w'.map Prod.fst) (hw : sf_rp ws is w' = wn) (q0 : Nat) (hq : wc[q0]? = some (b, .inr (ci, fs))) (hcl : vwCl[ci]? = some q) (hqn : q.1 = y.cls) (hnA : As.length = n) (hW : (rest.map fun v => v.category).sum ≤ 8) (hst : st = As.reverse ++ .ref b :: rest) (hdg : decode cc pc = .ok (.invokevirtual index, 3)) (hn : pc + 3 = pc') (k : sf_W p l e R s m args below meth c cells slots Q nL D A wn lv pc' (o.toList ++ rest)) : sf_W p l e R s m args below meth c cells slots Q nL D A ws lv pc st := by
  intro H locs ls hP hD hS hl
  obtain ⟨i, -, hi⟩ := sf_at hC q0 _ hq
  refine sf_go cx (va_runV ⟨cx.1, cx.2.1, cx.2.2.1, cx.2.2.2.1, cx.2.2.2.2.1⟩ (hc H.size) ⟨sf_callB cx pk.1 hlink hrm hR, cx.2.2.2.2.1 _ pk.2.1, cx.2.2.2.2.1 _ pk.2.2⟩ ⟨sf_Pc_blind, hqn ▸ va_recv cx.2.2.2.2.2.2.1 hP hcl hi, sf_pre cx hP hD hS is hC hnd⟩ rfl hnA hl.1 hst (lv_room hW) hdg hcs) hP hD hS hl is hC hnd hadr hw hn k
theorem sw_callS (cx : sf_Cx p m meth c cc nL s args own D tys A) {y : MethodName} {bytes : ByteArray} {maxL n index : Nat} {ret : Option FieldType} {rm : Room} {wc w' wn : va_W} {o : Option Value} {As : List Value} (hc : sf_Ct l y bytes maxL ret rm D tys As wc o w') (pk : sf_PkS y bytes maxL ret n) (hlink : Cond.methodLink own index y ∈ sf_gtbl) (hrm : rm.cells = 0 ∧ rm.slots = 0) (hR : rm.frames + 1 ≤ R.frames ∧ 8 + (maxL + 11) + rm.locals ≤ R.locals) (hcs : cells ≤ R.cells ∧ slots ≤ R.slots) (is : List Nat) (hC : is.map (fun i => ws[i]?) = wc.map some) (hnd : va_nd is = true) (hadr : wc.map Prod.fst = w'.map Prod.fst) (hw : sf_rp ws is w' = wn) (hnA : As.length = n) (hW : (rest.map fun v => v.category).sum ≤ 8) (hst : st = As.reverse ++ rest) (hdg : decode cc pc = .ok (.invokestatic index, 3)) (hn : pc + 3 = pc') (k : sf_W p l e R s m args below meth c cells slots Q nL D A wn lv pc' (o.toList ++ rest)) : sf_W p l e R s m args below meth c cells slots Q nL D A ws lv pc st := by
  intro H locs ls hP hD hS hl
  refine sf_go cx (va_runS ⟨cx.1, cx.2.1, cx.2.2.1, cx.2.2.2.1, cx.2.2.2.2.1⟩ (hc H.size) ⟨sf_callB cx pk.1 hlink hrm hR, cx.2.2.2.2.1 _ pk.2⟩ ⟨sf_Pc_blind, sf_pre cx hP hD hS is hC hnd⟩ rfl hnA hl.1 hst (lv_room hW) hdg hcs) hP hD hS hl is hC hnd hadr hw hn k
theorem sw_callSN (cx : sf_Cx p m meth c cc nL s args own D tys A) {y : MethodName} {bytes : ByteArray} {maxL n index : Nat} {ret : Option FieldType} {rm : Room} {wc w' wn : va_W} {o : Option Value} {As : List Value} {host : String} (hc : sf_Ct l y bytes maxL ret rm D tys As wc o w') (pk : sf_PkS y bytes maxL ret n) (hlink : Cond.methodLinkNest own index y host ∈ sf_nwL) (hrm : rm.cells = 0 ∧ rm.slots = 0) (hR : rm.frames + 1 ≤ R.frames ∧ 8 + (maxL + 11) + rm.locals ≤ R.locals) (hcs : cells ≤ R.cells ∧ slots ≤ R.slots) (is : List Nat) (hC : is.map (fun i => ws[i]?) = wc.map some) (hnd : va_nd is = true) (hadr : wc.map Prod.fst = w'.map Prod.fst) (hw : sf_rp ws is w' = wn) (hnA : As.length = n) (hW : (rest.map fun v => v.category).sum ≤ 8) (hst : st = As.reverse ++ rest) (hdg : decode cc pc = .ok (.invokestatic index, 3)) (hn : pc + 3 = pc') (k : sf_W p l e R s m args below meth c cells slots Q nL D A wn lv pc' (o.toList ++ rest)) : sf_W p l e R s m args below meth c cells slots Q nL D A ws lv pc st := by
  intro H locs ls hP hD hS hl
  refine sf_go cx (va_runSN ⟨cx.1, cx.2.1, cx.2.2.1, cx.2.2.2.1, cx.2.2.2.2.1⟩ (hc H.size) ⟨sf_callN cx pk.1 hlink hrm hR, cx.2.2.2.2.1 _ pk.2, trivial⟩ ⟨sf_Pc_blind, sf_pre cx hP hD hS is hC hnd⟩ rfl hnA hl.1 hst (lv_room hW) hdg hcs) hP hD hS hl is hC hnd hadr hw hn k
/-- behind a call whose world is the caller's -/
theorem sf_goW {H : Heap} {locs : List Loc} {ls : Array Slot} {w' : va_W} {o : Option Value} {a : Array Value} (cx : sf_Cx p m meth c cc nL s args own D tys A)
    (hr : va_Run p l e R s m args below meth c H locs cells slots 0 0 (F0 m pc ls st) rest (sf_Q D tys (va_A ws H.size) o w' a) (va_A ws H.size)) (hD : va_D A ws) (hS : va_S A s.heap H locs) (hl : lv_has ls nL lv)
    (hn : pc + 3 = pc') (k : sf_W p l e R s m args below meth c cells slots Q nL D A w' lv pc' (o.toList ++ rest)) : W p l e R s m args below meth c H locs cells slots Q (F0 m pc ls st) := by
  subst hn
  have hF : ∀ q, va_A ws H.size q → A q := by
    intro q h
    rcases h with ⟨k, e, h⟩ | h
    · exact hD.2 k (q, e) h
    · exact cx.2.2.2.2.2.2.2.1 q (Nat.le_trans hS.1 h)
  intro T hT X
  obtain ⟨v, st₀, t, T', L, h0, X', hL, e1, e2, ⟨⟨hv, hP1, hK1, hD1⟩, hz, hk⟩, stp⟩ := hr T hT X
  cases hv
  rw [h0] at hz hk
  rw [← e1] at hP1 hz hk
  obtain ⟨t2, a1, b1⟩ := k T'.heap (locs ++ L) ls hP1 (hD1.weaken (fun k q _ h => hF q.1 h))
    ⟨Nat.le_trans hS.1 hz, fun q h1 h2 => by rw [hk q (Nat.lt_of_lt_of_le h1 hS.1) (fun z => h2 (hF q z))]; exact hS.2.1 q h1 h2, fun q hq => by
      rcases List.mem_append.mp hq with h | h
      · exact hS.2.2 q h
      · exact hF _ (hL q h)⟩ hl T' rfl X'
  exact ⟨t2, stp t2 a1, b1⟩
theorem sf_preW (cx : sf_Cx p m meth c cc nL s args own D tys A) {H : Heap} {locs : List Loc} (hP : va_P D.1 vwCl ws H) (hD : va_D A ws) (hS : va_S A s.heap H locs) {av : List Value} : ∀ U : State, U.heap = H → s.WarmedH U.vm → sf_Pc D tys av ws H.size av.toArray U :=
  fun U hU hW => ⟨rfl, by rw [hU], by rw [hU]; exact hP, va_K.moved hW.alike cx.2.2.2.2.2.2.1, hD.weaken (fun _ _ _ _ => trivial), sf_NW_warm hW cx.2.2.2.2.2.1, by
    rw [hU]
    refine sf_St_warm hW (sf_St_narrow (sf_St_kept cx.2.2.2.2.2.2.2.2.2 hS.2.1) ?_)
    intro q h
    rcases h with ⟨k, e, h⟩ | h
    · exact hD.2 k (q, e) h
    · exact cx.2.2.2.2.2.2.2.1 q (Nat.le_trans hS.1 h)⟩
theorem sw_callVw (cx : sf_Cx p m meth c cc nL s args own D tys A) {y : MethodName} {bytes : ByteArray} {maxL n index : Nat} {ret : Option FieldType} {rm : Room} {w' : va_W} {o : Option Value} {As : List Value} {b ci : Nat} {fs : List Value} {q : vw_C} (hc : sf_Ct l y bytes maxL ret rm D tys (.ref b :: As) ws o w') (pk : sf_PkV y bytes maxL ret n) (hlink : Cond.methodLink own index y ∈ sf_gtbl) (hrm : rm.cells = 0 ∧ rm.slots = 0) (hR : rm.frames + 1 ≤ R.frames ∧ 8 + (maxL + 11) + rm.locals ≤ R.locals) (hcs : cells ≤ R.cells ∧ slots ≤ R.slots) (q0 : Nat) (hq : ws[q0]? = some (b, .inr (ci, fs))) (hcl : vwCl[ci]? = some q) (hqn : q.1 = y.cls) (hnA : As.length = n) (hW : (rest.map fun v => v.category).sum ≤ 8) (hst : st = As.reverse ++ .ref b :: rest) (hdg : decode cc pc = .ok (.invokevirtual index, 3)) (hn : pc + 3 = pc') (k : sf_W p l e R s m args below meth c cells slots Q nL D A w' lv pc' (o.toList ++ rest)) : sf_W p l e R s m args below meth c cells slots Q nL D A ws lv pc st := by
  intro H locs ls hP hD hS hl
  refine sf_goW cx (va_runV ⟨cx.1, cx.2.1, cx.2.2.1, cx.2.2.2.1, cx.2.2.2.2.1⟩ (hc H.size) ⟨sf_callB cx pk.1 hlink hrm hR, cx.2.2.2.2.1 _ pk.2.1, cx.2.2.2.2.1 _ pk.2.2⟩ ⟨sf_Pc_blind, hqn ▸ va_recv cx.2.2.2.2.2.2.1 hP hcl hq, sf_preW cx hP hD hS⟩ rfl hnA hl.1 hst (lv_room hW) hdg hcs) hD hS hl hn k
theorem sw_tableEq (cx : sf_Cx p m meth c cc nL s args own D tys A) {dflt lo hi : Int} {offs : Array Int} {len : Nat} {x v : Int32} {off : Int} {tgt : Nat} (hx : x = v) (hdg : decode cc pc = .ok (.tableswitch dflt lo hi offs, len)) (h1 : ¬ v.toInt < lo) (h2 : ¬ hi < v.toInt) (ho : offs[(v.toInt - lo).toNat]? = some off) (ht : (pc : Int) + off = (tgt : Int)) (k : sf_W p l e R s m args below meth c cells slots Q nL D A ws lv tgt st) : sf_W p l e R s m args below meth c cells slots Q nL D A ws lv pc (.int x :: st) := by subst hx; exact sw_tableIn cx hdg h1 h2 ho ht k
theorem sf_ne {x v : Int32} {k : Int} (h : ¬ x = v) (e : v.toInt = k) : ¬ x.toInt = k := fun h2 => h (Int32.toInt_inj.mp (h2.trans e.symm))
def gb {α : Type} (v : Int32) (k : Option α) : Option α := if v = 0 ∨ v = 1 then k else none
theorem gb_s {α : Type} {v : Int32} {k : Option α} {r : α} (h : gb v k = some r) : (narrow .boolean (.int v) = .int v ∧ fits .boolean (.int v) = true) ∧ k = some r := by
  unfold gb at h
  by_cases hc : v = 0 ∨ v = 1
  · rw [if_pos hc] at h
    refine ⟨?_, h⟩
    rcases hc with rfl | rfl <;> exact ⟨by decide +kernel, by decide +kernel⟩
  · rw [if_neg hc] at h; cases h
theorem gb_0 {α : Type} {k : Option α} : gb 0 k = k := rfl
theorem gb_1 {α : Type} {k : Option α} : gb 1 k = k := rfl
end SW
end
