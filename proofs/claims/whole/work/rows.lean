section
-- ===== PART A: goes FIRST, ahead of the names: the tables' words, and 'selects' of the private methods out of them =====
/-- a private method of a class that the tables say can be made, by its rows of tables_1 -/
def lw_okq (q : MethodName × Nat) : Prop := (q.1.cls ≠ "java/lang/invoke/MethodHandle" ∧ q.1.cls ≠ "java/lang/invoke/VarHandle") ∧ Cond.instantiable q.1.cls q.2 ∈ tables_1 ∧ Cond.privateMethod q.1 ∈ tables_1 ∧ Cond.instanceMethod q.1 ∈ tables_1
theorem lw_p0 : lw_okq (⟨"DubDesk", "finding", "(I)I"⟩, 13) := ⟨⟨by decide +kernel, by decide +kernel⟩, List.mem_of_getElem? (i := 17) (by decide +kernel), List.mem_of_getElem? (i := 350) (by decide +kernel), List.mem_of_getElem? (i := 351) (by decide +kernel)⟩
theorem lw_p1 : lw_okq (⟨"DubDesk", "remember", "(III)LDubDesk$Act;"⟩, 13) := ⟨⟨by decide +kernel, by decide +kernel⟩, List.mem_of_getElem? (i := 17) (by decide +kernel), List.mem_of_getElem? (i := 359) (by decide +kernel), List.mem_of_getElem? (i := 360) (by decide +kernel)⟩
theorem lw_p2 : lw_okq (⟨"DubDesk", "isLine", "(I)Z"⟩, 13) := ⟨⟨by decide +kernel, by decide +kernel⟩, List.mem_of_getElem? (i := 17) (by decide +kernel), List.mem_of_getElem? (i := 374) (by decide +kernel), List.mem_of_getElem? (i := 375) (by decide +kernel)⟩
theorem lw_p3 : lw_okq (⟨"DubDesk", "isWording", "(I)Z"⟩, 13) := ⟨⟨by decide +kernel, by decide +kernel⟩, List.mem_of_getElem? (i := 17) (by decide +kernel), List.mem_of_getElem? (i := 390) (by decide +kernel), List.mem_of_getElem? (i := 391) (by decide +kernel)⟩
theorem lw_p4 : lw_okq (⟨"DubDesk", "countWordings", "(I)I"⟩, 13) := ⟨⟨by decide +kernel, by decide +kernel⟩, List.mem_of_getElem? (i := 17) (by decide +kernel), List.mem_of_getElem? (i := 430) (by decide +kernel), List.mem_of_getElem? (i := 431) (by decide +kernel)⟩
theorem lw_p5 : lw_okq (⟨"DubDesk", "findFit", "(I)Z"⟩, 13) := ⟨⟨by decide +kernel, by decide +kernel⟩, List.mem_of_getElem? (i := 17) (by decide +kernel), List.mem_of_getElem? (i := 442) (by decide +kernel), List.mem_of_getElem? (i := 443) (by decide +kernel)⟩
theorem lw_p6 : lw_okq (⟨"DubDesk$Fit", "fillPauses", "(LDubDesk$Line;)V"⟩, 5) := ⟨⟨by decide +kernel, by decide +kernel⟩, List.mem_of_getElem? (i := 133) (by decide +kernel), List.mem_of_getElem? (i := 450) (by decide +kernel), List.mem_of_getElem? (i := 451) (by decide +kernel)⟩
theorem lw_p7 : lw_okq (⟨"DubDesk$Fit", "fillSyllable", "(LDubDesk$Wording;LDubDesk$Line;I)V"⟩, 5) := ⟨⟨by decide +kernel, by decide +kernel⟩, List.mem_of_getElem? (i := 133) (by decide +kernel), List.mem_of_getElem? (i := 457) (by decide +kernel), List.mem_of_getElem? (i := 458) (by decide +kernel)⟩
theorem lw_p8 : lw_okq (⟨"DubDesk$Fit", "leastFrom", "(LDubDesk$Wording;LDubDesk$Line;II)I"⟩, 5) := ⟨⟨by decide +kernel, by decide +kernel⟩, List.mem_of_getElem? (i := 133) (by decide +kernel), List.mem_of_getElem? (i := 462) (by decide +kernel), List.mem_of_getElem? (i := 463) (by decide +kernel)⟩
theorem lw_p9 : lw_okq (⟨"DubDesk$Fit", "trace", "(LDubDesk$Wording;LDubDesk$Line;)V"⟩, 5) := ⟨⟨by decide +kernel, by decide +kernel⟩, List.mem_of_getElem? (i := 133) (by decide +kernel), List.mem_of_getElem? (i := 475) (by decide +kernel), List.mem_of_getElem? (i := 476) (by decide +kernel)⟩
theorem lw_p10 : lw_okq (⟨"DubDesk$Fit", "shortestFrom", "(LDubDesk$Wording;LDubDesk$Line;II)I"⟩, 5) := ⟨⟨by decide +kernel, by decide +kernel⟩, List.mem_of_getElem? (i := 133) (by decide +kernel), List.mem_of_getElem? (i := 479) (by decide +kernel), List.mem_of_getElem? (i := 480) (by decide +kernel)⟩
theorem lw_p11 : lw_okq (⟨"DubDesk$LawBook", "overrules", "(IIII)Z"⟩, 6) := ⟨⟨by decide +kernel, by decide +kernel⟩, List.mem_of_getElem? (i := 31) (by decide +kernel), List.mem_of_getElem? (i := 518) (by decide +kernel), List.mem_of_getElem? (i := 519) (by decide +kernel)⟩
theorem lw_p12 : lw_okq (⟨"DubDesk$LawBook", "allowsWord", "(III)Z"⟩, 6) := ⟨⟨by decide +kernel, by decide +kernel⟩, List.mem_of_getElem? (i := 31) (by decide +kernel), List.mem_of_getElem? (i := 538) (by decide +kernel), List.mem_of_getElem? (i := 539) (by decide +kernel)⟩
theorem lw_p13 : lw_okq (⟨"DubDesk", "findBest", "(III)I"⟩, 13) := ⟨⟨by decide +kernel, by decide +kernel⟩, List.mem_of_getElem? (i := 17) (by decide +kernel), List.mem_of_getElem? (i := 548) (by decide +kernel), List.mem_of_getElem? (i := 549) (by decide +kernel)⟩
theorem lw_p14 : lw_okq (⟨"DubDesk", "worthOfFit", "(I)I"⟩, 13) := ⟨⟨by decide +kernel, by decide +kernel⟩, List.mem_of_getElem? (i := 17) (by decide +kernel), List.mem_of_getElem? (i := 552) (by decide +kernel), List.mem_of_getElem? (i := 553) (by decide +kernel)⟩
theorem lw_p15 : lw_okq (⟨"DubDesk$Planner", "prepare", "(LDubDesk$Crew;[LDubDesk$Line;)V"⟩, 11) := ⟨⟨by decide +kernel, by decide +kernel⟩, List.mem_of_getElem? (i := 89) (by decide +kernel), List.mem_of_getElem? (i := 592) (by decide +kernel), List.mem_of_getElem? (i := 593) (by decide +kernel)⟩
def lw_privs_1 : List (MethodName × Nat) := [(⟨"DubDesk", "finding", "(I)I"⟩, 13), (⟨"DubDesk", "remember", "(III)LDubDesk$Act;"⟩, 13), (⟨"DubDesk", "isLine", "(I)Z"⟩, 13), (⟨"DubDesk", "isWording", "(I)Z"⟩, 13), (⟨"DubDesk", "countWordings", "(I)I"⟩, 13), (⟨"DubDesk", "findFit", "(I)Z"⟩, 13), (⟨"DubDesk$Fit", "fillPauses", "(LDubDesk$Line;)V"⟩, 5), (⟨"DubDesk$Fit", "fillSyllable", "(LDubDesk$Wording;LDubDesk$Line;I)V"⟩, 5), (⟨"DubDesk$Fit", "leastFrom", "(LDubDesk$Wording;LDubDesk$Line;II)I"⟩, 5), (⟨"DubDesk$Fit", "trace", "(LDubDesk$Wording;LDubDesk$Line;)V"⟩, 5), (⟨"DubDesk$Fit", "shortestFrom", "(LDubDesk$Wording;LDubDesk$Line;II)I"⟩, 5), (⟨"DubDesk$LawBook", "overrules", "(IIII)Z"⟩, 6), (⟨"DubDesk$LawBook", "allowsWord", "(III)Z"⟩, 6), (⟨"DubDesk", "findBest", "(III)I"⟩, 13), (⟨"DubDesk", "worthOfFit", "(I)I"⟩, 13), (⟨"DubDesk$Planner", "prepare", "(LDubDesk$Crew;[LDubDesk$Line;)V"⟩, 11)]
theorem lw_r1 : ∀ q ∈ lw_privs_1, lw_okq q := List.forall_mem_cons.mpr ⟨lw_p0, List.forall_mem_cons.mpr ⟨lw_p1, List.forall_mem_cons.mpr ⟨lw_p2, List.forall_mem_cons.mpr ⟨lw_p3, List.forall_mem_cons.mpr ⟨lw_p4, List.forall_mem_cons.mpr ⟨lw_p5, List.forall_mem_cons.mpr ⟨lw_p6, List.forall_mem_cons.mpr ⟨lw_p7, List.forall_mem_cons.mpr ⟨lw_p8, List.forall_mem_cons.mpr ⟨lw_p9, List.forall_mem_cons.mpr ⟨lw_p10, List.forall_mem_cons.mpr ⟨lw_p11, List.forall_mem_cons.mpr ⟨lw_p12, List.forall_mem_cons.mpr ⟨lw_p13, List.forall_mem_cons.mpr ⟨lw_p14, List.forall_mem_cons.mpr ⟨lw_p15, fun _ h => absurd h List.not_mem_nil⟩⟩⟩⟩⟩⟩⟩⟩⟩⟩⟩⟩⟩⟩⟩⟩
theorem lw_p16 : lw_okq (⟨"DubDesk$Planner", "giveDays", "(II)V"⟩, 11) := ⟨⟨by decide +kernel, by decide +kernel⟩, List.mem_of_getElem? (i := 89) (by decide +kernel), List.mem_of_getElem? (i := 611) (by decide +kernel), List.mem_of_getElem? (i := 612) (by decide +kernel)⟩
theorem lw_p17 : lw_okq (⟨"DubDesk$Planner", "takePlan", "(I)V"⟩, 11) := ⟨⟨by decide +kernel, by decide +kernel⟩, List.mem_of_getElem? (i := 89) (by decide +kernel), List.mem_of_getElem? (i := 615) (by decide +kernel), List.mem_of_getElem? (i := 616) (by decide +kernel)⟩
theorem lw_p18 : lw_okq (⟨"DubDesk", "takeBackOfLines", "(LDubDesk$Act;)V"⟩, 13) := ⟨⟨by decide +kernel, by decide +kernel⟩, List.mem_of_getElem? (i := 17) (by decide +kernel), List.mem_of_getElem? (i := 693) (by decide +kernel), List.mem_of_getElem? (i := 694) (by decide +kernel)⟩
theorem lw_p19 : lw_okq (⟨"DubDesk", "takeBackOfOthers", "(LDubDesk$Act;)V"⟩, 13) := ⟨⟨by decide +kernel, by decide +kernel⟩, List.mem_of_getElem? (i := 17) (by decide +kernel), List.mem_of_getElem? (i := 702) (by decide +kernel), List.mem_of_getElem? (i := 703) (by decide +kernel)⟩
theorem lw_p20 : lw_okq (⟨"DubDeskModel", "finding", "(I)I"⟩, 21) := ⟨⟨by decide +kernel, by decide +kernel⟩, List.mem_of_getElem? (i := 710) (by decide +kernel), List.mem_of_getElem? (i := 786) (by decide +kernel), List.mem_of_getElem? (i := 787) (by decide +kernel)⟩
theorem lw_p21 : lw_okq (⟨"DubDeskModel", "keep", "()V"⟩, 21) := ⟨⟨by decide +kernel, by decide +kernel⟩, List.mem_of_getElem? (i := 710) (by decide +kernel), List.mem_of_getElem? (i := 799) (by decide +kernel), List.mem_of_getElem? (i := 800) (by decide +kernel)⟩
theorem lw_p22 : lw_okq (⟨"DubDeskModel", "isLine", "(I)Z"⟩, 21) := ⟨⟨by decide +kernel, by decide +kernel⟩, List.mem_of_getElem? (i := 710) (by decide +kernel), List.mem_of_getElem? (i := 807) (by decide +kernel), List.mem_of_getElem? (i := 808) (by decide +kernel)⟩
theorem lw_p23 : lw_okq (⟨"DubDeskModel", "isWording", "(I)Z"⟩, 21) := ⟨⟨by decide +kernel, by decide +kernel⟩, List.mem_of_getElem? (i := 710) (by decide +kernel), List.mem_of_getElem? (i := 821) (by decide +kernel), List.mem_of_getElem? (i := 822) (by decide +kernel)⟩
theorem lw_p24 : lw_okq (⟨"DubDeskModel", "shapeOf", "(II)I"⟩, 21) := ⟨⟨by decide +kernel, by decide +kernel⟩, List.mem_of_getElem? (i := 710) (by decide +kernel), List.mem_of_getElem? (i := 850) (by decide +kernel), List.mem_of_getElem? (i := 851) (by decide +kernel)⟩
theorem lw_p25 : lw_okq (⟨"DubDeskModel", "fit", "(I)I"⟩, 21) := ⟨⟨by decide +kernel, by decide +kernel⟩, List.mem_of_getElem? (i := 710) (by decide +kernel), List.mem_of_getElem? (i := 858) (by decide +kernel), List.mem_of_getElem? (i := 859) (by decide +kernel)⟩
theorem lw_p26 : lw_okq (⟨"DubDeskModel", "pauseOf", "(II)I"⟩, 21) := ⟨⟨by decide +kernel, by decide +kernel⟩, List.mem_of_getElem? (i := 710) (by decide +kernel), List.mem_of_getElem? (i := 862) (by decide +kernel), List.mem_of_getElem? (i := 863) (by decide +kernel)⟩
theorem lw_p27 : lw_okq (⟨"DubDeskModel", "leastAt", "(II)I"⟩, 21) := ⟨⟨by decide +kernel, by decide +kernel⟩, List.mem_of_getElem? (i := 710) (by decide +kernel), List.mem_of_getElem? (i := 866) (by decide +kernel), List.mem_of_getElem? (i := 867) (by decide +kernel)⟩
theorem lw_p28 : lw_okq (⟨"DubDeskModel", "leastOf", "(II)I"⟩, 21) := ⟨⟨by decide +kernel, by decide +kernel⟩, List.mem_of_getElem? (i := 710) (by decide +kernel), List.mem_of_getElem? (i := 871) (by decide +kernel), List.mem_of_getElem? (i := 872) (by decide +kernel)⟩
theorem lw_p29 : lw_okq (⟨"DubDeskModel", "syllableOf", "(II)I"⟩, 21) := ⟨⟨by decide +kernel, by decide +kernel⟩, List.mem_of_getElem? (i := 710) (by decide +kernel), List.mem_of_getElem? (i := 875) (by decide +kernel), List.mem_of_getElem? (i := 876) (by decide +kernel)⟩
theorem lw_p30 : lw_okq (⟨"DubDeskModel", "mostOf", "(II)I"⟩, 21) := ⟨⟨by decide +kernel, by decide +kernel⟩, List.mem_of_getElem? (i := 710) (by decide +kernel), List.mem_of_getElem? (i := 879) (by decide +kernel), List.mem_of_getElem? (i := 880) (by decide +kernel)⟩
theorem lw_p31 : lw_okq (⟨"DubDeskModel", "laid", "(IIII)I"⟩, 21) := ⟨⟨by decide +kernel, by decide +kernel⟩, List.mem_of_getElem? (i := 710) (by decide +kernel), List.mem_of_getElem? (i := 883) (by decide +kernel), List.mem_of_getElem? (i := 884) (by decide +kernel)⟩
def lw_privs_2 : List (MethodName × Nat) := [(⟨"DubDesk$Planner", "giveDays", "(II)V"⟩, 11), (⟨"DubDesk$Planner", "takePlan", "(I)V"⟩, 11), (⟨"DubDesk", "takeBackOfLines", "(LDubDesk$Act;)V"⟩, 13), (⟨"DubDesk", "takeBackOfOthers", "(LDubDesk$Act;)V"⟩, 13), (⟨"DubDeskModel", "finding", "(I)I"⟩, 21), (⟨"DubDeskModel", "keep", "()V"⟩, 21), (⟨"DubDeskModel", "isLine", "(I)Z"⟩, 21), (⟨"DubDeskModel", "isWording", "(I)Z"⟩, 21), (⟨"DubDeskModel", "shapeOf", "(II)I"⟩, 21), (⟨"DubDeskModel", "fit", "(I)I"⟩, 21), (⟨"DubDeskModel", "pauseOf", "(II)I"⟩, 21), (⟨"DubDeskModel", "leastAt", "(II)I"⟩, 21), (⟨"DubDeskModel", "leastOf", "(II)I"⟩, 21), (⟨"DubDeskModel", "syllableOf", "(II)I"⟩, 21), (⟨"DubDeskModel", "mostOf", "(II)I"⟩, 21), (⟨"DubDeskModel", "laid", "(IIII)I"⟩, 21)]
theorem lw_r2 : ∀ q ∈ lw_privs_2, lw_okq q := List.forall_mem_cons.mpr ⟨lw_p16, List.forall_mem_cons.mpr ⟨lw_p17, List.forall_mem_cons.mpr ⟨lw_p18, List.forall_mem_cons.mpr ⟨lw_p19, List.forall_mem_cons.mpr ⟨lw_p20, List.forall_mem_cons.mpr ⟨lw_p21, List.forall_mem_cons.mpr ⟨lw_p22, List.forall_mem_cons.mpr ⟨lw_p23, List.forall_mem_cons.mpr ⟨lw_p24, List.forall_mem_cons.mpr ⟨lw_p25, List.forall_mem_cons.mpr ⟨lw_p26, List.forall_mem_cons.mpr ⟨lw_p27, List.forall_mem_cons.mpr ⟨lw_p28, List.forall_mem_cons.mpr ⟨lw_p29, List.forall_mem_cons.mpr ⟨lw_p30, List.forall_mem_cons.mpr ⟨lw_p31, fun _ h => absurd h List.not_mem_nil⟩⟩⟩⟩⟩⟩⟩⟩⟩⟩⟩⟩⟩⟩⟩⟩
theorem lw_p32 : lw_okq (⟨"DubDeskModel", "offOf", "(III)I"⟩, 21) := ⟨⟨by decide +kernel, by decide +kernel⟩, List.mem_of_getElem? (i := 710) (by decide +kernel), List.mem_of_getElem? (i := 887) (by decide +kernel), List.mem_of_getElem? (i := 888) (by decide +kernel)⟩
theorem lw_p33 : lw_okq (⟨"DubDeskModel", "lengthAt", "(III)I"⟩, 21) := ⟨⟨by decide +kernel, by decide +kernel⟩, List.mem_of_getElem? (i := 710) (by decide +kernel), List.mem_of_getElem? (i := 892) (by decide +kernel), List.mem_of_getElem? (i := 893) (by decide +kernel)⟩
theorem lw_p34 : lw_okq (⟨"DubDeskModel", "isBarred", "(III)Z"⟩, 21) := ⟨⟨by decide +kernel, by decide +kernel⟩, List.mem_of_getElem? (i := 710) (by decide +kernel), List.mem_of_getElem? (i := 922) (by decide +kernel), List.mem_of_getElem? (i := 923) (by decide +kernel)⟩
theorem lw_p35 : lw_okq (⟨"DubDeskModel", "isOf", "(III)Z"⟩, 21) := ⟨⟨by decide +kernel, by decide +kernel⟩, List.mem_of_getElem? (i := 710) (by decide +kernel), List.mem_of_getElem? (i := 926) (by decide +kernel), List.mem_of_getElem? (i := 927) (by decide +kernel)⟩
theorem lw_p36 : lw_okq (⟨"DubDeskModel", "chosenOf", "(III)I"⟩, 21) := ⟨⟨by decide +kernel, by decide +kernel⟩, List.mem_of_getElem? (i := 710) (by decide +kernel), List.mem_of_getElem? (i := 934) (by decide +kernel), List.mem_of_getElem? (i := 935) (by decide +kernel)⟩
theorem lw_p37 : lw_okq (⟨"DubDeskModel", "isLawful", "(III)Z"⟩, 21) := ⟨⟨by decide +kernel, by decide +kernel⟩, List.mem_of_getElem? (i := 710) (by decide +kernel), List.mem_of_getElem? (i := 942) (by decide +kernel), List.mem_of_getElem? (i := 943) (by decide +kernel)⟩
theorem lw_p38 : lw_okq (⟨"DubDeskModel", "bestOf", "(III)I"⟩, 21) := ⟨⟨by decide +kernel, by decide +kernel⟩, List.mem_of_getElem? (i := 710) (by decide +kernel), List.mem_of_getElem? (i := 950) (by decide +kernel), List.mem_of_getElem? (i := 951) (by decide +kernel)⟩
theorem lw_p39 : lw_okq (⟨"DubDeskModel", "findPlan", "()V"⟩, 21) := ⟨⟨by decide +kernel, by decide +kernel⟩, List.mem_of_getElem? (i := 710) (by decide +kernel), List.mem_of_getElem? (i := 982) (by decide +kernel), List.mem_of_getElem? (i := 983) (by decide +kernel)⟩
theorem lw_p40 : lw_okq (⟨"DubDeskModel", "findLoops", "()V"⟩, 21) := ⟨⟨by decide +kernel, by decide +kernel⟩, List.mem_of_getElem? (i := 710) (by decide +kernel), List.mem_of_getElem? (i := 986) (by decide +kernel), List.mem_of_getElem? (i := 987) (by decide +kernel)⟩
theorem lw_p41 : lw_okq (⟨"DubDeskModel", "callsOf", "(I)I"⟩, 21) := ⟨⟨by decide +kernel, by decide +kernel⟩, List.mem_of_getElem? (i := 710) (by decide +kernel), List.mem_of_getElem? (i := 993) (by decide +kernel), List.mem_of_getElem? (i := 994) (by decide +kernel)⟩
theorem lw_p42 : lw_okq (⟨"DubDeskModel", "keptOf", "(JIJI)I"⟩, 21) := ⟨⟨by decide +kernel, by decide +kernel⟩, List.mem_of_getElem? (i := 710) (by decide +kernel), List.mem_of_getElem? (i := 1013) (by decide +kernel), List.mem_of_getElem? (i := 1014) (by decide +kernel)⟩
def lw_privs_3 : List (MethodName × Nat) := [(⟨"DubDeskModel", "offOf", "(III)I"⟩, 21), (⟨"DubDeskModel", "lengthAt", "(III)I"⟩, 21), (⟨"DubDeskModel", "isBarred", "(III)Z"⟩, 21), (⟨"DubDeskModel", "isOf", "(III)Z"⟩, 21), (⟨"DubDeskModel", "chosenOf", "(III)I"⟩, 21), (⟨"DubDeskModel", "isLawful", "(III)Z"⟩, 21), (⟨"DubDeskModel", "bestOf", "(III)I"⟩, 21), (⟨"DubDeskModel", "findPlan", "()V"⟩, 21), (⟨"DubDeskModel", "findLoops", "()V"⟩, 21), (⟨"DubDeskModel", "callsOf", "(I)I"⟩, 21), (⟨"DubDeskModel", "keptOf", "(JIJI)I"⟩, 21)]
theorem lw_r3 : ∀ q ∈ lw_privs_3, lw_okq q := List.forall_mem_cons.mpr ⟨lw_p32, List.forall_mem_cons.mpr ⟨lw_p33, List.forall_mem_cons.mpr ⟨lw_p34, List.forall_mem_cons.mpr ⟨lw_p35, List.forall_mem_cons.mpr ⟨lw_p36, List.forall_mem_cons.mpr ⟨lw_p37, List.forall_mem_cons.mpr ⟨lw_p38, List.forall_mem_cons.mpr ⟨lw_p39, List.forall_mem_cons.mpr ⟨lw_p40, List.forall_mem_cons.mpr ⟨lw_p41, List.forall_mem_cons.mpr ⟨lw_p42, fun _ h => absurd h List.not_mem_nil⟩⟩⟩⟩⟩⟩⟩⟩⟩⟩⟩
def lw_privs : List (MethodName × Nat) := lw_privs_1 ++ (lw_privs_2 ++ (lw_privs_3))
def lw_tbl : List Cond := k2_sels lw_privs ++ tables_1
theorem lw_privs_ok : ∀ q ∈ lw_privs, lw_okq q := by
  show ∀ q ∈ lw_privs_1 ++ (lw_privs_2 ++ (lw_privs_3)), lw_okq q
  exact List.forall_mem_append.mpr ⟨lw_r1, List.forall_mem_append.mpr ⟨lw_r2, lw_r3⟩⟩
end
section
def RX0 : String := "DubDesk$Act"
def TX0 : u_T := fun k => match k with
  | 0 => ("DubDesk$Act", "row", "[I", true)
  | 1 => ("DubDesk$Act", "rowSize", "I", false)
  | 2 => ("DubDesk$Act", "deed", "I", false)
  | 3 => ("DubDesk$Act", "which", "I", false)
  | _ => ("DubDesk$Act", "was", "I", false)
def tyX0 : Nat → FieldType := fun k => match k with
  | 0 => .array .int
  | 1 => .int
  | 2 => .int
  | 3 => .int
  | _ => .int
theorem nmX0 : ∀ a, a < 5 → ∀ b, b < 5 → a ≠ b → (TX0 a).2.1 ≠ (TX0 b).2.1 := by decide +kernel
theorem tyX0_ok : ∀ k, k < 5 → parseFieldDescriptor (TX0 k).2.2.1 = some (tyX0 k) := by decide +kernel
abbrev cX0_init : ByteArray := prog_2_method_1_code
def yX0_init : MethodName := ⟨RX0, "<init>", "()V"⟩
abbrev cX0_keepFrames : ByteArray := prog_2_method_2_code
def yX0_keepFrames : MethodName := ⟨RX0, "keepFrames", "(LDubDesk$Line;)V"⟩
abbrev cX0_keepSyllable : ByteArray := prog_2_method_3_code
def yX0_keepSyllable : MethodName := ⟨RX0, "keepSyllable", "(LDubDesk$Wording;)V"⟩
abbrev cX0_giveSyllableBack : ByteArray := prog_2_method_4_code
def yX0_giveSyllableBack : MethodName := ⟨RX0, "giveSyllableBack", "(LDubDesk$Wording;)V"⟩
def RX1 : String := "DubDesk$Crew"
def TX1 : u_T := fun k => match k with
  | 0 => ("DubDesk$Crew", "actorOf", "[I", true)
  | 1 => ("DubDesk$Crew", "freeDays", "[I", true)
  | 2 => ("DubDesk$Crew", "rooms", "[I", true)
  | 3 => ("DubDesk$Crew", "loops", "[I", true)
  | _ => ("DubDesk$Crew", "loopCount", "I", false)
def tyX1 : Nat → FieldType := fun k => match k with
  | 0 => .array .int
  | 1 => .array .int
  | 2 => .array .int
  | 3 => .array .int
  | _ => .int
theorem nmX1 : ∀ a, a < 5 → ∀ b, b < 5 → a ≠ b → (TX1 a).2.1 ≠ (TX1 b).2.1 := by decide +kernel
theorem tyX1_ok : ∀ k, k < 5 → parseFieldDescriptor (TX1 k).2.2.1 = some (tyX1 k) := by decide +kernel
abbrev cX1_init : ByteArray := prog_3_method_1_code
def yX1_init : MethodName := ⟨RX1, "<init>", "()V"⟩
abbrev cX1_appendLoop : ByteArray := prog_3_method_2_code
def yX1_appendLoop : MethodName := ⟨RX1, "appendLoop", "(I)V"⟩
abbrev cX1_actorsOfLoop : ByteArray := prog_3_method_3_code
def yX1_actorsOfLoop : MethodName := ⟨RX1, "actorsOfLoop", "(I[LDubDesk$Line;)I"⟩
abbrev cX1_daysOfActors : ByteArray := prog_3_method_4_code
def yX1_daysOfActors : MethodName := ⟨RX1, "daysOfActors", "(I)I"⟩
def RX2 : String := "DubDesk$Fit"
def TX2 : u_T := fun k => match k with
  | 0 => ("DubDesk$Fit", "rest", "[[I", true)
  | 1 => ("DubDesk$Fit", "begins", "[I", true)
  | 2 => ("DubDesk$Fit", "lengths", "[I", true)
  | 3 => ("DubDesk$Fit", "leastCost", "I", false)
  | _ => ("DubDesk$Fit", "syllableCount", "I", false)
def tyX2 : Nat → FieldType := fun k => match k with
  | 0 => .array (.array .int)
  | 1 => .array .int
  | 2 => .array .int
  | 3 => .int
  | _ => .int
theorem nmX2 : ∀ a, a < 5 → ∀ b, b < 5 → a ≠ b → (TX2 a).2.1 ≠ (TX2 b).2.1 := by decide +kernel
theorem tyX2_ok : ∀ k, k < 5 → parseFieldDescriptor (TX2 k).2.2.1 = some (tyX2 k) := by decide +kernel
abbrev cX2_init : ByteArray := prog_4_method_1_code
def yX2_init : MethodName := ⟨RX2, "<init>", "()V"⟩
abbrev cX2_seek : ByteArray := prog_4_method_2_code
def yX2_seek : MethodName := ⟨RX2, "seek", "(LDubDesk$Wording;LDubDesk$Line;)Z"⟩
abbrev cX2_syllableOn : ByteArray := prog_4_method_3_code
def yX2_syllableOn : MethodName := ⟨RX2, "syllableOn", "(I)I"⟩
abbrev cX2_pauseCost : ByteArray := prog_4_method_4_code
def yX2_pauseCost : MethodName := ⟨RX2, "pauseCost", "(I)I"⟩
abbrev cX2_fillPauses : ByteArray := prog_4_method_5_code
def yX2_fillPauses : MethodName := ⟨RX2, "fillPauses", "(LDubDesk$Line;)V"⟩
abbrev cX2_fillSyllable : ByteArray := prog_4_method_6_code
def yX2_fillSyllable : MethodName := ⟨RX2, "fillSyllable", "(LDubDesk$Wording;LDubDesk$Line;I)V"⟩
abbrev cX2_leastFrom : ByteArray := prog_4_method_7_code
def yX2_leastFrom : MethodName := ⟨RX2, "leastFrom", "(LDubDesk$Wording;LDubDesk$Line;II)I"⟩
abbrev cX2_trace : ByteArray := prog_4_method_8_code
def yX2_trace : MethodName := ⟨RX2, "trace", "(LDubDesk$Wording;LDubDesk$Line;)V"⟩
abbrev cX2_shortestFrom : ByteArray := prog_4_method_9_code
def yX2_shortestFrom : MethodName := ⟨RX2, "shortestFrom", "(LDubDesk$Wording;LDubDesk$Line;II)I"⟩
def RX3 : String := "DubDesk$History"
def TX3 : u_T := fun k => match k with
  | 0 => ("DubDesk$History", "acts", "[LDubDesk$Act;", true)
  | 1 => ("DubDesk$History", "next", "I", false)
  | _ => ("DubDesk$History", "count", "I", false)
def tyX3 : Nat → FieldType := fun k => match k with
  | 0 => .array (.object "DubDesk$Act")
  | 1 => .int
  | _ => .int
theorem nmX3 : ∀ a, a < 3 → ∀ b, b < 3 → a ≠ b → (TX3 a).2.1 ≠ (TX3 b).2.1 := by decide +kernel
theorem tyX3_ok : ∀ k, k < 3 → parseFieldDescriptor (TX3 k).2.2.1 = some (tyX3 k) := by decide +kernel
abbrev cX3_init : ByteArray := prog_5_method_1_code
def yX3_init : MethodName := ⟨RX3, "<init>", "()V"⟩
abbrev cX3_append : ByteArray := prog_5_method_2_code
def yX3_append : MethodName := ⟨RX3, "append", "(III)LDubDesk$Act;"⟩
abbrev cX3_takeLatest : ByteArray := prog_5_method_3_code
def yX3_takeLatest : MethodName := ⟨RX3, "takeLatest", "()LDubDesk$Act;"⟩
def RX4 : String := "DubDesk$LawBook"
def TX4 : u_T := fun k => match k with
  | 0 => ("DubDesk$LawBook", "names", "[I", true)
  | 1 => ("DubDesk$LawBook", "lands", "[I", true)
  | 2 => ("DubDesk$LawBook", "sorts", "[I", true)
  | 3 => ("DubDesk$LawBook", "words", "[I", true)
  | 4 => ("DubDesk$LawBook", "days", "[I", true)
  | _ => ("DubDesk$LawBook", "textCount", "I", false)
def tyX4 : Nat → FieldType := fun k => match k with
  | 0 => .array .int
  | 1 => .array .int
  | 2 => .array .int
  | 3 => .array .int
  | 4 => .array .int
  | _ => .int
theorem nmX4 : ∀ a, a < 6 → ∀ b, b < 6 → a ≠ b → (TX4 a).2.1 ≠ (TX4 b).2.1 := by decide +kernel
theorem tyX4_ok : ∀ k, k < 6 → parseFieldDescriptor (TX4 k).2.2.1 = some (tyX4 k) := by decide +kernel
abbrev cX4_init : ByteArray := prog_6_method_1_code
def yX4_init : MethodName := ⟨RX4, "<init>", "()V"⟩
abbrev cX4_append : ByteArray := prog_6_method_2_code
def yX4_append : MethodName := ⟨RX4, "append", "(IIII)V"⟩
abbrev cX4_isBarred : ByteArray := prog_6_method_3_code
def yX4_isBarred : MethodName := ⟨RX4, "isBarred", "(III)Z"⟩
abbrev cX4_choiceFor : ByteArray := prog_6_method_4_code
def yX4_choiceFor : MethodName := ⟨RX4, "choiceFor", "(III)I"⟩
abbrev cX4_allows : ByteArray := prog_6_method_5_code
def yX4_allows : MethodName := ⟨RX4, "allows", "(LDubDesk$Wording;II)Z"⟩
abbrev cX4_allowsWord : ByteArray := prog_6_method_6_code
def yX4_allowsWord : MethodName := ⟨RX4, "allowsWord", "(III)Z"⟩
abbrev cX4_overrules : ByteArray := prog_6_method_7_code
def yX4_overrules : MethodName := ⟨RX4, "overrules", "(IIII)Z"⟩
def RX5 : String := "DubDesk$Line"
def TX5 : u_T := fun k => match k with
  | 0 => ("DubDesk$Line", "shapes", "[I", true)
  | 1 => ("DubDesk$Line", "part", "I", false)
  | _ => ("DubDesk$Line", "frameCount", "I", false)
def tyX5 : Nat → FieldType := fun k => match k with
  | 0 => .array .int
  | 1 => .int
  | _ => .int
theorem nmX5 : ∀ a, a < 3 → ∀ b, b < 3 → a ≠ b → (TX5 a).2.1 ≠ (TX5 b).2.1 := by decide +kernel
theorem tyX5_ok : ∀ k, k < 3 → parseFieldDescriptor (TX5 k).2.2.1 = some (tyX5 k) := by decide +kernel
abbrev cX5_init : ByteArray := prog_7_method_1_code
def yX5_init : MethodName := ⟨RX5, "<init>", "()V"⟩
abbrev cX5_begin : ByteArray := prog_7_method_2_code
def yX5_begin : MethodName := ⟨RX5, "begin", "(I)V"⟩
abbrev cX5_takeFrames : ByteArray := prog_7_method_3_code
def yX5_takeFrames : MethodName := ⟨RX5, "takeFrames", "([II)V"⟩
def RX6 : String := "DubDesk$Match"
def TX6 : u_T := fun k => match k with
  | _ => ("DubDesk$Match", "most", "[I", true)
def tyX6 : Nat → FieldType := fun k => match k with
  | _ => .array .int
theorem nmX6 : ∀ a, a < 1 → ∀ b, b < 1 → a ≠ b → (TX6 a).2.1 ≠ (TX6 b).2.1 := by decide +kernel
theorem tyX6_ok : ∀ k, k < 1 → parseFieldDescriptor (TX6 k).2.2.1 = some (tyX6 k) := by decide +kernel
abbrev cX6_init : ByteArray := prog_8_method_1_code
def yX6_init : MethodName := ⟨RX6, "<init>", "()V"⟩
abbrev cX6_countKept : ByteArray := prog_8_method_2_code
def yX6_countKept : MethodName := ⟨RX6, "countKept", "([II[II)I"⟩
def RX7 : String := "DubDesk$Planner"
def TX7 : u_T := fun k => match k with
  | 0 => ("DubDesk$Planner", "actors", "[I", true)
  | 1 => ("DubDesk$Planner", "openDays", "[I", true)
  | 2 => ("DubDesk$Planner", "minutes", "[I", true)
  | 3 => ("DubDesk$Planner", "days", "[I", true)
  | 4 => ("DubDesk$Planner", "called", "[I", true)
  | 5 => ("DubDesk$Planner", "left", "[I", true)
  | 6 => ("DubDesk$Planner", "firstDays", "[I", true)
  | 7 => ("DubDesk$Planner", "fewestCalls", "I", false)
  | 8 => ("DubDesk$Planner", "planCount", "I", false)
  | 9 => ("DubDesk$Planner", "known", "Z", false)
  | _ => ("DubDesk$Planner", "loopCount", "I", false)
def tyX7 : Nat → FieldType := fun k => match k with
  | 0 => .array .int
  | 1 => .array .int
  | 2 => .array .int
  | 3 => .array .int
  | 4 => .array .int
  | 5 => .array .int
  | 6 => .array .int
  | 7 => .int
  | 8 => .int
  | 9 => .boolean
  | _ => .int
theorem nmX7 : ∀ a, a < 11 → ∀ b, b < 11 → a ≠ b → (TX7 a).2.1 ≠ (TX7 b).2.1 := by decide +kernel
theorem tyX7_ok : ∀ k, k < 11 → parseFieldDescriptor (TX7 k).2.2.1 = some (tyX7 k) := by decide +kernel
abbrev cX7_init : ByteArray := prog_9_method_1_code
def yX7_init : MethodName := ⟨RX7, "<init>", "()V"⟩
abbrev cX7_seekPlans : ByteArray := prog_9_method_2_code
def yX7_seekPlans : MethodName := ⟨RX7, "seekPlans", "(LDubDesk$Crew;[LDubDesk$Line;)V"⟩
abbrev cX7_prepare : ByteArray := prog_9_method_3_code
def yX7_prepare : MethodName := ⟨RX7, "prepare", "(LDubDesk$Crew;[LDubDesk$Line;)V"⟩
abbrev cX7_giveDays : ByteArray := prog_9_method_4_code
def yX7_giveDays : MethodName := ⟨RX7, "giveDays", "(II)V"⟩
abbrev cX7_takePlan : ByteArray := prog_9_method_5_code
def yX7_takePlan : MethodName := ⟨RX7, "takePlan", "(I)V"⟩
def RX8 : String := "DubDesk$Sheet"
def TX8 : u_T := fun k => match k with
  | 0 => ("DubDesk$Sheet", "numbers", "[I", true)
  | 1 => ("DubDesk$Sheet", "bits", "I", false)
  | _ => ("DubDesk$Sheet", "size", "I", false)
def tyX8 : Nat → FieldType := fun k => match k with
  | 0 => .array .int
  | 1 => .int
  | _ => .int
theorem nmX8 : ∀ a, a < 3 → ∀ b, b < 3 → a ≠ b → (TX8 a).2.1 ≠ (TX8 b).2.1 := by decide +kernel
theorem tyX8_ok : ∀ k, k < 3 → parseFieldDescriptor (TX8 k).2.2.1 = some (tyX8 k) := by decide +kernel
abbrev cX8_init : ByteArray := prog_10_method_1_code
def yX8_init : MethodName := ⟨RX8, "<init>", "()V"⟩
abbrev cX8_isMissing : ByteArray := prog_10_method_2_code
def yX8_isMissing : MethodName := ⟨RX8, "isMissing", "()Z"⟩
abbrev cX8_begin : ByteArray := prog_10_method_3_code
def yX8_begin : MethodName := ⟨RX8, "begin", "(II)V"⟩
abbrev cX8_write : ByteArray := prog_10_method_4_code
def yX8_write : MethodName := ⟨RX8, "write", "(II)V"⟩
abbrev cX8_hasStretch : ByteArray := prog_10_method_5_code
def yX8_hasStretch : MethodName := ⟨RX8, "hasStretch", "(II)Z"⟩
def RX9 : String := "DubDesk$Wording"
def TX9 : u_T := fun k => match k with
  | 0 => ("DubDesk$Wording", "shapes", "[I", true)
  | 1 => ("DubDesk$Wording", "leasts", "[I", true)
  | 2 => ("DubDesk$Wording", "mosts", "[I", true)
  | 3 => ("DubDesk$Wording", "words", "[I", true)
  | 4 => ("DubDesk$Wording", "line", "I", false)
  | 5 => ("DubDesk$Wording", "kind", "I", false)
  | 6 => ("DubDesk$Wording", "sense", "I", false)
  | _ => ("DubDesk$Wording", "syllableCount", "I", false)
def tyX9 : Nat → FieldType := fun k => match k with
  | 0 => .array .int
  | 1 => .array .int
  | 2 => .array .int
  | 3 => .array .int
  | 4 => .int
  | 5 => .int
  | 6 => .int
  | _ => .int
theorem nmX9 : ∀ a, a < 8 → ∀ b, b < 8 → a ≠ b → (TX9 a).2.1 ≠ (TX9 b).2.1 := by decide +kernel
theorem tyX9_ok : ∀ k, k < 8 → parseFieldDescriptor (TX9 k).2.2.1 = some (tyX9 k) := by decide +kernel
abbrev cX9_init : ByteArray := prog_11_method_1_code
def yX9_init : MethodName := ⟨RX9, "<init>", "()V"⟩
abbrev cX9_begin : ByteArray := prog_11_method_2_code
def yX9_begin : MethodName := ⟨RX9, "begin", "(III)V"⟩
abbrev cX9_append : ByteArray := prog_11_method_3_code
def yX9_append : MethodName := ⟨RX9, "append", "(IIII)V"⟩
abbrev cX9_isOfKind : ByteArray := prog_11_method_4_code
def yX9_isOfKind : MethodName := ⟨RX9, "isOfKind", "(I)Z"⟩
abbrev cX9_longest : ByteArray := prog_11_method_5_code
def yX9_longest : MethodName := ⟨RX9, "longest", "(I)I"⟩
abbrev cX9_costOver : ByteArray := prog_11_method_6_code
def yX9_costOver : MethodName := ⟨RX9, "costOver", "(II)I"⟩
def RX10 : String := "DubDesk"
def TX10 : u_T := fun k => match k with
  | 0 => ("DubDesk", "lines", "[LDubDesk$Line;", true)
  | 1 => ("DubDesk", "wordings", "[LDubDesk$Wording;", true)
  | 2 => ("DubDesk", "sheets", "[LDubDesk$Sheet;", true)
  | 3 => ("DubDesk", "laws", "LDubDesk$LawBook;", true)
  | 4 => ("DubDesk", "crew", "LDubDesk$Crew;", true)
  | 5 => ("DubDesk", "planner", "LDubDesk$Planner;", true)
  | 6 => ("DubDesk", "fit", "LDubDesk$Fit;", true)
  | 7 => ("DubDesk", "match", "LDubDesk$Match;", true)
  | 8 => ("DubDesk", "history", "LDubDesk$History;", true)
  | 9 => ("DubDesk", "newShapes", "[I", true)
  | 10 => ("DubDesk", "lineCount", "I", false)
  | 11 => ("DubDesk", "wordingCount", "I", false)
  | _ => ("DubDesk", "findings", "I", false)
def tyX10 : Nat → FieldType := fun k => match k with
  | 0 => .array (.object "DubDesk$Line")
  | 1 => .array (.object "DubDesk$Wording")
  | 2 => .array (.object "DubDesk$Sheet")
  | 3 => .object "DubDesk$LawBook"
  | 4 => .object "DubDesk$Crew"
  | 5 => .object "DubDesk$Planner"
  | 6 => .object "DubDesk$Fit"
  | 7 => .object "DubDesk$Match"
  | 8 => .object "DubDesk$History"
  | 9 => .array .int
  | 10 => .int
  | 11 => .int
  | _ => .int
theorem nmX10 : ∀ a, a < 13 → ∀ b, b < 13 → a ≠ b → (TX10 a).2.1 ≠ (TX10 b).2.1 := by decide +kernel
theorem tyX10_ok : ∀ k, k < 13 → parseFieldDescriptor (TX10 k).2.2.1 = some (tyX10 k) := by decide +kernel
abbrev cX10_init : ByteArray := prog_1_method_1_code
def yX10_init : MethodName := ⟨RX10, "<init>", "()V"⟩
abbrev cX10_line : ByteArray := prog_1_method_2_code
def yX10_line : MethodName := ⟨RX10, "line", "(I)I"⟩
abbrev cX10_frame : ByteArray := prog_1_method_3_code
def yX10_frame : MethodName := ⟨RX10, "frame", "(II)I"⟩
abbrev cX10_wording : ByteArray := prog_1_method_4_code
def yX10_wording : MethodName := ⟨RX10, "wording", "(III)I"⟩
abbrev cX10_as : ByteArray := prog_1_method_5_code
def yX10_as : MethodName := ⟨RX10, "as", "(II)I"⟩
abbrev cX10_syllable : ByteArray := prog_1_method_6_code
def yX10_syllable : MethodName := ⟨RX10, "syllable", "(IIIII)I"⟩
abbrev cX10_cut : ByteArray := prog_1_method_7_code
def yX10_cut : MethodName := ⟨RX10, "cut", "(I)I"⟩
abbrev cX10_of : ByteArray := prog_1_method_8_code
def yX10_of : MethodName := ⟨RX10, "of", "(II)I"⟩
abbrev cX10_told : ByteArray := prog_1_method_9_code
def yX10_told : MethodName := ⟨RX10, "told", "(II)I"⟩
abbrev cX10_shape : ByteArray := prog_1_method_10_code
def yX10_shape : MethodName := ⟨RX10, "shape", "(II)I"⟩
abbrev cX10_cost : ByteArray := prog_1_method_11_code
def yX10_cost : MethodName := ⟨RX10, "cost", "(I)I"⟩
abbrev cX10_place : ByteArray := prog_1_method_12_code
def yX10_place : MethodName := ⟨RX10, "place", "(IIZ)I"⟩
abbrev cX10_on : ByteArray := prog_1_method_13_code
def yX10_on : MethodName := ⟨RX10, "on", "(II)I"⟩
abbrev cX10_name : ByteArray := prog_1_method_14_code
def yX10_name : MethodName := ⟨RX10, "name", "(II)I"⟩
abbrev cX10_text : ByteArray := prog_1_method_15_code
def yX10_text : MethodName := ⟨RX10, "text", "(IIII)I"⟩
abbrev cX10_barred : ByteArray := prog_1_method_16_code
def yX10_barred : MethodName := ⟨RX10, "barred", "(III)I"⟩
abbrev cX10_chosen : ByteArray := prog_1_method_17_code
def yX10_chosen : MethodName := ⟨RX10, "chosen", "(III)I"⟩
abbrev cX10_lawful : ByteArray := prog_1_method_18_code
def yX10_lawful : MethodName := ⟨RX10, "lawful", "(III)I"⟩
abbrev cX10_best : ByteArray := prog_1_method_19_code
def yX10_best : MethodName := ⟨RX10, "best", "(III)I"⟩
abbrev cX10_worth : ByteArray := prog_1_method_20_code
def yX10_worth : MethodName := ⟨RX10, "worth", "(II)I"⟩
abbrev cX10_actor : ByteArray := prog_1_method_21_code
def yX10_actor : MethodName := ⟨RX10, "actor", "(II)I"⟩
abbrev cX10_free : ByteArray := prog_1_method_22_code
def yX10_free : MethodName := ⟨RX10, "free", "(II)I"⟩
abbrev cX10_room : ByteArray := prog_1_method_23_code
def yX10_room : MethodName := ⟨RX10, "room", "(II)I"⟩
abbrev cX10_loop : ByteArray := prog_1_method_24_code
def yX10_loop : MethodName := ⟨RX10, "loop", "(I)I"⟩
abbrev cX10_unloop : ByteArray := prog_1_method_25_code
def yX10_unloop : MethodName := ⟨RX10, "unloop", "()I"⟩
abbrev cX10_plan : ByteArray := prog_1_method_26_code
def yX10_plan : MethodName := ⟨RX10, "plan", "()I"⟩
abbrev cX10_planned : ByteArray := prog_1_method_27_code
def yX10_planned : MethodName := ⟨RX10, "planned", "(I)I"⟩
abbrev cX10_plans : ByteArray := prog_1_method_28_code
def yX10_plans : MethodName := ⟨RX10, "plans", "()I"⟩
abbrev cX10_change : ByteArray := prog_1_method_29_code
def yX10_change : MethodName := ⟨RX10, "change", "(II)I"⟩
abbrev cX10_kept : ByteArray := prog_1_method_30_code
def yX10_kept : MethodName := ⟨RX10, "kept", "(II)I"⟩
abbrev cX10_sheet : ByteArray := prog_1_method_31_code
def yX10_sheet : MethodName := ⟨RX10, "sheet", "(III)I"⟩
abbrev cX10_put : ByteArray := prog_1_method_32_code
def yX10_put : MethodName := ⟨RX10, "put", "(III)I"⟩
abbrev cX10_copy : ByteArray := prog_1_method_33_code
def yX10_copy : MethodName := ⟨RX10, "copy", "(IIIII)I"⟩
abbrev cX10_undo : ByteArray := prog_1_method_34_code
def yX10_undo : MethodName := ⟨RX10, "undo", "()I"⟩
abbrev cX10_all : ByteArray := prog_1_method_35_code
def yX10_all : MethodName := ⟨RX10, "all", "(I)I"⟩
abbrev cX10_finding : ByteArray := prog_1_method_36_code
def yX10_finding : MethodName := ⟨RX10, "finding", "(I)I"⟩
abbrev cX10_within : ByteArray := prog_1_method_37_code
def yX10_within : MethodName := ⟨RX10, "within", "(II)Z"⟩
abbrev cX10_isNoneOrWithin : ByteArray := prog_1_method_38_code
def yX10_isNoneOrWithin : MethodName := ⟨RX10, "isNoneOrWithin", "(II)Z"⟩
abbrev cX10_isLength : ByteArray := prog_1_method_39_code
def yX10_isLength : MethodName := ⟨RX10, "isLength", "(I)Z"⟩
abbrev cX10_isLine : ByteArray := prog_1_method_40_code
def yX10_isLine : MethodName := ⟨RX10, "isLine", "(I)Z"⟩
abbrev cX10_isWording : ByteArray := prog_1_method_41_code
def yX10_isWording : MethodName := ⟨RX10, "isWording", "(I)Z"⟩
abbrev cX10_remember : ByteArray := prog_1_method_42_code
def yX10_remember : MethodName := ⟨RX10, "remember", "(III)LDubDesk$Act;"⟩
abbrev cX10_countWordings : ByteArray := prog_1_method_43_code
def yX10_countWordings : MethodName := ⟨RX10, "countWordings", "(I)I"⟩
abbrev cX10_findFit : ByteArray := prog_1_method_44_code
def yX10_findFit : MethodName := ⟨RX10, "findFit", "(I)Z"⟩
abbrev cX10_worthOfFit : ByteArray := prog_1_method_45_code
def yX10_worthOfFit : MethodName := ⟨RX10, "worthOfFit", "(I)I"⟩
abbrev cX10_findBest : ByteArray := prog_1_method_46_code
def yX10_findBest : MethodName := ⟨RX10, "findBest", "(III)I"⟩
abbrev cX10_takeBackOfLines : ByteArray := prog_1_method_47_code
def yX10_takeBackOfLines : MethodName := ⟨RX10, "takeBackOfLines", "(LDubDesk$Act;)V"⟩
abbrev cX10_takeBackOfOthers : ByteArray := prog_1_method_48_code
def yX10_takeBackOfOthers : MethodName := ⟨RX10, "takeBackOfOthers", "(LDubDesk$Act;)V"⟩
def RX11 : String := "DubDeskModel"
def TX11 : u_T := fun k => match k with
  | 0 => ("DubDeskModel", "now", "[I", true)
  | 1 => ("DubDeskModel", "shapes", "[J", true)
  | 2 => ("DubDeskModel", "past", "[I", true)
  | 3 => ("DubDeskModel", "pastShapes", "[J", true)
  | 4 => ("DubDeskModel", "kept", "I", false)
  | 5 => ("DubDeskModel", "findings", "I", false)
  | 6 => ("DubDeskModel", "bits", "[I", true)
  | 7 => ("DubDeskModel", "sizes", "[I", true)
  | 8 => ("DubDeskModel", "sheets", "[I", true)
  | 9 => ("DubDeskModel", "least", "[I", true)
  | 10 => ("DubDeskModel", "begins", "[I", true)
  | 11 => ("DubDeskModel", "lies", "[I", true)
  | 12 => ("DubDeskModel", "bestWorth", "I", false)
  | 13 => ("DubDeskModel", "needs", "[I", true)
  | 14 => ("DubDeskModel", "may", "[I", true)
  | 15 => ("DubDeskModel", "takes", "[I", true)
  | 16 => ("DubDeskModel", "fewest", "I", false)
  | 17 => ("DubDeskModel", "plans", "I", false)
  | 18 => ("DubDeskModel", "firstPlan", "I", false)
  | 19 => ("DubDeskModel", "common", "[I", true)
  | _ => ("DubDeskModel", "carried", "[I", true)
def tyX11 : Nat → FieldType := fun k => match k with
  | 0 => .array .int
  | 1 => .array .long
  | 2 => .array .int
  | 3 => .array .long
  | 4 => .int
  | 5 => .int
  | 6 => .array .int
  | 7 => .array .int
  | 8 => .array .int
  | 9 => .array .int
  | 10 => .array .int
  | 11 => .array .int
  | 12 => .int
  | 13 => .array .int
  | 14 => .array .int
  | 15 => .array .int
  | 16 => .int
  | 17 => .int
  | 18 => .int
  | 19 => .array .int
  | _ => .array .int
theorem nmX11 : ∀ a, a < 21 → ∀ b, b < 21 → a ≠ b → (TX11 a).2.1 ≠ (TX11 b).2.1 := by decide +kernel
theorem tyX11_ok : ∀ k, k < 21 → parseFieldDescriptor (TX11 k).2.2.1 = some (tyX11 k) := by decide +kernel
abbrev cX11_init : ByteArray := prog_13_method_1_code
def yX11_init : MethodName := ⟨RX11, "<init>", "()V"⟩
abbrev cX11_finding : ByteArray := prog_13_method_2_code
def yX11_finding : MethodName := ⟨RX11, "finding", "(I)I"⟩
abbrev cX11_within : ByteArray := prog_13_method_3_code
def yX11_within : MethodName := ⟨RX11, "within", "(III)Z"⟩
abbrev cX11_isLine : ByteArray := prog_13_method_4_code
def yX11_isLine : MethodName := ⟨RX11, "isLine", "(I)Z"⟩
abbrev cX11_isWording : ByteArray := prog_13_method_5_code
def yX11_isWording : MethodName := ⟨RX11, "isWording", "(I)Z"⟩
abbrev cX11_isLand : ByteArray := prog_13_method_6_code
def yX11_isLand : MethodName := ⟨RX11, "isLand", "(I)Z"⟩
abbrev cX11_isDay : ByteArray := prog_13_method_7_code
def yX11_isDay : MethodName := ⟨RX11, "isDay", "(I)Z"⟩
abbrev cX11_isWord : ByteArray := prog_13_method_8_code
def yX11_isWord : MethodName := ⟨RX11, "isWord", "(I)Z"⟩
abbrev cX11_keep : ByteArray := prog_13_method_9_code
def yX11_keep : MethodName := ⟨RX11, "keep", "()V"⟩
abbrev cX11_undo : ByteArray := prog_13_method_10_code
def yX11_undo : MethodName := ⟨RX11, "undo", "()I"⟩
abbrev cX11_line : ByteArray := prog_13_method_11_code
def yX11_line : MethodName := ⟨RX11, "line", "(I)I"⟩
abbrev cX11_frame : ByteArray := prog_13_method_12_code
def yX11_frame : MethodName := ⟨RX11, "frame", "(II)I"⟩
abbrev cX11_wording : ByteArray := prog_13_method_13_code
def yX11_wording : MethodName := ⟨RX11, "wording", "(III)I"⟩
abbrev cX11_as : ByteArray := prog_13_method_14_code
def yX11_as : MethodName := ⟨RX11, "as", "(II)I"⟩
abbrev cX11_syllable : ByteArray := prog_13_method_15_code
def yX11_syllable : MethodName := ⟨RX11, "syllable", "(IIIII)I"⟩
abbrev cX11_cut : ByteArray := prog_13_method_16_code
def yX11_cut : MethodName := ⟨RX11, "cut", "(I)I"⟩
abbrev cX11_of : ByteArray := prog_13_method_17_code
def yX11_of : MethodName := ⟨RX11, "of", "(II)I"⟩
abbrev cX11_told : ByteArray := prog_13_method_18_code
def yX11_told : MethodName := ⟨RX11, "told", "(II)I"⟩
abbrev cX11_shapeOf : ByteArray := prog_13_method_19_code
def yX11_shapeOf : MethodName := ⟨RX11, "shapeOf", "(II)I"⟩
abbrev cX11_shape : ByteArray := prog_13_method_20_code
def yX11_shape : MethodName := ⟨RX11, "shape", "(II)I"⟩
abbrev cX11_syllableOf : ByteArray := prog_13_method_21_code
def yX11_syllableOf : MethodName := ⟨RX11, "syllableOf", "(II)I"⟩
abbrev cX11_leastOf : ByteArray := prog_13_method_22_code
def yX11_leastOf : MethodName := ⟨RX11, "leastOf", "(II)I"⟩
abbrev cX11_mostOf : ByteArray := prog_13_method_23_code
def yX11_mostOf : MethodName := ⟨RX11, "mostOf", "(II)I"⟩
abbrev cX11_offOf : ByteArray := prog_13_method_24_code
def yX11_offOf : MethodName := ⟨RX11, "offOf", "(III)I"⟩
abbrev cX11_pauseOf : ByteArray := prog_13_method_25_code
def yX11_pauseOf : MethodName := ⟨RX11, "pauseOf", "(II)I"⟩
abbrev cX11_leastAt : ByteArray := prog_13_method_26_code
def yX11_leastAt : MethodName := ⟨RX11, "leastAt", "(II)I"⟩
abbrev cX11_laid : ByteArray := prog_13_method_27_code
def yX11_laid : MethodName := ⟨RX11, "laid", "(IIII)I"⟩
abbrev cX11_fit : ByteArray := prog_13_method_28_code
def yX11_fit : MethodName := ⟨RX11, "fit", "(I)I"⟩
abbrev cX11_lengthAt : ByteArray := prog_13_method_29_code
def yX11_lengthAt : MethodName := ⟨RX11, "lengthAt", "(III)I"⟩
abbrev cX11_cost : ByteArray := prog_13_method_30_code
def yX11_cost : MethodName := ⟨RX11, "cost", "(I)I"⟩
abbrev cX11_place : ByteArray := prog_13_method_31_code
def yX11_place : MethodName := ⟨RX11, "place", "(IIZ)I"⟩
abbrev cX11_on : ByteArray := prog_13_method_32_code
def yX11_on : MethodName := ⟨RX11, "on", "(II)I"⟩
abbrev cX11_name : ByteArray := prog_13_method_33_code
def yX11_name : MethodName := ⟨RX11, "name", "(II)I"⟩
abbrev cX11_text : ByteArray := prog_13_method_34_code
def yX11_text : MethodName := ⟨RX11, "text", "(IIII)I"⟩
abbrev cX11_isOf : ByteArray := prog_13_method_35_code
def yX11_isOf : MethodName := ⟨RX11, "isOf", "(III)Z"⟩
abbrev cX11_isBarred : ByteArray := prog_13_method_36_code
def yX11_isBarred : MethodName := ⟨RX11, "isBarred", "(III)Z"⟩
abbrev cX11_chosenOf : ByteArray := prog_13_method_37_code
def yX11_chosenOf : MethodName := ⟨RX11, "chosenOf", "(III)I"⟩
abbrev cX11_barred : ByteArray := prog_13_method_38_code
def yX11_barred : MethodName := ⟨RX11, "barred", "(III)I"⟩
abbrev cX11_chosen : ByteArray := prog_13_method_39_code
def yX11_chosen : MethodName := ⟨RX11, "chosen", "(III)I"⟩
abbrev cX11_isLawful : ByteArray := prog_13_method_40_code
def yX11_isLawful : MethodName := ⟨RX11, "isLawful", "(III)Z"⟩
abbrev cX11_lawful : ByteArray := prog_13_method_41_code
def yX11_lawful : MethodName := ⟨RX11, "lawful", "(III)I"⟩
abbrev cX11_bestOf : ByteArray := prog_13_method_42_code
def yX11_bestOf : MethodName := ⟨RX11, "bestOf", "(III)I"⟩
abbrev cX11_best : ByteArray := prog_13_method_43_code
def yX11_best : MethodName := ⟨RX11, "best", "(III)I"⟩
abbrev cX11_worth : ByteArray := prog_13_method_44_code
def yX11_worth : MethodName := ⟨RX11, "worth", "(II)I"⟩
abbrev cX11_actor : ByteArray := prog_13_method_45_code
def yX11_actor : MethodName := ⟨RX11, "actor", "(II)I"⟩
abbrev cX11_free : ByteArray := prog_13_method_46_code
def yX11_free : MethodName := ⟨RX11, "free", "(II)I"⟩
abbrev cX11_room : ByteArray := prog_13_method_47_code
def yX11_room : MethodName := ⟨RX11, "room", "(II)I"⟩
abbrev cX11_loop : ByteArray := prog_13_method_48_code
def yX11_loop : MethodName := ⟨RX11, "loop", "(I)I"⟩
abbrev cX11_unloop : ByteArray := prog_13_method_49_code
def yX11_unloop : MethodName := ⟨RX11, "unloop", "()I"⟩
abbrev cX11_many : ByteArray := prog_13_method_50_code
def yX11_many : MethodName := ⟨RX11, "many", "(I)I"⟩
abbrev cX11_findLoops : ByteArray := prog_13_method_51_code
def yX11_findLoops : MethodName := ⟨RX11, "findLoops", "()V"⟩
abbrev cX11_callsOf : ByteArray := prog_13_method_52_code
def yX11_callsOf : MethodName := ⟨RX11, "callsOf", "(I)I"⟩
abbrev cX11_findPlan : ByteArray := prog_13_method_53_code
def yX11_findPlan : MethodName := ⟨RX11, "findPlan", "()V"⟩
abbrev cX11_plan : ByteArray := prog_13_method_54_code
def yX11_plan : MethodName := ⟨RX11, "plan", "()I"⟩
abbrev cX11_planned : ByteArray := prog_13_method_55_code
def yX11_planned : MethodName := ⟨RX11, "planned", "(I)I"⟩
abbrev cX11_plans : ByteArray := prog_13_method_56_code
def yX11_plans : MethodName := ⟨RX11, "plans", "()I"⟩
abbrev cX11_shapeIn : ByteArray := prog_13_method_57_code
def yX11_shapeIn : MethodName := ⟨RX11, "shapeIn", "(JI)I"⟩
abbrev cX11_keptOf : ByteArray := prog_13_method_58_code
def yX11_keptOf : MethodName := ⟨RX11, "keptOf", "(JIJI)I"⟩
abbrev cX11_change : ByteArray := prog_13_method_59_code
def yX11_change : MethodName := ⟨RX11, "change", "(II)I"⟩
abbrev cX11_kept : ByteArray := prog_13_method_60_code
def yX11_kept : MethodName := ⟨RX11, "kept", "(II)I"⟩
abbrev cX11_isSheet : ByteArray := prog_13_method_61_code
def yX11_isSheet : MethodName := ⟨RX11, "isSheet", "(I)Z"⟩
abbrev cX11_sheet : ByteArray := prog_13_method_62_code
def yX11_sheet : MethodName := ⟨RX11, "sheet", "(III)I"⟩
abbrev cX11_put : ByteArray := prog_13_method_63_code
def yX11_put : MethodName := ⟨RX11, "put", "(III)I"⟩
abbrev cX11_copy : ByteArray := prog_13_method_64_code
def yX11_copy : MethodName := ⟨RX11, "copy", "(IIIII)I"⟩
abbrev cX11_all : ByteArray := prog_13_method_65_code
def yX11_all : MethodName := ⟨RX11, "all", "(I)I"⟩
def RJ6 : String := "java/lang/Integer"
def TJ6 : u_T := fun k => match k with
  | _ => ("", "", "", false)
def tyJ6 : Nat → FieldType := fun k => match k with
  | _ => .int
theorem nmJ6 : ∀ a, a < 0 → ∀ b, b < 0 → a ≠ b → (TJ6 a).2.1 ≠ (TJ6 b).2.1 := by decide +kernel
theorem tyJ6_ok : ∀ k, k < 0 → parseFieldDescriptor (TJ6 k).2.2.1 = some (tyJ6 k) := by decide +kernel
abbrev cJ6_bitCount_0f7a4 : ByteArray := prog_14_method_49_code
def yJ6_bitCount_0f7a4 : MethodName := ⟨RJ6, "bitCount", "(I)I"⟩
def RJ9 : String := "java/lang/Math"
def TJ9 : u_T := fun k => match k with
  | _ => ("", "", "", false)
def tyJ9 : Nat → FieldType := fun k => match k with
  | _ => .int
theorem nmJ9 : ∀ a, a < 0 → ∀ b, b < 0 → a ≠ b → (TJ9 a).2.1 ≠ (TJ9 b).2.1 := by decide +kernel
theorem tyJ9_ok : ∀ k, k < 0 → parseFieldDescriptor (TJ9 k).2.2.1 = some (tyJ9 k) := by decide +kernel
abbrev cJ9_max_7cf53 : ByteArray := prog_15_method_65_code
def yJ9_max_7cf53 : MethodName := ⟨RJ9, "max", "(II)I"⟩
abbrev cJ9_min_7cf53 : ByteArray := prog_15_method_69_code
def yJ9_min_7cf53 : MethodName := ⟨RJ9, "min", "(II)I"⟩
def RJ10 : String := "java/lang/System"
def TJ10 : u_T := fun k => match k with
  | _ => ("", "", "", false)
def tyJ10 : Nat → FieldType := fun k => match k with
  | _ => .int
theorem nmJ10 : ∀ a, a < 0 → ∀ b, b < 0 → a ≠ b → (TJ10 a).2.1 ≠ (TJ10 b).2.1 := by decide +kernel
theorem tyJ10_ok : ∀ k, k < 0 → parseFieldDescriptor (TJ10 k).2.2.1 = some (tyJ10 k) := by decide +kernel
def RL : String := "DubDeskLaw"
abbrev cL_law : ByteArray := code
def yL_law : MethodName := ⟨RL, "law", "([I)Z"⟩
end
section
/-! a layer over the kit: states of whole numbers, references by kind and number, one world a block -/
abbrev qSt : Type := Nat → Int → Int → Int
abbrev qV : Type := Int ⊕ (Int ⊕ (Nat × Int))
abbrev qi (z : Int) : qV := Sum.inl z
abbrev ql (z : Int) : qV := Sum.inr (Sum.inl z)
abbrev qr (k : Nat) (i : Int) : qV := Sum.inr (Sum.inr (k, i))
/-- the shape of a kind: an object (class, its slots: none a number, some k a reference to the one of kind k with the same number), or an array (length; 0 ints, 1 longs, else references; kind of its targets) -/
abbrev qShp : Type := (Nat × List (Option Nat)) ⊕ (Nat × Nat × Nat)
/-- cells, kind and number of a cell, cell of a kind and number, how many of a kind, shape of a kind -/
abbrev qT : Type := Nat × (Nat → Nat × Nat) × (Nat → Nat → Nat) × (Nat → Nat) × (Nat → qShp)
abbrev qE : Type := qT × Nat × Nat × va_G × (Nat → ClassId)
def qN (T : qT) : Nat := T.1
def qkd (T : qT) : Nat → Nat × Nat := T.2.1
def qad (T : qT) : Nat → Nat → Nat := T.2.2.1
def qcn (T : qT) : Nat → Nat := T.2.2.2.1
def qsh (T : qT) : Nat → qShp := T.2.2.2.2
def eT (E : qE) : qT := E.1
def eo (E : qE) : Nat := E.2.1
def eu (E : qE) : Nat := E.2.2.1
def eD (E : qE) : va_G := E.2.2.2.1
def eca (E : qE) : Nat → ClassId := E.2.2.2.2
def eA (E : qE) : Nat → Prop := fun q => eo E ≤ q ∧ q < eo E + qN (eT E)
def clz : List vw_C := [(RX0, TX0, 5), (RX1, TX1, 5), (RX2, TX2, 5), (RX3, TX3, 3), (RX4, TX4, 6), (RX5, TX5, 3), (RX6, TX6, 1), (RX7, TX7, 11), (RX8, TX8, 3), (RX9, TX9, 8), (RX10, TX10, 13), (RX11, TX11, 21)]
def qTys (ca : Nat → ClassId) : List (ClassId × FieldType) := [(ca 0, .int), (ca 1, .long), (ca 2, .object RX5), (ca 3, .object RX9), (ca 4, .object RX8), (ca 5, .object RX0), (ca 6, .array .int)]
def qUp (σ : qSt) (k : Nat) (i j z : Int) : qSt := fun a b c => if a = k ∧ b = i ∧ c = j then z else σ a b c
def qv (E : qE) : qV → Value
  | .inl z => .int (Int32.ofInt z)
  | .inr (.inl z) => .long (Int64.ofInt z)
  | .inr (.inr (k, i)) => if k = 99 then .ref (eu E) else .ref (eo E + qad (eT E) k i.toNat)
def qFld (E : qE) (f : Int → Int) (i : Nat) : List (Option Nat) → Nat → List Value
  | [], _ => []
  | none :: r, j => .int (Int32.ofInt (f j)) :: qFld E f i r (j + 1)
  | some t :: r, j => .ref (eo E + qad (eT E) t i) :: qFld E f i r (j + 1)
def qCellS (E : qE) (f : Int → Int) (i : Nat) : qShp → va_E
  | .inl (ci, fl) => .inr (ci, qFld E f i fl 0)
  | .inr (n, 0, _) => .inl (eca E 0, n, .inl fun j => Int32.ofInt (f j))
  | .inr (n, 1, _) => .inl (eca E 1, n, .inr (.inl fun j => Int64.ofInt (f j)))
  | .inr (n, ek + 2, tk) => .inl (eca E (ek + 2), n, .inr (.inr (.inr (.inr fun j => some (eo E + qad (eT E) tk j)))))
def qCell (E : qE) (σ : qSt) (k i : Nat) : va_E := qCellS E (σ k i) i (qsh (eT E) k)
def qBlk (E : qE) (σ : qSt) : va_W := (List.range (qN (eT E))).map fun q => (eo E + q, qCell E σ (qkd (eT E) q).1 (qkd (eT E) q).2)
def qTok (T : qT) : Prop := qcn T 99 = 0 ∧ (∀ k i, i < qcn T k → qad T k i < qN T ∧ qkd T (qad T k i) = (k, i)) ∧ ∀ q, q < qN T → qad T (qkd T q).1 (qkd T q).2 = q
def qUnd : Nat → Value := fun j => match j with
  | 0 => .int (-1)
  | 1 => .int 0
  | 2 => .int 0
  | _ => .int 1
def qWok (E : qE) (U : State) (H : Heap) : Prop := va_K (eD E) clz (qTys (eca E)) U ∧ va_Z RX10 "UNDER" "[I" (.ref (eu E)) (eA E) U H ∧ va_T .int (eu E) 4 qUnd (eA E) U H ∧ va_Nw (.fieldLinkNest RX9 37 RX10 "UNDER" "[I" RX10) U
/-! cells and blocks -/
theorem qUp_eq (σ : qSt) (k : Nat) (i j z : Int) : qUp σ k i j z k i j = z := by simp [qUp]
theorem qUp_ne {σ : qSt} {k a : Nat} {i j z b c : Int} (h : ¬ (a = k ∧ b = i ∧ c = j)) : qUp σ k i j z a b c = σ a b c := by simp [qUp, h]
theorem qFld_len (E : qE) (f : Int → Int) (i : Nat) : ∀ (fl : List (Option Nat)) (j : Nat), (qFld E f i fl j).length = fl.length
  | [], _ => rfl
  | none :: r, j => by simp [qFld, qFld_len E f i r]
  | some t :: r, j => by simp [qFld, qFld_len E f i r]
theorem qFld_i (E : qE) (f : Int → Int) (i : Nat) : ∀ (fl : List (Option Nat)) (b j : Nat), fl[j]? = some none → (qFld E f i fl b)[j]? = some (.int (Int32.ofInt (f ((b + j : Nat) : Int))))
  | [], _, _, h => by simp at h
  | none :: r, b, 0, h => by simp [qFld]
  | some t :: r, b, 0, h => by simp at h
  | none :: r, b, j + 1, h => by
    have := qFld_i E f i r (b + 1) j (by simpa using h)
    simp only [qFld, List.getElem?_cons_succ, this]
    congr 4
    omega
  | some t :: r, b, j + 1, h => by
    have := qFld_i E f i r (b + 1) j (by simpa using h)
    simp only [qFld, List.getElem?_cons_succ, this]
    congr 4
    omega
theorem qFld_r (E : qE) (f : Int → Int) (i : Nat) {t : Nat} : ∀ (fl : List (Option Nat)) (b j : Nat), fl[j]? = some (some t) → (qFld E f i fl b)[j]? = some (.ref (eo E + qad (eT E) t i))
  | [], _, _, h => by simp at h
  | none :: r, b, 0, h => by simp at h
  | some t' :: r, b, 0, h => by
    simp at h
    subst h
    simp [qFld]
  | none :: r, b, j + 1, h => by
    simp only [qFld, List.getElem?_cons_succ]
    exact qFld_r E f i r (b + 1) j (by simpa using h)
  | some t' :: r, b, j + 1, h => by
    simp only [qFld, List.getElem?_cons_succ]
    exact qFld_r E f i r (b + 1) j (by simpa using h)
theorem qFld_set (E : qE) (f g : Int → Int) (i : Nat) (z : Int) (x : Nat) (hx : g x = z) (hg : ∀ c, c ≠ (x : Int) → g c = f c) : ∀ (fl : List (Option Nat)) (b j : Nat), b + j = x → fl[j]? = some none → (qFld E f i fl b).set j (.int (Int32.ofInt z)) = qFld E g i fl b
  | [], _, _, _, h => by simp at h
  | none :: r, b, 0, e, h => by
    have hr : ∀ (r : List (Option Nat)) (b : Nat), x < b → qFld E f i r b = qFld E g i r b := by
      intro r
      induction r with
      | nil => intro b _; rfl
      | cons a r ih =>
        intro b hb
        cases a with
        | none => simp only [qFld]; rw [ih (b + 1) (by omega), hg b (by omega)]
        | some t => simp only [qFld]; rw [ih (b + 1) (by omega)]
    simp only [qFld, List.set_cons_zero]
    rw [hr r (b + 1) (by omega), show ((b : Nat) : Int) = (x : Int) by omega, hx]
  | some t :: r, b, 0, _, h => by simp at h
  | none :: r, b, j + 1, e, h => by
    simp only [qFld, List.set_cons_succ]
    rw [qFld_set E f g i z x hx hg r (b + 1) j (by omega) (by simpa using h), hg b (by omega)]
  | some t :: r, b, j + 1, e, h => by
    simp only [qFld, List.set_cons_succ]
    rw [qFld_set E f g i z x hx hg r (b + 1) j (by omega) (by simpa using h)]
theorem qBlk_get {E : qE} {σ : qSt} (hT : qTok (eT E)) {k i : Nat} (hi : i < qcn (eT E) k) : (qBlk E σ)[qad (eT E) k i]? = some (eo E + qad (eT E) k i, qCell E σ k i) := by
  obtain ⟨h1, h2⟩ := hT.2.1 k i hi
  simp [qBlk, List.getElem?_range h1, h2]
theorem qBlk_set {E : qE} {σ σ' : qSt} (hT : qTok (eT E)) {k i : Nat} (hi : i < qcn (eT E) k) (ho : ∀ (a b : Nat), ¬ (a = k ∧ b = i) → ∀ c, σ' a b c = σ a b c) : (qBlk E σ).set (qad (eT E) k i) (eo E + qad (eT E) k i, qCell E σ' k i) = qBlk E σ' := by
  obtain ⟨h1, h2⟩ := hT.2.1 k i hi
  apply List.ext_getElem?
  intro q
  by_cases hq : q = qad (eT E) k i
  · subst hq
    rw [List.getElem?_set_self (by simp [qBlk]; exact h1), qBlk_get hT hi]
  · rw [List.getElem?_set_ne (fun h => hq h.symm)]
    by_cases hl : q < qN (eT E)
    · simp only [qBlk, List.getElem?_map, List.getElem?_range hl, Option.map_some]
      congr 2
      unfold qCell
      congr 1
      funext c
      refine (ho _ _ ?_ c).symm
      rintro ⟨e1, e2⟩
      have := hT.2.2 q hl
      rw [e1, e2] at this
      exact hq this.symm
    · rw [List.getElem?_eq_none (by simp [qBlk]; omega), List.getElem?_eq_none (by simp [qBlk]; omega)]
theorem qBlk_D (E : qE) (σ : qSt) : va_D (eA E) (qBlk E σ) := by
  have key : ∀ (k : Nat) (x : Nat × va_E), (qBlk E σ)[k]? = some x → k < qN (eT E) ∧ x.1 = eo E + k := by
    intro k x hx
    have hl : k < qN (eT E) := by
      have := (List.getElem?_eq_some_iff.mp hx).1
      simpa [qBlk] using this
    simp only [qBlk, List.getElem?_map, List.getElem?_range hl, Option.map_some] at hx
    cases hx
    exact ⟨hl, rfl⟩
  refine ⟨fun i j p q hi hj e => ?_, fun k q hk => ?_⟩
  · have a := key i p hi
    have b := key j q hj
    omega
  · have a := key k q hk
    exact ⟨by omega, by omega⟩
theorem qWok.same {E : qE} {u U : State} {H : Heap} (hvm : u.vm = U.vm) (h : qWok E u H) : qWok E U H := by
  have ha : u.vm.Alike U.vm := by rw [hvm]; exact Vm.Alike.refl U.vm
  exact ⟨va_K.moved ha h.1, va_Z.moved ha h.2.1, va_T.moved ha h.2.2.1, va_Nw.same rfl hvm h.2.2.2⟩
theorem qWok.warm {E : qE} {u U : State} {H : Heap} (hW : u.WarmedH U.vm) (h : qWok E u H) : qWok E U H := ⟨va_K.moved hW.alike h.1, va_Z.moved hW.alike h.2.1, va_T.moved hW.alike h.2.2.1, va_Nw.warmF hW h.2.2.2⟩
theorem qWok.kept {E : qE} {U : State} {H H1 : Heap} (h : qWok E U H) (hq : ∀ a : Nat, a < H.size → ¬ eA E a → H1[a]? = H[a]?) : qWok E U H1 := ⟨h.1, va_Z.kept h.2.1 hq, va_T.kept h.2.2.1 hq, h.2.2.2⟩
/-! locals -/
def qAs (E : qE) : List (Option qV) → Nat → List (Nat × Value)
  | [], _ => []
  | none :: r, i => qAs E r (i + 1)
  | some v :: r, i => (i, qv E v) :: qAs E r (i + 1)
theorem qAs_mem (E : qE) : ∀ (lv : List (Option qV)) (b : Nat) (x : Nat × Value), x ∈ qAs E lv b ↔ ∃ j v, lv[j]? = some (some v) ∧ x = (b + j, qv E v)
  | [], b, x => by simp [qAs]
  | none :: r, b, x => by
    simp only [qAs, qAs_mem E r]
    constructor
    · rintro ⟨j, v, h, rfl⟩
      exact ⟨j + 1, v, by simpa using h, by congr 1; omega⟩
    · rintro ⟨j, v, h, rfl⟩
      cases j with
      | zero => simp at h
      | succ j => exact ⟨j, v, by simpa using h, by congr 1; omega⟩
  | some w :: r, b, x => by
    simp only [qAs, List.mem_cons, qAs_mem E r]
    constructor
    · rintro (rfl | ⟨j, v, h, rfl⟩)
      · exact ⟨0, w, by simp, by simp⟩
      · exact ⟨j + 1, v, by simpa using h, by congr 1; omega⟩
    · rintro ⟨j, v, h, rfl⟩
      cases j with
      | zero =>
        simp at h
        left
        rw [h]
        rfl
      | succ j => exact Or.inr ⟨j, v, by simpa using h, by congr 1; omega⟩
def qLs (E : qE) (ls : Array Slot) (nL : Nat) (lv : List (Option qV)) : Prop := lv_has ls nL (qAs E lv 0)
theorem qLs.at {E : qE} {ls : Array Slot} {nL : Nat} {lv : List (Option qV)} (h : qLs E ls nL lv) {k : Nat} {v : qV} (hk : lv[k]? = some (some v)) : ls[k]? = some (.val (qv E v)) := h.2.2 (k, qv E v) ((qAs_mem E lv 0 _).mpr ⟨k, v, hk, by simp⟩)
def qSet : List (Option qV) → Nat → Option qV → Option (List (Option qV))
  | [], _, _ => none
  | _ :: r, 0, v => some (v :: r)
  | x :: r, k + 1, v => match qSet r k v with
    | some r' => some (x :: r')
    | none => none
theorem qSet_get : ∀ (lv : List (Option qV)) (k : Nat) (v : Option qV) (lv' : List (Option qV)), qSet lv k v = some lv' → ∀ j : Nat, lv'[j]? = if j = k then some v else lv[j]?
  | [], _, _, _, h => by simp [qSet] at h
  | x :: r, 0, v, lv', h => by
    simp only [qSet, Option.some.injEq] at h
    subst h
    intro j
    cases j <;> simp
  | x :: r, k + 1, v, lv', h => by
    simp only [qSet] at h
    split at h
    · next r' hr =>
      simp only [Option.some.injEq] at h
      subst h
      intro j
      cases j with
      | zero => simp
      | succ j =>
        have := qSet_get r k v r' hr j
        simpa using this
    · cases h
def qOk (lv : List (Option qV)) (k : Nat) : Bool := match k with
  | 0 => true
  | j + 1 => match lv[j]? with
    | some (some (.inr (.inl _))) => false
    | _ => true
theorem qv_cat (E : qE) (v : qV) (h : ∀ z, v ≠ ql z) : (qv E v).category = 1 := by
  match v, h with
  | .inl z, _ => rfl
  | .inr (.inl z), h => exact absurd rfl (h z)
  | .inr (.inr (k, i)), _ =>
    simp only [qv]
    split <;> rfl
theorem qLs.set1 {E : qE} {ls' : Array Slot} {nL k : Nat} {lv lv' : List (Option qV)} {v : qV} (hs : qSet lv k (some v) = some lv') (ho : qOk lv k = true) (h : lv_has ls' nL ((k, qv E v) :: (qAs E lv 0).filter (fun q => !(q.1 == k) && !(q.1 + 1 == k && q.2.category == 2)))) : qLs E ls' nL lv' := by
  refine ⟨h.1, h.2.1, fun x hx => h.2.2 x ?_⟩
  obtain ⟨j, w, hj, rfl⟩ := (qAs_mem E lv' 0 x).mp hx
  rw [qSet_get lv k _ lv' hs j] at hj
  simp only [Nat.zero_add]
  by_cases e : j = k
  · subst e
    simp at hj
    subst hj
    exact List.mem_cons_self
  · rw [if_neg e] at hj
    refine List.mem_cons_of_mem _ (List.mem_filter.mpr ⟨(qAs_mem E lv 0 _).mpr ⟨j, w, hj, by simp⟩, ?_⟩)
    simp only [Bool.and_eq_true, Bool.not_eq_true', beq_eq_false_iff_ne, ne_eq, Bool.and_eq_false_iff]
    refine ⟨e, ?_⟩
    by_cases e2 : j + 1 = k
    · right
      subst e2
      have h1 : (qv E w).category = 1 := qv_cat E w (fun z hz => by
        subst hz
        simp [qOk, hj] at ho)
      omega
    · exact Or.inl e2
theorem qLs.set2 {E : qE} {ls' : Array Slot} {nL k : Nat} {lv lv1 lv' : List (Option qV)} {v : qV} (hs : qSet lv k (some v) = some lv1) (hs2 : qSet lv1 (k + 1) none = some lv') (ho : qOk lv k = true) (h : lv_has ls' nL ((k, qv E v) :: (qAs E lv 0).filter (fun q => !(q.1 == k) && (!(q.1 == k + 1) && !(q.1 + 1 == k && q.2.category == 2))))) : qLs E ls' nL lv' := by
  refine ⟨h.1, h.2.1, fun x hx => h.2.2 x ?_⟩
  obtain ⟨j, w, hj, rfl⟩ := (qAs_mem E lv' 0 x).mp hx
  rw [qSet_get lv1 (k + 1) _ lv' hs2 j] at hj
  by_cases e1 : j = k + 1
  · rw [if_pos e1] at hj
    cases hj
  rw [if_neg e1, qSet_get lv k _ lv1 hs j] at hj
  simp only [Nat.zero_add]
  by_cases e : j = k
  · subst e
    simp at hj
    subst hj
    exact List.mem_cons_self
  · rw [if_neg e] at hj
    refine List.mem_cons_of_mem _ (List.mem_filter.mpr ⟨(qAs_mem E lv 0 _).mpr ⟨j, w, hj, by simp⟩, ?_⟩)
    simp only [Bool.and_eq_true, Bool.not_eq_true', beq_eq_false_iff_ne, ne_eq, Bool.and_eq_false_iff]
    refine ⟨e, e1, ?_⟩
    by_cases e2 : j + 1 = k
    · right
      subst e2
      have h1 : (qv E w).category = 1 := qv_cat E w (fun z hz => by
        subst hz
        simp [qOk, hj] at ho)
      omega
    · exact Or.inl e2
end
section
/-! the tables' words that stay good at every call -/
def qTbl : List Cond := lw_tbl.filter goodWord
theorem qin {w : Cond} (i : Nat) (h : lw_tbl[i]? = some w) (hg : goodWord w = true) : w ∈ qTbl := List.mem_filter.mpr ⟨List.mem_of_getElem? h, hg⟩
/-! numbers -/
theorem z_add (a b : Int) : Int32.ofInt a + Int32.ofInt b = Int32.ofInt (a + b) := (Int32.ofInt_add a b).symm
theorem z_mul (a b : Int) : Int32.ofInt a * Int32.ofInt b = Int32.ofInt (a * b) := (Int32.ofInt_mul a b).symm
theorem z_sub (a b : Int) : Int32.ofInt a - Int32.ofInt b = Int32.ofInt (a - b) := (Int32.ofInt_sub a b).symm
theorem zl_add (a b : Int) : Int64.ofInt a + Int64.ofInt b = Int64.ofInt (a + b) := (Int64.ofInt_add a b).symm
abbrev InI (z : Int) : Prop := -2147483648 ≤ z ∧ z < 2147483648
abbrev InL (z : Int) : Prop := -9223372036854775808 ≤ z ∧ z < 9223372036854775808
theorem z_toInt {z : Int} (h : InI z) : (Int32.ofInt z).toInt = z := by
  rw [Int32.toInt_ofInt]
  exact Int.bmod_eq_of_le (by simp [Int32.size]; omega) (by simp [Int32.size]; omega)
theorem zl_toInt {z : Int} (h : InL z) : (Int64.ofInt z).toInt = z := by
  rw [Int64.toInt_ofInt]
  exact Int.bmod_eq_of_le (by simp [Int64.size]; omega) (by simp [Int64.size]; omega)
theorem z_lt {a b : Int} (ha : InI a) (hb : InI b) : Int32.ofInt a < Int32.ofInt b ↔ a < b := by
  rw [Int32.lt_iff_toInt_lt, z_toInt ha, z_toInt hb]
theorem z_le {a b : Int} (ha : InI a) (hb : InI b) : Int32.ofInt a ≤ Int32.ofInt b ↔ a ≤ b := by
  rw [Int32.le_iff_toInt_le, z_toInt ha, z_toInt hb]
theorem z_eq {a b : Int} (ha : InI a) (hb : InI b) : Int32.ofInt a = Int32.ofInt b ↔ a = b := by
  rw [← Int32.toInt_inj, z_toInt ha, z_toInt hb]
theorem z_0 : (0 : Int32) = Int32.ofInt 0 := rfl
theorem z_nat {z : Int} (h0 : 0 ≤ z) (h : z < 2147483648) : (Int32.ofInt z).toNatClampNeg = z.toNat := by
  show (Int32.ofInt z).toInt.toNat = z.toNat
  rw [z_toInt ⟨by omega, h⟩]
theorem z_in {z : Int} {N : Nat} (h0 : 0 ≤ z) (h : z < N) (hN : N < 2147483648) : vp_in (Int32.ofInt z) N := by
  unfold vp_in
  rw [z_nat h0 (by omega), z_0, z_lt ⟨by omega, by omega⟩ (by decide)]
  omega
/-! the judgement -/
def qRm (n : Nat) : Room := { frames := n, cells := 0, slots := 0, locals := 40 * n }
def qPc (E : qE) (av : List qV) (σ : qSt) : Array Value → State → Prop := va_Pc (av.map (qv E)) (fun U => qWok E U U.heap ∧ va_P (eD E) clz (qBlk E σ) U.heap)
def qQc (E : qE) (Ret : Option qV → qSt → Prop) : Array Value → State → Outcome → State → Prop := fun _ s o t => (∃ (r : Option qV) (σ' : qSt), o = .returned (r.map (qv E)) ∧ Ret r σ' ∧ va_P (eD E) clz (qBlk E σ') t.heap) ∧ va_F (eA E) s t
/-- called with av in the state σ, y returns, and Ret holds of the answer and the state behind it -/
def CM (E : qE) (l : Launch) (y : MethodName) (b : ByteArray) (nL : Nat) (rt : Option FieldType) (n : Nat) (av : List qV) (σ : qSt) (Ret : Option qV → qSt → Prop) : Prop := Met l y (.code y b nL rt :: qTbl) (qRm n) (qPc E av σ) (qQc E Ret) 0 0 (eA E)
def Cx (E : qE) (l : Launch) (own : String) (cc : ByteArray) (nL : Nat) (rt : Option FieldType) (n : Nat) (Ret : Option qV → qSt → Prop) (G : qSt → Nat → List (Option qV) → List qV → Prop) : Prop :=
  ∃ (p : Program) (e : Env) (s : State) (m : MethodId) (args : Array Value) (below : List Frame) (meth : Method) (c : Code) (ws : List Cond),
    (p.tables.exec = Jvm.exec ∧ c.code = cc ∧ c.maxLocals = nL ∧ s.vm.findClass own = some m.cls ∧ ∀ w ∈ ws, w.before args s = true) ∧ (∀ w ∈ qTbl, w ∈ ws) ∧ meth.locks = false ∧ meth.sig.returnType = rt ∧ qTok (eT E) ∧ qWok E s s.heap ∧
    G = fun σ pc lv st => ∀ (H : Heap) (locs : List Loc) (ls : Array Slot), va_P (eD E) clz (qBlk E σ) H → va_S (eA E) s.heap H locs → qLs E ls nL lv → W p l e (qRm n) s m args below meth c H locs 0 0 (MQ below (qQc E Ret) args s 0 0 (eA E)) (F0 m pc ls (st.map (qv E)))
section
variable {E : qE} {l : Launch} {own : String} {cc : ByteArray} {nL : Nat} {rt : Option FieldType} {n : Nat} {Ret : Option qV → qSt → Prop} {G : qSt → Nat → List (Option qV) → List qV → Prop} {σ : qSt} {pc : Nat} {lv : List (Option qV)} {st : List qV}
theorem Cx.go {st2 : List qV} {pc2 : Nat} (C : Cx E l own cc nL rt n Ret G) (h : ∀ (p : Program) (e : Env) (R : Room) (s : State) (m : MethodId) (args : Array Value) (below : List Frame) (meth : Method) (c : Code) (H : Heap) (locs : List Loc) (Q : State → Prop) (ls : Array Slot), p.tables.exec = Jvm.exec → c.code = cc → qLs E ls nL lv → s.vm.findClass own = some m.cls → (∀ w ∈ qTbl, w.before args s = true) → W p l e R s m args below meth c H locs 0 0 Q (F0 m pc2 ls (st2.map (qv E))) → W p l e R s m args below meth c H locs 0 0 Q (F0 m pc ls (st.map (qv E)))) (k : G σ pc2 lv st2) : G σ pc lv st := by
  obtain ⟨p, e, s, m, args, below, meth, c, ws, ⟨hx, hb, hml, ho, hw⟩, hin, hlk, hrt, hT, hK, rfl⟩ := C
  intro H locs ls hP hS hl
  exact h _ _ _ _ _ _ _ _ _ _ _ _ _ hx hb hl ho (fun w h => hw w (hin w h)) (k H locs ls hP hS hl)
theorem Cx.br {st2 : List qV} {pc2 pc3 : Nat} {a b : Prop} (C : Cx E l own cc nL rt n Ret G) (h : ∀ (p : Program) (e : Env) (R : Room) (s : State) (m : MethodId) (args : Array Value) (below : List Frame) (meth : Method) (c : Code) (H : Heap) (locs : List Loc) (Q : State → Prop) (ls : Array Slot), p.tables.exec = Jvm.exec → c.code = cc → (a → W p l e R s m args below meth c H locs 0 0 Q (F0 m pc2 ls (st2.map (qv E)))) → (b → W p l e R s m args below meth c H locs 0 0 Q (F0 m pc3 ls (st2.map (qv E)))) → W p l e R s m args below meth c H locs 0 0 Q (F0 m pc ls (st.map (qv E)))) (kt : a → G σ pc2 lv st2) (kf : b → G σ pc3 lv st2) : G σ pc lv st := by
  obtain ⟨p, e, s, m, args, below, meth, c, ws, ⟨hx, hb, hml, ho, hw⟩, hin, hlk, hrt, hT, hK, rfl⟩ := C
  intro H locs ls hP hS hl
  exact h _ _ _ _ _ _ _ _ _ _ _ _ _ hx hb (fun q => kt q H locs ls hP hS hl) (fun q => kf q H locs ls hP hS hl)
theorem r_iconst {z : Int} (C : Cx E l own cc nL rt n Ret G) (hd : decode cc pc = .ok (.iconst z, 1)) (k : G σ (pc + 1) lv (qi z :: st)) : G σ pc lv st := C.go (fun _ _ _ _ _ _ _ _ _ _ _ _ _ hx hb _ _ _ k => lv_iconst hx hb hd rfl k) k
theorem r_bipush {z : Int} (C : Cx E l own cc nL rt n Ret G) (hd : decode cc pc = .ok (.bipush z, 2)) (k : G σ (pc + 2) lv (qi z :: st)) (hv : (Int8.ofInt z).toInt32 = Int32.ofInt z := by decide) : G σ pc lv st := C.go (fun _ _ _ _ _ _ _ _ _ _ _ _ _ hx hb _ _ _ k => lv_bipush hx hb hd hv k) k
theorem r_sipush {z : Int} (C : Cx E l own cc nL rt n Ret G) (hd : decode cc pc = .ok (.sipush z, 3)) (k : G σ (pc + 3) lv (qi z :: st)) (hv : (Int16.ofInt z).toInt32 = Int32.ofInt z := by decide) : G σ pc lv st := C.go (fun _ _ _ _ _ _ _ _ _ _ _ _ _ hx hb _ _ _ k => lv_sipush hx hb hd hv k) k
theorem r_ldc {z : Int} {ix : Nat} (C : Cx E l own cc nL rt n Ret G) (hd : decode cc pc = .ok (.ldc ix, 2)) (hc : Cond.constant own ix (Int32.ofInt z) ∈ qTbl) (k : G σ (pc + 2) lv (qi z :: st)) : G σ pc lv st := C.go (fun _ _ _ _ _ _ _ _ _ _ _ _ _ hx hb _ ho ht k => lv_ldc hx hb ho (ht _ hc) hd k) k
theorem r_ldcw {z : Int} {ix : Nat} (C : Cx E l own cc nL rt n Ret G) (hd : decode cc pc = .ok (.ldc_w ix, 3)) (hc : Cond.constant own ix (Int32.ofInt z) ∈ qTbl) (k : G σ (pc + 3) lv (qi z :: st)) : G σ pc lv st := C.go (fun _ _ _ _ _ _ _ _ _ _ _ _ _ hx hb _ ho ht k => lv_ldcw hx hb ho (ht _ hc) hd k) k
theorem r_ldc2 {z : Int} {ix : Nat} (C : Cx E l own cc nL rt n Ret G) (hd : decode cc pc = .ok (.ldc2_w ix, 3)) (hc : Cond.constantLong own ix (Int64.ofInt z) ∈ qTbl) (k : G σ (pc + 3) lv (ql z :: st)) : G σ pc lv st := C.go (fun _ _ _ _ _ _ _ _ _ _ _ _ _ hx hb _ ho ht k => lv_ldc2 hx hb ho (ht _ hc) hd k) k
theorem r_lconst0 (C : Cx E l own cc nL rt n Ret G) (hd : decode cc pc = .ok (.lconst 0, 1)) (k : G σ (pc + 1) lv (ql 0 :: st)) : G σ pc lv st := C.go (fun _ _ _ _ _ _ _ _ _ _ _ _ _ hx hb _ _ _ k => lv_lconst hx hb hd rfl k) k
theorem r_iload_n {i : Fin 4} {z : Int} (C : Cx E l own cc nL rt n Ret G) (hd : decode cc pc = .ok (.iload_n i, 1)) (hl : lv[(i : Nat)]? = some (some (qi z))) (k : G σ (pc + 1) lv (qi z :: st)) : G σ pc lv st := C.go (fun _ _ _ _ _ _ _ _ _ _ _ _ _ hx hb h _ _ k => lv_iload_n hx hb hd rfl (h.at hl) k) k
theorem r_iload {i : Nat} {z : Int} (C : Cx E l own cc nL rt n Ret G) (hd : decode cc pc = .ok (.iload i, 2)) (hl : lv[i]? = some (some (qi z))) (k : G σ (pc + 2) lv (qi z :: st)) : G σ pc lv st := C.go (fun _ _ _ _ _ _ _ _ _ _ _ _ _ hx hb h _ _ k => lv_iload hx hb hd (h.at hl) k) k
theorem r_lload_n {i : Fin 4} {z : Int} (C : Cx E l own cc nL rt n Ret G) (hd : decode cc pc = .ok (.lload_n i, 1)) (hl : lv[(i : Nat)]? = some (some (ql z))) (k : G σ (pc + 1) lv (ql z :: st)) : G σ pc lv st := C.go (fun _ _ _ _ _ _ _ _ _ _ _ _ _ hx hb h _ _ k => lv_lload_n hx hb hd rfl (h.at hl) k) k
theorem r_lload {i : Nat} {z : Int} (C : Cx E l own cc nL rt n Ret G) (hd : decode cc pc = .ok (.lload i, 2)) (hl : lv[i]? = some (some (ql z))) (k : G σ (pc + 2) lv (ql z :: st)) : G σ pc lv st := C.go (fun _ _ _ _ _ _ _ _ _ _ _ _ _ hx hb h _ _ k => lv_lload hx hb hd (h.at hl) k) k
theorem qv_ref (E : qE) (q : Nat) (i : Int) : ∃ x, qv E (qr q i) = .ref x := by
  simp only [qv]
  split
  · exact ⟨_, rfl⟩
  · exact ⟨_, rfl⟩
theorem r_aload_n {i : Fin 4} {q : Nat} {z : Int} (C : Cx E l own cc nL rt n Ret G) (hd : decode cc pc = .ok (.aload_n i, 1)) (hl : lv[(i : Nat)]? = some (some (qr q z))) (k : G σ (pc + 1) lv (qr q z :: st)) : G σ pc lv st := C.go (fun _ _ _ _ _ _ _ _ _ _ _ _ _ hx hb h _ _ k => by
  obtain ⟨x, hx2⟩ := qv_ref E q z
  have h2 := h.at hl
  simp only [List.map_cons] at k
  rw [hx2] at h2 k
  exact lv_aload_n hx hb hd rfl h2 k) k
theorem r_aload {i : Nat} {q : Nat} {z : Int} (C : Cx E l own cc nL rt n Ret G) (hd : decode cc pc = .ok (.aload i, 2)) (hl : lv[i]? = some (some (qr q z))) (k : G σ (pc + 2) lv (qr q z :: st)) : G σ pc lv st := C.go (fun _ _ _ _ _ _ _ _ _ _ _ _ _ hx hb h _ _ k => by
  obtain ⟨x, hx2⟩ := qv_ref E q z
  have h2 := h.at hl
  simp only [List.map_cons] at k
  rw [hx2] at h2 k
  exact lv_aload hx hb hd h2 k) k
theorem Cx.sto {lv2 : List (Option qV)} {st2 : List qV} {pc2 : Nat} (C : Cx E l own cc nL rt n Ret G) (h : ∀ (p : Program) (e : Env) (R : Room) (s : State) (m : MethodId) (args : Array Value) (below : List Frame) (meth : Method) (c : Code) (H : Heap) (locs : List Loc) (Q : State → Prop) (ls : Array Slot), p.tables.exec = Jvm.exec → c.code = cc → qLs E ls nL lv → (∀ ls, qLs E ls nL lv2 → W p l e R s m args below meth c H locs 0 0 Q (F0 m pc2 ls (st2.map (qv E)))) → W p l e R s m args below meth c H locs 0 0 Q (F0 m pc ls (st.map (qv E)))) (k : G σ pc2 lv2 st2) : G σ pc lv st := by
  obtain ⟨p, e, s, m, args, below, meth, c, ws, ⟨hx, hb, hml, ho, hw⟩, hin, hlk, hrt, hT, hK, rfl⟩ := C
  intro H locs ls hP hS hl
  exact h _ _ _ _ _ _ _ _ _ _ _ _ _ hx hb hl (fun ls hl => k H locs ls hP hS hl)
theorem r_istore_n {i : Fin 4} {z : Int} {lv2 : List (Option qV)} (C : Cx E l own cc nL rt n Ret G) (hd : decode cc pc = .ok (.istore_n i, 1)) (hl : qSet lv i (some (qi z)) = some lv2) (ho : qOk lv i = true) (hn : (i : Nat) < nL) (k : G σ (pc + 1) lv2 st) : G σ pc lv (qi z :: st) := C.sto (fun _ _ _ _ _ _ _ _ _ _ _ _ _ hx hb h k => lv_istore_n hx hb hd rfl h hn rfl (fun ls h2 => k ls (qLs.set1 (v := qi z) hl ho h2))) k
theorem r_istore {i : Nat} {z : Int} {lv2 : List (Option qV)} (C : Cx E l own cc nL rt n Ret G) (hd : decode cc pc = .ok (.istore i, 2)) (hl : qSet lv i (some (qi z)) = some lv2) (ho : qOk lv i = true) (hn : i < nL) (k : G σ (pc + 2) lv2 st) : G σ pc lv (qi z :: st) := C.sto (fun _ _ _ _ _ _ _ _ _ _ _ _ _ hx hb h k => lv_istore hx hb hd h hn rfl (fun ls h2 => k ls (qLs.set1 (v := qi z) hl ho h2))) k
theorem r_lstore_n {i : Fin 4} {z : Int} {lv1 lv2 : List (Option qV)} (C : Cx E l own cc nL rt n Ret G) (hd : decode cc pc = .ok (.lstore_n i, 1)) (hl1 : qSet lv i (some (ql z)) = some lv1) (hl : qSet lv1 ((i : Nat) + 1) none = some lv2) (ho : qOk lv i = true) (hn : (i : Nat) + 1 < nL) (k : G σ (pc + 1) lv2 st) : G σ pc lv (ql z :: st) := C.sto (fun _ _ _ _ _ _ _ _ _ _ _ _ _ hx hb h k => lv_lstore_n hx hb hd rfl h hn rfl (fun ls h2 => k ls (qLs.set2 (v := ql z) hl1 hl ho h2))) k
theorem r_astore_n {i : Fin 4} {q : Nat} {z : Int} {lv2 : List (Option qV)} (C : Cx E l own cc nL rt n Ret G) (hd : decode cc pc = .ok (.astore_n i, 1)) (hl : qSet lv i (some (qr q z)) = some lv2) (ho : qOk lv i = true) (hn : (i : Nat) < nL) (k : G σ (pc + 1) lv2 st) : G σ pc lv (qr q z :: st) := C.sto (fun _ _ _ _ _ _ _ _ _ _ _ _ _ hx hb h k => by
  obtain ⟨x, hx2⟩ := qv_ref E q z
  simp only [List.map_cons]
  rw [hx2]
  refine lv_astore_n hx hb hd rfl h hn rfl (fun ls h2 => k ls (qLs.set1 (v := qr q z) hl ho ?_))
  rw [hx2]
  exact h2) k
theorem r_astore {i : Nat} {q : Nat} {z : Int} {lv2 : List (Option qV)} (C : Cx E l own cc nL rt n Ret G) (hd : decode cc pc = .ok (.astore i, 2)) (hl : qSet lv i (some (qr q z)) = some lv2) (ho : qOk lv i = true) (hn : i < nL) (k : G σ (pc + 2) lv2 st) : G σ pc lv (qr q z :: st) := C.sto (fun _ _ _ _ _ _ _ _ _ _ _ _ _ hx hb h k => by
  obtain ⟨x, hx2⟩ := qv_ref E q z
  simp only [List.map_cons]
  rw [hx2]
  refine lv_astore hx hb hd h hn rfl (fun ls h2 => k ls (qLs.set1 (v := qr q z) hl ho ?_))
  rw [hx2]
  exact h2) k
theorem qAs_at {lv : List (Option qV)} {i : Nat} {v : qV} (h : lv[i]? = some (some v)) : ∃ k : Nat, (qAs E lv 0)[k]? = some (i, qv E v) := by
  have := (qAs_mem E lv 0 (i, qv E v)).mpr ⟨i, v, h, by simp⟩
  exact List.getElem?_of_mem this
theorem r_iinc {i : Nat} {d z : Int} {lv2 : List (Option qV)} (C : Cx E l own cc nL rt n Ret G) (hd : decode cc pc = .ok (.iinc i d, 3)) (h0 : lv[i]? = some (some (qi z))) (hl : qSet lv i (some (qi (z + d))) = some lv2) (ho : qOk lv i = true) (hn : i < nL) (k : G σ (pc + 3) lv2 st) : G σ pc lv st := C.sto (fun _ _ _ _ _ _ _ _ _ _ _ _ _ hx hb h k => by
  obtain ⟨j, hj⟩ := qAs_at (E := E) h0
  exact lv_iinc hx hb hd h hj (z_add z d) hn rfl (fun ls h2 => k ls (qLs.set1 (v := qi (z + d)) hl ho h2))) k
theorem r_iadd {a b : Int} (C : Cx E l own cc nL rt n Ret G) (hd : decode cc pc = .ok (.iadd, 1)) (k : G σ (pc + 1) lv (qi (a + b) :: st)) : G σ pc lv (qi b :: qi a :: st) := C.go (fun _ _ _ _ _ _ _ _ _ _ _ _ _ hx hb _ _ _ k => lv_iadd hx hb hd (by rw [z_add]; exact k)) k
theorem r_isub {a b : Int} (C : Cx E l own cc nL rt n Ret G) (hd : decode cc pc = .ok (.isub, 1)) (k : G σ (pc + 1) lv (qi (a - b) :: st)) : G σ pc lv (qi b :: qi a :: st) := C.go (fun _ _ _ _ _ _ _ _ _ _ _ _ _ hx hb _ _ _ k => lv_isub hx hb hd (by rw [z_sub]; exact k)) k
theorem r_imul {a b : Int} (C : Cx E l own cc nL rt n Ret G) (hd : decode cc pc = .ok (.imul, 1)) (k : G σ (pc + 1) lv (qi (a * b) :: st)) : G σ pc lv (qi b :: qi a :: st) := C.go (fun _ _ _ _ _ _ _ _ _ _ _ _ _ hx hb _ _ _ k => lv_imul hx hb hd (by rw [z_mul]; exact k)) k
theorem r_ladd {a b : Int} (C : Cx E l own cc nL rt n Ret G) (hd : decode cc pc = .ok (.ladd, 1)) (k : G σ (pc + 1) lv (ql (a + b) :: st)) : G σ pc lv (ql b :: ql a :: st) := C.go (fun _ _ _ _ _ _ _ _ _ _ _ _ _ hx hb _ _ _ k => lv_ladd hx hb hd (by rw [zl_add]; exact k)) k
theorem r_iand {a b : Int} (w : Int) (C : Cx E l own cc nL rt n Ret G) (hd : decode cc pc = .ok (.iand, 1)) (hw : Int32.ofInt a &&& Int32.ofInt b = Int32.ofInt w) (k : G σ (pc + 1) lv (qi w :: st)) : G σ pc lv (qi b :: qi a :: st) := C.go (fun _ _ _ _ _ _ _ _ _ _ _ _ _ hx hb _ _ _ k => lv_iand hx hb hd (by rw [hw]; exact k)) k
theorem r_ior {a b : Int} (w : Int) (C : Cx E l own cc nL rt n Ret G) (hd : decode cc pc = .ok (.ior, 1)) (hw : Int32.ofInt a ||| Int32.ofInt b = Int32.ofInt w) (k : G σ (pc + 1) lv (qi w :: st)) : G σ pc lv (qi b :: qi a :: st) := C.go (fun _ _ _ _ _ _ _ _ _ _ _ _ _ hx hb _ _ _ k => lv_ior hx hb hd (by rw [hw]; exact k)) k
theorem r_ixor {a b : Int} (w : Int) (C : Cx E l own cc nL rt n Ret G) (hd : decode cc pc = .ok (.ixor, 1)) (hw : Int32.ofInt a ^^^ Int32.ofInt b = Int32.ofInt w) (k : G σ (pc + 1) lv (qi w :: st)) : G σ pc lv (qi b :: qi a :: st) := C.go (fun _ _ _ _ _ _ _ _ _ _ _ _ _ hx hb _ _ _ k => lv_ixor hx hb hd (by rw [hw]; exact k)) k
theorem r_ishl {a b : Int} (w : Int) (C : Cx E l own cc nL rt n Ret G) (hd : decode cc pc = .ok (.ishl, 1)) (hw : Int32.ofInt a <<< (Int32.ofInt b &&& 31) = Int32.ofInt w) (k : G σ (pc + 1) lv (qi w :: st)) : G σ pc lv (qi b :: qi a :: st) := C.go (fun _ _ _ _ _ _ _ _ _ _ _ _ _ hx hb _ _ _ k => lv_ishl hx hb hd (by rw [hw]; exact k)) k
theorem r_ishr {a b : Int} (w : Int) (C : Cx E l own cc nL rt n Ret G) (hd : decode cc pc = .ok (.ishr, 1)) (hw : Int32.ofInt a >>> (Int32.ofInt b &&& 31) = Int32.ofInt w) (k : G σ (pc + 1) lv (qi w :: st)) : G σ pc lv (qi b :: qi a :: st) := C.go (fun _ _ _ _ _ _ _ _ _ _ _ _ _ hx hb _ _ _ k => lv_ishr hx hb hd (by rw [hw]; exact k)) k
theorem r_iushr {a b : Int} (w : Int) (C : Cx E l own cc nL rt n Ret G) (hd : decode cc pc = .ok (.iushr, 1)) (hw : ((Int32.ofInt a).toUInt32 >>> ((Int32.ofInt b).toUInt32 &&& Int32.toUInt32 31)).toInt32 = Int32.ofInt w) (k : G σ (pc + 1) lv (qi w :: st)) : G σ pc lv (qi b :: qi a :: st) := C.go (fun _ _ _ _ _ _ _ _ _ _ _ _ _ hx hb _ _ _ k => lv_iushr hx hb hd hw k) k
theorem r_land {a b : Int} (w : Int) (C : Cx E l own cc nL rt n Ret G) (hd : decode cc pc = .ok (.land, 1)) (hw : Int64.ofInt a &&& Int64.ofInt b = Int64.ofInt w) (k : G σ (pc + 1) lv (ql w :: st)) : G σ pc lv (ql b :: ql a :: st) := C.go (fun _ _ _ _ _ _ _ _ _ _ _ _ _ hx hb _ _ _ k => lv_land hx hb hd (by rw [hw]; exact k)) k
theorem r_lor {a b : Int} (w : Int) (C : Cx E l own cc nL rt n Ret G) (hd : decode cc pc = .ok (.lor, 1)) (hw : Int64.ofInt a ||| Int64.ofInt b = Int64.ofInt w) (k : G σ (pc + 1) lv (ql w :: st)) : G σ pc lv (ql b :: ql a :: st) := C.go (fun _ _ _ _ _ _ _ _ _ _ _ _ _ hx hb _ _ _ k => lv_lor hx hb hd (by rw [hw]; exact k)) k
theorem r_lxor {a b : Int} (w : Int) (C : Cx E l own cc nL rt n Ret G) (hd : decode cc pc = .ok (.lxor, 1)) (hw : Int64.ofInt a ^^^ Int64.ofInt b = Int64.ofInt w) (k : G σ (pc + 1) lv (ql w :: st)) : G σ pc lv (ql b :: ql a :: st) := C.go (fun _ _ _ _ _ _ _ _ _ _ _ _ _ hx hb _ _ _ k => lv_lxor hx hb hd (by rw [hw]; exact k)) k
theorem r_lshl {a b : Int} (w : Int) (C : Cx E l own cc nL rt n Ret G) (hd : decode cc pc = .ok (.lshl, 1)) (hw : Int64.ofInt a <<< ((Int32.ofInt b).toInt64 &&& 63) = Int64.ofInt w) (k : G σ (pc + 1) lv (ql w :: st)) : G σ pc lv (qi b :: ql a :: st) := C.go (fun _ _ _ _ _ _ _ _ _ _ _ _ _ hx hb _ _ _ k => lv_lshl hx hb hd hw k) k
theorem r_lshr {a b : Int} (w : Int) (C : Cx E l own cc nL rt n Ret G) (hd : decode cc pc = .ok (.lshr, 1)) (hw : Int64.ofInt a >>> ((Int32.ofInt b).toInt64 &&& 63) = Int64.ofInt w) (k : G σ (pc + 1) lv (ql w :: st)) : G σ pc lv (qi b :: ql a :: st) := C.go (fun _ _ _ _ _ _ _ _ _ _ _ _ _ hx hb _ _ _ k => lv_lshr hx hb hd hw k) k
theorem r_i2l {a : Int} (C : Cx E l own cc nL rt n Ret G) (hd : decode cc pc = .ok (.i2l, 1)) (ha : InI a) (k : G σ (pc + 1) lv (ql a :: st)) : G σ pc lv (qi a :: st) := C.go (fun _ _ _ _ _ _ _ _ _ _ _ _ _ hx hb _ _ _ k => lv_i2l hx hb hd (by
  apply Int64.toInt_inj.mp
  rw [Int32.toInt_toInt64, z_toInt ha, zl_toInt (by omega)]) k) k
theorem r_l2i {a : Int} (w : Int) (C : Cx E l own cc nL rt n Ret G) (hd : decode cc pc = .ok (.l2i, 1)) (hw : (Int64.ofInt a).toInt32 = Int32.ofInt w) (k : G σ (pc + 1) lv (qi w :: st)) : G σ pc lv (ql a :: st) := C.go (fun _ _ _ _ _ _ _ _ _ _ _ _ _ hx hb _ _ _ k => lv_l2i hx hb hd hw k) k
theorem r_dup {v : qV} (C : Cx E l own cc nL rt n Ret G) (hd : decode cc pc = .ok (.dup, 1)) (k : G σ (pc + 1) lv (v :: v :: st)) (hv : ∀ z, v ≠ ql z := by intro z h; cases h) : G σ pc lv (v :: st) := C.go (fun _ _ _ _ _ _ _ _ _ _ _ _ _ hx hb _ _ _ k => lv_dup hx hb hd (qv_cat E v hv) k) k
theorem r_pop {v : qV} (C : Cx E l own cc nL rt n Ret G) (hd : decode cc pc = .ok (.pop, 1)) (k : G σ (pc + 1) lv st) (hv : ∀ z, v ≠ ql z := by intro z h; cases h) : G σ pc lv (v :: st) := C.go (fun _ _ _ _ _ _ _ _ _ _ _ _ _ hx hb _ _ _ k => lv_pop hx hb hd (qv_cat E v hv) k) k
theorem r_goto {off : Int} (tgt : Nat) (C : Cx E l own cc nL rt n Ret G) (hd : decode cc pc = .ok (.goto off, 3)) (ht : (pc : Int) + off = (tgt : Int)) (k : G σ tgt lv st) : G σ pc lv st := C.go (fun _ _ _ _ _ _ _ _ _ _ _ _ _ hx hb _ _ _ k => lv_goto hx hb hd ht k) k
theorem r_if_eq {a off : Int} (tgt : Nat) (C : Cx E l own cc nL rt n Ret G) (hd : decode cc pc = .ok (.ifCond .eq off, 3)) (ht : (pc : Int) + off = (tgt : Int)) (ha : InI a) (kt : a = 0 → G σ tgt lv st) (kf : ¬ a = 0 → G σ (pc + 3) lv st) : G σ pc lv (qi a :: st) := C.br (fun _ _ _ _ _ _ _ _ _ _ _ _ _ hx hb kt kf => lv_if_eq hx hb hd ht (fun h => kt ((z_eq ha (by decide : InI 0)).mp h)) (fun h => kf (fun q => h ((z_eq ha (by decide : InI 0)).mpr q)))) kt kf
theorem r_if_ne {a off : Int} (tgt : Nat) (C : Cx E l own cc nL rt n Ret G) (hd : decode cc pc = .ok (.ifCond .ne off, 3)) (ht : (pc : Int) + off = (tgt : Int)) (ha : InI a) (kt : ¬ a = 0 → G σ tgt lv st) (kf : a = 0 → G σ (pc + 3) lv st) : G σ pc lv (qi a :: st) := C.br (fun _ _ _ _ _ _ _ _ _ _ _ _ _ hx hb kt kf => lv_if_ne hx hb hd ht (fun h => kt (fun q => h ((z_eq ha (by decide : InI 0)).mpr q))) (fun h => kf ((z_eq ha (by decide : InI 0)).mp h))) kt kf
theorem r_if_lt {a off : Int} (tgt : Nat) (C : Cx E l own cc nL rt n Ret G) (hd : decode cc pc = .ok (.ifCond .lt off, 3)) (ht : (pc : Int) + off = (tgt : Int)) (ha : InI a) (kt : a < 0 → G σ tgt lv st) (kf : ¬ a < 0 → G σ (pc + 3) lv st) : G σ pc lv (qi a :: st) := C.br (fun _ _ _ _ _ _ _ _ _ _ _ _ _ hx hb kt kf => lv_if_lt hx hb hd ht (fun h => kt ((z_lt ha (by decide : InI 0)).mp h)) (fun h => kf (fun q => h ((z_lt ha (by decide : InI 0)).mpr q)))) kt kf
theorem r_if_ge {a off : Int} (tgt : Nat) (C : Cx E l own cc nL rt n Ret G) (hd : decode cc pc = .ok (.ifCond .ge off, 3)) (ht : (pc : Int) + off = (tgt : Int)) (ha : InI a) (kt : ¬ a < 0 → G σ tgt lv st) (kf : a < 0 → G σ (pc + 3) lv st) : G σ pc lv (qi a :: st) := C.br (fun _ _ _ _ _ _ _ _ _ _ _ _ _ hx hb kt kf => lv_if_ge hx hb hd ht (fun h => kt (by have := (z_le (by decide : InI 0) ha).mp h; omega)) (fun h => kf (by have : ¬ (0 ≤ a) := fun q => h ((z_le (by decide : InI 0) ha).mpr q); omega))) kt kf
theorem r_if_gt {a off : Int} (tgt : Nat) (C : Cx E l own cc nL rt n Ret G) (hd : decode cc pc = .ok (.ifCond .gt off, 3)) (ht : (pc : Int) + off = (tgt : Int)) (ha : InI a) (kt : 0 < a → G σ tgt lv st) (kf : ¬ 0 < a → G σ (pc + 3) lv st) : G σ pc lv (qi a :: st) := C.br (fun _ _ _ _ _ _ _ _ _ _ _ _ _ hx hb kt kf => lv_if_gt hx hb hd ht (fun h => kt ((z_lt (by decide : InI 0) ha).mp h)) (fun h => kf (fun q => h ((z_lt (by decide : InI 0) ha).mpr q)))) kt kf
theorem r_if_le {a off : Int} (tgt : Nat) (C : Cx E l own cc nL rt n Ret G) (hd : decode cc pc = .ok (.ifCond .le off, 3)) (ht : (pc : Int) + off = (tgt : Int)) (ha : InI a) (kt : a ≤ 0 → G σ tgt lv st) (kf : ¬ a ≤ 0 → G σ (pc + 3) lv st) : G σ pc lv (qi a :: st) := C.br (fun _ _ _ _ _ _ _ _ _ _ _ _ _ hx hb kt kf => lv_if_le hx hb hd ht (fun h => kt ((z_le ha (by decide : InI 0)).mp h)) (fun h => kf (fun q => h ((z_le ha (by decide : InI 0)).mpr q)))) kt kf
theorem r_ic_eq {a b off : Int} (tgt : Nat) (C : Cx E l own cc nL rt n Ret G) (hd : decode cc pc = .ok (.if_icmp .eq off, 3)) (ht : (pc : Int) + off = (tgt : Int)) (ha : InI a) (hb' : InI b) (kt : a = b → G σ tgt lv st) (kf : ¬ a = b → G σ (pc + 3) lv st) : G σ pc lv (qi b :: qi a :: st) := C.br (fun _ _ _ _ _ _ _ _ _ _ _ _ _ hx hb kt kf => lv_icmp_eq hx hb hd ht (fun h => kt ((z_eq ha hb').mp h)) (fun h => kf (fun q => h ((z_eq ha hb').mpr q)))) kt kf
theorem r_ic_ne {a b off : Int} (tgt : Nat) (C : Cx E l own cc nL rt n Ret G) (hd : decode cc pc = .ok (.if_icmp .ne off, 3)) (ht : (pc : Int) + off = (tgt : Int)) (ha : InI a) (hb' : InI b) (kt : ¬ a = b → G σ tgt lv st) (kf : a = b → G σ (pc + 3) lv st) : G σ pc lv (qi b :: qi a :: st) := C.br (fun _ _ _ _ _ _ _ _ _ _ _ _ _ hx hb kt kf => lv_icmp_ne hx hb hd ht (fun h => kt (fun q => h ((z_eq ha hb').mpr q))) (fun h => kf ((z_eq ha hb').mp h))) kt kf
theorem r_ic_lt {a b off : Int} (tgt : Nat) (C : Cx E l own cc nL rt n Ret G) (hd : decode cc pc = .ok (.if_icmp .lt off, 3)) (ht : (pc : Int) + off = (tgt : Int)) (ha : InI a) (hb' : InI b) (kt : a < b → G σ tgt lv st) (kf : ¬ a < b → G σ (pc + 3) lv st) : G σ pc lv (qi b :: qi a :: st) := C.br (fun _ _ _ _ _ _ _ _ _ _ _ _ _ hx hb kt kf => lv_icmp_lt hx hb hd ht (fun h => kt ((z_lt ha hb').mp h)) (fun h => kf (fun q => h ((z_lt ha hb').mpr q)))) kt kf
theorem r_ic_ge {a b off : Int} (tgt : Nat) (C : Cx E l own cc nL rt n Ret G) (hd : decode cc pc = .ok (.if_icmp .ge off, 3)) (ht : (pc : Int) + off = (tgt : Int)) (ha : InI a) (hb' : InI b) (kt : ¬ a < b → G σ tgt lv st) (kf : a < b → G σ (pc + 3) lv st) : G σ pc lv (qi b :: qi a :: st) := C.br (fun _ _ _ _ _ _ _ _ _ _ _ _ _ hx hb kt kf => lv_icmp_ge hx hb hd ht (fun h => kt (by have := (z_le hb' ha).mp h; omega)) (fun h => kf (by have : ¬ (b ≤ a) := fun q => h ((z_le hb' ha).mpr q); omega))) kt kf
theorem r_ic_gt {a b off : Int} (tgt : Nat) (C : Cx E l own cc nL rt n Ret G) (hd : decode cc pc = .ok (.if_icmp .gt off, 3)) (ht : (pc : Int) + off = (tgt : Int)) (ha : InI a) (hb' : InI b) (kt : b < a → G σ tgt lv st) (kf : ¬ b < a → G σ (pc + 3) lv st) : G σ pc lv (qi b :: qi a :: st) := C.br (fun _ _ _ _ _ _ _ _ _ _ _ _ _ hx hb kt kf => lv_icmp_gt hx hb hd ht (fun h => kt ((z_lt hb' ha).mp h)) (fun h => kf (fun q => h ((z_lt hb' ha).mpr q)))) kt kf
theorem r_ic_le {a b off : Int} (tgt : Nat) (C : Cx E l own cc nL rt n Ret G) (hd : decode cc pc = .ok (.if_icmp .le off, 3)) (ht : (pc : Int) + off = (tgt : Int)) (ha : InI a) (hb' : InI b) (kt : a ≤ b → G σ tgt lv st) (kf : ¬ a ≤ b → G σ (pc + 3) lv st) : G σ pc lv (qi b :: qi a :: st) := C.br (fun _ _ _ _ _ _ _ _ _ _ _ _ _ hx hb kt kf => lv_icmp_le hx hb hd ht (fun h => kt ((z_le ha hb').mp h)) (fun h => kf (fun q => h ((z_le ha hb').mpr q)))) kt kf
theorem r_tabOut {a dflt lo hi : Int} {offs : Array Int} {len : Nat} (tgt : Nat) (C : Cx E l own cc nL rt n Ret G) (hd : decode cc pc = .ok (.tableswitch dflt lo hi offs, len)) (ht : (pc : Int) + dflt = (tgt : Int)) (ha : InI a) (h : a < lo ∨ hi < a) (k : G σ tgt lv st) : G σ pc lv (qi a :: st) := C.go (fun _ _ _ _ _ _ _ _ _ _ _ _ _ hx hb _ _ _ k => lv_tableOut hx hb hd (by rw [z_toInt ha]; exact h) ht k) k
theorem r_tabIn {a dflt lo hi : Int} {offs : Array Int} {len : Nat} {off : Int} (tgt : Nat) (C : Cx E l own cc nL rt n Ret G) (hd : decode cc pc = .ok (.tableswitch dflt lo hi offs, len)) (ha : InI a) (h1 : ¬ a < lo) (h2 : ¬ hi < a) (ho : offs[(a - lo).toNat]? = some off) (ht : (pc : Int) + off = (tgt : Int)) (k : G σ tgt lv st) : G σ pc lv (qi a :: st) := C.go (fun _ _ _ _ _ _ _ _ _ _ _ _ _ hx hb _ _ _ k => lv_tableIn hx hb hd (by rw [z_toInt ha]; exact h1) (by rw [z_toInt ha]; exact h2) (by rw [z_toInt ha]; exact ho) ht k) k
end
end
section
/-! heap rows -/
def qCls (ci : Nat) (C : String) (T : u_T) (N : Nat) : Prop := clz[ci]? = some (C, T, N) ∧ (∀ w ∈ u_ws C T N, w ∈ qTbl) ∧ (∃ ty0 : Nat → FieldType, ∀ k, k < N → parseFieldDescriptor (T k).2.2.1 = some (ty0 k)) ∧ ∀ a, a < N → ∀ b, b < N → a ≠ b → (T a).2.1 ≠ (T b).2.1
def qFl (own : String) (ix ci j : Nat) : Prop := ∃ (C : String) (T : u_T) (N : Nat), qCls ci C T N ∧ j < N ∧ (T j).1 = C ∧ Cond.fieldLink own ix C (T j).2.1 (T j).2.2.1 ∈ qTbl
def qFw (own : String) (ix ci j : Nat) (ty : FieldType) : Prop := ∃ (C : String) (T : u_T) (N : Nat), qCls ci C T N ∧ j < N ∧ (T j).1 = C ∧ Cond.fieldLink own ix C (T j).2.1 (T j).2.2.1 ∈ qTbl ∧ (T j).2.2.2 = false ∧ parseFieldDescriptor (T j).2.2.1 = some ty
theorem qv_r {E : qE} {k m : Nat} (h : k ≠ 99) : qv E (qr k (m : Int)) = .ref (eo E + qad (eT E) k m) := by simp [qv, h]
theorem q_n99 {E : qE} (hT : qTok (eT E)) {k m : Nat} (h : m < qcn (eT E) k) : k ≠ 99 := by
  rintro rfl
  rw [hT.1] at h
  omega
section
variable {E : qE} {l : Launch} {own : String} {cc : ByteArray} {nL : Nat} {rt : Option FieldType} {n : Nat} {Ret : Option qV → qSt → Prop} {G : qSt → Nat → List (Option qV) → List qV → Prop} {σ : qSt} {pc : Nat} {lv : List (Option qV)} {st : List qV}
theorem r_get_i {ix ci j k c : Nat} {fl : List (Option Nat)} {i : Int} (jz : Int) (C : Cx E l own cc nL rt n Ret G) (hd : decode cc pc = .ok (.getfield ix, 3)) (hf : qFl own ix ci j) (hs : qsh (eT E) k = .inl (ci, fl)) (hj : fl[j]? = some none) (hz : (j : Int) = jz) (hc : qcn (eT E) k = c) (hi : 0 ≤ i ∧ i < c) (kk : G σ (pc + 3) lv (qi (σ k i jz) :: st)) : G σ pc lv (qr k i :: st) := by
  obtain ⟨p, e, s, m, args, below, meth, cd, ws, ⟨hx, hb, hml, ho, hw⟩, hin, hlk, hrt, hT, hK, rfl⟩ := C
  intro H locs ls hP hS hl
  obtain ⟨q, rfl⟩ : ∃ q : Nat, i = q := ⟨i.toNat, by omega⟩
  subst hz
  have hlt : q < qcn (eT E) k := by omega
  have hg := qBlk_get (σ := σ) hT hlt
  have hcell : qCell E σ k q = .inr (ci, qFld E (σ k q) q fl 0) := by unfold qCell; rw [hs]; rfl
  rw [hcell] at hg
  have hv := qFld_i E (σ k q) q fl 0 j hj
  obtain ⟨CC, T, N, ⟨h1, h2, h3, h4⟩, h5, h6, h7⟩ := hf
  simp only [List.map_cons, qv_r (q_n99 hT hlt)]
  refine va_get (D := eD E) (cl := clz) (ci := ci) (C := CC) (T := T) (N := N) (ref := CC) hx hb (fun w h => hw w (hin w h)) h2 ho hK.1 hP _ hg h1 j h5 (hw _ (hin _ h7)) (fun x h => by rw [h6] at h; exact h) hv hd ?_
  have := kk H locs ls hP hS hl
  simpa [qv] using this
theorem r_get_r {ix ci j k c k2 : Nat} {fl : List (Option Nat)} {i : Int} (C : Cx E l own cc nL rt n Ret G) (hd : decode cc pc = .ok (.getfield ix, 3)) (hf : qFl own ix ci j) (hs : qsh (eT E) k = .inl (ci, fl)) (hj : fl[j]? = some (some k2)) (hc : qcn (eT E) k = c) (hi : 0 ≤ i ∧ i < c) (h9 : (k2 == 99) = false) (kk : G σ (pc + 3) lv (qr k2 i :: st)) : G σ pc lv (qr k i :: st) := by
  obtain ⟨p, e, s, m, args, below, meth, cd, ws, ⟨hx, hb, hml, ho, hw⟩, hin, hlk, hrt, hT, hK, rfl⟩ := C
  intro H locs ls hP hS hl
  obtain ⟨q, rfl⟩ : ∃ q : Nat, i = q := ⟨i.toNat, by omega⟩
  have hlt : q < qcn (eT E) k := by omega
  have hg := qBlk_get (σ := σ) hT hlt
  have hcell : qCell E σ k q = .inr (ci, qFld E (σ k q) q fl 0) := by unfold qCell; rw [hs]; rfl
  rw [hcell] at hg
  have hv := qFld_r E (σ k q) q fl 0 j hj
  obtain ⟨CC, T, N, ⟨h1, h2, h3, h4⟩, h5, h6, h7⟩ := hf
  simp only [List.map_cons, qv_r (q_n99 hT hlt)]
  refine va_get (D := eD E) (cl := clz) (ci := ci) (C := CC) (T := T) (N := N) (ref := CC) hx hb (fun w h => hw w (hin w h)) h2 ho hK.1 hP _ hg h1 j h5 (hw _ (hin _ h7)) (fun x h => by rw [h6] at h; exact h) hv hd ?_
  have := kk H locs ls hP hS hl
  simp only [List.map_cons, qv_r (E := E) (k := k2) (m := q) (by simpa using h9)] at this
  exact this
theorem r_put_i {ix ci j k c : Nat} {fl : List (Option Nat)} {i z : Int} {ty : FieldType} (jz : Int) (C : Cx E l own cc nL rt n Ret G) (hd : decode cc pc = .ok (.putfield ix, 3)) (hf : qFw own ix ci j ty) (hs : qsh (eT E) k = .inl (ci, fl)) (hj : fl[j]? = some none) (hz : (j : Int) = jz) (hc : qcn (eT E) k = c) (hi : 0 ≤ i ∧ i < c) (hn : narrow ty (.int (Int32.ofInt z)) = .int (Int32.ofInt z)) (hft : fits ty (.int (Int32.ofInt z)) = true) (kk : G (qUp σ k i jz z) (pc + 3) lv st) : G σ pc lv (qi z :: qr k i :: st) := by
  obtain ⟨p, e, s, m, args, below, meth, cd, ws, ⟨hx, hb, hml, ho, hw⟩, hin, hlk, hrt, hT, hK, rfl⟩ := C
  intro H locs ls hP hS hl
  obtain ⟨q, rfl⟩ : ∃ q : Nat, i = q := ⟨i.toNat, by omega⟩
  subst hz
  have hlt : q < qcn (eT E) k := by omega
  have hg := qBlk_get (σ := σ) hT hlt
  have hcell : ∀ σ : qSt, qCell E σ k q = .inr (ci, qFld E (σ k q) q fl 0) := fun σ => by unfold qCell; rw [hs]; rfl
  rw [hcell] at hg
  obtain ⟨CC, T, N, ⟨h1, h2, ⟨ty0, h3⟩, h4⟩, h5, h6, h7, h8, h9⟩ := hf
  have hjl : j < fl.length := (List.getElem?_eq_some_iff.mp hj).1
  simp only [List.map_cons, qv_r (q_n99 hT hlt)]
  refine va_put (D := eD E) (cl := clz) (ci := ci) (C := CC) (T := T) (N := N) (ref := CC) (A := eA E) hx hb (fun w h => hw w (hin w h)) h2 ty0 h3 h4 ho hK.1 hP (qBlk_D E σ) hS _ hg h1 j h5 (hw _ (hin _ h7)) (fun x h => by rw [h6] at h; exact h) h8 h9 hn hft (by rw [qFld_len]; exact hjl) hd (fun H1 locs1 hP1 _ hS1 => ?_)
  refine kk H1 locs1 ls ?_ hS1 hl
  rw [show qv E (qi z) = Value.int (Int32.ofInt z) from rfl, qFld_set E (σ k q) (qUp σ k q j z k q) q z j (by simp [qUp]) (fun c hc => by simp [qUp, hc]) fl 0 j (by omega) hj, ← hcell (qUp σ k q j z)] at hP1
  rwa [qBlk_set hT hlt (fun a b hab c => by simp only [qUp]; rw [if_neg]; rintro ⟨e1, e2, -⟩; exact hab ⟨e1, by exact_mod_cast e2⟩)] at hP1
theorem r_iald {k c N x : Nat} {i z : Int} (C : Cx E l own cc nL rt n Ret G) (hd : decode cc pc = .ok (.iaload, 1)) (hs : qsh (eT E) k = .inr (N, 0, x)) (hc : qcn (eT E) k = c) (hi : 0 ≤ i ∧ i < c) (hz : 0 ≤ z ∧ z < N) (kk : G σ (pc + 1) lv (qi (σ k i z) :: st)) (hN : N < 2147483648 := by decide) : G σ pc lv (qi z :: qr k i :: st) := by
  obtain ⟨p, e, s, m, args, below, meth, cd, ws, ⟨hx, hb, hml, ho, hw⟩, hin, hlk, hrt, hT, hK, rfl⟩ := C
  intro H locs ls hP hS hl
  obtain ⟨q, rfl⟩ : ∃ q : Nat, i = q := ⟨i.toNat, by omega⟩
  have hlt : q < qcn (eT E) k := by omega
  have hg := qBlk_get (σ := σ) hT hlt
  have hcell : qCell E σ k q = .inl (eca E 0, N, .inl fun j => Int32.ofInt (σ k q j)) := by unfold qCell; rw [hs]; rfl
  rw [hcell] at hg
  simp only [List.map_cons, qv_r (q_n99 hT hlt)]
  refine va_iald (D := eD E) (cl := clz) hx hb hK.1 hP _ 0 hg rfl (z_in hz.1 hz.2 hN) hd ?_
  have := kk H locs ls hP hS hl
  rw [z_nat hz.1 (by omega), Int.toNat_of_nonneg hz.1]
  exact this
theorem r_iast {k c N x : Nat} {i z w : Int} (C : Cx E l own cc nL rt n Ret G) (hd : decode cc pc = .ok (.iastore, 1)) (hs : qsh (eT E) k = .inr (N, 0, x)) (hc : qcn (eT E) k = c) (hi : 0 ≤ i ∧ i < c) (hz : 0 ≤ z ∧ z < N) (kk : G (qUp σ k i z w) (pc + 1) lv st) (hN : N < 2147483648 := by decide) : G σ pc lv (qi w :: qi z :: qr k i :: st) := by
  obtain ⟨p, e, s, m, args, below, meth, cd, ws, ⟨hx, hb, hml, ho, hw⟩, hin, hlk, hrt, hT, hK, rfl⟩ := C
  intro H locs ls hP hS hl
  obtain ⟨q, rfl⟩ : ∃ q : Nat, i = q := ⟨i.toNat, by omega⟩
  have hlt : q < qcn (eT E) k := by omega
  have hg := qBlk_get (σ := σ) hT hlt
  have hcell : ∀ σ : qSt, qCell E σ k q = .inl (eca E 0, N, .inl fun j => Int32.ofInt (σ k q j)) := fun σ => by unfold qCell; rw [hs]; rfl
  rw [hcell] at hg
  simp only [List.map_cons, qv_r (q_n99 hT hlt)]
  refine va_iast (D := eD E) (cl := clz) (A := eA E) hx hb hK.1 hP (qBlk_D E σ) hS _ 0 hg rfl (z_in hz.1 hz.2 hN) hd (fun H1 locs1 hP1 _ hS1 => ?_)
  refine kk H1 locs1 ls ?_ hS1 hl
  have e1 : upd (fun j : Nat => Int32.ofInt (σ k q j)) (Int32.ofInt z).toNatClampNeg (Int32.ofInt w) = fun j : Nat => Int32.ofInt (qUp σ k q z w k q j) := by
    funext j
    rw [z_nat hz.1 (by omega)]
    by_cases hj : j = z.toNat
    · have h2 : (j : Int) = z := by omega
      simp [upd, hj, qUp, Int.toNat_of_nonneg hz.1]
    · have h2 : ¬ (j : Int) = z := by omega
      simp [upd, hj, qUp, h2]
  rw [e1, ← hcell (qUp σ k q z w)] at hP1
  rwa [qBlk_set hT hlt (fun a b hab c => by simp only [qUp]; rw [if_neg]; rintro ⟨e1, e2, -⟩; exact hab ⟨e1, by exact_mod_cast e2⟩)] at hP1
theorem r_lald {k c N x : Nat} {i z : Int} (C : Cx E l own cc nL rt n Ret G) (hd : decode cc pc = .ok (.laload, 1)) (hs : qsh (eT E) k = .inr (N, 1, x)) (hc : qcn (eT E) k = c) (hi : 0 ≤ i ∧ i < c) (hz : 0 ≤ z ∧ z < N) (kk : G σ (pc + 1) lv (ql (σ k i z) :: st)) (hN : N < 2147483648 := by decide) : G σ pc lv (qi z :: qr k i :: st) := by
  obtain ⟨p, e, s, m, args, below, meth, cd, ws, ⟨hx, hb, hml, ho, hw⟩, hin, hlk, hrt, hT, hK, rfl⟩ := C
  intro H locs ls hP hS hl
  obtain ⟨q, rfl⟩ : ∃ q : Nat, i = q := ⟨i.toNat, by omega⟩
  have hlt : q < qcn (eT E) k := by omega
  have hg := qBlk_get (σ := σ) hT hlt
  have hcell : qCell E σ k q = .inl (eca E 1, N, .inr (.inl fun j => Int64.ofInt (σ k q j))) := by unfold qCell; rw [hs]; rfl
  rw [hcell] at hg
  simp only [List.map_cons, qv_r (q_n99 hT hlt)]
  refine va_lald (D := eD E) (cl := clz) hx hb hK.1 hP _ 1 hg rfl (z_in hz.1 hz.2 hN) hd ?_
  have := kk H locs ls hP hS hl
  rw [z_nat hz.1 (by omega), Int.toNat_of_nonneg hz.1]
  exact this
theorem r_last {k c N x : Nat} {i z w : Int} (C : Cx E l own cc nL rt n Ret G) (hd : decode cc pc = .ok (.lastore, 1)) (hs : qsh (eT E) k = .inr (N, 1, x)) (hc : qcn (eT E) k = c) (hi : 0 ≤ i ∧ i < c) (hz : 0 ≤ z ∧ z < N) (kk : G (qUp σ k i z w) (pc + 1) lv st) (hN : N < 2147483648 := by decide) : G σ pc lv (ql w :: qi z :: qr k i :: st) := by
  obtain ⟨p, e, s, m, args, below, meth, cd, ws, ⟨hx, hb, hml, ho, hw⟩, hin, hlk, hrt, hT, hK, rfl⟩ := C
  intro H locs ls hP hS hl
  obtain ⟨q, rfl⟩ : ∃ q : Nat, i = q := ⟨i.toNat, by omega⟩
  have hlt : q < qcn (eT E) k := by omega
  have hg := qBlk_get (σ := σ) hT hlt
  have hcell : ∀ σ : qSt, qCell E σ k q = .inl (eca E 1, N, .inr (.inl fun j => Int64.ofInt (σ k q j))) := fun σ => by unfold qCell; rw [hs]; rfl
  rw [hcell] at hg
  simp only [List.map_cons, qv_r (q_n99 hT hlt)]
  refine va_last (D := eD E) (cl := clz) (A := eA E) hx hb hK.1 hP (qBlk_D E σ) hS _ 1 hg rfl (z_in hz.1 hz.2 hN) hd (fun H1 locs1 hP1 _ hS1 => ?_)
  refine kk H1 locs1 ls ?_ hS1 hl
  have e1 : vp_updL (fun j : Nat => Int64.ofInt (σ k q j)) (Int32.ofInt z).toNatClampNeg (Int64.ofInt w) = fun j : Nat => Int64.ofInt (qUp σ k q z w k q j) := by
    funext j
    rw [z_nat hz.1 (by omega)]
    by_cases hj : j = z.toNat
    · have h2 : (j : Int) = z := by omega
      simp [vp_updL, hj, qUp, Int.toNat_of_nonneg hz.1]
    · have h2 : ¬ (j : Int) = z := by omega
      simp [vp_updL, hj, qUp, h2]
  rw [e1, ← hcell (qUp σ k q z w)] at hP1
  rwa [qBlk_set hT hlt (fun a b hab c => by simp only [qUp]; rw [if_neg]; rintro ⟨e1, e2, -⟩; exact hab ⟨e1, by exact_mod_cast e2⟩)] at hP1
theorem q_ty {ca : Nat → ClassId} {ek : Nat} (h : ek < 5) : ∃ ty, (qTys ca)[ek + 2]? = some (ca (ek + 2), ty) ∧ refKind ty = true := by
  rcases (by omega : ek = 0 ∨ ek = 1 ∨ ek = 2 ∨ ek = 3 ∨ ek = 4) with rfl | rfl | rfl | rfl | rfl
  · exact ⟨_, rfl, rfl⟩
  · exact ⟨_, rfl, rfl⟩
  · exact ⟨_, rfl, rfl⟩
  · exact ⟨_, rfl, rfl⟩
  · exact ⟨_, rfl, rfl⟩
theorem r_aald {k c N ek tk : Nat} {i z : Int} (C : Cx E l own cc nL rt n Ret G) (hd : decode cc pc = .ok (.aaload, 1)) (hs : qsh (eT E) k = .inr (N, ek + 2, tk)) (hek : ek < 5) (hc : qcn (eT E) k = c) (hi : 0 ≤ i ∧ i < c) (hz : 0 ≤ z ∧ z < N) (h9 : (tk == 99) = false) (kk : G σ (pc + 1) lv (qr tk z :: st)) (hN : N < 2147483648 := by decide) : G σ pc lv (qi z :: qr k i :: st) := by
  obtain ⟨p, e, s, m, args, below, meth, cd, ws, ⟨hx, hb, hml, ho, hw⟩, hin, hlk, hrt, hT, hK, rfl⟩ := C
  intro H locs ls hP hS hl
  obtain ⟨q, rfl⟩ : ∃ q : Nat, i = q := ⟨i.toNat, by omega⟩
  have hlt : q < qcn (eT E) k := by omega
  have hg := qBlk_get (σ := σ) hT hlt
  have hcell : qCell E σ k q = .inl (eca E (ek + 2), N, .inr (.inr (.inr (.inr fun j => some (eo E + qad (eT E) tk j))))) := by unfold qCell; rw [hs]; rfl
  rw [hcell] at hg
  obtain ⟨ty, ht, hrk⟩ := q_ty (ca := eca E) hek
  simp only [List.map_cons, qv_r (q_n99 hT hlt)]
  have hzn : (Int32.ofInt z).toNatClampNeg = z.toNat := z_nat hz.1 (by omega)
  refine W.aald (v := .ref (eo E + qad (eT E) tk z.toNat)) (ty := ty) hx hb (hP _ _ hg) ((hK.1.2 _ _ ht).1 N (fun j => va_rf (some (eo E + qad (eT E) tk j)))) hrk (fun q => by cases q) (by show ¬ (Int32.ofInt z < 0 ∨ (arrV _ _ _).slots.size ≤ _); rw [arrV_size]; exact z_in hz.1 hz.2 hN) (by show (arrV _ _ _).slots[_]? = _; rw [arrV_read _ _ (show (Int32.ofInt z).toNatClampNeg < N by rw [hzn]; omega), hzn]; rfl) rfl rfl hd ?_
  have := kk H locs ls hP hS hl
  obtain ⟨q2, rfl⟩ : ∃ q : Nat, z = q := ⟨z.toNat, by omega⟩
  simp only [List.map_cons, qv_r (E := E) (k := tk) (m := q2) (by simpa using h9)] at this
  exact this
theorem r_getst (C : Cx E l RX9 cc nL rt n Ret G) (hd : decode cc pc = .ok (.getstatic 37, 3)) (kk : G σ (pc + 3) lv (qr 99 0 :: st)) : G σ pc lv st := by
  obtain ⟨p, e, s, m, args, below, meth, cd, ws, ⟨hx, hb, hml, ho, hw⟩, hin, hlk, hrt, hT, hK, rfl⟩ := C
  intro H locs ls hP hS hl
  refine va_getsN hx hb hK.2.1 hS ho (va_Nw.use rfl hK.2.2.2) (fun x h => h) hd ?_
  exact kk H locs ls hP hS hl
theorem r_uald {z v : Int} (C : Cx E l own cc nL rt n Ret G) (hd : decode cc pc = .ok (.iaload, 1)) (hz : 0 ≤ z ∧ z < 4) (hv : v = if z = 0 then -1 else if z = 3 then 1 else 0) (kk : G σ (pc + 1) lv (qi v :: st)) : G σ pc lv (qi z :: qr 99 0 :: st) := by
  obtain ⟨p, e, s, m, args, below, meth, cd, ws, ⟨hx, hb, hml, ho, hw⟩, hin, hlk, hrt, hT, hK, rfl⟩ := C
  intro H locs ls hP hS hl
  subst hv
  refine va_ti hx hb hK.2.2.1 hS (z_in hz.1 (by omega) (by decide)) (v := qv E (qi (if z = 0 then -1 else if z = 3 then 1 else 0))) ?_ hd (kk H locs ls hP hS hl)
  rw [z_nat hz.1 (by omega)]
  rcases (by omega : z = 0 ∨ z = 1 ∨ z = 2 ∨ z = 3) with rfl | rfl | rfl | rfl <;> rfl
/-! ends -/
theorem r_iret {z : Int} (C : Cx E l own cc nL (some .int) n Ret G) (hd : decode cc pc = .ok (.ireturn, 1)) (h : Ret (some (qi z)) σ) : G σ pc lv [qi z] := by
  obtain ⟨p, e, s, m, args, below, meth, cd, ws, ⟨hx, hb, hml, ho, hw⟩, hin, hlk, hrt, hT, hK, rfl⟩ := C
  intro H locs ls hP hS hl
  exact W.iret hx hb hrt (fun t ht hW => ⟨⟨some (qi z), σ, rfl, h, by rw [ht]; exact hP⟩, hS.F ht⟩) hS.2.2 hd
theorem r_zret {z : Int} (C : Cx E l own cc nL (some .boolean) n Ret G) (hd : decode cc pc = .ok (.ireturn, 1)) (hz : z = 0 ∨ z = 1) (h : Ret (some (qi z)) σ) : G σ pc lv [qi z] := by
  obtain ⟨p, e, s, m, args, below, meth, cd, ws, ⟨hx, hb, hml, ho, hw⟩, hin, hlk, hrt, hT, hK, rfl⟩ := C
  intro H locs ls hP hS hl
  exact W.zret hx hb hrt (by rcases hz with rfl | rfl <;> rfl) (fun t ht hW => ⟨⟨some (qi z), σ, rfl, h, by rw [ht]; exact hP⟩, hS.F ht⟩) hS.2.2 hd
theorem r_vret (C : Cx E l own cc nL none n Ret G) (hd : decode cc pc = .ok (.return_, 1)) (h : Ret none σ) : G σ pc lv [] := by
  obtain ⟨p, e, s, m, args, below, meth, cd, ws, ⟨hx, hb, hml, ho, hw⟩, hin, hlk, hrt, hT, hK, rfl⟩ := C
  intro H locs ls hP hS hl
  exact W.vret hx hb hrt (fun t ht hW => ⟨⟨none, σ, rfl, h, by rw [ht]; exact hP⟩, hS.F ht⟩) hS.2.2 hd
theorem r_aret {D : String} {k : Nat} {i : Int} (C : Cx E l own cc nL (some (.object D)) n Ret G) (hd : decode cc pc = .ok (.areturn, 1)) (h : Ret (some (qr k i)) σ) : G σ pc lv [qr k i] := by
  obtain ⟨p, e, s, m, args, below, meth, cd, ws, ⟨hx, hb, hml, ho, hw⟩, hin, hlk, hrt, hT, hK, rfl⟩ := C
  intro H locs ls hP hS hl
  exact W.aret hx hb hrt (Or.inl ⟨_, rfl⟩) (Or.inr (qv_ref E k i)) (fun t ht hW => ⟨⟨some (qr k i), σ, rfl, h, by rw [ht]; exact hP⟩, hS.F ht⟩) hS.2.2 hd
end
end
section
/-! calls -/
theorem q_goodIn {ws ws2 : List Cond} (hin : ∀ w ∈ qTbl, w ∈ ws) (h2 : ∀ w ∈ ws2, w ∈ qTbl) : GoodIn ws ws2 := fun w hw => ⟨hin w (h2 w hw), good_of_word (List.mem_filter.mp (h2 w hw)).2⟩
/-- a call of y from own by the pool's entry ix: an instance method, chosen by its own class -/
def qMv (own : String) (ix : Nat) (y : MethodName) (b : ByteArray) (nL : Nat) (rt : Option FieldType) (ar : Nat) : Prop := Cond.methodLink own ix y ∈ qTbl ∧ Cond.instanceMethod y ∈ qTbl ∧ Cond.selects y.cls y y ∈ qTbl ∧ Cond.initialized y.cls ∈ qTbl ∧ Cond.code y b nL rt ∈ qTbl ∧ y.cls ≠ "java/lang/invoke/MethodHandle" ∧ y.cls ≠ "java/lang/invoke/VarHandle" ∧ (parseMethodDescriptor y.desc).map (fun d => d.parameters.length) = some ar ∧ nL ≤ 21
def qMs (own : String) (ix : Nat) (y : MethodName) (b : ByteArray) (nL : Nat) (rt : Option FieldType) (ar : Nat) : Prop := Cond.methodLink own ix y ∈ qTbl ∧ Cond.static y ∈ qTbl ∧ Cond.initialized y.cls ∈ qTbl ∧ Cond.code y b nL rt ∈ qTbl ∧ y.cls ≠ "java/lang/invoke/MethodHandle" ∧ y.cls ≠ "java/lang/invoke/VarHandle" ∧ (parseMethodDescriptor y.desc).map (fun d => d.parameters.length) = some ar ∧ nL ≤ 21
theorem qPc_blind (E : qE) (av : List qV) (σ : qSt) : FrameBlind (qPc E av σ) := fun a U g mk h => ⟨h.1, qWok.same (u := U) (U := U.calling g mk a) rfl h.2.1, h.2.2⟩
theorem qWok.at {E : qE} {s U : State} {H : Heap} {locs : List Loc} (h : qWok E s s.heap) (hS : va_S (eA E) s.heap H locs) (hU : U.heap = H) (hW : s.WarmedH U.vm) : qWok E U U.heap := by
  rw [hU]
  exact (h.kept (fun a h1 h2 => hS.2.1 a h1 h2)).warm hW
theorem q_map_toList (E : qE) (r : Option qV) : (r.map (qv E)).toList = r.toList.map (qv E) := by cases r <;> rfl
section
variable {p : Program} {l : Launch} {e : Env} {R : Room} {s : State} {m : MethodId} {args : Array Value} {below : List Frame} {meth : Method} {c : Code} {H : Heap} {locs : List Loc} {Q : State → Prop} {pc : Nat} {ls : Array Slot} {rest st0 : List Value} {a : Array Value}
theorem q_call {E : qE} {Ret : Option qV → qSt → Prop} (hr : va_Run p l e R s m args below meth c H locs 0 0 0 0 (F0 m pc ls st0) rest (qQc E Ret a) (eA E)) (hS : va_S (eA E) s.heap H locs)
    (kk : ∀ (r : Option qV) (σ' : qSt) (H1 : Heap) (locs1 : List Loc), Ret r σ' → va_P (eD E) clz (qBlk E σ') H1 → va_S (eA E) s.heap H1 locs1 → W p l e R s m args below meth c H1 locs1 0 0 Q (F0 m (pc + 3) ls ((r.map (qv E)).toList ++ rest))) : W p l e R s m args below meth c H locs 0 0 Q (F0 m pc ls st0) := by
  intro T hT X
  obtain ⟨v, st₀, t, T', L, h0, X', hL, e1, e2, ⟨⟨r, σ', hv, hp, hb⟩, hz, hk⟩, st⟩ := hr T hT X
  cases hv
  rw [h0] at hz hk
  obtain ⟨t2, a1, b1⟩ := kk r σ' T'.heap (locs ++ L) hp (by rw [e1]; exact hb)
    ⟨Nat.le_trans hS.1 (by rw [e1]; exact hz), fun q h1 h2 => by rw [e1, hk q (Nat.lt_of_lt_of_le h1 hS.1) h2]; exact hS.2.1 q h1 h2, fun q hq => by
      rcases List.mem_append.mp hq with h | h
      · exact hS.2.2 q h
      · exact hL q h⟩ T' rfl X'
  exact ⟨t2, st t2 a1, b1⟩
end
section
variable {E : qE} {l : Launch} {own : String} {cc : ByteArray} {nL : Nat} {rt : Option FieldType} {n : Nat} {Ret : Option qV → qSt → Prop} {G : qSt → Nat → List (Option qV) → List qV → Prop} {σ : qSt} {pc : Nat} {lv : List (Option qV)} {st : List qV}
theorem r_callV {ix ar k c ci N2 nL2 n2 : Nat} {fl : List (Option Nat)} {i : Int} {y : MethodName} {b : ByteArray} {rt2 : Option FieldType} {As stv : List qV} {Ret2 : Option qV → qSt → Prop} {C2 : String} {T2 : u_T} (C : Cx E l own cc nL rt n Ret G) (hd : decode cc pc = .ok (.invokevirtual ix, 3)) (hm : qMv own ix y b nL2 rt2 ar) (M : CM E l y b nL2 rt2 n2 (qr k i :: As) σ Ret2) (hn : n2 < n) (hs : qsh (eT E) k = .inl (ci, fl)) (hcl : clz[ci]? = some (C2, T2, N2)) (hy : C2 = y.cls) (hc : qcn (eT E) k = c) (hi : 0 ≤ i ∧ i < c) (hst : stv = As.reverse ++ qr k i :: st) (har : As.length = ar) (hW : ((st.map (qv E)).map fun v => v.category).sum ≤ 8) (kk : ∀ (r : Option qV) (σ' : qSt), Ret2 r σ' → G σ' (pc + 3) lv (r.toList ++ st)) : G σ pc lv stv := by
  obtain ⟨p, e, s, m, args, below, meth, cd, ws, ⟨hx, hb, hml, ho, hw⟩, hin, hlk, hrt, hT, hK, rfl⟩ := C
  intro H locs ls hP hS hl
  subst hst
  subst hy
  obtain ⟨q, rfl⟩ : ∃ q : Nat, i = q := ⟨i.toNat, by omega⟩
  have hlt : q < qcn (eT E) k := by omega
  have hg := qBlk_get (σ := σ) hT hlt
  have hcell : qCell E σ k q = .inr (ci, qFld E (σ k q) q fl 0) := by unfold qCell; rw [hs]; rfl
  rw [hcell] at hg
  obtain ⟨m1, m2, m3, m4, m5, m6, m7, m8, m9⟩ := hm
  have hts : ∀ w ∈ qTbl, w.before args s = true := fun w h => hw w (hin w h)
  have hR : (qRm n2).frames + 1 ≤ (qRm n).frames ∧ 8 + (nL2 + 11) + (qRm n2).locals ≤ (qRm n).locals := by simp only [qRm]; omega
  have hws : ∀ w ∈ (Cond.code y b nL2 rt2 :: qTbl), w ∈ qTbl := fun w h => by
    rcases List.mem_cons.mp h with rfl | h
    · exact m5
    · exact h
  have hrun := va_runV (p := p) (e := e) (m := m) (args := args) (below := below) (meth := meth) (c := cd) (locs := locs) (R := qRm n) (cells := 0) (slots := 0) (As := As.map (qv E)) (rest := st.map (qv E)) (g := F0 m pc ls ((As.reverse ++ qr k q :: st).map (qv E))) (b := eo E + qad (eT E) k q) (C := y.cls) (n := ar) (H := H) (s := s) ⟨hx, hb, hml, ho, hw⟩ M
    ⟨callB_of ar hw (q_goodIn hin hws) rfl rfl rfl (hts _ m4) (hts _ m1) ⟨m6, m7, m8⟩ hR, hts _ m2, hts _ m3⟩
    ⟨qPc_blind E _ σ, va_recv hK.1 hP hcl hg, fun U hU hWU => ⟨by simp [qv_r (q_n99 hT hlt)], hK.at hS hU hWU, by rw [hU]; exact hP⟩⟩
    rfl (by simpa using har) hl.1 (by simp [qv_r (q_n99 hT hlt)]) (lv_room hW) hd ⟨Nat.zero_le _, Nat.zero_le _⟩
  refine q_call hrun hS (fun r σ' H1 locs1 h1 h2 h3 => ?_)
  have := kk r σ' h1 H1 locs1 ls h2 h3 hl
  rw [q_map_toList, ← List.map_append]
  exact this
theorem r_callS {ix ar nL2 n2 : Nat} {y : MethodName} {b : ByteArray} {rt2 : Option FieldType} {As stv : List qV} {Ret2 : Option qV → qSt → Prop} (C : Cx E l own cc nL rt n Ret G) (hd : decode cc pc = .ok (.invokestatic ix, 3)) (hm : qMs own ix y b nL2 rt2 ar) (M : CM E l y b nL2 rt2 n2 As σ Ret2) (hn : n2 < n) (hst : stv = As.reverse ++ st) (har : As.length = ar) (hW : ((st.map (qv E)).map fun v => v.category).sum ≤ 8) (kk : ∀ (r : Option qV) (σ' : qSt), Ret2 r σ' → G σ' (pc + 3) lv (r.toList ++ st)) : G σ pc lv stv := by
  obtain ⟨p, e, s, m, args, below, meth, cd, ws, ⟨hx, hb, hml, ho, hw⟩, hin, hlk, hrt, hT, hK, rfl⟩ := C
  intro H locs ls hP hS hl
  subst hst
  obtain ⟨m1, m2, m4, m5, m6, m7, m8, m9⟩ := hm
  have hts : ∀ w ∈ qTbl, w.before args s = true := fun w h => hw w (hin w h)
  have hR : (qRm n2).frames + 1 ≤ (qRm n).frames ∧ 8 + (nL2 + 11) + (qRm n2).locals ≤ (qRm n).locals := by simp only [qRm]; omega
  have hws : ∀ w ∈ (Cond.code y b nL2 rt2 :: qTbl), w ∈ qTbl := fun w h => by
    rcases List.mem_cons.mp h with rfl | h
    · exact m5
    · exact h
  have hrun := va_runS (p := p) (e := e) (m := m) (args := args) (below := below) (meth := meth) (c := cd) (locs := locs) (R := qRm n) (cells := 0) (slots := 0) (As := As.map (qv E)) (rest := st.map (qv E)) (g := F0 m pc ls ((As.reverse ++ st).map (qv E))) (n := ar) (H := H) (s := s) ⟨hx, hb, hml, ho, hw⟩ M
    ⟨callB_of ar hw (q_goodIn hin hws) rfl rfl rfl (hts _ m4) (hts _ m1) ⟨m6, m7, m8⟩ hR, hts _ m2⟩
    ⟨qPc_blind E _ σ, fun U hU hWU => ⟨rfl, hK.at hS hU hWU, by rw [hU]; exact hP⟩⟩
    rfl (by simpa using har) hl.1 (by simp) (lv_room hW) hd ⟨Nat.zero_le _, Nat.zero_le _⟩
  refine q_call hrun hS (fun r σ' H1 locs1 h1 h2 h3 => ?_)
  have := kk r σ' h1 H1 locs1 ls h2 h3 hl
  rw [q_map_toList, ← List.map_append]
  exact this
/-- locals at the entry -/
def qEnt : List qV → List (Option qV)
  | [] => []
  | .inr (.inl z) :: r => some (ql z) :: none :: qEnt r
  | v :: r => some v :: qEnt r
theorem qEnt_as (E : qE) : ∀ (av : List qV) (b k : Nat), qAs E (qEnt av ++ List.replicate k none) b = lv_args b (av.map (qv E))
  | [], b, k => by
    have : ∀ (k b : Nat), qAs E (List.replicate k none) b = [] := by
      intro k
      induction k with
      | zero => intro b; rfl
      | succ k ih => intro b; simp [List.replicate_succ, qAs, ih]
    simp [qEnt, lv_args, this]
  | .inl z :: r, b, k => by
    simp only [qEnt, List.cons_append, qAs, List.map_cons, lv_args]
    rw [qEnt_as E r, if_neg (by simp [qv, Value.category])]
  | .inr (.inl z) :: r, b, k => by
    simp only [qEnt, List.cons_append, qAs, List.map_cons, lv_args]
    rw [qEnt_as E r, if_pos (by simp [qv, Value.category])]
  | .inr (.inr (q, i)) :: r, b, k => by
    simp only [qEnt, List.cons_append, qAs, List.map_cons, lv_args]
    rw [qEnt_as E r, if_neg (by rw [qv_cat E (qr q i) (by intro z h; cases h)]; omega)]
theorem qEnt_len (E : qE) : ∀ av : List qV, (lg_sl (av.map (qv E))).length = (qEnt av).length
  | [] => rfl
  | .inl z :: r => by
    have := qEnt_len E r
    simp [lg_sl, qEnt, qv, Value.category] at this ⊢
    omega
  | .inr (.inl z) :: r => by
    have := qEnt_len E r
    simp [lg_sl, qEnt, qv, Value.category] at this ⊢
    omega
  | .inr (.inr (q, i)) :: r => by
    have := qEnt_len E r
    obtain ⟨x, hx⟩ := qv_ref E q i
    simp only [lg_sl] at this
    simp only [lg_sl, qEnt, List.map_cons, List.flatMap_cons, hx, List.length_append, List.length_cons, this]
    simp [Value.category]
    omega
theorem CM.mk {y : MethodName} {b : ByteArray} {av : List qV} (hT : qTok (eT E)) (hy : plainName y.cls = true) (hl : (qEnt av).length ≤ nL) (h : ∀ G, Cx E l y.cls b nL rt n Ret G → G σ 0 (qEnt av ++ List.replicate (nL - (qEnt av).length) none) []) : CM E l y b nL rt n av σ Ret := by
  refine Met.ofW (cc := b) (maxL := nL) (ret := rt) hy rfl ?_
  intro p e s m args below meth c s₁ B hml hv
  obtain ⟨rfl, hwok, hP⟩ := hv
  rw [lg_entry_eq, qEnt_len]
  refine h _ ⟨p, e, s, m, _, below, meth, c, _, ⟨B.exec, B.bytes, hml, findClass_of_methodNamed B.named, atoms_spec B.pre⟩, fun w hw => List.mem_cons_of_mem _ hw, B.notSynchronized, B.returns, hT, hwok, rfl⟩ s.heap [] _ hP va_S.rf ?_
  unfold qLs
  rw [qEnt_as]
  have := lv_entry (av.map (qv E)) (n := nL) (by rw [qEnt_len]; exact hl)
  rw [qEnt_len] at this
  exact this
def qCpy (σ : qSt) (k1 : Nat) (i1 sp : Int) (k2 : Nat) (i2 dp m : Int) : qSt := fun a b c => if a = k2 ∧ b = i2 ∧ dp ≤ c ∧ c < dp + m then σ k1 i1 (sp + (c - dp)) else σ a b c
theorem r_acopy {ix k1 k2 c1 c2 N1 N2 x1 x2 : Nat} {i1 i2 sp dp m : Int} (C : Cx E l own cc nL rt n Ret G) (hd : decode cc pc = .ok (.invokestatic ix, 3)) (hm : Cond.methodLink own ix arraycopyName ∈ qTbl) (hs1 : qsh (eT E) k1 = .inr (N1, 0, x1)) (hc1 : qcn (eT E) k1 = c1) (hi1 : 0 ≤ i1 ∧ i1 < c1) (hs2 : qsh (eT E) k2 = .inr (N2, 0, x2)) (hc2 : qcn (eT E) k2 = c2) (hi2 : 0 ≤ i2 ∧ i2 < c2) (h1 : 0 ≤ sp) (h2 : 0 ≤ dp) (h3 : 0 ≤ m) (h4 : sp + m ≤ N1) (h5 : dp + m ≤ N2) (hn : 1 ≤ n) (hW : ((st.map (qv E)).map fun v => v.category).sum ≤ 8) (kk : G (qCpy σ k1 i1 sp k2 i2 dp m) (pc + 3) lv st) (hN1 : N1 < 2147483648 := by decide) (hN2 : N2 < 2147483648 := by decide) (hnat : Cond.native arraycopyName ∈ qTbl) (hst : Cond.static arraycopyName ∈ qTbl) (hini : Cond.initialized "java/lang/System" ∈ qTbl) : G σ pc lv (qi m :: qi dp :: qr k2 i2 :: qi sp :: qr k1 i1 :: st) := by
  obtain ⟨p, e, s, mm, args, below, meth, cd, ws, ⟨hx, hb, hml, ho, hw⟩, hin, hlk, hrt, hT, hK, rfl⟩ := C
  intro H locs ls hP hS hl
  obtain ⟨q1, rfl⟩ : ∃ q : Nat, i1 = q := ⟨i1.toNat, by omega⟩
  obtain ⟨q2, rfl⟩ : ∃ q : Nat, i2 = q := ⟨i2.toNat, by omega⟩
  have hlt1 : q1 < qcn (eT E) k1 := by omega
  have hlt2 : q2 < qcn (eT E) k2 := by omega
  have hg1 := qBlk_get (σ := σ) hT hlt1
  have hg2 := qBlk_get (σ := σ) hT hlt2
  have hcell : ∀ (σ : qSt) (k q N x : Nat), qsh (eT E) k = .inr (N, 0, x) → qCell E σ k q = .inl (eca E 0, N, .inl fun j => Int32.ofInt (σ k q j)) := fun σ k q N x h => by unfold qCell; rw [h]; rfl
  rw [hcell σ k1 q1 N1 x1 hs1] at hg1
  rw [hcell σ k2 q2 N2 x2 hs2] at hg2
  simp only [List.map_cons, qv_r (q_n99 hT hlt1), qv_r (q_n99 hT hlt2)]
  have nn : ∀ z : Int, 0 ≤ z → z < 2147483648 → ¬ Int32.ofInt z < 0 := fun z a b => by rw [z_0, z_lt ⟨by omega, b⟩ (by decide)]; omega
  have e1 : (Int32.ofInt sp).toNatClampNeg = sp.toNat := z_nat h1 (by omega)
  have e2 : (Int32.ofInt dp).toNatClampNeg = dp.toNat := z_nat h2 (by omega)
  have e3 : (Int32.ofInt m).toNatClampNeg = m.toNat := z_nat h3 (by omega)
  refine va_copyi (D := eD E) (cl := clz) (A := eA E) (ty := .int) hx hb (by rw [hml]; exact hl.1.symm) ho (hw _ (hin _ hm)) (hw _ (hin _ hnat)) (hw _ (hin _ hst)) (hw _ (hin _ hini)) hK.1 hP (qBlk_D E σ) hS _ _ 0 0 hg1 hg2 rfl rfl rfl (nn sp h1 (by omega)) (nn dp h2 (by omega)) (nn m h3 (by omega)) (by rw [e1, e3]; omega) (by rw [e2, e3]; omega) (fun _ _ => rfl) hn ?_ hd (fun H1 locs1 hP1 _ hS1 => ?_)
  · have : nativeFrameWords "java/lang/System" "arraycopy" 5 + 11 ≤ 32 := by decide
    have h8 : ((st.map (qv E)).map fun v => v.category).sum ≤ 8 := hW
    show _ ≤ 40 * n
    omega
  · refine kk H1 locs1 ls ?_ hS1 hl
    rw [e1, e2, e3] at hP1
    have e4 : va_cpy (fun j : Nat => Int32.ofInt (σ k1 q1 j)) (fun j : Nat => Int32.ofInt (σ k2 q2 j)) sp.toNat dp.toNat m.toNat = fun j : Nat => Int32.ofInt (qCpy σ k1 q1 sp k2 q2 dp m k2 q2 j) := by
      funext j
      by_cases hj : dp ≤ (j : Int) ∧ (j : Int) < dp + m
      · have hj2 : dp.toNat ≤ j ∧ j < dp.toNat + m.toNat := by omega
        simp only [va_cpy, qCpy, hj2, hj, and_self, if_true]
        congr 2
        omega
      · have hj2 : ¬ (dp.toNat ≤ j ∧ j < dp.toNat + m.toNat) := by omega
        simp only [va_cpy, qCpy, if_neg hj2]
        rw [if_neg (by rintro ⟨_, _, h⟩; exact hj h)]
    rw [e4, ← hcell (qCpy σ k1 q1 sp k2 q2 dp m) k2 q2 N2 x2 hs2] at hP1
    rwa [qBlk_set hT hlt2 (fun a b hab c => by simp only [qCpy]; rw [if_neg]; rintro ⟨e1, e2, -⟩; exact hab ⟨e1, by exact_mod_cast e2⟩)] at hP1
theorem CM.weaken {y : MethodName} {b : ByteArray} {av : List qV} {Ret2 : Option qV → qSt → Prop} (h : CM E l y b nL rt n av σ Ret) (hR : ∀ r σ', Ret r σ' → Ret2 r σ') : CM E l y b nL rt n av σ Ret2 := by
  have key : ∀ (a : Array Value) (st : State) (o : Outcome) (t : State), qQc E Ret a st o t → qQc E Ret2 a st o t := by
    rintro a st o t ⟨⟨r, σ', h1, h2, h3⟩, h4⟩
    exact ⟨⟨r, σ', h1, hR r σ' h2, h3⟩, h4⟩
  unfold CM Met at h ⊢
  intro p e a1 a2 a3 s m args below a4 a5 a6 a7
  obtain ⟨k, o, b1, b2, b3, b4, b5⟩ := h p e a1 a2 a3 s m args below a4 a5 a6 a7
  exact ⟨k, o, b1, b2, b3, key _ _ _ _ b4, b5⟩
end
end
section
/-! the blocks of the class and of the reference, by kinds -/
def tD_cn (k : Nat) : Nat := if k = 25 then 9 else if 26 ≤ k ∧ k < 34 then 0 else if k = 40 ∨ k = 41 then 20 else if 42 ≤ k ∧ k < 80 then 0 else if k = 81 ∨ k = 82 then 12 else if 83 ≤ k ∧ k < 105 then 0 else if 105 ≤ k ∧ k < 110 then 20 else if 110 ≤ k ∧ k < 205 then 0 else if k = 205 ∨ k = 206 then 4 else if 207 ≤ k then 0 else 1
def tD_st (k : Nat) : Nat := if k = 25 then 1 else if 40 ≤ k ∧ k < 105 then 2 else if 105 ≤ k ∧ k < 205 then 5 else 2
def tD_kd (q : Nat) : Nat × Nat := if 25 ≤ q ∧ q < 34 then (25, q - 25) else if 40 ≤ q ∧ q < 80 then (40 + (q - 40) % 2, (q - 40) / 2) else if 81 ≤ q ∧ q < 105 then (81 + (q - 81) % 2, (q - 81) / 2) else if 105 ≤ q ∧ q < 205 then (105 + (q - 105) % 5, (q - 105) / 5) else if 205 ≤ q then (205 + (q - 205) % 2, (q - 205) / 2) else (q, 0)
def tD_sh (k : Nat) : qShp := match k with
  | 0 => .inl (10, [some 1, some 2, some 3, some 4, some 10, some 15, some 23, some 36, some 38, some 80, none, none, none])
  | 1 => .inr (12, 2, 81)
  | 2 => .inr (20, 3, 105)
  | 3 => .inr (4, 4, 205)
  | 4 => .inl (4, [some 5, some 6, some 7, some 8, some 9, none])
  | 5 => .inr (32, 0, 0)
  | 6 => .inr (40, 0, 0)
  | 7 => .inr (40, 0, 0)
  | 8 => .inr (40, 0, 0)
  | 9 => .inr (40, 0, 0)
  | 10 => .inl (1, [some 11, some 12, some 13, some 14, none])
  | 11 => .inr (6, 0, 0)
  | 12 => .inr (8, 0, 0)
  | 13 => .inr (4, 0, 0)
  | 14 => .inr (7, 0, 0)
  | 15 => .inl (7, [some 16, some 17, some 18, some 19, some 20, some 21, some 22, none, none, none, none])
  | 16 => .inr (7, 0, 0)
  | 17 => .inr (7, 0, 0)
  | 18 => .inr (7, 0, 0)
  | 19 => .inr (7, 0, 0)
  | 20 => .inr (4, 0, 0)
  | 21 => .inr (4, 0, 0)
  | 22 => .inr (7, 0, 0)
  | 23 => .inl (2, [some 24, some 34, some 35, none, none])
  | 24 => .inr (9, 6, 25)
  | 25 => .inr (25, 0, 0)
  | 34 => .inr (8, 0, 0)
  | 35 => .inr (8, 0, 0)
  | 36 => .inl (6, [some 37])
  | 37 => .inr (25, 0, 0)
  | 38 => .inl (3, [some 39, none, none])
  | 39 => .inr (20, 5, 40)
  | 40 => .inl (0, [some 41, none, none, none, none])
  | 41 => .inr (24, 0, 0)
  | 80 => .inr (24, 0, 0)
  | 81 => .inl (5, [some 82, none, none])
  | 82 => .inr (24, 0, 0)
  | 105 => .inl (9, [some 106, some 107, some 108, some 109, none, none, none, none])
  | 106 => .inr (8, 0, 0)
  | 107 => .inr (8, 0, 0)
  | 108 => .inr (8, 0, 0)
  | 109 => .inr (8, 0, 0)
  | 205 => .inl (8, [some 206, none, none])
  | _ => .inr (30, 0, 0)
def tD : qT := (213, tD_kd, fun k i => k + tD_st k * i, tD_cn, tD_sh)
theorem tD_ok : qTok tD := by
  refine ⟨rfl, fun k i hi => ?_, fun q hq => ?_⟩
  · have h : ∀ k, k < 207 → ∀ i, i < tD_cn k → k + tD_st k * i < 213 ∧ tD_kd (k + tD_st k * i) = (k, i) := by decide +kernel
    by_cases hk : k < 207
    · exact h k hk i hi
    · have : tD_cn k = 0 := by
        unfold tD_cn
        simp only [show ¬ k = 25 by omega, show ¬ (26 ≤ k ∧ k < 34) by omega, show ¬ (k = 40 ∨ k = 41) by omega, show ¬ (42 ≤ k ∧ k < 80) by omega, show ¬ (k = 81 ∨ k = 82) by omega, show ¬ (83 ≤ k ∧ k < 105) by omega, show ¬ (105 ≤ k ∧ k < 110) by omega, show ¬ (110 ≤ k ∧ k < 205) by omega, show ¬ (k = 205 ∨ k = 206) by omega, show 207 ≤ k by omega, if_false, if_true]
      have h2 : i < tD_cn k := hi
      omega
  · have h : ∀ q, q < 213 → (tD_kd q).1 + tD_st (tD_kd q).1 * (tD_kd q).2 = q := by decide +kernel
    exact h q hq
def tM_sh (k : Nat) : qShp := match k with
  | 0 => .inl (11, [some 1, some 2, some 3, some 4, none, none, some 5, some 6, some 7, some 8, some 9, some 10, none, some 11, some 12, some 13, none, none, none, some 14, some 15])
  | 1 => .inr (365, 0, 0)
  | 2 => .inr (12, 1, 0)
  | 3 => .inr (7300, 0, 0)
  | 4 => .inr (240, 1, 0)
  | 5 => .inr (4, 0, 0)
  | 6 => .inr (4, 0, 0)
  | 7 => .inr (120, 0, 0)
  | 8 => .inr (225, 0, 0)
  | 9 => .inr (8, 0, 0)
  | 10 => .inr (8, 0, 0)
  | 11 => .inr (7, 0, 0)
  | 12 => .inr (7, 0, 0)
  | 13 => .inr (7, 0, 0)
  | 14 => .inr (625, 0, 0)
  | _ => .inr (30, 0, 0)
def tM : qT := (16, fun q => (q, 0), fun k _ => k, fun k => if k < 16 then 1 else 0, tM_sh)
theorem tM_ok : qTok tM := by
  refine ⟨rfl, fun k i hi => ?_, fun q hq => rfl⟩
  have h : i < (if k < 16 then 1 else 0) := hi
  split at h
  · exact ⟨by assumption, by show (k, 0) = (k, i); congr 1; omega⟩
  · omega
abbrev qR : Type := Nat × Nat × va_G × (Nat → ClassId)
abbrev ED (e : qR) : qE := (tD, e)
abbrev EM (e : qR) : qE := (tM, e)
/-! classes, links, constants -/
theorem qc_0 : qCls 0 RX0 TX0 5 := ⟨rfl, fun w hw => List.mem_filter.mpr ⟨(show ∀ w ∈ u_ws RX0 TX0 5, w ∈ lw_tbl by decide +kernel) w hw, (show ∀ w ∈ u_ws RX0 TX0 5, goodWord w = true by decide +kernel) w hw⟩, ⟨tyX0, tyX0_ok⟩, nmX0⟩
theorem qc_1 : qCls 1 RX1 TX1 5 := ⟨rfl, fun w hw => List.mem_filter.mpr ⟨(show ∀ w ∈ u_ws RX1 TX1 5, w ∈ lw_tbl by decide +kernel) w hw, (show ∀ w ∈ u_ws RX1 TX1 5, goodWord w = true by decide +kernel) w hw⟩, ⟨tyX1, tyX1_ok⟩, nmX1⟩
theorem qc_2 : qCls 2 RX2 TX2 5 := ⟨rfl, fun w hw => List.mem_filter.mpr ⟨(show ∀ w ∈ u_ws RX2 TX2 5, w ∈ lw_tbl by decide +kernel) w hw, (show ∀ w ∈ u_ws RX2 TX2 5, goodWord w = true by decide +kernel) w hw⟩, ⟨tyX2, tyX2_ok⟩, nmX2⟩
theorem qc_3 : qCls 3 RX3 TX3 3 := ⟨rfl, fun w hw => List.mem_filter.mpr ⟨(show ∀ w ∈ u_ws RX3 TX3 3, w ∈ lw_tbl by decide +kernel) w hw, (show ∀ w ∈ u_ws RX3 TX3 3, goodWord w = true by decide +kernel) w hw⟩, ⟨tyX3, tyX3_ok⟩, nmX3⟩
theorem qc_4 : qCls 4 RX4 TX4 6 := ⟨rfl, fun w hw => List.mem_filter.mpr ⟨(show ∀ w ∈ u_ws RX4 TX4 6, w ∈ lw_tbl by decide +kernel) w hw, (show ∀ w ∈ u_ws RX4 TX4 6, goodWord w = true by decide +kernel) w hw⟩, ⟨tyX4, tyX4_ok⟩, nmX4⟩
theorem qc_5 : qCls 5 RX5 TX5 3 := ⟨rfl, fun w hw => List.mem_filter.mpr ⟨(show ∀ w ∈ u_ws RX5 TX5 3, w ∈ lw_tbl by decide +kernel) w hw, (show ∀ w ∈ u_ws RX5 TX5 3, goodWord w = true by decide +kernel) w hw⟩, ⟨tyX5, tyX5_ok⟩, nmX5⟩
theorem qc_6 : qCls 6 RX6 TX6 1 := ⟨rfl, fun w hw => List.mem_filter.mpr ⟨(show ∀ w ∈ u_ws RX6 TX6 1, w ∈ lw_tbl by decide +kernel) w hw, (show ∀ w ∈ u_ws RX6 TX6 1, goodWord w = true by decide +kernel) w hw⟩, ⟨tyX6, tyX6_ok⟩, nmX6⟩
theorem qc_7 : qCls 7 RX7 TX7 11 := ⟨rfl, fun w hw => List.mem_filter.mpr ⟨(show ∀ w ∈ u_ws RX7 TX7 11, w ∈ lw_tbl by decide +kernel) w hw, (show ∀ w ∈ u_ws RX7 TX7 11, goodWord w = true by decide +kernel) w hw⟩, ⟨tyX7, tyX7_ok⟩, nmX7⟩
theorem qc_8 : qCls 8 RX8 TX8 3 := ⟨rfl, fun w hw => List.mem_filter.mpr ⟨(show ∀ w ∈ u_ws RX8 TX8 3, w ∈ lw_tbl by decide +kernel) w hw, (show ∀ w ∈ u_ws RX8 TX8 3, goodWord w = true by decide +kernel) w hw⟩, ⟨tyX8, tyX8_ok⟩, nmX8⟩
theorem qc_9 : qCls 9 RX9 TX9 8 := ⟨rfl, fun w hw => List.mem_filter.mpr ⟨(show ∀ w ∈ u_ws RX9 TX9 8, w ∈ lw_tbl by decide +kernel) w hw, (show ∀ w ∈ u_ws RX9 TX9 8, goodWord w = true by decide +kernel) w hw⟩, ⟨tyX9, tyX9_ok⟩, nmX9⟩
theorem qc_10 : qCls 10 RX10 TX10 13 := ⟨rfl, fun w hw => List.mem_filter.mpr ⟨(show ∀ w ∈ u_ws RX10 TX10 13, w ∈ lw_tbl by decide +kernel) w hw, (show ∀ w ∈ u_ws RX10 TX10 13, goodWord w = true by decide +kernel) w hw⟩, ⟨tyX10, tyX10_ok⟩, nmX10⟩
theorem qc_11 : qCls 11 RX11 TX11 21 := ⟨rfl, fun w hw => List.mem_filter.mpr ⟨(show ∀ w ∈ u_ws RX11 TX11 21, w ∈ lw_tbl by decide +kernel) w hw, (show ∀ w ∈ u_ws RX11 TX11 21, goodWord w = true by decide +kernel) w hw⟩, ⟨tyX11, tyX11_ok⟩, nmX11⟩
theorem fl_X4_9 : qFl RX4 9 4 0 := ⟨_, _, _, qc_4, by decide, rfl, qin 79 (by decide +kernel) rfl⟩
theorem fl_X10_175 : qFl RX10 175 4 0 := ⟨_, _, _, qc_4, by decide, rfl, qin 80 (by decide +kernel) rfl⟩
theorem fl_X4_15 : qFl RX4 15 4 1 := ⟨_, _, _, qc_4, by decide, rfl, qin 81 (by decide +kernel) rfl⟩
theorem fl_X4_18 : qFl RX4 18 4 2 := ⟨_, _, _, qc_4, by decide, rfl, qin 82 (by decide +kernel) rfl⟩
theorem fl_X4_21 : qFl RX4 21 4 3 := ⟨_, _, _, qc_4, by decide, rfl, qin 83 (by decide +kernel) rfl⟩
theorem fl_X4_24 : qFl RX4 24 4 4 := ⟨_, _, _, qc_4, by decide, rfl, qin 84 (by decide +kernel) rfl⟩
theorem fl_X4_27 : qFl RX4 27 4 5 := ⟨_, _, _, qc_4, by decide, rfl, qin 85 (by decide +kernel) rfl⟩
theorem fw_X4_27 : qFw RX4 27 4 5 .int := ⟨_, _, _, qc_4, by decide, rfl, qin 85 (by decide +kernel) rfl, rfl, by decide +kernel⟩
theorem fl_X10_178 : qFl RX10 178 4 5 := ⟨_, _, _, qc_4, by decide, rfl, qin 86 (by decide +kernel) rfl⟩
theorem fw_X10_178 : qFw RX10 178 4 5 .int := ⟨_, _, _, qc_4, by decide, rfl, qin 86 (by decide +kernel) rfl, rfl, by decide +kernel⟩
theorem fl_X1_9 : qFl RX1 9 1 0 := ⟨_, _, _, qc_1, by decide, rfl, qin 107 (by decide +kernel) rfl⟩
theorem fl_X10_200 : qFl RX10 200 1 0 := ⟨_, _, _, qc_1, by decide, rfl, qin 108 (by decide +kernel) rfl⟩
theorem fl_X1_15 : qFl RX1 15 1 1 := ⟨_, _, _, qc_1, by decide, rfl, qin 109 (by decide +kernel) rfl⟩
theorem fl_X10_203 : qFl RX10 203 1 1 := ⟨_, _, _, qc_1, by decide, rfl, qin 110 (by decide +kernel) rfl⟩
theorem fl_X1_18 : qFl RX1 18 1 2 := ⟨_, _, _, qc_1, by decide, rfl, qin 111 (by decide +kernel) rfl⟩
theorem fl_X7_74 : qFl RX7 74 1 2 := ⟨_, _, _, qc_1, by decide, rfl, qin 112 (by decide +kernel) rfl⟩
theorem fl_X10_206 : qFl RX10 206 1 2 := ⟨_, _, _, qc_1, by decide, rfl, qin 113 (by decide +kernel) rfl⟩
theorem fl_X1_21 : qFl RX1 21 1 3 := ⟨_, _, _, qc_1, by decide, rfl, qin 114 (by decide +kernel) rfl⟩
theorem fl_X7_66 : qFl RX7 66 1 3 := ⟨_, _, _, qc_1, by decide, rfl, qin 115 (by decide +kernel) rfl⟩
theorem fl_X10_215 : qFl RX10 215 1 3 := ⟨_, _, _, qc_1, by decide, rfl, qin 116 (by decide +kernel) rfl⟩
theorem fl_X1_24 : qFl RX1 24 1 4 := ⟨_, _, _, qc_1, by decide, rfl, qin 117 (by decide +kernel) rfl⟩
theorem fw_X1_24 : qFw RX1 24 1 4 .int := ⟨_, _, _, qc_1, by decide, rfl, qin 117 (by decide +kernel) rfl, rfl, by decide +kernel⟩
theorem fl_X7_55 : qFl RX7 55 1 4 := ⟨_, _, _, qc_1, by decide, rfl, qin 118 (by decide +kernel) rfl⟩
theorem fw_X7_55 : qFw RX7 55 1 4 .int := ⟨_, _, _, qc_1, by decide, rfl, qin 118 (by decide +kernel) rfl, rfl, by decide +kernel⟩
theorem fl_X10_209 : qFl RX10 209 1 4 := ⟨_, _, _, qc_1, by decide, rfl, qin 119 (by decide +kernel) rfl⟩
theorem fw_X10_209 : qFw RX10 209 1 4 .int := ⟨_, _, _, qc_1, by decide, rfl, qin 119 (by decide +kernel) rfl, rfl, by decide +kernel⟩
theorem fl_X7_9 : qFl RX7 9 7 0 := ⟨_, _, _, qc_7, by decide, rfl, qin 137 (by decide +kernel) rfl⟩
theorem fl_X7_15 : qFl RX7 15 7 1 := ⟨_, _, _, qc_7, by decide, rfl, qin 138 (by decide +kernel) rfl⟩
theorem fl_X7_18 : qFl RX7 18 7 2 := ⟨_, _, _, qc_7, by decide, rfl, qin 139 (by decide +kernel) rfl⟩
theorem fl_X7_21 : qFl RX7 21 7 3 := ⟨_, _, _, qc_7, by decide, rfl, qin 140 (by decide +kernel) rfl⟩
theorem fl_X7_24 : qFl RX7 24 7 4 := ⟨_, _, _, qc_7, by decide, rfl, qin 141 (by decide +kernel) rfl⟩
theorem fl_X7_27 : qFl RX7 27 7 5 := ⟨_, _, _, qc_7, by decide, rfl, qin 142 (by decide +kernel) rfl⟩
theorem fl_X7_30 : qFl RX7 30 7 6 := ⟨_, _, _, qc_7, by decide, rfl, qin 143 (by decide +kernel) rfl⟩
theorem fl_X10_228 : qFl RX10 228 7 6 := ⟨_, _, _, qc_7, by decide, rfl, qin 144 (by decide +kernel) rfl⟩
theorem fl_X7_33 : qFl RX7 33 7 7 := ⟨_, _, _, qc_7, by decide, rfl, qin 145 (by decide +kernel) rfl⟩
theorem fw_X7_33 : qFw RX7 33 7 7 .int := ⟨_, _, _, qc_7, by decide, rfl, qin 145 (by decide +kernel) rfl, rfl, by decide +kernel⟩
theorem fl_X10_225 : qFl RX10 225 7 7 := ⟨_, _, _, qc_7, by decide, rfl, qin 146 (by decide +kernel) rfl⟩
theorem fw_X10_225 : qFw RX10 225 7 7 .int := ⟨_, _, _, qc_7, by decide, rfl, qin 146 (by decide +kernel) rfl, rfl, by decide +kernel⟩
theorem fl_X7_37 : qFl RX7 37 7 8 := ⟨_, _, _, qc_7, by decide, rfl, qin 147 (by decide +kernel) rfl⟩
theorem fw_X7_37 : qFw RX7 37 7 8 .int := ⟨_, _, _, qc_7, by decide, rfl, qin 147 (by decide +kernel) rfl, rfl, by decide +kernel⟩
theorem fl_X10_222 : qFl RX10 222 7 8 := ⟨_, _, _, qc_7, by decide, rfl, qin 148 (by decide +kernel) rfl⟩
theorem fw_X10_222 : qFw RX10 222 7 8 .int := ⟨_, _, _, qc_7, by decide, rfl, qin 148 (by decide +kernel) rfl, rfl, by decide +kernel⟩
theorem fl_X7_40 : qFl RX7 40 7 9 := ⟨_, _, _, qc_7, by decide, rfl, qin 149 (by decide +kernel) rfl⟩
theorem fw_X7_40 : qFw RX7 40 7 9 .boolean := ⟨_, _, _, qc_7, by decide, rfl, qin 149 (by decide +kernel) rfl, rfl, by decide +kernel⟩
theorem fl_X10_279 : qFl RX10 279 7 9 := ⟨_, _, _, qc_7, by decide, rfl, qin 150 (by decide +kernel) rfl⟩
theorem fw_X10_279 : qFw RX10 279 7 9 .boolean := ⟨_, _, _, qc_7, by decide, rfl, qin 150 (by decide +kernel) rfl, rfl, by decide +kernel⟩
theorem fl_X7_44 : qFl RX7 44 7 10 := ⟨_, _, _, qc_7, by decide, rfl, qin 151 (by decide +kernel) rfl⟩
theorem fw_X7_44 : qFw RX7 44 7 10 .int := ⟨_, _, _, qc_7, by decide, rfl, qin 151 (by decide +kernel) rfl, rfl, by decide +kernel⟩
theorem fl_X2_11 : qFl RX2 11 2 0 := ⟨_, _, _, qc_2, by decide, rfl, qin 183 (by decide +kernel) rfl⟩
theorem fl_X2_16 : qFl RX2 16 2 1 := ⟨_, _, _, qc_2, by decide, rfl, qin 184 (by decide +kernel) rfl⟩
theorem fl_X10_166 : qFl RX10 166 2 1 := ⟨_, _, _, qc_2, by decide, rfl, qin 185 (by decide +kernel) rfl⟩
theorem fl_X2_20 : qFl RX2 20 2 2 := ⟨_, _, _, qc_2, by decide, rfl, qin 186 (by decide +kernel) rfl⟩
theorem fl_X10_163 : qFl RX10 163 2 2 := ⟨_, _, _, qc_2, by decide, rfl, qin 187 (by decide +kernel) rfl⟩
theorem fl_X2_23 : qFl RX2 23 2 3 := ⟨_, _, _, qc_2, by decide, rfl, qin 188 (by decide +kernel) rfl⟩
theorem fw_X2_23 : qFw RX2 23 2 3 .int := ⟨_, _, _, qc_2, by decide, rfl, qin 188 (by decide +kernel) rfl, rfl, by decide +kernel⟩
theorem fl_X10_160 : qFl RX10 160 2 3 := ⟨_, _, _, qc_2, by decide, rfl, qin 189 (by decide +kernel) rfl⟩
theorem fw_X10_160 : qFw RX10 160 2 3 .int := ⟨_, _, _, qc_2, by decide, rfl, qin 189 (by decide +kernel) rfl, rfl, by decide +kernel⟩
theorem fl_X2_27 : qFl RX2 27 2 4 := ⟨_, _, _, qc_2, by decide, rfl, qin 190 (by decide +kernel) rfl⟩
theorem fw_X2_27 : qFw RX2 27 2 4 .int := ⟨_, _, _, qc_2, by decide, rfl, qin 190 (by decide +kernel) rfl, rfl, by decide +kernel⟩
theorem fl_X6_9 : qFl RX6 9 6 0 := ⟨_, _, _, qc_6, by decide, rfl, qin 208 (by decide +kernel) rfl⟩
theorem fl_X0_9 : qFl RX0 9 0 0 := ⟨_, _, _, qc_0, by decide, rfl, qin 225 (by decide +kernel) rfl⟩
theorem fl_X10_305 : qFl RX10 305 0 0 := ⟨_, _, _, qc_0, by decide, rfl, qin 226 (by decide +kernel) rfl⟩
theorem fl_X0_15 : qFl RX0 15 0 1 := ⟨_, _, _, qc_0, by decide, rfl, qin 227 (by decide +kernel) rfl⟩
theorem fw_X0_15 : qFw RX0 15 0 1 .int := ⟨_, _, _, qc_0, by decide, rfl, qin 227 (by decide +kernel) rfl, rfl, by decide +kernel⟩
theorem fl_X10_308 : qFl RX10 308 0 1 := ⟨_, _, _, qc_0, by decide, rfl, qin 228 (by decide +kernel) rfl⟩
theorem fw_X10_308 : qFw RX10 308 0 1 .int := ⟨_, _, _, qc_0, by decide, rfl, qin 228 (by decide +kernel) rfl, rfl, by decide +kernel⟩
theorem fl_X0_19 : qFl RX0 19 0 2 := ⟨_, _, _, qc_0, by decide, rfl, qin 229 (by decide +kernel) rfl⟩
theorem fw_X0_19 : qFw RX0 19 0 2 .int := ⟨_, _, _, qc_0, by decide, rfl, qin 229 (by decide +kernel) rfl, rfl, by decide +kernel⟩
theorem fl_X3_25 : qFl RX3 25 0 2 := ⟨_, _, _, qc_0, by decide, rfl, qin 230 (by decide +kernel) rfl⟩
theorem fw_X3_25 : qFw RX3 25 0 2 .int := ⟨_, _, _, qc_0, by decide, rfl, qin 230 (by decide +kernel) rfl, rfl, by decide +kernel⟩
theorem fl_X10_283 : qFl RX10 283 0 2 := ⟨_, _, _, qc_0, by decide, rfl, qin 231 (by decide +kernel) rfl⟩
theorem fw_X10_283 : qFw RX10 283 0 2 .int := ⟨_, _, _, qc_0, by decide, rfl, qin 231 (by decide +kernel) rfl, rfl, by decide +kernel⟩
theorem fl_X0_22 : qFl RX0 22 0 3 := ⟨_, _, _, qc_0, by decide, rfl, qin 232 (by decide +kernel) rfl⟩
theorem fw_X0_22 : qFw RX0 22 0 3 .int := ⟨_, _, _, qc_0, by decide, rfl, qin 232 (by decide +kernel) rfl, rfl, by decide +kernel⟩
theorem fl_X3_28 : qFl RX3 28 0 3 := ⟨_, _, _, qc_0, by decide, rfl, qin 233 (by decide +kernel) rfl⟩
theorem fw_X3_28 : qFw RX3 28 0 3 .int := ⟨_, _, _, qc_0, by decide, rfl, qin 233 (by decide +kernel) rfl, rfl, by decide +kernel⟩
theorem fl_X10_299 : qFl RX10 299 0 3 := ⟨_, _, _, qc_0, by decide, rfl, qin 234 (by decide +kernel) rfl⟩
theorem fw_X10_299 : qFw RX10 299 0 3 .int := ⟨_, _, _, qc_0, by decide, rfl, qin 234 (by decide +kernel) rfl, rfl, by decide +kernel⟩
theorem fl_X0_25 : qFl RX0 25 0 4 := ⟨_, _, _, qc_0, by decide, rfl, qin 235 (by decide +kernel) rfl⟩
theorem fw_X0_25 : qFw RX0 25 0 4 .int := ⟨_, _, _, qc_0, by decide, rfl, qin 235 (by decide +kernel) rfl, rfl, by decide +kernel⟩
theorem fl_X3_31 : qFl RX3 31 0 4 := ⟨_, _, _, qc_0, by decide, rfl, qin 236 (by decide +kernel) rfl⟩
theorem fw_X3_31 : qFw RX3 31 0 4 .int := ⟨_, _, _, qc_0, by decide, rfl, qin 236 (by decide +kernel) rfl, rfl, by decide +kernel⟩
theorem fl_X10_311 : qFl RX10 311 0 4 := ⟨_, _, _, qc_0, by decide, rfl, qin 237 (by decide +kernel) rfl⟩
theorem fw_X10_311 : qFw RX10 311 0 4 .int := ⟨_, _, _, qc_0, by decide, rfl, qin 237 (by decide +kernel) rfl, rfl, by decide +kernel⟩
theorem fl_X3_11 : qFl RX3 11 3 0 := ⟨_, _, _, qc_3, by decide, rfl, qin 249 (by decide +kernel) rfl⟩
theorem fl_X3_17 : qFl RX3 17 3 1 := ⟨_, _, _, qc_3, by decide, rfl, qin 250 (by decide +kernel) rfl⟩
theorem fw_X3_17 : qFw RX3 17 3 1 .int := ⟨_, _, _, qc_3, by decide, rfl, qin 250 (by decide +kernel) rfl, rfl, by decide +kernel⟩
theorem fl_X3_21 : qFl RX3 21 3 2 := ⟨_, _, _, qc_3, by decide, rfl, qin 251 (by decide +kernel) rfl⟩
theorem fw_X3_21 : qFw RX3 21 3 2 .int := ⟨_, _, _, qc_3, by decide, rfl, qin 251 (by decide +kernel) rfl, rfl, by decide +kernel⟩
theorem fl_X10_272 : qFl RX10 272 3 2 := ⟨_, _, _, qc_3, by decide, rfl, qin 252 (by decide +kernel) rfl⟩
theorem fw_X10_272 : qFw RX10 272 3 2 .int := ⟨_, _, _, qc_3, by decide, rfl, qin 252 (by decide +kernel) rfl, rfl, by decide +kernel⟩
theorem fl_X5_9 : qFl RX5 9 5 0 := ⟨_, _, _, qc_5, by decide, rfl, qin 265 (by decide +kernel) rfl⟩
theorem fl_X0_28 : qFl RX0 28 5 0 := ⟨_, _, _, qc_5, by decide, rfl, qin 266 (by decide +kernel) rfl⟩
theorem fl_X10_111 : qFl RX10 111 5 0 := ⟨_, _, _, qc_5, by decide, rfl, qin 267 (by decide +kernel) rfl⟩
theorem fl_X2_51 : qFl RX2 51 5 0 := ⟨_, _, _, qc_5, by decide, rfl, qin 268 (by decide +kernel) rfl⟩
theorem fl_X5_15 : qFl RX5 15 5 1 := ⟨_, _, _, qc_5, by decide, rfl, qin 269 (by decide +kernel) rfl⟩
theorem fw_X5_15 : qFw RX5 15 5 1 .int := ⟨_, _, _, qc_5, by decide, rfl, qin 269 (by decide +kernel) rfl, rfl, by decide +kernel⟩
theorem fl_X1_28 : qFl RX1 28 5 1 := ⟨_, _, _, qc_5, by decide, rfl, qin 270 (by decide +kernel) rfl⟩
theorem fw_X1_28 : qFw RX1 28 5 1 .int := ⟨_, _, _, qc_5, by decide, rfl, qin 270 (by decide +kernel) rfl, rfl, by decide +kernel⟩
theorem fl_X10_151 : qFl RX10 151 5 1 := ⟨_, _, _, qc_5, by decide, rfl, qin 271 (by decide +kernel) rfl⟩
theorem fw_X10_151 : qFw RX10 151 5 1 .int := ⟨_, _, _, qc_5, by decide, rfl, qin 271 (by decide +kernel) rfl, rfl, by decide +kernel⟩
theorem fl_X5_19 : qFl RX5 19 5 2 := ⟨_, _, _, qc_5, by decide, rfl, qin 272 (by decide +kernel) rfl⟩
theorem fw_X5_19 : qFw RX5 19 5 2 .int := ⟨_, _, _, qc_5, by decide, rfl, qin 272 (by decide +kernel) rfl, rfl, by decide +kernel⟩
theorem fl_X0_33 : qFl RX0 33 5 2 := ⟨_, _, _, qc_5, by decide, rfl, qin 273 (by decide +kernel) rfl⟩
theorem fw_X0_33 : qFw RX0 33 5 2 .int := ⟨_, _, _, qc_5, by decide, rfl, qin 273 (by decide +kernel) rfl, rfl, by decide +kernel⟩
theorem fl_X10_108 : qFl RX10 108 5 2 := ⟨_, _, _, qc_5, by decide, rfl, qin 274 (by decide +kernel) rfl⟩
theorem fw_X10_108 : qFw RX10 108 5 2 .int := ⟨_, _, _, qc_5, by decide, rfl, qin 274 (by decide +kernel) rfl, rfl, by decide +kernel⟩
theorem fl_X2_46 : qFl RX2 46 5 2 := ⟨_, _, _, qc_5, by decide, rfl, qin 275 (by decide +kernel) rfl⟩
theorem fw_X2_46 : qFw RX2 46 5 2 .int := ⟨_, _, _, qc_5, by decide, rfl, qin 275 (by decide +kernel) rfl, rfl, by decide +kernel⟩
theorem fl_X9_9 : qFl RX9 9 9 0 := ⟨_, _, _, qc_9, by decide, rfl, qin 288 (by decide +kernel) rfl⟩
theorem fl_X0_47 : qFl RX0 47 9 0 := ⟨_, _, _, qc_9, by decide, rfl, qin 289 (by decide +kernel) rfl⟩
theorem fl_X9_15 : qFl RX9 15 9 1 := ⟨_, _, _, qc_9, by decide, rfl, qin 290 (by decide +kernel) rfl⟩
theorem fl_X0_48 : qFl RX0 48 9 1 := ⟨_, _, _, qc_9, by decide, rfl, qin 291 (by decide +kernel) rfl⟩
theorem fl_X2_74 : qFl RX2 74 9 1 := ⟨_, _, _, qc_9, by decide, rfl, qin 292 (by decide +kernel) rfl⟩
theorem fl_X9_18 : qFl RX9 18 9 2 := ⟨_, _, _, qc_9, by decide, rfl, qin 293 (by decide +kernel) rfl⟩
theorem fl_X0_51 : qFl RX0 51 9 2 := ⟨_, _, _, qc_9, by decide, rfl, qin 294 (by decide +kernel) rfl⟩
theorem fl_X9_21 : qFl RX9 21 9 3 := ⟨_, _, _, qc_9, by decide, rfl, qin 295 (by decide +kernel) rfl⟩
theorem fl_X0_54 : qFl RX0 54 9 3 := ⟨_, _, _, qc_9, by decide, rfl, qin 296 (by decide +kernel) rfl⟩
theorem fl_X4_40 : qFl RX4 40 9 3 := ⟨_, _, _, qc_9, by decide, rfl, qin 297 (by decide +kernel) rfl⟩
theorem fl_X9_24 : qFl RX9 24 9 4 := ⟨_, _, _, qc_9, by decide, rfl, qin 298 (by decide +kernel) rfl⟩
theorem fw_X9_24 : qFw RX9 24 9 4 .int := ⟨_, _, _, qc_9, by decide, rfl, qin 298 (by decide +kernel) rfl, rfl, by decide +kernel⟩
theorem fl_X10_142 : qFl RX10 142 9 4 := ⟨_, _, _, qc_9, by decide, rfl, qin 299 (by decide +kernel) rfl⟩
theorem fw_X10_142 : qFw RX10 142 9 4 .int := ⟨_, _, _, qc_9, by decide, rfl, qin 299 (by decide +kernel) rfl, rfl, by decide +kernel⟩
theorem fl_X9_28 : qFl RX9 28 9 5 := ⟨_, _, _, qc_9, by decide, rfl, qin 300 (by decide +kernel) rfl⟩
theorem fw_X9_28 : qFw RX9 28 9 5 .int := ⟨_, _, _, qc_9, by decide, rfl, qin 300 (by decide +kernel) rfl, rfl, by decide +kernel⟩
theorem fl_X10_145 : qFl RX10 145 9 5 := ⟨_, _, _, qc_9, by decide, rfl, qin 301 (by decide +kernel) rfl⟩
theorem fw_X10_145 : qFw RX10 145 9 5 .int := ⟨_, _, _, qc_9, by decide, rfl, qin 301 (by decide +kernel) rfl, rfl, by decide +kernel⟩
theorem fl_X9_31 : qFl RX9 31 9 6 := ⟨_, _, _, qc_9, by decide, rfl, qin 302 (by decide +kernel) rfl⟩
theorem fw_X9_31 : qFw RX9 31 9 6 .int := ⟨_, _, _, qc_9, by decide, rfl, qin 302 (by decide +kernel) rfl, rfl, by decide +kernel⟩
theorem fl_X10_148 : qFl RX10 148 9 6 := ⟨_, _, _, qc_9, by decide, rfl, qin 303 (by decide +kernel) rfl⟩
theorem fw_X10_148 : qFw RX10 148 9 6 .int := ⟨_, _, _, qc_9, by decide, rfl, qin 303 (by decide +kernel) rfl, rfl, by decide +kernel⟩
theorem fl_X9_34 : qFl RX9 34 9 7 := ⟨_, _, _, qc_9, by decide, rfl, qin 304 (by decide +kernel) rfl⟩
theorem fw_X9_34 : qFw RX9 34 9 7 .int := ⟨_, _, _, qc_9, by decide, rfl, qin 304 (by decide +kernel) rfl, rfl, by decide +kernel⟩
theorem fl_X2_30 : qFl RX2 30 9 7 := ⟨_, _, _, qc_9, by decide, rfl, qin 305 (by decide +kernel) rfl⟩
theorem fw_X2_30 : qFw RX2 30 9 7 .int := ⟨_, _, _, qc_9, by decide, rfl, qin 305 (by decide +kernel) rfl, rfl, by decide +kernel⟩
theorem fl_X0_42 : qFl RX0 42 9 7 := ⟨_, _, _, qc_9, by decide, rfl, qin 306 (by decide +kernel) rfl⟩
theorem fw_X0_42 : qFw RX0 42 9 7 .int := ⟨_, _, _, qc_9, by decide, rfl, qin 306 (by decide +kernel) rfl, rfl, by decide +kernel⟩
theorem fl_X4_35 : qFl RX4 35 9 7 := ⟨_, _, _, qc_9, by decide, rfl, qin 307 (by decide +kernel) rfl⟩
theorem fw_X4_35 : qFw RX4 35 9 7 .int := ⟨_, _, _, qc_9, by decide, rfl, qin 307 (by decide +kernel) rfl, rfl, by decide +kernel⟩
theorem fl_X10_128 : qFl RX10 128 9 7 := ⟨_, _, _, qc_9, by decide, rfl, qin 308 (by decide +kernel) rfl⟩
theorem fw_X10_128 : qFw RX10 128 9 7 .int := ⟨_, _, _, qc_9, by decide, rfl, qin 308 (by decide +kernel) rfl, rfl, by decide +kernel⟩
theorem fl_X8_9 : qFl RX8 9 8 0 := ⟨_, _, _, qc_8, by decide, rfl, qin 331 (by decide +kernel) rfl⟩
theorem fl_X10_239 : qFl RX10 239 8 0 := ⟨_, _, _, qc_8, by decide, rfl, qin 332 (by decide +kernel) rfl⟩
theorem fl_X8_15 : qFl RX8 15 8 1 := ⟨_, _, _, qc_8, by decide, rfl, qin 333 (by decide +kernel) rfl⟩
theorem fw_X8_15 : qFw RX8 15 8 1 .int := ⟨_, _, _, qc_8, by decide, rfl, qin 333 (by decide +kernel) rfl, rfl, by decide +kernel⟩
theorem fl_X10_260 : qFl RX10 260 8 1 := ⟨_, _, _, qc_8, by decide, rfl, qin 334 (by decide +kernel) rfl⟩
theorem fw_X10_260 : qFw RX10 260 8 1 .int := ⟨_, _, _, qc_8, by decide, rfl, qin 334 (by decide +kernel) rfl, rfl, by decide +kernel⟩
theorem fl_X8_19 : qFl RX8 19 8 2 := ⟨_, _, _, qc_8, by decide, rfl, qin 335 (by decide +kernel) rfl⟩
theorem fw_X8_19 : qFw RX8 19 8 2 .int := ⟨_, _, _, qc_8, by decide, rfl, qin 335 (by decide +kernel) rfl, rfl, by decide +kernel⟩
theorem fl_X10_236 : qFl RX10 236 8 2 := ⟨_, _, _, qc_8, by decide, rfl, qin 336 (by decide +kernel) rfl⟩
theorem fw_X10_236 : qFw RX10 236 8 2 .int := ⟨_, _, _, qc_8, by decide, rfl, qin 336 (by decide +kernel) rfl, rfl, by decide +kernel⟩
theorem fl_X10_11 : qFl RX10 11 10 0 := ⟨_, _, _, qc_10, by decide, rfl, qin 344 (by decide +kernel) rfl⟩
theorem fl_X10_17 : qFl RX10 17 10 1 := ⟨_, _, _, qc_10, by decide, rfl, qin 345 (by decide +kernel) rfl⟩
theorem fl_X10_23 : qFl RX10 23 10 2 := ⟨_, _, _, qc_10, by decide, rfl, qin 346 (by decide +kernel) rfl⟩
theorem fl_X10_30 : qFl RX10 30 10 3 := ⟨_, _, _, qc_10, by decide, rfl, qin 347 (by decide +kernel) rfl⟩
theorem fl_X10_37 : qFl RX10 37 10 4 := ⟨_, _, _, qc_10, by decide, rfl, qin 348 (by decide +kernel) rfl⟩
theorem fl_X10_44 : qFl RX10 44 10 5 := ⟨_, _, _, qc_10, by decide, rfl, qin 349 (by decide +kernel) rfl⟩
theorem fl_X10_51 : qFl RX10 51 10 6 := ⟨_, _, _, qc_10, by decide, rfl, qin 350 (by decide +kernel) rfl⟩
theorem fl_X10_58 : qFl RX10 58 10 7 := ⟨_, _, _, qc_10, by decide, rfl, qin 351 (by decide +kernel) rfl⟩
theorem fl_X10_65 : qFl RX10 65 10 8 := ⟨_, _, _, qc_10, by decide, rfl, qin 352 (by decide +kernel) rfl⟩
theorem fl_X10_69 : qFl RX10 69 10 9 := ⟨_, _, _, qc_10, by decide, rfl, qin 353 (by decide +kernel) rfl⟩
theorem fl_X10_73 : qFl RX10 73 10 10 := ⟨_, _, _, qc_10, by decide, rfl, qin 354 (by decide +kernel) rfl⟩
theorem fw_X10_73 : qFw RX10 73 10 10 .int := ⟨_, _, _, qc_10, by decide, rfl, qin 354 (by decide +kernel) rfl, rfl, by decide +kernel⟩
theorem fl_X10_77 : qFl RX10 77 10 11 := ⟨_, _, _, qc_10, by decide, rfl, qin 355 (by decide +kernel) rfl⟩
theorem fw_X10_77 : qFw RX10 77 10 11 .int := ⟨_, _, _, qc_10, by decide, rfl, qin 355 (by decide +kernel) rfl, rfl, by decide +kernel⟩
theorem fl_X10_80 : qFl RX10 80 10 12 := ⟨_, _, _, qc_10, by decide, rfl, qin 356 (by decide +kernel) rfl⟩
theorem fw_X10_80 : qFw RX10 80 10 12 .int := ⟨_, _, _, qc_10, by decide, rfl, qin 356 (by decide +kernel) rfl, rfl, by decide +kernel⟩
theorem kc_X10_90 : Cond.constant RX10 90 (Int32.ofInt (-100001)) ∈ qTbl := qin 391 (by decide +kernel) rfl
theorem kc_X10_95 : Cond.constant RX10 95 (Int32.ofInt (-100005)) ∈ qTbl := qin 396 (by decide +kernel) rfl
theorem kc_X10_123 : Cond.constant RX10 123 (Int32.ofInt (-100004)) ∈ qTbl := qin 442 (by decide +kernel) rfl
theorem kc_X10_127 : Cond.constant RX10 127 (Int32.ofInt (-100003)) ∈ qTbl := qin 450 (by decide +kernel) rfl
theorem kc_X10_135 : Cond.constant RX10 135 (Int32.ofInt (-100006)) ∈ qTbl := qin 459 (by decide +kernel) rfl
theorem kc_X2_41 : Cond.constant RX2 41 (Int32.ofInt 1000000) ∈ qTbl := qin 503 (by decide +kernel) rfl
theorem kc_J6_265 : Cond.constant RJ6 265 (Int32.ofInt 1431655765) ∈ qTbl := qin 649 (by decide +kernel) rfl
theorem kc_J6_266 : Cond.constant RJ6 266 (Int32.ofInt 858993459) ∈ qTbl := qin 650 (by decide +kernel) rfl
theorem kc_J6_267 : Cond.constant RJ6 267 (Int32.ofInt 252645135) ∈ qTbl := qin 651 (by decide +kernel) rfl
theorem kc_X7_77 : Cond.constant RX7 77 (Int32.ofInt 1000000) ∈ qTbl := qin 652 (by decide +kernel) rfl
theorem kc_X10_235 : Cond.constant RX10 235 (Int32.ofInt (-100002)) ∈ qTbl := qin 680 (by decide +kernel) rfl
theorem fl_X11_9 : qFl RX11 9 11 0 := ⟨_, _, _, qc_11, by decide, rfl, qin 758 (by decide +kernel) rfl⟩
theorem fl_X11_13 : qFl RX11 13 11 1 := ⟨_, _, _, qc_11, by decide, rfl, qin 759 (by decide +kernel) rfl⟩
theorem fl_X11_17 : qFl RX11 17 11 2 := ⟨_, _, _, qc_11, by decide, rfl, qin 760 (by decide +kernel) rfl⟩
theorem fl_X11_20 : qFl RX11 20 11 3 := ⟨_, _, _, qc_11, by decide, rfl, qin 761 (by decide +kernel) rfl⟩
theorem fl_X11_64 : qFl RX11 64 11 4 := ⟨_, _, _, qc_11, by decide, rfl, qin 762 (by decide +kernel) rfl⟩
theorem fw_X11_64 : qFw RX11 64 11 4 .int := ⟨_, _, _, qc_11, by decide, rfl, qin 762 (by decide +kernel) rfl, rfl, by decide +kernel⟩
theorem fl_X11_56 : qFl RX11 56 11 5 := ⟨_, _, _, qc_11, by decide, rfl, qin 763 (by decide +kernel) rfl⟩
theorem fw_X11_56 : qFw RX11 56 11 5 .int := ⟨_, _, _, qc_11, by decide, rfl, qin 763 (by decide +kernel) rfl, rfl, by decide +kernel⟩
theorem fl_X11_23 : qFl RX11 23 11 6 := ⟨_, _, _, qc_11, by decide, rfl, qin 764 (by decide +kernel) rfl⟩
theorem fl_X11_26 : qFl RX11 26 11 7 := ⟨_, _, _, qc_11, by decide, rfl, qin 765 (by decide +kernel) rfl⟩
theorem fl_X11_29 : qFl RX11 29 11 8 := ⟨_, _, _, qc_11, by decide, rfl, qin 766 (by decide +kernel) rfl⟩
theorem fl_X11_32 : qFl RX11 32 11 9 := ⟨_, _, _, qc_11, by decide, rfl, qin 767 (by decide +kernel) rfl⟩
theorem fl_X11_35 : qFl RX11 35 11 10 := ⟨_, _, _, qc_11, by decide, rfl, qin 768 (by decide +kernel) rfl⟩
theorem fl_X11_38 : qFl RX11 38 11 11 := ⟨_, _, _, qc_11, by decide, rfl, qin 769 (by decide +kernel) rfl⟩
theorem fl_X11_150 : qFl RX11 150 11 12 := ⟨_, _, _, qc_11, by decide, rfl, qin 770 (by decide +kernel) rfl⟩
theorem fw_X11_150 : qFw RX11 150 11 12 .int := ⟨_, _, _, qc_11, by decide, rfl, qin 770 (by decide +kernel) rfl, rfl, by decide +kernel⟩
theorem fl_X11_41 : qFl RX11 41 11 13 := ⟨_, _, _, qc_11, by decide, rfl, qin 771 (by decide +kernel) rfl⟩
theorem fl_X11_44 : qFl RX11 44 11 14 := ⟨_, _, _, qc_11, by decide, rfl, qin 772 (by decide +kernel) rfl⟩
theorem fl_X11_47 : qFl RX11 47 11 15 := ⟨_, _, _, qc_11, by decide, rfl, qin 773 (by decide +kernel) rfl⟩
theorem fl_X11_162 : qFl RX11 162 11 16 := ⟨_, _, _, qc_11, by decide, rfl, qin 774 (by decide +kernel) rfl⟩
theorem fw_X11_162 : qFw RX11 162 11 16 .int := ⟨_, _, _, qc_11, by decide, rfl, qin 774 (by decide +kernel) rfl, rfl, by decide +kernel⟩
theorem fl_X11_165 : qFl RX11 165 11 17 := ⟨_, _, _, qc_11, by decide, rfl, qin 775 (by decide +kernel) rfl⟩
theorem fw_X11_165 : qFw RX11 165 11 17 .int := ⟨_, _, _, qc_11, by decide, rfl, qin 775 (by decide +kernel) rfl, rfl, by decide +kernel⟩
theorem fl_X11_171 : qFl RX11 171 11 18 := ⟨_, _, _, qc_11, by decide, rfl, qin 776 (by decide +kernel) rfl⟩
theorem fw_X11_171 : qFw RX11 171 11 18 .int := ⟨_, _, _, qc_11, by decide, rfl, qin 776 (by decide +kernel) rfl, rfl, by decide +kernel⟩
theorem fl_X11_50 : qFl RX11 50 11 19 := ⟨_, _, _, qc_11, by decide, rfl, qin 777 (by decide +kernel) rfl⟩
theorem fl_X11_53 : qFl RX11 53 11 20 := ⟨_, _, _, qc_11, by decide, rfl, qin 778 (by decide +kernel) rfl⟩
theorem kc_X11_67 : Cond.constant RX11 67 (Int32.ofInt (-100006)) ∈ qTbl := qin 827 (by decide +kernel) rfl
theorem kc_X11_72 : Cond.constant RX11 72 (Int32.ofInt (-100001)) ∈ qTbl := qin 839 (by decide +kernel) rfl
theorem kc_X11_73 : Cond.constant RX11 73 (Int32.ofInt (-100005)) ∈ qTbl := qin 840 (by decide +kernel) rfl
theorem kc_X11_81 : Cond.constantLong RX11 81 (Int64.ofInt 3) ∈ qTbl := qin 853 (by decide +kernel) rfl
theorem kc_X11_83 : Cond.constantLong RX11 83 (Int64.ofInt (-1)) ∈ qTbl := qin 854 (by decide +kernel) rfl
theorem kc_X11_88 : Cond.constant RX11 88 (Int32.ofInt (-100004)) ∈ qTbl := qin 867 (by decide +kernel) rfl
theorem kc_X11_92 : Cond.constant RX11 92 (Int32.ofInt (-100003)) ∈ qTbl := qin 875 (by decide +kernel) rfl
theorem kc_X11_103 : Cond.constant RX11 103 (Int32.ofInt 1000000) ∈ qTbl := qin 912 (by decide +kernel) rfl
theorem kc_X11_187 : Cond.constant RX11 187 (Int32.ofInt (-100002)) ∈ qTbl := qin 1054 (by decide +kernel) rfl
theorem mv_L_13 : qMv RL 13 yX10_line cX10_line 2 (some .int) 1 := ⟨qin 384 (by decide +kernel) rfl, qin 385 (by decide +kernel) rfl, qin 386 (by decide +kernel) rfl, qin 44 (by decide +kernel) rfl, qin 387 (by decide +kernel) rfl, by decide +kernel, by decide +kernel, by decide +kernel, by decide⟩
theorem ms_X10_86 : qMs RX10 86 yX10_within cX10_within 2 (some .boolean) 2 := ⟨qin 388 (by decide +kernel) rfl, qin 389 (by decide +kernel) rfl, qin 44 (by decide +kernel) rfl, qin 390 (by decide +kernel) rfl, by decide +kernel, by decide +kernel, by decide +kernel, by decide⟩
theorem mv_X10_91 : qMv RX10 91 yX10_finding cX10_finding 2 (some .int) 1 := ⟨qin 392 (by decide +kernel) rfl, qin 394 (by decide +kernel) rfl, qin 0 (by decide +kernel) rfl, qin 44 (by decide +kernel) rfl, qin 395 (by decide +kernel) rfl, by decide +kernel, by decide +kernel, by decide +kernel, by decide⟩
theorem mv_X10_96 : qMv RX10 96 yX5_begin cX5_begin 2 none 1 := ⟨qin 397 (by decide +kernel) rfl, qin 398 (by decide +kernel) rfl, qin 399 (by decide +kernel) rfl, qin 52 (by decide +kernel) rfl, qin 400 (by decide +kernel) rfl, by decide +kernel, by decide +kernel, by decide +kernel, by decide⟩
theorem mv_X10_100 : qMv RX10 100 yX10_remember cX10_remember 4 (some (.object "DubDesk$Act")) 3 := ⟨qin 401 (by decide +kernel) rfl, qin 403 (by decide +kernel) rfl, qin 1 (by decide +kernel) rfl, qin 44 (by decide +kernel) rfl, qin 404 (by decide +kernel) rfl, by decide +kernel, by decide +kernel, by decide +kernel, by decide⟩
theorem mv_X10_293 : qMv RX10 293 yX3_append cX3_append 5 (some (.object "DubDesk$Act")) 3 := ⟨qin 405 (by decide +kernel) rfl, qin 406 (by decide +kernel) rfl, qin 407 (by decide +kernel) rfl, qin 50 (by decide +kernel) rfl, qin 408 (by decide +kernel) rfl, by decide +kernel, by decide +kernel, by decide +kernel, by decide⟩
theorem ms_X3_34 : qMs RX3 34 yJ9_min_7cf53 cJ9_min_7cf53 2 (some .int) 2 := ⟨qin 409 (by decide +kernel) rfl, qin 410 (by decide +kernel) rfl, qin 56 (by decide +kernel) rfl, qin 411 (by decide +kernel) rfl, by decide +kernel, by decide +kernel, by decide +kernel, by decide⟩
theorem mv_L_18 : qMv RL 18 yX10_frame cX10_frame 4 (some .int) 2 := ⟨qin 412 (by decide +kernel) rfl, qin 413 (by decide +kernel) rfl, qin 414 (by decide +kernel) rfl, qin 44 (by decide +kernel) rfl, qin 415 (by decide +kernel) rfl, by decide +kernel, by decide +kernel, by decide +kernel, by decide⟩
theorem mv_X10_104 : qMv RX10 104 yX10_isLine cX10_isLine 2 (some .boolean) 1 := ⟨qin 416 (by decide +kernel) rfl, qin 418 (by decide +kernel) rfl, qin 2 (by decide +kernel) rfl, qin 44 (by decide +kernel) rfl, qin 419 (by decide +kernel) rfl, by decide +kernel, by decide +kernel, by decide +kernel, by decide⟩
theorem mv_L_23 : qMv RL 23 yX10_wording cX10_wording 4 (some .int) 3 := ⟨qin 420 (by decide +kernel) rfl, qin 421 (by decide +kernel) rfl, qin 422 (by decide +kernel) rfl, qin 44 (by decide +kernel) rfl, qin 423 (by decide +kernel) rfl, by decide +kernel, by decide +kernel, by decide +kernel, by decide⟩
theorem mv_X10_114 : qMv RX10 114 yX9_begin cX9_begin 4 none 3 := ⟨qin 424 (by decide +kernel) rfl, qin 425 (by decide +kernel) rfl, qin 426 (by decide +kernel) rfl, qin 53 (by decide +kernel) rfl, qin 427 (by decide +kernel) rfl, by decide +kernel, by decide +kernel, by decide +kernel, by decide⟩
theorem mv_L_28 : qMv RL 28 yX10_as cX10_as 3 (some .int) 2 := ⟨qin 428 (by decide +kernel) rfl, qin 429 (by decide +kernel) rfl, qin 430 (by decide +kernel) rfl, qin 44 (by decide +kernel) rfl, qin 431 (by decide +kernel) rfl, by decide +kernel, by decide +kernel, by decide +kernel, by decide⟩
theorem mv_X10_117 : qMv RX10 117 yX10_isWording cX10_isWording 2 (some .boolean) 1 := ⟨qin 432 (by decide +kernel) rfl, qin 434 (by decide +kernel) rfl, qin 3 (by decide +kernel) rfl, qin 44 (by decide +kernel) rfl, qin 435 (by decide +kernel) rfl, by decide +kernel, by decide +kernel, by decide +kernel, by decide⟩
theorem mv_X10_120 : qMv RX10 120 yX9_isOfKind cX9_isOfKind 4 (some .boolean) 1 := ⟨qin 436 (by decide +kernel) rfl, qin 437 (by decide +kernel) rfl, qin 438 (by decide +kernel) rfl, qin 53 (by decide +kernel) rfl, qin 439 (by decide +kernel) rfl, by decide +kernel, by decide +kernel, by decide +kernel, by decide⟩
theorem mv_L_32 : qMv RL 32 yX10_syllable cX10_syllable 7 (some .int) 5 := ⟨qin 443 (by decide +kernel) rfl, qin 444 (by decide +kernel) rfl, qin 445 (by decide +kernel) rfl, qin 44 (by decide +kernel) rfl, qin 446 (by decide +kernel) rfl, by decide +kernel, by decide +kernel, by decide +kernel, by decide⟩
theorem ms_X10_124 : qMs RX10 124 yX10_isLength cX10_isLength 1 (some .boolean) 1 := ⟨qin 447 (by decide +kernel) rfl, qin 448 (by decide +kernel) rfl, qin 44 (by decide +kernel) rfl, qin 449 (by decide +kernel) rfl, by decide +kernel, by decide +kernel, by decide +kernel, by decide⟩
theorem mv_X10_131 : qMv RX10 131 yX9_append cX9_append 5 none 4 := ⟨qin 451 (by decide +kernel) rfl, qin 452 (by decide +kernel) rfl, qin 453 (by decide +kernel) rfl, qin 53 (by decide +kernel) rfl, qin 454 (by decide +kernel) rfl, by decide +kernel, by decide +kernel, by decide +kernel, by decide⟩
theorem mv_L_37 : qMv RL 37 yX10_cut cX10_cut 3 (some .int) 1 := ⟨qin 455 (by decide +kernel) rfl, qin 456 (by decide +kernel) rfl, qin 457 (by decide +kernel) rfl, qin 44 (by decide +kernel) rfl, qin 458 (by decide +kernel) rfl, by decide +kernel, by decide +kernel, by decide +kernel, by decide⟩
theorem mv_X10_136 : qMv RX10 136 yX0_keepSyllable cX0_keepSyllable 3 none 1 := ⟨qin 460 (by decide +kernel) rfl, qin 461 (by decide +kernel) rfl, qin 462 (by decide +kernel) rfl, qin 51 (by decide +kernel) rfl, qin 463 (by decide +kernel) rfl, by decide +kernel, by decide +kernel, by decide +kernel, by decide⟩
theorem mv_L_41 : qMv RL 41 yX10_of cX10_of 4 (some .int) 2 := ⟨qin 464 (by decide +kernel) rfl, qin 465 (by decide +kernel) rfl, qin 466 (by decide +kernel) rfl, qin 44 (by decide +kernel) rfl, qin 467 (by decide +kernel) rfl, by decide +kernel, by decide +kernel, by decide +kernel, by decide⟩
theorem mv_L_45 : qMv RL 45 yX10_told cX10_told 3 (some .int) 2 := ⟨qin 468 (by decide +kernel) rfl, qin 469 (by decide +kernel) rfl, qin 470 (by decide +kernel) rfl, qin 44 (by decide +kernel) rfl, qin 471 (by decide +kernel) rfl, by decide +kernel, by decide +kernel, by decide +kernel, by decide⟩
theorem mv_X10_154 : qMv RX10 154 yX10_countWordings cX10_countWordings 4 (some .int) 1 := ⟨qin 472 (by decide +kernel) rfl, qin 474 (by decide +kernel) rfl, qin 4 (by decide +kernel) rfl, qin 44 (by decide +kernel) rfl, qin 475 (by decide +kernel) rfl, by decide +kernel, by decide +kernel, by decide +kernel, by decide⟩
theorem mv_L_49 : qMv RL 49 yX10_shape cX10_shape 3 (some .int) 2 := ⟨qin 476 (by decide +kernel) rfl, qin 477 (by decide +kernel) rfl, qin 478 (by decide +kernel) rfl, qin 44 (by decide +kernel) rfl, qin 479 (by decide +kernel) rfl, by decide +kernel, by decide +kernel, by decide +kernel, by decide⟩
theorem mv_L_53 : qMv RL 53 yX10_cost cX10_cost 2 (some .int) 1 := ⟨qin 480 (by decide +kernel) rfl, qin 481 (by decide +kernel) rfl, qin 482 (by decide +kernel) rfl, qin 44 (by decide +kernel) rfl, qin 483 (by decide +kernel) rfl, by decide +kernel, by decide +kernel, by decide +kernel, by decide⟩
theorem mv_X10_157 : qMv RX10 157 yX10_findFit cX10_findFit 3 (some .boolean) 1 := ⟨qin 484 (by decide +kernel) rfl, qin 486 (by decide +kernel) rfl, qin 5 (by decide +kernel) rfl, qin 44 (by decide +kernel) rfl, qin 487 (by decide +kernel) rfl, by decide +kernel, by decide +kernel, by decide +kernel, by decide⟩
theorem mv_X10_295 : qMv RX10 295 yX2_seek cX2_seek 4 (some .boolean) 2 := ⟨qin 488 (by decide +kernel) rfl, qin 489 (by decide +kernel) rfl, qin 490 (by decide +kernel) rfl, qin 48 (by decide +kernel) rfl, qin 491 (by decide +kernel) rfl, by decide +kernel, by decide +kernel, by decide +kernel, by decide⟩
theorem mv_X2_33 : qMv RX2 33 yX2_fillPauses cX2_fillPauses 4 none 1 := ⟨qin 492 (by decide +kernel) rfl, qin 494 (by decide +kernel) rfl, qin 6 (by decide +kernel) rfl, qin 48 (by decide +kernel) rfl, qin 495 (by decide +kernel) rfl, by decide +kernel, by decide +kernel, by decide +kernel, by decide⟩
theorem ms_X2_54 : qMs RX2 54 yX2_pauseCost cX2_pauseCost 1 (some .int) 1 := ⟨qin 496 (by decide +kernel) rfl, qin 497 (by decide +kernel) rfl, qin 48 (by decide +kernel) rfl, qin 498 (by decide +kernel) rfl, by decide +kernel, by decide +kernel, by decide +kernel, by decide⟩
theorem mv_X2_37 : qMv RX2 37 yX2_fillSyllable cX2_fillSyllable 7 none 3 := ⟨qin 499 (by decide +kernel) rfl, qin 501 (by decide +kernel) rfl, qin 7 (by decide +kernel) rfl, qin 48 (by decide +kernel) rfl, qin 502 (by decide +kernel) rfl, by decide +kernel, by decide +kernel, by decide +kernel, by decide⟩
theorem mv_X2_58 : qMv RX2 58 yX2_leastFrom cX2_leastFrom 9 (some .int) 4 := ⟨qin 504 (by decide +kernel) rfl, qin 506 (by decide +kernel) rfl, qin 8 (by decide +kernel) rfl, qin 48 (by decide +kernel) rfl, qin 507 (by decide +kernel) rfl, by decide +kernel, by decide +kernel, by decide +kernel, by decide⟩
theorem mv_X2_68 : qMv RX2 68 yX9_longest cX9_longest 2 (some .int) 1 := ⟨qin 508 (by decide +kernel) rfl, qin 509 (by decide +kernel) rfl, qin 510 (by decide +kernel) rfl, qin 53 (by decide +kernel) rfl, qin 511 (by decide +kernel) rfl, by decide +kernel, by decide +kernel, by decide +kernel, by decide⟩
theorem ms_X2_62 : qMs RX2 62 yJ9_min_7cf53 cJ9_min_7cf53 2 (some .int) 2 := ⟨qin 512 (by decide +kernel) rfl, qin 410 (by decide +kernel) rfl, qin 56 (by decide +kernel) rfl, qin 411 (by decide +kernel) rfl, by decide +kernel, by decide +kernel, by decide +kernel, by decide⟩
theorem mv_X2_71 : qMv RX2 71 yX9_costOver cX9_costOver 4 (some .int) 2 := ⟨qin 513 (by decide +kernel) rfl, qin 514 (by decide +kernel) rfl, qin 515 (by decide +kernel) rfl, qin 53 (by decide +kernel) rfl, qin 516 (by decide +kernel) rfl, by decide +kernel, by decide +kernel, by decide +kernel, by decide⟩
theorem mv_X2_42 : qMv RX2 42 yX2_trace cX2_trace 7 none 2 := ⟨qin 517 (by decide +kernel) rfl, qin 519 (by decide +kernel) rfl, qin 9 (by decide +kernel) rfl, qin 48 (by decide +kernel) rfl, qin 520 (by decide +kernel) rfl, by decide +kernel, by decide +kernel, by decide +kernel, by decide⟩
theorem mv_X2_77 : qMv RX2 77 yX2_shortestFrom cX2_shortestFrom 8 (some .int) 4 := ⟨qin 521 (by decide +kernel) rfl, qin 523 (by decide +kernel) rfl, qin 10 (by decide +kernel) rfl, qin 48 (by decide +kernel) rfl, qin 524 (by decide +kernel) rfl, by decide +kernel, by decide +kernel, by decide +kernel, by decide⟩
theorem mv_L_57 : qMv RL 57 yX10_place cX10_place 4 (some .int) 3 := ⟨qin 525 (by decide +kernel) rfl, qin 526 (by decide +kernel) rfl, qin 527 (by decide +kernel) rfl, qin 44 (by decide +kernel) rfl, qin 528 (by decide +kernel) rfl, by decide +kernel, by decide +kernel, by decide +kernel, by decide⟩
theorem mv_L_62 : qMv RL 62 yX10_on cX10_on 3 (some .int) 2 := ⟨qin 529 (by decide +kernel) rfl, qin 530 (by decide +kernel) rfl, qin 531 (by decide +kernel) rfl, qin 44 (by decide +kernel) rfl, qin 532 (by decide +kernel) rfl, by decide +kernel, by decide +kernel, by decide +kernel, by decide⟩
theorem mv_X10_169 : qMv RX10 169 yX2_syllableOn cX2_syllableOn 3 (some .int) 1 := ⟨qin 533 (by decide +kernel) rfl, qin 534 (by decide +kernel) rfl, qin 535 (by decide +kernel) rfl, qin 48 (by decide +kernel) rfl, qin 536 (by decide +kernel) rfl, by decide +kernel, by decide +kernel, by decide +kernel, by decide⟩
theorem mv_L_66 : qMv RL 66 yX10_name cX10_name 4 (some .int) 2 := ⟨qin 537 (by decide +kernel) rfl, qin 538 (by decide +kernel) rfl, qin 539 (by decide +kernel) rfl, qin 44 (by decide +kernel) rfl, qin 540 (by decide +kernel) rfl, by decide +kernel, by decide +kernel, by decide +kernel, by decide⟩
theorem ms_X10_172 : qMs RX10 172 yX10_isNoneOrWithin cX10_isNoneOrWithin 2 (some .boolean) 2 := ⟨qin 541 (by decide +kernel) rfl, qin 542 (by decide +kernel) rfl, qin 44 (by decide +kernel) rfl, qin 543 (by decide +kernel) rfl, by decide +kernel, by decide +kernel, by decide +kernel, by decide⟩
theorem mv_L_70 : qMv RL 70 yX10_text cX10_text 5 (some .int) 4 := ⟨qin 544 (by decide +kernel) rfl, qin 545 (by decide +kernel) rfl, qin 546 (by decide +kernel) rfl, qin 44 (by decide +kernel) rfl, qin 547 (by decide +kernel) rfl, by decide +kernel, by decide +kernel, by decide +kernel, by decide⟩
theorem mv_X10_181 : qMv RX10 181 yX4_append cX4_append 5 none 4 := ⟨qin 548 (by decide +kernel) rfl, qin 549 (by decide +kernel) rfl, qin 550 (by decide +kernel) rfl, qin 45 (by decide +kernel) rfl, qin 551 (by decide +kernel) rfl, by decide +kernel, by decide +kernel, by decide +kernel, by decide⟩
theorem mv_L_75 : qMv RL 75 yX10_barred cX10_barred 4 (some .int) 3 := ⟨qin 552 (by decide +kernel) rfl, qin 553 (by decide +kernel) rfl, qin 554 (by decide +kernel) rfl, qin 44 (by decide +kernel) rfl, qin 555 (by decide +kernel) rfl, by decide +kernel, by decide +kernel, by decide +kernel, by decide⟩
theorem mv_X10_182 : qMv RX10 182 yX4_isBarred cX4_isBarred 6 (some .boolean) 3 := ⟨qin 556 (by decide +kernel) rfl, qin 557 (by decide +kernel) rfl, qin 558 (by decide +kernel) rfl, qin 45 (by decide +kernel) rfl, qin 559 (by decide +kernel) rfl, by decide +kernel, by decide +kernel, by decide +kernel, by decide⟩
theorem mv_X4_31 : qMv RX4 31 yX4_overrules cX4_overrules 5 (some .boolean) 4 := ⟨qin 560 (by decide +kernel) rfl, qin 562 (by decide +kernel) rfl, qin 11 (by decide +kernel) rfl, qin 45 (by decide +kernel) rfl, qin 563 (by decide +kernel) rfl, by decide +kernel, by decide +kernel, by decide +kernel, by decide⟩
theorem mv_L_79 : qMv RL 79 yX10_chosen cX10_chosen 5 (some .int) 3 := ⟨qin 564 (by decide +kernel) rfl, qin 565 (by decide +kernel) rfl, qin 566 (by decide +kernel) rfl, qin 44 (by decide +kernel) rfl, qin 567 (by decide +kernel) rfl, by decide +kernel, by decide +kernel, by decide +kernel, by decide⟩
theorem mv_X10_186 : qMv RX10 186 yX4_choiceFor cX4_choiceFor 6 (some .int) 3 := ⟨qin 568 (by decide +kernel) rfl, qin 569 (by decide +kernel) rfl, qin 570 (by decide +kernel) rfl, qin 45 (by decide +kernel) rfl, qin 571 (by decide +kernel) rfl, by decide +kernel, by decide +kernel, by decide +kernel, by decide⟩
theorem mv_L_83 : qMv RL 83 yX10_lawful cX10_lawful 4 (some .int) 3 := ⟨qin 572 (by decide +kernel) rfl, qin 573 (by decide +kernel) rfl, qin 574 (by decide +kernel) rfl, qin 44 (by decide +kernel) rfl, qin 575 (by decide +kernel) rfl, by decide +kernel, by decide +kernel, by decide +kernel, by decide⟩
theorem mv_X10_190 : qMv RX10 190 yX4_allows cX4_allows 5 (some .boolean) 3 := ⟨qin 576 (by decide +kernel) rfl, qin 577 (by decide +kernel) rfl, qin 578 (by decide +kernel) rfl, qin 45 (by decide +kernel) rfl, qin 579 (by decide +kernel) rfl, by decide +kernel, by decide +kernel, by decide +kernel, by decide⟩
theorem mv_X4_41 : qMv RX4 41 yX4_allowsWord cX4_allowsWord 5 (some .boolean) 3 := ⟨qin 580 (by decide +kernel) rfl, qin 582 (by decide +kernel) rfl, qin 12 (by decide +kernel) rfl, qin 45 (by decide +kernel) rfl, qin 583 (by decide +kernel) rfl, by decide +kernel, by decide +kernel, by decide +kernel, by decide⟩
theorem mv_X4_45 : qMv RX4 45 yX4_isBarred cX4_isBarred 6 (some .boolean) 3 := ⟨qin 584 (by decide +kernel) rfl, qin 557 (by decide +kernel) rfl, qin 558 (by decide +kernel) rfl, qin 45 (by decide +kernel) rfl, qin 559 (by decide +kernel) rfl, by decide +kernel, by decide +kernel, by decide +kernel, by decide⟩
theorem mv_X4_48 : qMv RX4 48 yX4_choiceFor cX4_choiceFor 6 (some .int) 3 := ⟨qin 585 (by decide +kernel) rfl, qin 569 (by decide +kernel) rfl, qin 570 (by decide +kernel) rfl, qin 45 (by decide +kernel) rfl, qin 571 (by decide +kernel) rfl, by decide +kernel, by decide +kernel, by decide +kernel, by decide⟩
theorem mv_L_87 : qMv RL 87 yX10_best cX10_best 5 (some .int) 3 := ⟨qin 586 (by decide +kernel) rfl, qin 587 (by decide +kernel) rfl, qin 588 (by decide +kernel) rfl, qin 44 (by decide +kernel) rfl, qin 589 (by decide +kernel) rfl, by decide +kernel, by decide +kernel, by decide +kernel, by decide⟩
theorem mv_X10_194 : qMv RX10 194 yX10_findBest cX10_findBest 8 (some .int) 3 := ⟨qin 590 (by decide +kernel) rfl, qin 592 (by decide +kernel) rfl, qin 13 (by decide +kernel) rfl, qin 44 (by decide +kernel) rfl, qin 593 (by decide +kernel) rfl, by decide +kernel, by decide +kernel, by decide +kernel, by decide⟩
theorem mv_X10_197 : qMv RX10 197 yX10_worthOfFit cX10_worthOfFit 2 (some .int) 1 := ⟨qin 594 (by decide +kernel) rfl, qin 596 (by decide +kernel) rfl, qin 14 (by decide +kernel) rfl, qin 44 (by decide +kernel) rfl, qin 597 (by decide +kernel) rfl, by decide +kernel, by decide +kernel, by decide +kernel, by decide⟩
theorem mv_L_91 : qMv RL 91 yX10_worth cX10_worth 6 (some .int) 2 := ⟨qin 598 (by decide +kernel) rfl, qin 599 (by decide +kernel) rfl, qin 600 (by decide +kernel) rfl, qin 44 (by decide +kernel) rfl, qin 601 (by decide +kernel) rfl, by decide +kernel, by decide +kernel, by decide +kernel, by decide⟩
theorem mv_L_95 : qMv RL 95 yX10_actor cX10_actor 4 (some .int) 2 := ⟨qin 602 (by decide +kernel) rfl, qin 603 (by decide +kernel) rfl, qin 604 (by decide +kernel) rfl, qin 44 (by decide +kernel) rfl, qin 605 (by decide +kernel) rfl, by decide +kernel, by decide +kernel, by decide +kernel, by decide⟩
theorem mv_L_99 : qMv RL 99 yX10_free cX10_free 4 (some .int) 2 := ⟨qin 606 (by decide +kernel) rfl, qin 607 (by decide +kernel) rfl, qin 608 (by decide +kernel) rfl, qin 44 (by decide +kernel) rfl, qin 609 (by decide +kernel) rfl, by decide +kernel, by decide +kernel, by decide +kernel, by decide⟩
theorem mv_L_103 : qMv RL 103 yX10_room cX10_room 4 (some .int) 2 := ⟨qin 610 (by decide +kernel) rfl, qin 611 (by decide +kernel) rfl, qin 612 (by decide +kernel) rfl, qin 44 (by decide +kernel) rfl, qin 613 (by decide +kernel) rfl, by decide +kernel, by decide +kernel, by decide +kernel, by decide⟩
theorem mv_L_107 : qMv RL 107 yX10_loop cX10_loop 3 (some .int) 1 := ⟨qin 614 (by decide +kernel) rfl, qin 615 (by decide +kernel) rfl, qin 616 (by decide +kernel) rfl, qin 44 (by decide +kernel) rfl, qin 617 (by decide +kernel) rfl, by decide +kernel, by decide +kernel, by decide +kernel, by decide⟩
theorem mv_X10_212 : qMv RX10 212 yX1_appendLoop cX1_appendLoop 2 none 1 := ⟨qin 618 (by decide +kernel) rfl, qin 619 (by decide +kernel) rfl, qin 620 (by decide +kernel) rfl, qin 46 (by decide +kernel) rfl, qin 621 (by decide +kernel) rfl, by decide +kernel, by decide +kernel, by decide +kernel, by decide⟩
theorem mv_L_111 : qMv RL 111 yX10_unloop cX10_unloop 1 (some .int) 0 := ⟨qin 622 (by decide +kernel) rfl, qin 623 (by decide +kernel) rfl, qin 624 (by decide +kernel) rfl, qin 44 (by decide +kernel) rfl, qin 625 (by decide +kernel) rfl, by decide +kernel, by decide +kernel, by decide +kernel, by decide⟩
theorem mv_L_116 : qMv RL 116 yX10_plan cX10_plan 1 (some .int) 0 := ⟨qin 626 (by decide +kernel) rfl, qin 627 (by decide +kernel) rfl, qin 628 (by decide +kernel) rfl, qin 44 (by decide +kernel) rfl, qin 629 (by decide +kernel) rfl, by decide +kernel, by decide +kernel, by decide +kernel, by decide⟩
theorem mv_X10_218 : qMv RX10 218 yX7_seekPlans cX7_seekPlans 3 none 2 := ⟨qin 630 (by decide +kernel) rfl, qin 631 (by decide +kernel) rfl, qin 632 (by decide +kernel) rfl, qin 47 (by decide +kernel) rfl, qin 633 (by decide +kernel) rfl, by decide +kernel, by decide +kernel, by decide +kernel, by decide⟩
theorem mv_X7_47 : qMv RX7 47 yX7_prepare cX7_prepare 4 none 2 := ⟨qin 634 (by decide +kernel) rfl, qin 636 (by decide +kernel) rfl, qin 15 (by decide +kernel) rfl, qin 47 (by decide +kernel) rfl, qin 637 (by decide +kernel) rfl, by decide +kernel, by decide +kernel, by decide +kernel, by decide⟩
theorem mv_X7_58 : qMv RX7 58 yX1_actorsOfLoop cX1_actorsOfLoop 6 (some .int) 2 := ⟨qin 638 (by decide +kernel) rfl, qin 639 (by decide +kernel) rfl, qin 640 (by decide +kernel) rfl, qin 46 (by decide +kernel) rfl, qin 641 (by decide +kernel) rfl, by decide +kernel, by decide +kernel, by decide +kernel, by decide⟩
theorem mv_X7_62 : qMv RX7 62 yX1_daysOfActors cX1_daysOfActors 4 (some .int) 1 := ⟨qin 642 (by decide +kernel) rfl, qin 643 (by decide +kernel) rfl, qin 644 (by decide +kernel) rfl, qin 46 (by decide +kernel) rfl, qin 645 (by decide +kernel) rfl, by decide +kernel, by decide +kernel, by decide +kernel, by decide⟩
theorem ms_X7_69 : qMs RX7 69 yJ6_bitCount_0f7a4 cJ6_bitCount_0f7a4 1 (some .int) 1 := ⟨qin 646 (by decide +kernel) rfl, qin 647 (by decide +kernel) rfl, qin 57 (by decide +kernel) rfl, qin 648 (by decide +kernel) rfl, by decide +kernel, by decide +kernel, by decide +kernel, by decide⟩
theorem mv_X7_51 : qMv RX7 51 yX7_giveDays cX7_giveDays 5 none 2 := ⟨qin 653 (by decide +kernel) rfl, qin 655 (by decide +kernel) rfl, qin 16 (by decide +kernel) rfl, qin 47 (by decide +kernel) rfl, qin 656 (by decide +kernel) rfl, by decide +kernel, by decide +kernel, by decide +kernel, by decide⟩
theorem mv_X7_78 : qMv RX7 78 yX7_takePlan cX7_takePlan 2 none 1 := ⟨qin 657 (by decide +kernel) rfl, qin 659 (by decide +kernel) rfl, qin 17 (by decide +kernel) rfl, qin 47 (by decide +kernel) rfl, qin 660 (by decide +kernel) rfl, by decide +kernel, by decide +kernel, by decide +kernel, by decide⟩
theorem ac_X7_82 : Cond.methodLink RX7 82 arraycopyName ∈ qTbl := qin 661 (by decide +kernel) rfl
theorem mv_L_120 : qMv RL 120 yX10_planned cX10_planned 2 (some .int) 1 := ⟨qin 664 (by decide +kernel) rfl, qin 665 (by decide +kernel) rfl, qin 666 (by decide +kernel) rfl, qin 44 (by decide +kernel) rfl, qin 667 (by decide +kernel) rfl, by decide +kernel, by decide +kernel, by decide +kernel, by decide⟩
theorem mv_L_124 : qMv RL 124 yX10_plans cX10_plans 1 (some .int) 0 := ⟨qin 668 (by decide +kernel) rfl, qin 669 (by decide +kernel) rfl, qin 670 (by decide +kernel) rfl, qin 44 (by decide +kernel) rfl, qin 671 (by decide +kernel) rfl, by decide +kernel, by decide +kernel, by decide +kernel, by decide⟩
theorem mv_L_128 : qMv RL 128 yX10_change cX10_change 6 (some .int) 2 := ⟨qin 672 (by decide +kernel) rfl, qin 673 (by decide +kernel) rfl, qin 674 (by decide +kernel) rfl, qin 44 (by decide +kernel) rfl, qin 675 (by decide +kernel) rfl, by decide +kernel, by decide +kernel, by decide +kernel, by decide⟩
theorem mv_X10_231 : qMv RX10 231 yX8_isMissing cX8_isMissing 1 (some .boolean) 0 := ⟨qin 676 (by decide +kernel) rfl, qin 677 (by decide +kernel) rfl, qin 678 (by decide +kernel) rfl, qin 54 (by decide +kernel) rfl, qin 679 (by decide +kernel) rfl, by decide +kernel, by decide +kernel, by decide +kernel, by decide⟩
theorem mv_X10_242 : qMv RX10 242 yX6_countKept cX6_countKept 9 (some .int) 4 := ⟨qin 681 (by decide +kernel) rfl, qin 682 (by decide +kernel) rfl, qin 683 (by decide +kernel) rfl, qin 49 (by decide +kernel) rfl, qin 684 (by decide +kernel) rfl, by decide +kernel, by decide +kernel, by decide +kernel, by decide⟩
theorem ms_X6_15 : qMs RX6 15 yJ9_max_7cf53 cJ9_max_7cf53 2 (some .int) 2 := ⟨qin 685 (by decide +kernel) rfl, qin 686 (by decide +kernel) rfl, qin 56 (by decide +kernel) rfl, qin 687 (by decide +kernel) rfl, by decide +kernel, by decide +kernel, by decide +kernel, by decide⟩
theorem mv_X10_246 : qMv RX10 246 yX0_keepFrames cX0_keepFrames 2 none 1 := ⟨qin 688 (by decide +kernel) rfl, qin 689 (by decide +kernel) rfl, qin 690 (by decide +kernel) rfl, qin 51 (by decide +kernel) rfl, qin 691 (by decide +kernel) rfl, by decide +kernel, by decide +kernel, by decide +kernel, by decide⟩
theorem ac_X0_36 : Cond.methodLink RX0 36 arraycopyName ∈ qTbl := qin 692 (by decide +kernel) rfl
theorem mv_X10_250 : qMv RX10 250 yX5_takeFrames cX5_takeFrames 3 none 2 := ⟨qin 693 (by decide +kernel) rfl, qin 694 (by decide +kernel) rfl, qin 695 (by decide +kernel) rfl, qin 52 (by decide +kernel) rfl, qin 696 (by decide +kernel) rfl, by decide +kernel, by decide +kernel, by decide +kernel, by decide⟩
theorem ac_X5_22 : Cond.methodLink RX5 22 arraycopyName ∈ qTbl := qin 697 (by decide +kernel) rfl
theorem mv_L_132 : qMv RL 132 yX10_kept cX10_kept 5 (some .int) 2 := ⟨qin 698 (by decide +kernel) rfl, qin 699 (by decide +kernel) rfl, qin 700 (by decide +kernel) rfl, qin 44 (by decide +kernel) rfl, qin 701 (by decide +kernel) rfl, by decide +kernel, by decide +kernel, by decide +kernel, by decide⟩
theorem mv_L_136 : qMv RL 136 yX10_sheet cX10_sheet 4 (some .int) 3 := ⟨qin 702 (by decide +kernel) rfl, qin 703 (by decide +kernel) rfl, qin 704 (by decide +kernel) rfl, qin 44 (by decide +kernel) rfl, qin 705 (by decide +kernel) rfl, by decide +kernel, by decide +kernel, by decide +kernel, by decide⟩
theorem mv_X10_254 : qMv RX10 254 yX8_begin cX8_begin 4 none 2 := ⟨qin 706 (by decide +kernel) rfl, qin 707 (by decide +kernel) rfl, qin 708 (by decide +kernel) rfl, qin 54 (by decide +kernel) rfl, qin 709 (by decide +kernel) rfl, by decide +kernel, by decide +kernel, by decide +kernel, by decide⟩
theorem mv_L_140 : qMv RL 140 yX10_put cX10_put 4 (some .int) 3 := ⟨qin 710 (by decide +kernel) rfl, qin 711 (by decide +kernel) rfl, qin 712 (by decide +kernel) rfl, qin 44 (by decide +kernel) rfl, qin 713 (by decide +kernel) rfl, by decide +kernel, by decide +kernel, by decide +kernel, by decide⟩
theorem mv_X10_257 : qMv RX10 257 yX8_write cX8_write 3 none 2 := ⟨qin 714 (by decide +kernel) rfl, qin 715 (by decide +kernel) rfl, qin 716 (by decide +kernel) rfl, qin 54 (by decide +kernel) rfl, qin 717 (by decide +kernel) rfl, by decide +kernel, by decide +kernel, by decide +kernel, by decide⟩
theorem mv_L_144 : qMv RL 144 yX10_copy cX10_copy 8 (some .int) 5 := ⟨qin 718 (by decide +kernel) rfl, qin 719 (by decide +kernel) rfl, qin 720 (by decide +kernel) rfl, qin 44 (by decide +kernel) rfl, qin 721 (by decide +kernel) rfl, by decide +kernel, by decide +kernel, by decide +kernel, by decide⟩
theorem mv_X10_263 : qMv RX10 263 yX8_hasStretch cX8_hasStretch 3 (some .boolean) 2 := ⟨qin 722 (by decide +kernel) rfl, qin 723 (by decide +kernel) rfl, qin 724 (by decide +kernel) rfl, qin 54 (by decide +kernel) rfl, qin 725 (by decide +kernel) rfl, by decide +kernel, by decide +kernel, by decide +kernel, by decide⟩
theorem ac_X10_266 : Cond.methodLink RX10 266 arraycopyName ∈ qTbl := qin 726 (by decide +kernel) rfl
theorem mv_L_148 : qMv RL 148 yX10_undo cX10_undo 2 (some .int) 0 := ⟨qin 727 (by decide +kernel) rfl, qin 728 (by decide +kernel) rfl, qin 729 (by decide +kernel) rfl, qin 44 (by decide +kernel) rfl, qin 730 (by decide +kernel) rfl, by decide +kernel, by decide +kernel, by decide +kernel, by decide⟩
theorem mv_X10_275 : qMv RX10 275 yX3_takeLatest cX3_takeLatest 1 (some (.object "DubDesk$Act")) 0 := ⟨qin 731 (by decide +kernel) rfl, qin 732 (by decide +kernel) rfl, qin 733 (by decide +kernel) rfl, qin 50 (by decide +kernel) rfl, qin 734 (by decide +kernel) rfl, by decide +kernel, by decide +kernel, by decide +kernel, by decide⟩
theorem mv_X10_286 : qMv RX10 286 yX10_takeBackOfLines cX10_takeBackOfLines 2 none 1 := ⟨qin 735 (by decide +kernel) rfl, qin 737 (by decide +kernel) rfl, qin 18 (by decide +kernel) rfl, qin 44 (by decide +kernel) rfl, qin 738 (by decide +kernel) rfl, by decide +kernel, by decide +kernel, by decide +kernel, by decide⟩
theorem mv_X10_302 : qMv RX10 302 yX0_giveSyllableBack cX0_giveSyllableBack 2 none 1 := ⟨qin 739 (by decide +kernel) rfl, qin 740 (by decide +kernel) rfl, qin 741 (by decide +kernel) rfl, qin 51 (by decide +kernel) rfl, qin 742 (by decide +kernel) rfl, by decide +kernel, by decide +kernel, by decide +kernel, by decide⟩
theorem mv_X0_57 : qMv RX0 57 yX9_append cX9_append 5 none 4 := ⟨qin 743 (by decide +kernel) rfl, qin 452 (by decide +kernel) rfl, qin 453 (by decide +kernel) rfl, qin 53 (by decide +kernel) rfl, qin 454 (by decide +kernel) rfl, by decide +kernel, by decide +kernel, by decide +kernel, by decide⟩
theorem mv_X10_290 : qMv RX10 290 yX10_takeBackOfOthers cX10_takeBackOfOthers 2 none 1 := ⟨qin 744 (by decide +kernel) rfl, qin 746 (by decide +kernel) rfl, qin 19 (by decide +kernel) rfl, qin 44 (by decide +kernel) rfl, qin 747 (by decide +kernel) rfl, by decide +kernel, by decide +kernel, by decide +kernel, by decide⟩
theorem mv_L_152 : qMv RL 152 yX10_all cX10_all 2 (some .int) 1 := ⟨qin 748 (by decide +kernel) rfl, qin 749 (by decide +kernel) rfl, qin 750 (by decide +kernel) rfl, qin 44 (by decide +kernel) rfl, qin 751 (by decide +kernel) rfl, by decide +kernel, by decide +kernel, by decide +kernel, by decide⟩
theorem mv_L_151 : qMv RL 151 yX11_undo cX11_undo 2 (some .int) 0 := ⟨qin 823 (by decide +kernel) rfl, qin 824 (by decide +kernel) rfl, qin 825 (by decide +kernel) rfl, qin 55 (by decide +kernel) rfl, qin 826 (by decide +kernel) rfl, by decide +kernel, by decide +kernel, by decide +kernel, by decide⟩
theorem mv_X11_68 : qMv RX11 68 yX11_finding cX11_finding 2 (some .int) 1 := ⟨qin 828 (by decide +kernel) rfl, qin 830 (by decide +kernel) rfl, qin 20 (by decide +kernel) rfl, qin 55 (by decide +kernel) rfl, qin 831 (by decide +kernel) rfl, by decide +kernel, by decide +kernel, by decide +kernel, by decide⟩
theorem mv_L_17 : qMv RL 17 yX11_line cX11_line 3 (some .int) 1 := ⟨qin 832 (by decide +kernel) rfl, qin 833 (by decide +kernel) rfl, qin 834 (by decide +kernel) rfl, qin 55 (by decide +kernel) rfl, qin 835 (by decide +kernel) rfl, by decide +kernel, by decide +kernel, by decide +kernel, by decide⟩
theorem ms_X11_60 : qMs RX11 60 yX11_within cX11_within 3 (some .boolean) 3 := ⟨qin 836 (by decide +kernel) rfl, qin 837 (by decide +kernel) rfl, qin 55 (by decide +kernel) rfl, qin 838 (by decide +kernel) rfl, by decide +kernel, by decide +kernel, by decide +kernel, by decide⟩
theorem mv_X11_74 : qMv RX11 74 yX11_keep cX11_keep 2 none 0 := ⟨qin 841 (by decide +kernel) rfl, qin 843 (by decide +kernel) rfl, qin 21 (by decide +kernel) rfl, qin 55 (by decide +kernel) rfl, qin 844 (by decide +kernel) rfl, by decide +kernel, by decide +kernel, by decide +kernel, by decide⟩
theorem mv_L_22 : qMv RL 22 yX11_frame cX11_frame 4 (some .int) 2 := ⟨qin 845 (by decide +kernel) rfl, qin 846 (by decide +kernel) rfl, qin 847 (by decide +kernel) rfl, qin 55 (by decide +kernel) rfl, qin 848 (by decide +kernel) rfl, by decide +kernel, by decide +kernel, by decide +kernel, by decide⟩
theorem mv_X11_77 : qMv RX11 77 yX11_isLine cX11_isLine 2 (some .boolean) 1 := ⟨qin 849 (by decide +kernel) rfl, qin 851 (by decide +kernel) rfl, qin 22 (by decide +kernel) rfl, qin 55 (by decide +kernel) rfl, qin 852 (by decide +kernel) rfl, by decide +kernel, by decide +kernel, by decide +kernel, by decide⟩
theorem mv_L_27 : qMv RL 27 yX11_wording cX11_wording 5 (some .int) 3 := ⟨qin 855 (by decide +kernel) rfl, qin 856 (by decide +kernel) rfl, qin 857 (by decide +kernel) rfl, qin 55 (by decide +kernel) rfl, qin 858 (by decide +kernel) rfl, by decide +kernel, by decide +kernel, by decide +kernel, by decide⟩
theorem mv_L_31 : qMv RL 31 yX11_as cX11_as 4 (some .int) 2 := ⟨qin 859 (by decide +kernel) rfl, qin 860 (by decide +kernel) rfl, qin 861 (by decide +kernel) rfl, qin 55 (by decide +kernel) rfl, qin 862 (by decide +kernel) rfl, by decide +kernel, by decide +kernel, by decide +kernel, by decide⟩
theorem mv_X11_85 : qMv RX11 85 yX11_isWording cX11_isWording 2 (some .boolean) 1 := ⟨qin 863 (by decide +kernel) rfl, qin 865 (by decide +kernel) rfl, qin 23 (by decide +kernel) rfl, qin 55 (by decide +kernel) rfl, qin 866 (by decide +kernel) rfl, by decide +kernel, by decide +kernel, by decide +kernel, by decide⟩
theorem mv_L_36 : qMv RL 36 yX11_syllable cX11_syllable 7 (some .int) 5 := ⟨qin 868 (by decide +kernel) rfl, qin 869 (by decide +kernel) rfl, qin 870 (by decide +kernel) rfl, qin 55 (by decide +kernel) rfl, qin 871 (by decide +kernel) rfl, by decide +kernel, by decide +kernel, by decide +kernel, by decide⟩
theorem ms_X11_89 : qMs RX11 89 yX11_isWord cX11_isWord 1 (some .boolean) 1 := ⟨qin 872 (by decide +kernel) rfl, qin 873 (by decide +kernel) rfl, qin 55 (by decide +kernel) rfl, qin 874 (by decide +kernel) rfl, by decide +kernel, by decide +kernel, by decide +kernel, by decide⟩
theorem mv_L_40 : qMv RL 40 yX11_cut cX11_cut 2 (some .int) 1 := ⟨qin 876 (by decide +kernel) rfl, qin 877 (by decide +kernel) rfl, qin 878 (by decide +kernel) rfl, qin 55 (by decide +kernel) rfl, qin 879 (by decide +kernel) rfl, by decide +kernel, by decide +kernel, by decide +kernel, by decide⟩
theorem mv_L_44 : qMv RL 44 yX11_of cX11_of 3 (some .int) 2 := ⟨qin 880 (by decide +kernel) rfl, qin 881 (by decide +kernel) rfl, qin 882 (by decide +kernel) rfl, qin 55 (by decide +kernel) rfl, qin 883 (by decide +kernel) rfl, by decide +kernel, by decide +kernel, by decide +kernel, by decide⟩
theorem mv_L_48 : qMv RL 48 yX11_told cX11_told 5 (some .int) 2 := ⟨qin 884 (by decide +kernel) rfl, qin 885 (by decide +kernel) rfl, qin 886 (by decide +kernel) rfl, qin 55 (by decide +kernel) rfl, qin 887 (by decide +kernel) rfl, by decide +kernel, by decide +kernel, by decide +kernel, by decide⟩
theorem mv_L_52 : qMv RL 52 yX11_shape cX11_shape 3 (some .int) 2 := ⟨qin 888 (by decide +kernel) rfl, qin 889 (by decide +kernel) rfl, qin 890 (by decide +kernel) rfl, qin 55 (by decide +kernel) rfl, qin 891 (by decide +kernel) rfl, by decide +kernel, by decide +kernel, by decide +kernel, by decide⟩
theorem mv_X11_93 : qMv RX11 93 yX11_shapeOf cX11_shapeOf 3 (some .int) 2 := ⟨qin 892 (by decide +kernel) rfl, qin 894 (by decide +kernel) rfl, qin 24 (by decide +kernel) rfl, qin 55 (by decide +kernel) rfl, qin 895 (by decide +kernel) rfl, by decide +kernel, by decide +kernel, by decide +kernel, by decide⟩
theorem mv_L_56 : qMv RL 56 yX11_cost cX11_cost 3 (some .int) 1 := ⟨qin 896 (by decide +kernel) rfl, qin 897 (by decide +kernel) rfl, qin 898 (by decide +kernel) rfl, qin 55 (by decide +kernel) rfl, qin 899 (by decide +kernel) rfl, by decide +kernel, by decide +kernel, by decide +kernel, by decide⟩
theorem mv_X11_129 : qMv RX11 129 yX11_fit cX11_fit 8 (some .int) 1 := ⟨qin 900 (by decide +kernel) rfl, qin 902 (by decide +kernel) rfl, qin 25 (by decide +kernel) rfl, qin 55 (by decide +kernel) rfl, qin 903 (by decide +kernel) rfl, by decide +kernel, by decide +kernel, by decide +kernel, by decide⟩
theorem mv_X11_116 : qMv RX11 116 yX11_pauseOf cX11_pauseOf 3 (some .int) 2 := ⟨qin 904 (by decide +kernel) rfl, qin 906 (by decide +kernel) rfl, qin 26 (by decide +kernel) rfl, qin 55 (by decide +kernel) rfl, qin 907 (by decide +kernel) rfl, by decide +kernel, by decide +kernel, by decide +kernel, by decide⟩
theorem mv_X11_104 : qMv RX11 104 yX11_leastAt cX11_leastAt 3 (some .int) 2 := ⟨qin 908 (by decide +kernel) rfl, qin 910 (by decide +kernel) rfl, qin 27 (by decide +kernel) rfl, qin 55 (by decide +kernel) rfl, qin 911 (by decide +kernel) rfl, by decide +kernel, by decide +kernel, by decide +kernel, by decide⟩
theorem mv_X11_100 : qMv RX11 100 yX11_leastOf cX11_leastOf 3 (some .int) 2 := ⟨qin 913 (by decide +kernel) rfl, qin 915 (by decide +kernel) rfl, qin 28 (by decide +kernel) rfl, qin 55 (by decide +kernel) rfl, qin 916 (by decide +kernel) rfl, by decide +kernel, by decide +kernel, by decide +kernel, by decide⟩
theorem mv_X11_97 : qMv RX11 97 yX11_syllableOf cX11_syllableOf 3 (some .int) 2 := ⟨qin 917 (by decide +kernel) rfl, qin 919 (by decide +kernel) rfl, qin 29 (by decide +kernel) rfl, qin 55 (by decide +kernel) rfl, qin 920 (by decide +kernel) rfl, by decide +kernel, by decide +kernel, by decide +kernel, by decide⟩
theorem mv_X11_119 : qMv RX11 119 yX11_mostOf cX11_mostOf 4 (some .int) 2 := ⟨qin 921 (by decide +kernel) rfl, qin 923 (by decide +kernel) rfl, qin 30 (by decide +kernel) rfl, qin 55 (by decide +kernel) rfl, qin 924 (by decide +kernel) rfl, by decide +kernel, by decide +kernel, by decide +kernel, by decide⟩
theorem mv_X11_122 : qMv RX11 122 yX11_laid cX11_laid 7 (some .int) 4 := ⟨qin 925 (by decide +kernel) rfl, qin 927 (by decide +kernel) rfl, qin 31 (by decide +kernel) rfl, qin 55 (by decide +kernel) rfl, qin 928 (by decide +kernel) rfl, by decide +kernel, by decide +kernel, by decide +kernel, by decide⟩
theorem mv_X11_107 : qMv RX11 107 yX11_offOf cX11_offOf 8 (some .int) 3 := ⟨qin 929 (by decide +kernel) rfl, qin 931 (by decide +kernel) rfl, qin 32 (by decide +kernel) rfl, qin 55 (by decide +kernel) rfl, qin 932 (by decide +kernel) rfl, by decide +kernel, by decide +kernel, by decide +kernel, by decide⟩
theorem ms_X11_111 : qMs RX11 111 yJ9_min_7cf53 cJ9_min_7cf53 2 (some .int) 2 := ⟨qin 933 (by decide +kernel) rfl, qin 410 (by decide +kernel) rfl, qin 56 (by decide +kernel) rfl, qin 411 (by decide +kernel) rfl, by decide +kernel, by decide +kernel, by decide +kernel, by decide⟩
theorem mv_X11_126 : qMv RX11 126 yX11_lengthAt cX11_lengthAt 5 (some .int) 3 := ⟨qin 934 (by decide +kernel) rfl, qin 936 (by decide +kernel) rfl, qin 33 (by decide +kernel) rfl, qin 55 (by decide +kernel) rfl, qin 937 (by decide +kernel) rfl, by decide +kernel, by decide +kernel, by decide +kernel, by decide⟩
theorem mv_L_61 : qMv RL 61 yX11_place cX11_place 4 (some .int) 3 := ⟨qin 938 (by decide +kernel) rfl, qin 939 (by decide +kernel) rfl, qin 940 (by decide +kernel) rfl, qin 55 (by decide +kernel) rfl, qin 941 (by decide +kernel) rfl, by decide +kernel, by decide +kernel, by decide +kernel, by decide⟩
theorem mv_L_65 : qMv RL 65 yX11_on cX11_on 5 (some .int) 2 := ⟨qin 942 (by decide +kernel) rfl, qin 943 (by decide +kernel) rfl, qin 944 (by decide +kernel) rfl, qin 55 (by decide +kernel) rfl, qin 945 (by decide +kernel) rfl, by decide +kernel, by decide +kernel, by decide +kernel, by decide⟩
theorem mv_L_69 : qMv RL 69 yX11_name cX11_name 4 (some .int) 2 := ⟨qin 946 (by decide +kernel) rfl, qin 947 (by decide +kernel) rfl, qin 948 (by decide +kernel) rfl, qin 55 (by decide +kernel) rfl, qin 949 (by decide +kernel) rfl, by decide +kernel, by decide +kernel, by decide +kernel, by decide⟩
theorem mv_L_74 : qMv RL 74 yX11_text cX11_text 6 (some .int) 4 := ⟨qin 950 (by decide +kernel) rfl, qin 951 (by decide +kernel) rfl, qin 952 (by decide +kernel) rfl, qin 55 (by decide +kernel) rfl, qin 953 (by decide +kernel) rfl, by decide +kernel, by decide +kernel, by decide +kernel, by decide⟩
theorem ms_X11_132 : qMs RX11 132 yX11_isLand cX11_isLand 1 (some .boolean) 1 := ⟨qin 954 (by decide +kernel) rfl, qin 955 (by decide +kernel) rfl, qin 55 (by decide +kernel) rfl, qin 956 (by decide +kernel) rfl, by decide +kernel, by decide +kernel, by decide +kernel, by decide⟩
theorem ms_X11_135 : qMs RX11 135 yX11_isDay cX11_isDay 1 (some .boolean) 1 := ⟨qin 957 (by decide +kernel) rfl, qin 958 (by decide +kernel) rfl, qin 55 (by decide +kernel) rfl, qin 959 (by decide +kernel) rfl, by decide +kernel, by decide +kernel, by decide +kernel, by decide⟩
theorem mv_L_78 : qMv RL 78 yX11_barred cX11_barred 4 (some .int) 3 := ⟨qin 960 (by decide +kernel) rfl, qin 961 (by decide +kernel) rfl, qin 962 (by decide +kernel) rfl, qin 55 (by decide +kernel) rfl, qin 963 (by decide +kernel) rfl, by decide +kernel, by decide +kernel, by decide +kernel, by decide⟩
theorem mv_X11_141 : qMv RX11 141 yX11_isBarred cX11_isBarred 7 (some .boolean) 3 := ⟨qin 964 (by decide +kernel) rfl, qin 966 (by decide +kernel) rfl, qin 34 (by decide +kernel) rfl, qin 55 (by decide +kernel) rfl, qin 967 (by decide +kernel) rfl, by decide +kernel, by decide +kernel, by decide +kernel, by decide⟩
theorem mv_X11_138 : qMv RX11 138 yX11_isOf cX11_isOf 4 (some .boolean) 3 := ⟨qin 968 (by decide +kernel) rfl, qin 970 (by decide +kernel) rfl, qin 35 (by decide +kernel) rfl, qin 55 (by decide +kernel) rfl, qin 971 (by decide +kernel) rfl, by decide +kernel, by decide +kernel, by decide +kernel, by decide⟩
theorem mv_L_82 : qMv RL 82 yX11_chosen cX11_chosen 5 (some .int) 3 := ⟨qin 972 (by decide +kernel) rfl, qin 973 (by decide +kernel) rfl, qin 974 (by decide +kernel) rfl, qin 55 (by decide +kernel) rfl, qin 975 (by decide +kernel) rfl, by decide +kernel, by decide +kernel, by decide +kernel, by decide⟩
theorem mv_X11_144 : qMv RX11 144 yX11_chosenOf cX11_chosenOf 7 (some .int) 3 := ⟨qin 976 (by decide +kernel) rfl, qin 978 (by decide +kernel) rfl, qin 36 (by decide +kernel) rfl, qin 55 (by decide +kernel) rfl, qin 979 (by decide +kernel) rfl, by decide +kernel, by decide +kernel, by decide +kernel, by decide⟩
theorem mv_L_86 : qMv RL 86 yX11_lawful cX11_lawful 4 (some .int) 3 := ⟨qin 980 (by decide +kernel) rfl, qin 981 (by decide +kernel) rfl, qin 982 (by decide +kernel) rfl, qin 55 (by decide +kernel) rfl, qin 983 (by decide +kernel) rfl, by decide +kernel, by decide +kernel, by decide +kernel, by decide⟩
theorem mv_X11_147 : qMv RX11 147 yX11_isLawful cX11_isLawful 8 (some .boolean) 3 := ⟨qin 984 (by decide +kernel) rfl, qin 986 (by decide +kernel) rfl, qin 37 (by decide +kernel) rfl, qin 55 (by decide +kernel) rfl, qin 987 (by decide +kernel) rfl, by decide +kernel, by decide +kernel, by decide +kernel, by decide⟩
theorem mv_L_90 : qMv RL 90 yX11_best cX11_best 5 (some .int) 3 := ⟨qin 988 (by decide +kernel) rfl, qin 989 (by decide +kernel) rfl, qin 990 (by decide +kernel) rfl, qin 55 (by decide +kernel) rfl, qin 991 (by decide +kernel) rfl, by decide +kernel, by decide +kernel, by decide +kernel, by decide⟩
theorem mv_X11_153 : qMv RX11 153 yX11_bestOf cX11_bestOf 8 (some .int) 3 := ⟨qin 992 (by decide +kernel) rfl, qin 994 (by decide +kernel) rfl, qin 38 (by decide +kernel) rfl, qin 55 (by decide +kernel) rfl, qin 995 (by decide +kernel) rfl, by decide +kernel, by decide +kernel, by decide +kernel, by decide⟩
theorem mv_L_94 : qMv RL 94 yX11_worth cX11_worth 6 (some .int) 2 := ⟨qin 996 (by decide +kernel) rfl, qin 997 (by decide +kernel) rfl, qin 998 (by decide +kernel) rfl, qin 55 (by decide +kernel) rfl, qin 999 (by decide +kernel) rfl, by decide +kernel, by decide +kernel, by decide +kernel, by decide⟩
theorem mv_L_98 : qMv RL 98 yX11_actor cX11_actor 4 (some .int) 2 := ⟨qin 1000 (by decide +kernel) rfl, qin 1001 (by decide +kernel) rfl, qin 1002 (by decide +kernel) rfl, qin 55 (by decide +kernel) rfl, qin 1003 (by decide +kernel) rfl, by decide +kernel, by decide +kernel, by decide +kernel, by decide⟩
theorem mv_L_102 : qMv RL 102 yX11_free cX11_free 4 (some .int) 2 := ⟨qin 1004 (by decide +kernel) rfl, qin 1005 (by decide +kernel) rfl, qin 1006 (by decide +kernel) rfl, qin 55 (by decide +kernel) rfl, qin 1007 (by decide +kernel) rfl, by decide +kernel, by decide +kernel, by decide +kernel, by decide⟩
theorem mv_L_106 : qMv RL 106 yX11_room cX11_room 4 (some .int) 2 := ⟨qin 1008 (by decide +kernel) rfl, qin 1009 (by decide +kernel) rfl, qin 1010 (by decide +kernel) rfl, qin 55 (by decide +kernel) rfl, qin 1011 (by decide +kernel) rfl, by decide +kernel, by decide +kernel, by decide +kernel, by decide⟩
theorem mv_L_110 : qMv RL 110 yX11_loop cX11_loop 3 (some .int) 1 := ⟨qin 1012 (by decide +kernel) rfl, qin 1013 (by decide +kernel) rfl, qin 1014 (by decide +kernel) rfl, qin 55 (by decide +kernel) rfl, qin 1015 (by decide +kernel) rfl, by decide +kernel, by decide +kernel, by decide +kernel, by decide⟩
theorem mv_L_115 : qMv RL 115 yX11_unloop cX11_unloop 1 (some .int) 0 := ⟨qin 1016 (by decide +kernel) rfl, qin 1017 (by decide +kernel) rfl, qin 1018 (by decide +kernel) rfl, qin 55 (by decide +kernel) rfl, qin 1019 (by decide +kernel) rfl, by decide +kernel, by decide +kernel, by decide +kernel, by decide⟩
theorem mv_L_119 : qMv RL 119 yX11_plan cX11_plan 1 (some .int) 0 := ⟨qin 1020 (by decide +kernel) rfl, qin 1021 (by decide +kernel) rfl, qin 1022 (by decide +kernel) rfl, qin 55 (by decide +kernel) rfl, qin 1023 (by decide +kernel) rfl, by decide +kernel, by decide +kernel, by decide +kernel, by decide⟩
theorem mv_X11_174 : qMv RX11 174 yX11_findPlan cX11_findPlan 3 none 0 := ⟨qin 1024 (by decide +kernel) rfl, qin 1026 (by decide +kernel) rfl, qin 39 (by decide +kernel) rfl, qin 55 (by decide +kernel) rfl, qin 1027 (by decide +kernel) rfl, by decide +kernel, by decide +kernel, by decide +kernel, by decide⟩
theorem mv_X11_159 : qMv RX11 159 yX11_findLoops cX11_findLoops 4 none 0 := ⟨qin 1028 (by decide +kernel) rfl, qin 1030 (by decide +kernel) rfl, qin 40 (by decide +kernel) rfl, qin 55 (by decide +kernel) rfl, qin 1031 (by decide +kernel) rfl, by decide +kernel, by decide +kernel, by decide +kernel, by decide⟩
theorem ms_X11_156 : qMs RX11 156 yX11_many cX11_many 3 (some .int) 1 := ⟨qin 1032 (by decide +kernel) rfl, qin 1033 (by decide +kernel) rfl, qin 55 (by decide +kernel) rfl, qin 1034 (by decide +kernel) rfl, by decide +kernel, by decide +kernel, by decide +kernel, by decide⟩
theorem mv_X11_168 : qMv RX11 168 yX11_callsOf cX11_callsOf 8 (some .int) 1 := ⟨qin 1035 (by decide +kernel) rfl, qin 1037 (by decide +kernel) rfl, qin 41 (by decide +kernel) rfl, qin 55 (by decide +kernel) rfl, qin 1038 (by decide +kernel) rfl, by decide +kernel, by decide +kernel, by decide +kernel, by decide⟩
theorem mv_L_123 : qMv RL 123 yX11_planned cX11_planned 2 (some .int) 1 := ⟨qin 1039 (by decide +kernel) rfl, qin 1040 (by decide +kernel) rfl, qin 1041 (by decide +kernel) rfl, qin 55 (by decide +kernel) rfl, qin 1042 (by decide +kernel) rfl, by decide +kernel, by decide +kernel, by decide +kernel, by decide⟩
theorem mv_L_127 : qMv RL 127 yX11_plans cX11_plans 1 (some .int) 0 := ⟨qin 1043 (by decide +kernel) rfl, qin 1044 (by decide +kernel) rfl, qin 1045 (by decide +kernel) rfl, qin 55 (by decide +kernel) rfl, qin 1046 (by decide +kernel) rfl, by decide +kernel, by decide +kernel, by decide +kernel, by decide⟩
theorem mv_L_131 : qMv RL 131 yX11_change cX11_change 6 (some .int) 2 := ⟨qin 1047 (by decide +kernel) rfl, qin 1048 (by decide +kernel) rfl, qin 1049 (by decide +kernel) rfl, qin 55 (by decide +kernel) rfl, qin 1050 (by decide +kernel) rfl, by decide +kernel, by decide +kernel, by decide +kernel, by decide⟩
theorem ms_X11_184 : qMs RX11 184 yX11_isSheet cX11_isSheet 1 (some .boolean) 1 := ⟨qin 1051 (by decide +kernel) rfl, qin 1052 (by decide +kernel) rfl, qin 55 (by decide +kernel) rfl, qin 1053 (by decide +kernel) rfl, by decide +kernel, by decide +kernel, by decide +kernel, by decide⟩
theorem mv_X11_188 : qMv RX11 188 yX11_keptOf cX11_keptOf 11 (some .int) 4 := ⟨qin 1055 (by decide +kernel) rfl, qin 1057 (by decide +kernel) rfl, qin 42 (by decide +kernel) rfl, qin 55 (by decide +kernel) rfl, qin 1058 (by decide +kernel) rfl, by decide +kernel, by decide +kernel, by decide +kernel, by decide⟩
theorem ms_X11_177 : qMs RX11 177 yJ9_max_7cf53 cJ9_max_7cf53 2 (some .int) 2 := ⟨qin 1059 (by decide +kernel) rfl, qin 686 (by decide +kernel) rfl, qin 56 (by decide +kernel) rfl, qin 687 (by decide +kernel) rfl, by decide +kernel, by decide +kernel, by decide +kernel, by decide⟩
theorem ms_X11_180 : qMs RX11 180 yX11_shapeIn cX11_shapeIn 3 (some .int) 2 := ⟨qin 1060 (by decide +kernel) rfl, qin 1061 (by decide +kernel) rfl, qin 55 (by decide +kernel) rfl, qin 1062 (by decide +kernel) rfl, by decide +kernel, by decide +kernel, by decide +kernel, by decide⟩
theorem mv_L_135 : qMv RL 135 yX11_kept cX11_kept 3 (some .int) 2 := ⟨qin 1063 (by decide +kernel) rfl, qin 1064 (by decide +kernel) rfl, qin 1065 (by decide +kernel) rfl, qin 55 (by decide +kernel) rfl, qin 1066 (by decide +kernel) rfl, by decide +kernel, by decide +kernel, by decide +kernel, by decide⟩
theorem mv_L_139 : qMv RL 139 yX11_sheet cX11_sheet 5 (some .int) 3 := ⟨qin 1067 (by decide +kernel) rfl, qin 1068 (by decide +kernel) rfl, qin 1069 (by decide +kernel) rfl, qin 55 (by decide +kernel) rfl, qin 1070 (by decide +kernel) rfl, by decide +kernel, by decide +kernel, by decide +kernel, by decide⟩
theorem mv_L_143 : qMv RL 143 yX11_put cX11_put 5 (some .int) 3 := ⟨qin 1071 (by decide +kernel) rfl, qin 1072 (by decide +kernel) rfl, qin 1073 (by decide +kernel) rfl, qin 55 (by decide +kernel) rfl, qin 1074 (by decide +kernel) rfl, by decide +kernel, by decide +kernel, by decide +kernel, by decide⟩
theorem mv_L_147 : qMv RL 147 yX11_copy cX11_copy 7 (some .int) 5 := ⟨qin 1075 (by decide +kernel) rfl, qin 1076 (by decide +kernel) rfl, qin 1077 (by decide +kernel) rfl, qin 55 (by decide +kernel) rfl, qin 1078 (by decide +kernel) rfl, by decide +kernel, by decide +kernel, by decide +kernel, by decide⟩
theorem mv_L_155 : qMv RL 155 yX11_all cX11_all 2 (some .int) 1 := ⟨qin 1079 (by decide +kernel) rfl, qin 1080 (by decide +kernel) rfl, qin 1081 (by decide +kernel) rfl, qin 55 (by decide +kernel) rfl, qin 1082 (by decide +kernel) rfl, by decide +kernel, by decide +kernel, by decide +kernel, by decide⟩
theorem ac_nat : Cond.native arraycopyName ∈ qTbl := qin 663 (by decide +kernel) rfl
theorem ac_st : Cond.static arraycopyName ∈ qTbl := qin 662 (by decide +kernel) rfl
theorem ac_ini : Cond.initialized "java/lang/System" ∈ qTbl := qin 58 (by decide +kernel) rfl
end
section
theorem dX0_init_0 : decode cX0_init 0 = .ok (.aload_n 0, 1) := by decide +kernel
theorem dX0_init_1 : decode cX0_init 1 = .ok (.invokespecial 3, 3) := by decide +kernel
theorem dX0_init_4 : decode cX0_init 4 = .ok (.aload_n 0, 1) := by decide +kernel
theorem dX0_init_5 : decode cX0_init 5 = .ok (.bipush 24, 2) := by decide +kernel
theorem dX0_init_7 : decode cX0_init 7 = .ok (.newarray .int, 2) := by decide +kernel
theorem dX0_init_9 : decode cX0_init 9 = .ok (.putfield 9, 3) := by decide +kernel
theorem dX0_init_12 : decode cX0_init 12 = .ok (.aload_n 0, 1) := by decide +kernel
theorem dX0_init_13 : decode cX0_init 13 = .ok (.iconst 0, 1) := by decide +kernel
theorem dX0_init_14 : decode cX0_init 14 = .ok (.putfield 15, 3) := by decide +kernel
theorem dX0_init_17 : decode cX0_init 17 = .ok (.aload_n 0, 1) := by decide +kernel
theorem dX0_init_18 : decode cX0_init 18 = .ok (.iconst 0, 1) := by decide +kernel
theorem dX0_init_19 : decode cX0_init 19 = .ok (.putfield 19, 3) := by decide +kernel
theorem dX0_init_22 : decode cX0_init 22 = .ok (.aload_n 0, 1) := by decide +kernel
theorem dX0_init_23 : decode cX0_init 23 = .ok (.iconst 0, 1) := by decide +kernel
theorem dX0_init_24 : decode cX0_init 24 = .ok (.putfield 22, 3) := by decide +kernel
theorem dX0_init_27 : decode cX0_init 27 = .ok (.aload_n 0, 1) := by decide +kernel
theorem dX0_init_28 : decode cX0_init 28 = .ok (.iconst 0, 1) := by decide +kernel
theorem dX0_init_29 : decode cX0_init 29 = .ok (.putfield 25, 3) := by decide +kernel
theorem dX0_init_32 : decode cX0_init 32 = .ok (.return_, 1) := by decide +kernel
theorem dX0_keepFrames_0 : decode cX0_keepFrames 0 = .ok (.aload_n 1, 1) := by decide +kernel
theorem dX0_keepFrames_1 : decode cX0_keepFrames 1 = .ok (.getfield 28, 3) := by decide +kernel
theorem dX0_keepFrames_4 : decode cX0_keepFrames 4 = .ok (.iconst 0, 1) := by decide +kernel
theorem dX0_keepFrames_5 : decode cX0_keepFrames 5 = .ok (.aload_n 0, 1) := by decide +kernel
theorem dX0_keepFrames_6 : decode cX0_keepFrames 6 = .ok (.getfield 9, 3) := by decide +kernel
theorem dX0_keepFrames_9 : decode cX0_keepFrames 9 = .ok (.iconst 0, 1) := by decide +kernel
theorem dX0_keepFrames_10 : decode cX0_keepFrames 10 = .ok (.aload_n 1, 1) := by decide +kernel
theorem dX0_keepFrames_11 : decode cX0_keepFrames 11 = .ok (.getfield 33, 3) := by decide +kernel
theorem dX0_keepFrames_14 : decode cX0_keepFrames 14 = .ok (.invokestatic 36, 3) := by decide +kernel
theorem dX0_keepFrames_17 : decode cX0_keepFrames 17 = .ok (.aload_n 0, 1) := by decide +kernel
theorem dX0_keepFrames_18 : decode cX0_keepFrames 18 = .ok (.aload_n 1, 1) := by decide +kernel
theorem dX0_keepFrames_19 : decode cX0_keepFrames 19 = .ok (.getfield 33, 3) := by decide +kernel
theorem dX0_keepFrames_22 : decode cX0_keepFrames 22 = .ok (.putfield 15, 3) := by decide +kernel
theorem dX0_keepFrames_25 : decode cX0_keepFrames 25 = .ok (.return_, 1) := by decide +kernel
theorem dX0_keepSyllable_0 : decode cX0_keepSyllable 0 = .ok (.aload_n 1, 1) := by decide +kernel
theorem dX0_keepSyllable_1 : decode cX0_keepSyllable 1 = .ok (.getfield 42, 3) := by decide +kernel
theorem dX0_keepSyllable_4 : decode cX0_keepSyllable 4 = .ok (.istore_n 2, 1) := by decide +kernel
theorem dX0_keepSyllable_5 : decode cX0_keepSyllable 5 = .ok (.aload_n 0, 1) := by decide +kernel
theorem dX0_keepSyllable_6 : decode cX0_keepSyllable 6 = .ok (.getfield 9, 3) := by decide +kernel
theorem dX0_keepSyllable_9 : decode cX0_keepSyllable 9 = .ok (.iconst 0, 1) := by decide +kernel
theorem dX0_keepSyllable_10 : decode cX0_keepSyllable 10 = .ok (.aload_n 1, 1) := by decide +kernel
theorem dX0_keepSyllable_11 : decode cX0_keepSyllable 11 = .ok (.getfield 47, 3) := by decide +kernel
theorem dX0_keepSyllable_14 : decode cX0_keepSyllable 14 = .ok (.iload_n 2, 1) := by decide +kernel
theorem dX0_keepSyllable_15 : decode cX0_keepSyllable 15 = .ok (.iaload, 1) := by decide +kernel
theorem dX0_keepSyllable_16 : decode cX0_keepSyllable 16 = .ok (.iastore, 1) := by decide +kernel
theorem dX0_keepSyllable_17 : decode cX0_keepSyllable 17 = .ok (.aload_n 0, 1) := by decide +kernel
theorem dX0_keepSyllable_18 : decode cX0_keepSyllable 18 = .ok (.getfield 9, 3) := by decide +kernel
theorem dX0_keepSyllable_21 : decode cX0_keepSyllable 21 = .ok (.iconst 1, 1) := by decide +kernel
theorem dX0_keepSyllable_22 : decode cX0_keepSyllable 22 = .ok (.aload_n 1, 1) := by decide +kernel
theorem dX0_keepSyllable_23 : decode cX0_keepSyllable 23 = .ok (.getfield 48, 3) := by decide +kernel
theorem dX0_keepSyllable_26 : decode cX0_keepSyllable 26 = .ok (.iload_n 2, 1) := by decide +kernel
theorem dX0_keepSyllable_27 : decode cX0_keepSyllable 27 = .ok (.iaload, 1) := by decide +kernel
theorem dX0_keepSyllable_28 : decode cX0_keepSyllable 28 = .ok (.iastore, 1) := by decide +kernel
theorem dX0_keepSyllable_29 : decode cX0_keepSyllable 29 = .ok (.aload_n 0, 1) := by decide +kernel
theorem dX0_keepSyllable_30 : decode cX0_keepSyllable 30 = .ok (.getfield 9, 3) := by decide +kernel
theorem dX0_keepSyllable_33 : decode cX0_keepSyllable 33 = .ok (.iconst 2, 1) := by decide +kernel
theorem dX0_keepSyllable_34 : decode cX0_keepSyllable 34 = .ok (.aload_n 1, 1) := by decide +kernel
theorem dX0_keepSyllable_35 : decode cX0_keepSyllable 35 = .ok (.getfield 51, 3) := by decide +kernel
theorem dX0_keepSyllable_38 : decode cX0_keepSyllable 38 = .ok (.iload_n 2, 1) := by decide +kernel
theorem dX0_keepSyllable_39 : decode cX0_keepSyllable 39 = .ok (.iaload, 1) := by decide +kernel
theorem dX0_keepSyllable_40 : decode cX0_keepSyllable 40 = .ok (.iastore, 1) := by decide +kernel
theorem dX0_keepSyllable_41 : decode cX0_keepSyllable 41 = .ok (.aload_n 0, 1) := by decide +kernel
theorem dX0_keepSyllable_42 : decode cX0_keepSyllable 42 = .ok (.getfield 9, 3) := by decide +kernel
theorem dX0_keepSyllable_45 : decode cX0_keepSyllable 45 = .ok (.iconst 3, 1) := by decide +kernel
theorem dX0_keepSyllable_46 : decode cX0_keepSyllable 46 = .ok (.aload_n 1, 1) := by decide +kernel
theorem dX0_keepSyllable_47 : decode cX0_keepSyllable 47 = .ok (.getfield 54, 3) := by decide +kernel
theorem dX0_keepSyllable_50 : decode cX0_keepSyllable 50 = .ok (.iload_n 2, 1) := by decide +kernel
theorem dX0_keepSyllable_51 : decode cX0_keepSyllable 51 = .ok (.iaload, 1) := by decide +kernel
theorem dX0_keepSyllable_52 : decode cX0_keepSyllable 52 = .ok (.iastore, 1) := by decide +kernel
theorem dX0_keepSyllable_53 : decode cX0_keepSyllable 53 = .ok (.return_, 1) := by decide +kernel
theorem dX0_giveSyllableBack_0 : decode cX0_giveSyllableBack 0 = .ok (.aload_n 1, 1) := by decide +kernel
theorem dX0_giveSyllableBack_1 : decode cX0_giveSyllableBack 1 = .ok (.aload_n 0, 1) := by decide +kernel
theorem dX0_giveSyllableBack_2 : decode cX0_giveSyllableBack 2 = .ok (.getfield 9, 3) := by decide +kernel
theorem dX0_giveSyllableBack_5 : decode cX0_giveSyllableBack 5 = .ok (.iconst 0, 1) := by decide +kernel
theorem dX0_giveSyllableBack_6 : decode cX0_giveSyllableBack 6 = .ok (.iaload, 1) := by decide +kernel
theorem dX0_giveSyllableBack_7 : decode cX0_giveSyllableBack 7 = .ok (.aload_n 0, 1) := by decide +kernel
theorem dX0_giveSyllableBack_8 : decode cX0_giveSyllableBack 8 = .ok (.getfield 9, 3) := by decide +kernel
theorem dX0_giveSyllableBack_11 : decode cX0_giveSyllableBack 11 = .ok (.iconst 1, 1) := by decide +kernel
theorem dX0_giveSyllableBack_12 : decode cX0_giveSyllableBack 12 = .ok (.iaload, 1) := by decide +kernel
theorem dX0_giveSyllableBack_13 : decode cX0_giveSyllableBack 13 = .ok (.aload_n 0, 1) := by decide +kernel
theorem dX0_giveSyllableBack_14 : decode cX0_giveSyllableBack 14 = .ok (.getfield 9, 3) := by decide +kernel
theorem dX0_giveSyllableBack_17 : decode cX0_giveSyllableBack 17 = .ok (.iconst 2, 1) := by decide +kernel
theorem dX0_giveSyllableBack_18 : decode cX0_giveSyllableBack 18 = .ok (.iaload, 1) := by decide +kernel
theorem dX0_giveSyllableBack_19 : decode cX0_giveSyllableBack 19 = .ok (.aload_n 0, 1) := by decide +kernel
theorem dX0_giveSyllableBack_20 : decode cX0_giveSyllableBack 20 = .ok (.getfield 9, 3) := by decide +kernel
theorem dX0_giveSyllableBack_23 : decode cX0_giveSyllableBack 23 = .ok (.iconst 3, 1) := by decide +kernel
theorem dX0_giveSyllableBack_24 : decode cX0_giveSyllableBack 24 = .ok (.iaload, 1) := by decide +kernel
theorem dX0_giveSyllableBack_25 : decode cX0_giveSyllableBack 25 = .ok (.invokevirtual 57, 3) := by decide +kernel
theorem dX0_giveSyllableBack_28 : decode cX0_giveSyllableBack 28 = .ok (.return_, 1) := by decide +kernel
theorem dX1_init_0 : decode cX1_init 0 = .ok (.aload_n 0, 1) := by decide +kernel
theorem dX1_init_1 : decode cX1_init 1 = .ok (.invokespecial 3, 3) := by decide +kernel
theorem dX1_init_4 : decode cX1_init 4 = .ok (.aload_n 0, 1) := by decide +kernel
theorem dX1_init_5 : decode cX1_init 5 = .ok (.bipush 6, 2) := by decide +kernel
theorem dX1_init_7 : decode cX1_init 7 = .ok (.newarray .int, 2) := by decide +kernel
theorem dX1_init_9 : decode cX1_init 9 = .ok (.putfield 9, 3) := by decide +kernel
theorem dX1_init_12 : decode cX1_init 12 = .ok (.aload_n 0, 1) := by decide +kernel
theorem dX1_init_13 : decode cX1_init 13 = .ok (.bipush 8, 2) := by decide +kernel
theorem dX1_init_15 : decode cX1_init 15 = .ok (.newarray .int, 2) := by decide +kernel
theorem dX1_init_17 : decode cX1_init 17 = .ok (.putfield 15, 3) := by decide +kernel
theorem dX1_init_20 : decode cX1_init 20 = .ok (.aload_n 0, 1) := by decide +kernel
theorem dX1_init_21 : decode cX1_init 21 = .ok (.iconst 4, 1) := by decide +kernel
theorem dX1_init_22 : decode cX1_init 22 = .ok (.newarray .int, 2) := by decide +kernel
theorem dX1_init_24 : decode cX1_init 24 = .ok (.putfield 18, 3) := by decide +kernel
theorem dX1_init_27 : decode cX1_init 27 = .ok (.aload_n 0, 1) := by decide +kernel
theorem dX1_init_28 : decode cX1_init 28 = .ok (.bipush 7, 2) := by decide +kernel
theorem dX1_init_30 : decode cX1_init 30 = .ok (.newarray .int, 2) := by decide +kernel
theorem dX1_init_32 : decode cX1_init 32 = .ok (.putfield 21, 3) := by decide +kernel
theorem dX1_init_35 : decode cX1_init 35 = .ok (.aload_n 0, 1) := by decide +kernel
theorem dX1_init_36 : decode cX1_init 36 = .ok (.iconst 0, 1) := by decide +kernel
theorem dX1_init_37 : decode cX1_init 37 = .ok (.putfield 24, 3) := by decide +kernel
theorem dX1_init_40 : decode cX1_init 40 = .ok (.iconst 0, 1) := by decide +kernel
theorem dX1_init_41 : decode cX1_init 41 = .ok (.istore_n 1, 1) := by decide +kernel
theorem dX1_init_42 : decode cX1_init 42 = .ok (.iload_n 1, 1) := by decide +kernel
theorem dX1_init_43 : decode cX1_init 43 = .ok (.bipush 6, 2) := by decide +kernel
theorem dX1_init_45 : decode cX1_init 45 = .ok (.if_icmp .ge 16, 3) := by decide +kernel
theorem dX1_init_48 : decode cX1_init 48 = .ok (.aload_n 0, 1) := by decide +kernel
theorem dX1_init_49 : decode cX1_init 49 = .ok (.getfield 9, 3) := by decide +kernel
theorem dX1_init_52 : decode cX1_init 52 = .ok (.iload_n 1, 1) := by decide +kernel
theorem dX1_init_53 : decode cX1_init 53 = .ok (.iconst (-1), 1) := by decide +kernel
theorem dX1_init_54 : decode cX1_init 54 = .ok (.iastore, 1) := by decide +kernel
theorem dX1_init_55 : decode cX1_init 55 = .ok (.iinc 1 1, 3) := by decide +kernel
theorem dX1_init_58 : decode cX1_init 58 = .ok (.goto (-16), 3) := by decide +kernel
theorem dX1_init_61 : decode cX1_init 61 = .ok (.iconst 0, 1) := by decide +kernel
theorem dX1_init_62 : decode cX1_init 62 = .ok (.istore_n 1, 1) := by decide +kernel
theorem dX1_init_63 : decode cX1_init 63 = .ok (.iload_n 1, 1) := by decide +kernel
theorem dX1_init_64 : decode cX1_init 64 = .ok (.bipush 8, 2) := by decide +kernel
theorem dX1_init_66 : decode cX1_init 66 = .ok (.if_icmp .ge 17, 3) := by decide +kernel
theorem dX1_init_69 : decode cX1_init 69 = .ok (.aload_n 0, 1) := by decide +kernel
theorem dX1_init_70 : decode cX1_init 70 = .ok (.getfield 15, 3) := by decide +kernel
theorem dX1_init_73 : decode cX1_init 73 = .ok (.iload_n 1, 1) := by decide +kernel
theorem dX1_init_74 : decode cX1_init 74 = .ok (.bipush 15, 2) := by decide +kernel
theorem dX1_init_76 : decode cX1_init 76 = .ok (.iastore, 1) := by decide +kernel
theorem dX1_init_77 : decode cX1_init 77 = .ok (.iinc 1 1, 3) := by decide +kernel
theorem dX1_init_80 : decode cX1_init 80 = .ok (.goto (-17), 3) := by decide +kernel
theorem dX1_init_83 : decode cX1_init 83 = .ok (.iconst 0, 1) := by decide +kernel
theorem dX1_init_84 : decode cX1_init 84 = .ok (.istore_n 1, 1) := by decide +kernel
theorem dX1_init_85 : decode cX1_init 85 = .ok (.iload_n 1, 1) := by decide +kernel
theorem dX1_init_86 : decode cX1_init 86 = .ok (.iconst 4, 1) := by decide +kernel
theorem dX1_init_87 : decode cX1_init 87 = .ok (.if_icmp .ge 17, 3) := by decide +kernel
theorem dX1_init_90 : decode cX1_init 90 = .ok (.aload_n 0, 1) := by decide +kernel
theorem dX1_init_91 : decode cX1_init 91 = .ok (.getfield 18, 3) := by decide +kernel
theorem dX1_init_94 : decode cX1_init 94 = .ok (.iload_n 1, 1) := by decide +kernel
theorem dX1_init_95 : decode cX1_init 95 = .ok (.bipush 60, 2) := by decide +kernel
theorem dX1_init_97 : decode cX1_init 97 = .ok (.iastore, 1) := by decide +kernel
theorem dX1_init_98 : decode cX1_init 98 = .ok (.iinc 1 1, 3) := by decide +kernel
theorem dX1_init_101 : decode cX1_init 101 = .ok (.goto (-16), 3) := by decide +kernel
theorem dX1_init_104 : decode cX1_init 104 = .ok (.return_, 1) := by decide +kernel
theorem dX1_appendLoop_0 : decode cX1_appendLoop 0 = .ok (.aload_n 0, 1) := by decide +kernel
theorem dX1_appendLoop_1 : decode cX1_appendLoop 1 = .ok (.getfield 21, 3) := by decide +kernel
theorem dX1_appendLoop_4 : decode cX1_appendLoop 4 = .ok (.aload_n 0, 1) := by decide +kernel
theorem dX1_appendLoop_5 : decode cX1_appendLoop 5 = .ok (.getfield 24, 3) := by decide +kernel
theorem dX1_appendLoop_8 : decode cX1_appendLoop 8 = .ok (.iload_n 1, 1) := by decide +kernel
theorem dX1_appendLoop_9 : decode cX1_appendLoop 9 = .ok (.iastore, 1) := by decide +kernel
theorem dX1_appendLoop_10 : decode cX1_appendLoop 10 = .ok (.aload_n 0, 1) := by decide +kernel
theorem dX1_appendLoop_11 : decode cX1_appendLoop 11 = .ok (.dup, 1) := by decide +kernel
theorem dX1_appendLoop_12 : decode cX1_appendLoop 12 = .ok (.getfield 24, 3) := by decide +kernel
theorem dX1_appendLoop_15 : decode cX1_appendLoop 15 = .ok (.iconst 1, 1) := by decide +kernel
theorem dX1_appendLoop_16 : decode cX1_appendLoop 16 = .ok (.iadd, 1) := by decide +kernel
theorem dX1_appendLoop_17 : decode cX1_appendLoop 17 = .ok (.putfield 24, 3) := by decide +kernel
theorem dX1_appendLoop_20 : decode cX1_appendLoop 20 = .ok (.return_, 1) := by decide +kernel
theorem dX1_actorsOfLoop_0 : decode cX1_actorsOfLoop 0 = .ok (.iconst 0, 1) := by decide +kernel
theorem dX1_actorsOfLoop_1 : decode cX1_actorsOfLoop 1 = .ok (.istore_n 3, 1) := by decide +kernel
theorem dX1_actorsOfLoop_2 : decode cX1_actorsOfLoop 2 = .ok (.iconst 0, 1) := by decide +kernel
theorem dX1_actorsOfLoop_3 : decode cX1_actorsOfLoop 3 = .ok (.istore 4, 2) := by decide +kernel
theorem dX1_actorsOfLoop_5 : decode cX1_actorsOfLoop 5 = .ok (.iload 4, 2) := by decide +kernel
theorem dX1_actorsOfLoop_7 : decode cX1_actorsOfLoop 7 = .ok (.bipush 12, 2) := by decide +kernel
theorem dX1_actorsOfLoop_9 : decode cX1_actorsOfLoop 9 = .ok (.if_icmp .ge 50, 3) := by decide +kernel
theorem dX1_actorsOfLoop_12 : decode cX1_actorsOfLoop 12 = .ok (.aload_n 0, 1) := by decide +kernel
theorem dX1_actorsOfLoop_13 : decode cX1_actorsOfLoop 13 = .ok (.getfield 9, 3) := by decide +kernel
theorem dX1_actorsOfLoop_16 : decode cX1_actorsOfLoop 16 = .ok (.aload_n 2, 1) := by decide +kernel
theorem dX1_actorsOfLoop_17 : decode cX1_actorsOfLoop 17 = .ok (.iload 4, 2) := by decide +kernel
theorem dX1_actorsOfLoop_19 : decode cX1_actorsOfLoop 19 = .ok (.aaload, 1) := by decide +kernel
theorem dX1_actorsOfLoop_20 : decode cX1_actorsOfLoop 20 = .ok (.getfield 28, 3) := by decide +kernel
theorem dX1_actorsOfLoop_23 : decode cX1_actorsOfLoop 23 = .ok (.iaload, 1) := by decide +kernel
theorem dX1_actorsOfLoop_24 : decode cX1_actorsOfLoop 24 = .ok (.istore 5, 2) := by decide +kernel
theorem dX1_actorsOfLoop_26 : decode cX1_actorsOfLoop 26 = .ok (.aload_n 0, 1) := by decide +kernel
theorem dX1_actorsOfLoop_27 : decode cX1_actorsOfLoop 27 = .ok (.getfield 21, 3) := by decide +kernel
theorem dX1_actorsOfLoop_30 : decode cX1_actorsOfLoop 30 = .ok (.iload_n 1, 1) := by decide +kernel
theorem dX1_actorsOfLoop_31 : decode cX1_actorsOfLoop 31 = .ok (.iaload, 1) := by decide +kernel
theorem dX1_actorsOfLoop_32 : decode cX1_actorsOfLoop 32 = .ok (.iload 4, 2) := by decide +kernel
theorem dX1_actorsOfLoop_34 : decode cX1_actorsOfLoop 34 = .ok (.ishr, 1) := by decide +kernel
theorem dX1_actorsOfLoop_35 : decode cX1_actorsOfLoop 35 = .ok (.iconst 1, 1) := by decide +kernel
theorem dX1_actorsOfLoop_36 : decode cX1_actorsOfLoop 36 = .ok (.iand, 1) := by decide +kernel
theorem dX1_actorsOfLoop_37 : decode cX1_actorsOfLoop 37 = .ok (.iconst 1, 1) := by decide +kernel
theorem dX1_actorsOfLoop_38 : decode cX1_actorsOfLoop 38 = .ok (.if_icmp .ne 15, 3) := by decide +kernel
theorem dX1_actorsOfLoop_41 : decode cX1_actorsOfLoop 41 = .ok (.iload 5, 2) := by decide +kernel
theorem dX1_actorsOfLoop_43 : decode cX1_actorsOfLoop 43 = .ok (.ifCond .lt 10, 3) := by decide +kernel
theorem dX1_actorsOfLoop_46 : decode cX1_actorsOfLoop 46 = .ok (.iload_n 3, 1) := by decide +kernel
theorem dX1_actorsOfLoop_47 : decode cX1_actorsOfLoop 47 = .ok (.iconst 1, 1) := by decide +kernel
theorem dX1_actorsOfLoop_48 : decode cX1_actorsOfLoop 48 = .ok (.iload 5, 2) := by decide +kernel
theorem dX1_actorsOfLoop_50 : decode cX1_actorsOfLoop 50 = .ok (.ishl, 1) := by decide +kernel
theorem dX1_actorsOfLoop_51 : decode cX1_actorsOfLoop 51 = .ok (.ior, 1) := by decide +kernel
theorem dX1_actorsOfLoop_52 : decode cX1_actorsOfLoop 52 = .ok (.istore_n 3, 1) := by decide +kernel
theorem dX1_actorsOfLoop_53 : decode cX1_actorsOfLoop 53 = .ok (.iinc 4 1, 3) := by decide +kernel
theorem dX1_actorsOfLoop_56 : decode cX1_actorsOfLoop 56 = .ok (.goto (-51), 3) := by decide +kernel
theorem dX1_actorsOfLoop_59 : decode cX1_actorsOfLoop 59 = .ok (.iload_n 3, 1) := by decide +kernel
theorem dX1_actorsOfLoop_60 : decode cX1_actorsOfLoop 60 = .ok (.ireturn, 1) := by decide +kernel
theorem dX1_daysOfActors_0 : decode cX1_daysOfActors 0 = .ok (.bipush 15, 2) := by decide +kernel
theorem dX1_daysOfActors_2 : decode cX1_daysOfActors 2 = .ok (.istore_n 2, 1) := by decide +kernel
theorem dX1_daysOfActors_3 : decode cX1_daysOfActors 3 = .ok (.iconst 0, 1) := by decide +kernel
theorem dX1_daysOfActors_4 : decode cX1_daysOfActors 4 = .ok (.istore_n 3, 1) := by decide +kernel
theorem dX1_daysOfActors_5 : decode cX1_daysOfActors 5 = .ok (.iload_n 3, 1) := by decide +kernel
theorem dX1_daysOfActors_6 : decode cX1_daysOfActors 6 = .ok (.bipush 8, 2) := by decide +kernel
theorem dX1_daysOfActors_8 : decode cX1_daysOfActors 8 = .ok (.if_icmp .ge 27, 3) := by decide +kernel
theorem dX1_daysOfActors_11 : decode cX1_daysOfActors 11 = .ok (.iload_n 1, 1) := by decide +kernel
theorem dX1_daysOfActors_12 : decode cX1_daysOfActors 12 = .ok (.iload_n 3, 1) := by decide +kernel
theorem dX1_daysOfActors_13 : decode cX1_daysOfActors 13 = .ok (.ishr, 1) := by decide +kernel
theorem dX1_daysOfActors_14 : decode cX1_daysOfActors 14 = .ok (.iconst 1, 1) := by decide +kernel
theorem dX1_daysOfActors_15 : decode cX1_daysOfActors 15 = .ok (.iand, 1) := by decide +kernel
theorem dX1_daysOfActors_16 : decode cX1_daysOfActors 16 = .ok (.iconst 1, 1) := by decide +kernel
theorem dX1_daysOfActors_17 : decode cX1_daysOfActors 17 = .ok (.if_icmp .ne 12, 3) := by decide +kernel
theorem dX1_daysOfActors_20 : decode cX1_daysOfActors 20 = .ok (.iload_n 2, 1) := by decide +kernel
theorem dX1_daysOfActors_21 : decode cX1_daysOfActors 21 = .ok (.aload_n 0, 1) := by decide +kernel
theorem dX1_daysOfActors_22 : decode cX1_daysOfActors 22 = .ok (.getfield 15, 3) := by decide +kernel
theorem dX1_daysOfActors_25 : decode cX1_daysOfActors 25 = .ok (.iload_n 3, 1) := by decide +kernel
theorem dX1_daysOfActors_26 : decode cX1_daysOfActors 26 = .ok (.iaload, 1) := by decide +kernel
theorem dX1_daysOfActors_27 : decode cX1_daysOfActors 27 = .ok (.iand, 1) := by decide +kernel
theorem dX1_daysOfActors_28 : decode cX1_daysOfActors 28 = .ok (.istore_n 2, 1) := by decide +kernel
theorem dX1_daysOfActors_29 : decode cX1_daysOfActors 29 = .ok (.iinc 3 1, 3) := by decide +kernel
theorem dX1_daysOfActors_32 : decode cX1_daysOfActors 32 = .ok (.goto (-27), 3) := by decide +kernel
theorem dX1_daysOfActors_35 : decode cX1_daysOfActors 35 = .ok (.iload_n 2, 1) := by decide +kernel
theorem dX1_daysOfActors_36 : decode cX1_daysOfActors 36 = .ok (.ireturn, 1) := by decide +kernel
theorem dX2_init_0 : decode cX2_init 0 = .ok (.aload_n 0, 1) := by decide +kernel
theorem dX2_init_1 : decode cX2_init 1 = .ok (.invokespecial 3, 3) := by decide +kernel
theorem dX2_init_4 : decode cX2_init 4 = .ok (.aload_n 0, 1) := by decide +kernel
theorem dX2_init_5 : decode cX2_init 5 = .ok (.bipush 9, 2) := by decide +kernel
theorem dX2_init_7 : decode cX2_init 7 = .ok (.bipush 25, 2) := by decide +kernel
theorem dX2_init_9 : decode cX2_init 9 = .ok (.multianewarray 9 2, 4) := by decide +kernel
theorem dX2_init_13 : decode cX2_init 13 = .ok (.putfield 11, 3) := by decide +kernel
theorem dX2_init_16 : decode cX2_init 16 = .ok (.aload_n 0, 1) := by decide +kernel
theorem dX2_init_17 : decode cX2_init 17 = .ok (.bipush 8, 2) := by decide +kernel
theorem dX2_init_19 : decode cX2_init 19 = .ok (.newarray .int, 2) := by decide +kernel
theorem dX2_init_21 : decode cX2_init 21 = .ok (.putfield 16, 3) := by decide +kernel
theorem dX2_init_24 : decode cX2_init 24 = .ok (.aload_n 0, 1) := by decide +kernel
theorem dX2_init_25 : decode cX2_init 25 = .ok (.bipush 8, 2) := by decide +kernel
theorem dX2_init_27 : decode cX2_init 27 = .ok (.newarray .int, 2) := by decide +kernel
theorem dX2_init_29 : decode cX2_init 29 = .ok (.putfield 20, 3) := by decide +kernel
theorem dX2_init_32 : decode cX2_init 32 = .ok (.aload_n 0, 1) := by decide +kernel
theorem dX2_init_33 : decode cX2_init 33 = .ok (.iconst 0, 1) := by decide +kernel
theorem dX2_init_34 : decode cX2_init 34 = .ok (.putfield 23, 3) := by decide +kernel
theorem dX2_init_37 : decode cX2_init 37 = .ok (.aload_n 0, 1) := by decide +kernel
theorem dX2_init_38 : decode cX2_init 38 = .ok (.iconst 0, 1) := by decide +kernel
theorem dX2_init_39 : decode cX2_init 39 = .ok (.putfield 27, 3) := by decide +kernel
theorem dX2_init_42 : decode cX2_init 42 = .ok (.return_, 1) := by decide +kernel
theorem dX2_seek_0 : decode cX2_seek 0 = .ok (.aload_n 0, 1) := by decide +kernel
theorem dX2_seek_1 : decode cX2_seek 1 = .ok (.aload_n 1, 1) := by decide +kernel
theorem dX2_seek_2 : decode cX2_seek 2 = .ok (.getfield 30, 3) := by decide +kernel
theorem dX2_seek_5 : decode cX2_seek 5 = .ok (.putfield 27, 3) := by decide +kernel
theorem dX2_seek_8 : decode cX2_seek 8 = .ok (.aload_n 0, 1) := by decide +kernel
theorem dX2_seek_9 : decode cX2_seek 9 = .ok (.aload_n 2, 1) := by decide +kernel
theorem dX2_seek_10 : decode cX2_seek 10 = .ok (.invokevirtual 33, 3) := by decide +kernel
theorem dX2_seek_13 : decode cX2_seek 13 = .ok (.aload_n 0, 1) := by decide +kernel
theorem dX2_seek_14 : decode cX2_seek 14 = .ok (.getfield 27, 3) := by decide +kernel
theorem dX2_seek_17 : decode cX2_seek 17 = .ok (.iconst 1, 1) := by decide +kernel
theorem dX2_seek_18 : decode cX2_seek 18 = .ok (.isub, 1) := by decide +kernel
theorem dX2_seek_19 : decode cX2_seek 19 = .ok (.istore_n 3, 1) := by decide +kernel
theorem dX2_seek_20 : decode cX2_seek 20 = .ok (.iload_n 3, 1) := by decide +kernel
theorem dX2_seek_21 : decode cX2_seek 21 = .ok (.ifCond .lt 16, 3) := by decide +kernel
theorem dX2_seek_24 : decode cX2_seek 24 = .ok (.aload_n 0, 1) := by decide +kernel
theorem dX2_seek_25 : decode cX2_seek 25 = .ok (.aload_n 1, 1) := by decide +kernel
theorem dX2_seek_26 : decode cX2_seek 26 = .ok (.aload_n 2, 1) := by decide +kernel
theorem dX2_seek_27 : decode cX2_seek 27 = .ok (.iload_n 3, 1) := by decide +kernel
theorem dX2_seek_28 : decode cX2_seek 28 = .ok (.invokevirtual 37, 3) := by decide +kernel
theorem dX2_seek_31 : decode cX2_seek 31 = .ok (.iinc 3 (-1), 3) := by decide +kernel
theorem dX2_seek_34 : decode cX2_seek 34 = .ok (.goto (-14), 3) := by decide +kernel
theorem dX2_seek_37 : decode cX2_seek 37 = .ok (.aload_n 0, 1) := by decide +kernel
theorem dX2_seek_38 : decode cX2_seek 38 = .ok (.aload_n 0, 1) := by decide +kernel
theorem dX2_seek_39 : decode cX2_seek 39 = .ok (.getfield 11, 3) := by decide +kernel
theorem dX2_seek_42 : decode cX2_seek 42 = .ok (.iconst 0, 1) := by decide +kernel
theorem dX2_seek_43 : decode cX2_seek 43 = .ok (.aaload, 1) := by decide +kernel
theorem dX2_seek_44 : decode cX2_seek 44 = .ok (.iconst 0, 1) := by decide +kernel
theorem dX2_seek_45 : decode cX2_seek 45 = .ok (.iaload, 1) := by decide +kernel
theorem dX2_seek_46 : decode cX2_seek 46 = .ok (.putfield 23, 3) := by decide +kernel
theorem dX2_seek_49 : decode cX2_seek 49 = .ok (.aload_n 0, 1) := by decide +kernel
theorem dX2_seek_50 : decode cX2_seek 50 = .ok (.getfield 23, 3) := by decide +kernel
theorem dX2_seek_53 : decode cX2_seek 53 = .ok (.ldc 41, 2) := by decide +kernel
theorem dX2_seek_55 : decode cX2_seek 55 = .ok (.if_icmp .lt 5, 3) := by decide +kernel
theorem dX2_seek_58 : decode cX2_seek 58 = .ok (.iconst 0, 1) := by decide +kernel
theorem dX2_seek_59 : decode cX2_seek 59 = .ok (.ireturn, 1) := by decide +kernel
theorem dX2_seek_60 : decode cX2_seek 60 = .ok (.aload_n 0, 1) := by decide +kernel
theorem dX2_seek_61 : decode cX2_seek 61 = .ok (.aload_n 1, 1) := by decide +kernel
theorem dX2_seek_62 : decode cX2_seek 62 = .ok (.aload_n 2, 1) := by decide +kernel
theorem dX2_seek_63 : decode cX2_seek 63 = .ok (.invokevirtual 42, 3) := by decide +kernel
theorem dX2_seek_66 : decode cX2_seek 66 = .ok (.iconst 1, 1) := by decide +kernel
theorem dX2_seek_67 : decode cX2_seek 67 = .ok (.ireturn, 1) := by decide +kernel
theorem dX2_syllableOn_0 : decode cX2_syllableOn 0 = .ok (.iconst 0, 1) := by decide +kernel
theorem dX2_syllableOn_1 : decode cX2_syllableOn 1 = .ok (.istore_n 2, 1) := by decide +kernel
theorem dX2_syllableOn_2 : decode cX2_syllableOn 2 = .ok (.iload_n 2, 1) := by decide +kernel
theorem dX2_syllableOn_3 : decode cX2_syllableOn 3 = .ok (.aload_n 0, 1) := by decide +kernel
theorem dX2_syllableOn_4 : decode cX2_syllableOn 4 = .ok (.getfield 27, 3) := by decide +kernel
theorem dX2_syllableOn_7 : decode cX2_syllableOn 7 = .ok (.if_icmp .ge 38, 3) := by decide +kernel
theorem dX2_syllableOn_10 : decode cX2_syllableOn 10 = .ok (.iload_n 1, 1) := by decide +kernel
theorem dX2_syllableOn_11 : decode cX2_syllableOn 11 = .ok (.aload_n 0, 1) := by decide +kernel
theorem dX2_syllableOn_12 : decode cX2_syllableOn 12 = .ok (.getfield 16, 3) := by decide +kernel
theorem dX2_syllableOn_15 : decode cX2_syllableOn 15 = .ok (.iload_n 2, 1) := by decide +kernel
theorem dX2_syllableOn_16 : decode cX2_syllableOn 16 = .ok (.iaload, 1) := by decide +kernel
theorem dX2_syllableOn_17 : decode cX2_syllableOn 17 = .ok (.if_icmp .lt 22, 3) := by decide +kernel
theorem dX2_syllableOn_20 : decode cX2_syllableOn 20 = .ok (.iload_n 1, 1) := by decide +kernel
theorem dX2_syllableOn_21 : decode cX2_syllableOn 21 = .ok (.aload_n 0, 1) := by decide +kernel
theorem dX2_syllableOn_22 : decode cX2_syllableOn 22 = .ok (.getfield 16, 3) := by decide +kernel
theorem dX2_syllableOn_25 : decode cX2_syllableOn 25 = .ok (.iload_n 2, 1) := by decide +kernel
theorem dX2_syllableOn_26 : decode cX2_syllableOn 26 = .ok (.iaload, 1) := by decide +kernel
theorem dX2_syllableOn_27 : decode cX2_syllableOn 27 = .ok (.aload_n 0, 1) := by decide +kernel
theorem dX2_syllableOn_28 : decode cX2_syllableOn 28 = .ok (.getfield 20, 3) := by decide +kernel
theorem dX2_syllableOn_31 : decode cX2_syllableOn 31 = .ok (.iload_n 2, 1) := by decide +kernel
theorem dX2_syllableOn_32 : decode cX2_syllableOn 32 = .ok (.iaload, 1) := by decide +kernel
theorem dX2_syllableOn_33 : decode cX2_syllableOn 33 = .ok (.iadd, 1) := by decide +kernel
theorem dX2_syllableOn_34 : decode cX2_syllableOn 34 = .ok (.if_icmp .ge 5, 3) := by decide +kernel
theorem dX2_syllableOn_37 : decode cX2_syllableOn 37 = .ok (.iload_n 2, 1) := by decide +kernel
theorem dX2_syllableOn_38 : decode cX2_syllableOn 38 = .ok (.ireturn, 1) := by decide +kernel
theorem dX2_syllableOn_39 : decode cX2_syllableOn 39 = .ok (.iinc 2 1, 3) := by decide +kernel
theorem dX2_syllableOn_42 : decode cX2_syllableOn 42 = .ok (.goto (-40), 3) := by decide +kernel
theorem dX2_syllableOn_45 : decode cX2_syllableOn 45 = .ok (.iconst (-1), 1) := by decide +kernel
theorem dX2_syllableOn_46 : decode cX2_syllableOn 46 = .ok (.ireturn, 1) := by decide +kernel
theorem dX2_pauseCost_0 : decode cX2_pauseCost 0 = .ok (.iload_n 0, 1) := by decide +kernel
theorem dX2_pauseCost_1 : decode cX2_pauseCost 1 = .ok (.ifCond .ne 7, 3) := by decide +kernel
theorem dX2_pauseCost_4 : decode cX2_pauseCost 4 = .ok (.iconst 0, 1) := by decide +kernel
theorem dX2_pauseCost_5 : decode cX2_pauseCost 5 = .ok (.goto 4, 3) := by decide +kernel
theorem dX2_pauseCost_8 : decode cX2_pauseCost 8 = .ok (.iconst 2, 1) := by decide +kernel
theorem dX2_pauseCost_9 : decode cX2_pauseCost 9 = .ok (.ireturn, 1) := by decide +kernel
theorem dX2_fillPauses_0 : decode cX2_fillPauses 0 = .ok (.aload_n 0, 1) := by decide +kernel
theorem dX2_fillPauses_1 : decode cX2_fillPauses 1 = .ok (.getfield 11, 3) := by decide +kernel
theorem dX2_fillPauses_4 : decode cX2_fillPauses 4 = .ok (.aload_n 0, 1) := by decide +kernel
theorem dX2_fillPauses_5 : decode cX2_fillPauses 5 = .ok (.getfield 27, 3) := by decide +kernel
theorem dX2_fillPauses_8 : decode cX2_fillPauses 8 = .ok (.aaload, 1) := by decide +kernel
theorem dX2_fillPauses_9 : decode cX2_fillPauses 9 = .ok (.astore_n 2, 1) := by decide +kernel
theorem dX2_fillPauses_10 : decode cX2_fillPauses 10 = .ok (.aload_n 2, 1) := by decide +kernel
theorem dX2_fillPauses_11 : decode cX2_fillPauses 11 = .ok (.aload_n 1, 1) := by decide +kernel
theorem dX2_fillPauses_12 : decode cX2_fillPauses 12 = .ok (.getfield 46, 3) := by decide +kernel
theorem dX2_fillPauses_15 : decode cX2_fillPauses 15 = .ok (.iconst 0, 1) := by decide +kernel
theorem dX2_fillPauses_16 : decode cX2_fillPauses 16 = .ok (.iastore, 1) := by decide +kernel
theorem dX2_fillPauses_17 : decode cX2_fillPauses 17 = .ok (.aload_n 1, 1) := by decide +kernel
theorem dX2_fillPauses_18 : decode cX2_fillPauses 18 = .ok (.getfield 46, 3) := by decide +kernel
theorem dX2_fillPauses_21 : decode cX2_fillPauses 21 = .ok (.iconst 1, 1) := by decide +kernel
theorem dX2_fillPauses_22 : decode cX2_fillPauses 22 = .ok (.isub, 1) := by decide +kernel
theorem dX2_fillPauses_23 : decode cX2_fillPauses 23 = .ok (.istore_n 3, 1) := by decide +kernel
theorem dX2_fillPauses_24 : decode cX2_fillPauses 24 = .ok (.iload_n 3, 1) := by decide +kernel
theorem dX2_fillPauses_25 : decode cX2_fillPauses 25 = .ok (.ifCond .lt 27, 3) := by decide +kernel
theorem dX2_fillPauses_28 : decode cX2_fillPauses 28 = .ok (.aload_n 2, 1) := by decide +kernel
theorem dX2_fillPauses_29 : decode cX2_fillPauses 29 = .ok (.iload_n 3, 1) := by decide +kernel
theorem dX2_fillPauses_30 : decode cX2_fillPauses 30 = .ok (.aload_n 2, 1) := by decide +kernel
theorem dX2_fillPauses_31 : decode cX2_fillPauses 31 = .ok (.iload_n 3, 1) := by decide +kernel
theorem dX2_fillPauses_32 : decode cX2_fillPauses 32 = .ok (.iconst 1, 1) := by decide +kernel
theorem dX2_fillPauses_33 : decode cX2_fillPauses 33 = .ok (.iadd, 1) := by decide +kernel
theorem dX2_fillPauses_34 : decode cX2_fillPauses 34 = .ok (.iaload, 1) := by decide +kernel
theorem dX2_fillPauses_35 : decode cX2_fillPauses 35 = .ok (.aload_n 1, 1) := by decide +kernel
theorem dX2_fillPauses_36 : decode cX2_fillPauses 36 = .ok (.getfield 51, 3) := by decide +kernel
theorem dX2_fillPauses_39 : decode cX2_fillPauses 39 = .ok (.iload_n 3, 1) := by decide +kernel
theorem dX2_fillPauses_40 : decode cX2_fillPauses 40 = .ok (.iaload, 1) := by decide +kernel
theorem dX2_fillPauses_41 : decode cX2_fillPauses 41 = .ok (.invokestatic 54, 3) := by decide +kernel
theorem dX2_fillPauses_44 : decode cX2_fillPauses 44 = .ok (.iadd, 1) := by decide +kernel
theorem dX2_fillPauses_45 : decode cX2_fillPauses 45 = .ok (.iastore, 1) := by decide +kernel
theorem dX2_fillPauses_46 : decode cX2_fillPauses 46 = .ok (.iinc 3 (-1), 3) := by decide +kernel
theorem dX2_fillPauses_49 : decode cX2_fillPauses 49 = .ok (.goto (-25), 3) := by decide +kernel
theorem dX2_fillPauses_52 : decode cX2_fillPauses 52 = .ok (.return_, 1) := by decide +kernel
theorem dX2_fillSyllable_0 : decode cX2_fillSyllable 0 = .ok (.aload_n 0, 1) := by decide +kernel
theorem dX2_fillSyllable_1 : decode cX2_fillSyllable 1 = .ok (.getfield 11, 3) := by decide +kernel
theorem dX2_fillSyllable_4 : decode cX2_fillSyllable 4 = .ok (.iload_n 3, 1) := by decide +kernel
theorem dX2_fillSyllable_5 : decode cX2_fillSyllable 5 = .ok (.aaload, 1) := by decide +kernel
theorem dX2_fillSyllable_6 : decode cX2_fillSyllable 6 = .ok (.astore 4, 2) := by decide +kernel
theorem dX2_fillSyllable_8 : decode cX2_fillSyllable 8 = .ok (.aload 4, 2) := by decide +kernel
theorem dX2_fillSyllable_10 : decode cX2_fillSyllable 10 = .ok (.aload_n 2, 1) := by decide +kernel
theorem dX2_fillSyllable_11 : decode cX2_fillSyllable 11 = .ok (.getfield 46, 3) := by decide +kernel
theorem dX2_fillSyllable_14 : decode cX2_fillSyllable 14 = .ok (.ldc 41, 2) := by decide +kernel
theorem dX2_fillSyllable_16 : decode cX2_fillSyllable 16 = .ok (.iastore, 1) := by decide +kernel
theorem dX2_fillSyllable_17 : decode cX2_fillSyllable 17 = .ok (.aload_n 2, 1) := by decide +kernel
theorem dX2_fillSyllable_18 : decode cX2_fillSyllable 18 = .ok (.getfield 46, 3) := by decide +kernel
theorem dX2_fillSyllable_21 : decode cX2_fillSyllable 21 = .ok (.iconst 1, 1) := by decide +kernel
theorem dX2_fillSyllable_22 : decode cX2_fillSyllable 22 = .ok (.isub, 1) := by decide +kernel
theorem dX2_fillSyllable_23 : decode cX2_fillSyllable 23 = .ok (.istore 5, 2) := by decide +kernel
theorem dX2_fillSyllable_25 : decode cX2_fillSyllable 25 = .ok (.iload 5, 2) := by decide +kernel
theorem dX2_fillSyllable_27 : decode cX2_fillSyllable 27 = .ok (.ifCond .lt 48, 3) := by decide +kernel
theorem dX2_fillSyllable_30 : decode cX2_fillSyllable 30 = .ok (.aload 4, 2) := by decide +kernel
theorem dX2_fillSyllable_32 : decode cX2_fillSyllable 32 = .ok (.iload 5, 2) := by decide +kernel
theorem dX2_fillSyllable_34 : decode cX2_fillSyllable 34 = .ok (.iconst 1, 1) := by decide +kernel
theorem dX2_fillSyllable_35 : decode cX2_fillSyllable 35 = .ok (.iadd, 1) := by decide +kernel
theorem dX2_fillSyllable_36 : decode cX2_fillSyllable 36 = .ok (.iaload, 1) := by decide +kernel
theorem dX2_fillSyllable_37 : decode cX2_fillSyllable 37 = .ok (.aload_n 2, 1) := by decide +kernel
theorem dX2_fillSyllable_38 : decode cX2_fillSyllable 38 = .ok (.getfield 51, 3) := by decide +kernel
theorem dX2_fillSyllable_41 : decode cX2_fillSyllable 41 = .ok (.iload 5, 2) := by decide +kernel
theorem dX2_fillSyllable_43 : decode cX2_fillSyllable 43 = .ok (.iaload, 1) := by decide +kernel
theorem dX2_fillSyllable_44 : decode cX2_fillSyllable 44 = .ok (.invokestatic 54, 3) := by decide +kernel
theorem dX2_fillSyllable_47 : decode cX2_fillSyllable 47 = .ok (.iadd, 1) := by decide +kernel
theorem dX2_fillSyllable_48 : decode cX2_fillSyllable 48 = .ok (.istore 6, 2) := by decide +kernel
theorem dX2_fillSyllable_50 : decode cX2_fillSyllable 50 = .ok (.aload 4, 2) := by decide +kernel
theorem dX2_fillSyllable_52 : decode cX2_fillSyllable 52 = .ok (.iload 5, 2) := by decide +kernel
theorem dX2_fillSyllable_54 : decode cX2_fillSyllable 54 = .ok (.iload 6, 2) := by decide +kernel
theorem dX2_fillSyllable_56 : decode cX2_fillSyllable 56 = .ok (.aload_n 0, 1) := by decide +kernel
theorem dX2_fillSyllable_57 : decode cX2_fillSyllable 57 = .ok (.aload_n 1, 1) := by decide +kernel
theorem dX2_fillSyllable_58 : decode cX2_fillSyllable 58 = .ok (.aload_n 2, 1) := by decide +kernel
theorem dX2_fillSyllable_59 : decode cX2_fillSyllable 59 = .ok (.iload_n 3, 1) := by decide +kernel
theorem dX2_fillSyllable_60 : decode cX2_fillSyllable 60 = .ok (.iload 5, 2) := by decide +kernel
theorem dX2_fillSyllable_62 : decode cX2_fillSyllable 62 = .ok (.invokevirtual 58, 3) := by decide +kernel
theorem dX2_fillSyllable_65 : decode cX2_fillSyllable 65 = .ok (.invokestatic 62, 3) := by decide +kernel
theorem dX2_fillSyllable_68 : decode cX2_fillSyllable 68 = .ok (.iastore, 1) := by decide +kernel
theorem dX2_fillSyllable_69 : decode cX2_fillSyllable 69 = .ok (.iinc 5 (-1), 3) := by decide +kernel
theorem dX2_fillSyllable_72 : decode cX2_fillSyllable 72 = .ok (.goto (-47), 3) := by decide +kernel
theorem dX2_fillSyllable_75 : decode cX2_fillSyllable 75 = .ok (.return_, 1) := by decide +kernel
theorem dX2_leastFrom_0 : decode cX2_leastFrom 0 = .ok (.aload_n 1, 1) := by decide +kernel
theorem dX2_leastFrom_1 : decode cX2_leastFrom 1 = .ok (.iload_n 3, 1) := by decide +kernel
theorem dX2_leastFrom_2 : decode cX2_leastFrom 2 = .ok (.invokevirtual 68, 3) := by decide +kernel
theorem dX2_leastFrom_5 : decode cX2_leastFrom 5 = .ok (.aload_n 2, 1) := by decide +kernel
theorem dX2_leastFrom_6 : decode cX2_leastFrom 6 = .ok (.getfield 46, 3) := by decide +kernel
theorem dX2_leastFrom_9 : decode cX2_leastFrom 9 = .ok (.iload 4, 2) := by decide +kernel
theorem dX2_leastFrom_11 : decode cX2_leastFrom 11 = .ok (.isub, 1) := by decide +kernel
theorem dX2_leastFrom_12 : decode cX2_leastFrom 12 = .ok (.invokestatic 62, 3) := by decide +kernel
theorem dX2_leastFrom_15 : decode cX2_leastFrom 15 = .ok (.istore 5, 2) := by decide +kernel
theorem dX2_leastFrom_17 : decode cX2_leastFrom 17 = .ok (.iconst 0, 1) := by decide +kernel
theorem dX2_leastFrom_18 : decode cX2_leastFrom 18 = .ok (.istore 6, 2) := by decide +kernel
theorem dX2_leastFrom_20 : decode cX2_leastFrom 20 = .ok (.ldc 41, 2) := by decide +kernel
theorem dX2_leastFrom_22 : decode cX2_leastFrom 22 = .ok (.istore 7, 2) := by decide +kernel
theorem dX2_leastFrom_24 : decode cX2_leastFrom 24 = .ok (.iconst 1, 1) := by decide +kernel
theorem dX2_leastFrom_25 : decode cX2_leastFrom 25 = .ok (.istore 8, 2) := by decide +kernel
theorem dX2_leastFrom_27 : decode cX2_leastFrom 27 = .ok (.iload 8, 2) := by decide +kernel
theorem dX2_leastFrom_29 : decode cX2_leastFrom 29 = .ok (.iload 5, 2) := by decide +kernel
theorem dX2_leastFrom_31 : decode cX2_leastFrom 31 = .ok (.if_icmp .gt 66, 3) := by decide +kernel
theorem dX2_leastFrom_34 : decode cX2_leastFrom 34 = .ok (.iload 6, 2) := by decide +kernel
theorem dX2_leastFrom_36 : decode cX2_leastFrom 36 = .ok (.aload_n 1, 1) := by decide +kernel
theorem dX2_leastFrom_37 : decode cX2_leastFrom 37 = .ok (.iload_n 3, 1) := by decide +kernel
theorem dX2_leastFrom_38 : decode cX2_leastFrom 38 = .ok (.aload_n 2, 1) := by decide +kernel
theorem dX2_leastFrom_39 : decode cX2_leastFrom 39 = .ok (.getfield 51, 3) := by decide +kernel
theorem dX2_leastFrom_42 : decode cX2_leastFrom 42 = .ok (.iload 4, 2) := by decide +kernel
theorem dX2_leastFrom_44 : decode cX2_leastFrom 44 = .ok (.iload 8, 2) := by decide +kernel
theorem dX2_leastFrom_46 : decode cX2_leastFrom 46 = .ok (.iadd, 1) := by decide +kernel
theorem dX2_leastFrom_47 : decode cX2_leastFrom 47 = .ok (.iconst 1, 1) := by decide +kernel
theorem dX2_leastFrom_48 : decode cX2_leastFrom 48 = .ok (.isub, 1) := by decide +kernel
theorem dX2_leastFrom_49 : decode cX2_leastFrom 49 = .ok (.iaload, 1) := by decide +kernel
theorem dX2_leastFrom_50 : decode cX2_leastFrom 50 = .ok (.invokevirtual 71, 3) := by decide +kernel
theorem dX2_leastFrom_53 : decode cX2_leastFrom 53 = .ok (.iadd, 1) := by decide +kernel
theorem dX2_leastFrom_54 : decode cX2_leastFrom 54 = .ok (.istore 6, 2) := by decide +kernel
theorem dX2_leastFrom_56 : decode cX2_leastFrom 56 = .ok (.iload 8, 2) := by decide +kernel
theorem dX2_leastFrom_58 : decode cX2_leastFrom 58 = .ok (.aload_n 1, 1) := by decide +kernel
theorem dX2_leastFrom_59 : decode cX2_leastFrom 59 = .ok (.getfield 74, 3) := by decide +kernel
theorem dX2_leastFrom_62 : decode cX2_leastFrom 62 = .ok (.iload_n 3, 1) := by decide +kernel
theorem dX2_leastFrom_63 : decode cX2_leastFrom 63 = .ok (.iaload, 1) := by decide +kernel
theorem dX2_leastFrom_64 : decode cX2_leastFrom 64 = .ok (.if_icmp .lt 27, 3) := by decide +kernel
theorem dX2_leastFrom_67 : decode cX2_leastFrom 67 = .ok (.iload 7, 2) := by decide +kernel
theorem dX2_leastFrom_69 : decode cX2_leastFrom 69 = .ok (.iload 6, 2) := by decide +kernel
theorem dX2_leastFrom_71 : decode cX2_leastFrom 71 = .ok (.aload_n 0, 1) := by decide +kernel
theorem dX2_leastFrom_72 : decode cX2_leastFrom 72 = .ok (.getfield 11, 3) := by decide +kernel
theorem dX2_leastFrom_75 : decode cX2_leastFrom 75 = .ok (.iload_n 3, 1) := by decide +kernel
theorem dX2_leastFrom_76 : decode cX2_leastFrom 76 = .ok (.iconst 1, 1) := by decide +kernel
theorem dX2_leastFrom_77 : decode cX2_leastFrom 77 = .ok (.iadd, 1) := by decide +kernel
theorem dX2_leastFrom_78 : decode cX2_leastFrom 78 = .ok (.aaload, 1) := by decide +kernel
theorem dX2_leastFrom_79 : decode cX2_leastFrom 79 = .ok (.iload 4, 2) := by decide +kernel
theorem dX2_leastFrom_81 : decode cX2_leastFrom 81 = .ok (.iload 8, 2) := by decide +kernel
theorem dX2_leastFrom_83 : decode cX2_leastFrom 83 = .ok (.iadd, 1) := by decide +kernel
theorem dX2_leastFrom_84 : decode cX2_leastFrom 84 = .ok (.iaload, 1) := by decide +kernel
theorem dX2_leastFrom_85 : decode cX2_leastFrom 85 = .ok (.iadd, 1) := by decide +kernel
theorem dX2_leastFrom_86 : decode cX2_leastFrom 86 = .ok (.invokestatic 62, 3) := by decide +kernel
theorem dX2_leastFrom_89 : decode cX2_leastFrom 89 = .ok (.istore 7, 2) := by decide +kernel
theorem dX2_leastFrom_91 : decode cX2_leastFrom 91 = .ok (.iinc 8 1, 3) := by decide +kernel
theorem dX2_leastFrom_94 : decode cX2_leastFrom 94 = .ok (.goto (-67), 3) := by decide +kernel
theorem dX2_leastFrom_97 : decode cX2_leastFrom 97 = .ok (.iload 7, 2) := by decide +kernel
theorem dX2_leastFrom_99 : decode cX2_leastFrom 99 = .ok (.ireturn, 1) := by decide +kernel
theorem dX2_trace_0 : decode cX2_trace 0 = .ok (.iconst 0, 1) := by decide +kernel
theorem dX2_trace_1 : decode cX2_trace 1 = .ok (.istore_n 3, 1) := by decide +kernel
theorem dX2_trace_2 : decode cX2_trace 2 = .ok (.iconst 0, 1) := by decide +kernel
theorem dX2_trace_3 : decode cX2_trace 3 = .ok (.istore 4, 2) := by decide +kernel
theorem dX2_trace_5 : decode cX2_trace 5 = .ok (.iconst 0, 1) := by decide +kernel
theorem dX2_trace_6 : decode cX2_trace 6 = .ok (.istore 5, 2) := by decide +kernel
theorem dX2_trace_8 : decode cX2_trace 8 = .ok (.iload 5, 2) := by decide +kernel
theorem dX2_trace_10 : decode cX2_trace 10 = .ok (.aload_n 2, 1) := by decide +kernel
theorem dX2_trace_11 : decode cX2_trace 11 = .ok (.getfield 46, 3) := by decide +kernel
theorem dX2_trace_14 : decode cX2_trace 14 = .ok (.if_icmp .ge 70, 3) := by decide +kernel
theorem dX2_trace_17 : decode cX2_trace 17 = .ok (.iload_n 3, 1) := by decide +kernel
theorem dX2_trace_18 : decode cX2_trace 18 = .ok (.aload_n 0, 1) := by decide +kernel
theorem dX2_trace_19 : decode cX2_trace 19 = .ok (.getfield 27, 3) := by decide +kernel
theorem dX2_trace_22 : decode cX2_trace 22 = .ok (.if_icmp .ge 62, 3) := by decide +kernel
theorem dX2_trace_25 : decode cX2_trace 25 = .ok (.iload 5, 2) := by decide +kernel
theorem dX2_trace_27 : decode cX2_trace 27 = .ok (.iload 4, 2) := by decide +kernel
theorem dX2_trace_29 : decode cX2_trace 29 = .ok (.if_icmp .ge 7, 3) := by decide +kernel
theorem dX2_trace_32 : decode cX2_trace 32 = .ok (.iconst 0, 1) := by decide +kernel
theorem dX2_trace_33 : decode cX2_trace 33 = .ok (.goto 12, 3) := by decide +kernel
theorem dX2_trace_36 : decode cX2_trace 36 = .ok (.aload_n 0, 1) := by decide +kernel
theorem dX2_trace_37 : decode cX2_trace 37 = .ok (.aload_n 1, 1) := by decide +kernel
theorem dX2_trace_38 : decode cX2_trace 38 = .ok (.aload_n 2, 1) := by decide +kernel
theorem dX2_trace_39 : decode cX2_trace 39 = .ok (.iload_n 3, 1) := by decide +kernel
theorem dX2_trace_40 : decode cX2_trace 40 = .ok (.iload 5, 2) := by decide +kernel
theorem dX2_trace_42 : decode cX2_trace 42 = .ok (.invokevirtual 77, 3) := by decide +kernel
theorem dX2_trace_45 : decode cX2_trace 45 = .ok (.istore 6, 2) := by decide +kernel
theorem dX2_trace_47 : decode cX2_trace 47 = .ok (.iload 6, 2) := by decide +kernel
theorem dX2_trace_49 : decode cX2_trace 49 = .ok (.ifCond .le 29, 3) := by decide +kernel
theorem dX2_trace_52 : decode cX2_trace 52 = .ok (.aload_n 0, 1) := by decide +kernel
theorem dX2_trace_53 : decode cX2_trace 53 = .ok (.getfield 16, 3) := by decide +kernel
theorem dX2_trace_56 : decode cX2_trace 56 = .ok (.iload_n 3, 1) := by decide +kernel
theorem dX2_trace_57 : decode cX2_trace 57 = .ok (.iload 5, 2) := by decide +kernel
theorem dX2_trace_59 : decode cX2_trace 59 = .ok (.iastore, 1) := by decide +kernel
theorem dX2_trace_60 : decode cX2_trace 60 = .ok (.aload_n 0, 1) := by decide +kernel
theorem dX2_trace_61 : decode cX2_trace 61 = .ok (.getfield 20, 3) := by decide +kernel
theorem dX2_trace_64 : decode cX2_trace 64 = .ok (.iload_n 3, 1) := by decide +kernel
theorem dX2_trace_65 : decode cX2_trace 65 = .ok (.iload 6, 2) := by decide +kernel
theorem dX2_trace_67 : decode cX2_trace 67 = .ok (.iastore, 1) := by decide +kernel
theorem dX2_trace_68 : decode cX2_trace 68 = .ok (.iload 5, 2) := by decide +kernel
theorem dX2_trace_70 : decode cX2_trace 70 = .ok (.iload 6, 2) := by decide +kernel
theorem dX2_trace_72 : decode cX2_trace 72 = .ok (.iadd, 1) := by decide +kernel
theorem dX2_trace_73 : decode cX2_trace 73 = .ok (.istore 4, 2) := by decide +kernel
theorem dX2_trace_75 : decode cX2_trace 75 = .ok (.iinc 3 1, 3) := by decide +kernel
theorem dX2_trace_78 : decode cX2_trace 78 = .ok (.iinc 5 1, 3) := by decide +kernel
theorem dX2_trace_81 : decode cX2_trace 81 = .ok (.goto (-73), 3) := by decide +kernel
theorem dX2_trace_84 : decode cX2_trace 84 = .ok (.return_, 1) := by decide +kernel
theorem dX2_shortestFrom_0 : decode cX2_shortestFrom 0 = .ok (.aload_n 1, 1) := by decide +kernel
theorem dX2_shortestFrom_1 : decode cX2_shortestFrom 1 = .ok (.iload_n 3, 1) := by decide +kernel
theorem dX2_shortestFrom_2 : decode cX2_shortestFrom 2 = .ok (.invokevirtual 68, 3) := by decide +kernel
theorem dX2_shortestFrom_5 : decode cX2_shortestFrom 5 = .ok (.aload_n 2, 1) := by decide +kernel
theorem dX2_shortestFrom_6 : decode cX2_shortestFrom 6 = .ok (.getfield 46, 3) := by decide +kernel
theorem dX2_shortestFrom_9 : decode cX2_shortestFrom 9 = .ok (.iload 4, 2) := by decide +kernel
theorem dX2_shortestFrom_11 : decode cX2_shortestFrom 11 = .ok (.isub, 1) := by decide +kernel
theorem dX2_shortestFrom_12 : decode cX2_shortestFrom 12 = .ok (.invokestatic 62, 3) := by decide +kernel
theorem dX2_shortestFrom_15 : decode cX2_shortestFrom 15 = .ok (.istore 5, 2) := by decide +kernel
theorem dX2_shortestFrom_17 : decode cX2_shortestFrom 17 = .ok (.iconst 0, 1) := by decide +kernel
theorem dX2_shortestFrom_18 : decode cX2_shortestFrom 18 = .ok (.istore 6, 2) := by decide +kernel
theorem dX2_shortestFrom_20 : decode cX2_shortestFrom 20 = .ok (.iconst 1, 1) := by decide +kernel
theorem dX2_shortestFrom_21 : decode cX2_shortestFrom 21 = .ok (.istore 7, 2) := by decide +kernel
theorem dX2_shortestFrom_23 : decode cX2_shortestFrom 23 = .ok (.iload 7, 2) := by decide +kernel
theorem dX2_shortestFrom_25 : decode cX2_shortestFrom 25 = .ok (.iload 5, 2) := by decide +kernel
theorem dX2_shortestFrom_27 : decode cX2_shortestFrom 27 = .ok (.if_icmp .gt 74, 3) := by decide +kernel
theorem dX2_shortestFrom_30 : decode cX2_shortestFrom 30 = .ok (.iload 6, 2) := by decide +kernel
theorem dX2_shortestFrom_32 : decode cX2_shortestFrom 32 = .ok (.aload_n 1, 1) := by decide +kernel
theorem dX2_shortestFrom_33 : decode cX2_shortestFrom 33 = .ok (.iload_n 3, 1) := by decide +kernel
theorem dX2_shortestFrom_34 : decode cX2_shortestFrom 34 = .ok (.aload_n 2, 1) := by decide +kernel
theorem dX2_shortestFrom_35 : decode cX2_shortestFrom 35 = .ok (.getfield 51, 3) := by decide +kernel
theorem dX2_shortestFrom_38 : decode cX2_shortestFrom 38 = .ok (.iload 4, 2) := by decide +kernel
theorem dX2_shortestFrom_40 : decode cX2_shortestFrom 40 = .ok (.iload 7, 2) := by decide +kernel
theorem dX2_shortestFrom_42 : decode cX2_shortestFrom 42 = .ok (.iadd, 1) := by decide +kernel
theorem dX2_shortestFrom_43 : decode cX2_shortestFrom 43 = .ok (.iconst 1, 1) := by decide +kernel
theorem dX2_shortestFrom_44 : decode cX2_shortestFrom 44 = .ok (.isub, 1) := by decide +kernel
theorem dX2_shortestFrom_45 : decode cX2_shortestFrom 45 = .ok (.iaload, 1) := by decide +kernel
theorem dX2_shortestFrom_46 : decode cX2_shortestFrom 46 = .ok (.invokevirtual 71, 3) := by decide +kernel
theorem dX2_shortestFrom_49 : decode cX2_shortestFrom 49 = .ok (.iadd, 1) := by decide +kernel
theorem dX2_shortestFrom_50 : decode cX2_shortestFrom 50 = .ok (.istore 6, 2) := by decide +kernel
theorem dX2_shortestFrom_52 : decode cX2_shortestFrom 52 = .ok (.iload 7, 2) := by decide +kernel
theorem dX2_shortestFrom_54 : decode cX2_shortestFrom 54 = .ok (.aload_n 1, 1) := by decide +kernel
theorem dX2_shortestFrom_55 : decode cX2_shortestFrom 55 = .ok (.getfield 74, 3) := by decide +kernel
theorem dX2_shortestFrom_58 : decode cX2_shortestFrom 58 = .ok (.iload_n 3, 1) := by decide +kernel
theorem dX2_shortestFrom_59 : decode cX2_shortestFrom 59 = .ok (.iaload, 1) := by decide +kernel
theorem dX2_shortestFrom_60 : decode cX2_shortestFrom 60 = .ok (.if_icmp .lt 35, 3) := by decide +kernel
theorem dX2_shortestFrom_63 : decode cX2_shortestFrom 63 = .ok (.iload 6, 2) := by decide +kernel
theorem dX2_shortestFrom_65 : decode cX2_shortestFrom 65 = .ok (.aload_n 0, 1) := by decide +kernel
theorem dX2_shortestFrom_66 : decode cX2_shortestFrom 66 = .ok (.getfield 11, 3) := by decide +kernel
theorem dX2_shortestFrom_69 : decode cX2_shortestFrom 69 = .ok (.iload_n 3, 1) := by decide +kernel
theorem dX2_shortestFrom_70 : decode cX2_shortestFrom 70 = .ok (.iconst 1, 1) := by decide +kernel
theorem dX2_shortestFrom_71 : decode cX2_shortestFrom 71 = .ok (.iadd, 1) := by decide +kernel
theorem dX2_shortestFrom_72 : decode cX2_shortestFrom 72 = .ok (.aaload, 1) := by decide +kernel
theorem dX2_shortestFrom_73 : decode cX2_shortestFrom 73 = .ok (.iload 4, 2) := by decide +kernel
theorem dX2_shortestFrom_75 : decode cX2_shortestFrom 75 = .ok (.iload 7, 2) := by decide +kernel
theorem dX2_shortestFrom_77 : decode cX2_shortestFrom 77 = .ok (.iadd, 1) := by decide +kernel
theorem dX2_shortestFrom_78 : decode cX2_shortestFrom 78 = .ok (.iaload, 1) := by decide +kernel
theorem dX2_shortestFrom_79 : decode cX2_shortestFrom 79 = .ok (.iadd, 1) := by decide +kernel
theorem dX2_shortestFrom_80 : decode cX2_shortestFrom 80 = .ok (.aload_n 0, 1) := by decide +kernel
theorem dX2_shortestFrom_81 : decode cX2_shortestFrom 81 = .ok (.getfield 11, 3) := by decide +kernel
theorem dX2_shortestFrom_84 : decode cX2_shortestFrom 84 = .ok (.iload_n 3, 1) := by decide +kernel
theorem dX2_shortestFrom_85 : decode cX2_shortestFrom 85 = .ok (.aaload, 1) := by decide +kernel
theorem dX2_shortestFrom_86 : decode cX2_shortestFrom 86 = .ok (.iload 4, 2) := by decide +kernel
theorem dX2_shortestFrom_88 : decode cX2_shortestFrom 88 = .ok (.iaload, 1) := by decide +kernel
theorem dX2_shortestFrom_89 : decode cX2_shortestFrom 89 = .ok (.if_icmp .ne 6, 3) := by decide +kernel
theorem dX2_shortestFrom_92 : decode cX2_shortestFrom 92 = .ok (.iload 7, 2) := by decide +kernel
theorem dX2_shortestFrom_94 : decode cX2_shortestFrom 94 = .ok (.ireturn, 1) := by decide +kernel
theorem dX2_shortestFrom_95 : decode cX2_shortestFrom 95 = .ok (.iinc 7 1, 3) := by decide +kernel
theorem dX2_shortestFrom_98 : decode cX2_shortestFrom 98 = .ok (.goto (-75), 3) := by decide +kernel
theorem dX2_shortestFrom_101 : decode cX2_shortestFrom 101 = .ok (.iconst 0, 1) := by decide +kernel
theorem dX2_shortestFrom_102 : decode cX2_shortestFrom 102 = .ok (.ireturn, 1) := by decide +kernel
theorem dX3_init_0 : decode cX3_init 0 = .ok (.aload_n 0, 1) := by decide +kernel
theorem dX3_init_1 : decode cX3_init 1 = .ok (.invokespecial 3, 3) := by decide +kernel
theorem dX3_init_4 : decode cX3_init 4 = .ok (.aload_n 0, 1) := by decide +kernel
theorem dX3_init_5 : decode cX3_init 5 = .ok (.bipush 20, 2) := by decide +kernel
theorem dX3_init_7 : decode cX3_init 7 = .ok (.anewarray 9, 3) := by decide +kernel
theorem dX3_init_10 : decode cX3_init 10 = .ok (.putfield 11, 3) := by decide +kernel
theorem dX3_init_13 : decode cX3_init 13 = .ok (.aload_n 0, 1) := by decide +kernel
theorem dX3_init_14 : decode cX3_init 14 = .ok (.iconst 0, 1) := by decide +kernel
theorem dX3_init_15 : decode cX3_init 15 = .ok (.putfield 17, 3) := by decide +kernel
theorem dX3_init_18 : decode cX3_init 18 = .ok (.aload_n 0, 1) := by decide +kernel
theorem dX3_init_19 : decode cX3_init 19 = .ok (.iconst 0, 1) := by decide +kernel
theorem dX3_init_20 : decode cX3_init 20 = .ok (.putfield 21, 3) := by decide +kernel
theorem dX3_init_23 : decode cX3_init 23 = .ok (.iconst 0, 1) := by decide +kernel
theorem dX3_init_24 : decode cX3_init 24 = .ok (.istore_n 1, 1) := by decide +kernel
theorem dX3_init_25 : decode cX3_init 25 = .ok (.iload_n 1, 1) := by decide +kernel
theorem dX3_init_26 : decode cX3_init 26 = .ok (.bipush 20, 2) := by decide +kernel
theorem dX3_init_28 : decode cX3_init 28 = .ok (.if_icmp .ge 22, 3) := by decide +kernel
theorem dX3_init_31 : decode cX3_init 31 = .ok (.aload_n 0, 1) := by decide +kernel
theorem dX3_init_32 : decode cX3_init 32 = .ok (.getfield 11, 3) := by decide +kernel
theorem dX3_init_35 : decode cX3_init 35 = .ok (.iload_n 1, 1) := by decide +kernel
theorem dX3_init_36 : decode cX3_init 36 = .ok (.new 9, 3) := by decide +kernel
theorem dX3_init_39 : decode cX3_init 39 = .ok (.dup, 1) := by decide +kernel
theorem dX3_init_40 : decode cX3_init 40 = .ok (.invokespecial 24, 3) := by decide +kernel
theorem dX3_init_43 : decode cX3_init 43 = .ok (.aastore, 1) := by decide +kernel
theorem dX3_init_44 : decode cX3_init 44 = .ok (.iinc 1 1, 3) := by decide +kernel
theorem dX3_init_47 : decode cX3_init 47 = .ok (.goto (-22), 3) := by decide +kernel
theorem dX3_init_50 : decode cX3_init 50 = .ok (.return_, 1) := by decide +kernel
theorem dX3_append_0 : decode cX3_append 0 = .ok (.aload_n 0, 1) := by decide +kernel
theorem dX3_append_1 : decode cX3_append 1 = .ok (.getfield 11, 3) := by decide +kernel
theorem dX3_append_4 : decode cX3_append 4 = .ok (.aload_n 0, 1) := by decide +kernel
theorem dX3_append_5 : decode cX3_append 5 = .ok (.getfield 17, 3) := by decide +kernel
theorem dX3_append_8 : decode cX3_append 8 = .ok (.aaload, 1) := by decide +kernel
theorem dX3_append_9 : decode cX3_append 9 = .ok (.astore 4, 2) := by decide +kernel
theorem dX3_append_11 : decode cX3_append 11 = .ok (.aload 4, 2) := by decide +kernel
theorem dX3_append_13 : decode cX3_append 13 = .ok (.iload_n 1, 1) := by decide +kernel
theorem dX3_append_14 : decode cX3_append 14 = .ok (.putfield 25, 3) := by decide +kernel
theorem dX3_append_17 : decode cX3_append 17 = .ok (.aload 4, 2) := by decide +kernel
theorem dX3_append_19 : decode cX3_append 19 = .ok (.iload_n 2, 1) := by decide +kernel
theorem dX3_append_20 : decode cX3_append 20 = .ok (.putfield 28, 3) := by decide +kernel
theorem dX3_append_23 : decode cX3_append 23 = .ok (.aload 4, 2) := by decide +kernel
theorem dX3_append_25 : decode cX3_append 25 = .ok (.iload_n 3, 1) := by decide +kernel
theorem dX3_append_26 : decode cX3_append 26 = .ok (.putfield 31, 3) := by decide +kernel
theorem dX3_append_29 : decode cX3_append 29 = .ok (.aload_n 0, 1) := by decide +kernel
theorem dX3_append_30 : decode cX3_append 30 = .ok (.aload_n 0, 1) := by decide +kernel
theorem dX3_append_31 : decode cX3_append 31 = .ok (.getfield 17, 3) := by decide +kernel
theorem dX3_append_34 : decode cX3_append 34 = .ok (.iconst 1, 1) := by decide +kernel
theorem dX3_append_35 : decode cX3_append 35 = .ok (.iadd, 1) := by decide +kernel
theorem dX3_append_36 : decode cX3_append 36 = .ok (.bipush 20, 2) := by decide +kernel
theorem dX3_append_38 : decode cX3_append 38 = .ok (.if_icmp .ge 12, 3) := by decide +kernel
theorem dX3_append_41 : decode cX3_append 41 = .ok (.aload_n 0, 1) := by decide +kernel
theorem dX3_append_42 : decode cX3_append 42 = .ok (.getfield 17, 3) := by decide +kernel
theorem dX3_append_45 : decode cX3_append 45 = .ok (.iconst 1, 1) := by decide +kernel
theorem dX3_append_46 : decode cX3_append 46 = .ok (.iadd, 1) := by decide +kernel
theorem dX3_append_47 : decode cX3_append 47 = .ok (.goto 4, 3) := by decide +kernel
theorem dX3_append_50 : decode cX3_append 50 = .ok (.iconst 0, 1) := by decide +kernel
theorem dX3_append_51 : decode cX3_append 51 = .ok (.putfield 17, 3) := by decide +kernel
theorem dX3_append_54 : decode cX3_append 54 = .ok (.aload_n 0, 1) := by decide +kernel
theorem dX3_append_55 : decode cX3_append 55 = .ok (.aload_n 0, 1) := by decide +kernel
theorem dX3_append_56 : decode cX3_append 56 = .ok (.getfield 21, 3) := by decide +kernel
theorem dX3_append_59 : decode cX3_append 59 = .ok (.iconst 1, 1) := by decide +kernel
theorem dX3_append_60 : decode cX3_append 60 = .ok (.iadd, 1) := by decide +kernel
theorem dX3_append_61 : decode cX3_append 61 = .ok (.bipush 20, 2) := by decide +kernel
theorem dX3_append_63 : decode cX3_append 63 = .ok (.invokestatic 34, 3) := by decide +kernel
theorem dX3_append_66 : decode cX3_append 66 = .ok (.putfield 21, 3) := by decide +kernel
theorem dX3_append_69 : decode cX3_append 69 = .ok (.aload 4, 2) := by decide +kernel
theorem dX3_append_71 : decode cX3_append 71 = .ok (.areturn, 1) := by decide +kernel
theorem dX3_takeLatest_0 : decode cX3_takeLatest 0 = .ok (.aload_n 0, 1) := by decide +kernel
theorem dX3_takeLatest_1 : decode cX3_takeLatest 1 = .ok (.aload_n 0, 1) := by decide +kernel
theorem dX3_takeLatest_2 : decode cX3_takeLatest 2 = .ok (.getfield 17, 3) := by decide +kernel
theorem dX3_takeLatest_5 : decode cX3_takeLatest 5 = .ok (.ifCond .le 12, 3) := by decide +kernel
theorem dX3_takeLatest_8 : decode cX3_takeLatest 8 = .ok (.aload_n 0, 1) := by decide +kernel
theorem dX3_takeLatest_9 : decode cX3_takeLatest 9 = .ok (.getfield 17, 3) := by decide +kernel
theorem dX3_takeLatest_12 : decode cX3_takeLatest 12 = .ok (.iconst 1, 1) := by decide +kernel
theorem dX3_takeLatest_13 : decode cX3_takeLatest 13 = .ok (.isub, 1) := by decide +kernel
theorem dX3_takeLatest_14 : decode cX3_takeLatest 14 = .ok (.goto 5, 3) := by decide +kernel
theorem dX3_takeLatest_17 : decode cX3_takeLatest 17 = .ok (.bipush 19, 2) := by decide +kernel
theorem dX3_takeLatest_19 : decode cX3_takeLatest 19 = .ok (.putfield 17, 3) := by decide +kernel
theorem dX3_takeLatest_22 : decode cX3_takeLatest 22 = .ok (.aload_n 0, 1) := by decide +kernel
theorem dX3_takeLatest_23 : decode cX3_takeLatest 23 = .ok (.dup, 1) := by decide +kernel
theorem dX3_takeLatest_24 : decode cX3_takeLatest 24 = .ok (.getfield 21, 3) := by decide +kernel
theorem dX3_takeLatest_27 : decode cX3_takeLatest 27 = .ok (.iconst 1, 1) := by decide +kernel
theorem dX3_takeLatest_28 : decode cX3_takeLatest 28 = .ok (.isub, 1) := by decide +kernel
theorem dX3_takeLatest_29 : decode cX3_takeLatest 29 = .ok (.putfield 21, 3) := by decide +kernel
theorem dX3_takeLatest_32 : decode cX3_takeLatest 32 = .ok (.aload_n 0, 1) := by decide +kernel
theorem dX3_takeLatest_33 : decode cX3_takeLatest 33 = .ok (.getfield 11, 3) := by decide +kernel
theorem dX3_takeLatest_36 : decode cX3_takeLatest 36 = .ok (.aload_n 0, 1) := by decide +kernel
theorem dX3_takeLatest_37 : decode cX3_takeLatest 37 = .ok (.getfield 17, 3) := by decide +kernel
theorem dX3_takeLatest_40 : decode cX3_takeLatest 40 = .ok (.aaload, 1) := by decide +kernel
theorem dX3_takeLatest_41 : decode cX3_takeLatest 41 = .ok (.areturn, 1) := by decide +kernel
theorem dX4_init_0 : decode cX4_init 0 = .ok (.aload_n 0, 1) := by decide +kernel
theorem dX4_init_1 : decode cX4_init 1 = .ok (.invokespecial 3, 3) := by decide +kernel
theorem dX4_init_4 : decode cX4_init 4 = .ok (.aload_n 0, 1) := by decide +kernel
theorem dX4_init_5 : decode cX4_init 5 = .ok (.bipush 32, 2) := by decide +kernel
theorem dX4_init_7 : decode cX4_init 7 = .ok (.newarray .int, 2) := by decide +kernel
theorem dX4_init_9 : decode cX4_init 9 = .ok (.putfield 9, 3) := by decide +kernel
theorem dX4_init_12 : decode cX4_init 12 = .ok (.aload_n 0, 1) := by decide +kernel
theorem dX4_init_13 : decode cX4_init 13 = .ok (.bipush 40, 2) := by decide +kernel
theorem dX4_init_15 : decode cX4_init 15 = .ok (.newarray .int, 2) := by decide +kernel
theorem dX4_init_17 : decode cX4_init 17 = .ok (.putfield 15, 3) := by decide +kernel
theorem dX4_init_20 : decode cX4_init 20 = .ok (.aload_n 0, 1) := by decide +kernel
theorem dX4_init_21 : decode cX4_init 21 = .ok (.bipush 40, 2) := by decide +kernel
theorem dX4_init_23 : decode cX4_init 23 = .ok (.newarray .int, 2) := by decide +kernel
theorem dX4_init_25 : decode cX4_init 25 = .ok (.putfield 18, 3) := by decide +kernel
theorem dX4_init_28 : decode cX4_init 28 = .ok (.aload_n 0, 1) := by decide +kernel
theorem dX4_init_29 : decode cX4_init 29 = .ok (.bipush 40, 2) := by decide +kernel
theorem dX4_init_31 : decode cX4_init 31 = .ok (.newarray .int, 2) := by decide +kernel
theorem dX4_init_33 : decode cX4_init 33 = .ok (.putfield 21, 3) := by decide +kernel
theorem dX4_init_36 : decode cX4_init 36 = .ok (.aload_n 0, 1) := by decide +kernel
theorem dX4_init_37 : decode cX4_init 37 = .ok (.bipush 40, 2) := by decide +kernel
theorem dX4_init_39 : decode cX4_init 39 = .ok (.newarray .int, 2) := by decide +kernel
theorem dX4_init_41 : decode cX4_init 41 = .ok (.putfield 24, 3) := by decide +kernel
theorem dX4_init_44 : decode cX4_init 44 = .ok (.aload_n 0, 1) := by decide +kernel
theorem dX4_init_45 : decode cX4_init 45 = .ok (.iconst 0, 1) := by decide +kernel
theorem dX4_init_46 : decode cX4_init 46 = .ok (.putfield 27, 3) := by decide +kernel
theorem dX4_init_49 : decode cX4_init 49 = .ok (.iconst 0, 1) := by decide +kernel
theorem dX4_init_50 : decode cX4_init 50 = .ok (.istore_n 1, 1) := by decide +kernel
theorem dX4_init_51 : decode cX4_init 51 = .ok (.iload_n 1, 1) := by decide +kernel
theorem dX4_init_52 : decode cX4_init 52 = .ok (.bipush 32, 2) := by decide +kernel
theorem dX4_init_54 : decode cX4_init 54 = .ok (.if_icmp .ge 16, 3) := by decide +kernel
theorem dX4_init_57 : decode cX4_init 57 = .ok (.aload_n 0, 1) := by decide +kernel
theorem dX4_init_58 : decode cX4_init 58 = .ok (.getfield 9, 3) := by decide +kernel
theorem dX4_init_61 : decode cX4_init 61 = .ok (.iload_n 1, 1) := by decide +kernel
theorem dX4_init_62 : decode cX4_init 62 = .ok (.iconst (-1), 1) := by decide +kernel
theorem dX4_init_63 : decode cX4_init 63 = .ok (.iastore, 1) := by decide +kernel
theorem dX4_init_64 : decode cX4_init 64 = .ok (.iinc 1 1, 3) := by decide +kernel
theorem dX4_init_67 : decode cX4_init 67 = .ok (.goto (-16), 3) := by decide +kernel
theorem dX4_init_70 : decode cX4_init 70 = .ok (.return_, 1) := by decide +kernel
theorem dX4_append_0 : decode cX4_append 0 = .ok (.aload_n 0, 1) := by decide +kernel
theorem dX4_append_1 : decode cX4_append 1 = .ok (.getfield 15, 3) := by decide +kernel
theorem dX4_append_4 : decode cX4_append 4 = .ok (.aload_n 0, 1) := by decide +kernel
theorem dX4_append_5 : decode cX4_append 5 = .ok (.getfield 27, 3) := by decide +kernel
theorem dX4_append_8 : decode cX4_append 8 = .ok (.iload_n 1, 1) := by decide +kernel
theorem dX4_append_9 : decode cX4_append 9 = .ok (.iastore, 1) := by decide +kernel
theorem dX4_append_10 : decode cX4_append 10 = .ok (.aload_n 0, 1) := by decide +kernel
theorem dX4_append_11 : decode cX4_append 11 = .ok (.getfield 18, 3) := by decide +kernel
theorem dX4_append_14 : decode cX4_append 14 = .ok (.aload_n 0, 1) := by decide +kernel
theorem dX4_append_15 : decode cX4_append 15 = .ok (.getfield 27, 3) := by decide +kernel
theorem dX4_append_18 : decode cX4_append 18 = .ok (.iload_n 2, 1) := by decide +kernel
theorem dX4_append_19 : decode cX4_append 19 = .ok (.iastore, 1) := by decide +kernel
theorem dX4_append_20 : decode cX4_append 20 = .ok (.aload_n 0, 1) := by decide +kernel
theorem dX4_append_21 : decode cX4_append 21 = .ok (.getfield 21, 3) := by decide +kernel
theorem dX4_append_24 : decode cX4_append 24 = .ok (.aload_n 0, 1) := by decide +kernel
theorem dX4_append_25 : decode cX4_append 25 = .ok (.getfield 27, 3) := by decide +kernel
theorem dX4_append_28 : decode cX4_append 28 = .ok (.iload_n 3, 1) := by decide +kernel
theorem dX4_append_29 : decode cX4_append 29 = .ok (.iastore, 1) := by decide +kernel
theorem dX4_append_30 : decode cX4_append 30 = .ok (.aload_n 0, 1) := by decide +kernel
theorem dX4_append_31 : decode cX4_append 31 = .ok (.getfield 24, 3) := by decide +kernel
theorem dX4_append_34 : decode cX4_append 34 = .ok (.aload_n 0, 1) := by decide +kernel
theorem dX4_append_35 : decode cX4_append 35 = .ok (.getfield 27, 3) := by decide +kernel
theorem dX4_append_38 : decode cX4_append 38 = .ok (.iload 4, 2) := by decide +kernel
theorem dX4_append_40 : decode cX4_append 40 = .ok (.iastore, 1) := by decide +kernel
theorem dX4_append_41 : decode cX4_append 41 = .ok (.aload_n 0, 1) := by decide +kernel
theorem dX4_append_42 : decode cX4_append 42 = .ok (.dup, 1) := by decide +kernel
theorem dX4_append_43 : decode cX4_append 43 = .ok (.getfield 27, 3) := by decide +kernel
theorem dX4_append_46 : decode cX4_append 46 = .ok (.iconst 1, 1) := by decide +kernel
theorem dX4_append_47 : decode cX4_append 47 = .ok (.iadd, 1) := by decide +kernel
theorem dX4_append_48 : decode cX4_append 48 = .ok (.putfield 27, 3) := by decide +kernel
theorem dX4_append_51 : decode cX4_append 51 = .ok (.return_, 1) := by decide +kernel
theorem dX4_isBarred_0 : decode cX4_isBarred 0 = .ok (.iconst (-1), 1) := by decide +kernel
theorem dX4_isBarred_1 : decode cX4_isBarred 1 = .ok (.istore 4, 2) := by decide +kernel
theorem dX4_isBarred_3 : decode cX4_isBarred 3 = .ok (.iconst 0, 1) := by decide +kernel
theorem dX4_isBarred_4 : decode cX4_isBarred 4 = .ok (.istore 5, 2) := by decide +kernel
theorem dX4_isBarred_6 : decode cX4_isBarred 6 = .ok (.iload 5, 2) := by decide +kernel
theorem dX4_isBarred_8 : decode cX4_isBarred 8 = .ok (.aload_n 0, 1) := by decide +kernel
theorem dX4_isBarred_9 : decode cX4_isBarred 9 = .ok (.getfield 27, 3) := by decide +kernel
theorem dX4_isBarred_12 : decode cX4_isBarred 12 = .ok (.if_icmp .ge 48, 3) := by decide +kernel
theorem dX4_isBarred_15 : decode cX4_isBarred 15 = .ok (.aload_n 0, 1) := by decide +kernel
theorem dX4_isBarred_16 : decode cX4_isBarred 16 = .ok (.getfield 18, 3) := by decide +kernel
theorem dX4_isBarred_19 : decode cX4_isBarred 19 = .ok (.iload 5, 2) := by decide +kernel
theorem dX4_isBarred_21 : decode cX4_isBarred 21 = .ok (.iaload, 1) := by decide +kernel
theorem dX4_isBarred_22 : decode cX4_isBarred 22 = .ok (.iconst 2, 1) := by decide +kernel
theorem dX4_isBarred_23 : decode cX4_isBarred 23 = .ok (.if_icmp .eq 31, 3) := by decide +kernel
theorem dX4_isBarred_26 : decode cX4_isBarred 26 = .ok (.aload_n 0, 1) := by decide +kernel
theorem dX4_isBarred_27 : decode cX4_isBarred 27 = .ok (.getfield 21, 3) := by decide +kernel
theorem dX4_isBarred_30 : decode cX4_isBarred 30 = .ok (.iload 5, 2) := by decide +kernel
theorem dX4_isBarred_32 : decode cX4_isBarred 32 = .ok (.iaload, 1) := by decide +kernel
theorem dX4_isBarred_33 : decode cX4_isBarred 33 = .ok (.iload_n 2, 1) := by decide +kernel
theorem dX4_isBarred_34 : decode cX4_isBarred 34 = .ok (.if_icmp .ne 20, 3) := by decide +kernel
theorem dX4_isBarred_37 : decode cX4_isBarred 37 = .ok (.aload_n 0, 1) := by decide +kernel
theorem dX4_isBarred_38 : decode cX4_isBarred 38 = .ok (.iload 5, 2) := by decide +kernel
theorem dX4_isBarred_40 : decode cX4_isBarred 40 = .ok (.iload 4, 2) := by decide +kernel
theorem dX4_isBarred_42 : decode cX4_isBarred 42 = .ok (.iload_n 1, 1) := by decide +kernel
theorem dX4_isBarred_43 : decode cX4_isBarred 43 = .ok (.iload_n 3, 1) := by decide +kernel
theorem dX4_isBarred_44 : decode cX4_isBarred 44 = .ok (.invokevirtual 31, 3) := by decide +kernel
theorem dX4_isBarred_47 : decode cX4_isBarred 47 = .ok (.ifCond .eq 7, 3) := by decide +kernel
theorem dX4_isBarred_50 : decode cX4_isBarred 50 = .ok (.iload 5, 2) := by decide +kernel
theorem dX4_isBarred_52 : decode cX4_isBarred 52 = .ok (.istore 4, 2) := by decide +kernel
theorem dX4_isBarred_54 : decode cX4_isBarred 54 = .ok (.iinc 5 1, 3) := by decide +kernel
theorem dX4_isBarred_57 : decode cX4_isBarred 57 = .ok (.goto (-51), 3) := by decide +kernel
theorem dX4_isBarred_60 : decode cX4_isBarred 60 = .ok (.iload 4, 2) := by decide +kernel
theorem dX4_isBarred_62 : decode cX4_isBarred 62 = .ok (.ifCond .lt 17, 3) := by decide +kernel
theorem dX4_isBarred_65 : decode cX4_isBarred 65 = .ok (.aload_n 0, 1) := by decide +kernel
theorem dX4_isBarred_66 : decode cX4_isBarred 66 = .ok (.getfield 18, 3) := by decide +kernel
theorem dX4_isBarred_69 : decode cX4_isBarred 69 = .ok (.iload 4, 2) := by decide +kernel
theorem dX4_isBarred_71 : decode cX4_isBarred 71 = .ok (.iaload, 1) := by decide +kernel
theorem dX4_isBarred_72 : decode cX4_isBarred 72 = .ok (.ifCond .ne 7, 3) := by decide +kernel
theorem dX4_isBarred_75 : decode cX4_isBarred 75 = .ok (.iconst 1, 1) := by decide +kernel
theorem dX4_isBarred_76 : decode cX4_isBarred 76 = .ok (.goto 4, 3) := by decide +kernel
theorem dX4_isBarred_79 : decode cX4_isBarred 79 = .ok (.iconst 0, 1) := by decide +kernel
theorem dX4_isBarred_80 : decode cX4_isBarred 80 = .ok (.ireturn, 1) := by decide +kernel
theorem dX4_choiceFor_0 : decode cX4_choiceFor 0 = .ok (.iconst (-1), 1) := by decide +kernel
theorem dX4_choiceFor_1 : decode cX4_choiceFor 1 = .ok (.istore 4, 2) := by decide +kernel
theorem dX4_choiceFor_3 : decode cX4_choiceFor 3 = .ok (.iconst 0, 1) := by decide +kernel
theorem dX4_choiceFor_4 : decode cX4_choiceFor 4 = .ok (.istore 5, 2) := by decide +kernel
theorem dX4_choiceFor_6 : decode cX4_choiceFor 6 = .ok (.iload 5, 2) := by decide +kernel
theorem dX4_choiceFor_8 : decode cX4_choiceFor 8 = .ok (.aload_n 0, 1) := by decide +kernel
theorem dX4_choiceFor_9 : decode cX4_choiceFor 9 = .ok (.getfield 27, 3) := by decide +kernel
theorem dX4_choiceFor_12 : decode cX4_choiceFor 12 = .ok (.if_icmp .ge 53, 3) := by decide +kernel
theorem dX4_choiceFor_15 : decode cX4_choiceFor 15 = .ok (.aload_n 0, 1) := by decide +kernel
theorem dX4_choiceFor_16 : decode cX4_choiceFor 16 = .ok (.getfield 18, 3) := by decide +kernel
theorem dX4_choiceFor_19 : decode cX4_choiceFor 19 = .ok (.iload 5, 2) := by decide +kernel
theorem dX4_choiceFor_21 : decode cX4_choiceFor 21 = .ok (.iaload, 1) := by decide +kernel
theorem dX4_choiceFor_22 : decode cX4_choiceFor 22 = .ok (.iconst 2, 1) := by decide +kernel
theorem dX4_choiceFor_23 : decode cX4_choiceFor 23 = .ok (.if_icmp .ne 36, 3) := by decide +kernel
theorem dX4_choiceFor_26 : decode cX4_choiceFor 26 = .ok (.aload_n 0, 1) := by decide +kernel
theorem dX4_choiceFor_27 : decode cX4_choiceFor 27 = .ok (.getfield 9, 3) := by decide +kernel
theorem dX4_choiceFor_30 : decode cX4_choiceFor 30 = .ok (.aload_n 0, 1) := by decide +kernel
theorem dX4_choiceFor_31 : decode cX4_choiceFor 31 = .ok (.getfield 21, 3) := by decide +kernel
theorem dX4_choiceFor_34 : decode cX4_choiceFor 34 = .ok (.iload 5, 2) := by decide +kernel
theorem dX4_choiceFor_36 : decode cX4_choiceFor 36 = .ok (.iaload, 1) := by decide +kernel
theorem dX4_choiceFor_37 : decode cX4_choiceFor 37 = .ok (.iaload, 1) := by decide +kernel
theorem dX4_choiceFor_38 : decode cX4_choiceFor 38 = .ok (.iload_n 2, 1) := by decide +kernel
theorem dX4_choiceFor_39 : decode cX4_choiceFor 39 = .ok (.if_icmp .ne 20, 3) := by decide +kernel
theorem dX4_choiceFor_42 : decode cX4_choiceFor 42 = .ok (.aload_n 0, 1) := by decide +kernel
theorem dX4_choiceFor_43 : decode cX4_choiceFor 43 = .ok (.iload 5, 2) := by decide +kernel
theorem dX4_choiceFor_45 : decode cX4_choiceFor 45 = .ok (.iload 4, 2) := by decide +kernel
theorem dX4_choiceFor_47 : decode cX4_choiceFor 47 = .ok (.iload_n 1, 1) := by decide +kernel
theorem dX4_choiceFor_48 : decode cX4_choiceFor 48 = .ok (.iload_n 3, 1) := by decide +kernel
theorem dX4_choiceFor_49 : decode cX4_choiceFor 49 = .ok (.invokevirtual 31, 3) := by decide +kernel
theorem dX4_choiceFor_52 : decode cX4_choiceFor 52 = .ok (.ifCond .eq 7, 3) := by decide +kernel
theorem dX4_choiceFor_55 : decode cX4_choiceFor 55 = .ok (.iload 5, 2) := by decide +kernel
theorem dX4_choiceFor_57 : decode cX4_choiceFor 57 = .ok (.istore 4, 2) := by decide +kernel
theorem dX4_choiceFor_59 : decode cX4_choiceFor 59 = .ok (.iinc 5 1, 3) := by decide +kernel
theorem dX4_choiceFor_62 : decode cX4_choiceFor 62 = .ok (.goto (-56), 3) := by decide +kernel
theorem dX4_choiceFor_65 : decode cX4_choiceFor 65 = .ok (.iload 4, 2) := by decide +kernel
theorem dX4_choiceFor_67 : decode cX4_choiceFor 67 = .ok (.ifCond .ge 7, 3) := by decide +kernel
theorem dX4_choiceFor_70 : decode cX4_choiceFor 70 = .ok (.iconst (-1), 1) := by decide +kernel
theorem dX4_choiceFor_71 : decode cX4_choiceFor 71 = .ok (.goto 10, 3) := by decide +kernel
theorem dX4_choiceFor_74 : decode cX4_choiceFor 74 = .ok (.aload_n 0, 1) := by decide +kernel
theorem dX4_choiceFor_75 : decode cX4_choiceFor 75 = .ok (.getfield 21, 3) := by decide +kernel
theorem dX4_choiceFor_78 : decode cX4_choiceFor 78 = .ok (.iload 4, 2) := by decide +kernel
theorem dX4_choiceFor_80 : decode cX4_choiceFor 80 = .ok (.iaload, 1) := by decide +kernel
theorem dX4_choiceFor_81 : decode cX4_choiceFor 81 = .ok (.ireturn, 1) := by decide +kernel
theorem dX4_allows_0 : decode cX4_allows 0 = .ok (.iconst 0, 1) := by decide +kernel
theorem dX4_allows_1 : decode cX4_allows 1 = .ok (.istore 4, 2) := by decide +kernel
theorem dX4_allows_3 : decode cX4_allows 3 = .ok (.iload 4, 2) := by decide +kernel
theorem dX4_allows_5 : decode cX4_allows 5 = .ok (.aload_n 1, 1) := by decide +kernel
theorem dX4_allows_6 : decode cX4_allows 6 = .ok (.getfield 35, 3) := by decide +kernel
theorem dX4_allows_9 : decode cX4_allows 9 = .ok (.if_icmp .ge 27, 3) := by decide +kernel
theorem dX4_allows_12 : decode cX4_allows 12 = .ok (.aload_n 0, 1) := by decide +kernel
theorem dX4_allows_13 : decode cX4_allows 13 = .ok (.aload_n 1, 1) := by decide +kernel
theorem dX4_allows_14 : decode cX4_allows 14 = .ok (.getfield 40, 3) := by decide +kernel
theorem dX4_allows_17 : decode cX4_allows 17 = .ok (.iload 4, 2) := by decide +kernel
theorem dX4_allows_19 : decode cX4_allows 19 = .ok (.iaload, 1) := by decide +kernel
theorem dX4_allows_20 : decode cX4_allows 20 = .ok (.iload_n 2, 1) := by decide +kernel
theorem dX4_allows_21 : decode cX4_allows 21 = .ok (.iload_n 3, 1) := by decide +kernel
theorem dX4_allows_22 : decode cX4_allows 22 = .ok (.invokevirtual 41, 3) := by decide +kernel
theorem dX4_allows_25 : decode cX4_allows 25 = .ok (.ifCond .ne 5, 3) := by decide +kernel
theorem dX4_allows_28 : decode cX4_allows 28 = .ok (.iconst 0, 1) := by decide +kernel
theorem dX4_allows_29 : decode cX4_allows 29 = .ok (.ireturn, 1) := by decide +kernel
theorem dX4_allows_30 : decode cX4_allows 30 = .ok (.iinc 4 1, 3) := by decide +kernel
theorem dX4_allows_33 : decode cX4_allows 33 = .ok (.goto (-30), 3) := by decide +kernel
theorem dX4_allows_36 : decode cX4_allows 36 = .ok (.iconst 1, 1) := by decide +kernel
theorem dX4_allows_37 : decode cX4_allows 37 = .ok (.ireturn, 1) := by decide +kernel
theorem dX4_allowsWord_0 : decode cX4_allowsWord 0 = .ok (.aload_n 0, 1) := by decide +kernel
theorem dX4_allowsWord_1 : decode cX4_allowsWord 1 = .ok (.iload_n 2, 1) := by decide +kernel
theorem dX4_allowsWord_2 : decode cX4_allowsWord 2 = .ok (.iload_n 1, 1) := by decide +kernel
theorem dX4_allowsWord_3 : decode cX4_allowsWord 3 = .ok (.iload_n 3, 1) := by decide +kernel
theorem dX4_allowsWord_4 : decode cX4_allowsWord 4 = .ok (.invokevirtual 45, 3) := by decide +kernel
theorem dX4_allowsWord_7 : decode cX4_allowsWord 7 = .ok (.ifCond .eq 5, 3) := by decide +kernel
theorem dX4_allowsWord_10 : decode cX4_allowsWord 10 = .ok (.iconst 0, 1) := by decide +kernel
theorem dX4_allowsWord_11 : decode cX4_allowsWord 11 = .ok (.ireturn, 1) := by decide +kernel
theorem dX4_allowsWord_12 : decode cX4_allowsWord 12 = .ok (.aload_n 0, 1) := by decide +kernel
theorem dX4_allowsWord_13 : decode cX4_allowsWord 13 = .ok (.getfield 9, 3) := by decide +kernel
theorem dX4_allowsWord_16 : decode cX4_allowsWord 16 = .ok (.iload_n 1, 1) := by decide +kernel
theorem dX4_allowsWord_17 : decode cX4_allowsWord 17 = .ok (.iaload, 1) := by decide +kernel
theorem dX4_allowsWord_18 : decode cX4_allowsWord 18 = .ok (.ifCond .ge 5, 3) := by decide +kernel
theorem dX4_allowsWord_21 : decode cX4_allowsWord 21 = .ok (.iconst 1, 1) := by decide +kernel
theorem dX4_allowsWord_22 : decode cX4_allowsWord 22 = .ok (.ireturn, 1) := by decide +kernel
theorem dX4_allowsWord_23 : decode cX4_allowsWord 23 = .ok (.aload_n 0, 1) := by decide +kernel
theorem dX4_allowsWord_24 : decode cX4_allowsWord 24 = .ok (.iload_n 2, 1) := by decide +kernel
theorem dX4_allowsWord_25 : decode cX4_allowsWord 25 = .ok (.aload_n 0, 1) := by decide +kernel
theorem dX4_allowsWord_26 : decode cX4_allowsWord 26 = .ok (.getfield 9, 3) := by decide +kernel
theorem dX4_allowsWord_29 : decode cX4_allowsWord 29 = .ok (.iload_n 1, 1) := by decide +kernel
theorem dX4_allowsWord_30 : decode cX4_allowsWord 30 = .ok (.iaload, 1) := by decide +kernel
theorem dX4_allowsWord_31 : decode cX4_allowsWord 31 = .ok (.iload_n 3, 1) := by decide +kernel
theorem dX4_allowsWord_32 : decode cX4_allowsWord 32 = .ok (.invokevirtual 48, 3) := by decide +kernel
theorem dX4_allowsWord_35 : decode cX4_allowsWord 35 = .ok (.istore 4, 2) := by decide +kernel
theorem dX4_allowsWord_37 : decode cX4_allowsWord 37 = .ok (.iload 4, 2) := by decide +kernel
theorem dX4_allowsWord_39 : decode cX4_allowsWord 39 = .ok (.ifCond .lt 9, 3) := by decide +kernel
theorem dX4_allowsWord_42 : decode cX4_allowsWord 42 = .ok (.iload 4, 2) := by decide +kernel
theorem dX4_allowsWord_44 : decode cX4_allowsWord 44 = .ok (.iload_n 1, 1) := by decide +kernel
theorem dX4_allowsWord_45 : decode cX4_allowsWord 45 = .ok (.if_icmp .ne 7, 3) := by decide +kernel
theorem dX4_allowsWord_48 : decode cX4_allowsWord 48 = .ok (.iconst 1, 1) := by decide +kernel
theorem dX4_allowsWord_49 : decode cX4_allowsWord 49 = .ok (.goto 4, 3) := by decide +kernel
theorem dX4_allowsWord_52 : decode cX4_allowsWord 52 = .ok (.iconst 0, 1) := by decide +kernel
theorem dX4_allowsWord_53 : decode cX4_allowsWord 53 = .ok (.ireturn, 1) := by decide +kernel
theorem dX4_overrules_0 : decode cX4_overrules 0 = .ok (.aload_n 0, 1) := by decide +kernel
theorem dX4_overrules_1 : decode cX4_overrules 1 = .ok (.getfield 15, 3) := by decide +kernel
theorem dX4_overrules_4 : decode cX4_overrules 4 = .ok (.iload_n 1, 1) := by decide +kernel
theorem dX4_overrules_5 : decode cX4_overrules 5 = .ok (.iaload, 1) := by decide +kernel
theorem dX4_overrules_6 : decode cX4_overrules 6 = .ok (.iload_n 3, 1) := by decide +kernel
theorem dX4_overrules_7 : decode cX4_overrules 7 = .ok (.if_icmp .ne 37, 3) := by decide +kernel
theorem dX4_overrules_10 : decode cX4_overrules 10 = .ok (.aload_n 0, 1) := by decide +kernel
theorem dX4_overrules_11 : decode cX4_overrules 11 = .ok (.getfield 24, 3) := by decide +kernel
theorem dX4_overrules_14 : decode cX4_overrules 14 = .ok (.iload_n 1, 1) := by decide +kernel
theorem dX4_overrules_15 : decode cX4_overrules 15 = .ok (.iaload, 1) := by decide +kernel
theorem dX4_overrules_16 : decode cX4_overrules 16 = .ok (.iload 4, 2) := by decide +kernel
theorem dX4_overrules_18 : decode cX4_overrules 18 = .ok (.if_icmp .gt 26, 3) := by decide +kernel
theorem dX4_overrules_21 : decode cX4_overrules 21 = .ok (.iload_n 2, 1) := by decide +kernel
theorem dX4_overrules_22 : decode cX4_overrules 22 = .ok (.ifCond .lt 18, 3) := by decide +kernel
theorem dX4_overrules_25 : decode cX4_overrules 25 = .ok (.aload_n 0, 1) := by decide +kernel
theorem dX4_overrules_26 : decode cX4_overrules 26 = .ok (.getfield 24, 3) := by decide +kernel
theorem dX4_overrules_29 : decode cX4_overrules 29 = .ok (.iload_n 1, 1) := by decide +kernel
theorem dX4_overrules_30 : decode cX4_overrules 30 = .ok (.iaload, 1) := by decide +kernel
theorem dX4_overrules_31 : decode cX4_overrules 31 = .ok (.aload_n 0, 1) := by decide +kernel
theorem dX4_overrules_32 : decode cX4_overrules 32 = .ok (.getfield 24, 3) := by decide +kernel
theorem dX4_overrules_35 : decode cX4_overrules 35 = .ok (.iload_n 2, 1) := by decide +kernel
theorem dX4_overrules_36 : decode cX4_overrules 36 = .ok (.iaload, 1) := by decide +kernel
theorem dX4_overrules_37 : decode cX4_overrules 37 = .ok (.if_icmp .lt 7, 3) := by decide +kernel
theorem dX4_overrules_40 : decode cX4_overrules 40 = .ok (.iconst 1, 1) := by decide +kernel
theorem dX4_overrules_41 : decode cX4_overrules 41 = .ok (.goto 4, 3) := by decide +kernel
theorem dX4_overrules_44 : decode cX4_overrules 44 = .ok (.iconst 0, 1) := by decide +kernel
theorem dX4_overrules_45 : decode cX4_overrules 45 = .ok (.ireturn, 1) := by decide +kernel
theorem dX5_init_0 : decode cX5_init 0 = .ok (.aload_n 0, 1) := by decide +kernel
theorem dX5_init_1 : decode cX5_init 1 = .ok (.invokespecial 3, 3) := by decide +kernel
theorem dX5_init_4 : decode cX5_init 4 = .ok (.aload_n 0, 1) := by decide +kernel
theorem dX5_init_5 : decode cX5_init 5 = .ok (.bipush 24, 2) := by decide +kernel
theorem dX5_init_7 : decode cX5_init 7 = .ok (.newarray .int, 2) := by decide +kernel
theorem dX5_init_9 : decode cX5_init 9 = .ok (.putfield 9, 3) := by decide +kernel
theorem dX5_init_12 : decode cX5_init 12 = .ok (.aload_n 0, 1) := by decide +kernel
theorem dX5_init_13 : decode cX5_init 13 = .ok (.iconst 0, 1) := by decide +kernel
theorem dX5_init_14 : decode cX5_init 14 = .ok (.putfield 15, 3) := by decide +kernel
theorem dX5_init_17 : decode cX5_init 17 = .ok (.aload_n 0, 1) := by decide +kernel
theorem dX5_init_18 : decode cX5_init 18 = .ok (.iconst 0, 1) := by decide +kernel
theorem dX5_init_19 : decode cX5_init 19 = .ok (.putfield 19, 3) := by decide +kernel
theorem dX5_init_22 : decode cX5_init 22 = .ok (.return_, 1) := by decide +kernel
theorem dX5_begin_0 : decode cX5_begin 0 = .ok (.aload_n 0, 1) := by decide +kernel
theorem dX5_begin_1 : decode cX5_begin 1 = .ok (.iload_n 1, 1) := by decide +kernel
theorem dX5_begin_2 : decode cX5_begin 2 = .ok (.putfield 15, 3) := by decide +kernel
theorem dX5_begin_5 : decode cX5_begin 5 = .ok (.aload_n 0, 1) := by decide +kernel
theorem dX5_begin_6 : decode cX5_begin 6 = .ok (.iconst 0, 1) := by decide +kernel
theorem dX5_begin_7 : decode cX5_begin 7 = .ok (.putfield 19, 3) := by decide +kernel
theorem dX5_begin_10 : decode cX5_begin 10 = .ok (.return_, 1) := by decide +kernel
theorem dX5_takeFrames_0 : decode cX5_takeFrames 0 = .ok (.aload_n 1, 1) := by decide +kernel
theorem dX5_takeFrames_1 : decode cX5_takeFrames 1 = .ok (.iconst 0, 1) := by decide +kernel
theorem dX5_takeFrames_2 : decode cX5_takeFrames 2 = .ok (.aload_n 0, 1) := by decide +kernel
theorem dX5_takeFrames_3 : decode cX5_takeFrames 3 = .ok (.getfield 9, 3) := by decide +kernel
theorem dX5_takeFrames_6 : decode cX5_takeFrames 6 = .ok (.iconst 0, 1) := by decide +kernel
theorem dX5_takeFrames_7 : decode cX5_takeFrames 7 = .ok (.iload_n 2, 1) := by decide +kernel
theorem dX5_takeFrames_8 : decode cX5_takeFrames 8 = .ok (.invokestatic 22, 3) := by decide +kernel
theorem dX5_takeFrames_11 : decode cX5_takeFrames 11 = .ok (.aload_n 0, 1) := by decide +kernel
theorem dX5_takeFrames_12 : decode cX5_takeFrames 12 = .ok (.iload_n 2, 1) := by decide +kernel
theorem dX5_takeFrames_13 : decode cX5_takeFrames 13 = .ok (.putfield 19, 3) := by decide +kernel
theorem dX5_takeFrames_16 : decode cX5_takeFrames 16 = .ok (.return_, 1) := by decide +kernel
theorem dX6_init_0 : decode cX6_init 0 = .ok (.aload_n 0, 1) := by decide +kernel
theorem dX6_init_1 : decode cX6_init 1 = .ok (.invokespecial 3, 3) := by decide +kernel
theorem dX6_init_4 : decode cX6_init 4 = .ok (.aload_n 0, 1) := by decide +kernel
theorem dX6_init_5 : decode cX6_init 5 = .ok (.bipush 25, 2) := by decide +kernel
theorem dX6_init_7 : decode cX6_init 7 = .ok (.newarray .int, 2) := by decide +kernel
theorem dX6_init_9 : decode cX6_init 9 = .ok (.putfield 9, 3) := by decide +kernel
theorem dX6_init_12 : decode cX6_init 12 = .ok (.return_, 1) := by decide +kernel
theorem dX6_countKept_0 : decode cX6_countKept 0 = .ok (.iconst 0, 1) := by decide +kernel
theorem dX6_countKept_1 : decode cX6_countKept 1 = .ok (.istore 5, 2) := by decide +kernel
theorem dX6_countKept_3 : decode cX6_countKept 3 = .ok (.iload 5, 2) := by decide +kernel
theorem dX6_countKept_5 : decode cX6_countKept 5 = .ok (.iload 4, 2) := by decide +kernel
theorem dX6_countKept_7 : decode cX6_countKept 7 = .ok (.if_icmp .gt 17, 3) := by decide +kernel
theorem dX6_countKept_10 : decode cX6_countKept 10 = .ok (.aload_n 0, 1) := by decide +kernel
theorem dX6_countKept_11 : decode cX6_countKept 11 = .ok (.getfield 9, 3) := by decide +kernel
theorem dX6_countKept_14 : decode cX6_countKept 14 = .ok (.iload 5, 2) := by decide +kernel
theorem dX6_countKept_16 : decode cX6_countKept 16 = .ok (.iconst 0, 1) := by decide +kernel
theorem dX6_countKept_17 : decode cX6_countKept 17 = .ok (.iastore, 1) := by decide +kernel
theorem dX6_countKept_18 : decode cX6_countKept 18 = .ok (.iinc 5 1, 3) := by decide +kernel
theorem dX6_countKept_21 : decode cX6_countKept 21 = .ok (.goto (-18), 3) := by decide +kernel
theorem dX6_countKept_24 : decode cX6_countKept 24 = .ok (.iconst 0, 1) := by decide +kernel
theorem dX6_countKept_25 : decode cX6_countKept 25 = .ok (.istore 5, 2) := by decide +kernel
theorem dX6_countKept_27 : decode cX6_countKept 27 = .ok (.iload 5, 2) := by decide +kernel
theorem dX6_countKept_29 : decode cX6_countKept 29 = .ok (.iload_n 2, 1) := by decide +kernel
theorem dX6_countKept_30 : decode cX6_countKept 30 = .ok (.if_icmp .ge 82, 3) := by decide +kernel
theorem dX6_countKept_33 : decode cX6_countKept 33 = .ok (.iconst 0, 1) := by decide +kernel
theorem dX6_countKept_34 : decode cX6_countKept 34 = .ok (.istore 6, 2) := by decide +kernel
theorem dX6_countKept_36 : decode cX6_countKept 36 = .ok (.iconst 1, 1) := by decide +kernel
theorem dX6_countKept_37 : decode cX6_countKept 37 = .ok (.istore 7, 2) := by decide +kernel
theorem dX6_countKept_39 : decode cX6_countKept 39 = .ok (.iload 7, 2) := by decide +kernel
theorem dX6_countKept_41 : decode cX6_countKept 41 = .ok (.iload 4, 2) := by decide +kernel
theorem dX6_countKept_43 : decode cX6_countKept 43 = .ok (.if_icmp .gt 63, 3) := by decide +kernel
theorem dX6_countKept_46 : decode cX6_countKept 46 = .ok (.aload_n 0, 1) := by decide +kernel
theorem dX6_countKept_47 : decode cX6_countKept 47 = .ok (.getfield 9, 3) := by decide +kernel
theorem dX6_countKept_50 : decode cX6_countKept 50 = .ok (.iload 7, 2) := by decide +kernel
theorem dX6_countKept_52 : decode cX6_countKept 52 = .ok (.iaload, 1) := by decide +kernel
theorem dX6_countKept_53 : decode cX6_countKept 53 = .ok (.istore 8, 2) := by decide +kernel
theorem dX6_countKept_55 : decode cX6_countKept 55 = .ok (.aload_n 0, 1) := by decide +kernel
theorem dX6_countKept_56 : decode cX6_countKept 56 = .ok (.getfield 9, 3) := by decide +kernel
theorem dX6_countKept_59 : decode cX6_countKept 59 = .ok (.iload 7, 2) := by decide +kernel
theorem dX6_countKept_61 : decode cX6_countKept 61 = .ok (.aload_n 1, 1) := by decide +kernel
theorem dX6_countKept_62 : decode cX6_countKept 62 = .ok (.iload 5, 2) := by decide +kernel
theorem dX6_countKept_64 : decode cX6_countKept 64 = .ok (.iaload, 1) := by decide +kernel
theorem dX6_countKept_65 : decode cX6_countKept 65 = .ok (.aload_n 3, 1) := by decide +kernel
theorem dX6_countKept_66 : decode cX6_countKept 66 = .ok (.iload 7, 2) := by decide +kernel
theorem dX6_countKept_68 : decode cX6_countKept 68 = .ok (.iconst 1, 1) := by decide +kernel
theorem dX6_countKept_69 : decode cX6_countKept 69 = .ok (.isub, 1) := by decide +kernel
theorem dX6_countKept_70 : decode cX6_countKept 70 = .ok (.iaload, 1) := by decide +kernel
theorem dX6_countKept_71 : decode cX6_countKept 71 = .ok (.if_icmp .ne 10, 3) := by decide +kernel
theorem dX6_countKept_74 : decode cX6_countKept 74 = .ok (.iload 6, 2) := by decide +kernel
theorem dX6_countKept_76 : decode cX6_countKept 76 = .ok (.iconst 1, 1) := by decide +kernel
theorem dX6_countKept_77 : decode cX6_countKept 77 = .ok (.iadd, 1) := by decide +kernel
theorem dX6_countKept_78 : decode cX6_countKept 78 = .ok (.goto 17, 3) := by decide +kernel
theorem dX6_countKept_81 : decode cX6_countKept 81 = .ok (.iload 8, 2) := by decide +kernel
theorem dX6_countKept_83 : decode cX6_countKept 83 = .ok (.aload_n 0, 1) := by decide +kernel
theorem dX6_countKept_84 : decode cX6_countKept 84 = .ok (.getfield 9, 3) := by decide +kernel
theorem dX6_countKept_87 : decode cX6_countKept 87 = .ok (.iload 7, 2) := by decide +kernel
theorem dX6_countKept_89 : decode cX6_countKept 89 = .ok (.iconst 1, 1) := by decide +kernel
theorem dX6_countKept_90 : decode cX6_countKept 90 = .ok (.isub, 1) := by decide +kernel
theorem dX6_countKept_91 : decode cX6_countKept 91 = .ok (.iaload, 1) := by decide +kernel
theorem dX6_countKept_92 : decode cX6_countKept 92 = .ok (.invokestatic 15, 3) := by decide +kernel
theorem dX6_countKept_95 : decode cX6_countKept 95 = .ok (.iastore, 1) := by decide +kernel
theorem dX6_countKept_96 : decode cX6_countKept 96 = .ok (.iload 8, 2) := by decide +kernel
theorem dX6_countKept_98 : decode cX6_countKept 98 = .ok (.istore 6, 2) := by decide +kernel
theorem dX6_countKept_100 : decode cX6_countKept 100 = .ok (.iinc 7 1, 3) := by decide +kernel
theorem dX6_countKept_103 : decode cX6_countKept 103 = .ok (.goto (-64), 3) := by decide +kernel
theorem dX6_countKept_106 : decode cX6_countKept 106 = .ok (.iinc 5 1, 3) := by decide +kernel
theorem dX6_countKept_109 : decode cX6_countKept 109 = .ok (.goto (-82), 3) := by decide +kernel
theorem dX6_countKept_112 : decode cX6_countKept 112 = .ok (.aload_n 0, 1) := by decide +kernel
theorem dX6_countKept_113 : decode cX6_countKept 113 = .ok (.getfield 9, 3) := by decide +kernel
theorem dX6_countKept_116 : decode cX6_countKept 116 = .ok (.iload 4, 2) := by decide +kernel
theorem dX6_countKept_118 : decode cX6_countKept 118 = .ok (.iaload, 1) := by decide +kernel
theorem dX6_countKept_119 : decode cX6_countKept 119 = .ok (.ireturn, 1) := by decide +kernel
theorem dX7_init_0 : decode cX7_init 0 = .ok (.aload_n 0, 1) := by decide +kernel
theorem dX7_init_1 : decode cX7_init 1 = .ok (.invokespecial 3, 3) := by decide +kernel
theorem dX7_init_4 : decode cX7_init 4 = .ok (.aload_n 0, 1) := by decide +kernel
theorem dX7_init_5 : decode cX7_init 5 = .ok (.bipush 7, 2) := by decide +kernel
theorem dX7_init_7 : decode cX7_init 7 = .ok (.newarray .int, 2) := by decide +kernel
theorem dX7_init_9 : decode cX7_init 9 = .ok (.putfield 9, 3) := by decide +kernel
theorem dX7_init_12 : decode cX7_init 12 = .ok (.aload_n 0, 1) := by decide +kernel
theorem dX7_init_13 : decode cX7_init 13 = .ok (.bipush 7, 2) := by decide +kernel
theorem dX7_init_15 : decode cX7_init 15 = .ok (.newarray .int, 2) := by decide +kernel
theorem dX7_init_17 : decode cX7_init 17 = .ok (.putfield 15, 3) := by decide +kernel
theorem dX7_init_20 : decode cX7_init 20 = .ok (.aload_n 0, 1) := by decide +kernel
theorem dX7_init_21 : decode cX7_init 21 = .ok (.bipush 7, 2) := by decide +kernel
theorem dX7_init_23 : decode cX7_init 23 = .ok (.newarray .int, 2) := by decide +kernel
theorem dX7_init_25 : decode cX7_init 25 = .ok (.putfield 18, 3) := by decide +kernel
theorem dX7_init_28 : decode cX7_init 28 = .ok (.aload_n 0, 1) := by decide +kernel
theorem dX7_init_29 : decode cX7_init 29 = .ok (.bipush 7, 2) := by decide +kernel
theorem dX7_init_31 : decode cX7_init 31 = .ok (.newarray .int, 2) := by decide +kernel
theorem dX7_init_33 : decode cX7_init 33 = .ok (.putfield 21, 3) := by decide +kernel
theorem dX7_init_36 : decode cX7_init 36 = .ok (.aload_n 0, 1) := by decide +kernel
theorem dX7_init_37 : decode cX7_init 37 = .ok (.iconst 4, 1) := by decide +kernel
theorem dX7_init_38 : decode cX7_init 38 = .ok (.newarray .int, 2) := by decide +kernel
theorem dX7_init_40 : decode cX7_init 40 = .ok (.putfield 24, 3) := by decide +kernel
theorem dX7_init_43 : decode cX7_init 43 = .ok (.aload_n 0, 1) := by decide +kernel
theorem dX7_init_44 : decode cX7_init 44 = .ok (.iconst 4, 1) := by decide +kernel
theorem dX7_init_45 : decode cX7_init 45 = .ok (.newarray .int, 2) := by decide +kernel
theorem dX7_init_47 : decode cX7_init 47 = .ok (.putfield 27, 3) := by decide +kernel
theorem dX7_init_50 : decode cX7_init 50 = .ok (.aload_n 0, 1) := by decide +kernel
theorem dX7_init_51 : decode cX7_init 51 = .ok (.bipush 7, 2) := by decide +kernel
theorem dX7_init_53 : decode cX7_init 53 = .ok (.newarray .int, 2) := by decide +kernel
theorem dX7_init_55 : decode cX7_init 55 = .ok (.putfield 30, 3) := by decide +kernel
theorem dX7_init_58 : decode cX7_init 58 = .ok (.aload_n 0, 1) := by decide +kernel
theorem dX7_init_59 : decode cX7_init 59 = .ok (.iconst 0, 1) := by decide +kernel
theorem dX7_init_60 : decode cX7_init 60 = .ok (.putfield 33, 3) := by decide +kernel
theorem dX7_init_63 : decode cX7_init 63 = .ok (.aload_n 0, 1) := by decide +kernel
theorem dX7_init_64 : decode cX7_init 64 = .ok (.iconst 0, 1) := by decide +kernel
theorem dX7_init_65 : decode cX7_init 65 = .ok (.putfield 37, 3) := by decide +kernel
theorem dX7_init_68 : decode cX7_init 68 = .ok (.aload_n 0, 1) := by decide +kernel
theorem dX7_init_69 : decode cX7_init 69 = .ok (.iconst 0, 1) := by decide +kernel
theorem dX7_init_70 : decode cX7_init 70 = .ok (.putfield 40, 3) := by decide +kernel
theorem dX7_init_73 : decode cX7_init 73 = .ok (.aload_n 0, 1) := by decide +kernel
theorem dX7_init_74 : decode cX7_init 74 = .ok (.iconst 0, 1) := by decide +kernel
theorem dX7_init_75 : decode cX7_init 75 = .ok (.putfield 44, 3) := by decide +kernel
theorem dX7_init_78 : decode cX7_init 78 = .ok (.return_, 1) := by decide +kernel
theorem dX7_seekPlans_0 : decode cX7_seekPlans 0 = .ok (.aload_n 0, 1) := by decide +kernel
theorem dX7_seekPlans_1 : decode cX7_seekPlans 1 = .ok (.getfield 40, 3) := by decide +kernel
theorem dX7_seekPlans_4 : decode cX7_seekPlans 4 = .ok (.ifCond .eq 4, 3) := by decide +kernel
theorem dX7_seekPlans_7 : decode cX7_seekPlans 7 = .ok (.return_, 1) := by decide +kernel
theorem dX7_seekPlans_8 : decode cX7_seekPlans 8 = .ok (.aload_n 0, 1) := by decide +kernel
theorem dX7_seekPlans_9 : decode cX7_seekPlans 9 = .ok (.aload_n 1, 1) := by decide +kernel
theorem dX7_seekPlans_10 : decode cX7_seekPlans 10 = .ok (.aload_n 2, 1) := by decide +kernel
theorem dX7_seekPlans_11 : decode cX7_seekPlans 11 = .ok (.invokevirtual 47, 3) := by decide +kernel
theorem dX7_seekPlans_14 : decode cX7_seekPlans 14 = .ok (.aload_n 0, 1) := by decide +kernel
theorem dX7_seekPlans_15 : decode cX7_seekPlans 15 = .ok (.iconst 0, 1) := by decide +kernel
theorem dX7_seekPlans_16 : decode cX7_seekPlans 16 = .ok (.iconst 0, 1) := by decide +kernel
theorem dX7_seekPlans_17 : decode cX7_seekPlans 17 = .ok (.invokevirtual 51, 3) := by decide +kernel
theorem dX7_seekPlans_20 : decode cX7_seekPlans 20 = .ok (.aload_n 0, 1) := by decide +kernel
theorem dX7_seekPlans_21 : decode cX7_seekPlans 21 = .ok (.iconst 1, 1) := by decide +kernel
theorem dX7_seekPlans_22 : decode cX7_seekPlans 22 = .ok (.putfield 40, 3) := by decide +kernel
theorem dX7_seekPlans_25 : decode cX7_seekPlans 25 = .ok (.return_, 1) := by decide +kernel
theorem dX7_prepare_0 : decode cX7_prepare 0 = .ok (.aload_n 0, 1) := by decide +kernel
theorem dX7_prepare_1 : decode cX7_prepare 1 = .ok (.aload_n 1, 1) := by decide +kernel
theorem dX7_prepare_2 : decode cX7_prepare 2 = .ok (.getfield 55, 3) := by decide +kernel
theorem dX7_prepare_5 : decode cX7_prepare 5 = .ok (.putfield 44, 3) := by decide +kernel
theorem dX7_prepare_8 : decode cX7_prepare 8 = .ok (.iconst 0, 1) := by decide +kernel
theorem dX7_prepare_9 : decode cX7_prepare 9 = .ok (.istore_n 3, 1) := by decide +kernel
theorem dX7_prepare_10 : decode cX7_prepare 10 = .ok (.iload_n 3, 1) := by decide +kernel
theorem dX7_prepare_11 : decode cX7_prepare 11 = .ok (.aload_n 0, 1) := by decide +kernel
theorem dX7_prepare_12 : decode cX7_prepare 12 = .ok (.getfield 44, 3) := by decide +kernel
theorem dX7_prepare_15 : decode cX7_prepare 15 = .ok (.if_icmp .ge 54, 3) := by decide +kernel
theorem dX7_prepare_18 : decode cX7_prepare 18 = .ok (.aload_n 0, 1) := by decide +kernel
theorem dX7_prepare_19 : decode cX7_prepare 19 = .ok (.getfield 9, 3) := by decide +kernel
theorem dX7_prepare_22 : decode cX7_prepare 22 = .ok (.iload_n 3, 1) := by decide +kernel
theorem dX7_prepare_23 : decode cX7_prepare 23 = .ok (.aload_n 1, 1) := by decide +kernel
theorem dX7_prepare_24 : decode cX7_prepare 24 = .ok (.iload_n 3, 1) := by decide +kernel
theorem dX7_prepare_25 : decode cX7_prepare 25 = .ok (.aload_n 2, 1) := by decide +kernel
theorem dX7_prepare_26 : decode cX7_prepare 26 = .ok (.invokevirtual 58, 3) := by decide +kernel
theorem dX7_prepare_29 : decode cX7_prepare 29 = .ok (.iastore, 1) := by decide +kernel
theorem dX7_prepare_30 : decode cX7_prepare 30 = .ok (.aload_n 0, 1) := by decide +kernel
theorem dX7_prepare_31 : decode cX7_prepare 31 = .ok (.getfield 15, 3) := by decide +kernel
theorem dX7_prepare_34 : decode cX7_prepare 34 = .ok (.iload_n 3, 1) := by decide +kernel
theorem dX7_prepare_35 : decode cX7_prepare 35 = .ok (.aload_n 1, 1) := by decide +kernel
theorem dX7_prepare_36 : decode cX7_prepare 36 = .ok (.aload_n 0, 1) := by decide +kernel
theorem dX7_prepare_37 : decode cX7_prepare 37 = .ok (.getfield 9, 3) := by decide +kernel
theorem dX7_prepare_40 : decode cX7_prepare 40 = .ok (.iload_n 3, 1) := by decide +kernel
theorem dX7_prepare_41 : decode cX7_prepare 41 = .ok (.iaload, 1) := by decide +kernel
theorem dX7_prepare_42 : decode cX7_prepare 42 = .ok (.invokevirtual 62, 3) := by decide +kernel
theorem dX7_prepare_45 : decode cX7_prepare 45 = .ok (.iastore, 1) := by decide +kernel
theorem dX7_prepare_46 : decode cX7_prepare 46 = .ok (.aload_n 0, 1) := by decide +kernel
theorem dX7_prepare_47 : decode cX7_prepare 47 = .ok (.getfield 18, 3) := by decide +kernel
theorem dX7_prepare_50 : decode cX7_prepare 50 = .ok (.iload_n 3, 1) := by decide +kernel
theorem dX7_prepare_51 : decode cX7_prepare 51 = .ok (.iconst 5, 1) := by decide +kernel
theorem dX7_prepare_52 : decode cX7_prepare 52 = .ok (.aload_n 1, 1) := by decide +kernel
theorem dX7_prepare_53 : decode cX7_prepare 53 = .ok (.getfield 66, 3) := by decide +kernel
theorem dX7_prepare_56 : decode cX7_prepare 56 = .ok (.iload_n 3, 1) := by decide +kernel
theorem dX7_prepare_57 : decode cX7_prepare 57 = .ok (.iaload, 1) := by decide +kernel
theorem dX7_prepare_58 : decode cX7_prepare 58 = .ok (.invokestatic 69, 3) := by decide +kernel
theorem dX7_prepare_61 : decode cX7_prepare 61 = .ok (.imul, 1) := by decide +kernel
theorem dX7_prepare_62 : decode cX7_prepare 62 = .ok (.iastore, 1) := by decide +kernel
theorem dX7_prepare_63 : decode cX7_prepare 63 = .ok (.iinc 3 1, 3) := by decide +kernel
theorem dX7_prepare_66 : decode cX7_prepare 66 = .ok (.goto (-56), 3) := by decide +kernel
theorem dX7_prepare_69 : decode cX7_prepare 69 = .ok (.iconst 0, 1) := by decide +kernel
theorem dX7_prepare_70 : decode cX7_prepare 70 = .ok (.istore_n 3, 1) := by decide +kernel
theorem dX7_prepare_71 : decode cX7_prepare 71 = .ok (.iload_n 3, 1) := by decide +kernel
theorem dX7_prepare_72 : decode cX7_prepare 72 = .ok (.iconst 4, 1) := by decide +kernel
theorem dX7_prepare_73 : decode cX7_prepare 73 = .ok (.if_icmp .ge 28, 3) := by decide +kernel
theorem dX7_prepare_76 : decode cX7_prepare 76 = .ok (.aload_n 0, 1) := by decide +kernel
theorem dX7_prepare_77 : decode cX7_prepare 77 = .ok (.getfield 24, 3) := by decide +kernel
theorem dX7_prepare_80 : decode cX7_prepare 80 = .ok (.iload_n 3, 1) := by decide +kernel
theorem dX7_prepare_81 : decode cX7_prepare 81 = .ok (.iconst 0, 1) := by decide +kernel
theorem dX7_prepare_82 : decode cX7_prepare 82 = .ok (.iastore, 1) := by decide +kernel
theorem dX7_prepare_83 : decode cX7_prepare 83 = .ok (.aload_n 0, 1) := by decide +kernel
theorem dX7_prepare_84 : decode cX7_prepare 84 = .ok (.getfield 27, 3) := by decide +kernel
theorem dX7_prepare_87 : decode cX7_prepare 87 = .ok (.iload_n 3, 1) := by decide +kernel
theorem dX7_prepare_88 : decode cX7_prepare 88 = .ok (.aload_n 1, 1) := by decide +kernel
theorem dX7_prepare_89 : decode cX7_prepare 89 = .ok (.getfield 74, 3) := by decide +kernel
theorem dX7_prepare_92 : decode cX7_prepare 92 = .ok (.iload_n 3, 1) := by decide +kernel
theorem dX7_prepare_93 : decode cX7_prepare 93 = .ok (.iaload, 1) := by decide +kernel
theorem dX7_prepare_94 : decode cX7_prepare 94 = .ok (.iastore, 1) := by decide +kernel
theorem dX7_prepare_95 : decode cX7_prepare 95 = .ok (.iinc 3 1, 3) := by decide +kernel
theorem dX7_prepare_98 : decode cX7_prepare 98 = .ok (.goto (-27), 3) := by decide +kernel
theorem dX7_prepare_101 : decode cX7_prepare 101 = .ok (.aload_n 0, 1) := by decide +kernel
theorem dX7_prepare_102 : decode cX7_prepare 102 = .ok (.ldc 77, 2) := by decide +kernel
theorem dX7_prepare_104 : decode cX7_prepare 104 = .ok (.putfield 33, 3) := by decide +kernel
theorem dX7_prepare_107 : decode cX7_prepare 107 = .ok (.aload_n 0, 1) := by decide +kernel
theorem dX7_prepare_108 : decode cX7_prepare 108 = .ok (.iconst 0, 1) := by decide +kernel
theorem dX7_prepare_109 : decode cX7_prepare 109 = .ok (.putfield 37, 3) := by decide +kernel
theorem dX7_prepare_112 : decode cX7_prepare 112 = .ok (.return_, 1) := by decide +kernel
theorem dX7_giveDays_0 : decode cX7_giveDays 0 = .ok (.iload_n 2, 1) := by decide +kernel
theorem dX7_giveDays_1 : decode cX7_giveDays 1 = .ok (.aload_n 0, 1) := by decide +kernel
theorem dX7_giveDays_2 : decode cX7_giveDays 2 = .ok (.getfield 33, 3) := by decide +kernel
theorem dX7_giveDays_5 : decode cX7_giveDays 5 = .ok (.if_icmp .le 4, 3) := by decide +kernel
theorem dX7_giveDays_8 : decode cX7_giveDays 8 = .ok (.return_, 1) := by decide +kernel
theorem dX7_giveDays_9 : decode cX7_giveDays 9 = .ok (.iload_n 1, 1) := by decide +kernel
theorem dX7_giveDays_10 : decode cX7_giveDays 10 = .ok (.aload_n 0, 1) := by decide +kernel
theorem dX7_giveDays_11 : decode cX7_giveDays 11 = .ok (.getfield 44, 3) := by decide +kernel
theorem dX7_giveDays_14 : decode cX7_giveDays 14 = .ok (.if_icmp .ge 9, 3) := by decide +kernel
theorem dX7_giveDays_17 : decode cX7_giveDays 17 = .ok (.iload_n 1, 1) := by decide +kernel
theorem dX7_giveDays_18 : decode cX7_giveDays 18 = .ok (.bipush 7, 2) := by decide +kernel
theorem dX7_giveDays_20 : decode cX7_giveDays 20 = .ok (.if_icmp .lt 9, 3) := by decide +kernel
theorem dX7_giveDays_23 : decode cX7_giveDays 23 = .ok (.aload_n 0, 1) := by decide +kernel
theorem dX7_giveDays_24 : decode cX7_giveDays 24 = .ok (.iload_n 2, 1) := by decide +kernel
theorem dX7_giveDays_25 : decode cX7_giveDays 25 = .ok (.invokevirtual 78, 3) := by decide +kernel
theorem dX7_giveDays_28 : decode cX7_giveDays 28 = .ok (.return_, 1) := by decide +kernel
theorem dX7_giveDays_29 : decode cX7_giveDays 29 = .ok (.iconst 0, 1) := by decide +kernel
theorem dX7_giveDays_30 : decode cX7_giveDays 30 = .ok (.istore_n 3, 1) := by decide +kernel
theorem dX7_giveDays_31 : decode cX7_giveDays 31 = .ok (.iload_n 3, 1) := by decide +kernel
theorem dX7_giveDays_32 : decode cX7_giveDays 32 = .ok (.iconst 4, 1) := by decide +kernel
theorem dX7_giveDays_33 : decode cX7_giveDays 33 = .ok (.if_icmp .ge 131, 3) := by decide +kernel
theorem dX7_giveDays_36 : decode cX7_giveDays 36 = .ok (.aload_n 0, 1) := by decide +kernel
theorem dX7_giveDays_37 : decode cX7_giveDays 37 = .ok (.getfield 15, 3) := by decide +kernel
theorem dX7_giveDays_40 : decode cX7_giveDays 40 = .ok (.iload_n 1, 1) := by decide +kernel
theorem dX7_giveDays_41 : decode cX7_giveDays 41 = .ok (.iaload, 1) := by decide +kernel
theorem dX7_giveDays_42 : decode cX7_giveDays 42 = .ok (.iload_n 3, 1) := by decide +kernel
theorem dX7_giveDays_43 : decode cX7_giveDays 43 = .ok (.ishr, 1) := by decide +kernel
theorem dX7_giveDays_44 : decode cX7_giveDays 44 = .ok (.iconst 1, 1) := by decide +kernel
theorem dX7_giveDays_45 : decode cX7_giveDays 45 = .ok (.iand, 1) := by decide +kernel
theorem dX7_giveDays_46 : decode cX7_giveDays 46 = .ok (.ifCond .eq 112, 3) := by decide +kernel
theorem dX7_giveDays_49 : decode cX7_giveDays 49 = .ok (.aload_n 0, 1) := by decide +kernel
theorem dX7_giveDays_50 : decode cX7_giveDays 50 = .ok (.getfield 18, 3) := by decide +kernel
theorem dX7_giveDays_53 : decode cX7_giveDays 53 = .ok (.iload_n 1, 1) := by decide +kernel
theorem dX7_giveDays_54 : decode cX7_giveDays 54 = .ok (.iaload, 1) := by decide +kernel
theorem dX7_giveDays_55 : decode cX7_giveDays 55 = .ok (.aload_n 0, 1) := by decide +kernel
theorem dX7_giveDays_56 : decode cX7_giveDays 56 = .ok (.getfield 27, 3) := by decide +kernel
theorem dX7_giveDays_59 : decode cX7_giveDays 59 = .ok (.iload_n 3, 1) := by decide +kernel
theorem dX7_giveDays_60 : decode cX7_giveDays 60 = .ok (.iaload, 1) := by decide +kernel
theorem dX7_giveDays_61 : decode cX7_giveDays 61 = .ok (.if_icmp .le 6, 3) := by decide +kernel
theorem dX7_giveDays_64 : decode cX7_giveDays 64 = .ok (.goto 94, 3) := by decide +kernel
theorem dX7_giveDays_67 : decode cX7_giveDays 67 = .ok (.aload_n 0, 1) := by decide +kernel
theorem dX7_giveDays_68 : decode cX7_giveDays 68 = .ok (.getfield 24, 3) := by decide +kernel
theorem dX7_giveDays_71 : decode cX7_giveDays 71 = .ok (.iload_n 3, 1) := by decide +kernel
theorem dX7_giveDays_72 : decode cX7_giveDays 72 = .ok (.iaload, 1) := by decide +kernel
theorem dX7_giveDays_73 : decode cX7_giveDays 73 = .ok (.istore 4, 2) := by decide +kernel
theorem dX7_giveDays_75 : decode cX7_giveDays 75 = .ok (.aload_n 0, 1) := by decide +kernel
theorem dX7_giveDays_76 : decode cX7_giveDays 76 = .ok (.getfield 24, 3) := by decide +kernel
theorem dX7_giveDays_79 : decode cX7_giveDays 79 = .ok (.iload_n 3, 1) := by decide +kernel
theorem dX7_giveDays_80 : decode cX7_giveDays 80 = .ok (.iload 4, 2) := by decide +kernel
theorem dX7_giveDays_82 : decode cX7_giveDays 82 = .ok (.aload_n 0, 1) := by decide +kernel
theorem dX7_giveDays_83 : decode cX7_giveDays 83 = .ok (.getfield 9, 3) := by decide +kernel
theorem dX7_giveDays_86 : decode cX7_giveDays 86 = .ok (.iload_n 1, 1) := by decide +kernel
theorem dX7_giveDays_87 : decode cX7_giveDays 87 = .ok (.iaload, 1) := by decide +kernel
theorem dX7_giveDays_88 : decode cX7_giveDays 88 = .ok (.ior, 1) := by decide +kernel
theorem dX7_giveDays_89 : decode cX7_giveDays 89 = .ok (.iastore, 1) := by decide +kernel
theorem dX7_giveDays_90 : decode cX7_giveDays 90 = .ok (.aload_n 0, 1) := by decide +kernel
theorem dX7_giveDays_91 : decode cX7_giveDays 91 = .ok (.getfield 27, 3) := by decide +kernel
theorem dX7_giveDays_94 : decode cX7_giveDays 94 = .ok (.iload_n 3, 1) := by decide +kernel
theorem dX7_giveDays_95 : decode cX7_giveDays 95 = .ok (.dup2, 1) := by decide +kernel
theorem dX7_giveDays_96 : decode cX7_giveDays 96 = .ok (.iaload, 1) := by decide +kernel
theorem dX7_giveDays_97 : decode cX7_giveDays 97 = .ok (.aload_n 0, 1) := by decide +kernel
theorem dX7_giveDays_98 : decode cX7_giveDays 98 = .ok (.getfield 18, 3) := by decide +kernel
theorem dX7_giveDays_101 : decode cX7_giveDays 101 = .ok (.iload_n 1, 1) := by decide +kernel
theorem dX7_giveDays_102 : decode cX7_giveDays 102 = .ok (.iaload, 1) := by decide +kernel
theorem dX7_giveDays_103 : decode cX7_giveDays 103 = .ok (.isub, 1) := by decide +kernel
theorem dX7_giveDays_104 : decode cX7_giveDays 104 = .ok (.iastore, 1) := by decide +kernel
theorem dX7_giveDays_105 : decode cX7_giveDays 105 = .ok (.aload_n 0, 1) := by decide +kernel
theorem dX7_giveDays_106 : decode cX7_giveDays 106 = .ok (.getfield 21, 3) := by decide +kernel
theorem dX7_giveDays_109 : decode cX7_giveDays 109 = .ok (.iload_n 1, 1) := by decide +kernel
theorem dX7_giveDays_110 : decode cX7_giveDays 110 = .ok (.iload_n 3, 1) := by decide +kernel
theorem dX7_giveDays_111 : decode cX7_giveDays 111 = .ok (.iastore, 1) := by decide +kernel
theorem dX7_giveDays_112 : decode cX7_giveDays 112 = .ok (.aload_n 0, 1) := by decide +kernel
theorem dX7_giveDays_113 : decode cX7_giveDays 113 = .ok (.iload_n 1, 1) := by decide +kernel
theorem dX7_giveDays_114 : decode cX7_giveDays 114 = .ok (.iconst 1, 1) := by decide +kernel
theorem dX7_giveDays_115 : decode cX7_giveDays 115 = .ok (.iadd, 1) := by decide +kernel
theorem dX7_giveDays_116 : decode cX7_giveDays 116 = .ok (.iload_n 2, 1) := by decide +kernel
theorem dX7_giveDays_117 : decode cX7_giveDays 117 = .ok (.aload_n 0, 1) := by decide +kernel
theorem dX7_giveDays_118 : decode cX7_giveDays 118 = .ok (.getfield 9, 3) := by decide +kernel
theorem dX7_giveDays_121 : decode cX7_giveDays 121 = .ok (.iload_n 1, 1) := by decide +kernel
theorem dX7_giveDays_122 : decode cX7_giveDays 122 = .ok (.iaload, 1) := by decide +kernel
theorem dX7_giveDays_123 : decode cX7_giveDays 123 = .ok (.iload 4, 2) := by decide +kernel
theorem dX7_giveDays_125 : decode cX7_giveDays 125 = .ok (.iconst (-1), 1) := by decide +kernel
theorem dX7_giveDays_126 : decode cX7_giveDays 126 = .ok (.ixor, 1) := by decide +kernel
theorem dX7_giveDays_127 : decode cX7_giveDays 127 = .ok (.iand, 1) := by decide +kernel
theorem dX7_giveDays_128 : decode cX7_giveDays 128 = .ok (.invokestatic 69, 3) := by decide +kernel
theorem dX7_giveDays_131 : decode cX7_giveDays 131 = .ok (.iadd, 1) := by decide +kernel
theorem dX7_giveDays_132 : decode cX7_giveDays 132 = .ok (.invokevirtual 51, 3) := by decide +kernel
theorem dX7_giveDays_135 : decode cX7_giveDays 135 = .ok (.aload_n 0, 1) := by decide +kernel
theorem dX7_giveDays_136 : decode cX7_giveDays 136 = .ok (.getfield 24, 3) := by decide +kernel
theorem dX7_giveDays_139 : decode cX7_giveDays 139 = .ok (.iload_n 3, 1) := by decide +kernel
theorem dX7_giveDays_140 : decode cX7_giveDays 140 = .ok (.iload 4, 2) := by decide +kernel
theorem dX7_giveDays_142 : decode cX7_giveDays 142 = .ok (.iastore, 1) := by decide +kernel
theorem dX7_giveDays_143 : decode cX7_giveDays 143 = .ok (.aload_n 0, 1) := by decide +kernel
theorem dX7_giveDays_144 : decode cX7_giveDays 144 = .ok (.getfield 27, 3) := by decide +kernel
theorem dX7_giveDays_147 : decode cX7_giveDays 147 = .ok (.iload_n 3, 1) := by decide +kernel
theorem dX7_giveDays_148 : decode cX7_giveDays 148 = .ok (.dup2, 1) := by decide +kernel
theorem dX7_giveDays_149 : decode cX7_giveDays 149 = .ok (.iaload, 1) := by decide +kernel
theorem dX7_giveDays_150 : decode cX7_giveDays 150 = .ok (.aload_n 0, 1) := by decide +kernel
theorem dX7_giveDays_151 : decode cX7_giveDays 151 = .ok (.getfield 18, 3) := by decide +kernel
theorem dX7_giveDays_154 : decode cX7_giveDays 154 = .ok (.iload_n 1, 1) := by decide +kernel
theorem dX7_giveDays_155 : decode cX7_giveDays 155 = .ok (.iaload, 1) := by decide +kernel
theorem dX7_giveDays_156 : decode cX7_giveDays 156 = .ok (.iadd, 1) := by decide +kernel
theorem dX7_giveDays_157 : decode cX7_giveDays 157 = .ok (.iastore, 1) := by decide +kernel
theorem dX7_giveDays_158 : decode cX7_giveDays 158 = .ok (.iinc 3 1, 3) := by decide +kernel
theorem dX7_giveDays_161 : decode cX7_giveDays 161 = .ok (.goto (-130), 3) := by decide +kernel
theorem dX7_giveDays_164 : decode cX7_giveDays 164 = .ok (.return_, 1) := by decide +kernel
theorem dX7_takePlan_0 : decode cX7_takePlan 0 = .ok (.iload_n 1, 1) := by decide +kernel
theorem dX7_takePlan_1 : decode cX7_takePlan 1 = .ok (.aload_n 0, 1) := by decide +kernel
theorem dX7_takePlan_2 : decode cX7_takePlan 2 = .ok (.getfield 33, 3) := by decide +kernel
theorem dX7_takePlan_5 : decode cX7_takePlan 5 = .ok (.if_icmp .ge 30, 3) := by decide +kernel
theorem dX7_takePlan_8 : decode cX7_takePlan 8 = .ok (.aload_n 0, 1) := by decide +kernel
theorem dX7_takePlan_9 : decode cX7_takePlan 9 = .ok (.iload_n 1, 1) := by decide +kernel
theorem dX7_takePlan_10 : decode cX7_takePlan 10 = .ok (.putfield 33, 3) := by decide +kernel
theorem dX7_takePlan_13 : decode cX7_takePlan 13 = .ok (.aload_n 0, 1) := by decide +kernel
theorem dX7_takePlan_14 : decode cX7_takePlan 14 = .ok (.iconst 0, 1) := by decide +kernel
theorem dX7_takePlan_15 : decode cX7_takePlan 15 = .ok (.putfield 37, 3) := by decide +kernel
theorem dX7_takePlan_18 : decode cX7_takePlan 18 = .ok (.aload_n 0, 1) := by decide +kernel
theorem dX7_takePlan_19 : decode cX7_takePlan 19 = .ok (.getfield 21, 3) := by decide +kernel
theorem dX7_takePlan_22 : decode cX7_takePlan 22 = .ok (.iconst 0, 1) := by decide +kernel
theorem dX7_takePlan_23 : decode cX7_takePlan 23 = .ok (.aload_n 0, 1) := by decide +kernel
theorem dX7_takePlan_24 : decode cX7_takePlan 24 = .ok (.getfield 30, 3) := by decide +kernel
theorem dX7_takePlan_27 : decode cX7_takePlan 27 = .ok (.iconst 0, 1) := by decide +kernel
theorem dX7_takePlan_28 : decode cX7_takePlan 28 = .ok (.aload_n 0, 1) := by decide +kernel
theorem dX7_takePlan_29 : decode cX7_takePlan 29 = .ok (.getfield 44, 3) := by decide +kernel
theorem dX7_takePlan_32 : decode cX7_takePlan 32 = .ok (.invokestatic 82, 3) := by decide +kernel
theorem dX7_takePlan_35 : decode cX7_takePlan 35 = .ok (.aload_n 0, 1) := by decide +kernel
theorem dX7_takePlan_36 : decode cX7_takePlan 36 = .ok (.dup, 1) := by decide +kernel
theorem dX7_takePlan_37 : decode cX7_takePlan 37 = .ok (.getfield 37, 3) := by decide +kernel
theorem dX7_takePlan_40 : decode cX7_takePlan 40 = .ok (.iconst 1, 1) := by decide +kernel
theorem dX7_takePlan_41 : decode cX7_takePlan 41 = .ok (.iadd, 1) := by decide +kernel
theorem dX7_takePlan_42 : decode cX7_takePlan 42 = .ok (.putfield 37, 3) := by decide +kernel
theorem dX7_takePlan_45 : decode cX7_takePlan 45 = .ok (.return_, 1) := by decide +kernel
theorem dX8_init_0 : decode cX8_init 0 = .ok (.aload_n 0, 1) := by decide +kernel
theorem dX8_init_1 : decode cX8_init 1 = .ok (.invokespecial 3, 3) := by decide +kernel
theorem dX8_init_4 : decode cX8_init 4 = .ok (.aload_n 0, 1) := by decide +kernel
theorem dX8_init_5 : decode cX8_init 5 = .ok (.bipush 30, 2) := by decide +kernel
theorem dX8_init_7 : decode cX8_init 7 = .ok (.newarray .int, 2) := by decide +kernel
theorem dX8_init_9 : decode cX8_init 9 = .ok (.putfield 9, 3) := by decide +kernel
theorem dX8_init_12 : decode cX8_init 12 = .ok (.aload_n 0, 1) := by decide +kernel
theorem dX8_init_13 : decode cX8_init 13 = .ok (.iconst 0, 1) := by decide +kernel
theorem dX8_init_14 : decode cX8_init 14 = .ok (.putfield 15, 3) := by decide +kernel
theorem dX8_init_17 : decode cX8_init 17 = .ok (.aload_n 0, 1) := by decide +kernel
theorem dX8_init_18 : decode cX8_init 18 = .ok (.iconst 0, 1) := by decide +kernel
theorem dX8_init_19 : decode cX8_init 19 = .ok (.putfield 19, 3) := by decide +kernel
theorem dX8_init_22 : decode cX8_init 22 = .ok (.return_, 1) := by decide +kernel
theorem dX8_isMissing_0 : decode cX8_isMissing 0 = .ok (.aload_n 0, 1) := by decide +kernel
theorem dX8_isMissing_1 : decode cX8_isMissing 1 = .ok (.getfield 15, 3) := by decide +kernel
theorem dX8_isMissing_4 : decode cX8_isMissing 4 = .ok (.ifCond .ne 7, 3) := by decide +kernel
theorem dX8_isMissing_7 : decode cX8_isMissing 7 = .ok (.iconst 1, 1) := by decide +kernel
theorem dX8_isMissing_8 : decode cX8_isMissing 8 = .ok (.goto 4, 3) := by decide +kernel
theorem dX8_isMissing_11 : decode cX8_isMissing 11 = .ok (.iconst 0, 1) := by decide +kernel
theorem dX8_isMissing_12 : decode cX8_isMissing 12 = .ok (.ireturn, 1) := by decide +kernel
theorem dX8_begin_0 : decode cX8_begin 0 = .ok (.aload_n 0, 1) := by decide +kernel
theorem dX8_begin_1 : decode cX8_begin 1 = .ok (.iload_n 1, 1) := by decide +kernel
theorem dX8_begin_2 : decode cX8_begin 2 = .ok (.putfield 15, 3) := by decide +kernel
theorem dX8_begin_5 : decode cX8_begin 5 = .ok (.aload_n 0, 1) := by decide +kernel
theorem dX8_begin_6 : decode cX8_begin 6 = .ok (.iload_n 1, 1) := by decide +kernel
theorem dX8_begin_7 : decode cX8_begin 7 = .ok (.ifCond .ne 7, 3) := by decide +kernel
theorem dX8_begin_10 : decode cX8_begin 10 = .ok (.iconst 0, 1) := by decide +kernel
theorem dX8_begin_11 : decode cX8_begin 11 = .ok (.goto 4, 3) := by decide +kernel
theorem dX8_begin_14 : decode cX8_begin 14 = .ok (.iload_n 2, 1) := by decide +kernel
theorem dX8_begin_15 : decode cX8_begin 15 = .ok (.putfield 19, 3) := by decide +kernel
theorem dX8_begin_18 : decode cX8_begin 18 = .ok (.iconst 0, 1) := by decide +kernel
theorem dX8_begin_19 : decode cX8_begin 19 = .ok (.istore_n 3, 1) := by decide +kernel
theorem dX8_begin_20 : decode cX8_begin 20 = .ok (.iload_n 3, 1) := by decide +kernel
theorem dX8_begin_21 : decode cX8_begin 21 = .ok (.bipush 30, 2) := by decide +kernel
theorem dX8_begin_23 : decode cX8_begin 23 = .ok (.if_icmp .ge 16, 3) := by decide +kernel
theorem dX8_begin_26 : decode cX8_begin 26 = .ok (.aload_n 0, 1) := by decide +kernel
theorem dX8_begin_27 : decode cX8_begin 27 = .ok (.getfield 9, 3) := by decide +kernel
theorem dX8_begin_30 : decode cX8_begin 30 = .ok (.iload_n 3, 1) := by decide +kernel
theorem dX8_begin_31 : decode cX8_begin 31 = .ok (.iconst 0, 1) := by decide +kernel
theorem dX8_begin_32 : decode cX8_begin 32 = .ok (.iastore, 1) := by decide +kernel
theorem dX8_begin_33 : decode cX8_begin 33 = .ok (.iinc 3 1, 3) := by decide +kernel
theorem dX8_begin_36 : decode cX8_begin 36 = .ok (.goto (-16), 3) := by decide +kernel
theorem dX8_begin_39 : decode cX8_begin 39 = .ok (.return_, 1) := by decide +kernel
theorem dX8_write_0 : decode cX8_write 0 = .ok (.aload_n 0, 1) := by decide +kernel
theorem dX8_write_1 : decode cX8_write 1 = .ok (.getfield 9, 3) := by decide +kernel
theorem dX8_write_4 : decode cX8_write 4 = .ok (.iload_n 1, 1) := by decide +kernel
theorem dX8_write_5 : decode cX8_write 5 = .ok (.aload_n 0, 1) := by decide +kernel
theorem dX8_write_6 : decode cX8_write 6 = .ok (.getfield 15, 3) := by decide +kernel
theorem dX8_write_9 : decode cX8_write 9 = .ok (.bipush 32, 2) := by decide +kernel
theorem dX8_write_11 : decode cX8_write 11 = .ok (.if_icmp .ne 7, 3) := by decide +kernel
theorem dX8_write_14 : decode cX8_write 14 = .ok (.iload_n 2, 1) := by decide +kernel
theorem dX8_write_15 : decode cX8_write 15 = .ok (.goto 13, 3) := by decide +kernel
theorem dX8_write_18 : decode cX8_write 18 = .ok (.iload_n 2, 1) := by decide +kernel
theorem dX8_write_19 : decode cX8_write 19 = .ok (.iconst 1, 1) := by decide +kernel
theorem dX8_write_20 : decode cX8_write 20 = .ok (.aload_n 0, 1) := by decide +kernel
theorem dX8_write_21 : decode cX8_write 21 = .ok (.getfield 15, 3) := by decide +kernel
theorem dX8_write_24 : decode cX8_write 24 = .ok (.ishl, 1) := by decide +kernel
theorem dX8_write_25 : decode cX8_write 25 = .ok (.iconst 1, 1) := by decide +kernel
theorem dX8_write_26 : decode cX8_write 26 = .ok (.isub, 1) := by decide +kernel
theorem dX8_write_27 : decode cX8_write 27 = .ok (.iand, 1) := by decide +kernel
theorem dX8_write_28 : decode cX8_write 28 = .ok (.iastore, 1) := by decide +kernel
theorem dX8_write_29 : decode cX8_write 29 = .ok (.return_, 1) := by decide +kernel
theorem dX8_hasStretch_0 : decode cX8_hasStretch 0 = .ok (.iload_n 1, 1) := by decide +kernel
theorem dX8_hasStretch_1 : decode cX8_hasStretch 1 = .ok (.ifCond .lt 29, 3) := by decide +kernel
theorem dX8_hasStretch_4 : decode cX8_hasStretch 4 = .ok (.iload_n 2, 1) := by decide +kernel
theorem dX8_hasStretch_5 : decode cX8_hasStretch 5 = .ok (.ifCond .lt 25, 3) := by decide +kernel
theorem dX8_hasStretch_8 : decode cX8_hasStretch 8 = .ok (.iload_n 2, 1) := by decide +kernel
theorem dX8_hasStretch_9 : decode cX8_hasStretch 9 = .ok (.aload_n 0, 1) := by decide +kernel
theorem dX8_hasStretch_10 : decode cX8_hasStretch 10 = .ok (.getfield 19, 3) := by decide +kernel
theorem dX8_hasStretch_13 : decode cX8_hasStretch 13 = .ok (.if_icmp .gt 17, 3) := by decide +kernel
theorem dX8_hasStretch_16 : decode cX8_hasStretch 16 = .ok (.iload_n 1, 1) := by decide +kernel
theorem dX8_hasStretch_17 : decode cX8_hasStretch 17 = .ok (.aload_n 0, 1) := by decide +kernel
theorem dX8_hasStretch_18 : decode cX8_hasStretch 18 = .ok (.getfield 19, 3) := by decide +kernel
theorem dX8_hasStretch_21 : decode cX8_hasStretch 21 = .ok (.iload_n 2, 1) := by decide +kernel
theorem dX8_hasStretch_22 : decode cX8_hasStretch 22 = .ok (.isub, 1) := by decide +kernel
theorem dX8_hasStretch_23 : decode cX8_hasStretch 23 = .ok (.if_icmp .gt 7, 3) := by decide +kernel
theorem dX8_hasStretch_26 : decode cX8_hasStretch 26 = .ok (.iconst 1, 1) := by decide +kernel
theorem dX8_hasStretch_27 : decode cX8_hasStretch 27 = .ok (.goto 4, 3) := by decide +kernel
theorem dX8_hasStretch_30 : decode cX8_hasStretch 30 = .ok (.iconst 0, 1) := by decide +kernel
theorem dX8_hasStretch_31 : decode cX8_hasStretch 31 = .ok (.ireturn, 1) := by decide +kernel
theorem dX9_init_0 : decode cX9_init 0 = .ok (.aload_n 0, 1) := by decide +kernel
theorem dX9_init_1 : decode cX9_init 1 = .ok (.invokespecial 3, 3) := by decide +kernel
theorem dX9_init_4 : decode cX9_init 4 = .ok (.aload_n 0, 1) := by decide +kernel
theorem dX9_init_5 : decode cX9_init 5 = .ok (.bipush 8, 2) := by decide +kernel
theorem dX9_init_7 : decode cX9_init 7 = .ok (.newarray .int, 2) := by decide +kernel
theorem dX9_init_9 : decode cX9_init 9 = .ok (.putfield 9, 3) := by decide +kernel
theorem dX9_init_12 : decode cX9_init 12 = .ok (.aload_n 0, 1) := by decide +kernel
theorem dX9_init_13 : decode cX9_init 13 = .ok (.bipush 8, 2) := by decide +kernel
theorem dX9_init_15 : decode cX9_init 15 = .ok (.newarray .int, 2) := by decide +kernel
theorem dX9_init_17 : decode cX9_init 17 = .ok (.putfield 15, 3) := by decide +kernel
theorem dX9_init_20 : decode cX9_init 20 = .ok (.aload_n 0, 1) := by decide +kernel
theorem dX9_init_21 : decode cX9_init 21 = .ok (.bipush 8, 2) := by decide +kernel
theorem dX9_init_23 : decode cX9_init 23 = .ok (.newarray .int, 2) := by decide +kernel
theorem dX9_init_25 : decode cX9_init 25 = .ok (.putfield 18, 3) := by decide +kernel
theorem dX9_init_28 : decode cX9_init 28 = .ok (.aload_n 0, 1) := by decide +kernel
theorem dX9_init_29 : decode cX9_init 29 = .ok (.bipush 8, 2) := by decide +kernel
theorem dX9_init_31 : decode cX9_init 31 = .ok (.newarray .int, 2) := by decide +kernel
theorem dX9_init_33 : decode cX9_init 33 = .ok (.putfield 21, 3) := by decide +kernel
theorem dX9_init_36 : decode cX9_init 36 = .ok (.aload_n 0, 1) := by decide +kernel
theorem dX9_init_37 : decode cX9_init 37 = .ok (.iconst 0, 1) := by decide +kernel
theorem dX9_init_38 : decode cX9_init 38 = .ok (.putfield 24, 3) := by decide +kernel
theorem dX9_init_41 : decode cX9_init 41 = .ok (.aload_n 0, 1) := by decide +kernel
theorem dX9_init_42 : decode cX9_init 42 = .ok (.iconst 0, 1) := by decide +kernel
theorem dX9_init_43 : decode cX9_init 43 = .ok (.putfield 28, 3) := by decide +kernel
theorem dX9_init_46 : decode cX9_init 46 = .ok (.aload_n 0, 1) := by decide +kernel
theorem dX9_init_47 : decode cX9_init 47 = .ok (.iconst 0, 1) := by decide +kernel
theorem dX9_init_48 : decode cX9_init 48 = .ok (.putfield 31, 3) := by decide +kernel
theorem dX9_init_51 : decode cX9_init 51 = .ok (.aload_n 0, 1) := by decide +kernel
theorem dX9_init_52 : decode cX9_init 52 = .ok (.iconst 0, 1) := by decide +kernel
theorem dX9_init_53 : decode cX9_init 53 = .ok (.putfield 34, 3) := by decide +kernel
theorem dX9_init_56 : decode cX9_init 56 = .ok (.return_, 1) := by decide +kernel
theorem dX9_begin_0 : decode cX9_begin 0 = .ok (.aload_n 0, 1) := by decide +kernel
theorem dX9_begin_1 : decode cX9_begin 1 = .ok (.iload_n 1, 1) := by decide +kernel
theorem dX9_begin_2 : decode cX9_begin 2 = .ok (.putfield 24, 3) := by decide +kernel
theorem dX9_begin_5 : decode cX9_begin 5 = .ok (.aload_n 0, 1) := by decide +kernel
theorem dX9_begin_6 : decode cX9_begin 6 = .ok (.iload_n 2, 1) := by decide +kernel
theorem dX9_begin_7 : decode cX9_begin 7 = .ok (.putfield 28, 3) := by decide +kernel
theorem dX9_begin_10 : decode cX9_begin 10 = .ok (.aload_n 0, 1) := by decide +kernel
theorem dX9_begin_11 : decode cX9_begin 11 = .ok (.iload_n 3, 1) := by decide +kernel
theorem dX9_begin_12 : decode cX9_begin 12 = .ok (.putfield 31, 3) := by decide +kernel
theorem dX9_begin_15 : decode cX9_begin 15 = .ok (.aload_n 0, 1) := by decide +kernel
theorem dX9_begin_16 : decode cX9_begin 16 = .ok (.iconst 0, 1) := by decide +kernel
theorem dX9_begin_17 : decode cX9_begin 17 = .ok (.putfield 34, 3) := by decide +kernel
theorem dX9_begin_20 : decode cX9_begin 20 = .ok (.return_, 1) := by decide +kernel
theorem dX9_append_0 : decode cX9_append 0 = .ok (.aload_n 0, 1) := by decide +kernel
theorem dX9_append_1 : decode cX9_append 1 = .ok (.getfield 9, 3) := by decide +kernel
theorem dX9_append_4 : decode cX9_append 4 = .ok (.aload_n 0, 1) := by decide +kernel
theorem dX9_append_5 : decode cX9_append 5 = .ok (.getfield 34, 3) := by decide +kernel
theorem dX9_append_8 : decode cX9_append 8 = .ok (.iload_n 1, 1) := by decide +kernel
theorem dX9_append_9 : decode cX9_append 9 = .ok (.iastore, 1) := by decide +kernel
theorem dX9_append_10 : decode cX9_append 10 = .ok (.aload_n 0, 1) := by decide +kernel
theorem dX9_append_11 : decode cX9_append 11 = .ok (.getfield 15, 3) := by decide +kernel
theorem dX9_append_14 : decode cX9_append 14 = .ok (.aload_n 0, 1) := by decide +kernel
theorem dX9_append_15 : decode cX9_append 15 = .ok (.getfield 34, 3) := by decide +kernel
theorem dX9_append_18 : decode cX9_append 18 = .ok (.iload_n 2, 1) := by decide +kernel
theorem dX9_append_19 : decode cX9_append 19 = .ok (.iastore, 1) := by decide +kernel
theorem dX9_append_20 : decode cX9_append 20 = .ok (.aload_n 0, 1) := by decide +kernel
theorem dX9_append_21 : decode cX9_append 21 = .ok (.getfield 18, 3) := by decide +kernel
theorem dX9_append_24 : decode cX9_append 24 = .ok (.aload_n 0, 1) := by decide +kernel
theorem dX9_append_25 : decode cX9_append 25 = .ok (.getfield 34, 3) := by decide +kernel
theorem dX9_append_28 : decode cX9_append 28 = .ok (.iload_n 3, 1) := by decide +kernel
theorem dX9_append_29 : decode cX9_append 29 = .ok (.iastore, 1) := by decide +kernel
theorem dX9_append_30 : decode cX9_append 30 = .ok (.aload_n 0, 1) := by decide +kernel
theorem dX9_append_31 : decode cX9_append 31 = .ok (.getfield 21, 3) := by decide +kernel
theorem dX9_append_34 : decode cX9_append 34 = .ok (.aload_n 0, 1) := by decide +kernel
theorem dX9_append_35 : decode cX9_append 35 = .ok (.getfield 34, 3) := by decide +kernel
theorem dX9_append_38 : decode cX9_append 38 = .ok (.iload 4, 2) := by decide +kernel
theorem dX9_append_40 : decode cX9_append 40 = .ok (.iastore, 1) := by decide +kernel
theorem dX9_append_41 : decode cX9_append 41 = .ok (.aload_n 0, 1) := by decide +kernel
theorem dX9_append_42 : decode cX9_append 42 = .ok (.dup, 1) := by decide +kernel
theorem dX9_append_43 : decode cX9_append 43 = .ok (.getfield 34, 3) := by decide +kernel
theorem dX9_append_46 : decode cX9_append 46 = .ok (.iconst 1, 1) := by decide +kernel
theorem dX9_append_47 : decode cX9_append 47 = .ok (.iadd, 1) := by decide +kernel
theorem dX9_append_48 : decode cX9_append 48 = .ok (.putfield 34, 3) := by decide +kernel
theorem dX9_append_51 : decode cX9_append 51 = .ok (.return_, 1) := by decide +kernel
theorem dX9_isOfKind_0 : decode cX9_isOfKind 0 = .ok (.aload_n 0, 1) := by decide +kernel
theorem dX9_isOfKind_1 : decode cX9_isOfKind 1 = .ok (.getfield 28, 3) := by decide +kernel
theorem dX9_isOfKind_4 : decode cX9_isOfKind 4 = .ok (.istore_n 2, 1) := by decide +kernel
theorem dX9_isOfKind_5 : decode cX9_isOfKind 5 = .ok (.iconst 0, 1) := by decide +kernel
theorem dX9_isOfKind_6 : decode cX9_isOfKind 6 = .ok (.istore_n 3, 1) := by decide +kernel
theorem dX9_isOfKind_7 : decode cX9_isOfKind 7 = .ok (.iload_n 3, 1) := by decide +kernel
theorem dX9_isOfKind_8 : decode cX9_isOfKind 8 = .ok (.iconst 4, 1) := by decide +kernel
theorem dX9_isOfKind_9 : decode cX9_isOfKind 9 = .ok (.if_icmp .ge 26, 3) := by decide +kernel
theorem dX9_isOfKind_12 : decode cX9_isOfKind 12 = .ok (.iload_n 2, 1) := by decide +kernel
theorem dX9_isOfKind_13 : decode cX9_isOfKind 13 = .ok (.ifCond .lt 22, 3) := by decide +kernel
theorem dX9_isOfKind_16 : decode cX9_isOfKind 16 = .ok (.iload_n 2, 1) := by decide +kernel
theorem dX9_isOfKind_17 : decode cX9_isOfKind 17 = .ok (.iload_n 1, 1) := by decide +kernel
theorem dX9_isOfKind_18 : decode cX9_isOfKind 18 = .ok (.if_icmp .ne 5, 3) := by decide +kernel
theorem dX9_isOfKind_21 : decode cX9_isOfKind 21 = .ok (.iconst 1, 1) := by decide +kernel
theorem dX9_isOfKind_22 : decode cX9_isOfKind 22 = .ok (.ireturn, 1) := by decide +kernel
theorem dX9_isOfKind_23 : decode cX9_isOfKind 23 = .ok (.getstatic 37, 3) := by decide +kernel
theorem dX9_isOfKind_26 : decode cX9_isOfKind 26 = .ok (.iload_n 2, 1) := by decide +kernel
theorem dX9_isOfKind_27 : decode cX9_isOfKind 27 = .ok (.iaload, 1) := by decide +kernel
theorem dX9_isOfKind_28 : decode cX9_isOfKind 28 = .ok (.istore_n 2, 1) := by decide +kernel
theorem dX9_isOfKind_29 : decode cX9_isOfKind 29 = .ok (.iinc 3 1, 3) := by decide +kernel
theorem dX9_isOfKind_32 : decode cX9_isOfKind 32 = .ok (.goto (-25), 3) := by decide +kernel
theorem dX9_isOfKind_35 : decode cX9_isOfKind 35 = .ok (.iconst 0, 1) := by decide +kernel
theorem dX9_isOfKind_36 : decode cX9_isOfKind 36 = .ok (.ireturn, 1) := by decide +kernel
theorem dX9_longest_0 : decode cX9_longest 0 = .ok (.aload_n 0, 1) := by decide +kernel
theorem dX9_longest_1 : decode cX9_longest 1 = .ok (.getfield 28, 3) := by decide +kernel
theorem dX9_longest_4 : decode cX9_longest 4 = .ok (.iconst 1, 1) := by decide +kernel
theorem dX9_longest_5 : decode cX9_longest 5 = .ok (.if_icmp .eq 11, 3) := by decide +kernel
theorem dX9_longest_8 : decode cX9_longest 8 = .ok (.aload_n 0, 1) := by decide +kernel
theorem dX9_longest_9 : decode cX9_longest 9 = .ok (.getfield 28, 3) := by decide +kernel
theorem dX9_longest_12 : decode cX9_longest 12 = .ok (.iconst 3, 1) := by decide +kernel
theorem dX9_longest_13 : decode cX9_longest 13 = .ok (.if_icmp .ne 12, 3) := by decide +kernel
theorem dX9_longest_16 : decode cX9_longest 16 = .ok (.aload_n 0, 1) := by decide +kernel
theorem dX9_longest_17 : decode cX9_longest 17 = .ok (.getfield 15, 3) := by decide +kernel
theorem dX9_longest_20 : decode cX9_longest 20 = .ok (.iload_n 1, 1) := by decide +kernel
theorem dX9_longest_21 : decode cX9_longest 21 = .ok (.iaload, 1) := by decide +kernel
theorem dX9_longest_22 : decode cX9_longest 22 = .ok (.goto 9, 3) := by decide +kernel
theorem dX9_longest_25 : decode cX9_longest 25 = .ok (.aload_n 0, 1) := by decide +kernel
theorem dX9_longest_26 : decode cX9_longest 26 = .ok (.getfield 18, 3) := by decide +kernel
theorem dX9_longest_29 : decode cX9_longest 29 = .ok (.iload_n 1, 1) := by decide +kernel
theorem dX9_longest_30 : decode cX9_longest 30 = .ok (.iaload, 1) := by decide +kernel
theorem dX9_longest_31 : decode cX9_longest 31 = .ok (.ireturn, 1) := by decide +kernel
theorem dX9_costOver_0 : decode cX9_costOver 0 = .ok (.aload_n 0, 1) := by decide +kernel
theorem dX9_costOver_1 : decode cX9_costOver 1 = .ok (.getfield 9, 3) := by decide +kernel
theorem dX9_costOver_4 : decode cX9_costOver 4 = .ok (.iload_n 1, 1) := by decide +kernel
theorem dX9_costOver_5 : decode cX9_costOver 5 = .ok (.iaload, 1) := by decide +kernel
theorem dX9_costOver_6 : decode cX9_costOver 6 = .ok (.istore_n 3, 1) := by decide +kernel
theorem dX9_costOver_7 : decode cX9_costOver 7 = .ok (.iload_n 3, 1) := by decide +kernel
theorem dX9_costOver_8 : decode cX9_costOver 8 = .ok (.iload_n 2, 1) := by decide +kernel
theorem dX9_costOver_9 : decode cX9_costOver 9 = .ok (.if_icmp .eq 11, 3) := by decide +kernel
theorem dX9_costOver_12 : decode cX9_costOver 12 = .ok (.aload_n 0, 1) := by decide +kernel
theorem dX9_costOver_13 : decode cX9_costOver 13 = .ok (.getfield 28, 3) := by decide +kernel
theorem dX9_costOver_16 : decode cX9_costOver 16 = .ok (.iconst 2, 1) := by decide +kernel
theorem dX9_costOver_17 : decode cX9_costOver 17 = .ok (.if_icmp .ne 5, 3) := by decide +kernel
theorem dX9_costOver_20 : decode cX9_costOver 20 = .ok (.iconst 0, 1) := by decide +kernel
theorem dX9_costOver_21 : decode cX9_costOver 21 = .ok (.ireturn, 1) := by decide +kernel
theorem dX9_costOver_22 : decode cX9_costOver 22 = .ok (.iload_n 3, 1) := by decide +kernel
theorem dX9_costOver_23 : decode cX9_costOver 23 = .ok (.ifCond .eq 7, 3) := by decide +kernel
theorem dX9_costOver_26 : decode cX9_costOver 26 = .ok (.iload_n 2, 1) := by decide +kernel
theorem dX9_costOver_27 : decode cX9_costOver 27 = .ok (.ifCond .ne 17, 3) := by decide +kernel
theorem dX9_costOver_30 : decode cX9_costOver 30 = .ok (.aload_n 0, 1) := by decide +kernel
theorem dX9_costOver_31 : decode cX9_costOver 31 = .ok (.getfield 28, 3) := by decide +kernel
theorem dX9_costOver_34 : decode cX9_costOver 34 = .ok (.iconst 3, 1) := by decide +kernel
theorem dX9_costOver_35 : decode cX9_costOver 35 = .ok (.if_icmp .ne 7, 3) := by decide +kernel
theorem dX9_costOver_38 : decode cX9_costOver 38 = .ok (.iconst 0, 1) := by decide +kernel
theorem dX9_costOver_39 : decode cX9_costOver 39 = .ok (.goto 4, 3) := by decide +kernel
theorem dX9_costOver_42 : decode cX9_costOver 42 = .ok (.iconst 3, 1) := by decide +kernel
theorem dX9_costOver_43 : decode cX9_costOver 43 = .ok (.ireturn, 1) := by decide +kernel
theorem dX9_costOver_44 : decode cX9_costOver 44 = .ok (.iconst 1, 1) := by decide +kernel
theorem dX9_costOver_45 : decode cX9_costOver 45 = .ok (.ireturn, 1) := by decide +kernel
theorem dJ6_bitCount_0f7a4_0 : decode cJ6_bitCount_0f7a4 0 = .ok (.iload_n 0, 1) := by decide +kernel
theorem dJ6_bitCount_0f7a4_1 : decode cJ6_bitCount_0f7a4 1 = .ok (.iload_n 0, 1) := by decide +kernel
theorem dJ6_bitCount_0f7a4_2 : decode cJ6_bitCount_0f7a4 2 = .ok (.iconst 1, 1) := by decide +kernel
theorem dJ6_bitCount_0f7a4_3 : decode cJ6_bitCount_0f7a4 3 = .ok (.iushr, 1) := by decide +kernel
theorem dJ6_bitCount_0f7a4_4 : decode cJ6_bitCount_0f7a4 4 = .ok (.ldc_w 265, 3) := by decide +kernel
theorem dJ6_bitCount_0f7a4_7 : decode cJ6_bitCount_0f7a4 7 = .ok (.iand, 1) := by decide +kernel
theorem dJ6_bitCount_0f7a4_8 : decode cJ6_bitCount_0f7a4 8 = .ok (.isub, 1) := by decide +kernel
theorem dJ6_bitCount_0f7a4_9 : decode cJ6_bitCount_0f7a4 9 = .ok (.istore_n 0, 1) := by decide +kernel
theorem dJ6_bitCount_0f7a4_10 : decode cJ6_bitCount_0f7a4 10 = .ok (.iload_n 0, 1) := by decide +kernel
theorem dJ6_bitCount_0f7a4_11 : decode cJ6_bitCount_0f7a4 11 = .ok (.ldc_w 266, 3) := by decide +kernel
theorem dJ6_bitCount_0f7a4_14 : decode cJ6_bitCount_0f7a4 14 = .ok (.iand, 1) := by decide +kernel
theorem dJ6_bitCount_0f7a4_15 : decode cJ6_bitCount_0f7a4 15 = .ok (.iload_n 0, 1) := by decide +kernel
theorem dJ6_bitCount_0f7a4_16 : decode cJ6_bitCount_0f7a4 16 = .ok (.iconst 2, 1) := by decide +kernel
theorem dJ6_bitCount_0f7a4_17 : decode cJ6_bitCount_0f7a4 17 = .ok (.iushr, 1) := by decide +kernel
theorem dJ6_bitCount_0f7a4_18 : decode cJ6_bitCount_0f7a4 18 = .ok (.ldc_w 266, 3) := by decide +kernel
theorem dJ6_bitCount_0f7a4_21 : decode cJ6_bitCount_0f7a4 21 = .ok (.iand, 1) := by decide +kernel
theorem dJ6_bitCount_0f7a4_22 : decode cJ6_bitCount_0f7a4 22 = .ok (.iadd, 1) := by decide +kernel
theorem dJ6_bitCount_0f7a4_23 : decode cJ6_bitCount_0f7a4 23 = .ok (.istore_n 0, 1) := by decide +kernel
theorem dJ6_bitCount_0f7a4_24 : decode cJ6_bitCount_0f7a4 24 = .ok (.iload_n 0, 1) := by decide +kernel
theorem dJ6_bitCount_0f7a4_25 : decode cJ6_bitCount_0f7a4 25 = .ok (.iload_n 0, 1) := by decide +kernel
theorem dJ6_bitCount_0f7a4_26 : decode cJ6_bitCount_0f7a4 26 = .ok (.iconst 4, 1) := by decide +kernel
theorem dJ6_bitCount_0f7a4_27 : decode cJ6_bitCount_0f7a4 27 = .ok (.iushr, 1) := by decide +kernel
theorem dJ6_bitCount_0f7a4_28 : decode cJ6_bitCount_0f7a4 28 = .ok (.iadd, 1) := by decide +kernel
theorem dJ6_bitCount_0f7a4_29 : decode cJ6_bitCount_0f7a4 29 = .ok (.ldc_w 267, 3) := by decide +kernel
theorem dJ6_bitCount_0f7a4_32 : decode cJ6_bitCount_0f7a4 32 = .ok (.iand, 1) := by decide +kernel
theorem dJ6_bitCount_0f7a4_33 : decode cJ6_bitCount_0f7a4 33 = .ok (.istore_n 0, 1) := by decide +kernel
theorem dJ6_bitCount_0f7a4_34 : decode cJ6_bitCount_0f7a4 34 = .ok (.iload_n 0, 1) := by decide +kernel
theorem dJ6_bitCount_0f7a4_35 : decode cJ6_bitCount_0f7a4 35 = .ok (.iload_n 0, 1) := by decide +kernel
theorem dJ6_bitCount_0f7a4_36 : decode cJ6_bitCount_0f7a4 36 = .ok (.bipush 8, 2) := by decide +kernel
theorem dJ6_bitCount_0f7a4_38 : decode cJ6_bitCount_0f7a4 38 = .ok (.iushr, 1) := by decide +kernel
theorem dJ6_bitCount_0f7a4_39 : decode cJ6_bitCount_0f7a4 39 = .ok (.iadd, 1) := by decide +kernel
theorem dJ6_bitCount_0f7a4_40 : decode cJ6_bitCount_0f7a4 40 = .ok (.istore_n 0, 1) := by decide +kernel
theorem dJ6_bitCount_0f7a4_41 : decode cJ6_bitCount_0f7a4 41 = .ok (.iload_n 0, 1) := by decide +kernel
theorem dJ6_bitCount_0f7a4_42 : decode cJ6_bitCount_0f7a4 42 = .ok (.iload_n 0, 1) := by decide +kernel
theorem dJ6_bitCount_0f7a4_43 : decode cJ6_bitCount_0f7a4 43 = .ok (.bipush 16, 2) := by decide +kernel
theorem dJ6_bitCount_0f7a4_45 : decode cJ6_bitCount_0f7a4 45 = .ok (.iushr, 1) := by decide +kernel
theorem dJ6_bitCount_0f7a4_46 : decode cJ6_bitCount_0f7a4 46 = .ok (.iadd, 1) := by decide +kernel
theorem dJ6_bitCount_0f7a4_47 : decode cJ6_bitCount_0f7a4 47 = .ok (.istore_n 0, 1) := by decide +kernel
theorem dJ6_bitCount_0f7a4_48 : decode cJ6_bitCount_0f7a4 48 = .ok (.iload_n 0, 1) := by decide +kernel
theorem dJ6_bitCount_0f7a4_49 : decode cJ6_bitCount_0f7a4 49 = .ok (.bipush 63, 2) := by decide +kernel
theorem dJ6_bitCount_0f7a4_51 : decode cJ6_bitCount_0f7a4 51 = .ok (.iand, 1) := by decide +kernel
theorem dJ6_bitCount_0f7a4_52 : decode cJ6_bitCount_0f7a4 52 = .ok (.ireturn, 1) := by decide +kernel
theorem dJ9_max_7cf53_0 : decode cJ9_max_7cf53 0 = .ok (.iload_n 0, 1) := by decide +kernel
theorem dJ9_max_7cf53_1 : decode cJ9_max_7cf53 1 = .ok (.iload_n 1, 1) := by decide +kernel
theorem dJ9_max_7cf53_2 : decode cJ9_max_7cf53 2 = .ok (.if_icmp .lt 7, 3) := by decide +kernel
theorem dJ9_max_7cf53_5 : decode cJ9_max_7cf53 5 = .ok (.iload_n 0, 1) := by decide +kernel
theorem dJ9_max_7cf53_6 : decode cJ9_max_7cf53 6 = .ok (.goto 4, 3) := by decide +kernel
theorem dJ9_max_7cf53_9 : decode cJ9_max_7cf53 9 = .ok (.iload_n 1, 1) := by decide +kernel
theorem dJ9_max_7cf53_10 : decode cJ9_max_7cf53 10 = .ok (.ireturn, 1) := by decide +kernel
theorem dJ9_min_7cf53_0 : decode cJ9_min_7cf53 0 = .ok (.iload_n 0, 1) := by decide +kernel
theorem dJ9_min_7cf53_1 : decode cJ9_min_7cf53 1 = .ok (.iload_n 1, 1) := by decide +kernel
theorem dJ9_min_7cf53_2 : decode cJ9_min_7cf53 2 = .ok (.if_icmp .gt 7, 3) := by decide +kernel
theorem dJ9_min_7cf53_5 : decode cJ9_min_7cf53 5 = .ok (.iload_n 0, 1) := by decide +kernel
theorem dJ9_min_7cf53_6 : decode cJ9_min_7cf53 6 = .ok (.goto 4, 3) := by decide +kernel
theorem dJ9_min_7cf53_9 : decode cJ9_min_7cf53 9 = .ok (.iload_n 1, 1) := by decide +kernel
theorem dJ9_min_7cf53_10 : decode cJ9_min_7cf53 10 = .ok (.ireturn, 1) := by decide +kernel
end
section
theorem dX10_init_0 : decode cX10_init 0 = .ok (.aload_n 0, 1) := by decide +kernel
theorem dX10_init_1 : decode cX10_init 1 = .ok (.invokespecial 1, 3) := by decide +kernel
theorem dX10_init_4 : decode cX10_init 4 = .ok (.aload_n 0, 1) := by decide +kernel
theorem dX10_init_5 : decode cX10_init 5 = .ok (.bipush 12, 2) := by decide +kernel
theorem dX10_init_7 : decode cX10_init 7 = .ok (.anewarray 9, 3) := by decide +kernel
theorem dX10_init_10 : decode cX10_init 10 = .ok (.putfield 11, 3) := by decide +kernel
theorem dX10_init_13 : decode cX10_init 13 = .ok (.aload_n 0, 1) := by decide +kernel
theorem dX10_init_14 : decode cX10_init 14 = .ok (.bipush 20, 2) := by decide +kernel
theorem dX10_init_16 : decode cX10_init 16 = .ok (.anewarray 15, 3) := by decide +kernel
theorem dX10_init_19 : decode cX10_init 19 = .ok (.putfield 17, 3) := by decide +kernel
theorem dX10_init_22 : decode cX10_init 22 = .ok (.aload_n 0, 1) := by decide +kernel
theorem dX10_init_23 : decode cX10_init 23 = .ok (.iconst 4, 1) := by decide +kernel
theorem dX10_init_24 : decode cX10_init 24 = .ok (.anewarray 21, 3) := by decide +kernel
theorem dX10_init_27 : decode cX10_init 27 = .ok (.putfield 23, 3) := by decide +kernel
theorem dX10_init_30 : decode cX10_init 30 = .ok (.aload_n 0, 1) := by decide +kernel
theorem dX10_init_31 : decode cX10_init 31 = .ok (.new 27, 3) := by decide +kernel
theorem dX10_init_34 : decode cX10_init 34 = .ok (.dup, 1) := by decide +kernel
theorem dX10_init_35 : decode cX10_init 35 = .ok (.invokespecial 29, 3) := by decide +kernel
theorem dX10_init_38 : decode cX10_init 38 = .ok (.putfield 30, 3) := by decide +kernel
theorem dX10_init_41 : decode cX10_init 41 = .ok (.aload_n 0, 1) := by decide +kernel
theorem dX10_init_42 : decode cX10_init 42 = .ok (.new 34, 3) := by decide +kernel
theorem dX10_init_45 : decode cX10_init 45 = .ok (.dup, 1) := by decide +kernel
theorem dX10_init_46 : decode cX10_init 46 = .ok (.invokespecial 36, 3) := by decide +kernel
theorem dX10_init_49 : decode cX10_init 49 = .ok (.putfield 37, 3) := by decide +kernel
theorem dX10_init_52 : decode cX10_init 52 = .ok (.aload_n 0, 1) := by decide +kernel
theorem dX10_init_53 : decode cX10_init 53 = .ok (.new 41, 3) := by decide +kernel
theorem dX10_init_56 : decode cX10_init 56 = .ok (.dup, 1) := by decide +kernel
theorem dX10_init_57 : decode cX10_init 57 = .ok (.invokespecial 43, 3) := by decide +kernel
theorem dX10_init_60 : decode cX10_init 60 = .ok (.putfield 44, 3) := by decide +kernel
theorem dX10_init_63 : decode cX10_init 63 = .ok (.aload_n 0, 1) := by decide +kernel
theorem dX10_init_64 : decode cX10_init 64 = .ok (.new 48, 3) := by decide +kernel
theorem dX10_init_67 : decode cX10_init 67 = .ok (.dup, 1) := by decide +kernel
theorem dX10_init_68 : decode cX10_init 68 = .ok (.invokespecial 50, 3) := by decide +kernel
theorem dX10_init_71 : decode cX10_init 71 = .ok (.putfield 51, 3) := by decide +kernel
theorem dX10_init_74 : decode cX10_init 74 = .ok (.aload_n 0, 1) := by decide +kernel
theorem dX10_init_75 : decode cX10_init 75 = .ok (.new 55, 3) := by decide +kernel
theorem dX10_init_78 : decode cX10_init 78 = .ok (.dup, 1) := by decide +kernel
theorem dX10_init_79 : decode cX10_init 79 = .ok (.invokespecial 57, 3) := by decide +kernel
theorem dX10_init_82 : decode cX10_init 82 = .ok (.putfield 58, 3) := by decide +kernel
theorem dX10_init_85 : decode cX10_init 85 = .ok (.aload_n 0, 1) := by decide +kernel
theorem dX10_init_86 : decode cX10_init 86 = .ok (.new 62, 3) := by decide +kernel
theorem dX10_init_89 : decode cX10_init 89 = .ok (.dup, 1) := by decide +kernel
theorem dX10_init_90 : decode cX10_init 90 = .ok (.invokespecial 64, 3) := by decide +kernel
theorem dX10_init_93 : decode cX10_init 93 = .ok (.putfield 65, 3) := by decide +kernel
theorem dX10_init_96 : decode cX10_init 96 = .ok (.aload_n 0, 1) := by decide +kernel
theorem dX10_init_97 : decode cX10_init 97 = .ok (.bipush 24, 2) := by decide +kernel
theorem dX10_init_99 : decode cX10_init 99 = .ok (.newarray .int, 2) := by decide +kernel
theorem dX10_init_101 : decode cX10_init 101 = .ok (.putfield 69, 3) := by decide +kernel
theorem dX10_init_104 : decode cX10_init 104 = .ok (.aload_n 0, 1) := by decide +kernel
theorem dX10_init_105 : decode cX10_init 105 = .ok (.iconst 0, 1) := by decide +kernel
theorem dX10_init_106 : decode cX10_init 106 = .ok (.putfield 73, 3) := by decide +kernel
theorem dX10_init_109 : decode cX10_init 109 = .ok (.aload_n 0, 1) := by decide +kernel
theorem dX10_init_110 : decode cX10_init 110 = .ok (.iconst 0, 1) := by decide +kernel
theorem dX10_init_111 : decode cX10_init 111 = .ok (.putfield 77, 3) := by decide +kernel
theorem dX10_init_114 : decode cX10_init 114 = .ok (.aload_n 0, 1) := by decide +kernel
theorem dX10_init_115 : decode cX10_init 115 = .ok (.iconst 0, 1) := by decide +kernel
theorem dX10_init_116 : decode cX10_init 116 = .ok (.putfield 80, 3) := by decide +kernel
theorem dX10_init_119 : decode cX10_init 119 = .ok (.iconst 0, 1) := by decide +kernel
theorem dX10_init_120 : decode cX10_init 120 = .ok (.istore_n 1, 1) := by decide +kernel
theorem dX10_init_121 : decode cX10_init 121 = .ok (.iload_n 1, 1) := by decide +kernel
theorem dX10_init_122 : decode cX10_init 122 = .ok (.bipush 12, 2) := by decide +kernel
theorem dX10_init_124 : decode cX10_init 124 = .ok (.if_icmp .ge 22, 3) := by decide +kernel
theorem dX10_init_127 : decode cX10_init 127 = .ok (.aload_n 0, 1) := by decide +kernel
theorem dX10_init_128 : decode cX10_init 128 = .ok (.getfield 11, 3) := by decide +kernel
theorem dX10_init_131 : decode cX10_init 131 = .ok (.iload_n 1, 1) := by decide +kernel
theorem dX10_init_132 : decode cX10_init 132 = .ok (.new 9, 3) := by decide +kernel
theorem dX10_init_135 : decode cX10_init 135 = .ok (.dup, 1) := by decide +kernel
theorem dX10_init_136 : decode cX10_init 136 = .ok (.invokespecial 83, 3) := by decide +kernel
theorem dX10_init_139 : decode cX10_init 139 = .ok (.aastore, 1) := by decide +kernel
theorem dX10_init_140 : decode cX10_init 140 = .ok (.iinc 1 1, 3) := by decide +kernel
theorem dX10_init_143 : decode cX10_init 143 = .ok (.goto (-22), 3) := by decide +kernel
theorem dX10_init_146 : decode cX10_init 146 = .ok (.iconst 0, 1) := by decide +kernel
theorem dX10_init_147 : decode cX10_init 147 = .ok (.istore_n 1, 1) := by decide +kernel
theorem dX10_init_148 : decode cX10_init 148 = .ok (.iload_n 1, 1) := by decide +kernel
theorem dX10_init_149 : decode cX10_init 149 = .ok (.bipush 20, 2) := by decide +kernel
theorem dX10_init_151 : decode cX10_init 151 = .ok (.if_icmp .ge 22, 3) := by decide +kernel
theorem dX10_init_154 : decode cX10_init 154 = .ok (.aload_n 0, 1) := by decide +kernel
theorem dX10_init_155 : decode cX10_init 155 = .ok (.getfield 17, 3) := by decide +kernel
theorem dX10_init_158 : decode cX10_init 158 = .ok (.iload_n 1, 1) := by decide +kernel
theorem dX10_init_159 : decode cX10_init 159 = .ok (.new 15, 3) := by decide +kernel
theorem dX10_init_162 : decode cX10_init 162 = .ok (.dup, 1) := by decide +kernel
theorem dX10_init_163 : decode cX10_init 163 = .ok (.invokespecial 84, 3) := by decide +kernel
theorem dX10_init_166 : decode cX10_init 166 = .ok (.aastore, 1) := by decide +kernel
theorem dX10_init_167 : decode cX10_init 167 = .ok (.iinc 1 1, 3) := by decide +kernel
theorem dX10_init_170 : decode cX10_init 170 = .ok (.goto (-22), 3) := by decide +kernel
theorem dX10_init_173 : decode cX10_init 173 = .ok (.iconst 0, 1) := by decide +kernel
theorem dX10_init_174 : decode cX10_init 174 = .ok (.istore_n 1, 1) := by decide +kernel
theorem dX10_init_175 : decode cX10_init 175 = .ok (.iload_n 1, 1) := by decide +kernel
theorem dX10_init_176 : decode cX10_init 176 = .ok (.iconst 4, 1) := by decide +kernel
theorem dX10_init_177 : decode cX10_init 177 = .ok (.if_icmp .ge 22, 3) := by decide +kernel
theorem dX10_init_180 : decode cX10_init 180 = .ok (.aload_n 0, 1) := by decide +kernel
theorem dX10_init_181 : decode cX10_init 181 = .ok (.getfield 23, 3) := by decide +kernel
theorem dX10_init_184 : decode cX10_init 184 = .ok (.iload_n 1, 1) := by decide +kernel
theorem dX10_init_185 : decode cX10_init 185 = .ok (.new 21, 3) := by decide +kernel
theorem dX10_init_188 : decode cX10_init 188 = .ok (.dup, 1) := by decide +kernel
theorem dX10_init_189 : decode cX10_init 189 = .ok (.invokespecial 85, 3) := by decide +kernel
theorem dX10_init_192 : decode cX10_init 192 = .ok (.aastore, 1) := by decide +kernel
theorem dX10_init_193 : decode cX10_init 193 = .ok (.iinc 1 1, 3) := by decide +kernel
theorem dX10_init_196 : decode cX10_init 196 = .ok (.goto (-21), 3) := by decide +kernel
theorem dX10_init_199 : decode cX10_init 199 = .ok (.return_, 1) := by decide +kernel
theorem dX10_line_0 : decode cX10_line 0 = .ok (.iload_n 1, 1) := by decide +kernel
theorem dX10_line_1 : decode cX10_line 1 = .ok (.bipush 6, 2) := by decide +kernel
theorem dX10_line_3 : decode cX10_line 3 = .ok (.invokestatic 86, 3) := by decide +kernel
theorem dX10_line_6 : decode cX10_line 6 = .ok (.ifCond .ne 10, 3) := by decide +kernel
theorem dX10_line_9 : decode cX10_line 9 = .ok (.aload_n 0, 1) := by decide +kernel
theorem dX10_line_10 : decode cX10_line 10 = .ok (.ldc 90, 2) := by decide +kernel
theorem dX10_line_12 : decode cX10_line 12 = .ok (.invokevirtual 91, 3) := by decide +kernel
theorem dX10_line_15 : decode cX10_line 15 = .ok (.ireturn, 1) := by decide +kernel
theorem dX10_line_16 : decode cX10_line 16 = .ok (.aload_n 0, 1) := by decide +kernel
theorem dX10_line_17 : decode cX10_line 17 = .ok (.getfield 73, 3) := by decide +kernel
theorem dX10_line_20 : decode cX10_line 20 = .ok (.bipush 12, 2) := by decide +kernel
theorem dX10_line_22 : decode cX10_line 22 = .ok (.if_icmp .lt 10, 3) := by decide +kernel
theorem dX10_line_25 : decode cX10_line 25 = .ok (.aload_n 0, 1) := by decide +kernel
theorem dX10_line_26 : decode cX10_line 26 = .ok (.ldc 95, 2) := by decide +kernel
theorem dX10_line_28 : decode cX10_line 28 = .ok (.invokevirtual 91, 3) := by decide +kernel
theorem dX10_line_31 : decode cX10_line 31 = .ok (.ireturn, 1) := by decide +kernel
theorem dX10_line_32 : decode cX10_line 32 = .ok (.aload_n 0, 1) := by decide +kernel
theorem dX10_line_33 : decode cX10_line 33 = .ok (.getfield 11, 3) := by decide +kernel
theorem dX10_line_36 : decode cX10_line 36 = .ok (.aload_n 0, 1) := by decide +kernel
theorem dX10_line_37 : decode cX10_line 37 = .ok (.getfield 73, 3) := by decide +kernel
theorem dX10_line_40 : decode cX10_line 40 = .ok (.aaload, 1) := by decide +kernel
theorem dX10_line_41 : decode cX10_line 41 = .ok (.iload_n 1, 1) := by decide +kernel
theorem dX10_line_42 : decode cX10_line 42 = .ok (.invokevirtual 96, 3) := by decide +kernel
theorem dX10_line_45 : decode cX10_line 45 = .ok (.aload_n 0, 1) := by decide +kernel
theorem dX10_line_46 : decode cX10_line 46 = .ok (.dup, 1) := by decide +kernel
theorem dX10_line_47 : decode cX10_line 47 = .ok (.getfield 73, 3) := by decide +kernel
theorem dX10_line_50 : decode cX10_line 50 = .ok (.iconst 1, 1) := by decide +kernel
theorem dX10_line_51 : decode cX10_line 51 = .ok (.iadd, 1) := by decide +kernel
theorem dX10_line_52 : decode cX10_line 52 = .ok (.putfield 73, 3) := by decide +kernel
theorem dX10_line_55 : decode cX10_line 55 = .ok (.aload_n 0, 1) := by decide +kernel
theorem dX10_line_56 : decode cX10_line 56 = .ok (.iconst 0, 1) := by decide +kernel
theorem dX10_line_57 : decode cX10_line 57 = .ok (.iconst 0, 1) := by decide +kernel
theorem dX10_line_58 : decode cX10_line 58 = .ok (.iconst 0, 1) := by decide +kernel
theorem dX10_line_59 : decode cX10_line 59 = .ok (.invokevirtual 100, 3) := by decide +kernel
theorem dX10_line_62 : decode cX10_line 62 = .ok (.pop, 1) := by decide +kernel
theorem dX10_line_63 : decode cX10_line 63 = .ok (.aload_n 0, 1) := by decide +kernel
theorem dX10_line_64 : decode cX10_line 64 = .ok (.getfield 73, 3) := by decide +kernel
theorem dX10_line_67 : decode cX10_line 67 = .ok (.iconst 1, 1) := by decide +kernel
theorem dX10_line_68 : decode cX10_line 68 = .ok (.isub, 1) := by decide +kernel
theorem dX10_line_69 : decode cX10_line 69 = .ok (.ireturn, 1) := by decide +kernel
theorem dX10_frame_0 : decode cX10_frame 0 = .ok (.aload_n 0, 1) := by decide +kernel
theorem dX10_frame_1 : decode cX10_frame 1 = .ok (.iload_n 1, 1) := by decide +kernel
theorem dX10_frame_2 : decode cX10_frame 2 = .ok (.invokevirtual 104, 3) := by decide +kernel
theorem dX10_frame_5 : decode cX10_frame 5 = .ok (.ifCond .eq 11, 3) := by decide +kernel
theorem dX10_frame_8 : decode cX10_frame 8 = .ok (.iload_n 2, 1) := by decide +kernel
theorem dX10_frame_9 : decode cX10_frame 9 = .ok (.iconst 4, 1) := by decide +kernel
theorem dX10_frame_10 : decode cX10_frame 10 = .ok (.invokestatic 86, 3) := by decide +kernel
theorem dX10_frame_13 : decode cX10_frame 13 = .ok (.ifCond .ne 10, 3) := by decide +kernel
theorem dX10_frame_16 : decode cX10_frame 16 = .ok (.aload_n 0, 1) := by decide +kernel
theorem dX10_frame_17 : decode cX10_frame 17 = .ok (.ldc 90, 2) := by decide +kernel
theorem dX10_frame_19 : decode cX10_frame 19 = .ok (.invokevirtual 91, 3) := by decide +kernel
theorem dX10_frame_22 : decode cX10_frame 22 = .ok (.ireturn, 1) := by decide +kernel
theorem dX10_frame_23 : decode cX10_frame 23 = .ok (.aload_n 0, 1) := by decide +kernel
theorem dX10_frame_24 : decode cX10_frame 24 = .ok (.getfield 11, 3) := by decide +kernel
theorem dX10_frame_27 : decode cX10_frame 27 = .ok (.iload_n 1, 1) := by decide +kernel
theorem dX10_frame_28 : decode cX10_frame 28 = .ok (.aaload, 1) := by decide +kernel
theorem dX10_frame_29 : decode cX10_frame 29 = .ok (.astore_n 3, 1) := by decide +kernel
theorem dX10_frame_30 : decode cX10_frame 30 = .ok (.aload_n 3, 1) := by decide +kernel
theorem dX10_frame_31 : decode cX10_frame 31 = .ok (.getfield 108, 3) := by decide +kernel
theorem dX10_frame_34 : decode cX10_frame 34 = .ok (.bipush 24, 2) := by decide +kernel
theorem dX10_frame_36 : decode cX10_frame 36 = .ok (.if_icmp .lt 10, 3) := by decide +kernel
theorem dX10_frame_39 : decode cX10_frame 39 = .ok (.aload_n 0, 1) := by decide +kernel
theorem dX10_frame_40 : decode cX10_frame 40 = .ok (.ldc 95, 2) := by decide +kernel
theorem dX10_frame_42 : decode cX10_frame 42 = .ok (.invokevirtual 91, 3) := by decide +kernel
theorem dX10_frame_45 : decode cX10_frame 45 = .ok (.ireturn, 1) := by decide +kernel
theorem dX10_frame_46 : decode cX10_frame 46 = .ok (.aload_n 3, 1) := by decide +kernel
theorem dX10_frame_47 : decode cX10_frame 47 = .ok (.getfield 111, 3) := by decide +kernel
theorem dX10_frame_50 : decode cX10_frame 50 = .ok (.aload_n 3, 1) := by decide +kernel
theorem dX10_frame_51 : decode cX10_frame 51 = .ok (.getfield 108, 3) := by decide +kernel
theorem dX10_frame_54 : decode cX10_frame 54 = .ok (.iload_n 2, 1) := by decide +kernel
theorem dX10_frame_55 : decode cX10_frame 55 = .ok (.iastore, 1) := by decide +kernel
theorem dX10_frame_56 : decode cX10_frame 56 = .ok (.aload_n 3, 1) := by decide +kernel
theorem dX10_frame_57 : decode cX10_frame 57 = .ok (.dup, 1) := by decide +kernel
theorem dX10_frame_58 : decode cX10_frame 58 = .ok (.getfield 108, 3) := by decide +kernel
theorem dX10_frame_61 : decode cX10_frame 61 = .ok (.iconst 1, 1) := by decide +kernel
theorem dX10_frame_62 : decode cX10_frame 62 = .ok (.iadd, 1) := by decide +kernel
theorem dX10_frame_63 : decode cX10_frame 63 = .ok (.putfield 108, 3) := by decide +kernel
theorem dX10_frame_66 : decode cX10_frame 66 = .ok (.aload_n 0, 1) := by decide +kernel
theorem dX10_frame_67 : decode cX10_frame 67 = .ok (.iconst 1, 1) := by decide +kernel
theorem dX10_frame_68 : decode cX10_frame 68 = .ok (.iload_n 1, 1) := by decide +kernel
theorem dX10_frame_69 : decode cX10_frame 69 = .ok (.iconst 0, 1) := by decide +kernel
theorem dX10_frame_70 : decode cX10_frame 70 = .ok (.invokevirtual 100, 3) := by decide +kernel
theorem dX10_frame_73 : decode cX10_frame 73 = .ok (.pop, 1) := by decide +kernel
theorem dX10_frame_74 : decode cX10_frame 74 = .ok (.aload_n 3, 1) := by decide +kernel
theorem dX10_frame_75 : decode cX10_frame 75 = .ok (.getfield 108, 3) := by decide +kernel
theorem dX10_frame_78 : decode cX10_frame 78 = .ok (.ireturn, 1) := by decide +kernel
theorem dX10_wording_0 : decode cX10_wording 0 = .ok (.aload_n 0, 1) := by decide +kernel
theorem dX10_wording_1 : decode cX10_wording 1 = .ok (.iload_n 1, 1) := by decide +kernel
theorem dX10_wording_2 : decode cX10_wording 2 = .ok (.invokevirtual 104, 3) := by decide +kernel
theorem dX10_wording_5 : decode cX10_wording 5 = .ok (.ifCond .eq 20, 3) := by decide +kernel
theorem dX10_wording_8 : decode cX10_wording 8 = .ok (.iload_n 2, 1) := by decide +kernel
theorem dX10_wording_9 : decode cX10_wording 9 = .ok (.iconst 4, 1) := by decide +kernel
theorem dX10_wording_10 : decode cX10_wording 10 = .ok (.invokestatic 86, 3) := by decide +kernel
theorem dX10_wording_13 : decode cX10_wording 13 = .ok (.ifCond .eq 12, 3) := by decide +kernel
theorem dX10_wording_16 : decode cX10_wording 16 = .ok (.iload_n 3, 1) := by decide +kernel
theorem dX10_wording_17 : decode cX10_wording 17 = .ok (.bipush 101, 2) := by decide +kernel
theorem dX10_wording_19 : decode cX10_wording 19 = .ok (.invokestatic 86, 3) := by decide +kernel
theorem dX10_wording_22 : decode cX10_wording 22 = .ok (.ifCond .ne 10, 3) := by decide +kernel
theorem dX10_wording_25 : decode cX10_wording 25 = .ok (.aload_n 0, 1) := by decide +kernel
theorem dX10_wording_26 : decode cX10_wording 26 = .ok (.ldc 90, 2) := by decide +kernel
theorem dX10_wording_28 : decode cX10_wording 28 = .ok (.invokevirtual 91, 3) := by decide +kernel
theorem dX10_wording_31 : decode cX10_wording 31 = .ok (.ireturn, 1) := by decide +kernel
theorem dX10_wording_32 : decode cX10_wording 32 = .ok (.aload_n 0, 1) := by decide +kernel
theorem dX10_wording_33 : decode cX10_wording 33 = .ok (.getfield 77, 3) := by decide +kernel
theorem dX10_wording_36 : decode cX10_wording 36 = .ok (.bipush 20, 2) := by decide +kernel
theorem dX10_wording_38 : decode cX10_wording 38 = .ok (.if_icmp .lt 10, 3) := by decide +kernel
theorem dX10_wording_41 : decode cX10_wording 41 = .ok (.aload_n 0, 1) := by decide +kernel
theorem dX10_wording_42 : decode cX10_wording 42 = .ok (.ldc 95, 2) := by decide +kernel
theorem dX10_wording_44 : decode cX10_wording 44 = .ok (.invokevirtual 91, 3) := by decide +kernel
theorem dX10_wording_47 : decode cX10_wording 47 = .ok (.ireturn, 1) := by decide +kernel
theorem dX10_wording_48 : decode cX10_wording 48 = .ok (.aload_n 0, 1) := by decide +kernel
theorem dX10_wording_49 : decode cX10_wording 49 = .ok (.getfield 17, 3) := by decide +kernel
theorem dX10_wording_52 : decode cX10_wording 52 = .ok (.aload_n 0, 1) := by decide +kernel
theorem dX10_wording_53 : decode cX10_wording 53 = .ok (.getfield 77, 3) := by decide +kernel
theorem dX10_wording_56 : decode cX10_wording 56 = .ok (.aaload, 1) := by decide +kernel
theorem dX10_wording_57 : decode cX10_wording 57 = .ok (.iload_n 1, 1) := by decide +kernel
theorem dX10_wording_58 : decode cX10_wording 58 = .ok (.iload_n 2, 1) := by decide +kernel
theorem dX10_wording_59 : decode cX10_wording 59 = .ok (.iload_n 3, 1) := by decide +kernel
theorem dX10_wording_60 : decode cX10_wording 60 = .ok (.invokevirtual 114, 3) := by decide +kernel
theorem dX10_wording_63 : decode cX10_wording 63 = .ok (.aload_n 0, 1) := by decide +kernel
theorem dX10_wording_64 : decode cX10_wording 64 = .ok (.dup, 1) := by decide +kernel
theorem dX10_wording_65 : decode cX10_wording 65 = .ok (.getfield 77, 3) := by decide +kernel
theorem dX10_wording_68 : decode cX10_wording 68 = .ok (.iconst 1, 1) := by decide +kernel
theorem dX10_wording_69 : decode cX10_wording 69 = .ok (.iadd, 1) := by decide +kernel
theorem dX10_wording_70 : decode cX10_wording 70 = .ok (.putfield 77, 3) := by decide +kernel
theorem dX10_wording_73 : decode cX10_wording 73 = .ok (.aload_n 0, 1) := by decide +kernel
theorem dX10_wording_74 : decode cX10_wording 74 = .ok (.iconst 2, 1) := by decide +kernel
theorem dX10_wording_75 : decode cX10_wording 75 = .ok (.iconst 0, 1) := by decide +kernel
theorem dX10_wording_76 : decode cX10_wording 76 = .ok (.iconst 0, 1) := by decide +kernel
theorem dX10_wording_77 : decode cX10_wording 77 = .ok (.invokevirtual 100, 3) := by decide +kernel
theorem dX10_wording_80 : decode cX10_wording 80 = .ok (.pop, 1) := by decide +kernel
theorem dX10_wording_81 : decode cX10_wording 81 = .ok (.aload_n 0, 1) := by decide +kernel
theorem dX10_wording_82 : decode cX10_wording 82 = .ok (.getfield 77, 3) := by decide +kernel
theorem dX10_wording_85 : decode cX10_wording 85 = .ok (.iconst 1, 1) := by decide +kernel
theorem dX10_wording_86 : decode cX10_wording 86 = .ok (.isub, 1) := by decide +kernel
theorem dX10_wording_87 : decode cX10_wording 87 = .ok (.ireturn, 1) := by decide +kernel
theorem dX10_as_0 : decode cX10_as 0 = .ok (.aload_n 0, 1) := by decide +kernel
theorem dX10_as_1 : decode cX10_as 1 = .ok (.iload_n 1, 1) := by decide +kernel
theorem dX10_as_2 : decode cX10_as 2 = .ok (.invokevirtual 117, 3) := by decide +kernel
theorem dX10_as_5 : decode cX10_as 5 = .ok (.ifCond .eq 11, 3) := by decide +kernel
theorem dX10_as_8 : decode cX10_as 8 = .ok (.iload_n 2, 1) := by decide +kernel
theorem dX10_as_9 : decode cX10_as 9 = .ok (.iconst 4, 1) := by decide +kernel
theorem dX10_as_10 : decode cX10_as 10 = .ok (.invokestatic 86, 3) := by decide +kernel
theorem dX10_as_13 : decode cX10_as 13 = .ok (.ifCond .ne 10, 3) := by decide +kernel
theorem dX10_as_16 : decode cX10_as 16 = .ok (.aload_n 0, 1) := by decide +kernel
theorem dX10_as_17 : decode cX10_as 17 = .ok (.ldc 90, 2) := by decide +kernel
theorem dX10_as_19 : decode cX10_as 19 = .ok (.invokevirtual 91, 3) := by decide +kernel
theorem dX10_as_22 : decode cX10_as 22 = .ok (.ireturn, 1) := by decide +kernel
theorem dX10_as_23 : decode cX10_as 23 = .ok (.aload_n 0, 1) := by decide +kernel
theorem dX10_as_24 : decode cX10_as 24 = .ok (.getfield 17, 3) := by decide +kernel
theorem dX10_as_27 : decode cX10_as 27 = .ok (.iload_n 1, 1) := by decide +kernel
theorem dX10_as_28 : decode cX10_as 28 = .ok (.aaload, 1) := by decide +kernel
theorem dX10_as_29 : decode cX10_as 29 = .ok (.iload_n 2, 1) := by decide +kernel
theorem dX10_as_30 : decode cX10_as 30 = .ok (.invokevirtual 120, 3) := by decide +kernel
theorem dX10_as_33 : decode cX10_as 33 = .ok (.ifCond .ne 10, 3) := by decide +kernel
theorem dX10_as_36 : decode cX10_as 36 = .ok (.aload_n 0, 1) := by decide +kernel
theorem dX10_as_37 : decode cX10_as 37 = .ok (.ldc 123, 2) := by decide +kernel
theorem dX10_as_39 : decode cX10_as 39 = .ok (.invokevirtual 91, 3) := by decide +kernel
theorem dX10_as_42 : decode cX10_as 42 = .ok (.ireturn, 1) := by decide +kernel
theorem dX10_as_43 : decode cX10_as 43 = .ok (.iload_n 1, 1) := by decide +kernel
theorem dX10_as_44 : decode cX10_as 44 = .ok (.ireturn, 1) := by decide +kernel
theorem dX10_syllable_0 : decode cX10_syllable 0 = .ok (.aload_n 0, 1) := by decide +kernel
theorem dX10_syllable_1 : decode cX10_syllable 1 = .ok (.iload_n 1, 1) := by decide +kernel
theorem dX10_syllable_2 : decode cX10_syllable 2 = .ok (.invokevirtual 117, 3) := by decide +kernel
theorem dX10_syllable_5 : decode cX10_syllable 5 = .ok (.ifCond .eq 36, 3) := by decide +kernel
theorem dX10_syllable_8 : decode cX10_syllable 8 = .ok (.iload_n 2, 1) := by decide +kernel
theorem dX10_syllable_9 : decode cX10_syllable 9 = .ok (.iconst 4, 1) := by decide +kernel
theorem dX10_syllable_10 : decode cX10_syllable 10 = .ok (.invokestatic 86, 3) := by decide +kernel
theorem dX10_syllable_13 : decode cX10_syllable 13 = .ok (.ifCond .eq 28, 3) := by decide +kernel
theorem dX10_syllable_16 : decode cX10_syllable 16 = .ok (.iload_n 3, 1) := by decide +kernel
theorem dX10_syllable_17 : decode cX10_syllable 17 = .ok (.invokestatic 124, 3) := by decide +kernel
theorem dX10_syllable_20 : decode cX10_syllable 20 = .ok (.ifCond .eq 21, 3) := by decide +kernel
theorem dX10_syllable_23 : decode cX10_syllable 23 = .ok (.iload 4, 2) := by decide +kernel
theorem dX10_syllable_25 : decode cX10_syllable 25 = .ok (.invokestatic 124, 3) := by decide +kernel
theorem dX10_syllable_28 : decode cX10_syllable 28 = .ok (.ifCond .eq 13, 3) := by decide +kernel
theorem dX10_syllable_31 : decode cX10_syllable 31 = .ok (.iload 5, 2) := by decide +kernel
theorem dX10_syllable_33 : decode cX10_syllable 33 = .ok (.bipush 32, 2) := by decide +kernel
theorem dX10_syllable_35 : decode cX10_syllable 35 = .ok (.invokestatic 86, 3) := by decide +kernel
theorem dX10_syllable_38 : decode cX10_syllable 38 = .ok (.ifCond .ne 10, 3) := by decide +kernel
theorem dX10_syllable_41 : decode cX10_syllable 41 = .ok (.aload_n 0, 1) := by decide +kernel
theorem dX10_syllable_42 : decode cX10_syllable 42 = .ok (.ldc 90, 2) := by decide +kernel
theorem dX10_syllable_44 : decode cX10_syllable 44 = .ok (.invokevirtual 91, 3) := by decide +kernel
theorem dX10_syllable_47 : decode cX10_syllable 47 = .ok (.ireturn, 1) := by decide +kernel
theorem dX10_syllable_48 : decode cX10_syllable 48 = .ok (.iload_n 3, 1) := by decide +kernel
theorem dX10_syllable_49 : decode cX10_syllable 49 = .ok (.iload 4, 2) := by decide +kernel
theorem dX10_syllable_51 : decode cX10_syllable 51 = .ok (.if_icmp .le 10, 3) := by decide +kernel
theorem dX10_syllable_54 : decode cX10_syllable 54 = .ok (.aload_n 0, 1) := by decide +kernel
theorem dX10_syllable_55 : decode cX10_syllable 55 = .ok (.ldc 127, 2) := by decide +kernel
theorem dX10_syllable_57 : decode cX10_syllable 57 = .ok (.invokevirtual 91, 3) := by decide +kernel
theorem dX10_syllable_60 : decode cX10_syllable 60 = .ok (.ireturn, 1) := by decide +kernel
theorem dX10_syllable_61 : decode cX10_syllable 61 = .ok (.aload_n 0, 1) := by decide +kernel
theorem dX10_syllable_62 : decode cX10_syllable 62 = .ok (.getfield 17, 3) := by decide +kernel
theorem dX10_syllable_65 : decode cX10_syllable 65 = .ok (.iload_n 1, 1) := by decide +kernel
theorem dX10_syllable_66 : decode cX10_syllable 66 = .ok (.aaload, 1) := by decide +kernel
theorem dX10_syllable_67 : decode cX10_syllable 67 = .ok (.astore 6, 2) := by decide +kernel
theorem dX10_syllable_69 : decode cX10_syllable 69 = .ok (.aload 6, 2) := by decide +kernel
theorem dX10_syllable_71 : decode cX10_syllable 71 = .ok (.getfield 128, 3) := by decide +kernel
theorem dX10_syllable_74 : decode cX10_syllable 74 = .ok (.bipush 8, 2) := by decide +kernel
theorem dX10_syllable_76 : decode cX10_syllable 76 = .ok (.if_icmp .lt 10, 3) := by decide +kernel
theorem dX10_syllable_79 : decode cX10_syllable 79 = .ok (.aload_n 0, 1) := by decide +kernel
theorem dX10_syllable_80 : decode cX10_syllable 80 = .ok (.ldc 95, 2) := by decide +kernel
theorem dX10_syllable_82 : decode cX10_syllable 82 = .ok (.invokevirtual 91, 3) := by decide +kernel
theorem dX10_syllable_85 : decode cX10_syllable 85 = .ok (.ireturn, 1) := by decide +kernel
theorem dX10_syllable_86 : decode cX10_syllable 86 = .ok (.aload 6, 2) := by decide +kernel
theorem dX10_syllable_88 : decode cX10_syllable 88 = .ok (.iload_n 2, 1) := by decide +kernel
theorem dX10_syllable_89 : decode cX10_syllable 89 = .ok (.iload_n 3, 1) := by decide +kernel
theorem dX10_syllable_90 : decode cX10_syllable 90 = .ok (.iload 4, 2) := by decide +kernel
theorem dX10_syllable_92 : decode cX10_syllable 92 = .ok (.iload 5, 2) := by decide +kernel
theorem dX10_syllable_94 : decode cX10_syllable 94 = .ok (.invokevirtual 131, 3) := by decide +kernel
theorem dX10_syllable_97 : decode cX10_syllable 97 = .ok (.aload_n 0, 1) := by decide +kernel
theorem dX10_syllable_98 : decode cX10_syllable 98 = .ok (.iconst 3, 1) := by decide +kernel
theorem dX10_syllable_99 : decode cX10_syllable 99 = .ok (.iload_n 1, 1) := by decide +kernel
theorem dX10_syllable_100 : decode cX10_syllable 100 = .ok (.iconst 0, 1) := by decide +kernel
theorem dX10_syllable_101 : decode cX10_syllable 101 = .ok (.invokevirtual 100, 3) := by decide +kernel
theorem dX10_syllable_104 : decode cX10_syllable 104 = .ok (.pop, 1) := by decide +kernel
theorem dX10_syllable_105 : decode cX10_syllable 105 = .ok (.aload 6, 2) := by decide +kernel
theorem dX10_syllable_107 : decode cX10_syllable 107 = .ok (.getfield 128, 3) := by decide +kernel
theorem dX10_syllable_110 : decode cX10_syllable 110 = .ok (.ireturn, 1) := by decide +kernel
theorem dX10_cut_0 : decode cX10_cut 0 = .ok (.aload_n 0, 1) := by decide +kernel
theorem dX10_cut_1 : decode cX10_cut 1 = .ok (.iload_n 1, 1) := by decide +kernel
theorem dX10_cut_2 : decode cX10_cut 2 = .ok (.invokevirtual 117, 3) := by decide +kernel
theorem dX10_cut_5 : decode cX10_cut 5 = .ok (.ifCond .ne 10, 3) := by decide +kernel
theorem dX10_cut_8 : decode cX10_cut 8 = .ok (.aload_n 0, 1) := by decide +kernel
theorem dX10_cut_9 : decode cX10_cut 9 = .ok (.ldc 90, 2) := by decide +kernel
theorem dX10_cut_11 : decode cX10_cut 11 = .ok (.invokevirtual 91, 3) := by decide +kernel
theorem dX10_cut_14 : decode cX10_cut 14 = .ok (.ireturn, 1) := by decide +kernel
theorem dX10_cut_15 : decode cX10_cut 15 = .ok (.aload_n 0, 1) := by decide +kernel
theorem dX10_cut_16 : decode cX10_cut 16 = .ok (.getfield 17, 3) := by decide +kernel
theorem dX10_cut_19 : decode cX10_cut 19 = .ok (.iload_n 1, 1) := by decide +kernel
theorem dX10_cut_20 : decode cX10_cut 20 = .ok (.aaload, 1) := by decide +kernel
theorem dX10_cut_21 : decode cX10_cut 21 = .ok (.astore_n 2, 1) := by decide +kernel
theorem dX10_cut_22 : decode cX10_cut 22 = .ok (.aload_n 2, 1) := by decide +kernel
theorem dX10_cut_23 : decode cX10_cut 23 = .ok (.getfield 128, 3) := by decide +kernel
theorem dX10_cut_26 : decode cX10_cut 26 = .ok (.ifCond .gt 10, 3) := by decide +kernel
theorem dX10_cut_29 : decode cX10_cut 29 = .ok (.aload_n 0, 1) := by decide +kernel
theorem dX10_cut_30 : decode cX10_cut 30 = .ok (.ldc 135, 2) := by decide +kernel
theorem dX10_cut_32 : decode cX10_cut 32 = .ok (.invokevirtual 91, 3) := by decide +kernel
theorem dX10_cut_35 : decode cX10_cut 35 = .ok (.ireturn, 1) := by decide +kernel
theorem dX10_cut_36 : decode cX10_cut 36 = .ok (.aload_n 2, 1) := by decide +kernel
theorem dX10_cut_37 : decode cX10_cut 37 = .ok (.dup, 1) := by decide +kernel
theorem dX10_cut_38 : decode cX10_cut 38 = .ok (.getfield 128, 3) := by decide +kernel
theorem dX10_cut_41 : decode cX10_cut 41 = .ok (.iconst 1, 1) := by decide +kernel
theorem dX10_cut_42 : decode cX10_cut 42 = .ok (.isub, 1) := by decide +kernel
theorem dX10_cut_43 : decode cX10_cut 43 = .ok (.putfield 128, 3) := by decide +kernel
theorem dX10_cut_46 : decode cX10_cut 46 = .ok (.aload_n 0, 1) := by decide +kernel
theorem dX10_cut_47 : decode cX10_cut 47 = .ok (.iconst 4, 1) := by decide +kernel
theorem dX10_cut_48 : decode cX10_cut 48 = .ok (.iload_n 1, 1) := by decide +kernel
theorem dX10_cut_49 : decode cX10_cut 49 = .ok (.iconst 0, 1) := by decide +kernel
theorem dX10_cut_50 : decode cX10_cut 50 = .ok (.invokevirtual 100, 3) := by decide +kernel
theorem dX10_cut_53 : decode cX10_cut 53 = .ok (.aload_n 2, 1) := by decide +kernel
theorem dX10_cut_54 : decode cX10_cut 54 = .ok (.invokevirtual 136, 3) := by decide +kernel
theorem dX10_cut_57 : decode cX10_cut 57 = .ok (.aload_n 2, 1) := by decide +kernel
theorem dX10_cut_58 : decode cX10_cut 58 = .ok (.getfield 128, 3) := by decide +kernel
theorem dX10_cut_61 : decode cX10_cut 61 = .ok (.ireturn, 1) := by decide +kernel
theorem dX10_of_0 : decode cX10_of 0 = .ok (.aload_n 0, 1) := by decide +kernel
theorem dX10_of_1 : decode cX10_of 1 = .ok (.iload_n 1, 1) := by decide +kernel
theorem dX10_of_2 : decode cX10_of 2 = .ok (.invokevirtual 117, 3) := by decide +kernel
theorem dX10_of_5 : decode cX10_of 5 = .ok (.ifCond .ne 10, 3) := by decide +kernel
theorem dX10_of_8 : decode cX10_of 8 = .ok (.aload_n 0, 1) := by decide +kernel
theorem dX10_of_9 : decode cX10_of 9 = .ok (.ldc 90, 2) := by decide +kernel
theorem dX10_of_11 : decode cX10_of 11 = .ok (.invokevirtual 91, 3) := by decide +kernel
theorem dX10_of_14 : decode cX10_of 14 = .ok (.ireturn, 1) := by decide +kernel
theorem dX10_of_15 : decode cX10_of 15 = .ok (.aload_n 0, 1) := by decide +kernel
theorem dX10_of_16 : decode cX10_of 16 = .ok (.getfield 17, 3) := by decide +kernel
theorem dX10_of_19 : decode cX10_of 19 = .ok (.iload_n 1, 1) := by decide +kernel
theorem dX10_of_20 : decode cX10_of 20 = .ok (.aaload, 1) := by decide +kernel
theorem dX10_of_21 : decode cX10_of 21 = .ok (.astore_n 3, 1) := by decide +kernel
theorem dX10_of_22 : decode cX10_of 22 = .ok (.iload_n 2, 1) := by decide +kernel
theorem dX10_of_23 : decode cX10_of 23 = .ok (.tableswitch 49 0 3 #[29, 34, 39, 44], 29) := by decide +kernel
theorem dX10_of_52 : decode cX10_of 52 = .ok (.aload_n 3, 1) := by decide +kernel
theorem dX10_of_53 : decode cX10_of 53 = .ok (.getfield 142, 3) := by decide +kernel
theorem dX10_of_56 : decode cX10_of 56 = .ok (.ireturn, 1) := by decide +kernel
theorem dX10_of_57 : decode cX10_of 57 = .ok (.aload_n 3, 1) := by decide +kernel
theorem dX10_of_58 : decode cX10_of 58 = .ok (.getfield 145, 3) := by decide +kernel
theorem dX10_of_61 : decode cX10_of 61 = .ok (.ireturn, 1) := by decide +kernel
theorem dX10_of_62 : decode cX10_of 62 = .ok (.aload_n 3, 1) := by decide +kernel
theorem dX10_of_63 : decode cX10_of 63 = .ok (.getfield 148, 3) := by decide +kernel
theorem dX10_of_66 : decode cX10_of 66 = .ok (.ireturn, 1) := by decide +kernel
theorem dX10_of_67 : decode cX10_of 67 = .ok (.aload_n 3, 1) := by decide +kernel
theorem dX10_of_68 : decode cX10_of 68 = .ok (.getfield 128, 3) := by decide +kernel
theorem dX10_of_71 : decode cX10_of 71 = .ok (.ireturn, 1) := by decide +kernel
theorem dX10_of_72 : decode cX10_of 72 = .ok (.aload_n 0, 1) := by decide +kernel
theorem dX10_of_73 : decode cX10_of 73 = .ok (.ldc 90, 2) := by decide +kernel
theorem dX10_of_75 : decode cX10_of 75 = .ok (.invokevirtual 91, 3) := by decide +kernel
theorem dX10_of_78 : decode cX10_of 78 = .ok (.ireturn, 1) := by decide +kernel
theorem dX10_told_0 : decode cX10_told 0 = .ok (.aload_n 0, 1) := by decide +kernel
theorem dX10_told_1 : decode cX10_told 1 = .ok (.iload_n 1, 1) := by decide +kernel
theorem dX10_told_2 : decode cX10_told 2 = .ok (.invokevirtual 104, 3) := by decide +kernel
theorem dX10_told_5 : decode cX10_told 5 = .ok (.ifCond .ne 10, 3) := by decide +kernel
theorem dX10_told_8 : decode cX10_told 8 = .ok (.aload_n 0, 1) := by decide +kernel
theorem dX10_told_9 : decode cX10_told 9 = .ok (.ldc 90, 2) := by decide +kernel
theorem dX10_told_11 : decode cX10_told 11 = .ok (.invokevirtual 91, 3) := by decide +kernel
theorem dX10_told_14 : decode cX10_told 14 = .ok (.ireturn, 1) := by decide +kernel
theorem dX10_told_15 : decode cX10_told 15 = .ok (.iload_n 2, 1) := by decide +kernel
theorem dX10_told_16 : decode cX10_told 16 = .ok (.tableswitch 54 0 2 #[28, 38, 48], 28) := by decide +kernel
theorem dX10_told_44 : decode cX10_told 44 = .ok (.aload_n 0, 1) := by decide +kernel
theorem dX10_told_45 : decode cX10_told 45 = .ok (.getfield 11, 3) := by decide +kernel
theorem dX10_told_48 : decode cX10_told 48 = .ok (.iload_n 1, 1) := by decide +kernel
theorem dX10_told_49 : decode cX10_told 49 = .ok (.aaload, 1) := by decide +kernel
theorem dX10_told_50 : decode cX10_told 50 = .ok (.getfield 151, 3) := by decide +kernel
theorem dX10_told_53 : decode cX10_told 53 = .ok (.ireturn, 1) := by decide +kernel
theorem dX10_told_54 : decode cX10_told 54 = .ok (.aload_n 0, 1) := by decide +kernel
theorem dX10_told_55 : decode cX10_told 55 = .ok (.getfield 11, 3) := by decide +kernel
theorem dX10_told_58 : decode cX10_told 58 = .ok (.iload_n 1, 1) := by decide +kernel
theorem dX10_told_59 : decode cX10_told 59 = .ok (.aaload, 1) := by decide +kernel
theorem dX10_told_60 : decode cX10_told 60 = .ok (.getfield 108, 3) := by decide +kernel
theorem dX10_told_63 : decode cX10_told 63 = .ok (.ireturn, 1) := by decide +kernel
theorem dX10_told_64 : decode cX10_told 64 = .ok (.aload_n 0, 1) := by decide +kernel
theorem dX10_told_65 : decode cX10_told 65 = .ok (.iload_n 1, 1) := by decide +kernel
theorem dX10_told_66 : decode cX10_told 66 = .ok (.invokevirtual 154, 3) := by decide +kernel
theorem dX10_told_69 : decode cX10_told 69 = .ok (.ireturn, 1) := by decide +kernel
theorem dX10_told_70 : decode cX10_told 70 = .ok (.aload_n 0, 1) := by decide +kernel
theorem dX10_told_71 : decode cX10_told 71 = .ok (.ldc 90, 2) := by decide +kernel
theorem dX10_told_73 : decode cX10_told 73 = .ok (.invokevirtual 91, 3) := by decide +kernel
theorem dX10_told_76 : decode cX10_told 76 = .ok (.ireturn, 1) := by decide +kernel
theorem dX10_shape_0 : decode cX10_shape 0 = .ok (.aload_n 0, 1) := by decide +kernel
theorem dX10_shape_1 : decode cX10_shape 1 = .ok (.iload_n 1, 1) := by decide +kernel
theorem dX10_shape_2 : decode cX10_shape 2 = .ok (.invokevirtual 104, 3) := by decide +kernel
theorem dX10_shape_5 : decode cX10_shape 5 = .ok (.ifCond .eq 19, 3) := by decide +kernel
theorem dX10_shape_8 : decode cX10_shape 8 = .ok (.iload_n 2, 1) := by decide +kernel
theorem dX10_shape_9 : decode cX10_shape 9 = .ok (.aload_n 0, 1) := by decide +kernel
theorem dX10_shape_10 : decode cX10_shape 10 = .ok (.getfield 11, 3) := by decide +kernel
theorem dX10_shape_13 : decode cX10_shape 13 = .ok (.iload_n 1, 1) := by decide +kernel
theorem dX10_shape_14 : decode cX10_shape 14 = .ok (.aaload, 1) := by decide +kernel
theorem dX10_shape_15 : decode cX10_shape 15 = .ok (.getfield 108, 3) := by decide +kernel
theorem dX10_shape_18 : decode cX10_shape 18 = .ok (.invokestatic 86, 3) := by decide +kernel
theorem dX10_shape_21 : decode cX10_shape 21 = .ok (.ifCond .ne 10, 3) := by decide +kernel
theorem dX10_shape_24 : decode cX10_shape 24 = .ok (.aload_n 0, 1) := by decide +kernel
theorem dX10_shape_25 : decode cX10_shape 25 = .ok (.ldc 90, 2) := by decide +kernel
theorem dX10_shape_27 : decode cX10_shape 27 = .ok (.invokevirtual 91, 3) := by decide +kernel
theorem dX10_shape_30 : decode cX10_shape 30 = .ok (.ireturn, 1) := by decide +kernel
theorem dX10_shape_31 : decode cX10_shape 31 = .ok (.aload_n 0, 1) := by decide +kernel
theorem dX10_shape_32 : decode cX10_shape 32 = .ok (.getfield 11, 3) := by decide +kernel
theorem dX10_shape_35 : decode cX10_shape 35 = .ok (.iload_n 1, 1) := by decide +kernel
theorem dX10_shape_36 : decode cX10_shape 36 = .ok (.aaload, 1) := by decide +kernel
theorem dX10_shape_37 : decode cX10_shape 37 = .ok (.getfield 111, 3) := by decide +kernel
theorem dX10_shape_40 : decode cX10_shape 40 = .ok (.iload_n 2, 1) := by decide +kernel
theorem dX10_shape_41 : decode cX10_shape 41 = .ok (.iaload, 1) := by decide +kernel
theorem dX10_shape_42 : decode cX10_shape 42 = .ok (.ireturn, 1) := by decide +kernel
theorem dX10_cost_0 : decode cX10_cost 0 = .ok (.aload_n 0, 1) := by decide +kernel
theorem dX10_cost_1 : decode cX10_cost 1 = .ok (.iload_n 1, 1) := by decide +kernel
theorem dX10_cost_2 : decode cX10_cost 2 = .ok (.invokevirtual 117, 3) := by decide +kernel
theorem dX10_cost_5 : decode cX10_cost 5 = .ok (.ifCond .ne 10, 3) := by decide +kernel
theorem dX10_cost_8 : decode cX10_cost 8 = .ok (.aload_n 0, 1) := by decide +kernel
theorem dX10_cost_9 : decode cX10_cost 9 = .ok (.ldc 90, 2) := by decide +kernel
theorem dX10_cost_11 : decode cX10_cost 11 = .ok (.invokevirtual 91, 3) := by decide +kernel
theorem dX10_cost_14 : decode cX10_cost 14 = .ok (.ireturn, 1) := by decide +kernel
theorem dX10_cost_15 : decode cX10_cost 15 = .ok (.aload_n 0, 1) := by decide +kernel
theorem dX10_cost_16 : decode cX10_cost 16 = .ok (.iload_n 1, 1) := by decide +kernel
theorem dX10_cost_17 : decode cX10_cost 17 = .ok (.invokevirtual 157, 3) := by decide +kernel
theorem dX10_cost_20 : decode cX10_cost 20 = .ok (.ifCond .ne 10, 3) := by decide +kernel
theorem dX10_cost_23 : decode cX10_cost 23 = .ok (.aload_n 0, 1) := by decide +kernel
theorem dX10_cost_24 : decode cX10_cost 24 = .ok (.ldc 135, 2) := by decide +kernel
theorem dX10_cost_26 : decode cX10_cost 26 = .ok (.invokevirtual 91, 3) := by decide +kernel
theorem dX10_cost_29 : decode cX10_cost 29 = .ok (.ireturn, 1) := by decide +kernel
theorem dX10_cost_30 : decode cX10_cost 30 = .ok (.aload_n 0, 1) := by decide +kernel
theorem dX10_cost_31 : decode cX10_cost 31 = .ok (.getfield 51, 3) := by decide +kernel
theorem dX10_cost_34 : decode cX10_cost 34 = .ok (.getfield 160, 3) := by decide +kernel
theorem dX10_cost_37 : decode cX10_cost 37 = .ok (.ireturn, 1) := by decide +kernel
theorem dX10_place_0 : decode cX10_place 0 = .ok (.aload_n 0, 1) := by decide +kernel
theorem dX10_place_1 : decode cX10_place 1 = .ok (.iload_n 1, 1) := by decide +kernel
theorem dX10_place_2 : decode cX10_place 2 = .ok (.invokevirtual 117, 3) := by decide +kernel
theorem dX10_place_5 : decode cX10_place 5 = .ok (.ifCond .eq 19, 3) := by decide +kernel
theorem dX10_place_8 : decode cX10_place 8 = .ok (.iload_n 2, 1) := by decide +kernel
theorem dX10_place_9 : decode cX10_place 9 = .ok (.aload_n 0, 1) := by decide +kernel
theorem dX10_place_10 : decode cX10_place 10 = .ok (.getfield 17, 3) := by decide +kernel
theorem dX10_place_13 : decode cX10_place 13 = .ok (.iload_n 1, 1) := by decide +kernel
theorem dX10_place_14 : decode cX10_place 14 = .ok (.aaload, 1) := by decide +kernel
theorem dX10_place_15 : decode cX10_place 15 = .ok (.getfield 128, 3) := by decide +kernel
theorem dX10_place_18 : decode cX10_place 18 = .ok (.invokestatic 86, 3) := by decide +kernel
theorem dX10_place_21 : decode cX10_place 21 = .ok (.ifCond .ne 10, 3) := by decide +kernel
theorem dX10_place_24 : decode cX10_place 24 = .ok (.aload_n 0, 1) := by decide +kernel
theorem dX10_place_25 : decode cX10_place 25 = .ok (.ldc 90, 2) := by decide +kernel
theorem dX10_place_27 : decode cX10_place 27 = .ok (.invokevirtual 91, 3) := by decide +kernel
theorem dX10_place_30 : decode cX10_place 30 = .ok (.ireturn, 1) := by decide +kernel
theorem dX10_place_31 : decode cX10_place 31 = .ok (.aload_n 0, 1) := by decide +kernel
theorem dX10_place_32 : decode cX10_place 32 = .ok (.iload_n 1, 1) := by decide +kernel
theorem dX10_place_33 : decode cX10_place 33 = .ok (.invokevirtual 157, 3) := by decide +kernel
theorem dX10_place_36 : decode cX10_place 36 = .ok (.ifCond .ne 10, 3) := by decide +kernel
theorem dX10_place_39 : decode cX10_place 39 = .ok (.aload_n 0, 1) := by decide +kernel
theorem dX10_place_40 : decode cX10_place 40 = .ok (.ldc 135, 2) := by decide +kernel
theorem dX10_place_42 : decode cX10_place 42 = .ok (.invokevirtual 91, 3) := by decide +kernel
theorem dX10_place_45 : decode cX10_place 45 = .ok (.ireturn, 1) := by decide +kernel
theorem dX10_place_46 : decode cX10_place 46 = .ok (.iload_n 3, 1) := by decide +kernel
theorem dX10_place_47 : decode cX10_place 47 = .ok (.ifCond .eq 15, 3) := by decide +kernel
theorem dX10_place_50 : decode cX10_place 50 = .ok (.aload_n 0, 1) := by decide +kernel
theorem dX10_place_51 : decode cX10_place 51 = .ok (.getfield 51, 3) := by decide +kernel
theorem dX10_place_54 : decode cX10_place 54 = .ok (.getfield 163, 3) := by decide +kernel
theorem dX10_place_57 : decode cX10_place 57 = .ok (.iload_n 2, 1) := by decide +kernel
theorem dX10_place_58 : decode cX10_place 58 = .ok (.iaload, 1) := by decide +kernel
theorem dX10_place_59 : decode cX10_place 59 = .ok (.goto 12, 3) := by decide +kernel
theorem dX10_place_62 : decode cX10_place 62 = .ok (.aload_n 0, 1) := by decide +kernel
theorem dX10_place_63 : decode cX10_place 63 = .ok (.getfield 51, 3) := by decide +kernel
theorem dX10_place_66 : decode cX10_place 66 = .ok (.getfield 166, 3) := by decide +kernel
theorem dX10_place_69 : decode cX10_place 69 = .ok (.iload_n 2, 1) := by decide +kernel
theorem dX10_place_70 : decode cX10_place 70 = .ok (.iaload, 1) := by decide +kernel
theorem dX10_place_71 : decode cX10_place 71 = .ok (.ireturn, 1) := by decide +kernel
theorem dX10_on_0 : decode cX10_on 0 = .ok (.aload_n 0, 1) := by decide +kernel
theorem dX10_on_1 : decode cX10_on 1 = .ok (.iload_n 1, 1) := by decide +kernel
theorem dX10_on_2 : decode cX10_on 2 = .ok (.invokevirtual 117, 3) := by decide +kernel
theorem dX10_on_5 : decode cX10_on 5 = .ok (.ifCond .eq 27, 3) := by decide +kernel
theorem dX10_on_8 : decode cX10_on 8 = .ok (.iload_n 2, 1) := by decide +kernel
theorem dX10_on_9 : decode cX10_on 9 = .ok (.aload_n 0, 1) := by decide +kernel
theorem dX10_on_10 : decode cX10_on 10 = .ok (.getfield 11, 3) := by decide +kernel
theorem dX10_on_13 : decode cX10_on 13 = .ok (.aload_n 0, 1) := by decide +kernel
theorem dX10_on_14 : decode cX10_on 14 = .ok (.getfield 17, 3) := by decide +kernel
theorem dX10_on_17 : decode cX10_on 17 = .ok (.iload_n 1, 1) := by decide +kernel
theorem dX10_on_18 : decode cX10_on 18 = .ok (.aaload, 1) := by decide +kernel
theorem dX10_on_19 : decode cX10_on 19 = .ok (.getfield 142, 3) := by decide +kernel
theorem dX10_on_22 : decode cX10_on 22 = .ok (.aaload, 1) := by decide +kernel
theorem dX10_on_23 : decode cX10_on 23 = .ok (.getfield 108, 3) := by decide +kernel
theorem dX10_on_26 : decode cX10_on 26 = .ok (.invokestatic 86, 3) := by decide +kernel
theorem dX10_on_29 : decode cX10_on 29 = .ok (.ifCond .ne 10, 3) := by decide +kernel
theorem dX10_on_32 : decode cX10_on 32 = .ok (.aload_n 0, 1) := by decide +kernel
theorem dX10_on_33 : decode cX10_on 33 = .ok (.ldc 90, 2) := by decide +kernel
theorem dX10_on_35 : decode cX10_on 35 = .ok (.invokevirtual 91, 3) := by decide +kernel
theorem dX10_on_38 : decode cX10_on 38 = .ok (.ireturn, 1) := by decide +kernel
theorem dX10_on_39 : decode cX10_on 39 = .ok (.aload_n 0, 1) := by decide +kernel
theorem dX10_on_40 : decode cX10_on 40 = .ok (.iload_n 1, 1) := by decide +kernel
theorem dX10_on_41 : decode cX10_on 41 = .ok (.invokevirtual 157, 3) := by decide +kernel
theorem dX10_on_44 : decode cX10_on 44 = .ok (.ifCond .ne 10, 3) := by decide +kernel
theorem dX10_on_47 : decode cX10_on 47 = .ok (.aload_n 0, 1) := by decide +kernel
theorem dX10_on_48 : decode cX10_on 48 = .ok (.ldc 135, 2) := by decide +kernel
theorem dX10_on_50 : decode cX10_on 50 = .ok (.invokevirtual 91, 3) := by decide +kernel
theorem dX10_on_53 : decode cX10_on 53 = .ok (.ireturn, 1) := by decide +kernel
theorem dX10_on_54 : decode cX10_on 54 = .ok (.aload_n 0, 1) := by decide +kernel
theorem dX10_on_55 : decode cX10_on 55 = .ok (.getfield 51, 3) := by decide +kernel
theorem dX10_on_58 : decode cX10_on 58 = .ok (.iload_n 2, 1) := by decide +kernel
theorem dX10_on_59 : decode cX10_on 59 = .ok (.invokevirtual 169, 3) := by decide +kernel
theorem dX10_on_62 : decode cX10_on 62 = .ok (.ireturn, 1) := by decide +kernel
theorem dX10_name_0 : decode cX10_name 0 = .ok (.iload_n 1, 1) := by decide +kernel
theorem dX10_name_1 : decode cX10_name 1 = .ok (.bipush 32, 2) := by decide +kernel
theorem dX10_name_3 : decode cX10_name 3 = .ok (.invokestatic 86, 3) := by decide +kernel
theorem dX10_name_6 : decode cX10_name 6 = .ok (.ifCond .eq 12, 3) := by decide +kernel
theorem dX10_name_9 : decode cX10_name 9 = .ok (.iload_n 2, 1) := by decide +kernel
theorem dX10_name_10 : decode cX10_name 10 = .ok (.bipush 8, 2) := by decide +kernel
theorem dX10_name_12 : decode cX10_name 12 = .ok (.invokestatic 172, 3) := by decide +kernel
theorem dX10_name_15 : decode cX10_name 15 = .ok (.ifCond .ne 10, 3) := by decide +kernel
theorem dX10_name_18 : decode cX10_name 18 = .ok (.aload_n 0, 1) := by decide +kernel
theorem dX10_name_19 : decode cX10_name 19 = .ok (.ldc 90, 2) := by decide +kernel
theorem dX10_name_21 : decode cX10_name 21 = .ok (.invokevirtual 91, 3) := by decide +kernel
theorem dX10_name_24 : decode cX10_name 24 = .ok (.ireturn, 1) := by decide +kernel
theorem dX10_name_25 : decode cX10_name 25 = .ok (.aload_n 0, 1) := by decide +kernel
theorem dX10_name_26 : decode cX10_name 26 = .ok (.getfield 30, 3) := by decide +kernel
theorem dX10_name_29 : decode cX10_name 29 = .ok (.getfield 175, 3) := by decide +kernel
theorem dX10_name_32 : decode cX10_name 32 = .ok (.iload_n 1, 1) := by decide +kernel
theorem dX10_name_33 : decode cX10_name 33 = .ok (.iaload, 1) := by decide +kernel
theorem dX10_name_34 : decode cX10_name 34 = .ok (.istore_n 3, 1) := by decide +kernel
theorem dX10_name_35 : decode cX10_name 35 = .ok (.aload_n 0, 1) := by decide +kernel
theorem dX10_name_36 : decode cX10_name 36 = .ok (.getfield 30, 3) := by decide +kernel
theorem dX10_name_39 : decode cX10_name 39 = .ok (.getfield 175, 3) := by decide +kernel
theorem dX10_name_42 : decode cX10_name 42 = .ok (.iload_n 1, 1) := by decide +kernel
theorem dX10_name_43 : decode cX10_name 43 = .ok (.iload_n 2, 1) := by decide +kernel
theorem dX10_name_44 : decode cX10_name 44 = .ok (.iastore, 1) := by decide +kernel
theorem dX10_name_45 : decode cX10_name 45 = .ok (.aload_n 0, 1) := by decide +kernel
theorem dX10_name_46 : decode cX10_name 46 = .ok (.iconst 5, 1) := by decide +kernel
theorem dX10_name_47 : decode cX10_name 47 = .ok (.iload_n 1, 1) := by decide +kernel
theorem dX10_name_48 : decode cX10_name 48 = .ok (.iload_n 3, 1) := by decide +kernel
theorem dX10_name_49 : decode cX10_name 49 = .ok (.invokevirtual 100, 3) := by decide +kernel
theorem dX10_name_52 : decode cX10_name 52 = .ok (.pop, 1) := by decide +kernel
theorem dX10_name_53 : decode cX10_name 53 = .ok (.iload_n 3, 1) := by decide +kernel
theorem dX10_name_54 : decode cX10_name 54 = .ok (.ireturn, 1) := by decide +kernel
theorem dX10_text_0 : decode cX10_text 0 = .ok (.iload_n 1, 1) := by decide +kernel
theorem dX10_text_1 : decode cX10_text 1 = .ok (.iconst 3, 1) := by decide +kernel
theorem dX10_text_2 : decode cX10_text 2 = .ok (.invokestatic 86, 3) := by decide +kernel
theorem dX10_text_5 : decode cX10_text 5 = .ok (.ifCond .eq 31, 3) := by decide +kernel
theorem dX10_text_8 : decode cX10_text 8 = .ok (.iload_n 2, 1) := by decide +kernel
theorem dX10_text_9 : decode cX10_text 9 = .ok (.iconst 3, 1) := by decide +kernel
theorem dX10_text_10 : decode cX10_text 10 = .ok (.invokestatic 86, 3) := by decide +kernel
theorem dX10_text_13 : decode cX10_text 13 = .ok (.ifCond .eq 23, 3) := by decide +kernel
theorem dX10_text_16 : decode cX10_text 16 = .ok (.iload_n 3, 1) := by decide +kernel
theorem dX10_text_17 : decode cX10_text 17 = .ok (.bipush 32, 2) := by decide +kernel
theorem dX10_text_19 : decode cX10_text 19 = .ok (.invokestatic 86, 3) := by decide +kernel
theorem dX10_text_22 : decode cX10_text 22 = .ok (.ifCond .eq 14, 3) := by decide +kernel
theorem dX10_text_25 : decode cX10_text 25 = .ok (.iload 4, 2) := by decide +kernel
theorem dX10_text_27 : decode cX10_text 27 = .ok (.sipush 1000, 3) := by decide +kernel
theorem dX10_text_30 : decode cX10_text 30 = .ok (.invokestatic 86, 3) := by decide +kernel
theorem dX10_text_33 : decode cX10_text 33 = .ok (.ifCond .ne 10, 3) := by decide +kernel
theorem dX10_text_36 : decode cX10_text 36 = .ok (.aload_n 0, 1) := by decide +kernel
theorem dX10_text_37 : decode cX10_text 37 = .ok (.ldc 90, 2) := by decide +kernel
theorem dX10_text_39 : decode cX10_text 39 = .ok (.invokevirtual 91, 3) := by decide +kernel
theorem dX10_text_42 : decode cX10_text 42 = .ok (.ireturn, 1) := by decide +kernel
theorem dX10_text_43 : decode cX10_text 43 = .ok (.aload_n 0, 1) := by decide +kernel
theorem dX10_text_44 : decode cX10_text 44 = .ok (.getfield 30, 3) := by decide +kernel
theorem dX10_text_47 : decode cX10_text 47 = .ok (.getfield 178, 3) := by decide +kernel
theorem dX10_text_50 : decode cX10_text 50 = .ok (.bipush 40, 2) := by decide +kernel
theorem dX10_text_52 : decode cX10_text 52 = .ok (.if_icmp .lt 10, 3) := by decide +kernel
theorem dX10_text_55 : decode cX10_text 55 = .ok (.aload_n 0, 1) := by decide +kernel
theorem dX10_text_56 : decode cX10_text 56 = .ok (.ldc 95, 2) := by decide +kernel
theorem dX10_text_58 : decode cX10_text 58 = .ok (.invokevirtual 91, 3) := by decide +kernel
theorem dX10_text_61 : decode cX10_text 61 = .ok (.ireturn, 1) := by decide +kernel
theorem dX10_text_62 : decode cX10_text 62 = .ok (.aload_n 0, 1) := by decide +kernel
theorem dX10_text_63 : decode cX10_text 63 = .ok (.getfield 30, 3) := by decide +kernel
theorem dX10_text_66 : decode cX10_text 66 = .ok (.iload_n 1, 1) := by decide +kernel
theorem dX10_text_67 : decode cX10_text 67 = .ok (.iload_n 2, 1) := by decide +kernel
theorem dX10_text_68 : decode cX10_text 68 = .ok (.iload_n 3, 1) := by decide +kernel
theorem dX10_text_69 : decode cX10_text 69 = .ok (.iload 4, 2) := by decide +kernel
theorem dX10_text_71 : decode cX10_text 71 = .ok (.invokevirtual 181, 3) := by decide +kernel
theorem dX10_text_74 : decode cX10_text 74 = .ok (.aload_n 0, 1) := by decide +kernel
theorem dX10_text_75 : decode cX10_text 75 = .ok (.bipush 6, 2) := by decide +kernel
theorem dX10_text_77 : decode cX10_text 77 = .ok (.iconst 0, 1) := by decide +kernel
theorem dX10_text_78 : decode cX10_text 78 = .ok (.iconst 0, 1) := by decide +kernel
theorem dX10_text_79 : decode cX10_text 79 = .ok (.invokevirtual 100, 3) := by decide +kernel
theorem dX10_text_82 : decode cX10_text 82 = .ok (.pop, 1) := by decide +kernel
theorem dX10_text_83 : decode cX10_text 83 = .ok (.aload_n 0, 1) := by decide +kernel
theorem dX10_text_84 : decode cX10_text 84 = .ok (.getfield 30, 3) := by decide +kernel
theorem dX10_text_87 : decode cX10_text 87 = .ok (.getfield 178, 3) := by decide +kernel
theorem dX10_text_90 : decode cX10_text 90 = .ok (.ireturn, 1) := by decide +kernel
theorem dX10_barred_0 : decode cX10_barred 0 = .ok (.iload_n 1, 1) := by decide +kernel
theorem dX10_barred_1 : decode cX10_barred 1 = .ok (.iconst 3, 1) := by decide +kernel
theorem dX10_barred_2 : decode cX10_barred 2 = .ok (.invokestatic 86, 3) := by decide +kernel
theorem dX10_barred_5 : decode cX10_barred 5 = .ok (.ifCond .eq 22, 3) := by decide +kernel
theorem dX10_barred_8 : decode cX10_barred 8 = .ok (.iload_n 2, 1) := by decide +kernel
theorem dX10_barred_9 : decode cX10_barred 9 = .ok (.bipush 32, 2) := by decide +kernel
theorem dX10_barred_11 : decode cX10_barred 11 = .ok (.invokestatic 86, 3) := by decide +kernel
theorem dX10_barred_14 : decode cX10_barred 14 = .ok (.ifCond .eq 13, 3) := by decide +kernel
theorem dX10_barred_17 : decode cX10_barred 17 = .ok (.iload_n 3, 1) := by decide +kernel
theorem dX10_barred_18 : decode cX10_barred 18 = .ok (.sipush 1000, 3) := by decide +kernel
theorem dX10_barred_21 : decode cX10_barred 21 = .ok (.invokestatic 86, 3) := by decide +kernel
theorem dX10_barred_24 : decode cX10_barred 24 = .ok (.ifCond .ne 10, 3) := by decide +kernel
theorem dX10_barred_27 : decode cX10_barred 27 = .ok (.aload_n 0, 1) := by decide +kernel
theorem dX10_barred_28 : decode cX10_barred 28 = .ok (.ldc 90, 2) := by decide +kernel
theorem dX10_barred_30 : decode cX10_barred 30 = .ok (.invokevirtual 91, 3) := by decide +kernel
theorem dX10_barred_33 : decode cX10_barred 33 = .ok (.ireturn, 1) := by decide +kernel
theorem dX10_barred_34 : decode cX10_barred 34 = .ok (.aload_n 0, 1) := by decide +kernel
theorem dX10_barred_35 : decode cX10_barred 35 = .ok (.getfield 30, 3) := by decide +kernel
theorem dX10_barred_38 : decode cX10_barred 38 = .ok (.iload_n 1, 1) := by decide +kernel
theorem dX10_barred_39 : decode cX10_barred 39 = .ok (.iload_n 2, 1) := by decide +kernel
theorem dX10_barred_40 : decode cX10_barred 40 = .ok (.iload_n 3, 1) := by decide +kernel
theorem dX10_barred_41 : decode cX10_barred 41 = .ok (.invokevirtual 182, 3) := by decide +kernel
theorem dX10_barred_44 : decode cX10_barred 44 = .ok (.ifCond .eq 7, 3) := by decide +kernel
theorem dX10_barred_47 : decode cX10_barred 47 = .ok (.iconst 1, 1) := by decide +kernel
theorem dX10_barred_48 : decode cX10_barred 48 = .ok (.goto 4, 3) := by decide +kernel
theorem dX10_barred_51 : decode cX10_barred 51 = .ok (.iconst 0, 1) := by decide +kernel
theorem dX10_barred_52 : decode cX10_barred 52 = .ok (.ireturn, 1) := by decide +kernel
theorem dX10_chosen_0 : decode cX10_chosen 0 = .ok (.iload_n 1, 1) := by decide +kernel
theorem dX10_chosen_1 : decode cX10_chosen 1 = .ok (.iconst 3, 1) := by decide +kernel
theorem dX10_chosen_2 : decode cX10_chosen 2 = .ok (.invokestatic 86, 3) := by decide +kernel
theorem dX10_chosen_5 : decode cX10_chosen 5 = .ok (.ifCond .eq 22, 3) := by decide +kernel
theorem dX10_chosen_8 : decode cX10_chosen 8 = .ok (.iload_n 2, 1) := by decide +kernel
theorem dX10_chosen_9 : decode cX10_chosen 9 = .ok (.bipush 8, 2) := by decide +kernel
theorem dX10_chosen_11 : decode cX10_chosen 11 = .ok (.invokestatic 86, 3) := by decide +kernel
theorem dX10_chosen_14 : decode cX10_chosen 14 = .ok (.ifCond .eq 13, 3) := by decide +kernel
theorem dX10_chosen_17 : decode cX10_chosen 17 = .ok (.iload_n 3, 1) := by decide +kernel
theorem dX10_chosen_18 : decode cX10_chosen 18 = .ok (.sipush 1000, 3) := by decide +kernel
theorem dX10_chosen_21 : decode cX10_chosen 21 = .ok (.invokestatic 86, 3) := by decide +kernel
theorem dX10_chosen_24 : decode cX10_chosen 24 = .ok (.ifCond .ne 10, 3) := by decide +kernel
theorem dX10_chosen_27 : decode cX10_chosen 27 = .ok (.aload_n 0, 1) := by decide +kernel
theorem dX10_chosen_28 : decode cX10_chosen 28 = .ok (.ldc 90, 2) := by decide +kernel
theorem dX10_chosen_30 : decode cX10_chosen 30 = .ok (.invokevirtual 91, 3) := by decide +kernel
theorem dX10_chosen_33 : decode cX10_chosen 33 = .ok (.ireturn, 1) := by decide +kernel
theorem dX10_chosen_34 : decode cX10_chosen 34 = .ok (.aload_n 0, 1) := by decide +kernel
theorem dX10_chosen_35 : decode cX10_chosen 35 = .ok (.getfield 30, 3) := by decide +kernel
theorem dX10_chosen_38 : decode cX10_chosen 38 = .ok (.iload_n 1, 1) := by decide +kernel
theorem dX10_chosen_39 : decode cX10_chosen 39 = .ok (.iload_n 2, 1) := by decide +kernel
theorem dX10_chosen_40 : decode cX10_chosen 40 = .ok (.iload_n 3, 1) := by decide +kernel
theorem dX10_chosen_41 : decode cX10_chosen 41 = .ok (.invokevirtual 186, 3) := by decide +kernel
theorem dX10_chosen_44 : decode cX10_chosen 44 = .ok (.istore 4, 2) := by decide +kernel
theorem dX10_chosen_46 : decode cX10_chosen 46 = .ok (.iload 4, 2) := by decide +kernel
theorem dX10_chosen_48 : decode cX10_chosen 48 = .ok (.ifCond .ge 12, 3) := by decide +kernel
theorem dX10_chosen_51 : decode cX10_chosen 51 = .ok (.aload_n 0, 1) := by decide +kernel
theorem dX10_chosen_52 : decode cX10_chosen 52 = .ok (.ldc 135, 2) := by decide +kernel
theorem dX10_chosen_54 : decode cX10_chosen 54 = .ok (.invokevirtual 91, 3) := by decide +kernel
theorem dX10_chosen_57 : decode cX10_chosen 57 = .ok (.goto 5, 3) := by decide +kernel
theorem dX10_chosen_60 : decode cX10_chosen 60 = .ok (.iload 4, 2) := by decide +kernel
theorem dX10_chosen_62 : decode cX10_chosen 62 = .ok (.ireturn, 1) := by decide +kernel
theorem dX10_lawful_0 : decode cX10_lawful 0 = .ok (.aload_n 0, 1) := by decide +kernel
theorem dX10_lawful_1 : decode cX10_lawful 1 = .ok (.iload_n 1, 1) := by decide +kernel
theorem dX10_lawful_2 : decode cX10_lawful 2 = .ok (.invokevirtual 117, 3) := by decide +kernel
theorem dX10_lawful_5 : decode cX10_lawful 5 = .ok (.ifCond .eq 21, 3) := by decide +kernel
theorem dX10_lawful_8 : decode cX10_lawful 8 = .ok (.iload_n 2, 1) := by decide +kernel
theorem dX10_lawful_9 : decode cX10_lawful 9 = .ok (.iconst 3, 1) := by decide +kernel
theorem dX10_lawful_10 : decode cX10_lawful 10 = .ok (.invokestatic 86, 3) := by decide +kernel
theorem dX10_lawful_13 : decode cX10_lawful 13 = .ok (.ifCond .eq 13, 3) := by decide +kernel
theorem dX10_lawful_16 : decode cX10_lawful 16 = .ok (.iload_n 3, 1) := by decide +kernel
theorem dX10_lawful_17 : decode cX10_lawful 17 = .ok (.sipush 1000, 3) := by decide +kernel
theorem dX10_lawful_20 : decode cX10_lawful 20 = .ok (.invokestatic 86, 3) := by decide +kernel
theorem dX10_lawful_23 : decode cX10_lawful 23 = .ok (.ifCond .ne 10, 3) := by decide +kernel
theorem dX10_lawful_26 : decode cX10_lawful 26 = .ok (.aload_n 0, 1) := by decide +kernel
theorem dX10_lawful_27 : decode cX10_lawful 27 = .ok (.ldc 90, 2) := by decide +kernel
theorem dX10_lawful_29 : decode cX10_lawful 29 = .ok (.invokevirtual 91, 3) := by decide +kernel
theorem dX10_lawful_32 : decode cX10_lawful 32 = .ok (.ireturn, 1) := by decide +kernel
theorem dX10_lawful_33 : decode cX10_lawful 33 = .ok (.aload_n 0, 1) := by decide +kernel
theorem dX10_lawful_34 : decode cX10_lawful 34 = .ok (.getfield 30, 3) := by decide +kernel
theorem dX10_lawful_37 : decode cX10_lawful 37 = .ok (.aload_n 0, 1) := by decide +kernel
theorem dX10_lawful_38 : decode cX10_lawful 38 = .ok (.getfield 17, 3) := by decide +kernel
theorem dX10_lawful_41 : decode cX10_lawful 41 = .ok (.iload_n 1, 1) := by decide +kernel
theorem dX10_lawful_42 : decode cX10_lawful 42 = .ok (.aaload, 1) := by decide +kernel
theorem dX10_lawful_43 : decode cX10_lawful 43 = .ok (.iload_n 2, 1) := by decide +kernel
theorem dX10_lawful_44 : decode cX10_lawful 44 = .ok (.iload_n 3, 1) := by decide +kernel
theorem dX10_lawful_45 : decode cX10_lawful 45 = .ok (.invokevirtual 190, 3) := by decide +kernel
theorem dX10_lawful_48 : decode cX10_lawful 48 = .ok (.ifCond .eq 7, 3) := by decide +kernel
theorem dX10_lawful_51 : decode cX10_lawful 51 = .ok (.iconst 1, 1) := by decide +kernel
theorem dX10_lawful_52 : decode cX10_lawful 52 = .ok (.goto 4, 3) := by decide +kernel
theorem dX10_lawful_55 : decode cX10_lawful 55 = .ok (.iconst 0, 1) := by decide +kernel
theorem dX10_lawful_56 : decode cX10_lawful 56 = .ok (.ireturn, 1) := by decide +kernel
theorem dX10_best_0 : decode cX10_best 0 = .ok (.aload_n 0, 1) := by decide +kernel
theorem dX10_best_1 : decode cX10_best 1 = .ok (.iload_n 1, 1) := by decide +kernel
theorem dX10_best_2 : decode cX10_best 2 = .ok (.invokevirtual 104, 3) := by decide +kernel
theorem dX10_best_5 : decode cX10_best 5 = .ok (.ifCond .eq 21, 3) := by decide +kernel
theorem dX10_best_8 : decode cX10_best 8 = .ok (.iload_n 2, 1) := by decide +kernel
theorem dX10_best_9 : decode cX10_best 9 = .ok (.iconst 3, 1) := by decide +kernel
theorem dX10_best_10 : decode cX10_best 10 = .ok (.invokestatic 86, 3) := by decide +kernel
theorem dX10_best_13 : decode cX10_best 13 = .ok (.ifCond .eq 13, 3) := by decide +kernel
theorem dX10_best_16 : decode cX10_best 16 = .ok (.iload_n 3, 1) := by decide +kernel
theorem dX10_best_17 : decode cX10_best 17 = .ok (.sipush 1000, 3) := by decide +kernel
theorem dX10_best_20 : decode cX10_best 20 = .ok (.invokestatic 86, 3) := by decide +kernel
theorem dX10_best_23 : decode cX10_best 23 = .ok (.ifCond .ne 10, 3) := by decide +kernel
theorem dX10_best_26 : decode cX10_best 26 = .ok (.aload_n 0, 1) := by decide +kernel
theorem dX10_best_27 : decode cX10_best 27 = .ok (.ldc 90, 2) := by decide +kernel
theorem dX10_best_29 : decode cX10_best 29 = .ok (.invokevirtual 91, 3) := by decide +kernel
theorem dX10_best_32 : decode cX10_best 32 = .ok (.ireturn, 1) := by decide +kernel
theorem dX10_best_33 : decode cX10_best 33 = .ok (.aload_n 0, 1) := by decide +kernel
theorem dX10_best_34 : decode cX10_best 34 = .ok (.iload_n 1, 1) := by decide +kernel
theorem dX10_best_35 : decode cX10_best 35 = .ok (.iload_n 2, 1) := by decide +kernel
theorem dX10_best_36 : decode cX10_best 36 = .ok (.iload_n 3, 1) := by decide +kernel
theorem dX10_best_37 : decode cX10_best 37 = .ok (.invokevirtual 194, 3) := by decide +kernel
theorem dX10_best_40 : decode cX10_best 40 = .ok (.istore 4, 2) := by decide +kernel
theorem dX10_best_42 : decode cX10_best 42 = .ok (.iload 4, 2) := by decide +kernel
theorem dX10_best_44 : decode cX10_best 44 = .ok (.ifCond .ge 12, 3) := by decide +kernel
theorem dX10_best_47 : decode cX10_best 47 = .ok (.aload_n 0, 1) := by decide +kernel
theorem dX10_best_48 : decode cX10_best 48 = .ok (.ldc 135, 2) := by decide +kernel
theorem dX10_best_50 : decode cX10_best 50 = .ok (.invokevirtual 91, 3) := by decide +kernel
theorem dX10_best_53 : decode cX10_best 53 = .ok (.goto 5, 3) := by decide +kernel
theorem dX10_best_56 : decode cX10_best 56 = .ok (.iload 4, 2) := by decide +kernel
theorem dX10_best_58 : decode cX10_best 58 = .ok (.ireturn, 1) := by decide +kernel
theorem dX10_worth_0 : decode cX10_worth 0 = .ok (.iload_n 1, 1) := by decide +kernel
theorem dX10_worth_1 : decode cX10_worth 1 = .ok (.iconst 3, 1) := by decide +kernel
theorem dX10_worth_2 : decode cX10_worth 2 = .ok (.invokestatic 86, 3) := by decide +kernel
theorem dX10_worth_5 : decode cX10_worth 5 = .ok (.ifCond .eq 13, 3) := by decide +kernel
theorem dX10_worth_8 : decode cX10_worth 8 = .ok (.iload_n 2, 1) := by decide +kernel
theorem dX10_worth_9 : decode cX10_worth 9 = .ok (.sipush 1000, 3) := by decide +kernel
theorem dX10_worth_12 : decode cX10_worth 12 = .ok (.invokestatic 86, 3) := by decide +kernel
theorem dX10_worth_15 : decode cX10_worth 15 = .ok (.ifCond .ne 10, 3) := by decide +kernel
theorem dX10_worth_18 : decode cX10_worth 18 = .ok (.aload_n 0, 1) := by decide +kernel
theorem dX10_worth_19 : decode cX10_worth 19 = .ok (.ldc 90, 2) := by decide +kernel
theorem dX10_worth_21 : decode cX10_worth 21 = .ok (.invokevirtual 91, 3) := by decide +kernel
theorem dX10_worth_24 : decode cX10_worth 24 = .ok (.ireturn, 1) := by decide +kernel
theorem dX10_worth_25 : decode cX10_worth 25 = .ok (.iconst 0, 1) := by decide +kernel
theorem dX10_worth_26 : decode cX10_worth 26 = .ok (.istore_n 3, 1) := by decide +kernel
theorem dX10_worth_27 : decode cX10_worth 27 = .ok (.iconst 0, 1) := by decide +kernel
theorem dX10_worth_28 : decode cX10_worth 28 = .ok (.istore 4, 2) := by decide +kernel
theorem dX10_worth_30 : decode cX10_worth 30 = .ok (.iload 4, 2) := by decide +kernel
theorem dX10_worth_32 : decode cX10_worth 32 = .ok (.aload_n 0, 1) := by decide +kernel
theorem dX10_worth_33 : decode cX10_worth 33 = .ok (.getfield 73, 3) := by decide +kernel
theorem dX10_worth_36 : decode cX10_worth 36 = .ok (.if_icmp .ge 42, 3) := by decide +kernel
theorem dX10_worth_39 : decode cX10_worth 39 = .ok (.aload_n 0, 1) := by decide +kernel
theorem dX10_worth_40 : decode cX10_worth 40 = .ok (.iload 4, 2) := by decide +kernel
theorem dX10_worth_42 : decode cX10_worth 42 = .ok (.iload_n 1, 1) := by decide +kernel
theorem dX10_worth_43 : decode cX10_worth 43 = .ok (.iload_n 2, 1) := by decide +kernel
theorem dX10_worth_44 : decode cX10_worth 44 = .ok (.invokevirtual 194, 3) := by decide +kernel
theorem dX10_worth_47 : decode cX10_worth 47 = .ok (.istore 5, 2) := by decide +kernel
theorem dX10_worth_49 : decode cX10_worth 49 = .ok (.iload 5, 2) := by decide +kernel
theorem dX10_worth_51 : decode cX10_worth 51 = .ok (.ifCond .lt 21, 3) := by decide +kernel
theorem dX10_worth_54 : decode cX10_worth 54 = .ok (.aload_n 0, 1) := by decide +kernel
theorem dX10_worth_55 : decode cX10_worth 55 = .ok (.iload 5, 2) := by decide +kernel
theorem dX10_worth_57 : decode cX10_worth 57 = .ok (.invokevirtual 157, 3) := by decide +kernel
theorem dX10_worth_60 : decode cX10_worth 60 = .ok (.ifCond .eq 12, 3) := by decide +kernel
theorem dX10_worth_63 : decode cX10_worth 63 = .ok (.iload_n 3, 1) := by decide +kernel
theorem dX10_worth_64 : decode cX10_worth 64 = .ok (.aload_n 0, 1) := by decide +kernel
theorem dX10_worth_65 : decode cX10_worth 65 = .ok (.iload 5, 2) := by decide +kernel
theorem dX10_worth_67 : decode cX10_worth 67 = .ok (.invokevirtual 197, 3) := by decide +kernel
theorem dX10_worth_70 : decode cX10_worth 70 = .ok (.iadd, 1) := by decide +kernel
theorem dX10_worth_71 : decode cX10_worth 71 = .ok (.istore_n 3, 1) := by decide +kernel
theorem dX10_worth_72 : decode cX10_worth 72 = .ok (.iinc 4 1, 3) := by decide +kernel
theorem dX10_worth_75 : decode cX10_worth 75 = .ok (.goto (-45), 3) := by decide +kernel
theorem dX10_worth_78 : decode cX10_worth 78 = .ok (.iload_n 3, 1) := by decide +kernel
theorem dX10_worth_79 : decode cX10_worth 79 = .ok (.ireturn, 1) := by decide +kernel
theorem dX10_actor_0 : decode cX10_actor 0 = .ok (.iload_n 1, 1) := by decide +kernel
theorem dX10_actor_1 : decode cX10_actor 1 = .ok (.bipush 6, 2) := by decide +kernel
theorem dX10_actor_3 : decode cX10_actor 3 = .ok (.invokestatic 86, 3) := by decide +kernel
theorem dX10_actor_6 : decode cX10_actor 6 = .ok (.ifCond .eq 12, 3) := by decide +kernel
theorem dX10_actor_9 : decode cX10_actor 9 = .ok (.iload_n 2, 1) := by decide +kernel
theorem dX10_actor_10 : decode cX10_actor 10 = .ok (.bipush 8, 2) := by decide +kernel
theorem dX10_actor_12 : decode cX10_actor 12 = .ok (.invokestatic 172, 3) := by decide +kernel
theorem dX10_actor_15 : decode cX10_actor 15 = .ok (.ifCond .ne 10, 3) := by decide +kernel
theorem dX10_actor_18 : decode cX10_actor 18 = .ok (.aload_n 0, 1) := by decide +kernel
theorem dX10_actor_19 : decode cX10_actor 19 = .ok (.ldc 90, 2) := by decide +kernel
theorem dX10_actor_21 : decode cX10_actor 21 = .ok (.invokevirtual 91, 3) := by decide +kernel
theorem dX10_actor_24 : decode cX10_actor 24 = .ok (.ireturn, 1) := by decide +kernel
theorem dX10_actor_25 : decode cX10_actor 25 = .ok (.aload_n 0, 1) := by decide +kernel
theorem dX10_actor_26 : decode cX10_actor 26 = .ok (.getfield 37, 3) := by decide +kernel
theorem dX10_actor_29 : decode cX10_actor 29 = .ok (.getfield 200, 3) := by decide +kernel
theorem dX10_actor_32 : decode cX10_actor 32 = .ok (.iload_n 1, 1) := by decide +kernel
theorem dX10_actor_33 : decode cX10_actor 33 = .ok (.iaload, 1) := by decide +kernel
theorem dX10_actor_34 : decode cX10_actor 34 = .ok (.istore_n 3, 1) := by decide +kernel
theorem dX10_actor_35 : decode cX10_actor 35 = .ok (.aload_n 0, 1) := by decide +kernel
theorem dX10_actor_36 : decode cX10_actor 36 = .ok (.getfield 37, 3) := by decide +kernel
theorem dX10_actor_39 : decode cX10_actor 39 = .ok (.getfield 200, 3) := by decide +kernel
theorem dX10_actor_42 : decode cX10_actor 42 = .ok (.iload_n 1, 1) := by decide +kernel
theorem dX10_actor_43 : decode cX10_actor 43 = .ok (.iload_n 2, 1) := by decide +kernel
theorem dX10_actor_44 : decode cX10_actor 44 = .ok (.iastore, 1) := by decide +kernel
theorem dX10_actor_45 : decode cX10_actor 45 = .ok (.aload_n 0, 1) := by decide +kernel
theorem dX10_actor_46 : decode cX10_actor 46 = .ok (.bipush 7, 2) := by decide +kernel
theorem dX10_actor_48 : decode cX10_actor 48 = .ok (.iload_n 1, 1) := by decide +kernel
theorem dX10_actor_49 : decode cX10_actor 49 = .ok (.iload_n 3, 1) := by decide +kernel
theorem dX10_actor_50 : decode cX10_actor 50 = .ok (.invokevirtual 100, 3) := by decide +kernel
theorem dX10_actor_53 : decode cX10_actor 53 = .ok (.pop, 1) := by decide +kernel
theorem dX10_actor_54 : decode cX10_actor 54 = .ok (.iload_n 3, 1) := by decide +kernel
theorem dX10_actor_55 : decode cX10_actor 55 = .ok (.ireturn, 1) := by decide +kernel
theorem dX10_free_0 : decode cX10_free 0 = .ok (.iload_n 1, 1) := by decide +kernel
theorem dX10_free_1 : decode cX10_free 1 = .ok (.bipush 8, 2) := by decide +kernel
theorem dX10_free_3 : decode cX10_free 3 = .ok (.invokestatic 86, 3) := by decide +kernel
theorem dX10_free_6 : decode cX10_free 6 = .ok (.ifCond .eq 12, 3) := by decide +kernel
theorem dX10_free_9 : decode cX10_free 9 = .ok (.iload_n 2, 1) := by decide +kernel
theorem dX10_free_10 : decode cX10_free 10 = .ok (.bipush 16, 2) := by decide +kernel
theorem dX10_free_12 : decode cX10_free 12 = .ok (.invokestatic 86, 3) := by decide +kernel
theorem dX10_free_15 : decode cX10_free 15 = .ok (.ifCond .ne 10, 3) := by decide +kernel
theorem dX10_free_18 : decode cX10_free 18 = .ok (.aload_n 0, 1) := by decide +kernel
theorem dX10_free_19 : decode cX10_free 19 = .ok (.ldc 90, 2) := by decide +kernel
theorem dX10_free_21 : decode cX10_free 21 = .ok (.invokevirtual 91, 3) := by decide +kernel
theorem dX10_free_24 : decode cX10_free 24 = .ok (.ireturn, 1) := by decide +kernel
theorem dX10_free_25 : decode cX10_free 25 = .ok (.aload_n 0, 1) := by decide +kernel
theorem dX10_free_26 : decode cX10_free 26 = .ok (.getfield 37, 3) := by decide +kernel
theorem dX10_free_29 : decode cX10_free 29 = .ok (.getfield 203, 3) := by decide +kernel
theorem dX10_free_32 : decode cX10_free 32 = .ok (.iload_n 1, 1) := by decide +kernel
theorem dX10_free_33 : decode cX10_free 33 = .ok (.iaload, 1) := by decide +kernel
theorem dX10_free_34 : decode cX10_free 34 = .ok (.istore_n 3, 1) := by decide +kernel
theorem dX10_free_35 : decode cX10_free 35 = .ok (.aload_n 0, 1) := by decide +kernel
theorem dX10_free_36 : decode cX10_free 36 = .ok (.getfield 37, 3) := by decide +kernel
theorem dX10_free_39 : decode cX10_free 39 = .ok (.getfield 203, 3) := by decide +kernel
theorem dX10_free_42 : decode cX10_free 42 = .ok (.iload_n 1, 1) := by decide +kernel
theorem dX10_free_43 : decode cX10_free 43 = .ok (.iload_n 2, 1) := by decide +kernel
theorem dX10_free_44 : decode cX10_free 44 = .ok (.iastore, 1) := by decide +kernel
theorem dX10_free_45 : decode cX10_free 45 = .ok (.aload_n 0, 1) := by decide +kernel
theorem dX10_free_46 : decode cX10_free 46 = .ok (.bipush 8, 2) := by decide +kernel
theorem dX10_free_48 : decode cX10_free 48 = .ok (.iload_n 1, 1) := by decide +kernel
theorem dX10_free_49 : decode cX10_free 49 = .ok (.iload_n 3, 1) := by decide +kernel
theorem dX10_free_50 : decode cX10_free 50 = .ok (.invokevirtual 100, 3) := by decide +kernel
theorem dX10_free_53 : decode cX10_free 53 = .ok (.pop, 1) := by decide +kernel
theorem dX10_free_54 : decode cX10_free 54 = .ok (.iload_n 3, 1) := by decide +kernel
theorem dX10_free_55 : decode cX10_free 55 = .ok (.ireturn, 1) := by decide +kernel
theorem dX10_room_0 : decode cX10_room 0 = .ok (.iload_n 1, 1) := by decide +kernel
theorem dX10_room_1 : decode cX10_room 1 = .ok (.iconst 4, 1) := by decide +kernel
theorem dX10_room_2 : decode cX10_room 2 = .ok (.invokestatic 86, 3) := by decide +kernel
theorem dX10_room_5 : decode cX10_room 5 = .ok (.ifCond .eq 12, 3) := by decide +kernel
theorem dX10_room_8 : decode cX10_room 8 = .ok (.iload_n 2, 1) := by decide +kernel
theorem dX10_room_9 : decode cX10_room 9 = .ok (.bipush 101, 2) := by decide +kernel
theorem dX10_room_11 : decode cX10_room 11 = .ok (.invokestatic 86, 3) := by decide +kernel
theorem dX10_room_14 : decode cX10_room 14 = .ok (.ifCond .ne 10, 3) := by decide +kernel
theorem dX10_room_17 : decode cX10_room 17 = .ok (.aload_n 0, 1) := by decide +kernel
theorem dX10_room_18 : decode cX10_room 18 = .ok (.ldc 90, 2) := by decide +kernel
theorem dX10_room_20 : decode cX10_room 20 = .ok (.invokevirtual 91, 3) := by decide +kernel
theorem dX10_room_23 : decode cX10_room 23 = .ok (.ireturn, 1) := by decide +kernel
theorem dX10_room_24 : decode cX10_room 24 = .ok (.aload_n 0, 1) := by decide +kernel
theorem dX10_room_25 : decode cX10_room 25 = .ok (.getfield 37, 3) := by decide +kernel
theorem dX10_room_28 : decode cX10_room 28 = .ok (.getfield 206, 3) := by decide +kernel
theorem dX10_room_31 : decode cX10_room 31 = .ok (.iload_n 1, 1) := by decide +kernel
theorem dX10_room_32 : decode cX10_room 32 = .ok (.iaload, 1) := by decide +kernel
theorem dX10_room_33 : decode cX10_room 33 = .ok (.istore_n 3, 1) := by decide +kernel
theorem dX10_room_34 : decode cX10_room 34 = .ok (.aload_n 0, 1) := by decide +kernel
theorem dX10_room_35 : decode cX10_room 35 = .ok (.getfield 37, 3) := by decide +kernel
theorem dX10_room_38 : decode cX10_room 38 = .ok (.getfield 206, 3) := by decide +kernel
theorem dX10_room_41 : decode cX10_room 41 = .ok (.iload_n 1, 1) := by decide +kernel
theorem dX10_room_42 : decode cX10_room 42 = .ok (.iload_n 2, 1) := by decide +kernel
theorem dX10_room_43 : decode cX10_room 43 = .ok (.iastore, 1) := by decide +kernel
theorem dX10_room_44 : decode cX10_room 44 = .ok (.aload_n 0, 1) := by decide +kernel
theorem dX10_room_45 : decode cX10_room 45 = .ok (.bipush 9, 2) := by decide +kernel
theorem dX10_room_47 : decode cX10_room 47 = .ok (.iload_n 1, 1) := by decide +kernel
theorem dX10_room_48 : decode cX10_room 48 = .ok (.iload_n 3, 1) := by decide +kernel
theorem dX10_room_49 : decode cX10_room 49 = .ok (.invokevirtual 100, 3) := by decide +kernel
theorem dX10_room_52 : decode cX10_room 52 = .ok (.pop, 1) := by decide +kernel
theorem dX10_room_53 : decode cX10_room 53 = .ok (.iload_n 3, 1) := by decide +kernel
theorem dX10_room_54 : decode cX10_room 54 = .ok (.ireturn, 1) := by decide +kernel
theorem dX10_loop_0 : decode cX10_loop 0 = .ok (.iconst 1, 1) := by decide +kernel
theorem dX10_loop_1 : decode cX10_loop 1 = .ok (.aload_n 0, 1) := by decide +kernel
theorem dX10_loop_2 : decode cX10_loop 2 = .ok (.getfield 73, 3) := by decide +kernel
theorem dX10_loop_5 : decode cX10_loop 5 = .ok (.ishl, 1) := by decide +kernel
theorem dX10_loop_6 : decode cX10_loop 6 = .ok (.iconst 1, 1) := by decide +kernel
theorem dX10_loop_7 : decode cX10_loop 7 = .ok (.isub, 1) := by decide +kernel
theorem dX10_loop_8 : decode cX10_loop 8 = .ok (.istore_n 2, 1) := by decide +kernel
theorem dX10_loop_9 : decode cX10_loop 9 = .ok (.iload_n 1, 1) := by decide +kernel
theorem dX10_loop_10 : decode cX10_loop 10 = .ok (.iload_n 2, 1) := by decide +kernel
theorem dX10_loop_11 : decode cX10_loop 11 = .ok (.iconst (-1), 1) := by decide +kernel
theorem dX10_loop_12 : decode cX10_loop 12 = .ok (.ixor, 1) := by decide +kernel
theorem dX10_loop_13 : decode cX10_loop 13 = .ok (.iand, 1) := by decide +kernel
theorem dX10_loop_14 : decode cX10_loop 14 = .ok (.ifCond .eq 10, 3) := by decide +kernel
theorem dX10_loop_17 : decode cX10_loop 17 = .ok (.aload_n 0, 1) := by decide +kernel
theorem dX10_loop_18 : decode cX10_loop 18 = .ok (.ldc 90, 2) := by decide +kernel
theorem dX10_loop_20 : decode cX10_loop 20 = .ok (.invokevirtual 91, 3) := by decide +kernel
theorem dX10_loop_23 : decode cX10_loop 23 = .ok (.ireturn, 1) := by decide +kernel
theorem dX10_loop_24 : decode cX10_loop 24 = .ok (.iload_n 1, 1) := by decide +kernel
theorem dX10_loop_25 : decode cX10_loop 25 = .ok (.ifCond .ne 10, 3) := by decide +kernel
theorem dX10_loop_28 : decode cX10_loop 28 = .ok (.aload_n 0, 1) := by decide +kernel
theorem dX10_loop_29 : decode cX10_loop 29 = .ok (.ldc 127, 2) := by decide +kernel
theorem dX10_loop_31 : decode cX10_loop 31 = .ok (.invokevirtual 91, 3) := by decide +kernel
theorem dX10_loop_34 : decode cX10_loop 34 = .ok (.ireturn, 1) := by decide +kernel
theorem dX10_loop_35 : decode cX10_loop 35 = .ok (.aload_n 0, 1) := by decide +kernel
theorem dX10_loop_36 : decode cX10_loop 36 = .ok (.getfield 37, 3) := by decide +kernel
theorem dX10_loop_39 : decode cX10_loop 39 = .ok (.getfield 209, 3) := by decide +kernel
theorem dX10_loop_42 : decode cX10_loop 42 = .ok (.bipush 7, 2) := by decide +kernel
theorem dX10_loop_44 : decode cX10_loop 44 = .ok (.if_icmp .lt 10, 3) := by decide +kernel
theorem dX10_loop_47 : decode cX10_loop 47 = .ok (.aload_n 0, 1) := by decide +kernel
theorem dX10_loop_48 : decode cX10_loop 48 = .ok (.ldc 95, 2) := by decide +kernel
theorem dX10_loop_50 : decode cX10_loop 50 = .ok (.invokevirtual 91, 3) := by decide +kernel
theorem dX10_loop_53 : decode cX10_loop 53 = .ok (.ireturn, 1) := by decide +kernel
theorem dX10_loop_54 : decode cX10_loop 54 = .ok (.aload_n 0, 1) := by decide +kernel
theorem dX10_loop_55 : decode cX10_loop 55 = .ok (.getfield 37, 3) := by decide +kernel
theorem dX10_loop_58 : decode cX10_loop 58 = .ok (.iload_n 1, 1) := by decide +kernel
theorem dX10_loop_59 : decode cX10_loop 59 = .ok (.invokevirtual 212, 3) := by decide +kernel
theorem dX10_loop_62 : decode cX10_loop 62 = .ok (.aload_n 0, 1) := by decide +kernel
theorem dX10_loop_63 : decode cX10_loop 63 = .ok (.bipush 10, 2) := by decide +kernel
theorem dX10_loop_65 : decode cX10_loop 65 = .ok (.iconst 0, 1) := by decide +kernel
theorem dX10_loop_66 : decode cX10_loop 66 = .ok (.iconst 0, 1) := by decide +kernel
theorem dX10_loop_67 : decode cX10_loop 67 = .ok (.invokevirtual 100, 3) := by decide +kernel
theorem dX10_loop_70 : decode cX10_loop 70 = .ok (.pop, 1) := by decide +kernel
theorem dX10_loop_71 : decode cX10_loop 71 = .ok (.aload_n 0, 1) := by decide +kernel
theorem dX10_loop_72 : decode cX10_loop 72 = .ok (.getfield 37, 3) := by decide +kernel
theorem dX10_loop_75 : decode cX10_loop 75 = .ok (.getfield 209, 3) := by decide +kernel
theorem dX10_loop_78 : decode cX10_loop 78 = .ok (.iconst 1, 1) := by decide +kernel
theorem dX10_loop_79 : decode cX10_loop 79 = .ok (.isub, 1) := by decide +kernel
theorem dX10_loop_80 : decode cX10_loop 80 = .ok (.ireturn, 1) := by decide +kernel
theorem dX10_unloop_0 : decode cX10_unloop 0 = .ok (.aload_n 0, 1) := by decide +kernel
theorem dX10_unloop_1 : decode cX10_unloop 1 = .ok (.getfield 37, 3) := by decide +kernel
theorem dX10_unloop_4 : decode cX10_unloop 4 = .ok (.getfield 209, 3) := by decide +kernel
theorem dX10_unloop_7 : decode cX10_unloop 7 = .ok (.ifCond .gt 10, 3) := by decide +kernel
theorem dX10_unloop_10 : decode cX10_unloop 10 = .ok (.aload_n 0, 1) := by decide +kernel
theorem dX10_unloop_11 : decode cX10_unloop 11 = .ok (.ldc 135, 2) := by decide +kernel
theorem dX10_unloop_13 : decode cX10_unloop 13 = .ok (.invokevirtual 91, 3) := by decide +kernel
theorem dX10_unloop_16 : decode cX10_unloop 16 = .ok (.ireturn, 1) := by decide +kernel
theorem dX10_unloop_17 : decode cX10_unloop 17 = .ok (.aload_n 0, 1) := by decide +kernel
theorem dX10_unloop_18 : decode cX10_unloop 18 = .ok (.getfield 37, 3) := by decide +kernel
theorem dX10_unloop_21 : decode cX10_unloop 21 = .ok (.dup, 1) := by decide +kernel
theorem dX10_unloop_22 : decode cX10_unloop 22 = .ok (.getfield 209, 3) := by decide +kernel
theorem dX10_unloop_25 : decode cX10_unloop 25 = .ok (.iconst 1, 1) := by decide +kernel
theorem dX10_unloop_26 : decode cX10_unloop 26 = .ok (.isub, 1) := by decide +kernel
theorem dX10_unloop_27 : decode cX10_unloop 27 = .ok (.putfield 209, 3) := by decide +kernel
theorem dX10_unloop_30 : decode cX10_unloop 30 = .ok (.aload_n 0, 1) := by decide +kernel
theorem dX10_unloop_31 : decode cX10_unloop 31 = .ok (.bipush 11, 2) := by decide +kernel
theorem dX10_unloop_33 : decode cX10_unloop 33 = .ok (.iconst 0, 1) := by decide +kernel
theorem dX10_unloop_34 : decode cX10_unloop 34 = .ok (.aload_n 0, 1) := by decide +kernel
theorem dX10_unloop_35 : decode cX10_unloop 35 = .ok (.getfield 37, 3) := by decide +kernel
theorem dX10_unloop_38 : decode cX10_unloop 38 = .ok (.getfield 215, 3) := by decide +kernel
theorem dX10_unloop_41 : decode cX10_unloop 41 = .ok (.aload_n 0, 1) := by decide +kernel
theorem dX10_unloop_42 : decode cX10_unloop 42 = .ok (.getfield 37, 3) := by decide +kernel
theorem dX10_unloop_45 : decode cX10_unloop 45 = .ok (.getfield 209, 3) := by decide +kernel
theorem dX10_unloop_48 : decode cX10_unloop 48 = .ok (.iaload, 1) := by decide +kernel
theorem dX10_unloop_49 : decode cX10_unloop 49 = .ok (.invokevirtual 100, 3) := by decide +kernel
theorem dX10_unloop_52 : decode cX10_unloop 52 = .ok (.pop, 1) := by decide +kernel
theorem dX10_unloop_53 : decode cX10_unloop 53 = .ok (.aload_n 0, 1) := by decide +kernel
theorem dX10_unloop_54 : decode cX10_unloop 54 = .ok (.getfield 37, 3) := by decide +kernel
theorem dX10_unloop_57 : decode cX10_unloop 57 = .ok (.getfield 209, 3) := by decide +kernel
theorem dX10_unloop_60 : decode cX10_unloop 60 = .ok (.ireturn, 1) := by decide +kernel
theorem dX10_plan_0 : decode cX10_plan 0 = .ok (.aload_n 0, 1) := by decide +kernel
theorem dX10_plan_1 : decode cX10_plan 1 = .ok (.getfield 44, 3) := by decide +kernel
theorem dX10_plan_4 : decode cX10_plan 4 = .ok (.aload_n 0, 1) := by decide +kernel
theorem dX10_plan_5 : decode cX10_plan 5 = .ok (.getfield 37, 3) := by decide +kernel
theorem dX10_plan_8 : decode cX10_plan 8 = .ok (.aload_n 0, 1) := by decide +kernel
theorem dX10_plan_9 : decode cX10_plan 9 = .ok (.getfield 11, 3) := by decide +kernel
theorem dX10_plan_12 : decode cX10_plan 12 = .ok (.invokevirtual 218, 3) := by decide +kernel
theorem dX10_plan_15 : decode cX10_plan 15 = .ok (.aload_n 0, 1) := by decide +kernel
theorem dX10_plan_16 : decode cX10_plan 16 = .ok (.getfield 44, 3) := by decide +kernel
theorem dX10_plan_19 : decode cX10_plan 19 = .ok (.getfield 222, 3) := by decide +kernel
theorem dX10_plan_22 : decode cX10_plan 22 = .ok (.ifCond .ne 12, 3) := by decide +kernel
theorem dX10_plan_25 : decode cX10_plan 25 = .ok (.aload_n 0, 1) := by decide +kernel
theorem dX10_plan_26 : decode cX10_plan 26 = .ok (.ldc 135, 2) := by decide +kernel
theorem dX10_plan_28 : decode cX10_plan 28 = .ok (.invokevirtual 91, 3) := by decide +kernel
theorem dX10_plan_31 : decode cX10_plan 31 = .ok (.goto 10, 3) := by decide +kernel
theorem dX10_plan_34 : decode cX10_plan 34 = .ok (.aload_n 0, 1) := by decide +kernel
theorem dX10_plan_35 : decode cX10_plan 35 = .ok (.getfield 44, 3) := by decide +kernel
theorem dX10_plan_38 : decode cX10_plan 38 = .ok (.getfield 225, 3) := by decide +kernel
theorem dX10_plan_41 : decode cX10_plan 41 = .ok (.ireturn, 1) := by decide +kernel
theorem dX10_planned_0 : decode cX10_planned 0 = .ok (.iload_n 1, 1) := by decide +kernel
theorem dX10_planned_1 : decode cX10_planned 1 = .ok (.aload_n 0, 1) := by decide +kernel
theorem dX10_planned_2 : decode cX10_planned 2 = .ok (.getfield 37, 3) := by decide +kernel
theorem dX10_planned_5 : decode cX10_planned 5 = .ok (.getfield 209, 3) := by decide +kernel
theorem dX10_planned_8 : decode cX10_planned 8 = .ok (.invokestatic 86, 3) := by decide +kernel
theorem dX10_planned_11 : decode cX10_planned 11 = .ok (.ifCond .ne 10, 3) := by decide +kernel
theorem dX10_planned_14 : decode cX10_planned 14 = .ok (.aload_n 0, 1) := by decide +kernel
theorem dX10_planned_15 : decode cX10_planned 15 = .ok (.ldc 90, 2) := by decide +kernel
theorem dX10_planned_17 : decode cX10_planned 17 = .ok (.invokevirtual 91, 3) := by decide +kernel
theorem dX10_planned_20 : decode cX10_planned 20 = .ok (.ireturn, 1) := by decide +kernel
theorem dX10_planned_21 : decode cX10_planned 21 = .ok (.aload_n 0, 1) := by decide +kernel
theorem dX10_planned_22 : decode cX10_planned 22 = .ok (.getfield 44, 3) := by decide +kernel
theorem dX10_planned_25 : decode cX10_planned 25 = .ok (.aload_n 0, 1) := by decide +kernel
theorem dX10_planned_26 : decode cX10_planned 26 = .ok (.getfield 37, 3) := by decide +kernel
theorem dX10_planned_29 : decode cX10_planned 29 = .ok (.aload_n 0, 1) := by decide +kernel
theorem dX10_planned_30 : decode cX10_planned 30 = .ok (.getfield 11, 3) := by decide +kernel
theorem dX10_planned_33 : decode cX10_planned 33 = .ok (.invokevirtual 218, 3) := by decide +kernel
theorem dX10_planned_36 : decode cX10_planned 36 = .ok (.aload_n 0, 1) := by decide +kernel
theorem dX10_planned_37 : decode cX10_planned 37 = .ok (.getfield 44, 3) := by decide +kernel
theorem dX10_planned_40 : decode cX10_planned 40 = .ok (.getfield 222, 3) := by decide +kernel
theorem dX10_planned_43 : decode cX10_planned 43 = .ok (.ifCond .ne 12, 3) := by decide +kernel
theorem dX10_planned_46 : decode cX10_planned 46 = .ok (.aload_n 0, 1) := by decide +kernel
theorem dX10_planned_47 : decode cX10_planned 47 = .ok (.ldc 135, 2) := by decide +kernel
theorem dX10_planned_49 : decode cX10_planned 49 = .ok (.invokevirtual 91, 3) := by decide +kernel
theorem dX10_planned_52 : decode cX10_planned 52 = .ok (.goto 12, 3) := by decide +kernel
theorem dX10_planned_55 : decode cX10_planned 55 = .ok (.aload_n 0, 1) := by decide +kernel
theorem dX10_planned_56 : decode cX10_planned 56 = .ok (.getfield 44, 3) := by decide +kernel
theorem dX10_planned_59 : decode cX10_planned 59 = .ok (.getfield 228, 3) := by decide +kernel
theorem dX10_planned_62 : decode cX10_planned 62 = .ok (.iload_n 1, 1) := by decide +kernel
theorem dX10_planned_63 : decode cX10_planned 63 = .ok (.iaload, 1) := by decide +kernel
theorem dX10_planned_64 : decode cX10_planned 64 = .ok (.ireturn, 1) := by decide +kernel
theorem dX10_plans_0 : decode cX10_plans 0 = .ok (.aload_n 0, 1) := by decide +kernel
theorem dX10_plans_1 : decode cX10_plans 1 = .ok (.getfield 44, 3) := by decide +kernel
theorem dX10_plans_4 : decode cX10_plans 4 = .ok (.aload_n 0, 1) := by decide +kernel
theorem dX10_plans_5 : decode cX10_plans 5 = .ok (.getfield 37, 3) := by decide +kernel
theorem dX10_plans_8 : decode cX10_plans 8 = .ok (.aload_n 0, 1) := by decide +kernel
theorem dX10_plans_9 : decode cX10_plans 9 = .ok (.getfield 11, 3) := by decide +kernel
theorem dX10_plans_12 : decode cX10_plans 12 = .ok (.invokevirtual 218, 3) := by decide +kernel
theorem dX10_plans_15 : decode cX10_plans 15 = .ok (.aload_n 0, 1) := by decide +kernel
theorem dX10_plans_16 : decode cX10_plans 16 = .ok (.getfield 44, 3) := by decide +kernel
theorem dX10_plans_19 : decode cX10_plans 19 = .ok (.getfield 222, 3) := by decide +kernel
theorem dX10_plans_22 : decode cX10_plans 22 = .ok (.ireturn, 1) := by decide +kernel
theorem dX10_change_0 : decode cX10_change 0 = .ok (.aload_n 0, 1) := by decide +kernel
theorem dX10_change_1 : decode cX10_change 1 = .ok (.iload_n 1, 1) := by decide +kernel
theorem dX10_change_2 : decode cX10_change 2 = .ok (.invokevirtual 104, 3) := by decide +kernel
theorem dX10_change_5 : decode cX10_change 5 = .ok (.ifCond .eq 11, 3) := by decide +kernel
theorem dX10_change_8 : decode cX10_change 8 = .ok (.iload_n 2, 1) := by decide +kernel
theorem dX10_change_9 : decode cX10_change 9 = .ok (.iconst 4, 1) := by decide +kernel
theorem dX10_change_10 : decode cX10_change 10 = .ok (.invokestatic 86, 3) := by decide +kernel
theorem dX10_change_13 : decode cX10_change 13 = .ok (.ifCond .ne 10, 3) := by decide +kernel
theorem dX10_change_16 : decode cX10_change 16 = .ok (.aload_n 0, 1) := by decide +kernel
theorem dX10_change_17 : decode cX10_change 17 = .ok (.ldc 90, 2) := by decide +kernel
theorem dX10_change_19 : decode cX10_change 19 = .ok (.invokevirtual 91, 3) := by decide +kernel
theorem dX10_change_22 : decode cX10_change 22 = .ok (.ireturn, 1) := by decide +kernel
theorem dX10_change_23 : decode cX10_change 23 = .ok (.aload_n 0, 1) := by decide +kernel
theorem dX10_change_24 : decode cX10_change 24 = .ok (.getfield 23, 3) := by decide +kernel
theorem dX10_change_27 : decode cX10_change 27 = .ok (.iload_n 2, 1) := by decide +kernel
theorem dX10_change_28 : decode cX10_change 28 = .ok (.aaload, 1) := by decide +kernel
theorem dX10_change_29 : decode cX10_change 29 = .ok (.astore_n 3, 1) := by decide +kernel
theorem dX10_change_30 : decode cX10_change 30 = .ok (.aload_n 3, 1) := by decide +kernel
theorem dX10_change_31 : decode cX10_change 31 = .ok (.invokevirtual 231, 3) := by decide +kernel
theorem dX10_change_34 : decode cX10_change 34 = .ok (.ifCond .eq 10, 3) := by decide +kernel
theorem dX10_change_37 : decode cX10_change 37 = .ok (.aload_n 0, 1) := by decide +kernel
theorem dX10_change_38 : decode cX10_change 38 = .ok (.ldc 235, 2) := by decide +kernel
theorem dX10_change_40 : decode cX10_change 40 = .ok (.invokevirtual 91, 3) := by decide +kernel
theorem dX10_change_43 : decode cX10_change 43 = .ok (.ireturn, 1) := by decide +kernel
theorem dX10_change_44 : decode cX10_change 44 = .ok (.aload_n 3, 1) := by decide +kernel
theorem dX10_change_45 : decode cX10_change 45 = .ok (.getfield 236, 3) := by decide +kernel
theorem dX10_change_48 : decode cX10_change 48 = .ok (.bipush 24, 2) := by decide +kernel
theorem dX10_change_50 : decode cX10_change 50 = .ok (.if_icmp .le 10, 3) := by decide +kernel
theorem dX10_change_53 : decode cX10_change 53 = .ok (.aload_n 0, 1) := by decide +kernel
theorem dX10_change_54 : decode cX10_change 54 = .ok (.ldc 127, 2) := by decide +kernel
theorem dX10_change_56 : decode cX10_change 56 = .ok (.invokevirtual 91, 3) := by decide +kernel
theorem dX10_change_59 : decode cX10_change 59 = .ok (.ireturn, 1) := by decide +kernel
theorem dX10_change_60 : decode cX10_change 60 = .ok (.iconst 0, 1) := by decide +kernel
theorem dX10_change_61 : decode cX10_change 61 = .ok (.istore 4, 2) := by decide +kernel
theorem dX10_change_63 : decode cX10_change 63 = .ok (.iload 4, 2) := by decide +kernel
theorem dX10_change_65 : decode cX10_change 65 = .ok (.aload_n 3, 1) := by decide +kernel
theorem dX10_change_66 : decode cX10_change 66 = .ok (.getfield 236, 3) := by decide +kernel
theorem dX10_change_69 : decode cX10_change 69 = .ok (.if_icmp .ge 25, 3) := by decide +kernel
theorem dX10_change_72 : decode cX10_change 72 = .ok (.aload_n 0, 1) := by decide +kernel
theorem dX10_change_73 : decode cX10_change 73 = .ok (.getfield 69, 3) := by decide +kernel
theorem dX10_change_76 : decode cX10_change 76 = .ok (.iload 4, 2) := by decide +kernel
theorem dX10_change_78 : decode cX10_change 78 = .ok (.aload_n 3, 1) := by decide +kernel
theorem dX10_change_79 : decode cX10_change 79 = .ok (.getfield 239, 3) := by decide +kernel
theorem dX10_change_82 : decode cX10_change 82 = .ok (.iload 4, 2) := by decide +kernel
theorem dX10_change_84 : decode cX10_change 84 = .ok (.iaload, 1) := by decide +kernel
theorem dX10_change_85 : decode cX10_change 85 = .ok (.iconst 3, 1) := by decide +kernel
theorem dX10_change_86 : decode cX10_change 86 = .ok (.iand, 1) := by decide +kernel
theorem dX10_change_87 : decode cX10_change 87 = .ok (.iastore, 1) := by decide +kernel
theorem dX10_change_88 : decode cX10_change 88 = .ok (.iinc 4 1, 3) := by decide +kernel
theorem dX10_change_91 : decode cX10_change 91 = .ok (.goto (-28), 3) := by decide +kernel
theorem dX10_change_94 : decode cX10_change 94 = .ok (.aload_n 0, 1) := by decide +kernel
theorem dX10_change_95 : decode cX10_change 95 = .ok (.getfield 11, 3) := by decide +kernel
theorem dX10_change_98 : decode cX10_change 98 = .ok (.iload_n 1, 1) := by decide +kernel
theorem dX10_change_99 : decode cX10_change 99 = .ok (.aaload, 1) := by decide +kernel
theorem dX10_change_100 : decode cX10_change 100 = .ok (.astore 4, 2) := by decide +kernel
theorem dX10_change_102 : decode cX10_change 102 = .ok (.aload_n 0, 1) := by decide +kernel
theorem dX10_change_103 : decode cX10_change 103 = .ok (.getfield 58, 3) := by decide +kernel
theorem dX10_change_106 : decode cX10_change 106 = .ok (.aload 4, 2) := by decide +kernel
theorem dX10_change_108 : decode cX10_change 108 = .ok (.getfield 111, 3) := by decide +kernel
theorem dX10_change_111 : decode cX10_change 111 = .ok (.aload 4, 2) := by decide +kernel
theorem dX10_change_113 : decode cX10_change 113 = .ok (.getfield 108, 3) := by decide +kernel
theorem dX10_change_116 : decode cX10_change 116 = .ok (.aload_n 0, 1) := by decide +kernel
theorem dX10_change_117 : decode cX10_change 117 = .ok (.getfield 69, 3) := by decide +kernel
theorem dX10_change_120 : decode cX10_change 120 = .ok (.aload_n 3, 1) := by decide +kernel
theorem dX10_change_121 : decode cX10_change 121 = .ok (.getfield 236, 3) := by decide +kernel
theorem dX10_change_124 : decode cX10_change 124 = .ok (.invokevirtual 242, 3) := by decide +kernel
theorem dX10_change_127 : decode cX10_change 127 = .ok (.istore 5, 2) := by decide +kernel
theorem dX10_change_129 : decode cX10_change 129 = .ok (.aload_n 0, 1) := by decide +kernel
theorem dX10_change_130 : decode cX10_change 130 = .ok (.bipush 12, 2) := by decide +kernel
theorem dX10_change_132 : decode cX10_change 132 = .ok (.iload_n 1, 1) := by decide +kernel
theorem dX10_change_133 : decode cX10_change 133 = .ok (.iconst 0, 1) := by decide +kernel
theorem dX10_change_134 : decode cX10_change 134 = .ok (.invokevirtual 100, 3) := by decide +kernel
theorem dX10_change_137 : decode cX10_change 137 = .ok (.aload 4, 2) := by decide +kernel
theorem dX10_change_139 : decode cX10_change 139 = .ok (.invokevirtual 246, 3) := by decide +kernel
theorem dX10_change_142 : decode cX10_change 142 = .ok (.aload 4, 2) := by decide +kernel
theorem dX10_change_144 : decode cX10_change 144 = .ok (.aload_n 0, 1) := by decide +kernel
theorem dX10_change_145 : decode cX10_change 145 = .ok (.getfield 69, 3) := by decide +kernel
theorem dX10_change_148 : decode cX10_change 148 = .ok (.aload_n 3, 1) := by decide +kernel
theorem dX10_change_149 : decode cX10_change 149 = .ok (.getfield 236, 3) := by decide +kernel
theorem dX10_change_152 : decode cX10_change 152 = .ok (.invokevirtual 250, 3) := by decide +kernel
theorem dX10_change_155 : decode cX10_change 155 = .ok (.iload 5, 2) := by decide +kernel
theorem dX10_change_157 : decode cX10_change 157 = .ok (.ireturn, 1) := by decide +kernel
theorem dX10_kept_0 : decode cX10_kept 0 = .ok (.aload_n 0, 1) := by decide +kernel
theorem dX10_kept_1 : decode cX10_kept 1 = .ok (.iload_n 1, 1) := by decide +kernel
theorem dX10_kept_2 : decode cX10_kept 2 = .ok (.invokevirtual 104, 3) := by decide +kernel
theorem dX10_kept_5 : decode cX10_kept 5 = .ok (.ifCond .eq 11, 3) := by decide +kernel
theorem dX10_kept_8 : decode cX10_kept 8 = .ok (.aload_n 0, 1) := by decide +kernel
theorem dX10_kept_9 : decode cX10_kept 9 = .ok (.iload_n 2, 1) := by decide +kernel
theorem dX10_kept_10 : decode cX10_kept 10 = .ok (.invokevirtual 104, 3) := by decide +kernel
theorem dX10_kept_13 : decode cX10_kept 13 = .ok (.ifCond .ne 10, 3) := by decide +kernel
theorem dX10_kept_16 : decode cX10_kept 16 = .ok (.aload_n 0, 1) := by decide +kernel
theorem dX10_kept_17 : decode cX10_kept 17 = .ok (.ldc 90, 2) := by decide +kernel
theorem dX10_kept_19 : decode cX10_kept 19 = .ok (.invokevirtual 91, 3) := by decide +kernel
theorem dX10_kept_22 : decode cX10_kept 22 = .ok (.ireturn, 1) := by decide +kernel
theorem dX10_kept_23 : decode cX10_kept 23 = .ok (.aload_n 0, 1) := by decide +kernel
theorem dX10_kept_24 : decode cX10_kept 24 = .ok (.getfield 11, 3) := by decide +kernel
theorem dX10_kept_27 : decode cX10_kept 27 = .ok (.iload_n 1, 1) := by decide +kernel
theorem dX10_kept_28 : decode cX10_kept 28 = .ok (.aaload, 1) := by decide +kernel
theorem dX10_kept_29 : decode cX10_kept 29 = .ok (.astore_n 3, 1) := by decide +kernel
theorem dX10_kept_30 : decode cX10_kept 30 = .ok (.aload_n 0, 1) := by decide +kernel
theorem dX10_kept_31 : decode cX10_kept 31 = .ok (.getfield 11, 3) := by decide +kernel
theorem dX10_kept_34 : decode cX10_kept 34 = .ok (.iload_n 2, 1) := by decide +kernel
theorem dX10_kept_35 : decode cX10_kept 35 = .ok (.aaload, 1) := by decide +kernel
theorem dX10_kept_36 : decode cX10_kept 36 = .ok (.astore 4, 2) := by decide +kernel
theorem dX10_kept_38 : decode cX10_kept 38 = .ok (.aload_n 0, 1) := by decide +kernel
theorem dX10_kept_39 : decode cX10_kept 39 = .ok (.getfield 58, 3) := by decide +kernel
theorem dX10_kept_42 : decode cX10_kept 42 = .ok (.aload_n 3, 1) := by decide +kernel
theorem dX10_kept_43 : decode cX10_kept 43 = .ok (.getfield 111, 3) := by decide +kernel
theorem dX10_kept_46 : decode cX10_kept 46 = .ok (.aload_n 3, 1) := by decide +kernel
theorem dX10_kept_47 : decode cX10_kept 47 = .ok (.getfield 108, 3) := by decide +kernel
theorem dX10_kept_50 : decode cX10_kept 50 = .ok (.aload 4, 2) := by decide +kernel
theorem dX10_kept_52 : decode cX10_kept 52 = .ok (.getfield 111, 3) := by decide +kernel
theorem dX10_kept_55 : decode cX10_kept 55 = .ok (.aload 4, 2) := by decide +kernel
theorem dX10_kept_57 : decode cX10_kept 57 = .ok (.getfield 108, 3) := by decide +kernel
theorem dX10_kept_60 : decode cX10_kept 60 = .ok (.invokevirtual 242, 3) := by decide +kernel
theorem dX10_kept_63 : decode cX10_kept 63 = .ok (.ireturn, 1) := by decide +kernel
theorem dX10_sheet_0 : decode cX10_sheet 0 = .ok (.iload_n 1, 1) := by decide +kernel
theorem dX10_sheet_1 : decode cX10_sheet 1 = .ok (.iconst 4, 1) := by decide +kernel
theorem dX10_sheet_2 : decode cX10_sheet 2 = .ok (.invokestatic 86, 3) := by decide +kernel
theorem dX10_sheet_5 : decode cX10_sheet 5 = .ok (.ifCond .eq 25, 3) := by decide +kernel
theorem dX10_sheet_8 : decode cX10_sheet 8 = .ok (.iload_n 2, 1) := by decide +kernel
theorem dX10_sheet_9 : decode cX10_sheet 9 = .ok (.ifCond .eq 28, 3) := by decide +kernel
theorem dX10_sheet_12 : decode cX10_sheet 12 = .ok (.iload_n 2, 1) := by decide +kernel
theorem dX10_sheet_13 : decode cX10_sheet 13 = .ok (.bipush 8, 2) := by decide +kernel
theorem dX10_sheet_15 : decode cX10_sheet 15 = .ok (.if_icmp .eq 22, 3) := by decide +kernel
theorem dX10_sheet_18 : decode cX10_sheet 18 = .ok (.iload_n 2, 1) := by decide +kernel
theorem dX10_sheet_19 : decode cX10_sheet 19 = .ok (.bipush 16, 2) := by decide +kernel
theorem dX10_sheet_21 : decode cX10_sheet 21 = .ok (.if_icmp .eq 16, 3) := by decide +kernel
theorem dX10_sheet_24 : decode cX10_sheet 24 = .ok (.iload_n 2, 1) := by decide +kernel
theorem dX10_sheet_25 : decode cX10_sheet 25 = .ok (.bipush 32, 2) := by decide +kernel
theorem dX10_sheet_27 : decode cX10_sheet 27 = .ok (.if_icmp .eq 10, 3) := by decide +kernel
theorem dX10_sheet_30 : decode cX10_sheet 30 = .ok (.aload_n 0, 1) := by decide +kernel
theorem dX10_sheet_31 : decode cX10_sheet 31 = .ok (.ldc 90, 2) := by decide +kernel
theorem dX10_sheet_33 : decode cX10_sheet 33 = .ok (.invokevirtual 91, 3) := by decide +kernel
theorem dX10_sheet_36 : decode cX10_sheet 36 = .ok (.ireturn, 1) := by decide +kernel
theorem dX10_sheet_37 : decode cX10_sheet 37 = .ok (.iload_n 3, 1) := by decide +kernel
theorem dX10_sheet_38 : decode cX10_sheet 38 = .ok (.ifCond .ge 10, 3) := by decide +kernel
theorem dX10_sheet_41 : decode cX10_sheet 41 = .ok (.aload_n 0, 1) := by decide +kernel
theorem dX10_sheet_42 : decode cX10_sheet 42 = .ok (.ldc 127, 2) := by decide +kernel
theorem dX10_sheet_44 : decode cX10_sheet 44 = .ok (.invokevirtual 91, 3) := by decide +kernel
theorem dX10_sheet_47 : decode cX10_sheet 47 = .ok (.ireturn, 1) := by decide +kernel
theorem dX10_sheet_48 : decode cX10_sheet 48 = .ok (.iload_n 3, 1) := by decide +kernel
theorem dX10_sheet_49 : decode cX10_sheet 49 = .ok (.bipush 30, 2) := by decide +kernel
theorem dX10_sheet_51 : decode cX10_sheet 51 = .ok (.if_icmp .le 10, 3) := by decide +kernel
theorem dX10_sheet_54 : decode cX10_sheet 54 = .ok (.aload_n 0, 1) := by decide +kernel
theorem dX10_sheet_55 : decode cX10_sheet 55 = .ok (.ldc 90, 2) := by decide +kernel
theorem dX10_sheet_57 : decode cX10_sheet 57 = .ok (.invokevirtual 91, 3) := by decide +kernel
theorem dX10_sheet_60 : decode cX10_sheet 60 = .ok (.ireturn, 1) := by decide +kernel
theorem dX10_sheet_61 : decode cX10_sheet 61 = .ok (.aload_n 0, 1) := by decide +kernel
theorem dX10_sheet_62 : decode cX10_sheet 62 = .ok (.getfield 23, 3) := by decide +kernel
theorem dX10_sheet_65 : decode cX10_sheet 65 = .ok (.iload_n 1, 1) := by decide +kernel
theorem dX10_sheet_66 : decode cX10_sheet 66 = .ok (.aaload, 1) := by decide +kernel
theorem dX10_sheet_67 : decode cX10_sheet 67 = .ok (.iload_n 2, 1) := by decide +kernel
theorem dX10_sheet_68 : decode cX10_sheet 68 = .ok (.iload_n 3, 1) := by decide +kernel
theorem dX10_sheet_69 : decode cX10_sheet 69 = .ok (.invokevirtual 254, 3) := by decide +kernel
theorem dX10_sheet_72 : decode cX10_sheet 72 = .ok (.aload_n 0, 1) := by decide +kernel
theorem dX10_sheet_73 : decode cX10_sheet 73 = .ok (.getfield 23, 3) := by decide +kernel
theorem dX10_sheet_76 : decode cX10_sheet 76 = .ok (.iload_n 1, 1) := by decide +kernel
theorem dX10_sheet_77 : decode cX10_sheet 77 = .ok (.aaload, 1) := by decide +kernel
theorem dX10_sheet_78 : decode cX10_sheet 78 = .ok (.getfield 236, 3) := by decide +kernel
theorem dX10_sheet_81 : decode cX10_sheet 81 = .ok (.ireturn, 1) := by decide +kernel
theorem dX10_put_0 : decode cX10_put 0 = .ok (.iload_n 1, 1) := by decide +kernel
theorem dX10_put_1 : decode cX10_put 1 = .ok (.iconst 4, 1) := by decide +kernel
theorem dX10_put_2 : decode cX10_put 2 = .ok (.invokestatic 86, 3) := by decide +kernel
theorem dX10_put_5 : decode cX10_put 5 = .ok (.ifCond .ne 10, 3) := by decide +kernel
theorem dX10_put_8 : decode cX10_put 8 = .ok (.aload_n 0, 1) := by decide +kernel
theorem dX10_put_9 : decode cX10_put 9 = .ok (.ldc 90, 2) := by decide +kernel
theorem dX10_put_11 : decode cX10_put 11 = .ok (.invokevirtual 91, 3) := by decide +kernel
theorem dX10_put_14 : decode cX10_put 14 = .ok (.ireturn, 1) := by decide +kernel
theorem dX10_put_15 : decode cX10_put 15 = .ok (.aload_n 0, 1) := by decide +kernel
theorem dX10_put_16 : decode cX10_put 16 = .ok (.getfield 23, 3) := by decide +kernel
theorem dX10_put_19 : decode cX10_put 19 = .ok (.iload_n 1, 1) := by decide +kernel
theorem dX10_put_20 : decode cX10_put 20 = .ok (.aaload, 1) := by decide +kernel
theorem dX10_put_21 : decode cX10_put 21 = .ok (.invokevirtual 231, 3) := by decide +kernel
theorem dX10_put_24 : decode cX10_put 24 = .ok (.ifCond .eq 10, 3) := by decide +kernel
theorem dX10_put_27 : decode cX10_put 27 = .ok (.aload_n 0, 1) := by decide +kernel
theorem dX10_put_28 : decode cX10_put 28 = .ok (.ldc 235, 2) := by decide +kernel
theorem dX10_put_30 : decode cX10_put 30 = .ok (.invokevirtual 91, 3) := by decide +kernel
theorem dX10_put_33 : decode cX10_put 33 = .ok (.ireturn, 1) := by decide +kernel
theorem dX10_put_34 : decode cX10_put 34 = .ok (.iload_n 2, 1) := by decide +kernel
theorem dX10_put_35 : decode cX10_put 35 = .ok (.aload_n 0, 1) := by decide +kernel
theorem dX10_put_36 : decode cX10_put 36 = .ok (.getfield 23, 3) := by decide +kernel
theorem dX10_put_39 : decode cX10_put 39 = .ok (.iload_n 1, 1) := by decide +kernel
theorem dX10_put_40 : decode cX10_put 40 = .ok (.aaload, 1) := by decide +kernel
theorem dX10_put_41 : decode cX10_put 41 = .ok (.getfield 236, 3) := by decide +kernel
theorem dX10_put_44 : decode cX10_put 44 = .ok (.invokestatic 86, 3) := by decide +kernel
theorem dX10_put_47 : decode cX10_put 47 = .ok (.ifCond .ne 10, 3) := by decide +kernel
theorem dX10_put_50 : decode cX10_put 50 = .ok (.aload_n 0, 1) := by decide +kernel
theorem dX10_put_51 : decode cX10_put 51 = .ok (.ldc 90, 2) := by decide +kernel
theorem dX10_put_53 : decode cX10_put 53 = .ok (.invokevirtual 91, 3) := by decide +kernel
theorem dX10_put_56 : decode cX10_put 56 = .ok (.ireturn, 1) := by decide +kernel
theorem dX10_put_57 : decode cX10_put 57 = .ok (.aload_n 0, 1) := by decide +kernel
theorem dX10_put_58 : decode cX10_put 58 = .ok (.getfield 23, 3) := by decide +kernel
theorem dX10_put_61 : decode cX10_put 61 = .ok (.iload_n 1, 1) := by decide +kernel
theorem dX10_put_62 : decode cX10_put 62 = .ok (.aaload, 1) := by decide +kernel
theorem dX10_put_63 : decode cX10_put 63 = .ok (.iload_n 2, 1) := by decide +kernel
theorem dX10_put_64 : decode cX10_put 64 = .ok (.iload_n 3, 1) := by decide +kernel
theorem dX10_put_65 : decode cX10_put 65 = .ok (.invokevirtual 257, 3) := by decide +kernel
theorem dX10_put_68 : decode cX10_put 68 = .ok (.iconst 0, 1) := by decide +kernel
theorem dX10_put_69 : decode cX10_put 69 = .ok (.ireturn, 1) := by decide +kernel
theorem dX10_copy_0 : decode cX10_copy 0 = .ok (.iload_n 1, 1) := by decide +kernel
theorem dX10_copy_1 : decode cX10_copy 1 = .ok (.iconst 4, 1) := by decide +kernel
theorem dX10_copy_2 : decode cX10_copy 2 = .ok (.invokestatic 86, 3) := by decide +kernel
theorem dX10_copy_5 : decode cX10_copy 5 = .ok (.ifCond .eq 11, 3) := by decide +kernel
theorem dX10_copy_8 : decode cX10_copy 8 = .ok (.iload_n 3, 1) := by decide +kernel
theorem dX10_copy_9 : decode cX10_copy 9 = .ok (.iconst 4, 1) := by decide +kernel
theorem dX10_copy_10 : decode cX10_copy 10 = .ok (.invokestatic 86, 3) := by decide +kernel
theorem dX10_copy_13 : decode cX10_copy 13 = .ok (.ifCond .ne 10, 3) := by decide +kernel
theorem dX10_copy_16 : decode cX10_copy 16 = .ok (.aload_n 0, 1) := by decide +kernel
theorem dX10_copy_17 : decode cX10_copy 17 = .ok (.ldc 90, 2) := by decide +kernel
theorem dX10_copy_19 : decode cX10_copy 19 = .ok (.invokevirtual 91, 3) := by decide +kernel
theorem dX10_copy_22 : decode cX10_copy 22 = .ok (.ireturn, 1) := by decide +kernel
theorem dX10_copy_23 : decode cX10_copy 23 = .ok (.aload_n 0, 1) := by decide +kernel
theorem dX10_copy_24 : decode cX10_copy 24 = .ok (.getfield 23, 3) := by decide +kernel
theorem dX10_copy_27 : decode cX10_copy 27 = .ok (.iload_n 1, 1) := by decide +kernel
theorem dX10_copy_28 : decode cX10_copy 28 = .ok (.aaload, 1) := by decide +kernel
theorem dX10_copy_29 : decode cX10_copy 29 = .ok (.astore 6, 2) := by decide +kernel
theorem dX10_copy_31 : decode cX10_copy 31 = .ok (.aload_n 0, 1) := by decide +kernel
theorem dX10_copy_32 : decode cX10_copy 32 = .ok (.getfield 23, 3) := by decide +kernel
theorem dX10_copy_35 : decode cX10_copy 35 = .ok (.iload_n 3, 1) := by decide +kernel
theorem dX10_copy_36 : decode cX10_copy 36 = .ok (.aaload, 1) := by decide +kernel
theorem dX10_copy_37 : decode cX10_copy 37 = .ok (.astore 7, 2) := by decide +kernel
theorem dX10_copy_39 : decode cX10_copy 39 = .ok (.aload 6, 2) := by decide +kernel
theorem dX10_copy_41 : decode cX10_copy 41 = .ok (.invokevirtual 231, 3) := by decide +kernel
theorem dX10_copy_44 : decode cX10_copy 44 = .ok (.ifCond .ne 11, 3) := by decide +kernel
theorem dX10_copy_47 : decode cX10_copy 47 = .ok (.aload 7, 2) := by decide +kernel
theorem dX10_copy_49 : decode cX10_copy 49 = .ok (.invokevirtual 231, 3) := by decide +kernel
theorem dX10_copy_52 : decode cX10_copy 52 = .ok (.ifCond .eq 10, 3) := by decide +kernel
theorem dX10_copy_55 : decode cX10_copy 55 = .ok (.aload_n 0, 1) := by decide +kernel
theorem dX10_copy_56 : decode cX10_copy 56 = .ok (.ldc 235, 2) := by decide +kernel
theorem dX10_copy_58 : decode cX10_copy 58 = .ok (.invokevirtual 91, 3) := by decide +kernel
theorem dX10_copy_61 : decode cX10_copy 61 = .ok (.ireturn, 1) := by decide +kernel
theorem dX10_copy_62 : decode cX10_copy 62 = .ok (.aload 6, 2) := by decide +kernel
theorem dX10_copy_64 : decode cX10_copy 64 = .ok (.getfield 260, 3) := by decide +kernel
theorem dX10_copy_67 : decode cX10_copy 67 = .ok (.aload 7, 2) := by decide +kernel
theorem dX10_copy_69 : decode cX10_copy 69 = .ok (.getfield 260, 3) := by decide +kernel
theorem dX10_copy_72 : decode cX10_copy 72 = .ok (.if_icmp .eq 10, 3) := by decide +kernel
theorem dX10_copy_75 : decode cX10_copy 75 = .ok (.aload_n 0, 1) := by decide +kernel
theorem dX10_copy_76 : decode cX10_copy 76 = .ok (.ldc 123, 2) := by decide +kernel
theorem dX10_copy_78 : decode cX10_copy 78 = .ok (.invokevirtual 91, 3) := by decide +kernel
theorem dX10_copy_81 : decode cX10_copy 81 = .ok (.ireturn, 1) := by decide +kernel
theorem dX10_copy_82 : decode cX10_copy 82 = .ok (.aload 6, 2) := by decide +kernel
theorem dX10_copy_84 : decode cX10_copy 84 = .ok (.iload_n 2, 1) := by decide +kernel
theorem dX10_copy_85 : decode cX10_copy 85 = .ok (.iload 5, 2) := by decide +kernel
theorem dX10_copy_87 : decode cX10_copy 87 = .ok (.invokevirtual 263, 3) := by decide +kernel
theorem dX10_copy_90 : decode cX10_copy 90 = .ok (.ifCond .eq 15, 3) := by decide +kernel
theorem dX10_copy_93 : decode cX10_copy 93 = .ok (.aload 7, 2) := by decide +kernel
theorem dX10_copy_95 : decode cX10_copy 95 = .ok (.iload 4, 2) := by decide +kernel
theorem dX10_copy_97 : decode cX10_copy 97 = .ok (.iload 5, 2) := by decide +kernel
theorem dX10_copy_99 : decode cX10_copy 99 = .ok (.invokevirtual 263, 3) := by decide +kernel
theorem dX10_copy_102 : decode cX10_copy 102 = .ok (.ifCond .ne 10, 3) := by decide +kernel
theorem dX10_copy_105 : decode cX10_copy 105 = .ok (.aload_n 0, 1) := by decide +kernel
theorem dX10_copy_106 : decode cX10_copy 106 = .ok (.ldc 90, 2) := by decide +kernel
theorem dX10_copy_108 : decode cX10_copy 108 = .ok (.invokevirtual 91, 3) := by decide +kernel
theorem dX10_copy_111 : decode cX10_copy 111 = .ok (.ireturn, 1) := by decide +kernel
theorem dX10_copy_112 : decode cX10_copy 112 = .ok (.aload 6, 2) := by decide +kernel
theorem dX10_copy_114 : decode cX10_copy 114 = .ok (.getfield 239, 3) := by decide +kernel
theorem dX10_copy_117 : decode cX10_copy 117 = .ok (.iload_n 2, 1) := by decide +kernel
theorem dX10_copy_118 : decode cX10_copy 118 = .ok (.aload 7, 2) := by decide +kernel
theorem dX10_copy_120 : decode cX10_copy 120 = .ok (.getfield 239, 3) := by decide +kernel
theorem dX10_copy_123 : decode cX10_copy 123 = .ok (.iload 4, 2) := by decide +kernel
theorem dX10_copy_125 : decode cX10_copy 125 = .ok (.iload 5, 2) := by decide +kernel
theorem dX10_copy_127 : decode cX10_copy 127 = .ok (.invokestatic 266, 3) := by decide +kernel
theorem dX10_copy_130 : decode cX10_copy 130 = .ok (.iload 5, 2) := by decide +kernel
theorem dX10_copy_132 : decode cX10_copy 132 = .ok (.ireturn, 1) := by decide +kernel
theorem dX10_undo_0 : decode cX10_undo 0 = .ok (.aload_n 0, 1) := by decide +kernel
theorem dX10_undo_1 : decode cX10_undo 1 = .ok (.getfield 65, 3) := by decide +kernel
theorem dX10_undo_4 : decode cX10_undo 4 = .ok (.getfield 272, 3) := by decide +kernel
theorem dX10_undo_7 : decode cX10_undo 7 = .ok (.ifCond .gt 10, 3) := by decide +kernel
theorem dX10_undo_10 : decode cX10_undo 10 = .ok (.aload_n 0, 1) := by decide +kernel
theorem dX10_undo_11 : decode cX10_undo 11 = .ok (.ldc 135, 2) := by decide +kernel
theorem dX10_undo_13 : decode cX10_undo 13 = .ok (.invokevirtual 91, 3) := by decide +kernel
theorem dX10_undo_16 : decode cX10_undo 16 = .ok (.ireturn, 1) := by decide +kernel
theorem dX10_undo_17 : decode cX10_undo 17 = .ok (.aload_n 0, 1) := by decide +kernel
theorem dX10_undo_18 : decode cX10_undo 18 = .ok (.getfield 65, 3) := by decide +kernel
theorem dX10_undo_21 : decode cX10_undo 21 = .ok (.invokevirtual 275, 3) := by decide +kernel
theorem dX10_undo_24 : decode cX10_undo 24 = .ok (.astore_n 1, 1) := by decide +kernel
theorem dX10_undo_25 : decode cX10_undo 25 = .ok (.aload_n 0, 1) := by decide +kernel
theorem dX10_undo_26 : decode cX10_undo 26 = .ok (.getfield 44, 3) := by decide +kernel
theorem dX10_undo_29 : decode cX10_undo 29 = .ok (.iconst 0, 1) := by decide +kernel
theorem dX10_undo_30 : decode cX10_undo 30 = .ok (.putfield 279, 3) := by decide +kernel
theorem dX10_undo_33 : decode cX10_undo 33 = .ok (.aload_n 1, 1) := by decide +kernel
theorem dX10_undo_34 : decode cX10_undo 34 = .ok (.getfield 283, 3) := by decide +kernel
theorem dX10_undo_37 : decode cX10_undo 37 = .ok (.iconst 4, 1) := by decide +kernel
theorem dX10_undo_38 : decode cX10_undo 38 = .ok (.if_icmp .le 12, 3) := by decide +kernel
theorem dX10_undo_41 : decode cX10_undo 41 = .ok (.aload_n 1, 1) := by decide +kernel
theorem dX10_undo_42 : decode cX10_undo 42 = .ok (.getfield 283, 3) := by decide +kernel
theorem dX10_undo_45 : decode cX10_undo 45 = .ok (.bipush 12, 2) := by decide +kernel
theorem dX10_undo_47 : decode cX10_undo 47 = .ok (.if_icmp .ne 11, 3) := by decide +kernel
theorem dX10_undo_50 : decode cX10_undo 50 = .ok (.aload_n 0, 1) := by decide +kernel
theorem dX10_undo_51 : decode cX10_undo 51 = .ok (.aload_n 1, 1) := by decide +kernel
theorem dX10_undo_52 : decode cX10_undo 52 = .ok (.invokevirtual 286, 3) := by decide +kernel
theorem dX10_undo_55 : decode cX10_undo 55 = .ok (.goto 8, 3) := by decide +kernel
theorem dX10_undo_58 : decode cX10_undo 58 = .ok (.aload_n 0, 1) := by decide +kernel
theorem dX10_undo_59 : decode cX10_undo 59 = .ok (.aload_n 1, 1) := by decide +kernel
theorem dX10_undo_60 : decode cX10_undo 60 = .ok (.invokevirtual 290, 3) := by decide +kernel
theorem dX10_undo_63 : decode cX10_undo 63 = .ok (.aload_n 0, 1) := by decide +kernel
theorem dX10_undo_64 : decode cX10_undo 64 = .ok (.getfield 65, 3) := by decide +kernel
theorem dX10_undo_67 : decode cX10_undo 67 = .ok (.getfield 272, 3) := by decide +kernel
theorem dX10_undo_70 : decode cX10_undo 70 = .ok (.ireturn, 1) := by decide +kernel
theorem dX10_all_0 : decode cX10_all 0 = .ok (.iload_n 1, 1) := by decide +kernel
theorem dX10_all_1 : decode cX10_all 1 = .ok (.tableswitch 66 0 4 #[35, 40, 45, 53, 61], 35) := by decide +kernel
theorem dX10_all_36 : decode cX10_all 36 = .ok (.aload_n 0, 1) := by decide +kernel
theorem dX10_all_37 : decode cX10_all 37 = .ok (.getfield 73, 3) := by decide +kernel
theorem dX10_all_40 : decode cX10_all 40 = .ok (.ireturn, 1) := by decide +kernel
theorem dX10_all_41 : decode cX10_all 41 = .ok (.aload_n 0, 1) := by decide +kernel
theorem dX10_all_42 : decode cX10_all 42 = .ok (.getfield 77, 3) := by decide +kernel
theorem dX10_all_45 : decode cX10_all 45 = .ok (.ireturn, 1) := by decide +kernel
theorem dX10_all_46 : decode cX10_all 46 = .ok (.aload_n 0, 1) := by decide +kernel
theorem dX10_all_47 : decode cX10_all 47 = .ok (.getfield 30, 3) := by decide +kernel
theorem dX10_all_50 : decode cX10_all 50 = .ok (.getfield 178, 3) := by decide +kernel
theorem dX10_all_53 : decode cX10_all 53 = .ok (.ireturn, 1) := by decide +kernel
theorem dX10_all_54 : decode cX10_all 54 = .ok (.aload_n 0, 1) := by decide +kernel
theorem dX10_all_55 : decode cX10_all 55 = .ok (.getfield 37, 3) := by decide +kernel
theorem dX10_all_58 : decode cX10_all 58 = .ok (.getfield 209, 3) := by decide +kernel
theorem dX10_all_61 : decode cX10_all 61 = .ok (.ireturn, 1) := by decide +kernel
theorem dX10_all_62 : decode cX10_all 62 = .ok (.aload_n 0, 1) := by decide +kernel
theorem dX10_all_63 : decode cX10_all 63 = .ok (.getfield 80, 3) := by decide +kernel
theorem dX10_all_66 : decode cX10_all 66 = .ok (.ireturn, 1) := by decide +kernel
theorem dX10_all_67 : decode cX10_all 67 = .ok (.aload_n 0, 1) := by decide +kernel
theorem dX10_all_68 : decode cX10_all 68 = .ok (.ldc 90, 2) := by decide +kernel
theorem dX10_all_70 : decode cX10_all 70 = .ok (.invokevirtual 91, 3) := by decide +kernel
theorem dX10_all_73 : decode cX10_all 73 = .ok (.ireturn, 1) := by decide +kernel
theorem dX10_finding_0 : decode cX10_finding 0 = .ok (.aload_n 0, 1) := by decide +kernel
theorem dX10_finding_1 : decode cX10_finding 1 = .ok (.dup, 1) := by decide +kernel
theorem dX10_finding_2 : decode cX10_finding 2 = .ok (.getfield 80, 3) := by decide +kernel
theorem dX10_finding_5 : decode cX10_finding 5 = .ok (.iconst 1, 1) := by decide +kernel
theorem dX10_finding_6 : decode cX10_finding 6 = .ok (.iadd, 1) := by decide +kernel
theorem dX10_finding_7 : decode cX10_finding 7 = .ok (.putfield 80, 3) := by decide +kernel
theorem dX10_finding_10 : decode cX10_finding 10 = .ok (.iload_n 1, 1) := by decide +kernel
theorem dX10_finding_11 : decode cX10_finding 11 = .ok (.ireturn, 1) := by decide +kernel
theorem dX10_within_0 : decode cX10_within 0 = .ok (.iload_n 0, 1) := by decide +kernel
theorem dX10_within_1 : decode cX10_within 1 = .ok (.ifCond .lt 12, 3) := by decide +kernel
theorem dX10_within_4 : decode cX10_within 4 = .ok (.iload_n 0, 1) := by decide +kernel
theorem dX10_within_5 : decode cX10_within 5 = .ok (.iload_n 1, 1) := by decide +kernel
theorem dX10_within_6 : decode cX10_within 6 = .ok (.if_icmp .ge 7, 3) := by decide +kernel
theorem dX10_within_9 : decode cX10_within 9 = .ok (.iconst 1, 1) := by decide +kernel
theorem dX10_within_10 : decode cX10_within 10 = .ok (.goto 4, 3) := by decide +kernel
theorem dX10_within_13 : decode cX10_within 13 = .ok (.iconst 0, 1) := by decide +kernel
theorem dX10_within_14 : decode cX10_within 14 = .ok (.ireturn, 1) := by decide +kernel
theorem dX10_isNoneOrWithin_0 : decode cX10_isNoneOrWithin 0 = .ok (.iload_n 0, 1) := by decide +kernel
theorem dX10_isNoneOrWithin_1 : decode cX10_isNoneOrWithin 1 = .ok (.iconst (-1), 1) := by decide +kernel
theorem dX10_isNoneOrWithin_2 : decode cX10_isNoneOrWithin 2 = .ok (.if_icmp .eq 11, 3) := by decide +kernel
theorem dX10_isNoneOrWithin_5 : decode cX10_isNoneOrWithin 5 = .ok (.iload_n 0, 1) := by decide +kernel
theorem dX10_isNoneOrWithin_6 : decode cX10_isNoneOrWithin 6 = .ok (.iload_n 1, 1) := by decide +kernel
theorem dX10_isNoneOrWithin_7 : decode cX10_isNoneOrWithin 7 = .ok (.invokestatic 86, 3) := by decide +kernel
theorem dX10_isNoneOrWithin_10 : decode cX10_isNoneOrWithin 10 = .ok (.ifCond .eq 7, 3) := by decide +kernel
theorem dX10_isNoneOrWithin_13 : decode cX10_isNoneOrWithin 13 = .ok (.iconst 1, 1) := by decide +kernel
theorem dX10_isNoneOrWithin_14 : decode cX10_isNoneOrWithin 14 = .ok (.goto 4, 3) := by decide +kernel
theorem dX10_isNoneOrWithin_17 : decode cX10_isNoneOrWithin 17 = .ok (.iconst 0, 1) := by decide +kernel
theorem dX10_isNoneOrWithin_18 : decode cX10_isNoneOrWithin 18 = .ok (.ireturn, 1) := by decide +kernel
theorem dX10_isLength_0 : decode cX10_isLength 0 = .ok (.iload_n 0, 1) := by decide +kernel
theorem dX10_isLength_1 : decode cX10_isLength 1 = .ok (.iconst 1, 1) := by decide +kernel
theorem dX10_isLength_2 : decode cX10_isLength 2 = .ok (.if_icmp .lt 13, 3) := by decide +kernel
theorem dX10_isLength_5 : decode cX10_isLength 5 = .ok (.iload_n 0, 1) := by decide +kernel
theorem dX10_isLength_6 : decode cX10_isLength 6 = .ok (.bipush 6, 2) := by decide +kernel
theorem dX10_isLength_8 : decode cX10_isLength 8 = .ok (.if_icmp .gt 7, 3) := by decide +kernel
theorem dX10_isLength_11 : decode cX10_isLength 11 = .ok (.iconst 1, 1) := by decide +kernel
theorem dX10_isLength_12 : decode cX10_isLength 12 = .ok (.goto 4, 3) := by decide +kernel
theorem dX10_isLength_15 : decode cX10_isLength 15 = .ok (.iconst 0, 1) := by decide +kernel
theorem dX10_isLength_16 : decode cX10_isLength 16 = .ok (.ireturn, 1) := by decide +kernel
theorem dX10_isLine_0 : decode cX10_isLine 0 = .ok (.iload_n 1, 1) := by decide +kernel
theorem dX10_isLine_1 : decode cX10_isLine 1 = .ok (.aload_n 0, 1) := by decide +kernel
theorem dX10_isLine_2 : decode cX10_isLine 2 = .ok (.getfield 73, 3) := by decide +kernel
theorem dX10_isLine_5 : decode cX10_isLine 5 = .ok (.invokestatic 86, 3) := by decide +kernel
theorem dX10_isLine_8 : decode cX10_isLine 8 = .ok (.ireturn, 1) := by decide +kernel
theorem dX10_isWording_0 : decode cX10_isWording 0 = .ok (.iload_n 1, 1) := by decide +kernel
theorem dX10_isWording_1 : decode cX10_isWording 1 = .ok (.aload_n 0, 1) := by decide +kernel
theorem dX10_isWording_2 : decode cX10_isWording 2 = .ok (.getfield 77, 3) := by decide +kernel
theorem dX10_isWording_5 : decode cX10_isWording 5 = .ok (.invokestatic 86, 3) := by decide +kernel
theorem dX10_isWording_8 : decode cX10_isWording 8 = .ok (.ireturn, 1) := by decide +kernel
theorem dX10_remember_0 : decode cX10_remember 0 = .ok (.aload_n 0, 1) := by decide +kernel
theorem dX10_remember_1 : decode cX10_remember 1 = .ok (.getfield 44, 3) := by decide +kernel
theorem dX10_remember_4 : decode cX10_remember 4 = .ok (.iconst 0, 1) := by decide +kernel
theorem dX10_remember_5 : decode cX10_remember 5 = .ok (.putfield 279, 3) := by decide +kernel
theorem dX10_remember_8 : decode cX10_remember 8 = .ok (.aload_n 0, 1) := by decide +kernel
theorem dX10_remember_9 : decode cX10_remember 9 = .ok (.getfield 65, 3) := by decide +kernel
theorem dX10_remember_12 : decode cX10_remember 12 = .ok (.iload_n 1, 1) := by decide +kernel
theorem dX10_remember_13 : decode cX10_remember 13 = .ok (.iload_n 2, 1) := by decide +kernel
theorem dX10_remember_14 : decode cX10_remember 14 = .ok (.iload_n 3, 1) := by decide +kernel
theorem dX10_remember_15 : decode cX10_remember 15 = .ok (.invokevirtual 293, 3) := by decide +kernel
theorem dX10_remember_18 : decode cX10_remember 18 = .ok (.areturn, 1) := by decide +kernel
theorem dX10_countWordings_0 : decode cX10_countWordings 0 = .ok (.iconst 0, 1) := by decide +kernel
theorem dX10_countWordings_1 : decode cX10_countWordings 1 = .ok (.istore_n 2, 1) := by decide +kernel
theorem dX10_countWordings_2 : decode cX10_countWordings 2 = .ok (.iconst 0, 1) := by decide +kernel
theorem dX10_countWordings_3 : decode cX10_countWordings 3 = .ok (.istore_n 3, 1) := by decide +kernel
theorem dX10_countWordings_4 : decode cX10_countWordings 4 = .ok (.iload_n 3, 1) := by decide +kernel
theorem dX10_countWordings_5 : decode cX10_countWordings 5 = .ok (.aload_n 0, 1) := by decide +kernel
theorem dX10_countWordings_6 : decode cX10_countWordings 6 = .ok (.getfield 77, 3) := by decide +kernel
theorem dX10_countWordings_9 : decode cX10_countWordings 9 = .ok (.if_icmp .ge 25, 3) := by decide +kernel
theorem dX10_countWordings_12 : decode cX10_countWordings 12 = .ok (.aload_n 0, 1) := by decide +kernel
theorem dX10_countWordings_13 : decode cX10_countWordings 13 = .ok (.getfield 17, 3) := by decide +kernel
theorem dX10_countWordings_16 : decode cX10_countWordings 16 = .ok (.iload_n 3, 1) := by decide +kernel
theorem dX10_countWordings_17 : decode cX10_countWordings 17 = .ok (.aaload, 1) := by decide +kernel
theorem dX10_countWordings_18 : decode cX10_countWordings 18 = .ok (.getfield 142, 3) := by decide +kernel
theorem dX10_countWordings_21 : decode cX10_countWordings 21 = .ok (.iload_n 1, 1) := by decide +kernel
theorem dX10_countWordings_22 : decode cX10_countWordings 22 = .ok (.if_icmp .ne 6, 3) := by decide +kernel
theorem dX10_countWordings_25 : decode cX10_countWordings 25 = .ok (.iinc 2 1, 3) := by decide +kernel
theorem dX10_countWordings_28 : decode cX10_countWordings 28 = .ok (.iinc 3 1, 3) := by decide +kernel
theorem dX10_countWordings_31 : decode cX10_countWordings 31 = .ok (.goto (-27), 3) := by decide +kernel
theorem dX10_countWordings_34 : decode cX10_countWordings 34 = .ok (.iload_n 2, 1) := by decide +kernel
theorem dX10_countWordings_35 : decode cX10_countWordings 35 = .ok (.ireturn, 1) := by decide +kernel
theorem dX10_findFit_0 : decode cX10_findFit 0 = .ok (.aload_n 0, 1) := by decide +kernel
theorem dX10_findFit_1 : decode cX10_findFit 1 = .ok (.getfield 17, 3) := by decide +kernel
theorem dX10_findFit_4 : decode cX10_findFit 4 = .ok (.iload_n 1, 1) := by decide +kernel
theorem dX10_findFit_5 : decode cX10_findFit 5 = .ok (.aaload, 1) := by decide +kernel
theorem dX10_findFit_6 : decode cX10_findFit 6 = .ok (.astore_n 2, 1) := by decide +kernel
theorem dX10_findFit_7 : decode cX10_findFit 7 = .ok (.aload_n 0, 1) := by decide +kernel
theorem dX10_findFit_8 : decode cX10_findFit 8 = .ok (.getfield 51, 3) := by decide +kernel
theorem dX10_findFit_11 : decode cX10_findFit 11 = .ok (.aload_n 2, 1) := by decide +kernel
theorem dX10_findFit_12 : decode cX10_findFit 12 = .ok (.aload_n 0, 1) := by decide +kernel
theorem dX10_findFit_13 : decode cX10_findFit 13 = .ok (.getfield 11, 3) := by decide +kernel
theorem dX10_findFit_16 : decode cX10_findFit 16 = .ok (.aload_n 2, 1) := by decide +kernel
theorem dX10_findFit_17 : decode cX10_findFit 17 = .ok (.getfield 142, 3) := by decide +kernel
theorem dX10_findFit_20 : decode cX10_findFit 20 = .ok (.aaload, 1) := by decide +kernel
theorem dX10_findFit_21 : decode cX10_findFit 21 = .ok (.invokevirtual 295, 3) := by decide +kernel
theorem dX10_findFit_24 : decode cX10_findFit 24 = .ok (.ireturn, 1) := by decide +kernel
theorem dX10_worthOfFit_0 : decode cX10_worthOfFit 0 = .ok (.aload_n 0, 1) := by decide +kernel
theorem dX10_worthOfFit_1 : decode cX10_worthOfFit 1 = .ok (.getfield 17, 3) := by decide +kernel
theorem dX10_worthOfFit_4 : decode cX10_worthOfFit 4 = .ok (.iload_n 1, 1) := by decide +kernel
theorem dX10_worthOfFit_5 : decode cX10_worthOfFit 5 = .ok (.aaload, 1) := by decide +kernel
theorem dX10_worthOfFit_6 : decode cX10_worthOfFit 6 = .ok (.getfield 148, 3) := by decide +kernel
theorem dX10_worthOfFit_9 : decode cX10_worthOfFit 9 = .ok (.aload_n 0, 1) := by decide +kernel
theorem dX10_worthOfFit_10 : decode cX10_worthOfFit 10 = .ok (.getfield 51, 3) := by decide +kernel
theorem dX10_worthOfFit_13 : decode cX10_worthOfFit 13 = .ok (.getfield 160, 3) := by decide +kernel
theorem dX10_worthOfFit_16 : decode cX10_worthOfFit 16 = .ok (.isub, 1) := by decide +kernel
theorem dX10_worthOfFit_17 : decode cX10_worthOfFit 17 = .ok (.ireturn, 1) := by decide +kernel
theorem dX10_findBest_0 : decode cX10_findBest 0 = .ok (.iconst (-1), 1) := by decide +kernel
theorem dX10_findBest_1 : decode cX10_findBest 1 = .ok (.istore 4, 2) := by decide +kernel
theorem dX10_findBest_3 : decode cX10_findBest 3 = .ok (.iconst 0, 1) := by decide +kernel
theorem dX10_findBest_4 : decode cX10_findBest 4 = .ok (.istore 5, 2) := by decide +kernel
theorem dX10_findBest_6 : decode cX10_findBest 6 = .ok (.iconst 0, 1) := by decide +kernel
theorem dX10_findBest_7 : decode cX10_findBest 7 = .ok (.istore 6, 2) := by decide +kernel
theorem dX10_findBest_9 : decode cX10_findBest 9 = .ok (.iload 6, 2) := by decide +kernel
theorem dX10_findBest_11 : decode cX10_findBest 11 = .ok (.aload_n 0, 1) := by decide +kernel
theorem dX10_findBest_12 : decode cX10_findBest 12 = .ok (.getfield 77, 3) := by decide +kernel
theorem dX10_findBest_15 : decode cX10_findBest 15 = .ok (.if_icmp .ge 82, 3) := by decide +kernel
theorem dX10_findBest_18 : decode cX10_findBest 18 = .ok (.aload_n 0, 1) := by decide +kernel
theorem dX10_findBest_19 : decode cX10_findBest 19 = .ok (.getfield 17, 3) := by decide +kernel
theorem dX10_findBest_22 : decode cX10_findBest 22 = .ok (.iload 6, 2) := by decide +kernel
theorem dX10_findBest_24 : decode cX10_findBest 24 = .ok (.aaload, 1) := by decide +kernel
theorem dX10_findBest_25 : decode cX10_findBest 25 = .ok (.getfield 142, 3) := by decide +kernel
theorem dX10_findBest_28 : decode cX10_findBest 28 = .ok (.iload_n 1, 1) := by decide +kernel
theorem dX10_findBest_29 : decode cX10_findBest 29 = .ok (.if_icmp .ne 62, 3) := by decide +kernel
theorem dX10_findBest_32 : decode cX10_findBest 32 = .ok (.aload_n 0, 1) := by decide +kernel
theorem dX10_findBest_33 : decode cX10_findBest 33 = .ok (.getfield 30, 3) := by decide +kernel
theorem dX10_findBest_36 : decode cX10_findBest 36 = .ok (.aload_n 0, 1) := by decide +kernel
theorem dX10_findBest_37 : decode cX10_findBest 37 = .ok (.getfield 17, 3) := by decide +kernel
theorem dX10_findBest_40 : decode cX10_findBest 40 = .ok (.iload 6, 2) := by decide +kernel
theorem dX10_findBest_42 : decode cX10_findBest 42 = .ok (.aaload, 1) := by decide +kernel
theorem dX10_findBest_43 : decode cX10_findBest 43 = .ok (.iload_n 2, 1) := by decide +kernel
theorem dX10_findBest_44 : decode cX10_findBest 44 = .ok (.iload_n 3, 1) := by decide +kernel
theorem dX10_findBest_45 : decode cX10_findBest 45 = .ok (.invokevirtual 190, 3) := by decide +kernel
theorem dX10_findBest_48 : decode cX10_findBest 48 = .ok (.ifCond .eq 43, 3) := by decide +kernel
theorem dX10_findBest_51 : decode cX10_findBest 51 = .ok (.aload_n 0, 1) := by decide +kernel
theorem dX10_findBest_52 : decode cX10_findBest 52 = .ok (.iload 6, 2) := by decide +kernel
theorem dX10_findBest_54 : decode cX10_findBest 54 = .ok (.invokevirtual 157, 3) := by decide +kernel
theorem dX10_findBest_57 : decode cX10_findBest 57 = .ok (.ifCond .ne 6, 3) := by decide +kernel
theorem dX10_findBest_60 : decode cX10_findBest 60 = .ok (.goto 31, 3) := by decide +kernel
theorem dX10_findBest_63 : decode cX10_findBest 63 = .ok (.aload_n 0, 1) := by decide +kernel
theorem dX10_findBest_64 : decode cX10_findBest 64 = .ok (.iload 6, 2) := by decide +kernel
theorem dX10_findBest_66 : decode cX10_findBest 66 = .ok (.invokevirtual 197, 3) := by decide +kernel
theorem dX10_findBest_69 : decode cX10_findBest 69 = .ok (.istore 7, 2) := by decide +kernel
theorem dX10_findBest_71 : decode cX10_findBest 71 = .ok (.iload 4, 2) := by decide +kernel
theorem dX10_findBest_73 : decode cX10_findBest 73 = .ok (.ifCond .lt 10, 3) := by decide +kernel
theorem dX10_findBest_76 : decode cX10_findBest 76 = .ok (.iload 7, 2) := by decide +kernel
theorem dX10_findBest_78 : decode cX10_findBest 78 = .ok (.iload 5, 2) := by decide +kernel
theorem dX10_findBest_80 : decode cX10_findBest 80 = .ok (.if_icmp .le 11, 3) := by decide +kernel
theorem dX10_findBest_83 : decode cX10_findBest 83 = .ok (.iload 6, 2) := by decide +kernel
theorem dX10_findBest_85 : decode cX10_findBest 85 = .ok (.istore 4, 2) := by decide +kernel
theorem dX10_findBest_87 : decode cX10_findBest 87 = .ok (.iload 7, 2) := by decide +kernel
theorem dX10_findBest_89 : decode cX10_findBest 89 = .ok (.istore 5, 2) := by decide +kernel
theorem dX10_findBest_91 : decode cX10_findBest 91 = .ok (.iinc 6 1, 3) := by decide +kernel
theorem dX10_findBest_94 : decode cX10_findBest 94 = .ok (.goto (-85), 3) := by decide +kernel
theorem dX10_findBest_97 : decode cX10_findBest 97 = .ok (.iload 4, 2) := by decide +kernel
theorem dX10_findBest_99 : decode cX10_findBest 99 = .ok (.ireturn, 1) := by decide +kernel
theorem dX10_takeBackOfLines_0 : decode cX10_takeBackOfLines 0 = .ok (.aload_n 1, 1) := by decide +kernel
theorem dX10_takeBackOfLines_1 : decode cX10_takeBackOfLines 1 = .ok (.getfield 283, 3) := by decide +kernel
theorem dX10_takeBackOfLines_4 : decode cX10_takeBackOfLines 4 = .ok (.tableswitch 175 0 12 #[68, 81, 102, 115, 136, 175, 175, 175, 175, 175, 175, 175, 152], 68) := by decide +kernel
theorem dX10_takeBackOfLines_72 : decode cX10_takeBackOfLines 72 = .ok (.aload_n 0, 1) := by decide +kernel
theorem dX10_takeBackOfLines_73 : decode cX10_takeBackOfLines 73 = .ok (.dup, 1) := by decide +kernel
theorem dX10_takeBackOfLines_74 : decode cX10_takeBackOfLines 74 = .ok (.getfield 73, 3) := by decide +kernel
theorem dX10_takeBackOfLines_77 : decode cX10_takeBackOfLines 77 = .ok (.iconst 1, 1) := by decide +kernel
theorem dX10_takeBackOfLines_78 : decode cX10_takeBackOfLines 78 = .ok (.isub, 1) := by decide +kernel
theorem dX10_takeBackOfLines_79 : decode cX10_takeBackOfLines 79 = .ok (.putfield 73, 3) := by decide +kernel
theorem dX10_takeBackOfLines_82 : decode cX10_takeBackOfLines 82 = .ok (.goto 97, 3) := by decide +kernel
theorem dX10_takeBackOfLines_85 : decode cX10_takeBackOfLines 85 = .ok (.aload_n 0, 1) := by decide +kernel
theorem dX10_takeBackOfLines_86 : decode cX10_takeBackOfLines 86 = .ok (.getfield 11, 3) := by decide +kernel
theorem dX10_takeBackOfLines_89 : decode cX10_takeBackOfLines 89 = .ok (.aload_n 1, 1) := by decide +kernel
theorem dX10_takeBackOfLines_90 : decode cX10_takeBackOfLines 90 = .ok (.getfield 299, 3) := by decide +kernel
theorem dX10_takeBackOfLines_93 : decode cX10_takeBackOfLines 93 = .ok (.aaload, 1) := by decide +kernel
theorem dX10_takeBackOfLines_94 : decode cX10_takeBackOfLines 94 = .ok (.dup, 1) := by decide +kernel
theorem dX10_takeBackOfLines_95 : decode cX10_takeBackOfLines 95 = .ok (.getfield 108, 3) := by decide +kernel
theorem dX10_takeBackOfLines_98 : decode cX10_takeBackOfLines 98 = .ok (.iconst 1, 1) := by decide +kernel
theorem dX10_takeBackOfLines_99 : decode cX10_takeBackOfLines 99 = .ok (.isub, 1) := by decide +kernel
theorem dX10_takeBackOfLines_100 : decode cX10_takeBackOfLines 100 = .ok (.putfield 108, 3) := by decide +kernel
theorem dX10_takeBackOfLines_103 : decode cX10_takeBackOfLines 103 = .ok (.goto 76, 3) := by decide +kernel
theorem dX10_takeBackOfLines_106 : decode cX10_takeBackOfLines 106 = .ok (.aload_n 0, 1) := by decide +kernel
theorem dX10_takeBackOfLines_107 : decode cX10_takeBackOfLines 107 = .ok (.dup, 1) := by decide +kernel
theorem dX10_takeBackOfLines_108 : decode cX10_takeBackOfLines 108 = .ok (.getfield 77, 3) := by decide +kernel
theorem dX10_takeBackOfLines_111 : decode cX10_takeBackOfLines 111 = .ok (.iconst 1, 1) := by decide +kernel
theorem dX10_takeBackOfLines_112 : decode cX10_takeBackOfLines 112 = .ok (.isub, 1) := by decide +kernel
theorem dX10_takeBackOfLines_113 : decode cX10_takeBackOfLines 113 = .ok (.putfield 77, 3) := by decide +kernel
theorem dX10_takeBackOfLines_116 : decode cX10_takeBackOfLines 116 = .ok (.goto 63, 3) := by decide +kernel
theorem dX10_takeBackOfLines_119 : decode cX10_takeBackOfLines 119 = .ok (.aload_n 0, 1) := by decide +kernel
theorem dX10_takeBackOfLines_120 : decode cX10_takeBackOfLines 120 = .ok (.getfield 17, 3) := by decide +kernel
theorem dX10_takeBackOfLines_123 : decode cX10_takeBackOfLines 123 = .ok (.aload_n 1, 1) := by decide +kernel
theorem dX10_takeBackOfLines_124 : decode cX10_takeBackOfLines 124 = .ok (.getfield 299, 3) := by decide +kernel
theorem dX10_takeBackOfLines_127 : decode cX10_takeBackOfLines 127 = .ok (.aaload, 1) := by decide +kernel
theorem dX10_takeBackOfLines_128 : decode cX10_takeBackOfLines 128 = .ok (.dup, 1) := by decide +kernel
theorem dX10_takeBackOfLines_129 : decode cX10_takeBackOfLines 129 = .ok (.getfield 128, 3) := by decide +kernel
theorem dX10_takeBackOfLines_132 : decode cX10_takeBackOfLines 132 = .ok (.iconst 1, 1) := by decide +kernel
theorem dX10_takeBackOfLines_133 : decode cX10_takeBackOfLines 133 = .ok (.isub, 1) := by decide +kernel
theorem dX10_takeBackOfLines_134 : decode cX10_takeBackOfLines 134 = .ok (.putfield 128, 3) := by decide +kernel
theorem dX10_takeBackOfLines_137 : decode cX10_takeBackOfLines 137 = .ok (.goto 42, 3) := by decide +kernel
theorem dX10_takeBackOfLines_140 : decode cX10_takeBackOfLines 140 = .ok (.aload_n 1, 1) := by decide +kernel
theorem dX10_takeBackOfLines_141 : decode cX10_takeBackOfLines 141 = .ok (.aload_n 0, 1) := by decide +kernel
theorem dX10_takeBackOfLines_142 : decode cX10_takeBackOfLines 142 = .ok (.getfield 17, 3) := by decide +kernel
theorem dX10_takeBackOfLines_145 : decode cX10_takeBackOfLines 145 = .ok (.aload_n 1, 1) := by decide +kernel
theorem dX10_takeBackOfLines_146 : decode cX10_takeBackOfLines 146 = .ok (.getfield 299, 3) := by decide +kernel
theorem dX10_takeBackOfLines_149 : decode cX10_takeBackOfLines 149 = .ok (.aaload, 1) := by decide +kernel
theorem dX10_takeBackOfLines_150 : decode cX10_takeBackOfLines 150 = .ok (.invokevirtual 302, 3) := by decide +kernel
theorem dX10_takeBackOfLines_153 : decode cX10_takeBackOfLines 153 = .ok (.goto 26, 3) := by decide +kernel
theorem dX10_takeBackOfLines_156 : decode cX10_takeBackOfLines 156 = .ok (.aload_n 0, 1) := by decide +kernel
theorem dX10_takeBackOfLines_157 : decode cX10_takeBackOfLines 157 = .ok (.getfield 11, 3) := by decide +kernel
theorem dX10_takeBackOfLines_160 : decode cX10_takeBackOfLines 160 = .ok (.aload_n 1, 1) := by decide +kernel
theorem dX10_takeBackOfLines_161 : decode cX10_takeBackOfLines 161 = .ok (.getfield 299, 3) := by decide +kernel
theorem dX10_takeBackOfLines_164 : decode cX10_takeBackOfLines 164 = .ok (.aaload, 1) := by decide +kernel
theorem dX10_takeBackOfLines_165 : decode cX10_takeBackOfLines 165 = .ok (.aload_n 1, 1) := by decide +kernel
theorem dX10_takeBackOfLines_166 : decode cX10_takeBackOfLines 166 = .ok (.getfield 305, 3) := by decide +kernel
theorem dX10_takeBackOfLines_169 : decode cX10_takeBackOfLines 169 = .ok (.aload_n 1, 1) := by decide +kernel
theorem dX10_takeBackOfLines_170 : decode cX10_takeBackOfLines 170 = .ok (.getfield 308, 3) := by decide +kernel
theorem dX10_takeBackOfLines_173 : decode cX10_takeBackOfLines 173 = .ok (.invokevirtual 250, 3) := by decide +kernel
theorem dX10_takeBackOfLines_176 : decode cX10_takeBackOfLines 176 = .ok (.goto 3, 3) := by decide +kernel
theorem dX10_takeBackOfLines_179 : decode cX10_takeBackOfLines 179 = .ok (.return_, 1) := by decide +kernel
theorem dX10_takeBackOfOthers_0 : decode cX10_takeBackOfOthers 0 = .ok (.aload_n 1, 1) := by decide +kernel
theorem dX10_takeBackOfOthers_1 : decode cX10_takeBackOfOthers 1 = .ok (.getfield 283, 3) := by decide +kernel
theorem dX10_takeBackOfOthers_4 : decode cX10_takeBackOfOthers 4 = .ok (.tableswitch 166 5 11 #[44, 63, 79, 98, 117, 136, 152], 44) := by decide +kernel
theorem dX10_takeBackOfOthers_48 : decode cX10_takeBackOfOthers 48 = .ok (.aload_n 0, 1) := by decide +kernel
theorem dX10_takeBackOfOthers_49 : decode cX10_takeBackOfOthers 49 = .ok (.getfield 30, 3) := by decide +kernel
theorem dX10_takeBackOfOthers_52 : decode cX10_takeBackOfOthers 52 = .ok (.getfield 175, 3) := by decide +kernel
theorem dX10_takeBackOfOthers_55 : decode cX10_takeBackOfOthers 55 = .ok (.aload_n 1, 1) := by decide +kernel
theorem dX10_takeBackOfOthers_56 : decode cX10_takeBackOfOthers 56 = .ok (.getfield 299, 3) := by decide +kernel
theorem dX10_takeBackOfOthers_59 : decode cX10_takeBackOfOthers 59 = .ok (.aload_n 1, 1) := by decide +kernel
theorem dX10_takeBackOfOthers_60 : decode cX10_takeBackOfOthers 60 = .ok (.getfield 311, 3) := by decide +kernel
theorem dX10_takeBackOfOthers_63 : decode cX10_takeBackOfOthers 63 = .ok (.iastore, 1) := by decide +kernel
theorem dX10_takeBackOfOthers_64 : decode cX10_takeBackOfOthers 64 = .ok (.goto 106, 3) := by decide +kernel
theorem dX10_takeBackOfOthers_67 : decode cX10_takeBackOfOthers 67 = .ok (.aload_n 0, 1) := by decide +kernel
theorem dX10_takeBackOfOthers_68 : decode cX10_takeBackOfOthers 68 = .ok (.getfield 30, 3) := by decide +kernel
theorem dX10_takeBackOfOthers_71 : decode cX10_takeBackOfOthers 71 = .ok (.dup, 1) := by decide +kernel
theorem dX10_takeBackOfOthers_72 : decode cX10_takeBackOfOthers 72 = .ok (.getfield 178, 3) := by decide +kernel
theorem dX10_takeBackOfOthers_75 : decode cX10_takeBackOfOthers 75 = .ok (.iconst 1, 1) := by decide +kernel
theorem dX10_takeBackOfOthers_76 : decode cX10_takeBackOfOthers 76 = .ok (.isub, 1) := by decide +kernel
theorem dX10_takeBackOfOthers_77 : decode cX10_takeBackOfOthers 77 = .ok (.putfield 178, 3) := by decide +kernel
theorem dX10_takeBackOfOthers_80 : decode cX10_takeBackOfOthers 80 = .ok (.goto 90, 3) := by decide +kernel
theorem dX10_takeBackOfOthers_83 : decode cX10_takeBackOfOthers 83 = .ok (.aload_n 0, 1) := by decide +kernel
theorem dX10_takeBackOfOthers_84 : decode cX10_takeBackOfOthers 84 = .ok (.getfield 37, 3) := by decide +kernel
theorem dX10_takeBackOfOthers_87 : decode cX10_takeBackOfOthers 87 = .ok (.getfield 200, 3) := by decide +kernel
theorem dX10_takeBackOfOthers_90 : decode cX10_takeBackOfOthers 90 = .ok (.aload_n 1, 1) := by decide +kernel
theorem dX10_takeBackOfOthers_91 : decode cX10_takeBackOfOthers 91 = .ok (.getfield 299, 3) := by decide +kernel
theorem dX10_takeBackOfOthers_94 : decode cX10_takeBackOfOthers 94 = .ok (.aload_n 1, 1) := by decide +kernel
theorem dX10_takeBackOfOthers_95 : decode cX10_takeBackOfOthers 95 = .ok (.getfield 311, 3) := by decide +kernel
theorem dX10_takeBackOfOthers_98 : decode cX10_takeBackOfOthers 98 = .ok (.iastore, 1) := by decide +kernel
theorem dX10_takeBackOfOthers_99 : decode cX10_takeBackOfOthers 99 = .ok (.goto 71, 3) := by decide +kernel
theorem dX10_takeBackOfOthers_102 : decode cX10_takeBackOfOthers 102 = .ok (.aload_n 0, 1) := by decide +kernel
theorem dX10_takeBackOfOthers_103 : decode cX10_takeBackOfOthers 103 = .ok (.getfield 37, 3) := by decide +kernel
theorem dX10_takeBackOfOthers_106 : decode cX10_takeBackOfOthers 106 = .ok (.getfield 203, 3) := by decide +kernel
theorem dX10_takeBackOfOthers_109 : decode cX10_takeBackOfOthers 109 = .ok (.aload_n 1, 1) := by decide +kernel
theorem dX10_takeBackOfOthers_110 : decode cX10_takeBackOfOthers 110 = .ok (.getfield 299, 3) := by decide +kernel
theorem dX10_takeBackOfOthers_113 : decode cX10_takeBackOfOthers 113 = .ok (.aload_n 1, 1) := by decide +kernel
theorem dX10_takeBackOfOthers_114 : decode cX10_takeBackOfOthers 114 = .ok (.getfield 311, 3) := by decide +kernel
theorem dX10_takeBackOfOthers_117 : decode cX10_takeBackOfOthers 117 = .ok (.iastore, 1) := by decide +kernel
theorem dX10_takeBackOfOthers_118 : decode cX10_takeBackOfOthers 118 = .ok (.goto 52, 3) := by decide +kernel
theorem dX10_takeBackOfOthers_121 : decode cX10_takeBackOfOthers 121 = .ok (.aload_n 0, 1) := by decide +kernel
theorem dX10_takeBackOfOthers_122 : decode cX10_takeBackOfOthers 122 = .ok (.getfield 37, 3) := by decide +kernel
theorem dX10_takeBackOfOthers_125 : decode cX10_takeBackOfOthers 125 = .ok (.getfield 206, 3) := by decide +kernel
theorem dX10_takeBackOfOthers_128 : decode cX10_takeBackOfOthers 128 = .ok (.aload_n 1, 1) := by decide +kernel
theorem dX10_takeBackOfOthers_129 : decode cX10_takeBackOfOthers 129 = .ok (.getfield 299, 3) := by decide +kernel
theorem dX10_takeBackOfOthers_132 : decode cX10_takeBackOfOthers 132 = .ok (.aload_n 1, 1) := by decide +kernel
theorem dX10_takeBackOfOthers_133 : decode cX10_takeBackOfOthers 133 = .ok (.getfield 311, 3) := by decide +kernel
theorem dX10_takeBackOfOthers_136 : decode cX10_takeBackOfOthers 136 = .ok (.iastore, 1) := by decide +kernel
theorem dX10_takeBackOfOthers_137 : decode cX10_takeBackOfOthers 137 = .ok (.goto 33, 3) := by decide +kernel
theorem dX10_takeBackOfOthers_140 : decode cX10_takeBackOfOthers 140 = .ok (.aload_n 0, 1) := by decide +kernel
theorem dX10_takeBackOfOthers_141 : decode cX10_takeBackOfOthers 141 = .ok (.getfield 37, 3) := by decide +kernel
theorem dX10_takeBackOfOthers_144 : decode cX10_takeBackOfOthers 144 = .ok (.dup, 1) := by decide +kernel
theorem dX10_takeBackOfOthers_145 : decode cX10_takeBackOfOthers 145 = .ok (.getfield 209, 3) := by decide +kernel
theorem dX10_takeBackOfOthers_148 : decode cX10_takeBackOfOthers 148 = .ok (.iconst 1, 1) := by decide +kernel
theorem dX10_takeBackOfOthers_149 : decode cX10_takeBackOfOthers 149 = .ok (.isub, 1) := by decide +kernel
theorem dX10_takeBackOfOthers_150 : decode cX10_takeBackOfOthers 150 = .ok (.putfield 209, 3) := by decide +kernel
theorem dX10_takeBackOfOthers_153 : decode cX10_takeBackOfOthers 153 = .ok (.goto 17, 3) := by decide +kernel
theorem dX10_takeBackOfOthers_156 : decode cX10_takeBackOfOthers 156 = .ok (.aload_n 0, 1) := by decide +kernel
theorem dX10_takeBackOfOthers_157 : decode cX10_takeBackOfOthers 157 = .ok (.getfield 37, 3) := by decide +kernel
theorem dX10_takeBackOfOthers_160 : decode cX10_takeBackOfOthers 160 = .ok (.aload_n 1, 1) := by decide +kernel
theorem dX10_takeBackOfOthers_161 : decode cX10_takeBackOfOthers 161 = .ok (.getfield 311, 3) := by decide +kernel
theorem dX10_takeBackOfOthers_164 : decode cX10_takeBackOfOthers 164 = .ok (.invokevirtual 212, 3) := by decide +kernel
theorem dX10_takeBackOfOthers_167 : decode cX10_takeBackOfOthers 167 = .ok (.goto 3, 3) := by decide +kernel
theorem dX10_takeBackOfOthers_170 : decode cX10_takeBackOfOthers 170 = .ok (.return_, 1) := by decide +kernel
end
section
theorem dX11_init_0 : decode cX11_init 0 = .ok (.aload_n 0, 1) := by decide +kernel
theorem dX11_init_1 : decode cX11_init 1 = .ok (.invokespecial 1, 3) := by decide +kernel
theorem dX11_init_4 : decode cX11_init 4 = .ok (.aload_n 0, 1) := by decide +kernel
theorem dX11_init_5 : decode cX11_init 5 = .ok (.sipush 365, 3) := by decide +kernel
theorem dX11_init_8 : decode cX11_init 8 = .ok (.newarray .int, 2) := by decide +kernel
theorem dX11_init_10 : decode cX11_init 10 = .ok (.putfield 9, 3) := by decide +kernel
theorem dX11_init_13 : decode cX11_init 13 = .ok (.aload_n 0, 1) := by decide +kernel
theorem dX11_init_14 : decode cX11_init 14 = .ok (.bipush 12, 2) := by decide +kernel
theorem dX11_init_16 : decode cX11_init 16 = .ok (.newarray .long, 2) := by decide +kernel
theorem dX11_init_18 : decode cX11_init 18 = .ok (.putfield 13, 3) := by decide +kernel
theorem dX11_init_21 : decode cX11_init 21 = .ok (.aload_n 0, 1) := by decide +kernel
theorem dX11_init_22 : decode cX11_init 22 = .ok (.sipush 7300, 3) := by decide +kernel
theorem dX11_init_25 : decode cX11_init 25 = .ok (.newarray .int, 2) := by decide +kernel
theorem dX11_init_27 : decode cX11_init 27 = .ok (.putfield 17, 3) := by decide +kernel
theorem dX11_init_30 : decode cX11_init 30 = .ok (.aload_n 0, 1) := by decide +kernel
theorem dX11_init_31 : decode cX11_init 31 = .ok (.sipush 240, 3) := by decide +kernel
theorem dX11_init_34 : decode cX11_init 34 = .ok (.newarray .long, 2) := by decide +kernel
theorem dX11_init_36 : decode cX11_init 36 = .ok (.putfield 20, 3) := by decide +kernel
theorem dX11_init_39 : decode cX11_init 39 = .ok (.aload_n 0, 1) := by decide +kernel
theorem dX11_init_40 : decode cX11_init 40 = .ok (.iconst 4, 1) := by decide +kernel
theorem dX11_init_41 : decode cX11_init 41 = .ok (.newarray .int, 2) := by decide +kernel
theorem dX11_init_43 : decode cX11_init 43 = .ok (.putfield 23, 3) := by decide +kernel
theorem dX11_init_46 : decode cX11_init 46 = .ok (.aload_n 0, 1) := by decide +kernel
theorem dX11_init_47 : decode cX11_init 47 = .ok (.iconst 4, 1) := by decide +kernel
theorem dX11_init_48 : decode cX11_init 48 = .ok (.newarray .int, 2) := by decide +kernel
theorem dX11_init_50 : decode cX11_init 50 = .ok (.putfield 26, 3) := by decide +kernel
theorem dX11_init_53 : decode cX11_init 53 = .ok (.aload_n 0, 1) := by decide +kernel
theorem dX11_init_54 : decode cX11_init 54 = .ok (.bipush 120, 2) := by decide +kernel
theorem dX11_init_56 : decode cX11_init 56 = .ok (.newarray .int, 2) := by decide +kernel
theorem dX11_init_58 : decode cX11_init 58 = .ok (.putfield 29, 3) := by decide +kernel
theorem dX11_init_61 : decode cX11_init 61 = .ok (.aload_n 0, 1) := by decide +kernel
theorem dX11_init_62 : decode cX11_init 62 = .ok (.sipush 225, 3) := by decide +kernel
theorem dX11_init_65 : decode cX11_init 65 = .ok (.newarray .int, 2) := by decide +kernel
theorem dX11_init_67 : decode cX11_init 67 = .ok (.putfield 32, 3) := by decide +kernel
theorem dX11_init_70 : decode cX11_init 70 = .ok (.aload_n 0, 1) := by decide +kernel
theorem dX11_init_71 : decode cX11_init 71 = .ok (.bipush 8, 2) := by decide +kernel
theorem dX11_init_73 : decode cX11_init 73 = .ok (.newarray .int, 2) := by decide +kernel
theorem dX11_init_75 : decode cX11_init 75 = .ok (.putfield 35, 3) := by decide +kernel
theorem dX11_init_78 : decode cX11_init 78 = .ok (.aload_n 0, 1) := by decide +kernel
theorem dX11_init_79 : decode cX11_init 79 = .ok (.bipush 8, 2) := by decide +kernel
theorem dX11_init_81 : decode cX11_init 81 = .ok (.newarray .int, 2) := by decide +kernel
theorem dX11_init_83 : decode cX11_init 83 = .ok (.putfield 38, 3) := by decide +kernel
theorem dX11_init_86 : decode cX11_init 86 = .ok (.aload_n 0, 1) := by decide +kernel
theorem dX11_init_87 : decode cX11_init 87 = .ok (.bipush 7, 2) := by decide +kernel
theorem dX11_init_89 : decode cX11_init 89 = .ok (.newarray .int, 2) := by decide +kernel
theorem dX11_init_91 : decode cX11_init 91 = .ok (.putfield 41, 3) := by decide +kernel
theorem dX11_init_94 : decode cX11_init 94 = .ok (.aload_n 0, 1) := by decide +kernel
theorem dX11_init_95 : decode cX11_init 95 = .ok (.bipush 7, 2) := by decide +kernel
theorem dX11_init_97 : decode cX11_init 97 = .ok (.newarray .int, 2) := by decide +kernel
theorem dX11_init_99 : decode cX11_init 99 = .ok (.putfield 44, 3) := by decide +kernel
theorem dX11_init_102 : decode cX11_init 102 = .ok (.aload_n 0, 1) := by decide +kernel
theorem dX11_init_103 : decode cX11_init 103 = .ok (.bipush 7, 2) := by decide +kernel
theorem dX11_init_105 : decode cX11_init 105 = .ok (.newarray .int, 2) := by decide +kernel
theorem dX11_init_107 : decode cX11_init 107 = .ok (.putfield 47, 3) := by decide +kernel
theorem dX11_init_110 : decode cX11_init 110 = .ok (.aload_n 0, 1) := by decide +kernel
theorem dX11_init_111 : decode cX11_init 111 = .ok (.sipush 625, 3) := by decide +kernel
theorem dX11_init_114 : decode cX11_init 114 = .ok (.newarray .int, 2) := by decide +kernel
theorem dX11_init_116 : decode cX11_init 116 = .ok (.putfield 50, 3) := by decide +kernel
theorem dX11_init_119 : decode cX11_init 119 = .ok (.aload_n 0, 1) := by decide +kernel
theorem dX11_init_120 : decode cX11_init 120 = .ok (.bipush 30, 2) := by decide +kernel
theorem dX11_init_122 : decode cX11_init 122 = .ok (.newarray .int, 2) := by decide +kernel
theorem dX11_init_124 : decode cX11_init 124 = .ok (.putfield 53, 3) := by decide +kernel
theorem dX11_init_127 : decode cX11_init 127 = .ok (.iconst 0, 1) := by decide +kernel
theorem dX11_init_128 : decode cX11_init 128 = .ok (.istore_n 1, 1) := by decide +kernel
theorem dX11_init_129 : decode cX11_init 129 = .ok (.iload_n 1, 1) := by decide +kernel
theorem dX11_init_130 : decode cX11_init 130 = .ok (.bipush 32, 2) := by decide +kernel
theorem dX11_init_132 : decode cX11_init 132 = .ok (.if_icmp .ge 20, 3) := by decide +kernel
theorem dX11_init_135 : decode cX11_init 135 = .ok (.aload_n 0, 1) := by decide +kernel
theorem dX11_init_136 : decode cX11_init 136 = .ok (.getfield 9, 3) := by decide +kernel
theorem dX11_init_139 : decode cX11_init 139 = .ok (.sipush 308, 3) := by decide +kernel
theorem dX11_init_142 : decode cX11_init 142 = .ok (.iload_n 1, 1) := by decide +kernel
theorem dX11_init_143 : decode cX11_init 143 = .ok (.iadd, 1) := by decide +kernel
theorem dX11_init_144 : decode cX11_init 144 = .ok (.iconst (-1), 1) := by decide +kernel
theorem dX11_init_145 : decode cX11_init 145 = .ok (.iastore, 1) := by decide +kernel
theorem dX11_init_146 : decode cX11_init 146 = .ok (.iinc 1 1, 3) := by decide +kernel
theorem dX11_init_149 : decode cX11_init 149 = .ok (.goto (-20), 3) := by decide +kernel
theorem dX11_init_152 : decode cX11_init 152 = .ok (.iconst 0, 1) := by decide +kernel
theorem dX11_init_153 : decode cX11_init 153 = .ok (.istore_n 1, 1) := by decide +kernel
theorem dX11_init_154 : decode cX11_init 154 = .ok (.iload_n 1, 1) := by decide +kernel
theorem dX11_init_155 : decode cX11_init 155 = .ok (.bipush 6, 2) := by decide +kernel
theorem dX11_init_157 : decode cX11_init 157 = .ok (.if_icmp .ge 20, 3) := by decide +kernel
theorem dX11_init_160 : decode cX11_init 160 = .ok (.aload_n 0, 1) := by decide +kernel
theorem dX11_init_161 : decode cX11_init 161 = .ok (.getfield 9, 3) := by decide +kernel
theorem dX11_init_164 : decode cX11_init 164 = .ok (.sipush 340, 3) := by decide +kernel
theorem dX11_init_167 : decode cX11_init 167 = .ok (.iload_n 1, 1) := by decide +kernel
theorem dX11_init_168 : decode cX11_init 168 = .ok (.iadd, 1) := by decide +kernel
theorem dX11_init_169 : decode cX11_init 169 = .ok (.iconst (-1), 1) := by decide +kernel
theorem dX11_init_170 : decode cX11_init 170 = .ok (.iastore, 1) := by decide +kernel
theorem dX11_init_171 : decode cX11_init 171 = .ok (.iinc 1 1, 3) := by decide +kernel
theorem dX11_init_174 : decode cX11_init 174 = .ok (.goto (-20), 3) := by decide +kernel
theorem dX11_init_177 : decode cX11_init 177 = .ok (.iconst 0, 1) := by decide +kernel
theorem dX11_init_178 : decode cX11_init 178 = .ok (.istore_n 1, 1) := by decide +kernel
theorem dX11_init_179 : decode cX11_init 179 = .ok (.iload_n 1, 1) := by decide +kernel
theorem dX11_init_180 : decode cX11_init 180 = .ok (.bipush 8, 2) := by decide +kernel
theorem dX11_init_182 : decode cX11_init 182 = .ok (.if_icmp .ge 21, 3) := by decide +kernel
theorem dX11_init_185 : decode cX11_init 185 = .ok (.aload_n 0, 1) := by decide +kernel
theorem dX11_init_186 : decode cX11_init 186 = .ok (.getfield 9, 3) := by decide +kernel
theorem dX11_init_189 : decode cX11_init 189 = .ok (.sipush 346, 3) := by decide +kernel
theorem dX11_init_192 : decode cX11_init 192 = .ok (.iload_n 1, 1) := by decide +kernel
theorem dX11_init_193 : decode cX11_init 193 = .ok (.iadd, 1) := by decide +kernel
theorem dX11_init_194 : decode cX11_init 194 = .ok (.bipush 15, 2) := by decide +kernel
theorem dX11_init_196 : decode cX11_init 196 = .ok (.iastore, 1) := by decide +kernel
theorem dX11_init_197 : decode cX11_init 197 = .ok (.iinc 1 1, 3) := by decide +kernel
theorem dX11_init_200 : decode cX11_init 200 = .ok (.goto (-21), 3) := by decide +kernel
theorem dX11_init_203 : decode cX11_init 203 = .ok (.iconst 0, 1) := by decide +kernel
theorem dX11_init_204 : decode cX11_init 204 = .ok (.istore_n 1, 1) := by decide +kernel
theorem dX11_init_205 : decode cX11_init 205 = .ok (.iload_n 1, 1) := by decide +kernel
theorem dX11_init_206 : decode cX11_init 206 = .ok (.iconst 4, 1) := by decide +kernel
theorem dX11_init_207 : decode cX11_init 207 = .ok (.if_icmp .ge 21, 3) := by decide +kernel
theorem dX11_init_210 : decode cX11_init 210 = .ok (.aload_n 0, 1) := by decide +kernel
theorem dX11_init_211 : decode cX11_init 211 = .ok (.getfield 9, 3) := by decide +kernel
theorem dX11_init_214 : decode cX11_init 214 = .ok (.sipush 354, 3) := by decide +kernel
theorem dX11_init_217 : decode cX11_init 217 = .ok (.iload_n 1, 1) := by decide +kernel
theorem dX11_init_218 : decode cX11_init 218 = .ok (.iadd, 1) := by decide +kernel
theorem dX11_init_219 : decode cX11_init 219 = .ok (.bipush 60, 2) := by decide +kernel
theorem dX11_init_221 : decode cX11_init 221 = .ok (.iastore, 1) := by decide +kernel
theorem dX11_init_222 : decode cX11_init 222 = .ok (.iinc 1 1, 3) := by decide +kernel
theorem dX11_init_225 : decode cX11_init 225 = .ok (.goto (-20), 3) := by decide +kernel
theorem dX11_init_228 : decode cX11_init 228 = .ok (.return_, 1) := by decide +kernel
theorem dX11_finding_0 : decode cX11_finding 0 = .ok (.aload_n 0, 1) := by decide +kernel
theorem dX11_finding_1 : decode cX11_finding 1 = .ok (.dup, 1) := by decide +kernel
theorem dX11_finding_2 : decode cX11_finding 2 = .ok (.getfield 56, 3) := by decide +kernel
theorem dX11_finding_5 : decode cX11_finding 5 = .ok (.iconst 1, 1) := by decide +kernel
theorem dX11_finding_6 : decode cX11_finding 6 = .ok (.iadd, 1) := by decide +kernel
theorem dX11_finding_7 : decode cX11_finding 7 = .ok (.putfield 56, 3) := by decide +kernel
theorem dX11_finding_10 : decode cX11_finding 10 = .ok (.iload_n 1, 1) := by decide +kernel
theorem dX11_finding_11 : decode cX11_finding 11 = .ok (.ireturn, 1) := by decide +kernel
theorem dX11_within_0 : decode cX11_within 0 = .ok (.iload_n 0, 1) := by decide +kernel
theorem dX11_within_1 : decode cX11_within 1 = .ok (.iload_n 1, 1) := by decide +kernel
theorem dX11_within_2 : decode cX11_within 2 = .ok (.if_icmp .lt 12, 3) := by decide +kernel
theorem dX11_within_5 : decode cX11_within 5 = .ok (.iload_n 0, 1) := by decide +kernel
theorem dX11_within_6 : decode cX11_within 6 = .ok (.iload_n 2, 1) := by decide +kernel
theorem dX11_within_7 : decode cX11_within 7 = .ok (.if_icmp .gt 7, 3) := by decide +kernel
theorem dX11_within_10 : decode cX11_within 10 = .ok (.iconst 1, 1) := by decide +kernel
theorem dX11_within_11 : decode cX11_within 11 = .ok (.goto 4, 3) := by decide +kernel
theorem dX11_within_14 : decode cX11_within 14 = .ok (.iconst 0, 1) := by decide +kernel
theorem dX11_within_15 : decode cX11_within 15 = .ok (.ireturn, 1) := by decide +kernel
theorem dX11_isLine_0 : decode cX11_isLine 0 = .ok (.iload_n 1, 1) := by decide +kernel
theorem dX11_isLine_1 : decode cX11_isLine 1 = .ok (.iconst 0, 1) := by decide +kernel
theorem dX11_isLine_2 : decode cX11_isLine 2 = .ok (.aload_n 0, 1) := by decide +kernel
theorem dX11_isLine_3 : decode cX11_isLine 3 = .ok (.getfield 9, 3) := by decide +kernel
theorem dX11_isLine_6 : decode cX11_isLine 6 = .ok (.iconst 0, 1) := by decide +kernel
theorem dX11_isLine_7 : decode cX11_isLine 7 = .ok (.iaload, 1) := by decide +kernel
theorem dX11_isLine_8 : decode cX11_isLine 8 = .ok (.iconst 1, 1) := by decide +kernel
theorem dX11_isLine_9 : decode cX11_isLine 9 = .ok (.isub, 1) := by decide +kernel
theorem dX11_isLine_10 : decode cX11_isLine 10 = .ok (.invokestatic 60, 3) := by decide +kernel
theorem dX11_isLine_13 : decode cX11_isLine 13 = .ok (.ireturn, 1) := by decide +kernel
theorem dX11_isWording_0 : decode cX11_isWording 0 = .ok (.iload_n 1, 1) := by decide +kernel
theorem dX11_isWording_1 : decode cX11_isWording 1 = .ok (.iconst 0, 1) := by decide +kernel
theorem dX11_isWording_2 : decode cX11_isWording 2 = .ok (.aload_n 0, 1) := by decide +kernel
theorem dX11_isWording_3 : decode cX11_isWording 3 = .ok (.getfield 9, 3) := by decide +kernel
theorem dX11_isWording_6 : decode cX11_isWording 6 = .ok (.iconst 1, 1) := by decide +kernel
theorem dX11_isWording_7 : decode cX11_isWording 7 = .ok (.iaload, 1) := by decide +kernel
theorem dX11_isWording_8 : decode cX11_isWording 8 = .ok (.iconst 1, 1) := by decide +kernel
theorem dX11_isWording_9 : decode cX11_isWording 9 = .ok (.isub, 1) := by decide +kernel
theorem dX11_isWording_10 : decode cX11_isWording 10 = .ok (.invokestatic 60, 3) := by decide +kernel
theorem dX11_isWording_13 : decode cX11_isWording 13 = .ok (.ireturn, 1) := by decide +kernel
theorem dX11_isLand_0 : decode cX11_isLand 0 = .ok (.iload_n 0, 1) := by decide +kernel
theorem dX11_isLand_1 : decode cX11_isLand 1 = .ok (.iconst 0, 1) := by decide +kernel
theorem dX11_isLand_2 : decode cX11_isLand 2 = .ok (.iconst 2, 1) := by decide +kernel
theorem dX11_isLand_3 : decode cX11_isLand 3 = .ok (.invokestatic 60, 3) := by decide +kernel
theorem dX11_isLand_6 : decode cX11_isLand 6 = .ok (.ireturn, 1) := by decide +kernel
theorem dX11_isDay_0 : decode cX11_isDay 0 = .ok (.iload_n 0, 1) := by decide +kernel
theorem dX11_isDay_1 : decode cX11_isDay 1 = .ok (.iconst 0, 1) := by decide +kernel
theorem dX11_isDay_2 : decode cX11_isDay 2 = .ok (.sipush 999, 3) := by decide +kernel
theorem dX11_isDay_5 : decode cX11_isDay 5 = .ok (.invokestatic 60, 3) := by decide +kernel
theorem dX11_isDay_8 : decode cX11_isDay 8 = .ok (.ireturn, 1) := by decide +kernel
theorem dX11_isWord_0 : decode cX11_isWord 0 = .ok (.iload_n 0, 1) := by decide +kernel
theorem dX11_isWord_1 : decode cX11_isWord 1 = .ok (.iconst 0, 1) := by decide +kernel
theorem dX11_isWord_2 : decode cX11_isWord 2 = .ok (.bipush 31, 2) := by decide +kernel
theorem dX11_isWord_4 : decode cX11_isWord 4 = .ok (.invokestatic 60, 3) := by decide +kernel
theorem dX11_isWord_7 : decode cX11_isWord 7 = .ok (.ireturn, 1) := by decide +kernel
theorem dX11_keep_0 : decode cX11_keep 0 = .ok (.aload_n 0, 1) := by decide +kernel
theorem dX11_keep_1 : decode cX11_keep 1 = .ok (.getfield 64, 3) := by decide +kernel
theorem dX11_keep_4 : decode cX11_keep 4 = .ok (.bipush 20, 2) := by decide +kernel
theorem dX11_keep_6 : decode cX11_keep 6 = .ok (.if_icmp .ne 74, 3) := by decide +kernel
theorem dX11_keep_9 : decode cX11_keep 9 = .ok (.iconst 0, 1) := by decide +kernel
theorem dX11_keep_10 : decode cX11_keep 10 = .ok (.istore_n 1, 1) := by decide +kernel
theorem dX11_keep_11 : decode cX11_keep 11 = .ok (.iload_n 1, 1) := by decide +kernel
theorem dX11_keep_12 : decode cX11_keep 12 = .ok (.sipush 6935, 3) := by decide +kernel
theorem dX11_keep_15 : decode cX11_keep 15 = .ok (.if_icmp .ge 25, 3) := by decide +kernel
theorem dX11_keep_18 : decode cX11_keep 18 = .ok (.aload_n 0, 1) := by decide +kernel
theorem dX11_keep_19 : decode cX11_keep 19 = .ok (.getfield 17, 3) := by decide +kernel
theorem dX11_keep_22 : decode cX11_keep 22 = .ok (.iload_n 1, 1) := by decide +kernel
theorem dX11_keep_23 : decode cX11_keep 23 = .ok (.aload_n 0, 1) := by decide +kernel
theorem dX11_keep_24 : decode cX11_keep 24 = .ok (.getfield 17, 3) := by decide +kernel
theorem dX11_keep_27 : decode cX11_keep 27 = .ok (.iload_n 1, 1) := by decide +kernel
theorem dX11_keep_28 : decode cX11_keep 28 = .ok (.sipush 365, 3) := by decide +kernel
theorem dX11_keep_31 : decode cX11_keep 31 = .ok (.iadd, 1) := by decide +kernel
theorem dX11_keep_32 : decode cX11_keep 32 = .ok (.iaload, 1) := by decide +kernel
theorem dX11_keep_33 : decode cX11_keep 33 = .ok (.iastore, 1) := by decide +kernel
theorem dX11_keep_34 : decode cX11_keep 34 = .ok (.iinc 1 1, 3) := by decide +kernel
theorem dX11_keep_37 : decode cX11_keep 37 = .ok (.goto (-26), 3) := by decide +kernel
theorem dX11_keep_40 : decode cX11_keep 40 = .ok (.iconst 0, 1) := by decide +kernel
theorem dX11_keep_41 : decode cX11_keep 41 = .ok (.istore_n 1, 1) := by decide +kernel
theorem dX11_keep_42 : decode cX11_keep 42 = .ok (.iload_n 1, 1) := by decide +kernel
theorem dX11_keep_43 : decode cX11_keep 43 = .ok (.sipush 228, 3) := by decide +kernel
theorem dX11_keep_46 : decode cX11_keep 46 = .ok (.if_icmp .ge 24, 3) := by decide +kernel
theorem dX11_keep_49 : decode cX11_keep 49 = .ok (.aload_n 0, 1) := by decide +kernel
theorem dX11_keep_50 : decode cX11_keep 50 = .ok (.getfield 20, 3) := by decide +kernel
theorem dX11_keep_53 : decode cX11_keep 53 = .ok (.iload_n 1, 1) := by decide +kernel
theorem dX11_keep_54 : decode cX11_keep 54 = .ok (.aload_n 0, 1) := by decide +kernel
theorem dX11_keep_55 : decode cX11_keep 55 = .ok (.getfield 20, 3) := by decide +kernel
theorem dX11_keep_58 : decode cX11_keep 58 = .ok (.iload_n 1, 1) := by decide +kernel
theorem dX11_keep_59 : decode cX11_keep 59 = .ok (.bipush 12, 2) := by decide +kernel
theorem dX11_keep_61 : decode cX11_keep 61 = .ok (.iadd, 1) := by decide +kernel
theorem dX11_keep_62 : decode cX11_keep 62 = .ok (.laload, 1) := by decide +kernel
theorem dX11_keep_63 : decode cX11_keep 63 = .ok (.lastore, 1) := by decide +kernel
theorem dX11_keep_64 : decode cX11_keep 64 = .ok (.iinc 1 1, 3) := by decide +kernel
theorem dX11_keep_67 : decode cX11_keep 67 = .ok (.goto (-25), 3) := by decide +kernel
theorem dX11_keep_70 : decode cX11_keep 70 = .ok (.aload_n 0, 1) := by decide +kernel
theorem dX11_keep_71 : decode cX11_keep 71 = .ok (.dup, 1) := by decide +kernel
theorem dX11_keep_72 : decode cX11_keep 72 = .ok (.getfield 64, 3) := by decide +kernel
theorem dX11_keep_75 : decode cX11_keep 75 = .ok (.iconst 1, 1) := by decide +kernel
theorem dX11_keep_76 : decode cX11_keep 76 = .ok (.isub, 1) := by decide +kernel
theorem dX11_keep_77 : decode cX11_keep 77 = .ok (.putfield 64, 3) := by decide +kernel
theorem dX11_keep_80 : decode cX11_keep 80 = .ok (.iconst 0, 1) := by decide +kernel
theorem dX11_keep_81 : decode cX11_keep 81 = .ok (.istore_n 1, 1) := by decide +kernel
theorem dX11_keep_82 : decode cX11_keep 82 = .ok (.iload_n 1, 1) := by decide +kernel
theorem dX11_keep_83 : decode cX11_keep 83 = .ok (.sipush 365, 3) := by decide +kernel
theorem dX11_keep_86 : decode cX11_keep 86 = .ok (.if_icmp .ge 30, 3) := by decide +kernel
theorem dX11_keep_89 : decode cX11_keep 89 = .ok (.aload_n 0, 1) := by decide +kernel
theorem dX11_keep_90 : decode cX11_keep 90 = .ok (.getfield 17, 3) := by decide +kernel
theorem dX11_keep_93 : decode cX11_keep 93 = .ok (.aload_n 0, 1) := by decide +kernel
theorem dX11_keep_94 : decode cX11_keep 94 = .ok (.getfield 64, 3) := by decide +kernel
theorem dX11_keep_97 : decode cX11_keep 97 = .ok (.sipush 365, 3) := by decide +kernel
theorem dX11_keep_100 : decode cX11_keep 100 = .ok (.imul, 1) := by decide +kernel
theorem dX11_keep_101 : decode cX11_keep 101 = .ok (.iload_n 1, 1) := by decide +kernel
theorem dX11_keep_102 : decode cX11_keep 102 = .ok (.iadd, 1) := by decide +kernel
theorem dX11_keep_103 : decode cX11_keep 103 = .ok (.aload_n 0, 1) := by decide +kernel
theorem dX11_keep_104 : decode cX11_keep 104 = .ok (.getfield 9, 3) := by decide +kernel
theorem dX11_keep_107 : decode cX11_keep 107 = .ok (.iload_n 1, 1) := by decide +kernel
theorem dX11_keep_108 : decode cX11_keep 108 = .ok (.iaload, 1) := by decide +kernel
theorem dX11_keep_109 : decode cX11_keep 109 = .ok (.iastore, 1) := by decide +kernel
theorem dX11_keep_110 : decode cX11_keep 110 = .ok (.iinc 1 1, 3) := by decide +kernel
theorem dX11_keep_113 : decode cX11_keep 113 = .ok (.goto (-31), 3) := by decide +kernel
theorem dX11_keep_116 : decode cX11_keep 116 = .ok (.iconst 0, 1) := by decide +kernel
theorem dX11_keep_117 : decode cX11_keep 117 = .ok (.istore_n 1, 1) := by decide +kernel
theorem dX11_keep_118 : decode cX11_keep 118 = .ok (.iload_n 1, 1) := by decide +kernel
theorem dX11_keep_119 : decode cX11_keep 119 = .ok (.bipush 12, 2) := by decide +kernel
theorem dX11_keep_121 : decode cX11_keep 121 = .ok (.if_icmp .ge 29, 3) := by decide +kernel
theorem dX11_keep_124 : decode cX11_keep 124 = .ok (.aload_n 0, 1) := by decide +kernel
theorem dX11_keep_125 : decode cX11_keep 125 = .ok (.getfield 20, 3) := by decide +kernel
theorem dX11_keep_128 : decode cX11_keep 128 = .ok (.aload_n 0, 1) := by decide +kernel
theorem dX11_keep_129 : decode cX11_keep 129 = .ok (.getfield 64, 3) := by decide +kernel
theorem dX11_keep_132 : decode cX11_keep 132 = .ok (.bipush 12, 2) := by decide +kernel
theorem dX11_keep_134 : decode cX11_keep 134 = .ok (.imul, 1) := by decide +kernel
theorem dX11_keep_135 : decode cX11_keep 135 = .ok (.iload_n 1, 1) := by decide +kernel
theorem dX11_keep_136 : decode cX11_keep 136 = .ok (.iadd, 1) := by decide +kernel
theorem dX11_keep_137 : decode cX11_keep 137 = .ok (.aload_n 0, 1) := by decide +kernel
theorem dX11_keep_138 : decode cX11_keep 138 = .ok (.getfield 13, 3) := by decide +kernel
theorem dX11_keep_141 : decode cX11_keep 141 = .ok (.iload_n 1, 1) := by decide +kernel
theorem dX11_keep_142 : decode cX11_keep 142 = .ok (.laload, 1) := by decide +kernel
theorem dX11_keep_143 : decode cX11_keep 143 = .ok (.lastore, 1) := by decide +kernel
theorem dX11_keep_144 : decode cX11_keep 144 = .ok (.iinc 1 1, 3) := by decide +kernel
theorem dX11_keep_147 : decode cX11_keep 147 = .ok (.goto (-29), 3) := by decide +kernel
theorem dX11_keep_150 : decode cX11_keep 150 = .ok (.aload_n 0, 1) := by decide +kernel
theorem dX11_keep_151 : decode cX11_keep 151 = .ok (.dup, 1) := by decide +kernel
theorem dX11_keep_152 : decode cX11_keep 152 = .ok (.getfield 64, 3) := by decide +kernel
theorem dX11_keep_155 : decode cX11_keep 155 = .ok (.iconst 1, 1) := by decide +kernel
theorem dX11_keep_156 : decode cX11_keep 156 = .ok (.iadd, 1) := by decide +kernel
theorem dX11_keep_157 : decode cX11_keep 157 = .ok (.putfield 64, 3) := by decide +kernel
theorem dX11_keep_160 : decode cX11_keep 160 = .ok (.return_, 1) := by decide +kernel
theorem dX11_undo_0 : decode cX11_undo 0 = .ok (.aload_n 0, 1) := by decide +kernel
theorem dX11_undo_1 : decode cX11_undo 1 = .ok (.getfield 64, 3) := by decide +kernel
theorem dX11_undo_4 : decode cX11_undo 4 = .ok (.ifCond .ne 10, 3) := by decide +kernel
theorem dX11_undo_7 : decode cX11_undo 7 = .ok (.aload_n 0, 1) := by decide +kernel
theorem dX11_undo_8 : decode cX11_undo 8 = .ok (.ldc 67, 2) := by decide +kernel
theorem dX11_undo_10 : decode cX11_undo 10 = .ok (.invokevirtual 68, 3) := by decide +kernel
theorem dX11_undo_13 : decode cX11_undo 13 = .ok (.ireturn, 1) := by decide +kernel
theorem dX11_undo_14 : decode cX11_undo 14 = .ok (.aload_n 0, 1) := by decide +kernel
theorem dX11_undo_15 : decode cX11_undo 15 = .ok (.dup, 1) := by decide +kernel
theorem dX11_undo_16 : decode cX11_undo 16 = .ok (.getfield 64, 3) := by decide +kernel
theorem dX11_undo_19 : decode cX11_undo 19 = .ok (.iconst 1, 1) := by decide +kernel
theorem dX11_undo_20 : decode cX11_undo 20 = .ok (.isub, 1) := by decide +kernel
theorem dX11_undo_21 : decode cX11_undo 21 = .ok (.putfield 64, 3) := by decide +kernel
theorem dX11_undo_24 : decode cX11_undo 24 = .ok (.iconst 0, 1) := by decide +kernel
theorem dX11_undo_25 : decode cX11_undo 25 = .ok (.istore_n 1, 1) := by decide +kernel
theorem dX11_undo_26 : decode cX11_undo 26 = .ok (.iload_n 1, 1) := by decide +kernel
theorem dX11_undo_27 : decode cX11_undo 27 = .ok (.sipush 365, 3) := by decide +kernel
theorem dX11_undo_30 : decode cX11_undo 30 = .ok (.if_icmp .ge 30, 3) := by decide +kernel
theorem dX11_undo_33 : decode cX11_undo 33 = .ok (.aload_n 0, 1) := by decide +kernel
theorem dX11_undo_34 : decode cX11_undo 34 = .ok (.getfield 9, 3) := by decide +kernel
theorem dX11_undo_37 : decode cX11_undo 37 = .ok (.iload_n 1, 1) := by decide +kernel
theorem dX11_undo_38 : decode cX11_undo 38 = .ok (.aload_n 0, 1) := by decide +kernel
theorem dX11_undo_39 : decode cX11_undo 39 = .ok (.getfield 17, 3) := by decide +kernel
theorem dX11_undo_42 : decode cX11_undo 42 = .ok (.aload_n 0, 1) := by decide +kernel
theorem dX11_undo_43 : decode cX11_undo 43 = .ok (.getfield 64, 3) := by decide +kernel
theorem dX11_undo_46 : decode cX11_undo 46 = .ok (.sipush 365, 3) := by decide +kernel
theorem dX11_undo_49 : decode cX11_undo 49 = .ok (.imul, 1) := by decide +kernel
theorem dX11_undo_50 : decode cX11_undo 50 = .ok (.iload_n 1, 1) := by decide +kernel
theorem dX11_undo_51 : decode cX11_undo 51 = .ok (.iadd, 1) := by decide +kernel
theorem dX11_undo_52 : decode cX11_undo 52 = .ok (.iaload, 1) := by decide +kernel
theorem dX11_undo_53 : decode cX11_undo 53 = .ok (.iastore, 1) := by decide +kernel
theorem dX11_undo_54 : decode cX11_undo 54 = .ok (.iinc 1 1, 3) := by decide +kernel
theorem dX11_undo_57 : decode cX11_undo 57 = .ok (.goto (-31), 3) := by decide +kernel
theorem dX11_undo_60 : decode cX11_undo 60 = .ok (.iconst 0, 1) := by decide +kernel
theorem dX11_undo_61 : decode cX11_undo 61 = .ok (.istore_n 1, 1) := by decide +kernel
theorem dX11_undo_62 : decode cX11_undo 62 = .ok (.iload_n 1, 1) := by decide +kernel
theorem dX11_undo_63 : decode cX11_undo 63 = .ok (.bipush 12, 2) := by decide +kernel
theorem dX11_undo_65 : decode cX11_undo 65 = .ok (.if_icmp .ge 29, 3) := by decide +kernel
theorem dX11_undo_68 : decode cX11_undo 68 = .ok (.aload_n 0, 1) := by decide +kernel
theorem dX11_undo_69 : decode cX11_undo 69 = .ok (.getfield 13, 3) := by decide +kernel
theorem dX11_undo_72 : decode cX11_undo 72 = .ok (.iload_n 1, 1) := by decide +kernel
theorem dX11_undo_73 : decode cX11_undo 73 = .ok (.aload_n 0, 1) := by decide +kernel
theorem dX11_undo_74 : decode cX11_undo 74 = .ok (.getfield 20, 3) := by decide +kernel
theorem dX11_undo_77 : decode cX11_undo 77 = .ok (.aload_n 0, 1) := by decide +kernel
theorem dX11_undo_78 : decode cX11_undo 78 = .ok (.getfield 64, 3) := by decide +kernel
theorem dX11_undo_81 : decode cX11_undo 81 = .ok (.bipush 12, 2) := by decide +kernel
theorem dX11_undo_83 : decode cX11_undo 83 = .ok (.imul, 1) := by decide +kernel
theorem dX11_undo_84 : decode cX11_undo 84 = .ok (.iload_n 1, 1) := by decide +kernel
theorem dX11_undo_85 : decode cX11_undo 85 = .ok (.iadd, 1) := by decide +kernel
theorem dX11_undo_86 : decode cX11_undo 86 = .ok (.laload, 1) := by decide +kernel
theorem dX11_undo_87 : decode cX11_undo 87 = .ok (.lastore, 1) := by decide +kernel
theorem dX11_undo_88 : decode cX11_undo 88 = .ok (.iinc 1 1, 3) := by decide +kernel
theorem dX11_undo_91 : decode cX11_undo 91 = .ok (.goto (-29), 3) := by decide +kernel
theorem dX11_undo_94 : decode cX11_undo 94 = .ok (.aload_n 0, 1) := by decide +kernel
theorem dX11_undo_95 : decode cX11_undo 95 = .ok (.getfield 64, 3) := by decide +kernel
theorem dX11_undo_98 : decode cX11_undo 98 = .ok (.ireturn, 1) := by decide +kernel
theorem dX11_line_0 : decode cX11_line 0 = .ok (.iload_n 1, 1) := by decide +kernel
theorem dX11_line_1 : decode cX11_line 1 = .ok (.iconst 0, 1) := by decide +kernel
theorem dX11_line_2 : decode cX11_line 2 = .ok (.iconst 5, 1) := by decide +kernel
theorem dX11_line_3 : decode cX11_line 3 = .ok (.invokestatic 60, 3) := by decide +kernel
theorem dX11_line_6 : decode cX11_line 6 = .ok (.ifCond .ne 10, 3) := by decide +kernel
theorem dX11_line_9 : decode cX11_line 9 = .ok (.aload_n 0, 1) := by decide +kernel
theorem dX11_line_10 : decode cX11_line 10 = .ok (.ldc 72, 2) := by decide +kernel
theorem dX11_line_12 : decode cX11_line 12 = .ok (.invokevirtual 68, 3) := by decide +kernel
theorem dX11_line_15 : decode cX11_line 15 = .ok (.ireturn, 1) := by decide +kernel
theorem dX11_line_16 : decode cX11_line 16 = .ok (.aload_n 0, 1) := by decide +kernel
theorem dX11_line_17 : decode cX11_line 17 = .ok (.getfield 9, 3) := by decide +kernel
theorem dX11_line_20 : decode cX11_line 20 = .ok (.iconst 0, 1) := by decide +kernel
theorem dX11_line_21 : decode cX11_line 21 = .ok (.iaload, 1) := by decide +kernel
theorem dX11_line_22 : decode cX11_line 22 = .ok (.istore_n 2, 1) := by decide +kernel
theorem dX11_line_23 : decode cX11_line 23 = .ok (.iload_n 2, 1) := by decide +kernel
theorem dX11_line_24 : decode cX11_line 24 = .ok (.bipush 12, 2) := by decide +kernel
theorem dX11_line_26 : decode cX11_line 26 = .ok (.if_icmp .ne 10, 3) := by decide +kernel
theorem dX11_line_29 : decode cX11_line 29 = .ok (.aload_n 0, 1) := by decide +kernel
theorem dX11_line_30 : decode cX11_line 30 = .ok (.ldc 73, 2) := by decide +kernel
theorem dX11_line_32 : decode cX11_line 32 = .ok (.invokevirtual 68, 3) := by decide +kernel
theorem dX11_line_35 : decode cX11_line 35 = .ok (.ireturn, 1) := by decide +kernel
theorem dX11_line_36 : decode cX11_line 36 = .ok (.aload_n 0, 1) := by decide +kernel
theorem dX11_line_37 : decode cX11_line 37 = .ok (.invokevirtual 74, 3) := by decide +kernel
theorem dX11_line_40 : decode cX11_line 40 = .ok (.aload_n 0, 1) := by decide +kernel
theorem dX11_line_41 : decode cX11_line 41 = .ok (.getfield 9, 3) := by decide +kernel
theorem dX11_line_44 : decode cX11_line 44 = .ok (.iconst 4, 1) := by decide +kernel
theorem dX11_line_45 : decode cX11_line 45 = .ok (.iload_n 2, 1) := by decide +kernel
theorem dX11_line_46 : decode cX11_line 46 = .ok (.iadd, 1) := by decide +kernel
theorem dX11_line_47 : decode cX11_line 47 = .ok (.iload_n 1, 1) := by decide +kernel
theorem dX11_line_48 : decode cX11_line 48 = .ok (.iastore, 1) := by decide +kernel
theorem dX11_line_49 : decode cX11_line 49 = .ok (.aload_n 0, 1) := by decide +kernel
theorem dX11_line_50 : decode cX11_line 50 = .ok (.getfield 9, 3) := by decide +kernel
theorem dX11_line_53 : decode cX11_line 53 = .ok (.bipush 16, 2) := by decide +kernel
theorem dX11_line_55 : decode cX11_line 55 = .ok (.iload_n 2, 1) := by decide +kernel
theorem dX11_line_56 : decode cX11_line 56 = .ok (.iadd, 1) := by decide +kernel
theorem dX11_line_57 : decode cX11_line 57 = .ok (.iconst 0, 1) := by decide +kernel
theorem dX11_line_58 : decode cX11_line 58 = .ok (.iastore, 1) := by decide +kernel
theorem dX11_line_59 : decode cX11_line 59 = .ok (.aload_n 0, 1) := by decide +kernel
theorem dX11_line_60 : decode cX11_line 60 = .ok (.getfield 13, 3) := by decide +kernel
theorem dX11_line_63 : decode cX11_line 63 = .ok (.iload_n 2, 1) := by decide +kernel
theorem dX11_line_64 : decode cX11_line 64 = .ok (.lconst 0, 1) := by decide +kernel
theorem dX11_line_65 : decode cX11_line 65 = .ok (.lastore, 1) := by decide +kernel
theorem dX11_line_66 : decode cX11_line 66 = .ok (.aload_n 0, 1) := by decide +kernel
theorem dX11_line_67 : decode cX11_line 67 = .ok (.getfield 9, 3) := by decide +kernel
theorem dX11_line_70 : decode cX11_line 70 = .ok (.iconst 0, 1) := by decide +kernel
theorem dX11_line_71 : decode cX11_line 71 = .ok (.dup2, 1) := by decide +kernel
theorem dX11_line_72 : decode cX11_line 72 = .ok (.iaload, 1) := by decide +kernel
theorem dX11_line_73 : decode cX11_line 73 = .ok (.iconst 1, 1) := by decide +kernel
theorem dX11_line_74 : decode cX11_line 74 = .ok (.iadd, 1) := by decide +kernel
theorem dX11_line_75 : decode cX11_line 75 = .ok (.iastore, 1) := by decide +kernel
theorem dX11_line_76 : decode cX11_line 76 = .ok (.iload_n 2, 1) := by decide +kernel
theorem dX11_line_77 : decode cX11_line 77 = .ok (.ireturn, 1) := by decide +kernel
theorem dX11_frame_0 : decode cX11_frame 0 = .ok (.aload_n 0, 1) := by decide +kernel
theorem dX11_frame_1 : decode cX11_frame 1 = .ok (.iload_n 1, 1) := by decide +kernel
theorem dX11_frame_2 : decode cX11_frame 2 = .ok (.invokevirtual 77, 3) := by decide +kernel
theorem dX11_frame_5 : decode cX11_frame 5 = .ok (.ifCond .eq 12, 3) := by decide +kernel
theorem dX11_frame_8 : decode cX11_frame 8 = .ok (.iload_n 2, 1) := by decide +kernel
theorem dX11_frame_9 : decode cX11_frame 9 = .ok (.iconst 0, 1) := by decide +kernel
theorem dX11_frame_10 : decode cX11_frame 10 = .ok (.iconst 3, 1) := by decide +kernel
theorem dX11_frame_11 : decode cX11_frame 11 = .ok (.invokestatic 60, 3) := by decide +kernel
theorem dX11_frame_14 : decode cX11_frame 14 = .ok (.ifCond .ne 10, 3) := by decide +kernel
theorem dX11_frame_17 : decode cX11_frame 17 = .ok (.aload_n 0, 1) := by decide +kernel
theorem dX11_frame_18 : decode cX11_frame 18 = .ok (.ldc 72, 2) := by decide +kernel
theorem dX11_frame_20 : decode cX11_frame 20 = .ok (.invokevirtual 68, 3) := by decide +kernel
theorem dX11_frame_23 : decode cX11_frame 23 = .ok (.ireturn, 1) := by decide +kernel
theorem dX11_frame_24 : decode cX11_frame 24 = .ok (.aload_n 0, 1) := by decide +kernel
theorem dX11_frame_25 : decode cX11_frame 25 = .ok (.getfield 9, 3) := by decide +kernel
theorem dX11_frame_28 : decode cX11_frame 28 = .ok (.bipush 16, 2) := by decide +kernel
theorem dX11_frame_30 : decode cX11_frame 30 = .ok (.iload_n 1, 1) := by decide +kernel
theorem dX11_frame_31 : decode cX11_frame 31 = .ok (.iadd, 1) := by decide +kernel
theorem dX11_frame_32 : decode cX11_frame 32 = .ok (.iaload, 1) := by decide +kernel
theorem dX11_frame_33 : decode cX11_frame 33 = .ok (.istore_n 3, 1) := by decide +kernel
theorem dX11_frame_34 : decode cX11_frame 34 = .ok (.iload_n 3, 1) := by decide +kernel
theorem dX11_frame_35 : decode cX11_frame 35 = .ok (.bipush 24, 2) := by decide +kernel
theorem dX11_frame_37 : decode cX11_frame 37 = .ok (.if_icmp .ne 10, 3) := by decide +kernel
theorem dX11_frame_40 : decode cX11_frame 40 = .ok (.aload_n 0, 1) := by decide +kernel
theorem dX11_frame_41 : decode cX11_frame 41 = .ok (.ldc 73, 2) := by decide +kernel
theorem dX11_frame_43 : decode cX11_frame 43 = .ok (.invokevirtual 68, 3) := by decide +kernel
theorem dX11_frame_46 : decode cX11_frame 46 = .ok (.ireturn, 1) := by decide +kernel
theorem dX11_frame_47 : decode cX11_frame 47 = .ok (.aload_n 0, 1) := by decide +kernel
theorem dX11_frame_48 : decode cX11_frame 48 = .ok (.invokevirtual 74, 3) := by decide +kernel
theorem dX11_frame_51 : decode cX11_frame 51 = .ok (.aload_n 0, 1) := by decide +kernel
theorem dX11_frame_52 : decode cX11_frame 52 = .ok (.getfield 13, 3) := by decide +kernel
theorem dX11_frame_55 : decode cX11_frame 55 = .ok (.iload_n 1, 1) := by decide +kernel
theorem dX11_frame_56 : decode cX11_frame 56 = .ok (.aload_n 0, 1) := by decide +kernel
theorem dX11_frame_57 : decode cX11_frame 57 = .ok (.getfield 13, 3) := by decide +kernel
theorem dX11_frame_60 : decode cX11_frame 60 = .ok (.iload_n 1, 1) := by decide +kernel
theorem dX11_frame_61 : decode cX11_frame 61 = .ok (.laload, 1) := by decide +kernel
theorem dX11_frame_62 : decode cX11_frame 62 = .ok (.ldc2_w 81, 3) := by decide +kernel
theorem dX11_frame_65 : decode cX11_frame 65 = .ok (.iconst 2, 1) := by decide +kernel
theorem dX11_frame_66 : decode cX11_frame 66 = .ok (.iload_n 3, 1) := by decide +kernel
theorem dX11_frame_67 : decode cX11_frame 67 = .ok (.imul, 1) := by decide +kernel
theorem dX11_frame_68 : decode cX11_frame 68 = .ok (.lshl, 1) := by decide +kernel
theorem dX11_frame_69 : decode cX11_frame 69 = .ok (.ldc2_w 83, 3) := by decide +kernel
theorem dX11_frame_72 : decode cX11_frame 72 = .ok (.lxor, 1) := by decide +kernel
theorem dX11_frame_73 : decode cX11_frame 73 = .ok (.land, 1) := by decide +kernel
theorem dX11_frame_74 : decode cX11_frame 74 = .ok (.iload_n 2, 1) := by decide +kernel
theorem dX11_frame_75 : decode cX11_frame 75 = .ok (.i2l, 1) := by decide +kernel
theorem dX11_frame_76 : decode cX11_frame 76 = .ok (.iconst 2, 1) := by decide +kernel
theorem dX11_frame_77 : decode cX11_frame 77 = .ok (.iload_n 3, 1) := by decide +kernel
theorem dX11_frame_78 : decode cX11_frame 78 = .ok (.imul, 1) := by decide +kernel
theorem dX11_frame_79 : decode cX11_frame 79 = .ok (.lshl, 1) := by decide +kernel
theorem dX11_frame_80 : decode cX11_frame 80 = .ok (.lor, 1) := by decide +kernel
theorem dX11_frame_81 : decode cX11_frame 81 = .ok (.lastore, 1) := by decide +kernel
theorem dX11_frame_82 : decode cX11_frame 82 = .ok (.aload_n 0, 1) := by decide +kernel
theorem dX11_frame_83 : decode cX11_frame 83 = .ok (.getfield 9, 3) := by decide +kernel
theorem dX11_frame_86 : decode cX11_frame 86 = .ok (.bipush 16, 2) := by decide +kernel
theorem dX11_frame_88 : decode cX11_frame 88 = .ok (.iload_n 1, 1) := by decide +kernel
theorem dX11_frame_89 : decode cX11_frame 89 = .ok (.iadd, 1) := by decide +kernel
theorem dX11_frame_90 : decode cX11_frame 90 = .ok (.dup2, 1) := by decide +kernel
theorem dX11_frame_91 : decode cX11_frame 91 = .ok (.iaload, 1) := by decide +kernel
theorem dX11_frame_92 : decode cX11_frame 92 = .ok (.iconst 1, 1) := by decide +kernel
theorem dX11_frame_93 : decode cX11_frame 93 = .ok (.iadd, 1) := by decide +kernel
theorem dX11_frame_94 : decode cX11_frame 94 = .ok (.iastore, 1) := by decide +kernel
theorem dX11_frame_95 : decode cX11_frame 95 = .ok (.iload_n 3, 1) := by decide +kernel
theorem dX11_frame_96 : decode cX11_frame 96 = .ok (.iconst 1, 1) := by decide +kernel
theorem dX11_frame_97 : decode cX11_frame 97 = .ok (.iadd, 1) := by decide +kernel
theorem dX11_frame_98 : decode cX11_frame 98 = .ok (.ireturn, 1) := by decide +kernel
theorem dX11_wording_0 : decode cX11_wording 0 = .ok (.aload_n 0, 1) := by decide +kernel
theorem dX11_wording_1 : decode cX11_wording 1 = .ok (.iload_n 1, 1) := by decide +kernel
theorem dX11_wording_2 : decode cX11_wording 2 = .ok (.invokevirtual 77, 3) := by decide +kernel
theorem dX11_wording_5 : decode cX11_wording 5 = .ok (.ifCond .eq 22, 3) := by decide +kernel
theorem dX11_wording_8 : decode cX11_wording 8 = .ok (.iload_n 2, 1) := by decide +kernel
theorem dX11_wording_9 : decode cX11_wording 9 = .ok (.iconst 0, 1) := by decide +kernel
theorem dX11_wording_10 : decode cX11_wording 10 = .ok (.iconst 3, 1) := by decide +kernel
theorem dX11_wording_11 : decode cX11_wording 11 = .ok (.invokestatic 60, 3) := by decide +kernel
theorem dX11_wording_14 : decode cX11_wording 14 = .ok (.ifCond .eq 13, 3) := by decide +kernel
theorem dX11_wording_17 : decode cX11_wording 17 = .ok (.iload_n 3, 1) := by decide +kernel
theorem dX11_wording_18 : decode cX11_wording 18 = .ok (.iconst 0, 1) := by decide +kernel
theorem dX11_wording_19 : decode cX11_wording 19 = .ok (.bipush 100, 2) := by decide +kernel
theorem dX11_wording_21 : decode cX11_wording 21 = .ok (.invokestatic 60, 3) := by decide +kernel
theorem dX11_wording_24 : decode cX11_wording 24 = .ok (.ifCond .ne 10, 3) := by decide +kernel
theorem dX11_wording_27 : decode cX11_wording 27 = .ok (.aload_n 0, 1) := by decide +kernel
theorem dX11_wording_28 : decode cX11_wording 28 = .ok (.ldc 72, 2) := by decide +kernel
theorem dX11_wording_30 : decode cX11_wording 30 = .ok (.invokevirtual 68, 3) := by decide +kernel
theorem dX11_wording_33 : decode cX11_wording 33 = .ok (.ireturn, 1) := by decide +kernel
theorem dX11_wording_34 : decode cX11_wording 34 = .ok (.aload_n 0, 1) := by decide +kernel
theorem dX11_wording_35 : decode cX11_wording 35 = .ok (.getfield 9, 3) := by decide +kernel
theorem dX11_wording_38 : decode cX11_wording 38 = .ok (.iconst 1, 1) := by decide +kernel
theorem dX11_wording_39 : decode cX11_wording 39 = .ok (.iaload, 1) := by decide +kernel
theorem dX11_wording_40 : decode cX11_wording 40 = .ok (.istore 4, 2) := by decide +kernel
theorem dX11_wording_42 : decode cX11_wording 42 = .ok (.iload 4, 2) := by decide +kernel
theorem dX11_wording_44 : decode cX11_wording 44 = .ok (.bipush 20, 2) := by decide +kernel
theorem dX11_wording_46 : decode cX11_wording 46 = .ok (.if_icmp .ne 10, 3) := by decide +kernel
theorem dX11_wording_49 : decode cX11_wording 49 = .ok (.aload_n 0, 1) := by decide +kernel
theorem dX11_wording_50 : decode cX11_wording 50 = .ok (.ldc 73, 2) := by decide +kernel
theorem dX11_wording_52 : decode cX11_wording 52 = .ok (.invokevirtual 68, 3) := by decide +kernel
theorem dX11_wording_55 : decode cX11_wording 55 = .ok (.ireturn, 1) := by decide +kernel
theorem dX11_wording_56 : decode cX11_wording 56 = .ok (.aload_n 0, 1) := by decide +kernel
theorem dX11_wording_57 : decode cX11_wording 57 = .ok (.invokevirtual 74, 3) := by decide +kernel
theorem dX11_wording_60 : decode cX11_wording 60 = .ok (.aload_n 0, 1) := by decide +kernel
theorem dX11_wording_61 : decode cX11_wording 61 = .ok (.getfield 9, 3) := by decide +kernel
theorem dX11_wording_64 : decode cX11_wording 64 = .ok (.bipush 28, 2) := by decide +kernel
theorem dX11_wording_66 : decode cX11_wording 66 = .ok (.iload 4, 2) := by decide +kernel
theorem dX11_wording_68 : decode cX11_wording 68 = .ok (.iadd, 1) := by decide +kernel
theorem dX11_wording_69 : decode cX11_wording 69 = .ok (.iload_n 1, 1) := by decide +kernel
theorem dX11_wording_70 : decode cX11_wording 70 = .ok (.iastore, 1) := by decide +kernel
theorem dX11_wording_71 : decode cX11_wording 71 = .ok (.aload_n 0, 1) := by decide +kernel
theorem dX11_wording_72 : decode cX11_wording 72 = .ok (.getfield 9, 3) := by decide +kernel
theorem dX11_wording_75 : decode cX11_wording 75 = .ok (.bipush 48, 2) := by decide +kernel
theorem dX11_wording_77 : decode cX11_wording 77 = .ok (.iload 4, 2) := by decide +kernel
theorem dX11_wording_79 : decode cX11_wording 79 = .ok (.iadd, 1) := by decide +kernel
theorem dX11_wording_80 : decode cX11_wording 80 = .ok (.iload_n 2, 1) := by decide +kernel
theorem dX11_wording_81 : decode cX11_wording 81 = .ok (.iastore, 1) := by decide +kernel
theorem dX11_wording_82 : decode cX11_wording 82 = .ok (.aload_n 0, 1) := by decide +kernel
theorem dX11_wording_83 : decode cX11_wording 83 = .ok (.getfield 9, 3) := by decide +kernel
theorem dX11_wording_86 : decode cX11_wording 86 = .ok (.bipush 68, 2) := by decide +kernel
theorem dX11_wording_88 : decode cX11_wording 88 = .ok (.iload 4, 2) := by decide +kernel
theorem dX11_wording_90 : decode cX11_wording 90 = .ok (.iadd, 1) := by decide +kernel
theorem dX11_wording_91 : decode cX11_wording 91 = .ok (.iload_n 3, 1) := by decide +kernel
theorem dX11_wording_92 : decode cX11_wording 92 = .ok (.iastore, 1) := by decide +kernel
theorem dX11_wording_93 : decode cX11_wording 93 = .ok (.aload_n 0, 1) := by decide +kernel
theorem dX11_wording_94 : decode cX11_wording 94 = .ok (.getfield 9, 3) := by decide +kernel
theorem dX11_wording_97 : decode cX11_wording 97 = .ok (.bipush 88, 2) := by decide +kernel
theorem dX11_wording_99 : decode cX11_wording 99 = .ok (.iload 4, 2) := by decide +kernel
theorem dX11_wording_101 : decode cX11_wording 101 = .ok (.iadd, 1) := by decide +kernel
theorem dX11_wording_102 : decode cX11_wording 102 = .ok (.iconst 0, 1) := by decide +kernel
theorem dX11_wording_103 : decode cX11_wording 103 = .ok (.iastore, 1) := by decide +kernel
theorem dX11_wording_104 : decode cX11_wording 104 = .ok (.aload_n 0, 1) := by decide +kernel
theorem dX11_wording_105 : decode cX11_wording 105 = .ok (.getfield 9, 3) := by decide +kernel
theorem dX11_wording_108 : decode cX11_wording 108 = .ok (.iconst 1, 1) := by decide +kernel
theorem dX11_wording_109 : decode cX11_wording 109 = .ok (.dup2, 1) := by decide +kernel
theorem dX11_wording_110 : decode cX11_wording 110 = .ok (.iaload, 1) := by decide +kernel
theorem dX11_wording_111 : decode cX11_wording 111 = .ok (.iconst 1, 1) := by decide +kernel
theorem dX11_wording_112 : decode cX11_wording 112 = .ok (.iadd, 1) := by decide +kernel
theorem dX11_wording_113 : decode cX11_wording 113 = .ok (.iastore, 1) := by decide +kernel
theorem dX11_wording_114 : decode cX11_wording 114 = .ok (.iload 4, 2) := by decide +kernel
theorem dX11_wording_116 : decode cX11_wording 116 = .ok (.ireturn, 1) := by decide +kernel
theorem dX11_as_0 : decode cX11_as 0 = .ok (.aload_n 0, 1) := by decide +kernel
theorem dX11_as_1 : decode cX11_as 1 = .ok (.iload_n 1, 1) := by decide +kernel
theorem dX11_as_2 : decode cX11_as 2 = .ok (.invokevirtual 85, 3) := by decide +kernel
theorem dX11_as_5 : decode cX11_as 5 = .ok (.ifCond .eq 12, 3) := by decide +kernel
theorem dX11_as_8 : decode cX11_as 8 = .ok (.iload_n 2, 1) := by decide +kernel
theorem dX11_as_9 : decode cX11_as 9 = .ok (.iconst 0, 1) := by decide +kernel
theorem dX11_as_10 : decode cX11_as 10 = .ok (.iconst 3, 1) := by decide +kernel
theorem dX11_as_11 : decode cX11_as 11 = .ok (.invokestatic 60, 3) := by decide +kernel
theorem dX11_as_14 : decode cX11_as 14 = .ok (.ifCond .ne 10, 3) := by decide +kernel
theorem dX11_as_17 : decode cX11_as 17 = .ok (.aload_n 0, 1) := by decide +kernel
theorem dX11_as_18 : decode cX11_as 18 = .ok (.ldc 72, 2) := by decide +kernel
theorem dX11_as_20 : decode cX11_as 20 = .ok (.invokevirtual 68, 3) := by decide +kernel
theorem dX11_as_23 : decode cX11_as 23 = .ok (.ireturn, 1) := by decide +kernel
theorem dX11_as_24 : decode cX11_as 24 = .ok (.aload_n 0, 1) := by decide +kernel
theorem dX11_as_25 : decode cX11_as 25 = .ok (.getfield 9, 3) := by decide +kernel
theorem dX11_as_28 : decode cX11_as 28 = .ok (.bipush 48, 2) := by decide +kernel
theorem dX11_as_30 : decode cX11_as 30 = .ok (.iload_n 1, 1) := by decide +kernel
theorem dX11_as_31 : decode cX11_as 31 = .ok (.iadd, 1) := by decide +kernel
theorem dX11_as_32 : decode cX11_as 32 = .ok (.iaload, 1) := by decide +kernel
theorem dX11_as_33 : decode cX11_as 33 = .ok (.istore_n 3, 1) := by decide +kernel
theorem dX11_as_34 : decode cX11_as 34 = .ok (.iload_n 2, 1) := by decide +kernel
theorem dX11_as_35 : decode cX11_as 35 = .ok (.ifCond .eq 18, 3) := by decide +kernel
theorem dX11_as_38 : decode cX11_as 38 = .ok (.iload_n 3, 1) := by decide +kernel
theorem dX11_as_39 : decode cX11_as 39 = .ok (.iload_n 2, 1) := by decide +kernel
theorem dX11_as_40 : decode cX11_as 40 = .ok (.if_icmp .eq 13, 3) := by decide +kernel
theorem dX11_as_43 : decode cX11_as 43 = .ok (.iload_n 2, 1) := by decide +kernel
theorem dX11_as_44 : decode cX11_as 44 = .ok (.iconst 1, 1) := by decide +kernel
theorem dX11_as_45 : decode cX11_as 45 = .ok (.if_icmp .ne 12, 3) := by decide +kernel
theorem dX11_as_48 : decode cX11_as 48 = .ok (.iload_n 3, 1) := by decide +kernel
theorem dX11_as_49 : decode cX11_as 49 = .ok (.iconst 3, 1) := by decide +kernel
theorem dX11_as_50 : decode cX11_as 50 = .ok (.if_icmp .ne 7, 3) := by decide +kernel
theorem dX11_as_53 : decode cX11_as 53 = .ok (.iload_n 1, 1) := by decide +kernel
theorem dX11_as_54 : decode cX11_as 54 = .ok (.goto 9, 3) := by decide +kernel
theorem dX11_as_57 : decode cX11_as 57 = .ok (.aload_n 0, 1) := by decide +kernel
theorem dX11_as_58 : decode cX11_as 58 = .ok (.ldc 88, 2) := by decide +kernel
theorem dX11_as_60 : decode cX11_as 60 = .ok (.invokevirtual 68, 3) := by decide +kernel
theorem dX11_as_63 : decode cX11_as 63 = .ok (.ireturn, 1) := by decide +kernel
theorem dX11_syllable_0 : decode cX11_syllable 0 = .ok (.aload_n 0, 1) := by decide +kernel
theorem dX11_syllable_1 : decode cX11_syllable 1 = .ok (.iload_n 1, 1) := by decide +kernel
theorem dX11_syllable_2 : decode cX11_syllable 2 = .ok (.invokevirtual 85, 3) := by decide +kernel
theorem dX11_syllable_5 : decode cX11_syllable 5 = .ok (.ifCond .eq 41, 3) := by decide +kernel
theorem dX11_syllable_8 : decode cX11_syllable 8 = .ok (.iload_n 2, 1) := by decide +kernel
theorem dX11_syllable_9 : decode cX11_syllable 9 = .ok (.iconst 0, 1) := by decide +kernel
theorem dX11_syllable_10 : decode cX11_syllable 10 = .ok (.iconst 3, 1) := by decide +kernel
theorem dX11_syllable_11 : decode cX11_syllable 11 = .ok (.invokestatic 60, 3) := by decide +kernel
theorem dX11_syllable_14 : decode cX11_syllable 14 = .ok (.ifCond .eq 32, 3) := by decide +kernel
theorem dX11_syllable_17 : decode cX11_syllable 17 = .ok (.iload_n 3, 1) := by decide +kernel
theorem dX11_syllable_18 : decode cX11_syllable 18 = .ok (.iconst 1, 1) := by decide +kernel
theorem dX11_syllable_19 : decode cX11_syllable 19 = .ok (.bipush 6, 2) := by decide +kernel
theorem dX11_syllable_21 : decode cX11_syllable 21 = .ok (.invokestatic 60, 3) := by decide +kernel
theorem dX11_syllable_24 : decode cX11_syllable 24 = .ok (.ifCond .eq 22, 3) := by decide +kernel
theorem dX11_syllable_27 : decode cX11_syllable 27 = .ok (.iload 4, 2) := by decide +kernel
theorem dX11_syllable_29 : decode cX11_syllable 29 = .ok (.iconst 1, 1) := by decide +kernel
theorem dX11_syllable_30 : decode cX11_syllable 30 = .ok (.bipush 6, 2) := by decide +kernel
theorem dX11_syllable_32 : decode cX11_syllable 32 = .ok (.invokestatic 60, 3) := by decide +kernel
theorem dX11_syllable_35 : decode cX11_syllable 35 = .ok (.ifCond .eq 11, 3) := by decide +kernel
theorem dX11_syllable_38 : decode cX11_syllable 38 = .ok (.iload 5, 2) := by decide +kernel
theorem dX11_syllable_40 : decode cX11_syllable 40 = .ok (.invokestatic 89, 3) := by decide +kernel
theorem dX11_syllable_43 : decode cX11_syllable 43 = .ok (.ifCond .ne 10, 3) := by decide +kernel
theorem dX11_syllable_46 : decode cX11_syllable 46 = .ok (.aload_n 0, 1) := by decide +kernel
theorem dX11_syllable_47 : decode cX11_syllable 47 = .ok (.ldc 72, 2) := by decide +kernel
theorem dX11_syllable_49 : decode cX11_syllable 49 = .ok (.invokevirtual 68, 3) := by decide +kernel
theorem dX11_syllable_52 : decode cX11_syllable 52 = .ok (.ireturn, 1) := by decide +kernel
theorem dX11_syllable_53 : decode cX11_syllable 53 = .ok (.iload_n 3, 1) := by decide +kernel
theorem dX11_syllable_54 : decode cX11_syllable 54 = .ok (.iload 4, 2) := by decide +kernel
theorem dX11_syllable_56 : decode cX11_syllable 56 = .ok (.if_icmp .le 10, 3) := by decide +kernel
theorem dX11_syllable_59 : decode cX11_syllable 59 = .ok (.aload_n 0, 1) := by decide +kernel
theorem dX11_syllable_60 : decode cX11_syllable 60 = .ok (.ldc 92, 2) := by decide +kernel
theorem dX11_syllable_62 : decode cX11_syllable 62 = .ok (.invokevirtual 68, 3) := by decide +kernel
theorem dX11_syllable_65 : decode cX11_syllable 65 = .ok (.ireturn, 1) := by decide +kernel
theorem dX11_syllable_66 : decode cX11_syllable 66 = .ok (.aload_n 0, 1) := by decide +kernel
theorem dX11_syllable_67 : decode cX11_syllable 67 = .ok (.getfield 9, 3) := by decide +kernel
theorem dX11_syllable_70 : decode cX11_syllable 70 = .ok (.bipush 88, 2) := by decide +kernel
theorem dX11_syllable_72 : decode cX11_syllable 72 = .ok (.iload_n 1, 1) := by decide +kernel
theorem dX11_syllable_73 : decode cX11_syllable 73 = .ok (.iadd, 1) := by decide +kernel
theorem dX11_syllable_74 : decode cX11_syllable 74 = .ok (.iaload, 1) := by decide +kernel
theorem dX11_syllable_75 : decode cX11_syllable 75 = .ok (.istore 6, 2) := by decide +kernel
theorem dX11_syllable_77 : decode cX11_syllable 77 = .ok (.iload 6, 2) := by decide +kernel
theorem dX11_syllable_79 : decode cX11_syllable 79 = .ok (.bipush 8, 2) := by decide +kernel
theorem dX11_syllable_81 : decode cX11_syllable 81 = .ok (.if_icmp .ne 10, 3) := by decide +kernel
theorem dX11_syllable_84 : decode cX11_syllable 84 = .ok (.aload_n 0, 1) := by decide +kernel
theorem dX11_syllable_85 : decode cX11_syllable 85 = .ok (.ldc 73, 2) := by decide +kernel
theorem dX11_syllable_87 : decode cX11_syllable 87 = .ok (.invokevirtual 68, 3) := by decide +kernel
theorem dX11_syllable_90 : decode cX11_syllable 90 = .ok (.ireturn, 1) := by decide +kernel
theorem dX11_syllable_91 : decode cX11_syllable 91 = .ok (.aload_n 0, 1) := by decide +kernel
theorem dX11_syllable_92 : decode cX11_syllable 92 = .ok (.invokevirtual 74, 3) := by decide +kernel
theorem dX11_syllable_95 : decode cX11_syllable 95 = .ok (.aload_n 0, 1) := by decide +kernel
theorem dX11_syllable_96 : decode cX11_syllable 96 = .ok (.getfield 9, 3) := by decide +kernel
theorem dX11_syllable_99 : decode cX11_syllable 99 = .ok (.bipush 108, 2) := by decide +kernel
theorem dX11_syllable_101 : decode cX11_syllable 101 = .ok (.bipush 8, 2) := by decide +kernel
theorem dX11_syllable_103 : decode cX11_syllable 103 = .ok (.iload_n 1, 1) := by decide +kernel
theorem dX11_syllable_104 : decode cX11_syllable 104 = .ok (.imul, 1) := by decide +kernel
theorem dX11_syllable_105 : decode cX11_syllable 105 = .ok (.iadd, 1) := by decide +kernel
theorem dX11_syllable_106 : decode cX11_syllable 106 = .ok (.iload 6, 2) := by decide +kernel
theorem dX11_syllable_108 : decode cX11_syllable 108 = .ok (.iadd, 1) := by decide +kernel
theorem dX11_syllable_109 : decode cX11_syllable 109 = .ok (.iload_n 2, 1) := by decide +kernel
theorem dX11_syllable_110 : decode cX11_syllable 110 = .ok (.iload_n 3, 1) := by decide +kernel
theorem dX11_syllable_111 : decode cX11_syllable 111 = .ok (.iconst 2, 1) := by decide +kernel
theorem dX11_syllable_112 : decode cX11_syllable 112 = .ok (.ishl, 1) := by decide +kernel
theorem dX11_syllable_113 : decode cX11_syllable 113 = .ok (.ior, 1) := by decide +kernel
theorem dX11_syllable_114 : decode cX11_syllable 114 = .ok (.iload 4, 2) := by decide +kernel
theorem dX11_syllable_116 : decode cX11_syllable 116 = .ok (.iconst 5, 1) := by decide +kernel
theorem dX11_syllable_117 : decode cX11_syllable 117 = .ok (.ishl, 1) := by decide +kernel
theorem dX11_syllable_118 : decode cX11_syllable 118 = .ok (.ior, 1) := by decide +kernel
theorem dX11_syllable_119 : decode cX11_syllable 119 = .ok (.iload 5, 2) := by decide +kernel
theorem dX11_syllable_121 : decode cX11_syllable 121 = .ok (.bipush 8, 2) := by decide +kernel
theorem dX11_syllable_123 : decode cX11_syllable 123 = .ok (.ishl, 1) := by decide +kernel
theorem dX11_syllable_124 : decode cX11_syllable 124 = .ok (.ior, 1) := by decide +kernel
theorem dX11_syllable_125 : decode cX11_syllable 125 = .ok (.iastore, 1) := by decide +kernel
theorem dX11_syllable_126 : decode cX11_syllable 126 = .ok (.aload_n 0, 1) := by decide +kernel
theorem dX11_syllable_127 : decode cX11_syllable 127 = .ok (.getfield 9, 3) := by decide +kernel
theorem dX11_syllable_130 : decode cX11_syllable 130 = .ok (.bipush 88, 2) := by decide +kernel
theorem dX11_syllable_132 : decode cX11_syllable 132 = .ok (.iload_n 1, 1) := by decide +kernel
theorem dX11_syllable_133 : decode cX11_syllable 133 = .ok (.iadd, 1) := by decide +kernel
theorem dX11_syllable_134 : decode cX11_syllable 134 = .ok (.dup2, 1) := by decide +kernel
theorem dX11_syllable_135 : decode cX11_syllable 135 = .ok (.iaload, 1) := by decide +kernel
theorem dX11_syllable_136 : decode cX11_syllable 136 = .ok (.iconst 1, 1) := by decide +kernel
theorem dX11_syllable_137 : decode cX11_syllable 137 = .ok (.iadd, 1) := by decide +kernel
theorem dX11_syllable_138 : decode cX11_syllable 138 = .ok (.iastore, 1) := by decide +kernel
theorem dX11_syllable_139 : decode cX11_syllable 139 = .ok (.iload 6, 2) := by decide +kernel
theorem dX11_syllable_141 : decode cX11_syllable 141 = .ok (.iconst 1, 1) := by decide +kernel
theorem dX11_syllable_142 : decode cX11_syllable 142 = .ok (.iadd, 1) := by decide +kernel
theorem dX11_syllable_143 : decode cX11_syllable 143 = .ok (.ireturn, 1) := by decide +kernel
theorem dX11_cut_0 : decode cX11_cut 0 = .ok (.aload_n 0, 1) := by decide +kernel
theorem dX11_cut_1 : decode cX11_cut 1 = .ok (.iload_n 1, 1) := by decide +kernel
theorem dX11_cut_2 : decode cX11_cut 2 = .ok (.invokevirtual 85, 3) := by decide +kernel
theorem dX11_cut_5 : decode cX11_cut 5 = .ok (.ifCond .ne 10, 3) := by decide +kernel
theorem dX11_cut_8 : decode cX11_cut 8 = .ok (.aload_n 0, 1) := by decide +kernel
theorem dX11_cut_9 : decode cX11_cut 9 = .ok (.ldc 72, 2) := by decide +kernel
theorem dX11_cut_11 : decode cX11_cut 11 = .ok (.invokevirtual 68, 3) := by decide +kernel
theorem dX11_cut_14 : decode cX11_cut 14 = .ok (.ireturn, 1) := by decide +kernel
theorem dX11_cut_15 : decode cX11_cut 15 = .ok (.aload_n 0, 1) := by decide +kernel
theorem dX11_cut_16 : decode cX11_cut 16 = .ok (.getfield 9, 3) := by decide +kernel
theorem dX11_cut_19 : decode cX11_cut 19 = .ok (.bipush 88, 2) := by decide +kernel
theorem dX11_cut_21 : decode cX11_cut 21 = .ok (.iload_n 1, 1) := by decide +kernel
theorem dX11_cut_22 : decode cX11_cut 22 = .ok (.iadd, 1) := by decide +kernel
theorem dX11_cut_23 : decode cX11_cut 23 = .ok (.iaload, 1) := by decide +kernel
theorem dX11_cut_24 : decode cX11_cut 24 = .ok (.ifCond .ne 10, 3) := by decide +kernel
theorem dX11_cut_27 : decode cX11_cut 27 = .ok (.aload_n 0, 1) := by decide +kernel
theorem dX11_cut_28 : decode cX11_cut 28 = .ok (.ldc 67, 2) := by decide +kernel
theorem dX11_cut_30 : decode cX11_cut 30 = .ok (.invokevirtual 68, 3) := by decide +kernel
theorem dX11_cut_33 : decode cX11_cut 33 = .ok (.ireturn, 1) := by decide +kernel
theorem dX11_cut_34 : decode cX11_cut 34 = .ok (.aload_n 0, 1) := by decide +kernel
theorem dX11_cut_35 : decode cX11_cut 35 = .ok (.invokevirtual 74, 3) := by decide +kernel
theorem dX11_cut_38 : decode cX11_cut 38 = .ok (.aload_n 0, 1) := by decide +kernel
theorem dX11_cut_39 : decode cX11_cut 39 = .ok (.getfield 9, 3) := by decide +kernel
theorem dX11_cut_42 : decode cX11_cut 42 = .ok (.bipush 88, 2) := by decide +kernel
theorem dX11_cut_44 : decode cX11_cut 44 = .ok (.iload_n 1, 1) := by decide +kernel
theorem dX11_cut_45 : decode cX11_cut 45 = .ok (.iadd, 1) := by decide +kernel
theorem dX11_cut_46 : decode cX11_cut 46 = .ok (.dup2, 1) := by decide +kernel
theorem dX11_cut_47 : decode cX11_cut 47 = .ok (.iaload, 1) := by decide +kernel
theorem dX11_cut_48 : decode cX11_cut 48 = .ok (.iconst 1, 1) := by decide +kernel
theorem dX11_cut_49 : decode cX11_cut 49 = .ok (.isub, 1) := by decide +kernel
theorem dX11_cut_50 : decode cX11_cut 50 = .ok (.iastore, 1) := by decide +kernel
theorem dX11_cut_51 : decode cX11_cut 51 = .ok (.aload_n 0, 1) := by decide +kernel
theorem dX11_cut_52 : decode cX11_cut 52 = .ok (.getfield 9, 3) := by decide +kernel
theorem dX11_cut_55 : decode cX11_cut 55 = .ok (.bipush 88, 2) := by decide +kernel
theorem dX11_cut_57 : decode cX11_cut 57 = .ok (.iload_n 1, 1) := by decide +kernel
theorem dX11_cut_58 : decode cX11_cut 58 = .ok (.iadd, 1) := by decide +kernel
theorem dX11_cut_59 : decode cX11_cut 59 = .ok (.iaload, 1) := by decide +kernel
theorem dX11_cut_60 : decode cX11_cut 60 = .ok (.ireturn, 1) := by decide +kernel
theorem dX11_of_0 : decode cX11_of 0 = .ok (.aload_n 0, 1) := by decide +kernel
theorem dX11_of_1 : decode cX11_of 1 = .ok (.iload_n 1, 1) := by decide +kernel
theorem dX11_of_2 : decode cX11_of 2 = .ok (.invokevirtual 85, 3) := by decide +kernel
theorem dX11_of_5 : decode cX11_of 5 = .ok (.ifCond .eq 29, 3) := by decide +kernel
theorem dX11_of_8 : decode cX11_of 8 = .ok (.iload_n 2, 1) := by decide +kernel
theorem dX11_of_9 : decode cX11_of 9 = .ok (.iconst 0, 1) := by decide +kernel
theorem dX11_of_10 : decode cX11_of 10 = .ok (.iconst 3, 1) := by decide +kernel
theorem dX11_of_11 : decode cX11_of 11 = .ok (.invokestatic 60, 3) := by decide +kernel
theorem dX11_of_14 : decode cX11_of 14 = .ok (.ifCond .eq 20, 3) := by decide +kernel
theorem dX11_of_17 : decode cX11_of 17 = .ok (.aload_n 0, 1) := by decide +kernel
theorem dX11_of_18 : decode cX11_of 18 = .ok (.getfield 9, 3) := by decide +kernel
theorem dX11_of_21 : decode cX11_of 21 = .ok (.bipush 28, 2) := by decide +kernel
theorem dX11_of_23 : decode cX11_of 23 = .ok (.bipush 20, 2) := by decide +kernel
theorem dX11_of_25 : decode cX11_of 25 = .ok (.iload_n 2, 1) := by decide +kernel
theorem dX11_of_26 : decode cX11_of 26 = .ok (.imul, 1) := by decide +kernel
theorem dX11_of_27 : decode cX11_of 27 = .ok (.iadd, 1) := by decide +kernel
theorem dX11_of_28 : decode cX11_of 28 = .ok (.iload_n 1, 1) := by decide +kernel
theorem dX11_of_29 : decode cX11_of 29 = .ok (.iadd, 1) := by decide +kernel
theorem dX11_of_30 : decode cX11_of 30 = .ok (.iaload, 1) := by decide +kernel
theorem dX11_of_31 : decode cX11_of 31 = .ok (.goto 9, 3) := by decide +kernel
theorem dX11_of_34 : decode cX11_of 34 = .ok (.aload_n 0, 1) := by decide +kernel
theorem dX11_of_35 : decode cX11_of 35 = .ok (.ldc 72, 2) := by decide +kernel
theorem dX11_of_37 : decode cX11_of 37 = .ok (.invokevirtual 68, 3) := by decide +kernel
theorem dX11_of_40 : decode cX11_of 40 = .ok (.ireturn, 1) := by decide +kernel
theorem dX11_told_0 : decode cX11_told 0 = .ok (.aload_n 0, 1) := by decide +kernel
theorem dX11_told_1 : decode cX11_told 1 = .ok (.iload_n 1, 1) := by decide +kernel
theorem dX11_told_2 : decode cX11_told 2 = .ok (.invokevirtual 77, 3) := by decide +kernel
theorem dX11_told_5 : decode cX11_told 5 = .ok (.ifCond .eq 12, 3) := by decide +kernel
theorem dX11_told_8 : decode cX11_told 8 = .ok (.iload_n 2, 1) := by decide +kernel
theorem dX11_told_9 : decode cX11_told 9 = .ok (.iconst 0, 1) := by decide +kernel
theorem dX11_told_10 : decode cX11_told 10 = .ok (.iconst 2, 1) := by decide +kernel
theorem dX11_told_11 : decode cX11_told 11 = .ok (.invokestatic 60, 3) := by decide +kernel
theorem dX11_told_14 : decode cX11_told 14 = .ok (.ifCond .ne 10, 3) := by decide +kernel
theorem dX11_told_17 : decode cX11_told 17 = .ok (.aload_n 0, 1) := by decide +kernel
theorem dX11_told_18 : decode cX11_told 18 = .ok (.ldc 72, 2) := by decide +kernel
theorem dX11_told_20 : decode cX11_told 20 = .ok (.invokevirtual 68, 3) := by decide +kernel
theorem dX11_told_23 : decode cX11_told 23 = .ok (.ireturn, 1) := by decide +kernel
theorem dX11_told_24 : decode cX11_told 24 = .ok (.iconst 0, 1) := by decide +kernel
theorem dX11_told_25 : decode cX11_told 25 = .ok (.istore_n 3, 1) := by decide +kernel
theorem dX11_told_26 : decode cX11_told 26 = .ok (.iconst 0, 1) := by decide +kernel
theorem dX11_told_27 : decode cX11_told 27 = .ok (.istore 4, 2) := by decide +kernel
theorem dX11_told_29 : decode cX11_told 29 = .ok (.iload 4, 2) := by decide +kernel
theorem dX11_told_31 : decode cX11_told 31 = .ok (.aload_n 0, 1) := by decide +kernel
theorem dX11_told_32 : decode cX11_told 32 = .ok (.getfield 9, 3) := by decide +kernel
theorem dX11_told_35 : decode cX11_told 35 = .ok (.iconst 1, 1) := by decide +kernel
theorem dX11_told_36 : decode cX11_told 36 = .ok (.iaload, 1) := by decide +kernel
theorem dX11_told_37 : decode cX11_told 37 = .ok (.if_icmp .ge 31, 3) := by decide +kernel
theorem dX11_told_40 : decode cX11_told 40 = .ok (.iload_n 3, 1) := by decide +kernel
theorem dX11_told_41 : decode cX11_told 41 = .ok (.aload_n 0, 1) := by decide +kernel
theorem dX11_told_42 : decode cX11_told 42 = .ok (.getfield 9, 3) := by decide +kernel
theorem dX11_told_45 : decode cX11_told 45 = .ok (.bipush 28, 2) := by decide +kernel
theorem dX11_told_47 : decode cX11_told 47 = .ok (.iload 4, 2) := by decide +kernel
theorem dX11_told_49 : decode cX11_told 49 = .ok (.iadd, 1) := by decide +kernel
theorem dX11_told_50 : decode cX11_told 50 = .ok (.iaload, 1) := by decide +kernel
theorem dX11_told_51 : decode cX11_told 51 = .ok (.iload_n 1, 1) := by decide +kernel
theorem dX11_told_52 : decode cX11_told 52 = .ok (.if_icmp .ne 7, 3) := by decide +kernel
theorem dX11_told_55 : decode cX11_told 55 = .ok (.iconst 1, 1) := by decide +kernel
theorem dX11_told_56 : decode cX11_told 56 = .ok (.goto 4, 3) := by decide +kernel
theorem dX11_told_59 : decode cX11_told 59 = .ok (.iconst 0, 1) := by decide +kernel
theorem dX11_told_60 : decode cX11_told 60 = .ok (.iadd, 1) := by decide +kernel
theorem dX11_told_61 : decode cX11_told 61 = .ok (.istore_n 3, 1) := by decide +kernel
theorem dX11_told_62 : decode cX11_told 62 = .ok (.iinc 4 1, 3) := by decide +kernel
theorem dX11_told_65 : decode cX11_told 65 = .ok (.goto (-36), 3) := by decide +kernel
theorem dX11_told_68 : decode cX11_told 68 = .ok (.iload_n 2, 1) := by decide +kernel
theorem dX11_told_69 : decode cX11_told 69 = .ok (.iconst 2, 1) := by decide +kernel
theorem dX11_told_70 : decode cX11_told 70 = .ok (.if_icmp .ne 7, 3) := by decide +kernel
theorem dX11_told_73 : decode cX11_told 73 = .ok (.iload_n 3, 1) := by decide +kernel
theorem dX11_told_74 : decode cX11_told 74 = .ok (.goto 16, 3) := by decide +kernel
theorem dX11_told_77 : decode cX11_told 77 = .ok (.aload_n 0, 1) := by decide +kernel
theorem dX11_told_78 : decode cX11_told 78 = .ok (.getfield 9, 3) := by decide +kernel
theorem dX11_told_81 : decode cX11_told 81 = .ok (.iconst 4, 1) := by decide +kernel
theorem dX11_told_82 : decode cX11_told 82 = .ok (.bipush 12, 2) := by decide +kernel
theorem dX11_told_84 : decode cX11_told 84 = .ok (.iload_n 2, 1) := by decide +kernel
theorem dX11_told_85 : decode cX11_told 85 = .ok (.imul, 1) := by decide +kernel
theorem dX11_told_86 : decode cX11_told 86 = .ok (.iadd, 1) := by decide +kernel
theorem dX11_told_87 : decode cX11_told 87 = .ok (.iload_n 1, 1) := by decide +kernel
theorem dX11_told_88 : decode cX11_told 88 = .ok (.iadd, 1) := by decide +kernel
theorem dX11_told_89 : decode cX11_told 89 = .ok (.iaload, 1) := by decide +kernel
theorem dX11_told_90 : decode cX11_told 90 = .ok (.ireturn, 1) := by decide +kernel
theorem dX11_shapeOf_0 : decode cX11_shapeOf 0 = .ok (.aload_n 0, 1) := by decide +kernel
theorem dX11_shapeOf_1 : decode cX11_shapeOf 1 = .ok (.getfield 13, 3) := by decide +kernel
theorem dX11_shapeOf_4 : decode cX11_shapeOf 4 = .ok (.iload_n 1, 1) := by decide +kernel
theorem dX11_shapeOf_5 : decode cX11_shapeOf 5 = .ok (.laload, 1) := by decide +kernel
theorem dX11_shapeOf_6 : decode cX11_shapeOf 6 = .ok (.iconst 2, 1) := by decide +kernel
theorem dX11_shapeOf_7 : decode cX11_shapeOf 7 = .ok (.iload_n 2, 1) := by decide +kernel
theorem dX11_shapeOf_8 : decode cX11_shapeOf 8 = .ok (.imul, 1) := by decide +kernel
theorem dX11_shapeOf_9 : decode cX11_shapeOf 9 = .ok (.lshr, 1) := by decide +kernel
theorem dX11_shapeOf_10 : decode cX11_shapeOf 10 = .ok (.ldc2_w 81, 3) := by decide +kernel
theorem dX11_shapeOf_13 : decode cX11_shapeOf 13 = .ok (.land, 1) := by decide +kernel
theorem dX11_shapeOf_14 : decode cX11_shapeOf 14 = .ok (.l2i, 1) := by decide +kernel
theorem dX11_shapeOf_15 : decode cX11_shapeOf 15 = .ok (.ireturn, 1) := by decide +kernel
theorem dX11_shape_0 : decode cX11_shape 0 = .ok (.aload_n 0, 1) := by decide +kernel
theorem dX11_shape_1 : decode cX11_shape 1 = .ok (.iload_n 1, 1) := by decide +kernel
theorem dX11_shape_2 : decode cX11_shape 2 = .ok (.invokevirtual 77, 3) := by decide +kernel
theorem dX11_shape_5 : decode cX11_shape 5 = .ok (.ifCond .eq 31, 3) := by decide +kernel
theorem dX11_shape_8 : decode cX11_shape 8 = .ok (.iload_n 2, 1) := by decide +kernel
theorem dX11_shape_9 : decode cX11_shape 9 = .ok (.iconst 0, 1) := by decide +kernel
theorem dX11_shape_10 : decode cX11_shape 10 = .ok (.aload_n 0, 1) := by decide +kernel
theorem dX11_shape_11 : decode cX11_shape 11 = .ok (.getfield 9, 3) := by decide +kernel
theorem dX11_shape_14 : decode cX11_shape 14 = .ok (.bipush 16, 2) := by decide +kernel
theorem dX11_shape_16 : decode cX11_shape 16 = .ok (.iload_n 1, 1) := by decide +kernel
theorem dX11_shape_17 : decode cX11_shape 17 = .ok (.iadd, 1) := by decide +kernel
theorem dX11_shape_18 : decode cX11_shape 18 = .ok (.iaload, 1) := by decide +kernel
theorem dX11_shape_19 : decode cX11_shape 19 = .ok (.iconst 1, 1) := by decide +kernel
theorem dX11_shape_20 : decode cX11_shape 20 = .ok (.isub, 1) := by decide +kernel
theorem dX11_shape_21 : decode cX11_shape 21 = .ok (.invokestatic 60, 3) := by decide +kernel
theorem dX11_shape_24 : decode cX11_shape 24 = .ok (.ifCond .eq 12, 3) := by decide +kernel
theorem dX11_shape_27 : decode cX11_shape 27 = .ok (.aload_n 0, 1) := by decide +kernel
theorem dX11_shape_28 : decode cX11_shape 28 = .ok (.iload_n 1, 1) := by decide +kernel
theorem dX11_shape_29 : decode cX11_shape 29 = .ok (.iload_n 2, 1) := by decide +kernel
theorem dX11_shape_30 : decode cX11_shape 30 = .ok (.invokevirtual 93, 3) := by decide +kernel
theorem dX11_shape_33 : decode cX11_shape 33 = .ok (.goto 9, 3) := by decide +kernel
theorem dX11_shape_36 : decode cX11_shape 36 = .ok (.aload_n 0, 1) := by decide +kernel
theorem dX11_shape_37 : decode cX11_shape 37 = .ok (.ldc 72, 2) := by decide +kernel
theorem dX11_shape_39 : decode cX11_shape 39 = .ok (.invokevirtual 68, 3) := by decide +kernel
theorem dX11_shape_42 : decode cX11_shape 42 = .ok (.ireturn, 1) := by decide +kernel
theorem dX11_syllableOf_0 : decode cX11_syllableOf 0 = .ok (.aload_n 0, 1) := by decide +kernel
theorem dX11_syllableOf_1 : decode cX11_syllableOf 1 = .ok (.getfield 9, 3) := by decide +kernel
theorem dX11_syllableOf_4 : decode cX11_syllableOf 4 = .ok (.bipush 108, 2) := by decide +kernel
theorem dX11_syllableOf_6 : decode cX11_syllableOf 6 = .ok (.bipush 8, 2) := by decide +kernel
theorem dX11_syllableOf_8 : decode cX11_syllableOf 8 = .ok (.iload_n 1, 1) := by decide +kernel
theorem dX11_syllableOf_9 : decode cX11_syllableOf 9 = .ok (.imul, 1) := by decide +kernel
theorem dX11_syllableOf_10 : decode cX11_syllableOf 10 = .ok (.iadd, 1) := by decide +kernel
theorem dX11_syllableOf_11 : decode cX11_syllableOf 11 = .ok (.iload_n 2, 1) := by decide +kernel
theorem dX11_syllableOf_12 : decode cX11_syllableOf 12 = .ok (.iadd, 1) := by decide +kernel
theorem dX11_syllableOf_13 : decode cX11_syllableOf 13 = .ok (.iaload, 1) := by decide +kernel
theorem dX11_syllableOf_14 : decode cX11_syllableOf 14 = .ok (.ireturn, 1) := by decide +kernel
theorem dX11_leastOf_0 : decode cX11_leastOf 0 = .ok (.aload_n 0, 1) := by decide +kernel
theorem dX11_leastOf_1 : decode cX11_leastOf 1 = .ok (.iload_n 1, 1) := by decide +kernel
theorem dX11_leastOf_2 : decode cX11_leastOf 2 = .ok (.iload_n 2, 1) := by decide +kernel
theorem dX11_leastOf_3 : decode cX11_leastOf 3 = .ok (.invokevirtual 97, 3) := by decide +kernel
theorem dX11_leastOf_6 : decode cX11_leastOf 6 = .ok (.iconst 2, 1) := by decide +kernel
theorem dX11_leastOf_7 : decode cX11_leastOf 7 = .ok (.ishr, 1) := by decide +kernel
theorem dX11_leastOf_8 : decode cX11_leastOf 8 = .ok (.bipush 7, 2) := by decide +kernel
theorem dX11_leastOf_10 : decode cX11_leastOf 10 = .ok (.iand, 1) := by decide +kernel
theorem dX11_leastOf_11 : decode cX11_leastOf 11 = .ok (.ireturn, 1) := by decide +kernel
theorem dX11_mostOf_0 : decode cX11_mostOf 0 = .ok (.aload_n 0, 1) := by decide +kernel
theorem dX11_mostOf_1 : decode cX11_mostOf 1 = .ok (.getfield 9, 3) := by decide +kernel
theorem dX11_mostOf_4 : decode cX11_mostOf 4 = .ok (.bipush 48, 2) := by decide +kernel
theorem dX11_mostOf_6 : decode cX11_mostOf 6 = .ok (.iload_n 1, 1) := by decide +kernel
theorem dX11_mostOf_7 : decode cX11_mostOf 7 = .ok (.iadd, 1) := by decide +kernel
theorem dX11_mostOf_8 : decode cX11_mostOf 8 = .ok (.iaload, 1) := by decide +kernel
theorem dX11_mostOf_9 : decode cX11_mostOf 9 = .ok (.istore_n 3, 1) := by decide +kernel
theorem dX11_mostOf_10 : decode cX11_mostOf 10 = .ok (.iload_n 3, 1) := by decide +kernel
theorem dX11_mostOf_11 : decode cX11_mostOf 11 = .ok (.iconst 1, 1) := by decide +kernel
theorem dX11_mostOf_12 : decode cX11_mostOf 12 = .ok (.if_icmp .eq 8, 3) := by decide +kernel
theorem dX11_mostOf_15 : decode cX11_mostOf 15 = .ok (.iload_n 3, 1) := by decide +kernel
theorem dX11_mostOf_16 : decode cX11_mostOf 16 = .ok (.iconst 3, 1) := by decide +kernel
theorem dX11_mostOf_17 : decode cX11_mostOf 17 = .ok (.if_icmp .ne 12, 3) := by decide +kernel
theorem dX11_mostOf_20 : decode cX11_mostOf 20 = .ok (.aload_n 0, 1) := by decide +kernel
theorem dX11_mostOf_21 : decode cX11_mostOf 21 = .ok (.iload_n 1, 1) := by decide +kernel
theorem dX11_mostOf_22 : decode cX11_mostOf 22 = .ok (.iload_n 2, 1) := by decide +kernel
theorem dX11_mostOf_23 : decode cX11_mostOf 23 = .ok (.invokevirtual 100, 3) := by decide +kernel
theorem dX11_mostOf_26 : decode cX11_mostOf 26 = .ok (.goto 14, 3) := by decide +kernel
theorem dX11_mostOf_29 : decode cX11_mostOf 29 = .ok (.aload_n 0, 1) := by decide +kernel
theorem dX11_mostOf_30 : decode cX11_mostOf 30 = .ok (.iload_n 1, 1) := by decide +kernel
theorem dX11_mostOf_31 : decode cX11_mostOf 31 = .ok (.iload_n 2, 1) := by decide +kernel
theorem dX11_mostOf_32 : decode cX11_mostOf 32 = .ok (.invokevirtual 97, 3) := by decide +kernel
theorem dX11_mostOf_35 : decode cX11_mostOf 35 = .ok (.iconst 5, 1) := by decide +kernel
theorem dX11_mostOf_36 : decode cX11_mostOf 36 = .ok (.ishr, 1) := by decide +kernel
theorem dX11_mostOf_37 : decode cX11_mostOf 37 = .ok (.bipush 7, 2) := by decide +kernel
theorem dX11_mostOf_39 : decode cX11_mostOf 39 = .ok (.iand, 1) := by decide +kernel
theorem dX11_mostOf_40 : decode cX11_mostOf 40 = .ok (.ireturn, 1) := by decide +kernel
theorem dX11_offOf_0 : decode cX11_offOf 0 = .ok (.aload_n 0, 1) := by decide +kernel
theorem dX11_offOf_1 : decode cX11_offOf 1 = .ok (.iload_n 1, 1) := by decide +kernel
theorem dX11_offOf_2 : decode cX11_offOf 2 = .ok (.iload_n 2, 1) := by decide +kernel
theorem dX11_offOf_3 : decode cX11_offOf 3 = .ok (.invokevirtual 97, 3) := by decide +kernel
theorem dX11_offOf_6 : decode cX11_offOf 6 = .ok (.iconst 3, 1) := by decide +kernel
theorem dX11_offOf_7 : decode cX11_offOf 7 = .ok (.iand, 1) := by decide +kernel
theorem dX11_offOf_8 : decode cX11_offOf 8 = .ok (.istore 4, 2) := by decide +kernel
theorem dX11_offOf_10 : decode cX11_offOf 10 = .ok (.aload_n 0, 1) := by decide +kernel
theorem dX11_offOf_11 : decode cX11_offOf 11 = .ok (.aload_n 0, 1) := by decide +kernel
theorem dX11_offOf_12 : decode cX11_offOf 12 = .ok (.getfield 9, 3) := by decide +kernel
theorem dX11_offOf_15 : decode cX11_offOf 15 = .ok (.bipush 28, 2) := by decide +kernel
theorem dX11_offOf_17 : decode cX11_offOf 17 = .ok (.iload_n 1, 1) := by decide +kernel
theorem dX11_offOf_18 : decode cX11_offOf 18 = .ok (.iadd, 1) := by decide +kernel
theorem dX11_offOf_19 : decode cX11_offOf 19 = .ok (.iaload, 1) := by decide +kernel
theorem dX11_offOf_20 : decode cX11_offOf 20 = .ok (.iload_n 3, 1) := by decide +kernel
theorem dX11_offOf_21 : decode cX11_offOf 21 = .ok (.invokevirtual 93, 3) := by decide +kernel
theorem dX11_offOf_24 : decode cX11_offOf 24 = .ok (.istore 5, 2) := by decide +kernel
theorem dX11_offOf_26 : decode cX11_offOf 26 = .ok (.aload_n 0, 1) := by decide +kernel
theorem dX11_offOf_27 : decode cX11_offOf 27 = .ok (.getfield 9, 3) := by decide +kernel
theorem dX11_offOf_30 : decode cX11_offOf 30 = .ok (.bipush 48, 2) := by decide +kernel
theorem dX11_offOf_32 : decode cX11_offOf 32 = .ok (.iload_n 1, 1) := by decide +kernel
theorem dX11_offOf_33 : decode cX11_offOf 33 = .ok (.iadd, 1) := by decide +kernel
theorem dX11_offOf_34 : decode cX11_offOf 34 = .ok (.iaload, 1) := by decide +kernel
theorem dX11_offOf_35 : decode cX11_offOf 35 = .ok (.istore 6, 2) := by decide +kernel
theorem dX11_offOf_37 : decode cX11_offOf 37 = .ok (.iload 4, 2) := by decide +kernel
theorem dX11_offOf_39 : decode cX11_offOf 39 = .ok (.iload 5, 2) := by decide +kernel
theorem dX11_offOf_41 : decode cX11_offOf 41 = .ok (.if_icmp .eq 9, 3) := by decide +kernel
theorem dX11_offOf_44 : decode cX11_offOf 44 = .ok (.iload 6, 2) := by decide +kernel
theorem dX11_offOf_46 : decode cX11_offOf 46 = .ok (.iconst 2, 1) := by decide +kernel
theorem dX11_offOf_47 : decode cX11_offOf 47 = .ok (.if_icmp .ne 5, 3) := by decide +kernel
theorem dX11_offOf_50 : decode cX11_offOf 50 = .ok (.iconst 0, 1) := by decide +kernel
theorem dX11_offOf_51 : decode cX11_offOf 51 = .ok (.ireturn, 1) := by decide +kernel
theorem dX11_offOf_52 : decode cX11_offOf 52 = .ok (.iload 4, 2) := by decide +kernel
theorem dX11_offOf_54 : decode cX11_offOf 54 = .ok (.ifCond .eq 8, 3) := by decide +kernel
theorem dX11_offOf_57 : decode cX11_offOf 57 = .ok (.iload 5, 2) := by decide +kernel
theorem dX11_offOf_59 : decode cX11_offOf 59 = .ok (.ifCond .ne 7, 3) := by decide +kernel
theorem dX11_offOf_62 : decode cX11_offOf 62 = .ok (.iconst 1, 1) := by decide +kernel
theorem dX11_offOf_63 : decode cX11_offOf 63 = .ok (.goto 4, 3) := by decide +kernel
theorem dX11_offOf_66 : decode cX11_offOf 66 = .ok (.iconst 0, 1) := by decide +kernel
theorem dX11_offOf_67 : decode cX11_offOf 67 = .ok (.istore 7, 2) := by decide +kernel
theorem dX11_offOf_69 : decode cX11_offOf 69 = .ok (.iload 7, 2) := by decide +kernel
theorem dX11_offOf_71 : decode cX11_offOf 71 = .ok (.ifCond .ne 7, 3) := by decide +kernel
theorem dX11_offOf_74 : decode cX11_offOf 74 = .ok (.iconst 1, 1) := by decide +kernel
theorem dX11_offOf_75 : decode cX11_offOf 75 = .ok (.goto 14, 3) := by decide +kernel
theorem dX11_offOf_78 : decode cX11_offOf 78 = .ok (.iload 6, 2) := by decide +kernel
theorem dX11_offOf_80 : decode cX11_offOf 80 = .ok (.iconst 3, 1) := by decide +kernel
theorem dX11_offOf_81 : decode cX11_offOf 81 = .ok (.if_icmp .ne 7, 3) := by decide +kernel
theorem dX11_offOf_84 : decode cX11_offOf 84 = .ok (.iconst 0, 1) := by decide +kernel
theorem dX11_offOf_85 : decode cX11_offOf 85 = .ok (.goto 4, 3) := by decide +kernel
theorem dX11_offOf_88 : decode cX11_offOf 88 = .ok (.iconst 3, 1) := by decide +kernel
theorem dX11_offOf_89 : decode cX11_offOf 89 = .ok (.ireturn, 1) := by decide +kernel
theorem dX11_pauseOf_0 : decode cX11_pauseOf 0 = .ok (.aload_n 0, 1) := by decide +kernel
theorem dX11_pauseOf_1 : decode cX11_pauseOf 1 = .ok (.aload_n 0, 1) := by decide +kernel
theorem dX11_pauseOf_2 : decode cX11_pauseOf 2 = .ok (.getfield 9, 3) := by decide +kernel
theorem dX11_pauseOf_5 : decode cX11_pauseOf 5 = .ok (.bipush 28, 2) := by decide +kernel
theorem dX11_pauseOf_7 : decode cX11_pauseOf 7 = .ok (.iload_n 1, 1) := by decide +kernel
theorem dX11_pauseOf_8 : decode cX11_pauseOf 8 = .ok (.iadd, 1) := by decide +kernel
theorem dX11_pauseOf_9 : decode cX11_pauseOf 9 = .ok (.iaload, 1) := by decide +kernel
theorem dX11_pauseOf_10 : decode cX11_pauseOf 10 = .ok (.iload_n 2, 1) := by decide +kernel
theorem dX11_pauseOf_11 : decode cX11_pauseOf 11 = .ok (.invokevirtual 93, 3) := by decide +kernel
theorem dX11_pauseOf_14 : decode cX11_pauseOf 14 = .ok (.ifCond .ne 7, 3) := by decide +kernel
theorem dX11_pauseOf_17 : decode cX11_pauseOf 17 = .ok (.iconst 0, 1) := by decide +kernel
theorem dX11_pauseOf_18 : decode cX11_pauseOf 18 = .ok (.goto 4, 3) := by decide +kernel
theorem dX11_pauseOf_21 : decode cX11_pauseOf 21 = .ok (.iconst 2, 1) := by decide +kernel
theorem dX11_pauseOf_22 : decode cX11_pauseOf 22 = .ok (.ireturn, 1) := by decide +kernel
theorem dX11_leastAt_0 : decode cX11_leastAt 0 = .ok (.aload_n 0, 1) := by decide +kernel
theorem dX11_leastAt_1 : decode cX11_leastAt 1 = .ok (.getfield 32, 3) := by decide +kernel
theorem dX11_leastAt_4 : decode cX11_leastAt 4 = .ok (.bipush 25, 2) := by decide +kernel
theorem dX11_leastAt_6 : decode cX11_leastAt 6 = .ok (.iload_n 1, 1) := by decide +kernel
theorem dX11_leastAt_7 : decode cX11_leastAt 7 = .ok (.imul, 1) := by decide +kernel
theorem dX11_leastAt_8 : decode cX11_leastAt 8 = .ok (.iload_n 2, 1) := by decide +kernel
theorem dX11_leastAt_9 : decode cX11_leastAt 9 = .ok (.iadd, 1) := by decide +kernel
theorem dX11_leastAt_10 : decode cX11_leastAt 10 = .ok (.iaload, 1) := by decide +kernel
theorem dX11_leastAt_11 : decode cX11_leastAt 11 = .ok (.ireturn, 1) := by decide +kernel
theorem dX11_laid_0 : decode cX11_laid 0 = .ok (.iload_n 3, 1) := by decide +kernel
theorem dX11_laid_1 : decode cX11_laid 1 = .ok (.iload 4, 2) := by decide +kernel
theorem dX11_laid_3 : decode cX11_laid 3 = .ok (.iadd, 1) := by decide +kernel
theorem dX11_laid_4 : decode cX11_laid 4 = .ok (.aload_n 0, 1) := by decide +kernel
theorem dX11_laid_5 : decode cX11_laid 5 = .ok (.getfield 9, 3) := by decide +kernel
theorem dX11_laid_8 : decode cX11_laid 8 = .ok (.bipush 16, 2) := by decide +kernel
theorem dX11_laid_10 : decode cX11_laid 10 = .ok (.aload_n 0, 1) := by decide +kernel
theorem dX11_laid_11 : decode cX11_laid 11 = .ok (.getfield 9, 3) := by decide +kernel
theorem dX11_laid_14 : decode cX11_laid 14 = .ok (.bipush 28, 2) := by decide +kernel
theorem dX11_laid_16 : decode cX11_laid 16 = .ok (.iload_n 1, 1) := by decide +kernel
theorem dX11_laid_17 : decode cX11_laid 17 = .ok (.iadd, 1) := by decide +kernel
theorem dX11_laid_18 : decode cX11_laid 18 = .ok (.iaload, 1) := by decide +kernel
theorem dX11_laid_19 : decode cX11_laid 19 = .ok (.iadd, 1) := by decide +kernel
theorem dX11_laid_20 : decode cX11_laid 20 = .ok (.iaload, 1) := by decide +kernel
theorem dX11_laid_21 : decode cX11_laid 21 = .ok (.if_icmp .le 6, 3) := by decide +kernel
theorem dX11_laid_24 : decode cX11_laid 24 = .ok (.ldc 103, 2) := by decide +kernel
theorem dX11_laid_26 : decode cX11_laid 26 = .ok (.ireturn, 1) := by decide +kernel
theorem dX11_laid_27 : decode cX11_laid 27 = .ok (.aload_n 0, 1) := by decide +kernel
theorem dX11_laid_28 : decode cX11_laid 28 = .ok (.iload_n 2, 1) := by decide +kernel
theorem dX11_laid_29 : decode cX11_laid 29 = .ok (.iconst 1, 1) := by decide +kernel
theorem dX11_laid_30 : decode cX11_laid 30 = .ok (.iadd, 1) := by decide +kernel
theorem dX11_laid_31 : decode cX11_laid 31 = .ok (.iload_n 3, 1) := by decide +kernel
theorem dX11_laid_32 : decode cX11_laid 32 = .ok (.iload 4, 2) := by decide +kernel
theorem dX11_laid_34 : decode cX11_laid 34 = .ok (.iadd, 1) := by decide +kernel
theorem dX11_laid_35 : decode cX11_laid 35 = .ok (.invokevirtual 104, 3) := by decide +kernel
theorem dX11_laid_38 : decode cX11_laid 38 = .ok (.istore 5, 2) := by decide +kernel
theorem dX11_laid_40 : decode cX11_laid 40 = .ok (.iconst 0, 1) := by decide +kernel
theorem dX11_laid_41 : decode cX11_laid 41 = .ok (.istore 6, 2) := by decide +kernel
theorem dX11_laid_43 : decode cX11_laid 43 = .ok (.iload 6, 2) := by decide +kernel
theorem dX11_laid_45 : decode cX11_laid 45 = .ok (.iload 4, 2) := by decide +kernel
theorem dX11_laid_47 : decode cX11_laid 47 = .ok (.if_icmp .ge 24, 3) := by decide +kernel
theorem dX11_laid_50 : decode cX11_laid 50 = .ok (.iload 5, 2) := by decide +kernel
theorem dX11_laid_52 : decode cX11_laid 52 = .ok (.aload_n 0, 1) := by decide +kernel
theorem dX11_laid_53 : decode cX11_laid 53 = .ok (.iload_n 1, 1) := by decide +kernel
theorem dX11_laid_54 : decode cX11_laid 54 = .ok (.iload_n 2, 1) := by decide +kernel
theorem dX11_laid_55 : decode cX11_laid 55 = .ok (.iload_n 3, 1) := by decide +kernel
theorem dX11_laid_56 : decode cX11_laid 56 = .ok (.iload 6, 2) := by decide +kernel
theorem dX11_laid_58 : decode cX11_laid 58 = .ok (.iadd, 1) := by decide +kernel
theorem dX11_laid_59 : decode cX11_laid 59 = .ok (.invokevirtual 107, 3) := by decide +kernel
theorem dX11_laid_62 : decode cX11_laid 62 = .ok (.iadd, 1) := by decide +kernel
theorem dX11_laid_63 : decode cX11_laid 63 = .ok (.istore 5, 2) := by decide +kernel
theorem dX11_laid_65 : decode cX11_laid 65 = .ok (.iinc 6 1, 3) := by decide +kernel
theorem dX11_laid_68 : decode cX11_laid 68 = .ok (.goto (-25), 3) := by decide +kernel
theorem dX11_laid_71 : decode cX11_laid 71 = .ok (.iload 5, 2) := by decide +kernel
theorem dX11_laid_73 : decode cX11_laid 73 = .ok (.ldc 103, 2) := by decide +kernel
theorem dX11_laid_75 : decode cX11_laid 75 = .ok (.invokestatic 111, 3) := by decide +kernel
theorem dX11_laid_78 : decode cX11_laid 78 = .ok (.ireturn, 1) := by decide +kernel
theorem dX11_fit_0 : decode cX11_fit 0 = .ok (.aload_n 0, 1) := by decide +kernel
theorem dX11_fit_1 : decode cX11_fit 1 = .ok (.getfield 9, 3) := by decide +kernel
theorem dX11_fit_4 : decode cX11_fit 4 = .ok (.bipush 16, 2) := by decide +kernel
theorem dX11_fit_6 : decode cX11_fit 6 = .ok (.aload_n 0, 1) := by decide +kernel
theorem dX11_fit_7 : decode cX11_fit 7 = .ok (.getfield 9, 3) := by decide +kernel
theorem dX11_fit_10 : decode cX11_fit 10 = .ok (.bipush 28, 2) := by decide +kernel
theorem dX11_fit_12 : decode cX11_fit 12 = .ok (.iload_n 1, 1) := by decide +kernel
theorem dX11_fit_13 : decode cX11_fit 13 = .ok (.iadd, 1) := by decide +kernel
theorem dX11_fit_14 : decode cX11_fit 14 = .ok (.iaload, 1) := by decide +kernel
theorem dX11_fit_15 : decode cX11_fit 15 = .ok (.iadd, 1) := by decide +kernel
theorem dX11_fit_16 : decode cX11_fit 16 = .ok (.iaload, 1) := by decide +kernel
theorem dX11_fit_17 : decode cX11_fit 17 = .ok (.istore_n 2, 1) := by decide +kernel
theorem dX11_fit_18 : decode cX11_fit 18 = .ok (.aload_n 0, 1) := by decide +kernel
theorem dX11_fit_19 : decode cX11_fit 19 = .ok (.getfield 9, 3) := by decide +kernel
theorem dX11_fit_22 : decode cX11_fit 22 = .ok (.bipush 88, 2) := by decide +kernel
theorem dX11_fit_24 : decode cX11_fit 24 = .ok (.iload_n 1, 1) := by decide +kernel
theorem dX11_fit_25 : decode cX11_fit 25 = .ok (.iadd, 1) := by decide +kernel
theorem dX11_fit_26 : decode cX11_fit 26 = .ok (.iaload, 1) := by decide +kernel
theorem dX11_fit_27 : decode cX11_fit 27 = .ok (.istore_n 3, 1) := by decide +kernel
theorem dX11_fit_28 : decode cX11_fit 28 = .ok (.iload_n 3, 1) := by decide +kernel
theorem dX11_fit_29 : decode cX11_fit 29 = .ok (.istore 4, 2) := by decide +kernel
theorem dX11_fit_31 : decode cX11_fit 31 = .ok (.iload 4, 2) := by decide +kernel
theorem dX11_fit_33 : decode cX11_fit 33 = .ok (.ifCond .lt 145, 3) := by decide +kernel
theorem dX11_fit_36 : decode cX11_fit 36 = .ok (.iload_n 2, 1) := by decide +kernel
theorem dX11_fit_37 : decode cX11_fit 37 = .ok (.istore 5, 2) := by decide +kernel
theorem dX11_fit_39 : decode cX11_fit 39 = .ok (.iload 5, 2) := by decide +kernel
theorem dX11_fit_41 : decode cX11_fit 41 = .ok (.ifCond .lt 131, 3) := by decide +kernel
theorem dX11_fit_44 : decode cX11_fit 44 = .ok (.iload 5, 2) := by decide +kernel
theorem dX11_fit_46 : decode cX11_fit 46 = .ok (.iload_n 2, 1) := by decide +kernel
theorem dX11_fit_47 : decode cX11_fit 47 = .ok (.if_icmp .ge 24, 3) := by decide +kernel
theorem dX11_fit_50 : decode cX11_fit 50 = .ok (.aload_n 0, 1) := by decide +kernel
theorem dX11_fit_51 : decode cX11_fit 51 = .ok (.iload_n 1, 1) := by decide +kernel
theorem dX11_fit_52 : decode cX11_fit 52 = .ok (.iload 5, 2) := by decide +kernel
theorem dX11_fit_54 : decode cX11_fit 54 = .ok (.invokevirtual 116, 3) := by decide +kernel
theorem dX11_fit_57 : decode cX11_fit 57 = .ok (.aload_n 0, 1) := by decide +kernel
theorem dX11_fit_58 : decode cX11_fit 58 = .ok (.iload 4, 2) := by decide +kernel
theorem dX11_fit_60 : decode cX11_fit 60 = .ok (.iload 5, 2) := by decide +kernel
theorem dX11_fit_62 : decode cX11_fit 62 = .ok (.iconst 1, 1) := by decide +kernel
theorem dX11_fit_63 : decode cX11_fit 63 = .ok (.iadd, 1) := by decide +kernel
theorem dX11_fit_64 : decode cX11_fit 64 = .ok (.invokevirtual 104, 3) := by decide +kernel
theorem dX11_fit_67 : decode cX11_fit 67 = .ok (.iadd, 1) := by decide +kernel
theorem dX11_fit_68 : decode cX11_fit 68 = .ok (.goto 15, 3) := by decide +kernel
theorem dX11_fit_71 : decode cX11_fit 71 = .ok (.iload 4, 2) := by decide +kernel
theorem dX11_fit_73 : decode cX11_fit 73 = .ok (.iload_n 3, 1) := by decide +kernel
theorem dX11_fit_74 : decode cX11_fit 74 = .ok (.if_icmp .ne 7, 3) := by decide +kernel
theorem dX11_fit_77 : decode cX11_fit 77 = .ok (.iconst 0, 1) := by decide +kernel
theorem dX11_fit_78 : decode cX11_fit 78 = .ok (.goto 5, 3) := by decide +kernel
theorem dX11_fit_81 : decode cX11_fit 81 = .ok (.ldc 103, 2) := by decide +kernel
theorem dX11_fit_83 : decode cX11_fit 83 = .ok (.istore 6, 2) := by decide +kernel
theorem dX11_fit_85 : decode cX11_fit 85 = .ok (.iload 4, 2) := by decide +kernel
theorem dX11_fit_87 : decode cX11_fit 87 = .ok (.iload_n 3, 1) := by decide +kernel
theorem dX11_fit_88 : decode cX11_fit 88 = .ok (.if_icmp .ge 13, 3) := by decide +kernel
theorem dX11_fit_91 : decode cX11_fit 91 = .ok (.aload_n 0, 1) := by decide +kernel
theorem dX11_fit_92 : decode cX11_fit 92 = .ok (.iload_n 1, 1) := by decide +kernel
theorem dX11_fit_93 : decode cX11_fit 93 = .ok (.iload 4, 2) := by decide +kernel
theorem dX11_fit_95 : decode cX11_fit 95 = .ok (.invokevirtual 100, 3) := by decide +kernel
theorem dX11_fit_98 : decode cX11_fit 98 = .ok (.goto 4, 3) := by decide +kernel
theorem dX11_fit_101 : decode cX11_fit 101 = .ok (.iconst 1, 1) := by decide +kernel
theorem dX11_fit_102 : decode cX11_fit 102 = .ok (.istore 7, 2) := by decide +kernel
theorem dX11_fit_104 : decode cX11_fit 104 = .ok (.iload 4, 2) := by decide +kernel
theorem dX11_fit_106 : decode cX11_fit 106 = .ok (.iload_n 3, 1) := by decide +kernel
theorem dX11_fit_107 : decode cX11_fit 107 = .ok (.if_icmp .ge 39, 3) := by decide +kernel
theorem dX11_fit_110 : decode cX11_fit 110 = .ok (.iload 7, 2) := by decide +kernel
theorem dX11_fit_112 : decode cX11_fit 112 = .ok (.aload_n 0, 1) := by decide +kernel
theorem dX11_fit_113 : decode cX11_fit 113 = .ok (.iload_n 1, 1) := by decide +kernel
theorem dX11_fit_114 : decode cX11_fit 114 = .ok (.iload 4, 2) := by decide +kernel
theorem dX11_fit_116 : decode cX11_fit 116 = .ok (.invokevirtual 119, 3) := by decide +kernel
theorem dX11_fit_119 : decode cX11_fit 119 = .ok (.if_icmp .gt 27, 3) := by decide +kernel
theorem dX11_fit_122 : decode cX11_fit 122 = .ok (.iload 6, 2) := by decide +kernel
theorem dX11_fit_124 : decode cX11_fit 124 = .ok (.aload_n 0, 1) := by decide +kernel
theorem dX11_fit_125 : decode cX11_fit 125 = .ok (.iload_n 1, 1) := by decide +kernel
theorem dX11_fit_126 : decode cX11_fit 126 = .ok (.iload 4, 2) := by decide +kernel
theorem dX11_fit_128 : decode cX11_fit 128 = .ok (.iload 5, 2) := by decide +kernel
theorem dX11_fit_130 : decode cX11_fit 130 = .ok (.iload 7, 2) := by decide +kernel
theorem dX11_fit_132 : decode cX11_fit 132 = .ok (.invokevirtual 122, 3) := by decide +kernel
theorem dX11_fit_135 : decode cX11_fit 135 = .ok (.invokestatic 111, 3) := by decide +kernel
theorem dX11_fit_138 : decode cX11_fit 138 = .ok (.istore 6, 2) := by decide +kernel
theorem dX11_fit_140 : decode cX11_fit 140 = .ok (.iinc 7 1, 3) := by decide +kernel
theorem dX11_fit_143 : decode cX11_fit 143 = .ok (.goto (-39), 3) := by decide +kernel
theorem dX11_fit_146 : decode cX11_fit 146 = .ok (.aload_n 0, 1) := by decide +kernel
theorem dX11_fit_147 : decode cX11_fit 147 = .ok (.getfield 32, 3) := by decide +kernel
theorem dX11_fit_150 : decode cX11_fit 150 = .ok (.bipush 25, 2) := by decide +kernel
theorem dX11_fit_152 : decode cX11_fit 152 = .ok (.iload 4, 2) := by decide +kernel
theorem dX11_fit_154 : decode cX11_fit 154 = .ok (.imul, 1) := by decide +kernel
theorem dX11_fit_155 : decode cX11_fit 155 = .ok (.iload 5, 2) := by decide +kernel
theorem dX11_fit_157 : decode cX11_fit 157 = .ok (.iadd, 1) := by decide +kernel
theorem dX11_fit_158 : decode cX11_fit 158 = .ok (.iload 6, 2) := by decide +kernel
theorem dX11_fit_160 : decode cX11_fit 160 = .ok (.ldc 103, 2) := by decide +kernel
theorem dX11_fit_162 : decode cX11_fit 162 = .ok (.invokestatic 111, 3) := by decide +kernel
theorem dX11_fit_165 : decode cX11_fit 165 = .ok (.iastore, 1) := by decide +kernel
theorem dX11_fit_166 : decode cX11_fit 166 = .ok (.iinc 5 (-1), 3) := by decide +kernel
theorem dX11_fit_169 : decode cX11_fit 169 = .ok (.goto (-130), 3) := by decide +kernel
theorem dX11_fit_172 : decode cX11_fit 172 = .ok (.iinc 4 (-1), 3) := by decide +kernel
theorem dX11_fit_175 : decode cX11_fit 175 = .ok (.goto (-144), 3) := by decide +kernel
theorem dX11_fit_178 : decode cX11_fit 178 = .ok (.aload_n 0, 1) := by decide +kernel
theorem dX11_fit_179 : decode cX11_fit 179 = .ok (.iconst 0, 1) := by decide +kernel
theorem dX11_fit_180 : decode cX11_fit 180 = .ok (.iconst 0, 1) := by decide +kernel
theorem dX11_fit_181 : decode cX11_fit 181 = .ok (.invokevirtual 104, 3) := by decide +kernel
theorem dX11_fit_184 : decode cX11_fit 184 = .ok (.ldc 103, 2) := by decide +kernel
theorem dX11_fit_186 : decode cX11_fit 186 = .ok (.if_icmp .ne 6, 3) := by decide +kernel
theorem dX11_fit_189 : decode cX11_fit 189 = .ok (.ldc 103, 2) := by decide +kernel
theorem dX11_fit_191 : decode cX11_fit 191 = .ok (.ireturn, 1) := by decide +kernel
theorem dX11_fit_192 : decode cX11_fit 192 = .ok (.iconst 0, 1) := by decide +kernel
theorem dX11_fit_193 : decode cX11_fit 193 = .ok (.istore 4, 2) := by decide +kernel
theorem dX11_fit_195 : decode cX11_fit 195 = .ok (.iconst 0, 1) := by decide +kernel
theorem dX11_fit_196 : decode cX11_fit 196 = .ok (.istore 5, 2) := by decide +kernel
theorem dX11_fit_198 : decode cX11_fit 198 = .ok (.iload 5, 2) := by decide +kernel
theorem dX11_fit_200 : decode cX11_fit 200 = .ok (.iload_n 3, 1) := by decide +kernel
theorem dX11_fit_201 : decode cX11_fit 201 = .ok (.if_icmp .ge 67, 3) := by decide +kernel
theorem dX11_fit_204 : decode cX11_fit 204 = .ok (.aload_n 0, 1) := by decide +kernel
theorem dX11_fit_205 : decode cX11_fit 205 = .ok (.iload_n 1, 1) := by decide +kernel
theorem dX11_fit_206 : decode cX11_fit 206 = .ok (.iload 5, 2) := by decide +kernel
theorem dX11_fit_208 : decode cX11_fit 208 = .ok (.iload 4, 2) := by decide +kernel
theorem dX11_fit_210 : decode cX11_fit 210 = .ok (.invokevirtual 126, 3) := by decide +kernel
theorem dX11_fit_213 : decode cX11_fit 213 = .ok (.istore 6, 2) := by decide +kernel
theorem dX11_fit_215 : decode cX11_fit 215 = .ok (.iload 6, 2) := by decide +kernel
theorem dX11_fit_217 : decode cX11_fit 217 = .ok (.ifCond .ge 20, 3) := by decide +kernel
theorem dX11_fit_220 : decode cX11_fit 220 = .ok (.iinc 4 1, 3) := by decide +kernel
theorem dX11_fit_223 : decode cX11_fit 223 = .ok (.aload_n 0, 1) := by decide +kernel
theorem dX11_fit_224 : decode cX11_fit 224 = .ok (.iload_n 1, 1) := by decide +kernel
theorem dX11_fit_225 : decode cX11_fit 225 = .ok (.iload 5, 2) := by decide +kernel
theorem dX11_fit_227 : decode cX11_fit 227 = .ok (.iload 4, 2) := by decide +kernel
theorem dX11_fit_229 : decode cX11_fit 229 = .ok (.invokevirtual 126, 3) := by decide +kernel
theorem dX11_fit_232 : decode cX11_fit 232 = .ok (.istore 6, 2) := by decide +kernel
theorem dX11_fit_234 : decode cX11_fit 234 = .ok (.goto (-19), 3) := by decide +kernel
theorem dX11_fit_237 : decode cX11_fit 237 = .ok (.aload_n 0, 1) := by decide +kernel
theorem dX11_fit_238 : decode cX11_fit 238 = .ok (.getfield 35, 3) := by decide +kernel
theorem dX11_fit_241 : decode cX11_fit 241 = .ok (.iload 5, 2) := by decide +kernel
theorem dX11_fit_243 : decode cX11_fit 243 = .ok (.iload 4, 2) := by decide +kernel
theorem dX11_fit_245 : decode cX11_fit 245 = .ok (.iastore, 1) := by decide +kernel
theorem dX11_fit_246 : decode cX11_fit 246 = .ok (.aload_n 0, 1) := by decide +kernel
theorem dX11_fit_247 : decode cX11_fit 247 = .ok (.getfield 38, 3) := by decide +kernel
theorem dX11_fit_250 : decode cX11_fit 250 = .ok (.iload 5, 2) := by decide +kernel
theorem dX11_fit_252 : decode cX11_fit 252 = .ok (.iload 6, 2) := by decide +kernel
theorem dX11_fit_254 : decode cX11_fit 254 = .ok (.iastore, 1) := by decide +kernel
theorem dX11_fit_255 : decode cX11_fit 255 = .ok (.iload 4, 2) := by decide +kernel
theorem dX11_fit_257 : decode cX11_fit 257 = .ok (.iload 6, 2) := by decide +kernel
theorem dX11_fit_259 : decode cX11_fit 259 = .ok (.iadd, 1) := by decide +kernel
theorem dX11_fit_260 : decode cX11_fit 260 = .ok (.istore 4, 2) := by decide +kernel
theorem dX11_fit_262 : decode cX11_fit 262 = .ok (.iinc 5 1, 3) := by decide +kernel
theorem dX11_fit_265 : decode cX11_fit 265 = .ok (.goto (-67), 3) := by decide +kernel
theorem dX11_fit_268 : decode cX11_fit 268 = .ok (.aload_n 0, 1) := by decide +kernel
theorem dX11_fit_269 : decode cX11_fit 269 = .ok (.iconst 0, 1) := by decide +kernel
theorem dX11_fit_270 : decode cX11_fit 270 = .ok (.iconst 0, 1) := by decide +kernel
theorem dX11_fit_271 : decode cX11_fit 271 = .ok (.invokevirtual 104, 3) := by decide +kernel
theorem dX11_fit_274 : decode cX11_fit 274 = .ok (.ireturn, 1) := by decide +kernel
theorem dX11_lengthAt_0 : decode cX11_lengthAt 0 = .ok (.aload_n 0, 1) := by decide +kernel
theorem dX11_lengthAt_1 : decode cX11_lengthAt 1 = .ok (.iload_n 1, 1) := by decide +kernel
theorem dX11_lengthAt_2 : decode cX11_lengthAt 2 = .ok (.iload_n 2, 1) := by decide +kernel
theorem dX11_lengthAt_3 : decode cX11_lengthAt 3 = .ok (.invokevirtual 100, 3) := by decide +kernel
theorem dX11_lengthAt_6 : decode cX11_lengthAt 6 = .ok (.istore 4, 2) := by decide +kernel
theorem dX11_lengthAt_8 : decode cX11_lengthAt 8 = .ok (.iload 4, 2) := by decide +kernel
theorem dX11_lengthAt_10 : decode cX11_lengthAt 10 = .ok (.aload_n 0, 1) := by decide +kernel
theorem dX11_lengthAt_11 : decode cX11_lengthAt 11 = .ok (.iload_n 1, 1) := by decide +kernel
theorem dX11_lengthAt_12 : decode cX11_lengthAt 12 = .ok (.iload_n 2, 1) := by decide +kernel
theorem dX11_lengthAt_13 : decode cX11_lengthAt 13 = .ok (.invokevirtual 119, 3) := by decide +kernel
theorem dX11_lengthAt_16 : decode cX11_lengthAt 16 = .ok (.if_icmp .gt 30, 3) := by decide +kernel
theorem dX11_lengthAt_19 : decode cX11_lengthAt 19 = .ok (.aload_n 0, 1) := by decide +kernel
theorem dX11_lengthAt_20 : decode cX11_lengthAt 20 = .ok (.iload_n 1, 1) := by decide +kernel
theorem dX11_lengthAt_21 : decode cX11_lengthAt 21 = .ok (.iload_n 2, 1) := by decide +kernel
theorem dX11_lengthAt_22 : decode cX11_lengthAt 22 = .ok (.iload_n 3, 1) := by decide +kernel
theorem dX11_lengthAt_23 : decode cX11_lengthAt 23 = .ok (.iload 4, 2) := by decide +kernel
theorem dX11_lengthAt_25 : decode cX11_lengthAt 25 = .ok (.invokevirtual 122, 3) := by decide +kernel
theorem dX11_lengthAt_28 : decode cX11_lengthAt 28 = .ok (.aload_n 0, 1) := by decide +kernel
theorem dX11_lengthAt_29 : decode cX11_lengthAt 29 = .ok (.iload_n 2, 1) := by decide +kernel
theorem dX11_lengthAt_30 : decode cX11_lengthAt 30 = .ok (.iload_n 3, 1) := by decide +kernel
theorem dX11_lengthAt_31 : decode cX11_lengthAt 31 = .ok (.invokevirtual 104, 3) := by decide +kernel
theorem dX11_lengthAt_34 : decode cX11_lengthAt 34 = .ok (.if_icmp .ne 6, 3) := by decide +kernel
theorem dX11_lengthAt_37 : decode cX11_lengthAt 37 = .ok (.iload 4, 2) := by decide +kernel
theorem dX11_lengthAt_39 : decode cX11_lengthAt 39 = .ok (.ireturn, 1) := by decide +kernel
theorem dX11_lengthAt_40 : decode cX11_lengthAt 40 = .ok (.iinc 4 1, 3) := by decide +kernel
theorem dX11_lengthAt_43 : decode cX11_lengthAt 43 = .ok (.goto (-35), 3) := by decide +kernel
theorem dX11_lengthAt_46 : decode cX11_lengthAt 46 = .ok (.iconst (-1), 1) := by decide +kernel
theorem dX11_lengthAt_47 : decode cX11_lengthAt 47 = .ok (.ireturn, 1) := by decide +kernel
theorem dX11_cost_0 : decode cX11_cost 0 = .ok (.aload_n 0, 1) := by decide +kernel
theorem dX11_cost_1 : decode cX11_cost 1 = .ok (.iload_n 1, 1) := by decide +kernel
theorem dX11_cost_2 : decode cX11_cost 2 = .ok (.invokevirtual 85, 3) := by decide +kernel
theorem dX11_cost_5 : decode cX11_cost 5 = .ok (.ifCond .ne 10, 3) := by decide +kernel
theorem dX11_cost_8 : decode cX11_cost 8 = .ok (.aload_n 0, 1) := by decide +kernel
theorem dX11_cost_9 : decode cX11_cost 9 = .ok (.ldc 72, 2) := by decide +kernel
theorem dX11_cost_11 : decode cX11_cost 11 = .ok (.invokevirtual 68, 3) := by decide +kernel
theorem dX11_cost_14 : decode cX11_cost 14 = .ok (.ireturn, 1) := by decide +kernel
theorem dX11_cost_15 : decode cX11_cost 15 = .ok (.aload_n 0, 1) := by decide +kernel
theorem dX11_cost_16 : decode cX11_cost 16 = .ok (.iload_n 1, 1) := by decide +kernel
theorem dX11_cost_17 : decode cX11_cost 17 = .ok (.invokevirtual 129, 3) := by decide +kernel
theorem dX11_cost_20 : decode cX11_cost 20 = .ok (.istore_n 2, 1) := by decide +kernel
theorem dX11_cost_21 : decode cX11_cost 21 = .ok (.iload_n 2, 1) := by decide +kernel
theorem dX11_cost_22 : decode cX11_cost 22 = .ok (.ldc 103, 2) := by decide +kernel
theorem dX11_cost_24 : decode cX11_cost 24 = .ok (.if_icmp .ne 12, 3) := by decide +kernel
theorem dX11_cost_27 : decode cX11_cost 27 = .ok (.aload_n 0, 1) := by decide +kernel
theorem dX11_cost_28 : decode cX11_cost 28 = .ok (.ldc 67, 2) := by decide +kernel
theorem dX11_cost_30 : decode cX11_cost 30 = .ok (.invokevirtual 68, 3) := by decide +kernel
theorem dX11_cost_33 : decode cX11_cost 33 = .ok (.goto 4, 3) := by decide +kernel
theorem dX11_cost_36 : decode cX11_cost 36 = .ok (.iload_n 2, 1) := by decide +kernel
theorem dX11_cost_37 : decode cX11_cost 37 = .ok (.ireturn, 1) := by decide +kernel
theorem dX11_place_0 : decode cX11_place 0 = .ok (.aload_n 0, 1) := by decide +kernel
theorem dX11_place_1 : decode cX11_place 1 = .ok (.iload_n 1, 1) := by decide +kernel
theorem dX11_place_2 : decode cX11_place 2 = .ok (.invokevirtual 85, 3) := by decide +kernel
theorem dX11_place_5 : decode cX11_place 5 = .ok (.ifCond .eq 22, 3) := by decide +kernel
theorem dX11_place_8 : decode cX11_place 8 = .ok (.iload_n 2, 1) := by decide +kernel
theorem dX11_place_9 : decode cX11_place 9 = .ok (.iconst 0, 1) := by decide +kernel
theorem dX11_place_10 : decode cX11_place 10 = .ok (.aload_n 0, 1) := by decide +kernel
theorem dX11_place_11 : decode cX11_place 11 = .ok (.getfield 9, 3) := by decide +kernel
theorem dX11_place_14 : decode cX11_place 14 = .ok (.bipush 88, 2) := by decide +kernel
theorem dX11_place_16 : decode cX11_place 16 = .ok (.iload_n 1, 1) := by decide +kernel
theorem dX11_place_17 : decode cX11_place 17 = .ok (.iadd, 1) := by decide +kernel
theorem dX11_place_18 : decode cX11_place 18 = .ok (.iaload, 1) := by decide +kernel
theorem dX11_place_19 : decode cX11_place 19 = .ok (.iconst 1, 1) := by decide +kernel
theorem dX11_place_20 : decode cX11_place 20 = .ok (.isub, 1) := by decide +kernel
theorem dX11_place_21 : decode cX11_place 21 = .ok (.invokestatic 60, 3) := by decide +kernel
theorem dX11_place_24 : decode cX11_place 24 = .ok (.ifCond .ne 10, 3) := by decide +kernel
theorem dX11_place_27 : decode cX11_place 27 = .ok (.aload_n 0, 1) := by decide +kernel
theorem dX11_place_28 : decode cX11_place 28 = .ok (.ldc 72, 2) := by decide +kernel
theorem dX11_place_30 : decode cX11_place 30 = .ok (.invokevirtual 68, 3) := by decide +kernel
theorem dX11_place_33 : decode cX11_place 33 = .ok (.ireturn, 1) := by decide +kernel
theorem dX11_place_34 : decode cX11_place 34 = .ok (.aload_n 0, 1) := by decide +kernel
theorem dX11_place_35 : decode cX11_place 35 = .ok (.iload_n 1, 1) := by decide +kernel
theorem dX11_place_36 : decode cX11_place 36 = .ok (.invokevirtual 129, 3) := by decide +kernel
theorem dX11_place_39 : decode cX11_place 39 = .ok (.ldc 103, 2) := by decide +kernel
theorem dX11_place_41 : decode cX11_place 41 = .ok (.if_icmp .ne 12, 3) := by decide +kernel
theorem dX11_place_44 : decode cX11_place 44 = .ok (.aload_n 0, 1) := by decide +kernel
theorem dX11_place_45 : decode cX11_place 45 = .ok (.ldc 67, 2) := by decide +kernel
theorem dX11_place_47 : decode cX11_place 47 = .ok (.invokevirtual 68, 3) := by decide +kernel
theorem dX11_place_50 : decode cX11_place 50 = .ok (.goto 22, 3) := by decide +kernel
theorem dX11_place_53 : decode cX11_place 53 = .ok (.iload_n 3, 1) := by decide +kernel
theorem dX11_place_54 : decode cX11_place 54 = .ok (.ifCond .eq 12, 3) := by decide +kernel
theorem dX11_place_57 : decode cX11_place 57 = .ok (.aload_n 0, 1) := by decide +kernel
theorem dX11_place_58 : decode cX11_place 58 = .ok (.getfield 38, 3) := by decide +kernel
theorem dX11_place_61 : decode cX11_place 61 = .ok (.iload_n 2, 1) := by decide +kernel
theorem dX11_place_62 : decode cX11_place 62 = .ok (.iaload, 1) := by decide +kernel
theorem dX11_place_63 : decode cX11_place 63 = .ok (.goto 9, 3) := by decide +kernel
theorem dX11_place_66 : decode cX11_place 66 = .ok (.aload_n 0, 1) := by decide +kernel
theorem dX11_place_67 : decode cX11_place 67 = .ok (.getfield 35, 3) := by decide +kernel
theorem dX11_place_70 : decode cX11_place 70 = .ok (.iload_n 2, 1) := by decide +kernel
theorem dX11_place_71 : decode cX11_place 71 = .ok (.iaload, 1) := by decide +kernel
theorem dX11_place_72 : decode cX11_place 72 = .ok (.ireturn, 1) := by decide +kernel
theorem dX11_on_0 : decode cX11_on 0 = .ok (.aload_n 0, 1) := by decide +kernel
theorem dX11_on_1 : decode cX11_on 1 = .ok (.iload_n 1, 1) := by decide +kernel
theorem dX11_on_2 : decode cX11_on 2 = .ok (.invokevirtual 85, 3) := by decide +kernel
theorem dX11_on_5 : decode cX11_on 5 = .ok (.ifCond .eq 30, 3) := by decide +kernel
theorem dX11_on_8 : decode cX11_on 8 = .ok (.iload_n 2, 1) := by decide +kernel
theorem dX11_on_9 : decode cX11_on 9 = .ok (.iconst 0, 1) := by decide +kernel
theorem dX11_on_10 : decode cX11_on 10 = .ok (.aload_n 0, 1) := by decide +kernel
theorem dX11_on_11 : decode cX11_on 11 = .ok (.getfield 9, 3) := by decide +kernel
theorem dX11_on_14 : decode cX11_on 14 = .ok (.bipush 16, 2) := by decide +kernel
theorem dX11_on_16 : decode cX11_on 16 = .ok (.aload_n 0, 1) := by decide +kernel
theorem dX11_on_17 : decode cX11_on 17 = .ok (.getfield 9, 3) := by decide +kernel
theorem dX11_on_20 : decode cX11_on 20 = .ok (.bipush 28, 2) := by decide +kernel
theorem dX11_on_22 : decode cX11_on 22 = .ok (.iload_n 1, 1) := by decide +kernel
theorem dX11_on_23 : decode cX11_on 23 = .ok (.iadd, 1) := by decide +kernel
theorem dX11_on_24 : decode cX11_on 24 = .ok (.iaload, 1) := by decide +kernel
theorem dX11_on_25 : decode cX11_on 25 = .ok (.iadd, 1) := by decide +kernel
theorem dX11_on_26 : decode cX11_on 26 = .ok (.iaload, 1) := by decide +kernel
theorem dX11_on_27 : decode cX11_on 27 = .ok (.iconst 1, 1) := by decide +kernel
theorem dX11_on_28 : decode cX11_on 28 = .ok (.isub, 1) := by decide +kernel
theorem dX11_on_29 : decode cX11_on 29 = .ok (.invokestatic 60, 3) := by decide +kernel
theorem dX11_on_32 : decode cX11_on 32 = .ok (.ifCond .ne 10, 3) := by decide +kernel
theorem dX11_on_35 : decode cX11_on 35 = .ok (.aload_n 0, 1) := by decide +kernel
theorem dX11_on_36 : decode cX11_on 36 = .ok (.ldc 72, 2) := by decide +kernel
theorem dX11_on_38 : decode cX11_on 38 = .ok (.invokevirtual 68, 3) := by decide +kernel
theorem dX11_on_41 : decode cX11_on 41 = .ok (.ireturn, 1) := by decide +kernel
theorem dX11_on_42 : decode cX11_on 42 = .ok (.aload_n 0, 1) := by decide +kernel
theorem dX11_on_43 : decode cX11_on 43 = .ok (.iload_n 1, 1) := by decide +kernel
theorem dX11_on_44 : decode cX11_on 44 = .ok (.invokevirtual 129, 3) := by decide +kernel
theorem dX11_on_47 : decode cX11_on 47 = .ok (.ldc 103, 2) := by decide +kernel
theorem dX11_on_49 : decode cX11_on 49 = .ok (.if_icmp .ne 10, 3) := by decide +kernel
theorem dX11_on_52 : decode cX11_on 52 = .ok (.aload_n 0, 1) := by decide +kernel
theorem dX11_on_53 : decode cX11_on 53 = .ok (.ldc 67, 2) := by decide +kernel
theorem dX11_on_55 : decode cX11_on 55 = .ok (.invokevirtual 68, 3) := by decide +kernel
theorem dX11_on_58 : decode cX11_on 58 = .ok (.ireturn, 1) := by decide +kernel
theorem dX11_on_59 : decode cX11_on 59 = .ok (.iconst (-1), 1) := by decide +kernel
theorem dX11_on_60 : decode cX11_on 60 = .ok (.istore_n 3, 1) := by decide +kernel
theorem dX11_on_61 : decode cX11_on 61 = .ok (.iconst 0, 1) := by decide +kernel
theorem dX11_on_62 : decode cX11_on 62 = .ok (.istore 4, 2) := by decide +kernel
theorem dX11_on_64 : decode cX11_on 64 = .ok (.iload 4, 2) := by decide +kernel
theorem dX11_on_66 : decode cX11_on 66 = .ok (.aload_n 0, 1) := by decide +kernel
theorem dX11_on_67 : decode cX11_on 67 = .ok (.getfield 9, 3) := by decide +kernel
theorem dX11_on_70 : decode cX11_on 70 = .ok (.bipush 88, 2) := by decide +kernel
theorem dX11_on_72 : decode cX11_on 72 = .ok (.iload_n 1, 1) := by decide +kernel
theorem dX11_on_73 : decode cX11_on 73 = .ok (.iadd, 1) := by decide +kernel
theorem dX11_on_74 : decode cX11_on 74 = .ok (.iaload, 1) := by decide +kernel
theorem dX11_on_75 : decode cX11_on 75 = .ok (.if_icmp .ge 47, 3) := by decide +kernel
theorem dX11_on_78 : decode cX11_on 78 = .ok (.iload_n 2, 1) := by decide +kernel
theorem dX11_on_79 : decode cX11_on 79 = .ok (.aload_n 0, 1) := by decide +kernel
theorem dX11_on_80 : decode cX11_on 80 = .ok (.getfield 35, 3) := by decide +kernel
theorem dX11_on_83 : decode cX11_on 83 = .ok (.iload 4, 2) := by decide +kernel
theorem dX11_on_85 : decode cX11_on 85 = .ok (.iaload, 1) := by decide +kernel
theorem dX11_on_86 : decode cX11_on 86 = .ok (.aload_n 0, 1) := by decide +kernel
theorem dX11_on_87 : decode cX11_on 87 = .ok (.getfield 35, 3) := by decide +kernel
theorem dX11_on_90 : decode cX11_on 90 = .ok (.iload 4, 2) := by decide +kernel
theorem dX11_on_92 : decode cX11_on 92 = .ok (.iaload, 1) := by decide +kernel
theorem dX11_on_93 : decode cX11_on 93 = .ok (.aload_n 0, 1) := by decide +kernel
theorem dX11_on_94 : decode cX11_on 94 = .ok (.getfield 38, 3) := by decide +kernel
theorem dX11_on_97 : decode cX11_on 97 = .ok (.iload 4, 2) := by decide +kernel
theorem dX11_on_99 : decode cX11_on 99 = .ok (.iaload, 1) := by decide +kernel
theorem dX11_on_100 : decode cX11_on 100 = .ok (.iadd, 1) := by decide +kernel
theorem dX11_on_101 : decode cX11_on 101 = .ok (.iconst 1, 1) := by decide +kernel
theorem dX11_on_102 : decode cX11_on 102 = .ok (.isub, 1) := by decide +kernel
theorem dX11_on_103 : decode cX11_on 103 = .ok (.invokestatic 60, 3) := by decide +kernel
theorem dX11_on_106 : decode cX11_on 106 = .ok (.ifCond .eq 8, 3) := by decide +kernel
theorem dX11_on_109 : decode cX11_on 109 = .ok (.iload 4, 2) := by decide +kernel
theorem dX11_on_111 : decode cX11_on 111 = .ok (.goto 4, 3) := by decide +kernel
theorem dX11_on_114 : decode cX11_on 114 = .ok (.iload_n 3, 1) := by decide +kernel
theorem dX11_on_115 : decode cX11_on 115 = .ok (.istore_n 3, 1) := by decide +kernel
theorem dX11_on_116 : decode cX11_on 116 = .ok (.iinc 4 1, 3) := by decide +kernel
theorem dX11_on_119 : decode cX11_on 119 = .ok (.goto (-55), 3) := by decide +kernel
theorem dX11_on_122 : decode cX11_on 122 = .ok (.iload_n 3, 1) := by decide +kernel
theorem dX11_on_123 : decode cX11_on 123 = .ok (.ireturn, 1) := by decide +kernel
theorem dX11_name_0 : decode cX11_name 0 = .ok (.iload_n 1, 1) := by decide +kernel
theorem dX11_name_1 : decode cX11_name 1 = .ok (.invokestatic 89, 3) := by decide +kernel
theorem dX11_name_4 : decode cX11_name 4 = .ok (.ifCond .eq 13, 3) := by decide +kernel
theorem dX11_name_7 : decode cX11_name 7 = .ok (.iload_n 2, 1) := by decide +kernel
theorem dX11_name_8 : decode cX11_name 8 = .ok (.iconst (-1), 1) := by decide +kernel
theorem dX11_name_9 : decode cX11_name 9 = .ok (.bipush 7, 2) := by decide +kernel
theorem dX11_name_11 : decode cX11_name 11 = .ok (.invokestatic 60, 3) := by decide +kernel
theorem dX11_name_14 : decode cX11_name 14 = .ok (.ifCond .ne 10, 3) := by decide +kernel
theorem dX11_name_17 : decode cX11_name 17 = .ok (.aload_n 0, 1) := by decide +kernel
theorem dX11_name_18 : decode cX11_name 18 = .ok (.ldc 72, 2) := by decide +kernel
theorem dX11_name_20 : decode cX11_name 20 = .ok (.invokevirtual 68, 3) := by decide +kernel
theorem dX11_name_23 : decode cX11_name 23 = .ok (.ireturn, 1) := by decide +kernel
theorem dX11_name_24 : decode cX11_name 24 = .ok (.aload_n 0, 1) := by decide +kernel
theorem dX11_name_25 : decode cX11_name 25 = .ok (.invokevirtual 74, 3) := by decide +kernel
theorem dX11_name_28 : decode cX11_name 28 = .ok (.aload_n 0, 1) := by decide +kernel
theorem dX11_name_29 : decode cX11_name 29 = .ok (.getfield 9, 3) := by decide +kernel
theorem dX11_name_32 : decode cX11_name 32 = .ok (.sipush 308, 3) := by decide +kernel
theorem dX11_name_35 : decode cX11_name 35 = .ok (.iload_n 1, 1) := by decide +kernel
theorem dX11_name_36 : decode cX11_name 36 = .ok (.iadd, 1) := by decide +kernel
theorem dX11_name_37 : decode cX11_name 37 = .ok (.iaload, 1) := by decide +kernel
theorem dX11_name_38 : decode cX11_name 38 = .ok (.istore_n 3, 1) := by decide +kernel
theorem dX11_name_39 : decode cX11_name 39 = .ok (.aload_n 0, 1) := by decide +kernel
theorem dX11_name_40 : decode cX11_name 40 = .ok (.getfield 9, 3) := by decide +kernel
theorem dX11_name_43 : decode cX11_name 43 = .ok (.sipush 308, 3) := by decide +kernel
theorem dX11_name_46 : decode cX11_name 46 = .ok (.iload_n 1, 1) := by decide +kernel
theorem dX11_name_47 : decode cX11_name 47 = .ok (.iadd, 1) := by decide +kernel
theorem dX11_name_48 : decode cX11_name 48 = .ok (.iload_n 2, 1) := by decide +kernel
theorem dX11_name_49 : decode cX11_name 49 = .ok (.iastore, 1) := by decide +kernel
theorem dX11_name_50 : decode cX11_name 50 = .ok (.iload_n 3, 1) := by decide +kernel
theorem dX11_name_51 : decode cX11_name 51 = .ok (.ireturn, 1) := by decide +kernel
theorem dX11_text_0 : decode cX11_text 0 = .ok (.iload_n 1, 1) := by decide +kernel
theorem dX11_text_1 : decode cX11_text 1 = .ok (.invokestatic 132, 3) := by decide +kernel
theorem dX11_text_4 : decode cX11_text 4 = .ok (.ifCond .eq 27, 3) := by decide +kernel
theorem dX11_text_7 : decode cX11_text 7 = .ok (.iload_n 2, 1) := by decide +kernel
theorem dX11_text_8 : decode cX11_text 8 = .ok (.iconst 0, 1) := by decide +kernel
theorem dX11_text_9 : decode cX11_text 9 = .ok (.iconst 2, 1) := by decide +kernel
theorem dX11_text_10 : decode cX11_text 10 = .ok (.invokestatic 60, 3) := by decide +kernel
theorem dX11_text_13 : decode cX11_text 13 = .ok (.ifCond .eq 18, 3) := by decide +kernel
theorem dX11_text_16 : decode cX11_text 16 = .ok (.iload_n 3, 1) := by decide +kernel
theorem dX11_text_17 : decode cX11_text 17 = .ok (.invokestatic 89, 3) := by decide +kernel
theorem dX11_text_20 : decode cX11_text 20 = .ok (.ifCond .eq 11, 3) := by decide +kernel
theorem dX11_text_23 : decode cX11_text 23 = .ok (.iload 4, 2) := by decide +kernel
theorem dX11_text_25 : decode cX11_text 25 = .ok (.invokestatic 135, 3) := by decide +kernel
theorem dX11_text_28 : decode cX11_text 28 = .ok (.ifCond .ne 10, 3) := by decide +kernel
theorem dX11_text_31 : decode cX11_text 31 = .ok (.aload_n 0, 1) := by decide +kernel
theorem dX11_text_32 : decode cX11_text 32 = .ok (.ldc 72, 2) := by decide +kernel
theorem dX11_text_34 : decode cX11_text 34 = .ok (.invokevirtual 68, 3) := by decide +kernel
theorem dX11_text_37 : decode cX11_text 37 = .ok (.ireturn, 1) := by decide +kernel
theorem dX11_text_38 : decode cX11_text 38 = .ok (.aload_n 0, 1) := by decide +kernel
theorem dX11_text_39 : decode cX11_text 39 = .ok (.getfield 9, 3) := by decide +kernel
theorem dX11_text_42 : decode cX11_text 42 = .ok (.iconst 2, 1) := by decide +kernel
theorem dX11_text_43 : decode cX11_text 43 = .ok (.iaload, 1) := by decide +kernel
theorem dX11_text_44 : decode cX11_text 44 = .ok (.istore 5, 2) := by decide +kernel
theorem dX11_text_46 : decode cX11_text 46 = .ok (.iload 5, 2) := by decide +kernel
theorem dX11_text_48 : decode cX11_text 48 = .ok (.bipush 40, 2) := by decide +kernel
theorem dX11_text_50 : decode cX11_text 50 = .ok (.if_icmp .ne 10, 3) := by decide +kernel
theorem dX11_text_53 : decode cX11_text 53 = .ok (.aload_n 0, 1) := by decide +kernel
theorem dX11_text_54 : decode cX11_text 54 = .ok (.ldc 73, 2) := by decide +kernel
theorem dX11_text_56 : decode cX11_text 56 = .ok (.invokevirtual 68, 3) := by decide +kernel
theorem dX11_text_59 : decode cX11_text 59 = .ok (.ireturn, 1) := by decide +kernel
theorem dX11_text_60 : decode cX11_text 60 = .ok (.aload_n 0, 1) := by decide +kernel
theorem dX11_text_61 : decode cX11_text 61 = .ok (.invokevirtual 74, 3) := by decide +kernel
theorem dX11_text_64 : decode cX11_text 64 = .ok (.aload_n 0, 1) := by decide +kernel
theorem dX11_text_65 : decode cX11_text 65 = .ok (.getfield 9, 3) := by decide +kernel
theorem dX11_text_68 : decode cX11_text 68 = .ok (.sipush 268, 3) := by decide +kernel
theorem dX11_text_71 : decode cX11_text 71 = .ok (.iload 5, 2) := by decide +kernel
theorem dX11_text_73 : decode cX11_text 73 = .ok (.iadd, 1) := by decide +kernel
theorem dX11_text_74 : decode cX11_text 74 = .ok (.iload_n 1, 1) := by decide +kernel
theorem dX11_text_75 : decode cX11_text 75 = .ok (.iload_n 2, 1) := by decide +kernel
theorem dX11_text_76 : decode cX11_text 76 = .ok (.iconst 2, 1) := by decide +kernel
theorem dX11_text_77 : decode cX11_text 77 = .ok (.ishl, 1) := by decide +kernel
theorem dX11_text_78 : decode cX11_text 78 = .ok (.ior, 1) := by decide +kernel
theorem dX11_text_79 : decode cX11_text 79 = .ok (.iload_n 3, 1) := by decide +kernel
theorem dX11_text_80 : decode cX11_text 80 = .ok (.iconst 4, 1) := by decide +kernel
theorem dX11_text_81 : decode cX11_text 81 = .ok (.ishl, 1) := by decide +kernel
theorem dX11_text_82 : decode cX11_text 82 = .ok (.ior, 1) := by decide +kernel
theorem dX11_text_83 : decode cX11_text 83 = .ok (.iload 4, 2) := by decide +kernel
theorem dX11_text_85 : decode cX11_text 85 = .ok (.bipush 9, 2) := by decide +kernel
theorem dX11_text_87 : decode cX11_text 87 = .ok (.ishl, 1) := by decide +kernel
theorem dX11_text_88 : decode cX11_text 88 = .ok (.ior, 1) := by decide +kernel
theorem dX11_text_89 : decode cX11_text 89 = .ok (.iastore, 1) := by decide +kernel
theorem dX11_text_90 : decode cX11_text 90 = .ok (.aload_n 0, 1) := by decide +kernel
theorem dX11_text_91 : decode cX11_text 91 = .ok (.getfield 9, 3) := by decide +kernel
theorem dX11_text_94 : decode cX11_text 94 = .ok (.iconst 2, 1) := by decide +kernel
theorem dX11_text_95 : decode cX11_text 95 = .ok (.dup2, 1) := by decide +kernel
theorem dX11_text_96 : decode cX11_text 96 = .ok (.iaload, 1) := by decide +kernel
theorem dX11_text_97 : decode cX11_text 97 = .ok (.iconst 1, 1) := by decide +kernel
theorem dX11_text_98 : decode cX11_text 98 = .ok (.iadd, 1) := by decide +kernel
theorem dX11_text_99 : decode cX11_text 99 = .ok (.iastore, 1) := by decide +kernel
theorem dX11_text_100 : decode cX11_text 100 = .ok (.iload 5, 2) := by decide +kernel
theorem dX11_text_102 : decode cX11_text 102 = .ok (.iconst 1, 1) := by decide +kernel
theorem dX11_text_103 : decode cX11_text 103 = .ok (.iadd, 1) := by decide +kernel
theorem dX11_text_104 : decode cX11_text 104 = .ok (.ireturn, 1) := by decide +kernel
theorem dX11_isOf_0 : decode cX11_isOf 0 = .ok (.iload_n 1, 1) := by decide +kernel
theorem dX11_isOf_1 : decode cX11_isOf 1 = .ok (.iconst 3, 1) := by decide +kernel
theorem dX11_isOf_2 : decode cX11_isOf 2 = .ok (.iand, 1) := by decide +kernel
theorem dX11_isOf_3 : decode cX11_isOf 3 = .ok (.iload_n 2, 1) := by decide +kernel
theorem dX11_isOf_4 : decode cX11_isOf 4 = .ok (.if_icmp .ne 15, 3) := by decide +kernel
theorem dX11_isOf_7 : decode cX11_isOf 7 = .ok (.iload_n 1, 1) := by decide +kernel
theorem dX11_isOf_8 : decode cX11_isOf 8 = .ok (.bipush 9, 2) := by decide +kernel
theorem dX11_isOf_10 : decode cX11_isOf 10 = .ok (.ishr, 1) := by decide +kernel
theorem dX11_isOf_11 : decode cX11_isOf 11 = .ok (.iload_n 3, 1) := by decide +kernel
theorem dX11_isOf_12 : decode cX11_isOf 12 = .ok (.if_icmp .gt 7, 3) := by decide +kernel
theorem dX11_isOf_15 : decode cX11_isOf 15 = .ok (.iconst 1, 1) := by decide +kernel
theorem dX11_isOf_16 : decode cX11_isOf 16 = .ok (.goto 4, 3) := by decide +kernel
theorem dX11_isOf_19 : decode cX11_isOf 19 = .ok (.iconst 0, 1) := by decide +kernel
theorem dX11_isOf_20 : decode cX11_isOf 20 = .ok (.ireturn, 1) := by decide +kernel
theorem dX11_isBarred_0 : decode cX11_isBarred 0 = .ok (.iconst (-1), 1) := by decide +kernel
theorem dX11_isBarred_1 : decode cX11_isBarred 1 = .ok (.istore 4, 2) := by decide +kernel
theorem dX11_isBarred_3 : decode cX11_isBarred 3 = .ok (.iconst 0, 1) := by decide +kernel
theorem dX11_isBarred_4 : decode cX11_isBarred 4 = .ok (.istore 5, 2) := by decide +kernel
theorem dX11_isBarred_6 : decode cX11_isBarred 6 = .ok (.iload 5, 2) := by decide +kernel
theorem dX11_isBarred_8 : decode cX11_isBarred 8 = .ok (.aload_n 0, 1) := by decide +kernel
theorem dX11_isBarred_9 : decode cX11_isBarred 9 = .ok (.getfield 9, 3) := by decide +kernel
theorem dX11_isBarred_12 : decode cX11_isBarred 12 = .ok (.iconst 2, 1) := by decide +kernel
theorem dX11_isBarred_13 : decode cX11_isBarred 13 = .ok (.iaload, 1) := by decide +kernel
theorem dX11_isBarred_14 : decode cX11_isBarred 14 = .ok (.if_icmp .ge 76, 3) := by decide +kernel
theorem dX11_isBarred_17 : decode cX11_isBarred 17 = .ok (.aload_n 0, 1) := by decide +kernel
theorem dX11_isBarred_18 : decode cX11_isBarred 18 = .ok (.getfield 9, 3) := by decide +kernel
theorem dX11_isBarred_21 : decode cX11_isBarred 21 = .ok (.sipush 268, 3) := by decide +kernel
theorem dX11_isBarred_24 : decode cX11_isBarred 24 = .ok (.iload 5, 2) := by decide +kernel
theorem dX11_isBarred_26 : decode cX11_isBarred 26 = .ok (.iadd, 1) := by decide +kernel
theorem dX11_isBarred_27 : decode cX11_isBarred 27 = .ok (.iaload, 1) := by decide +kernel
theorem dX11_isBarred_28 : decode cX11_isBarred 28 = .ok (.istore 6, 2) := by decide +kernel
theorem dX11_isBarred_30 : decode cX11_isBarred 30 = .ok (.aload_n 0, 1) := by decide +kernel
theorem dX11_isBarred_31 : decode cX11_isBarred 31 = .ok (.iload 6, 2) := by decide +kernel
theorem dX11_isBarred_33 : decode cX11_isBarred 33 = .ok (.iload_n 1, 1) := by decide +kernel
theorem dX11_isBarred_34 : decode cX11_isBarred 34 = .ok (.iload_n 3, 1) := by decide +kernel
theorem dX11_isBarred_35 : decode cX11_isBarred 35 = .ok (.invokevirtual 138, 3) := by decide +kernel
theorem dX11_isBarred_38 : decode cX11_isBarred 38 = .ok (.ifCond .eq 46, 3) := by decide +kernel
theorem dX11_isBarred_41 : decode cX11_isBarred 41 = .ok (.iload 6, 2) := by decide +kernel
theorem dX11_isBarred_43 : decode cX11_isBarred 43 = .ok (.iconst 2, 1) := by decide +kernel
theorem dX11_isBarred_44 : decode cX11_isBarred 44 = .ok (.ishr, 1) := by decide +kernel
theorem dX11_isBarred_45 : decode cX11_isBarred 45 = .ok (.iconst 3, 1) := by decide +kernel
theorem dX11_isBarred_46 : decode cX11_isBarred 46 = .ok (.iand, 1) := by decide +kernel
theorem dX11_isBarred_47 : decode cX11_isBarred 47 = .ok (.iconst 2, 1) := by decide +kernel
theorem dX11_isBarred_48 : decode cX11_isBarred 48 = .ok (.if_icmp .ge 36, 3) := by decide +kernel
theorem dX11_isBarred_51 : decode cX11_isBarred 51 = .ok (.iload 6, 2) := by decide +kernel
theorem dX11_isBarred_53 : decode cX11_isBarred 53 = .ok (.iconst 4, 1) := by decide +kernel
theorem dX11_isBarred_54 : decode cX11_isBarred 54 = .ok (.ishr, 1) := by decide +kernel
theorem dX11_isBarred_55 : decode cX11_isBarred 55 = .ok (.bipush 31, 2) := by decide +kernel
theorem dX11_isBarred_57 : decode cX11_isBarred 57 = .ok (.iand, 1) := by decide +kernel
theorem dX11_isBarred_58 : decode cX11_isBarred 58 = .ok (.iload_n 2, 1) := by decide +kernel
theorem dX11_isBarred_59 : decode cX11_isBarred 59 = .ok (.if_icmp .ne 25, 3) := by decide +kernel
theorem dX11_isBarred_62 : decode cX11_isBarred 62 = .ok (.iload 4, 2) := by decide +kernel
theorem dX11_isBarred_64 : decode cX11_isBarred 64 = .ok (.ifCond .lt 16, 3) := by decide +kernel
theorem dX11_isBarred_67 : decode cX11_isBarred 67 = .ok (.iload 6, 2) := by decide +kernel
theorem dX11_isBarred_69 : decode cX11_isBarred 69 = .ok (.bipush 9, 2) := by decide +kernel
theorem dX11_isBarred_71 : decode cX11_isBarred 71 = .ok (.ishr, 1) := by decide +kernel
theorem dX11_isBarred_72 : decode cX11_isBarred 72 = .ok (.iload 4, 2) := by decide +kernel
theorem dX11_isBarred_74 : decode cX11_isBarred 74 = .ok (.bipush 9, 2) := by decide +kernel
theorem dX11_isBarred_76 : decode cX11_isBarred 76 = .ok (.ishr, 1) := by decide +kernel
theorem dX11_isBarred_77 : decode cX11_isBarred 77 = .ok (.if_icmp .lt 7, 3) := by decide +kernel
theorem dX11_isBarred_80 : decode cX11_isBarred 80 = .ok (.iload 6, 2) := by decide +kernel
theorem dX11_isBarred_82 : decode cX11_isBarred 82 = .ok (.istore 4, 2) := by decide +kernel
theorem dX11_isBarred_84 : decode cX11_isBarred 84 = .ok (.iinc 5 1, 3) := by decide +kernel
theorem dX11_isBarred_87 : decode cX11_isBarred 87 = .ok (.goto (-81), 3) := by decide +kernel
theorem dX11_isBarred_90 : decode cX11_isBarred 90 = .ok (.iload 4, 2) := by decide +kernel
theorem dX11_isBarred_92 : decode cX11_isBarred 92 = .ok (.ifCond .lt 16, 3) := by decide +kernel
theorem dX11_isBarred_95 : decode cX11_isBarred 95 = .ok (.iload 4, 2) := by decide +kernel
theorem dX11_isBarred_97 : decode cX11_isBarred 97 = .ok (.iconst 2, 1) := by decide +kernel
theorem dX11_isBarred_98 : decode cX11_isBarred 98 = .ok (.ishr, 1) := by decide +kernel
theorem dX11_isBarred_99 : decode cX11_isBarred 99 = .ok (.iconst 3, 1) := by decide +kernel
theorem dX11_isBarred_100 : decode cX11_isBarred 100 = .ok (.iand, 1) := by decide +kernel
theorem dX11_isBarred_101 : decode cX11_isBarred 101 = .ok (.ifCond .ne 7, 3) := by decide +kernel
theorem dX11_isBarred_104 : decode cX11_isBarred 104 = .ok (.iconst 1, 1) := by decide +kernel
theorem dX11_isBarred_105 : decode cX11_isBarred 105 = .ok (.goto 4, 3) := by decide +kernel
theorem dX11_isBarred_108 : decode cX11_isBarred 108 = .ok (.iconst 0, 1) := by decide +kernel
theorem dX11_isBarred_109 : decode cX11_isBarred 109 = .ok (.ireturn, 1) := by decide +kernel
theorem dX11_chosenOf_0 : decode cX11_chosenOf 0 = .ok (.iconst (-1), 1) := by decide +kernel
theorem dX11_chosenOf_1 : decode cX11_chosenOf 1 = .ok (.istore 4, 2) := by decide +kernel
theorem dX11_chosenOf_3 : decode cX11_chosenOf 3 = .ok (.iconst 0, 1) := by decide +kernel
theorem dX11_chosenOf_4 : decode cX11_chosenOf 4 = .ok (.istore 5, 2) := by decide +kernel
theorem dX11_chosenOf_6 : decode cX11_chosenOf 6 = .ok (.iload 5, 2) := by decide +kernel
theorem dX11_chosenOf_8 : decode cX11_chosenOf 8 = .ok (.aload_n 0, 1) := by decide +kernel
theorem dX11_chosenOf_9 : decode cX11_chosenOf 9 = .ok (.getfield 9, 3) := by decide +kernel
theorem dX11_chosenOf_12 : decode cX11_chosenOf 12 = .ok (.iconst 2, 1) := by decide +kernel
theorem dX11_chosenOf_13 : decode cX11_chosenOf 13 = .ok (.iaload, 1) := by decide +kernel
theorem dX11_chosenOf_14 : decode cX11_chosenOf 14 = .ok (.if_icmp .ge 85, 3) := by decide +kernel
theorem dX11_chosenOf_17 : decode cX11_chosenOf 17 = .ok (.aload_n 0, 1) := by decide +kernel
theorem dX11_chosenOf_18 : decode cX11_chosenOf 18 = .ok (.getfield 9, 3) := by decide +kernel
theorem dX11_chosenOf_21 : decode cX11_chosenOf 21 = .ok (.sipush 268, 3) := by decide +kernel
theorem dX11_chosenOf_24 : decode cX11_chosenOf 24 = .ok (.iload 5, 2) := by decide +kernel
theorem dX11_chosenOf_26 : decode cX11_chosenOf 26 = .ok (.iadd, 1) := by decide +kernel
theorem dX11_chosenOf_27 : decode cX11_chosenOf 27 = .ok (.iaload, 1) := by decide +kernel
theorem dX11_chosenOf_28 : decode cX11_chosenOf 28 = .ok (.istore 6, 2) := by decide +kernel
theorem dX11_chosenOf_30 : decode cX11_chosenOf 30 = .ok (.aload_n 0, 1) := by decide +kernel
theorem dX11_chosenOf_31 : decode cX11_chosenOf 31 = .ok (.iload 6, 2) := by decide +kernel
theorem dX11_chosenOf_33 : decode cX11_chosenOf 33 = .ok (.iload_n 1, 1) := by decide +kernel
theorem dX11_chosenOf_34 : decode cX11_chosenOf 34 = .ok (.iload_n 3, 1) := by decide +kernel
theorem dX11_chosenOf_35 : decode cX11_chosenOf 35 = .ok (.invokevirtual 138, 3) := by decide +kernel
theorem dX11_chosenOf_38 : decode cX11_chosenOf 38 = .ok (.ifCond .eq 55, 3) := by decide +kernel
theorem dX11_chosenOf_41 : decode cX11_chosenOf 41 = .ok (.iload 6, 2) := by decide +kernel
theorem dX11_chosenOf_43 : decode cX11_chosenOf 43 = .ok (.iconst 2, 1) := by decide +kernel
theorem dX11_chosenOf_44 : decode cX11_chosenOf 44 = .ok (.ishr, 1) := by decide +kernel
theorem dX11_chosenOf_45 : decode cX11_chosenOf 45 = .ok (.iconst 3, 1) := by decide +kernel
theorem dX11_chosenOf_46 : decode cX11_chosenOf 46 = .ok (.iand, 1) := by decide +kernel
theorem dX11_chosenOf_47 : decode cX11_chosenOf 47 = .ok (.iconst 2, 1) := by decide +kernel
theorem dX11_chosenOf_48 : decode cX11_chosenOf 48 = .ok (.if_icmp .ne 45, 3) := by decide +kernel
theorem dX11_chosenOf_51 : decode cX11_chosenOf 51 = .ok (.aload_n 0, 1) := by decide +kernel
theorem dX11_chosenOf_52 : decode cX11_chosenOf 52 = .ok (.getfield 9, 3) := by decide +kernel
theorem dX11_chosenOf_55 : decode cX11_chosenOf 55 = .ok (.sipush 308, 3) := by decide +kernel
theorem dX11_chosenOf_58 : decode cX11_chosenOf 58 = .ok (.iload 6, 2) := by decide +kernel
theorem dX11_chosenOf_60 : decode cX11_chosenOf 60 = .ok (.iconst 4, 1) := by decide +kernel
theorem dX11_chosenOf_61 : decode cX11_chosenOf 61 = .ok (.ishr, 1) := by decide +kernel
theorem dX11_chosenOf_62 : decode cX11_chosenOf 62 = .ok (.bipush 31, 2) := by decide +kernel
theorem dX11_chosenOf_64 : decode cX11_chosenOf 64 = .ok (.iand, 1) := by decide +kernel
theorem dX11_chosenOf_65 : decode cX11_chosenOf 65 = .ok (.iadd, 1) := by decide +kernel
theorem dX11_chosenOf_66 : decode cX11_chosenOf 66 = .ok (.iaload, 1) := by decide +kernel
theorem dX11_chosenOf_67 : decode cX11_chosenOf 67 = .ok (.iload_n 2, 1) := by decide +kernel
theorem dX11_chosenOf_68 : decode cX11_chosenOf 68 = .ok (.if_icmp .ne 25, 3) := by decide +kernel
theorem dX11_chosenOf_71 : decode cX11_chosenOf 71 = .ok (.iload 4, 2) := by decide +kernel
theorem dX11_chosenOf_73 : decode cX11_chosenOf 73 = .ok (.ifCond .lt 16, 3) := by decide +kernel
theorem dX11_chosenOf_76 : decode cX11_chosenOf 76 = .ok (.iload 6, 2) := by decide +kernel
theorem dX11_chosenOf_78 : decode cX11_chosenOf 78 = .ok (.bipush 9, 2) := by decide +kernel
theorem dX11_chosenOf_80 : decode cX11_chosenOf 80 = .ok (.ishr, 1) := by decide +kernel
theorem dX11_chosenOf_81 : decode cX11_chosenOf 81 = .ok (.iload 4, 2) := by decide +kernel
theorem dX11_chosenOf_83 : decode cX11_chosenOf 83 = .ok (.bipush 9, 2) := by decide +kernel
theorem dX11_chosenOf_85 : decode cX11_chosenOf 85 = .ok (.ishr, 1) := by decide +kernel
theorem dX11_chosenOf_86 : decode cX11_chosenOf 86 = .ok (.if_icmp .lt 7, 3) := by decide +kernel
theorem dX11_chosenOf_89 : decode cX11_chosenOf 89 = .ok (.iload 6, 2) := by decide +kernel
theorem dX11_chosenOf_91 : decode cX11_chosenOf 91 = .ok (.istore 4, 2) := by decide +kernel
theorem dX11_chosenOf_93 : decode cX11_chosenOf 93 = .ok (.iinc 5 1, 3) := by decide +kernel
theorem dX11_chosenOf_96 : decode cX11_chosenOf 96 = .ok (.goto (-90), 3) := by decide +kernel
theorem dX11_chosenOf_99 : decode cX11_chosenOf 99 = .ok (.iload 4, 2) := by decide +kernel
theorem dX11_chosenOf_101 : decode cX11_chosenOf 101 = .ok (.ifCond .ge 7, 3) := by decide +kernel
theorem dX11_chosenOf_104 : decode cX11_chosenOf 104 = .ok (.iconst (-1), 1) := by decide +kernel
theorem dX11_chosenOf_105 : decode cX11_chosenOf 105 = .ok (.goto 10, 3) := by decide +kernel
theorem dX11_chosenOf_108 : decode cX11_chosenOf 108 = .ok (.iload 4, 2) := by decide +kernel
theorem dX11_chosenOf_110 : decode cX11_chosenOf 110 = .ok (.iconst 4, 1) := by decide +kernel
theorem dX11_chosenOf_111 : decode cX11_chosenOf 111 = .ok (.ishr, 1) := by decide +kernel
theorem dX11_chosenOf_112 : decode cX11_chosenOf 112 = .ok (.bipush 31, 2) := by decide +kernel
theorem dX11_chosenOf_114 : decode cX11_chosenOf 114 = .ok (.iand, 1) := by decide +kernel
theorem dX11_chosenOf_115 : decode cX11_chosenOf 115 = .ok (.ireturn, 1) := by decide +kernel
theorem dX11_barred_0 : decode cX11_barred 0 = .ok (.iload_n 1, 1) := by decide +kernel
theorem dX11_barred_1 : decode cX11_barred 1 = .ok (.invokestatic 132, 3) := by decide +kernel
theorem dX11_barred_4 : decode cX11_barred 4 = .ok (.ifCond .eq 17, 3) := by decide +kernel
theorem dX11_barred_7 : decode cX11_barred 7 = .ok (.iload_n 2, 1) := by decide +kernel
theorem dX11_barred_8 : decode cX11_barred 8 = .ok (.invokestatic 89, 3) := by decide +kernel
theorem dX11_barred_11 : decode cX11_barred 11 = .ok (.ifCond .eq 10, 3) := by decide +kernel
theorem dX11_barred_14 : decode cX11_barred 14 = .ok (.iload_n 3, 1) := by decide +kernel
theorem dX11_barred_15 : decode cX11_barred 15 = .ok (.invokestatic 135, 3) := by decide +kernel
theorem dX11_barred_18 : decode cX11_barred 18 = .ok (.ifCond .ne 10, 3) := by decide +kernel
theorem dX11_barred_21 : decode cX11_barred 21 = .ok (.aload_n 0, 1) := by decide +kernel
theorem dX11_barred_22 : decode cX11_barred 22 = .ok (.ldc 72, 2) := by decide +kernel
theorem dX11_barred_24 : decode cX11_barred 24 = .ok (.invokevirtual 68, 3) := by decide +kernel
theorem dX11_barred_27 : decode cX11_barred 27 = .ok (.ireturn, 1) := by decide +kernel
theorem dX11_barred_28 : decode cX11_barred 28 = .ok (.aload_n 0, 1) := by decide +kernel
theorem dX11_barred_29 : decode cX11_barred 29 = .ok (.iload_n 1, 1) := by decide +kernel
theorem dX11_barred_30 : decode cX11_barred 30 = .ok (.iload_n 2, 1) := by decide +kernel
theorem dX11_barred_31 : decode cX11_barred 31 = .ok (.iload_n 3, 1) := by decide +kernel
theorem dX11_barred_32 : decode cX11_barred 32 = .ok (.invokevirtual 141, 3) := by decide +kernel
theorem dX11_barred_35 : decode cX11_barred 35 = .ok (.ifCond .eq 7, 3) := by decide +kernel
theorem dX11_barred_38 : decode cX11_barred 38 = .ok (.iconst 1, 1) := by decide +kernel
theorem dX11_barred_39 : decode cX11_barred 39 = .ok (.goto 4, 3) := by decide +kernel
theorem dX11_barred_42 : decode cX11_barred 42 = .ok (.iconst 0, 1) := by decide +kernel
theorem dX11_barred_43 : decode cX11_barred 43 = .ok (.ireturn, 1) := by decide +kernel
theorem dX11_chosen_0 : decode cX11_chosen 0 = .ok (.iload_n 1, 1) := by decide +kernel
theorem dX11_chosen_1 : decode cX11_chosen 1 = .ok (.invokestatic 132, 3) := by decide +kernel
theorem dX11_chosen_4 : decode cX11_chosen 4 = .ok (.ifCond .eq 20, 3) := by decide +kernel
theorem dX11_chosen_7 : decode cX11_chosen 7 = .ok (.iload_n 2, 1) := by decide +kernel
theorem dX11_chosen_8 : decode cX11_chosen 8 = .ok (.iconst 0, 1) := by decide +kernel
theorem dX11_chosen_9 : decode cX11_chosen 9 = .ok (.bipush 7, 2) := by decide +kernel
theorem dX11_chosen_11 : decode cX11_chosen 11 = .ok (.invokestatic 60, 3) := by decide +kernel
theorem dX11_chosen_14 : decode cX11_chosen 14 = .ok (.ifCond .eq 10, 3) := by decide +kernel
theorem dX11_chosen_17 : decode cX11_chosen 17 = .ok (.iload_n 3, 1) := by decide +kernel
theorem dX11_chosen_18 : decode cX11_chosen 18 = .ok (.invokestatic 135, 3) := by decide +kernel
theorem dX11_chosen_21 : decode cX11_chosen 21 = .ok (.ifCond .ne 10, 3) := by decide +kernel
theorem dX11_chosen_24 : decode cX11_chosen 24 = .ok (.aload_n 0, 1) := by decide +kernel
theorem dX11_chosen_25 : decode cX11_chosen 25 = .ok (.ldc 72, 2) := by decide +kernel
theorem dX11_chosen_27 : decode cX11_chosen 27 = .ok (.invokevirtual 68, 3) := by decide +kernel
theorem dX11_chosen_30 : decode cX11_chosen 30 = .ok (.ireturn, 1) := by decide +kernel
theorem dX11_chosen_31 : decode cX11_chosen 31 = .ok (.aload_n 0, 1) := by decide +kernel
theorem dX11_chosen_32 : decode cX11_chosen 32 = .ok (.iload_n 1, 1) := by decide +kernel
theorem dX11_chosen_33 : decode cX11_chosen 33 = .ok (.iload_n 2, 1) := by decide +kernel
theorem dX11_chosen_34 : decode cX11_chosen 34 = .ok (.iload_n 3, 1) := by decide +kernel
theorem dX11_chosen_35 : decode cX11_chosen 35 = .ok (.invokevirtual 144, 3) := by decide +kernel
theorem dX11_chosen_38 : decode cX11_chosen 38 = .ok (.istore 4, 2) := by decide +kernel
theorem dX11_chosen_40 : decode cX11_chosen 40 = .ok (.iload 4, 2) := by decide +kernel
theorem dX11_chosen_42 : decode cX11_chosen 42 = .ok (.ifCond .ge 12, 3) := by decide +kernel
theorem dX11_chosen_45 : decode cX11_chosen 45 = .ok (.aload_n 0, 1) := by decide +kernel
theorem dX11_chosen_46 : decode cX11_chosen 46 = .ok (.ldc 67, 2) := by decide +kernel
theorem dX11_chosen_48 : decode cX11_chosen 48 = .ok (.invokevirtual 68, 3) := by decide +kernel
theorem dX11_chosen_51 : decode cX11_chosen 51 = .ok (.goto 5, 3) := by decide +kernel
theorem dX11_chosen_54 : decode cX11_chosen 54 = .ok (.iload 4, 2) := by decide +kernel
theorem dX11_chosen_56 : decode cX11_chosen 56 = .ok (.ireturn, 1) := by decide +kernel
theorem dX11_isLawful_0 : decode cX11_isLawful 0 = .ok (.iconst 0, 1) := by decide +kernel
theorem dX11_isLawful_1 : decode cX11_isLawful 1 = .ok (.istore 4, 2) := by decide +kernel
theorem dX11_isLawful_3 : decode cX11_isLawful 3 = .ok (.iload 4, 2) := by decide +kernel
theorem dX11_isLawful_5 : decode cX11_isLawful 5 = .ok (.aload_n 0, 1) := by decide +kernel
theorem dX11_isLawful_6 : decode cX11_isLawful 6 = .ok (.getfield 9, 3) := by decide +kernel
theorem dX11_isLawful_9 : decode cX11_isLawful 9 = .ok (.bipush 88, 2) := by decide +kernel
theorem dX11_isLawful_11 : decode cX11_isLawful 11 = .ok (.iload_n 1, 1) := by decide +kernel
theorem dX11_isLawful_12 : decode cX11_isLawful 12 = .ok (.iadd, 1) := by decide +kernel
theorem dX11_isLawful_13 : decode cX11_isLawful 13 = .ok (.iaload, 1) := by decide +kernel
theorem dX11_isLawful_14 : decode cX11_isLawful 14 = .ok (.if_icmp .ge 78, 3) := by decide +kernel
theorem dX11_isLawful_17 : decode cX11_isLawful 17 = .ok (.aload_n 0, 1) := by decide +kernel
theorem dX11_isLawful_18 : decode cX11_isLawful 18 = .ok (.iload_n 1, 1) := by decide +kernel
theorem dX11_isLawful_19 : decode cX11_isLawful 19 = .ok (.iload 4, 2) := by decide +kernel
theorem dX11_isLawful_21 : decode cX11_isLawful 21 = .ok (.invokevirtual 97, 3) := by decide +kernel
theorem dX11_isLawful_24 : decode cX11_isLawful 24 = .ok (.bipush 8, 2) := by decide +kernel
theorem dX11_isLawful_26 : decode cX11_isLawful 26 = .ok (.ishr, 1) := by decide +kernel
theorem dX11_isLawful_27 : decode cX11_isLawful 27 = .ok (.istore 5, 2) := by decide +kernel
theorem dX11_isLawful_29 : decode cX11_isLawful 29 = .ok (.aload_n 0, 1) := by decide +kernel
theorem dX11_isLawful_30 : decode cX11_isLawful 30 = .ok (.getfield 9, 3) := by decide +kernel
theorem dX11_isLawful_33 : decode cX11_isLawful 33 = .ok (.sipush 308, 3) := by decide +kernel
theorem dX11_isLawful_36 : decode cX11_isLawful 36 = .ok (.iload 5, 2) := by decide +kernel
theorem dX11_isLawful_38 : decode cX11_isLawful 38 = .ok (.iadd, 1) := by decide +kernel
theorem dX11_isLawful_39 : decode cX11_isLawful 39 = .ok (.iaload, 1) := by decide +kernel
theorem dX11_isLawful_40 : decode cX11_isLawful 40 = .ok (.istore 6, 2) := by decide +kernel
theorem dX11_isLawful_42 : decode cX11_isLawful 42 = .ok (.iload 6, 2) := by decide +kernel
theorem dX11_isLawful_44 : decode cX11_isLawful 44 = .ok (.ifCond .ge 7, 3) := by decide +kernel
theorem dX11_isLawful_47 : decode cX11_isLawful 47 = .ok (.iconst (-1), 1) := by decide +kernel
theorem dX11_isLawful_48 : decode cX11_isLawful 48 = .ok (.goto 11, 3) := by decide +kernel
theorem dX11_isLawful_51 : decode cX11_isLawful 51 = .ok (.aload_n 0, 1) := by decide +kernel
theorem dX11_isLawful_52 : decode cX11_isLawful 52 = .ok (.iload_n 2, 1) := by decide +kernel
theorem dX11_isLawful_53 : decode cX11_isLawful 53 = .ok (.iload 6, 2) := by decide +kernel
theorem dX11_isLawful_55 : decode cX11_isLawful 55 = .ok (.iload_n 3, 1) := by decide +kernel
theorem dX11_isLawful_56 : decode cX11_isLawful 56 = .ok (.invokevirtual 144, 3) := by decide +kernel
theorem dX11_isLawful_59 : decode cX11_isLawful 59 = .ok (.istore 7, 2) := by decide +kernel
theorem dX11_isLawful_61 : decode cX11_isLawful 61 = .ok (.aload_n 0, 1) := by decide +kernel
theorem dX11_isLawful_62 : decode cX11_isLawful 62 = .ok (.iload_n 2, 1) := by decide +kernel
theorem dX11_isLawful_63 : decode cX11_isLawful 63 = .ok (.iload 5, 2) := by decide +kernel
theorem dX11_isLawful_65 : decode cX11_isLawful 65 = .ok (.iload_n 3, 1) := by decide +kernel
theorem dX11_isLawful_66 : decode cX11_isLawful 66 = .ok (.invokevirtual 141, 3) := by decide +kernel
theorem dX11_isLawful_69 : decode cX11_isLawful 69 = .ok (.ifCond .ne 15, 3) := by decide +kernel
theorem dX11_isLawful_72 : decode cX11_isLawful 72 = .ok (.iload 7, 2) := by decide +kernel
theorem dX11_isLawful_74 : decode cX11_isLawful 74 = .ok (.ifCond .lt 12, 3) := by decide +kernel
theorem dX11_isLawful_77 : decode cX11_isLawful 77 = .ok (.iload 7, 2) := by decide +kernel
theorem dX11_isLawful_79 : decode cX11_isLawful 79 = .ok (.iload 5, 2) := by decide +kernel
theorem dX11_isLawful_81 : decode cX11_isLawful 81 = .ok (.if_icmp .eq 5, 3) := by decide +kernel
theorem dX11_isLawful_84 : decode cX11_isLawful 84 = .ok (.iconst 0, 1) := by decide +kernel
theorem dX11_isLawful_85 : decode cX11_isLawful 85 = .ok (.ireturn, 1) := by decide +kernel
theorem dX11_isLawful_86 : decode cX11_isLawful 86 = .ok (.iinc 4 1, 3) := by decide +kernel
theorem dX11_isLawful_89 : decode cX11_isLawful 89 = .ok (.goto (-86), 3) := by decide +kernel
theorem dX11_isLawful_92 : decode cX11_isLawful 92 = .ok (.iconst 1, 1) := by decide +kernel
theorem dX11_isLawful_93 : decode cX11_isLawful 93 = .ok (.ireturn, 1) := by decide +kernel
theorem dX11_lawful_0 : decode cX11_lawful 0 = .ok (.aload_n 0, 1) := by decide +kernel
theorem dX11_lawful_1 : decode cX11_lawful 1 = .ok (.iload_n 1, 1) := by decide +kernel
theorem dX11_lawful_2 : decode cX11_lawful 2 = .ok (.invokevirtual 85, 3) := by decide +kernel
theorem dX11_lawful_5 : decode cX11_lawful 5 = .ok (.ifCond .eq 17, 3) := by decide +kernel
theorem dX11_lawful_8 : decode cX11_lawful 8 = .ok (.iload_n 2, 1) := by decide +kernel
theorem dX11_lawful_9 : decode cX11_lawful 9 = .ok (.invokestatic 132, 3) := by decide +kernel
theorem dX11_lawful_12 : decode cX11_lawful 12 = .ok (.ifCond .eq 10, 3) := by decide +kernel
theorem dX11_lawful_15 : decode cX11_lawful 15 = .ok (.iload_n 3, 1) := by decide +kernel
theorem dX11_lawful_16 : decode cX11_lawful 16 = .ok (.invokestatic 135, 3) := by decide +kernel
theorem dX11_lawful_19 : decode cX11_lawful 19 = .ok (.ifCond .ne 10, 3) := by decide +kernel
theorem dX11_lawful_22 : decode cX11_lawful 22 = .ok (.aload_n 0, 1) := by decide +kernel
theorem dX11_lawful_23 : decode cX11_lawful 23 = .ok (.ldc 72, 2) := by decide +kernel
theorem dX11_lawful_25 : decode cX11_lawful 25 = .ok (.invokevirtual 68, 3) := by decide +kernel
theorem dX11_lawful_28 : decode cX11_lawful 28 = .ok (.ireturn, 1) := by decide +kernel
theorem dX11_lawful_29 : decode cX11_lawful 29 = .ok (.aload_n 0, 1) := by decide +kernel
theorem dX11_lawful_30 : decode cX11_lawful 30 = .ok (.iload_n 1, 1) := by decide +kernel
theorem dX11_lawful_31 : decode cX11_lawful 31 = .ok (.iload_n 2, 1) := by decide +kernel
theorem dX11_lawful_32 : decode cX11_lawful 32 = .ok (.iload_n 3, 1) := by decide +kernel
theorem dX11_lawful_33 : decode cX11_lawful 33 = .ok (.invokevirtual 147, 3) := by decide +kernel
theorem dX11_lawful_36 : decode cX11_lawful 36 = .ok (.ifCond .eq 7, 3) := by decide +kernel
theorem dX11_lawful_39 : decode cX11_lawful 39 = .ok (.iconst 1, 1) := by decide +kernel
theorem dX11_lawful_40 : decode cX11_lawful 40 = .ok (.goto 4, 3) := by decide +kernel
theorem dX11_lawful_43 : decode cX11_lawful 43 = .ok (.iconst 0, 1) := by decide +kernel
theorem dX11_lawful_44 : decode cX11_lawful 44 = .ok (.ireturn, 1) := by decide +kernel
theorem dX11_bestOf_0 : decode cX11_bestOf 0 = .ok (.iconst (-1), 1) := by decide +kernel
theorem dX11_bestOf_1 : decode cX11_bestOf 1 = .ok (.istore 4, 2) := by decide +kernel
theorem dX11_bestOf_3 : decode cX11_bestOf 3 = .ok (.aload_n 0, 1) := by decide +kernel
theorem dX11_bestOf_4 : decode cX11_bestOf 4 = .ok (.iconst 0, 1) := by decide +kernel
theorem dX11_bestOf_5 : decode cX11_bestOf 5 = .ok (.putfield 150, 3) := by decide +kernel
theorem dX11_bestOf_8 : decode cX11_bestOf 8 = .ok (.iconst 0, 1) := by decide +kernel
theorem dX11_bestOf_9 : decode cX11_bestOf 9 = .ok (.istore 5, 2) := by decide +kernel
theorem dX11_bestOf_11 : decode cX11_bestOf 11 = .ok (.iload 5, 2) := by decide +kernel
theorem dX11_bestOf_13 : decode cX11_bestOf 13 = .ok (.aload_n 0, 1) := by decide +kernel
theorem dX11_bestOf_14 : decode cX11_bestOf 14 = .ok (.getfield 9, 3) := by decide +kernel
theorem dX11_bestOf_17 : decode cX11_bestOf 17 = .ok (.iconst 1, 1) := by decide +kernel
theorem dX11_bestOf_18 : decode cX11_bestOf 18 = .ok (.iaload, 1) := by decide +kernel
theorem dX11_bestOf_19 : decode cX11_bestOf 19 = .ok (.if_icmp .ge 91, 3) := by decide +kernel
theorem dX11_bestOf_22 : decode cX11_bestOf 22 = .ok (.aload_n 0, 1) := by decide +kernel
theorem dX11_bestOf_23 : decode cX11_bestOf 23 = .ok (.getfield 9, 3) := by decide +kernel
theorem dX11_bestOf_26 : decode cX11_bestOf 26 = .ok (.bipush 28, 2) := by decide +kernel
theorem dX11_bestOf_28 : decode cX11_bestOf 28 = .ok (.iload 5, 2) := by decide +kernel
theorem dX11_bestOf_30 : decode cX11_bestOf 30 = .ok (.iadd, 1) := by decide +kernel
theorem dX11_bestOf_31 : decode cX11_bestOf 31 = .ok (.iaload, 1) := by decide +kernel
theorem dX11_bestOf_32 : decode cX11_bestOf 32 = .ok (.iload_n 1, 1) := by decide +kernel
theorem dX11_bestOf_33 : decode cX11_bestOf 33 = .ok (.if_icmp .ne 71, 3) := by decide +kernel
theorem dX11_bestOf_36 : decode cX11_bestOf 36 = .ok (.aload_n 0, 1) := by decide +kernel
theorem dX11_bestOf_37 : decode cX11_bestOf 37 = .ok (.iload 5, 2) := by decide +kernel
theorem dX11_bestOf_39 : decode cX11_bestOf 39 = .ok (.iload_n 2, 1) := by decide +kernel
theorem dX11_bestOf_40 : decode cX11_bestOf 40 = .ok (.iload_n 3, 1) := by decide +kernel
theorem dX11_bestOf_41 : decode cX11_bestOf 41 = .ok (.invokevirtual 147, 3) := by decide +kernel
theorem dX11_bestOf_44 : decode cX11_bestOf 44 = .ok (.ifCond .ne 6, 3) := by decide +kernel
theorem dX11_bestOf_47 : decode cX11_bestOf 47 = .ok (.goto 57, 3) := by decide +kernel
theorem dX11_bestOf_50 : decode cX11_bestOf 50 = .ok (.aload_n 0, 1) := by decide +kernel
theorem dX11_bestOf_51 : decode cX11_bestOf 51 = .ok (.iload 5, 2) := by decide +kernel
theorem dX11_bestOf_53 : decode cX11_bestOf 53 = .ok (.invokevirtual 129, 3) := by decide +kernel
theorem dX11_bestOf_56 : decode cX11_bestOf 56 = .ok (.istore 6, 2) := by decide +kernel
theorem dX11_bestOf_58 : decode cX11_bestOf 58 = .ok (.aload_n 0, 1) := by decide +kernel
theorem dX11_bestOf_59 : decode cX11_bestOf 59 = .ok (.getfield 9, 3) := by decide +kernel
theorem dX11_bestOf_62 : decode cX11_bestOf 62 = .ok (.bipush 68, 2) := by decide +kernel
theorem dX11_bestOf_64 : decode cX11_bestOf 64 = .ok (.iload 5, 2) := by decide +kernel
theorem dX11_bestOf_66 : decode cX11_bestOf 66 = .ok (.iadd, 1) := by decide +kernel
theorem dX11_bestOf_67 : decode cX11_bestOf 67 = .ok (.iaload, 1) := by decide +kernel
theorem dX11_bestOf_68 : decode cX11_bestOf 68 = .ok (.iload 6, 2) := by decide +kernel
theorem dX11_bestOf_70 : decode cX11_bestOf 70 = .ok (.isub, 1) := by decide +kernel
theorem dX11_bestOf_71 : decode cX11_bestOf 71 = .ok (.istore 7, 2) := by decide +kernel
theorem dX11_bestOf_73 : decode cX11_bestOf 73 = .ok (.iload 6, 2) := by decide +kernel
theorem dX11_bestOf_75 : decode cX11_bestOf 75 = .ok (.ldc 103, 2) := by decide +kernel
theorem dX11_bestOf_77 : decode cX11_bestOf 77 = .ok (.if_icmp .ge 27, 3) := by decide +kernel
theorem dX11_bestOf_80 : decode cX11_bestOf 80 = .ok (.iload 4, 2) := by decide +kernel
theorem dX11_bestOf_82 : decode cX11_bestOf 82 = .ok (.ifCond .lt 12, 3) := by decide +kernel
theorem dX11_bestOf_85 : decode cX11_bestOf 85 = .ok (.iload 7, 2) := by decide +kernel
theorem dX11_bestOf_87 : decode cX11_bestOf 87 = .ok (.aload_n 0, 1) := by decide +kernel
theorem dX11_bestOf_88 : decode cX11_bestOf 88 = .ok (.getfield 150, 3) := by decide +kernel
theorem dX11_bestOf_91 : decode cX11_bestOf 91 = .ok (.if_icmp .le 13, 3) := by decide +kernel
theorem dX11_bestOf_94 : decode cX11_bestOf 94 = .ok (.iload 5, 2) := by decide +kernel
theorem dX11_bestOf_96 : decode cX11_bestOf 96 = .ok (.istore 4, 2) := by decide +kernel
theorem dX11_bestOf_98 : decode cX11_bestOf 98 = .ok (.aload_n 0, 1) := by decide +kernel
theorem dX11_bestOf_99 : decode cX11_bestOf 99 = .ok (.iload 7, 2) := by decide +kernel
theorem dX11_bestOf_101 : decode cX11_bestOf 101 = .ok (.putfield 150, 3) := by decide +kernel
theorem dX11_bestOf_104 : decode cX11_bestOf 104 = .ok (.iinc 5 1, 3) := by decide +kernel
theorem dX11_bestOf_107 : decode cX11_bestOf 107 = .ok (.goto (-96), 3) := by decide +kernel
theorem dX11_bestOf_110 : decode cX11_bestOf 110 = .ok (.iload 4, 2) := by decide +kernel
theorem dX11_bestOf_112 : decode cX11_bestOf 112 = .ok (.ireturn, 1) := by decide +kernel
theorem dX11_best_0 : decode cX11_best 0 = .ok (.aload_n 0, 1) := by decide +kernel
theorem dX11_best_1 : decode cX11_best 1 = .ok (.iload_n 1, 1) := by decide +kernel
theorem dX11_best_2 : decode cX11_best 2 = .ok (.invokevirtual 77, 3) := by decide +kernel
theorem dX11_best_5 : decode cX11_best 5 = .ok (.ifCond .eq 17, 3) := by decide +kernel
theorem dX11_best_8 : decode cX11_best 8 = .ok (.iload_n 2, 1) := by decide +kernel
theorem dX11_best_9 : decode cX11_best 9 = .ok (.invokestatic 132, 3) := by decide +kernel
theorem dX11_best_12 : decode cX11_best 12 = .ok (.ifCond .eq 10, 3) := by decide +kernel
theorem dX11_best_15 : decode cX11_best 15 = .ok (.iload_n 3, 1) := by decide +kernel
theorem dX11_best_16 : decode cX11_best 16 = .ok (.invokestatic 135, 3) := by decide +kernel
theorem dX11_best_19 : decode cX11_best 19 = .ok (.ifCond .ne 10, 3) := by decide +kernel
theorem dX11_best_22 : decode cX11_best 22 = .ok (.aload_n 0, 1) := by decide +kernel
theorem dX11_best_23 : decode cX11_best 23 = .ok (.ldc 72, 2) := by decide +kernel
theorem dX11_best_25 : decode cX11_best 25 = .ok (.invokevirtual 68, 3) := by decide +kernel
theorem dX11_best_28 : decode cX11_best 28 = .ok (.ireturn, 1) := by decide +kernel
theorem dX11_best_29 : decode cX11_best 29 = .ok (.aload_n 0, 1) := by decide +kernel
theorem dX11_best_30 : decode cX11_best 30 = .ok (.iload_n 1, 1) := by decide +kernel
theorem dX11_best_31 : decode cX11_best 31 = .ok (.iload_n 2, 1) := by decide +kernel
theorem dX11_best_32 : decode cX11_best 32 = .ok (.iload_n 3, 1) := by decide +kernel
theorem dX11_best_33 : decode cX11_best 33 = .ok (.invokevirtual 153, 3) := by decide +kernel
theorem dX11_best_36 : decode cX11_best 36 = .ok (.istore 4, 2) := by decide +kernel
theorem dX11_best_38 : decode cX11_best 38 = .ok (.iload 4, 2) := by decide +kernel
theorem dX11_best_40 : decode cX11_best 40 = .ok (.ifCond .ge 12, 3) := by decide +kernel
theorem dX11_best_43 : decode cX11_best 43 = .ok (.aload_n 0, 1) := by decide +kernel
theorem dX11_best_44 : decode cX11_best 44 = .ok (.ldc 67, 2) := by decide +kernel
theorem dX11_best_46 : decode cX11_best 46 = .ok (.invokevirtual 68, 3) := by decide +kernel
theorem dX11_best_49 : decode cX11_best 49 = .ok (.goto 5, 3) := by decide +kernel
theorem dX11_best_52 : decode cX11_best 52 = .ok (.iload 4, 2) := by decide +kernel
theorem dX11_best_54 : decode cX11_best 54 = .ok (.ireturn, 1) := by decide +kernel
theorem dX11_worth_0 : decode cX11_worth 0 = .ok (.iload_n 1, 1) := by decide +kernel
theorem dX11_worth_1 : decode cX11_worth 1 = .ok (.invokestatic 132, 3) := by decide +kernel
theorem dX11_worth_4 : decode cX11_worth 4 = .ok (.ifCond .eq 10, 3) := by decide +kernel
theorem dX11_worth_7 : decode cX11_worth 7 = .ok (.iload_n 2, 1) := by decide +kernel
theorem dX11_worth_8 : decode cX11_worth 8 = .ok (.invokestatic 135, 3) := by decide +kernel
theorem dX11_worth_11 : decode cX11_worth 11 = .ok (.ifCond .ne 10, 3) := by decide +kernel
theorem dX11_worth_14 : decode cX11_worth 14 = .ok (.aload_n 0, 1) := by decide +kernel
theorem dX11_worth_15 : decode cX11_worth 15 = .ok (.ldc 72, 2) := by decide +kernel
theorem dX11_worth_17 : decode cX11_worth 17 = .ok (.invokevirtual 68, 3) := by decide +kernel
theorem dX11_worth_20 : decode cX11_worth 20 = .ok (.ireturn, 1) := by decide +kernel
theorem dX11_worth_21 : decode cX11_worth 21 = .ok (.iconst 0, 1) := by decide +kernel
theorem dX11_worth_22 : decode cX11_worth 22 = .ok (.istore_n 3, 1) := by decide +kernel
theorem dX11_worth_23 : decode cX11_worth 23 = .ok (.iconst 0, 1) := by decide +kernel
theorem dX11_worth_24 : decode cX11_worth 24 = .ok (.istore 4, 2) := by decide +kernel
theorem dX11_worth_26 : decode cX11_worth 26 = .ok (.iload 4, 2) := by decide +kernel
theorem dX11_worth_28 : decode cX11_worth 28 = .ok (.aload_n 0, 1) := by decide +kernel
theorem dX11_worth_29 : decode cX11_worth 29 = .ok (.getfield 9, 3) := by decide +kernel
theorem dX11_worth_32 : decode cX11_worth 32 = .ok (.iconst 0, 1) := by decide +kernel
theorem dX11_worth_33 : decode cX11_worth 33 = .ok (.iaload, 1) := by decide +kernel
theorem dX11_worth_34 : decode cX11_worth 34 = .ok (.if_icmp .ge 35, 3) := by decide +kernel
theorem dX11_worth_37 : decode cX11_worth 37 = .ok (.aload_n 0, 1) := by decide +kernel
theorem dX11_worth_38 : decode cX11_worth 38 = .ok (.iload 4, 2) := by decide +kernel
theorem dX11_worth_40 : decode cX11_worth 40 = .ok (.iload_n 1, 1) := by decide +kernel
theorem dX11_worth_41 : decode cX11_worth 41 = .ok (.iload_n 2, 1) := by decide +kernel
theorem dX11_worth_42 : decode cX11_worth 42 = .ok (.invokevirtual 153, 3) := by decide +kernel
theorem dX11_worth_45 : decode cX11_worth 45 = .ok (.istore 5, 2) := by decide +kernel
theorem dX11_worth_47 : decode cX11_worth 47 = .ok (.iload_n 3, 1) := by decide +kernel
theorem dX11_worth_48 : decode cX11_worth 48 = .ok (.iload 5, 2) := by decide +kernel
theorem dX11_worth_50 : decode cX11_worth 50 = .ok (.ifCond .ge 7, 3) := by decide +kernel
theorem dX11_worth_53 : decode cX11_worth 53 = .ok (.iconst 0, 1) := by decide +kernel
theorem dX11_worth_54 : decode cX11_worth 54 = .ok (.goto 7, 3) := by decide +kernel
theorem dX11_worth_57 : decode cX11_worth 57 = .ok (.aload_n 0, 1) := by decide +kernel
theorem dX11_worth_58 : decode cX11_worth 58 = .ok (.getfield 150, 3) := by decide +kernel
theorem dX11_worth_61 : decode cX11_worth 61 = .ok (.iadd, 1) := by decide +kernel
theorem dX11_worth_62 : decode cX11_worth 62 = .ok (.istore_n 3, 1) := by decide +kernel
theorem dX11_worth_63 : decode cX11_worth 63 = .ok (.iinc 4 1, 3) := by decide +kernel
theorem dX11_worth_66 : decode cX11_worth 66 = .ok (.goto (-40), 3) := by decide +kernel
theorem dX11_worth_69 : decode cX11_worth 69 = .ok (.iload_n 3, 1) := by decide +kernel
theorem dX11_worth_70 : decode cX11_worth 70 = .ok (.ireturn, 1) := by decide +kernel
theorem dX11_actor_0 : decode cX11_actor 0 = .ok (.iload_n 1, 1) := by decide +kernel
theorem dX11_actor_1 : decode cX11_actor 1 = .ok (.iconst 0, 1) := by decide +kernel
theorem dX11_actor_2 : decode cX11_actor 2 = .ok (.iconst 5, 1) := by decide +kernel
theorem dX11_actor_3 : decode cX11_actor 3 = .ok (.invokestatic 60, 3) := by decide +kernel
theorem dX11_actor_6 : decode cX11_actor 6 = .ok (.ifCond .eq 13, 3) := by decide +kernel
theorem dX11_actor_9 : decode cX11_actor 9 = .ok (.iload_n 2, 1) := by decide +kernel
theorem dX11_actor_10 : decode cX11_actor 10 = .ok (.iconst (-1), 1) := by decide +kernel
theorem dX11_actor_11 : decode cX11_actor 11 = .ok (.bipush 7, 2) := by decide +kernel
theorem dX11_actor_13 : decode cX11_actor 13 = .ok (.invokestatic 60, 3) := by decide +kernel
theorem dX11_actor_16 : decode cX11_actor 16 = .ok (.ifCond .ne 10, 3) := by decide +kernel
theorem dX11_actor_19 : decode cX11_actor 19 = .ok (.aload_n 0, 1) := by decide +kernel
theorem dX11_actor_20 : decode cX11_actor 20 = .ok (.ldc 72, 2) := by decide +kernel
theorem dX11_actor_22 : decode cX11_actor 22 = .ok (.invokevirtual 68, 3) := by decide +kernel
theorem dX11_actor_25 : decode cX11_actor 25 = .ok (.ireturn, 1) := by decide +kernel
theorem dX11_actor_26 : decode cX11_actor 26 = .ok (.aload_n 0, 1) := by decide +kernel
theorem dX11_actor_27 : decode cX11_actor 27 = .ok (.invokevirtual 74, 3) := by decide +kernel
theorem dX11_actor_30 : decode cX11_actor 30 = .ok (.aload_n 0, 1) := by decide +kernel
theorem dX11_actor_31 : decode cX11_actor 31 = .ok (.getfield 9, 3) := by decide +kernel
theorem dX11_actor_34 : decode cX11_actor 34 = .ok (.sipush 340, 3) := by decide +kernel
theorem dX11_actor_37 : decode cX11_actor 37 = .ok (.iload_n 1, 1) := by decide +kernel
theorem dX11_actor_38 : decode cX11_actor 38 = .ok (.iadd, 1) := by decide +kernel
theorem dX11_actor_39 : decode cX11_actor 39 = .ok (.iaload, 1) := by decide +kernel
theorem dX11_actor_40 : decode cX11_actor 40 = .ok (.istore_n 3, 1) := by decide +kernel
theorem dX11_actor_41 : decode cX11_actor 41 = .ok (.aload_n 0, 1) := by decide +kernel
theorem dX11_actor_42 : decode cX11_actor 42 = .ok (.getfield 9, 3) := by decide +kernel
theorem dX11_actor_45 : decode cX11_actor 45 = .ok (.sipush 340, 3) := by decide +kernel
theorem dX11_actor_48 : decode cX11_actor 48 = .ok (.iload_n 1, 1) := by decide +kernel
theorem dX11_actor_49 : decode cX11_actor 49 = .ok (.iadd, 1) := by decide +kernel
theorem dX11_actor_50 : decode cX11_actor 50 = .ok (.iload_n 2, 1) := by decide +kernel
theorem dX11_actor_51 : decode cX11_actor 51 = .ok (.iastore, 1) := by decide +kernel
theorem dX11_actor_52 : decode cX11_actor 52 = .ok (.iload_n 3, 1) := by decide +kernel
theorem dX11_actor_53 : decode cX11_actor 53 = .ok (.ireturn, 1) := by decide +kernel
theorem dX11_free_0 : decode cX11_free 0 = .ok (.iload_n 1, 1) := by decide +kernel
theorem dX11_free_1 : decode cX11_free 1 = .ok (.iconst 0, 1) := by decide +kernel
theorem dX11_free_2 : decode cX11_free 2 = .ok (.bipush 7, 2) := by decide +kernel
theorem dX11_free_4 : decode cX11_free 4 = .ok (.invokestatic 60, 3) := by decide +kernel
theorem dX11_free_7 : decode cX11_free 7 = .ok (.ifCond .eq 13, 3) := by decide +kernel
theorem dX11_free_10 : decode cX11_free 10 = .ok (.iload_n 2, 1) := by decide +kernel
theorem dX11_free_11 : decode cX11_free 11 = .ok (.iconst 0, 1) := by decide +kernel
theorem dX11_free_12 : decode cX11_free 12 = .ok (.bipush 15, 2) := by decide +kernel
theorem dX11_free_14 : decode cX11_free 14 = .ok (.invokestatic 60, 3) := by decide +kernel
theorem dX11_free_17 : decode cX11_free 17 = .ok (.ifCond .ne 10, 3) := by decide +kernel
theorem dX11_free_20 : decode cX11_free 20 = .ok (.aload_n 0, 1) := by decide +kernel
theorem dX11_free_21 : decode cX11_free 21 = .ok (.ldc 72, 2) := by decide +kernel
theorem dX11_free_23 : decode cX11_free 23 = .ok (.invokevirtual 68, 3) := by decide +kernel
theorem dX11_free_26 : decode cX11_free 26 = .ok (.ireturn, 1) := by decide +kernel
theorem dX11_free_27 : decode cX11_free 27 = .ok (.aload_n 0, 1) := by decide +kernel
theorem dX11_free_28 : decode cX11_free 28 = .ok (.invokevirtual 74, 3) := by decide +kernel
theorem dX11_free_31 : decode cX11_free 31 = .ok (.aload_n 0, 1) := by decide +kernel
theorem dX11_free_32 : decode cX11_free 32 = .ok (.getfield 9, 3) := by decide +kernel
theorem dX11_free_35 : decode cX11_free 35 = .ok (.sipush 346, 3) := by decide +kernel
theorem dX11_free_38 : decode cX11_free 38 = .ok (.iload_n 1, 1) := by decide +kernel
theorem dX11_free_39 : decode cX11_free 39 = .ok (.iadd, 1) := by decide +kernel
theorem dX11_free_40 : decode cX11_free 40 = .ok (.iaload, 1) := by decide +kernel
theorem dX11_free_41 : decode cX11_free 41 = .ok (.istore_n 3, 1) := by decide +kernel
theorem dX11_free_42 : decode cX11_free 42 = .ok (.aload_n 0, 1) := by decide +kernel
theorem dX11_free_43 : decode cX11_free 43 = .ok (.getfield 9, 3) := by decide +kernel
theorem dX11_free_46 : decode cX11_free 46 = .ok (.sipush 346, 3) := by decide +kernel
theorem dX11_free_49 : decode cX11_free 49 = .ok (.iload_n 1, 1) := by decide +kernel
theorem dX11_free_50 : decode cX11_free 50 = .ok (.iadd, 1) := by decide +kernel
theorem dX11_free_51 : decode cX11_free 51 = .ok (.iload_n 2, 1) := by decide +kernel
theorem dX11_free_52 : decode cX11_free 52 = .ok (.iastore, 1) := by decide +kernel
theorem dX11_free_53 : decode cX11_free 53 = .ok (.iload_n 3, 1) := by decide +kernel
theorem dX11_free_54 : decode cX11_free 54 = .ok (.ireturn, 1) := by decide +kernel
theorem dX11_room_0 : decode cX11_room 0 = .ok (.iload_n 1, 1) := by decide +kernel
theorem dX11_room_1 : decode cX11_room 1 = .ok (.iconst 0, 1) := by decide +kernel
theorem dX11_room_2 : decode cX11_room 2 = .ok (.iconst 3, 1) := by decide +kernel
theorem dX11_room_3 : decode cX11_room 3 = .ok (.invokestatic 60, 3) := by decide +kernel
theorem dX11_room_6 : decode cX11_room 6 = .ok (.ifCond .eq 13, 3) := by decide +kernel
theorem dX11_room_9 : decode cX11_room 9 = .ok (.iload_n 2, 1) := by decide +kernel
theorem dX11_room_10 : decode cX11_room 10 = .ok (.iconst 0, 1) := by decide +kernel
theorem dX11_room_11 : decode cX11_room 11 = .ok (.bipush 100, 2) := by decide +kernel
theorem dX11_room_13 : decode cX11_room 13 = .ok (.invokestatic 60, 3) := by decide +kernel
theorem dX11_room_16 : decode cX11_room 16 = .ok (.ifCond .ne 10, 3) := by decide +kernel
theorem dX11_room_19 : decode cX11_room 19 = .ok (.aload_n 0, 1) := by decide +kernel
theorem dX11_room_20 : decode cX11_room 20 = .ok (.ldc 72, 2) := by decide +kernel
theorem dX11_room_22 : decode cX11_room 22 = .ok (.invokevirtual 68, 3) := by decide +kernel
theorem dX11_room_25 : decode cX11_room 25 = .ok (.ireturn, 1) := by decide +kernel
theorem dX11_room_26 : decode cX11_room 26 = .ok (.aload_n 0, 1) := by decide +kernel
theorem dX11_room_27 : decode cX11_room 27 = .ok (.invokevirtual 74, 3) := by decide +kernel
theorem dX11_room_30 : decode cX11_room 30 = .ok (.aload_n 0, 1) := by decide +kernel
theorem dX11_room_31 : decode cX11_room 31 = .ok (.getfield 9, 3) := by decide +kernel
theorem dX11_room_34 : decode cX11_room 34 = .ok (.sipush 354, 3) := by decide +kernel
theorem dX11_room_37 : decode cX11_room 37 = .ok (.iload_n 1, 1) := by decide +kernel
theorem dX11_room_38 : decode cX11_room 38 = .ok (.iadd, 1) := by decide +kernel
theorem dX11_room_39 : decode cX11_room 39 = .ok (.iaload, 1) := by decide +kernel
theorem dX11_room_40 : decode cX11_room 40 = .ok (.istore_n 3, 1) := by decide +kernel
theorem dX11_room_41 : decode cX11_room 41 = .ok (.aload_n 0, 1) := by decide +kernel
theorem dX11_room_42 : decode cX11_room 42 = .ok (.getfield 9, 3) := by decide +kernel
theorem dX11_room_45 : decode cX11_room 45 = .ok (.sipush 354, 3) := by decide +kernel
theorem dX11_room_48 : decode cX11_room 48 = .ok (.iload_n 1, 1) := by decide +kernel
theorem dX11_room_49 : decode cX11_room 49 = .ok (.iadd, 1) := by decide +kernel
theorem dX11_room_50 : decode cX11_room 50 = .ok (.iload_n 2, 1) := by decide +kernel
theorem dX11_room_51 : decode cX11_room 51 = .ok (.iastore, 1) := by decide +kernel
theorem dX11_room_52 : decode cX11_room 52 = .ok (.iload_n 3, 1) := by decide +kernel
theorem dX11_room_53 : decode cX11_room 53 = .ok (.ireturn, 1) := by decide +kernel
theorem dX11_loop_0 : decode cX11_loop 0 = .ok (.iload_n 1, 1) := by decide +kernel
theorem dX11_loop_1 : decode cX11_loop 1 = .ok (.iconst 0, 1) := by decide +kernel
theorem dX11_loop_2 : decode cX11_loop 2 = .ok (.iconst 1, 1) := by decide +kernel
theorem dX11_loop_3 : decode cX11_loop 3 = .ok (.aload_n 0, 1) := by decide +kernel
theorem dX11_loop_4 : decode cX11_loop 4 = .ok (.getfield 9, 3) := by decide +kernel
theorem dX11_loop_7 : decode cX11_loop 7 = .ok (.iconst 0, 1) := by decide +kernel
theorem dX11_loop_8 : decode cX11_loop 8 = .ok (.iaload, 1) := by decide +kernel
theorem dX11_loop_9 : decode cX11_loop 9 = .ok (.ishl, 1) := by decide +kernel
theorem dX11_loop_10 : decode cX11_loop 10 = .ok (.iconst 1, 1) := by decide +kernel
theorem dX11_loop_11 : decode cX11_loop 11 = .ok (.isub, 1) := by decide +kernel
theorem dX11_loop_12 : decode cX11_loop 12 = .ok (.invokestatic 60, 3) := by decide +kernel
theorem dX11_loop_15 : decode cX11_loop 15 = .ok (.ifCond .ne 10, 3) := by decide +kernel
theorem dX11_loop_18 : decode cX11_loop 18 = .ok (.aload_n 0, 1) := by decide +kernel
theorem dX11_loop_19 : decode cX11_loop 19 = .ok (.ldc 72, 2) := by decide +kernel
theorem dX11_loop_21 : decode cX11_loop 21 = .ok (.invokevirtual 68, 3) := by decide +kernel
theorem dX11_loop_24 : decode cX11_loop 24 = .ok (.ireturn, 1) := by decide +kernel
theorem dX11_loop_25 : decode cX11_loop 25 = .ok (.iload_n 1, 1) := by decide +kernel
theorem dX11_loop_26 : decode cX11_loop 26 = .ok (.ifCond .ne 10, 3) := by decide +kernel
theorem dX11_loop_29 : decode cX11_loop 29 = .ok (.aload_n 0, 1) := by decide +kernel
theorem dX11_loop_30 : decode cX11_loop 30 = .ok (.ldc 92, 2) := by decide +kernel
theorem dX11_loop_32 : decode cX11_loop 32 = .ok (.invokevirtual 68, 3) := by decide +kernel
theorem dX11_loop_35 : decode cX11_loop 35 = .ok (.ireturn, 1) := by decide +kernel
theorem dX11_loop_36 : decode cX11_loop 36 = .ok (.aload_n 0, 1) := by decide +kernel
theorem dX11_loop_37 : decode cX11_loop 37 = .ok (.getfield 9, 3) := by decide +kernel
theorem dX11_loop_40 : decode cX11_loop 40 = .ok (.iconst 3, 1) := by decide +kernel
theorem dX11_loop_41 : decode cX11_loop 41 = .ok (.iaload, 1) := by decide +kernel
theorem dX11_loop_42 : decode cX11_loop 42 = .ok (.istore_n 2, 1) := by decide +kernel
theorem dX11_loop_43 : decode cX11_loop 43 = .ok (.iload_n 2, 1) := by decide +kernel
theorem dX11_loop_44 : decode cX11_loop 44 = .ok (.bipush 7, 2) := by decide +kernel
theorem dX11_loop_46 : decode cX11_loop 46 = .ok (.if_icmp .ne 10, 3) := by decide +kernel
theorem dX11_loop_49 : decode cX11_loop 49 = .ok (.aload_n 0, 1) := by decide +kernel
theorem dX11_loop_50 : decode cX11_loop 50 = .ok (.ldc 73, 2) := by decide +kernel
theorem dX11_loop_52 : decode cX11_loop 52 = .ok (.invokevirtual 68, 3) := by decide +kernel
theorem dX11_loop_55 : decode cX11_loop 55 = .ok (.ireturn, 1) := by decide +kernel
theorem dX11_loop_56 : decode cX11_loop 56 = .ok (.aload_n 0, 1) := by decide +kernel
theorem dX11_loop_57 : decode cX11_loop 57 = .ok (.invokevirtual 74, 3) := by decide +kernel
theorem dX11_loop_60 : decode cX11_loop 60 = .ok (.aload_n 0, 1) := by decide +kernel
theorem dX11_loop_61 : decode cX11_loop 61 = .ok (.getfield 9, 3) := by decide +kernel
theorem dX11_loop_64 : decode cX11_loop 64 = .ok (.sipush 358, 3) := by decide +kernel
theorem dX11_loop_67 : decode cX11_loop 67 = .ok (.iload_n 2, 1) := by decide +kernel
theorem dX11_loop_68 : decode cX11_loop 68 = .ok (.iadd, 1) := by decide +kernel
theorem dX11_loop_69 : decode cX11_loop 69 = .ok (.iload_n 1, 1) := by decide +kernel
theorem dX11_loop_70 : decode cX11_loop 70 = .ok (.iastore, 1) := by decide +kernel
theorem dX11_loop_71 : decode cX11_loop 71 = .ok (.aload_n 0, 1) := by decide +kernel
theorem dX11_loop_72 : decode cX11_loop 72 = .ok (.getfield 9, 3) := by decide +kernel
theorem dX11_loop_75 : decode cX11_loop 75 = .ok (.iconst 3, 1) := by decide +kernel
theorem dX11_loop_76 : decode cX11_loop 76 = .ok (.dup2, 1) := by decide +kernel
theorem dX11_loop_77 : decode cX11_loop 77 = .ok (.iaload, 1) := by decide +kernel
theorem dX11_loop_78 : decode cX11_loop 78 = .ok (.iconst 1, 1) := by decide +kernel
theorem dX11_loop_79 : decode cX11_loop 79 = .ok (.iadd, 1) := by decide +kernel
theorem dX11_loop_80 : decode cX11_loop 80 = .ok (.iastore, 1) := by decide +kernel
theorem dX11_loop_81 : decode cX11_loop 81 = .ok (.iload_n 2, 1) := by decide +kernel
theorem dX11_loop_82 : decode cX11_loop 82 = .ok (.ireturn, 1) := by decide +kernel
theorem dX11_unloop_0 : decode cX11_unloop 0 = .ok (.aload_n 0, 1) := by decide +kernel
theorem dX11_unloop_1 : decode cX11_unloop 1 = .ok (.getfield 9, 3) := by decide +kernel
theorem dX11_unloop_4 : decode cX11_unloop 4 = .ok (.iconst 3, 1) := by decide +kernel
theorem dX11_unloop_5 : decode cX11_unloop 5 = .ok (.iaload, 1) := by decide +kernel
theorem dX11_unloop_6 : decode cX11_unloop 6 = .ok (.ifCond .ne 10, 3) := by decide +kernel
theorem dX11_unloop_9 : decode cX11_unloop 9 = .ok (.aload_n 0, 1) := by decide +kernel
theorem dX11_unloop_10 : decode cX11_unloop 10 = .ok (.ldc 67, 2) := by decide +kernel
theorem dX11_unloop_12 : decode cX11_unloop 12 = .ok (.invokevirtual 68, 3) := by decide +kernel
theorem dX11_unloop_15 : decode cX11_unloop 15 = .ok (.ireturn, 1) := by decide +kernel
theorem dX11_unloop_16 : decode cX11_unloop 16 = .ok (.aload_n 0, 1) := by decide +kernel
theorem dX11_unloop_17 : decode cX11_unloop 17 = .ok (.invokevirtual 74, 3) := by decide +kernel
theorem dX11_unloop_20 : decode cX11_unloop 20 = .ok (.aload_n 0, 1) := by decide +kernel
theorem dX11_unloop_21 : decode cX11_unloop 21 = .ok (.getfield 9, 3) := by decide +kernel
theorem dX11_unloop_24 : decode cX11_unloop 24 = .ok (.iconst 3, 1) := by decide +kernel
theorem dX11_unloop_25 : decode cX11_unloop 25 = .ok (.dup2, 1) := by decide +kernel
theorem dX11_unloop_26 : decode cX11_unloop 26 = .ok (.iaload, 1) := by decide +kernel
theorem dX11_unloop_27 : decode cX11_unloop 27 = .ok (.iconst 1, 1) := by decide +kernel
theorem dX11_unloop_28 : decode cX11_unloop 28 = .ok (.isub, 1) := by decide +kernel
theorem dX11_unloop_29 : decode cX11_unloop 29 = .ok (.iastore, 1) := by decide +kernel
theorem dX11_unloop_30 : decode cX11_unloop 30 = .ok (.aload_n 0, 1) := by decide +kernel
theorem dX11_unloop_31 : decode cX11_unloop 31 = .ok (.getfield 9, 3) := by decide +kernel
theorem dX11_unloop_34 : decode cX11_unloop 34 = .ok (.iconst 3, 1) := by decide +kernel
theorem dX11_unloop_35 : decode cX11_unloop 35 = .ok (.iaload, 1) := by decide +kernel
theorem dX11_unloop_36 : decode cX11_unloop 36 = .ok (.ireturn, 1) := by decide +kernel
theorem dX11_many_0 : decode cX11_many 0 = .ok (.iconst 0, 1) := by decide +kernel
theorem dX11_many_1 : decode cX11_many 1 = .ok (.istore_n 1, 1) := by decide +kernel
theorem dX11_many_2 : decode cX11_many 2 = .ok (.iconst 0, 1) := by decide +kernel
theorem dX11_many_3 : decode cX11_many 3 = .ok (.istore_n 2, 1) := by decide +kernel
theorem dX11_many_4 : decode cX11_many 4 = .ok (.iload_n 2, 1) := by decide +kernel
theorem dX11_many_5 : decode cX11_many 5 = .ok (.bipush 12, 2) := by decide +kernel
theorem dX11_many_7 : decode cX11_many 7 = .ok (.if_icmp .ge 17, 3) := by decide +kernel
theorem dX11_many_10 : decode cX11_many 10 = .ok (.iload_n 1, 1) := by decide +kernel
theorem dX11_many_11 : decode cX11_many 11 = .ok (.iload_n 0, 1) := by decide +kernel
theorem dX11_many_12 : decode cX11_many 12 = .ok (.iload_n 2, 1) := by decide +kernel
theorem dX11_many_13 : decode cX11_many 13 = .ok (.ishr, 1) := by decide +kernel
theorem dX11_many_14 : decode cX11_many 14 = .ok (.iconst 1, 1) := by decide +kernel
theorem dX11_many_15 : decode cX11_many 15 = .ok (.iand, 1) := by decide +kernel
theorem dX11_many_16 : decode cX11_many 16 = .ok (.iadd, 1) := by decide +kernel
theorem dX11_many_17 : decode cX11_many 17 = .ok (.istore_n 1, 1) := by decide +kernel
theorem dX11_many_18 : decode cX11_many 18 = .ok (.iinc 2 1, 3) := by decide +kernel
theorem dX11_many_21 : decode cX11_many 21 = .ok (.goto (-17), 3) := by decide +kernel
theorem dX11_many_24 : decode cX11_many 24 = .ok (.iload_n 1, 1) := by decide +kernel
theorem dX11_many_25 : decode cX11_many 25 = .ok (.ireturn, 1) := by decide +kernel
theorem dX11_findLoops_0 : decode cX11_findLoops 0 = .ok (.iconst 0, 1) := by decide +kernel
theorem dX11_findLoops_1 : decode cX11_findLoops 1 = .ok (.istore_n 1, 1) := by decide +kernel
theorem dX11_findLoops_2 : decode cX11_findLoops 2 = .ok (.iload_n 1, 1) := by decide +kernel
theorem dX11_findLoops_3 : decode cX11_findLoops 3 = .ok (.aload_n 0, 1) := by decide +kernel
theorem dX11_findLoops_4 : decode cX11_findLoops 4 = .ok (.getfield 9, 3) := by decide +kernel
theorem dX11_findLoops_7 : decode cX11_findLoops 7 = .ok (.iconst 3, 1) := by decide +kernel
theorem dX11_findLoops_8 : decode cX11_findLoops 8 = .ok (.iaload, 1) := by decide +kernel
theorem dX11_findLoops_9 : decode cX11_findLoops 9 = .ok (.if_icmp .ge 134, 3) := by decide +kernel
theorem dX11_findLoops_12 : decode cX11_findLoops 12 = .ok (.aload_n 0, 1) := by decide +kernel
theorem dX11_findLoops_13 : decode cX11_findLoops 13 = .ok (.getfield 41, 3) := by decide +kernel
theorem dX11_findLoops_16 : decode cX11_findLoops 16 = .ok (.iload_n 1, 1) := by decide +kernel
theorem dX11_findLoops_17 : decode cX11_findLoops 17 = .ok (.iconst 0, 1) := by decide +kernel
theorem dX11_findLoops_18 : decode cX11_findLoops 18 = .ok (.iastore, 1) := by decide +kernel
theorem dX11_findLoops_19 : decode cX11_findLoops 19 = .ok (.aload_n 0, 1) := by decide +kernel
theorem dX11_findLoops_20 : decode cX11_findLoops 20 = .ok (.getfield 44, 3) := by decide +kernel
theorem dX11_findLoops_23 : decode cX11_findLoops 23 = .ok (.iload_n 1, 1) := by decide +kernel
theorem dX11_findLoops_24 : decode cX11_findLoops 24 = .ok (.bipush 15, 2) := by decide +kernel
theorem dX11_findLoops_26 : decode cX11_findLoops 26 = .ok (.iastore, 1) := by decide +kernel
theorem dX11_findLoops_27 : decode cX11_findLoops 27 = .ok (.aload_n 0, 1) := by decide +kernel
theorem dX11_findLoops_28 : decode cX11_findLoops 28 = .ok (.getfield 47, 3) := by decide +kernel
theorem dX11_findLoops_31 : decode cX11_findLoops 31 = .ok (.iload_n 1, 1) := by decide +kernel
theorem dX11_findLoops_32 : decode cX11_findLoops 32 = .ok (.iconst 5, 1) := by decide +kernel
theorem dX11_findLoops_33 : decode cX11_findLoops 33 = .ok (.aload_n 0, 1) := by decide +kernel
theorem dX11_findLoops_34 : decode cX11_findLoops 34 = .ok (.getfield 9, 3) := by decide +kernel
theorem dX11_findLoops_37 : decode cX11_findLoops 37 = .ok (.sipush 358, 3) := by decide +kernel
theorem dX11_findLoops_40 : decode cX11_findLoops 40 = .ok (.iload_n 1, 1) := by decide +kernel
theorem dX11_findLoops_41 : decode cX11_findLoops 41 = .ok (.iadd, 1) := by decide +kernel
theorem dX11_findLoops_42 : decode cX11_findLoops 42 = .ok (.iaload, 1) := by decide +kernel
theorem dX11_findLoops_43 : decode cX11_findLoops 43 = .ok (.invokestatic 156, 3) := by decide +kernel
theorem dX11_findLoops_46 : decode cX11_findLoops 46 = .ok (.imul, 1) := by decide +kernel
theorem dX11_findLoops_47 : decode cX11_findLoops 47 = .ok (.iastore, 1) := by decide +kernel
theorem dX11_findLoops_48 : decode cX11_findLoops 48 = .ok (.iconst 0, 1) := by decide +kernel
theorem dX11_findLoops_49 : decode cX11_findLoops 49 = .ok (.istore_n 2, 1) := by decide +kernel
theorem dX11_findLoops_50 : decode cX11_findLoops 50 = .ok (.iload_n 2, 1) := by decide +kernel
theorem dX11_findLoops_51 : decode cX11_findLoops 51 = .ok (.aload_n 0, 1) := by decide +kernel
theorem dX11_findLoops_52 : decode cX11_findLoops 52 = .ok (.getfield 9, 3) := by decide +kernel
theorem dX11_findLoops_55 : decode cX11_findLoops 55 = .ok (.iconst 0, 1) := by decide +kernel
theorem dX11_findLoops_56 : decode cX11_findLoops 56 = .ok (.iaload, 1) := by decide +kernel
theorem dX11_findLoops_57 : decode cX11_findLoops 57 = .ok (.if_icmp .ge 80, 3) := by decide +kernel
theorem dX11_findLoops_60 : decode cX11_findLoops 60 = .ok (.aload_n 0, 1) := by decide +kernel
theorem dX11_findLoops_61 : decode cX11_findLoops 61 = .ok (.getfield 9, 3) := by decide +kernel
theorem dX11_findLoops_64 : decode cX11_findLoops 64 = .ok (.sipush 340, 3) := by decide +kernel
theorem dX11_findLoops_67 : decode cX11_findLoops 67 = .ok (.aload_n 0, 1) := by decide +kernel
theorem dX11_findLoops_68 : decode cX11_findLoops 68 = .ok (.getfield 9, 3) := by decide +kernel
theorem dX11_findLoops_71 : decode cX11_findLoops 71 = .ok (.iconst 4, 1) := by decide +kernel
theorem dX11_findLoops_72 : decode cX11_findLoops 72 = .ok (.iload_n 2, 1) := by decide +kernel
theorem dX11_findLoops_73 : decode cX11_findLoops 73 = .ok (.iadd, 1) := by decide +kernel
theorem dX11_findLoops_74 : decode cX11_findLoops 74 = .ok (.iaload, 1) := by decide +kernel
theorem dX11_findLoops_75 : decode cX11_findLoops 75 = .ok (.iadd, 1) := by decide +kernel
theorem dX11_findLoops_76 : decode cX11_findLoops 76 = .ok (.iaload, 1) := by decide +kernel
theorem dX11_findLoops_77 : decode cX11_findLoops 77 = .ok (.istore_n 3, 1) := by decide +kernel
theorem dX11_findLoops_78 : decode cX11_findLoops 78 = .ok (.aload_n 0, 1) := by decide +kernel
theorem dX11_findLoops_79 : decode cX11_findLoops 79 = .ok (.getfield 9, 3) := by decide +kernel
theorem dX11_findLoops_82 : decode cX11_findLoops 82 = .ok (.sipush 358, 3) := by decide +kernel
theorem dX11_findLoops_85 : decode cX11_findLoops 85 = .ok (.iload_n 1, 1) := by decide +kernel
theorem dX11_findLoops_86 : decode cX11_findLoops 86 = .ok (.iadd, 1) := by decide +kernel
theorem dX11_findLoops_87 : decode cX11_findLoops 87 = .ok (.iaload, 1) := by decide +kernel
theorem dX11_findLoops_88 : decode cX11_findLoops 88 = .ok (.iload_n 2, 1) := by decide +kernel
theorem dX11_findLoops_89 : decode cX11_findLoops 89 = .ok (.ishr, 1) := by decide +kernel
theorem dX11_findLoops_90 : decode cX11_findLoops 90 = .ok (.iconst 1, 1) := by decide +kernel
theorem dX11_findLoops_91 : decode cX11_findLoops 91 = .ok (.iand, 1) := by decide +kernel
theorem dX11_findLoops_92 : decode cX11_findLoops 92 = .ok (.iconst 1, 1) := by decide +kernel
theorem dX11_findLoops_93 : decode cX11_findLoops 93 = .ok (.if_icmp .ne 38, 3) := by decide +kernel
theorem dX11_findLoops_96 : decode cX11_findLoops 96 = .ok (.iload_n 3, 1) := by decide +kernel
theorem dX11_findLoops_97 : decode cX11_findLoops 97 = .ok (.ifCond .lt 34, 3) := by decide +kernel
theorem dX11_findLoops_100 : decode cX11_findLoops 100 = .ok (.aload_n 0, 1) := by decide +kernel
theorem dX11_findLoops_101 : decode cX11_findLoops 101 = .ok (.getfield 41, 3) := by decide +kernel
theorem dX11_findLoops_104 : decode cX11_findLoops 104 = .ok (.iload_n 1, 1) := by decide +kernel
theorem dX11_findLoops_105 : decode cX11_findLoops 105 = .ok (.dup2, 1) := by decide +kernel
theorem dX11_findLoops_106 : decode cX11_findLoops 106 = .ok (.iaload, 1) := by decide +kernel
theorem dX11_findLoops_107 : decode cX11_findLoops 107 = .ok (.iconst 1, 1) := by decide +kernel
theorem dX11_findLoops_108 : decode cX11_findLoops 108 = .ok (.iload_n 3, 1) := by decide +kernel
theorem dX11_findLoops_109 : decode cX11_findLoops 109 = .ok (.ishl, 1) := by decide +kernel
theorem dX11_findLoops_110 : decode cX11_findLoops 110 = .ok (.ior, 1) := by decide +kernel
theorem dX11_findLoops_111 : decode cX11_findLoops 111 = .ok (.iastore, 1) := by decide +kernel
theorem dX11_findLoops_112 : decode cX11_findLoops 112 = .ok (.aload_n 0, 1) := by decide +kernel
theorem dX11_findLoops_113 : decode cX11_findLoops 113 = .ok (.getfield 44, 3) := by decide +kernel
theorem dX11_findLoops_116 : decode cX11_findLoops 116 = .ok (.iload_n 1, 1) := by decide +kernel
theorem dX11_findLoops_117 : decode cX11_findLoops 117 = .ok (.dup2, 1) := by decide +kernel
theorem dX11_findLoops_118 : decode cX11_findLoops 118 = .ok (.iaload, 1) := by decide +kernel
theorem dX11_findLoops_119 : decode cX11_findLoops 119 = .ok (.aload_n 0, 1) := by decide +kernel
theorem dX11_findLoops_120 : decode cX11_findLoops 120 = .ok (.getfield 9, 3) := by decide +kernel
theorem dX11_findLoops_123 : decode cX11_findLoops 123 = .ok (.sipush 346, 3) := by decide +kernel
theorem dX11_findLoops_126 : decode cX11_findLoops 126 = .ok (.iload_n 3, 1) := by decide +kernel
theorem dX11_findLoops_127 : decode cX11_findLoops 127 = .ok (.iadd, 1) := by decide +kernel
theorem dX11_findLoops_128 : decode cX11_findLoops 128 = .ok (.iaload, 1) := by decide +kernel
theorem dX11_findLoops_129 : decode cX11_findLoops 129 = .ok (.iand, 1) := by decide +kernel
theorem dX11_findLoops_130 : decode cX11_findLoops 130 = .ok (.iastore, 1) := by decide +kernel
theorem dX11_findLoops_131 : decode cX11_findLoops 131 = .ok (.iinc 2 1, 3) := by decide +kernel
theorem dX11_findLoops_134 : decode cX11_findLoops 134 = .ok (.goto (-84), 3) := by decide +kernel
theorem dX11_findLoops_137 : decode cX11_findLoops 137 = .ok (.iinc 1 1, 3) := by decide +kernel
theorem dX11_findLoops_140 : decode cX11_findLoops 140 = .ok (.goto (-138), 3) := by decide +kernel
theorem dX11_findLoops_143 : decode cX11_findLoops 143 = .ok (.return_, 1) := by decide +kernel
theorem dX11_callsOf_0 : decode cX11_callsOf 0 = .ok (.aload_n 0, 1) := by decide +kernel
theorem dX11_callsOf_1 : decode cX11_callsOf 1 = .ok (.getfield 9, 3) := by decide +kernel
theorem dX11_callsOf_4 : decode cX11_callsOf 4 = .ok (.iconst 3, 1) := by decide +kernel
theorem dX11_callsOf_5 : decode cX11_callsOf 5 = .ok (.iaload, 1) := by decide +kernel
theorem dX11_callsOf_6 : decode cX11_callsOf 6 = .ok (.istore_n 2, 1) := by decide +kernel
theorem dX11_callsOf_7 : decode cX11_callsOf 7 = .ok (.iconst 0, 1) := by decide +kernel
theorem dX11_callsOf_8 : decode cX11_callsOf 8 = .ok (.istore_n 3, 1) := by decide +kernel
theorem dX11_callsOf_9 : decode cX11_callsOf 9 = .ok (.iconst 0, 1) := by decide +kernel
theorem dX11_callsOf_10 : decode cX11_callsOf 10 = .ok (.istore 4, 2) := by decide +kernel
theorem dX11_callsOf_12 : decode cX11_callsOf 12 = .ok (.iload 4, 2) := by decide +kernel
theorem dX11_callsOf_14 : decode cX11_callsOf 14 = .ok (.iconst 4, 1) := by decide +kernel
theorem dX11_callsOf_15 : decode cX11_callsOf 15 = .ok (.if_icmp .ge 117, 3) := by decide +kernel
theorem dX11_callsOf_18 : decode cX11_callsOf 18 = .ok (.iconst 0, 1) := by decide +kernel
theorem dX11_callsOf_19 : decode cX11_callsOf 19 = .ok (.istore 5, 2) := by decide +kernel
theorem dX11_callsOf_21 : decode cX11_callsOf 21 = .ok (.iconst 0, 1) := by decide +kernel
theorem dX11_callsOf_22 : decode cX11_callsOf 22 = .ok (.istore 6, 2) := by decide +kernel
theorem dX11_callsOf_24 : decode cX11_callsOf 24 = .ok (.iconst 0, 1) := by decide +kernel
theorem dX11_callsOf_25 : decode cX11_callsOf 25 = .ok (.istore 7, 2) := by decide +kernel
theorem dX11_callsOf_27 : decode cX11_callsOf 27 = .ok (.iload 7, 2) := by decide +kernel
theorem dX11_callsOf_29 : decode cX11_callsOf 29 = .ok (.iload_n 2, 1) := by decide +kernel
theorem dX11_callsOf_30 : decode cX11_callsOf 30 = .ok (.if_icmp .ge 70, 3) := by decide +kernel
theorem dX11_callsOf_33 : decode cX11_callsOf 33 = .ok (.iload_n 1, 1) := by decide +kernel
theorem dX11_callsOf_34 : decode cX11_callsOf 34 = .ok (.iconst 2, 1) := by decide +kernel
theorem dX11_callsOf_35 : decode cX11_callsOf 35 = .ok (.iload_n 2, 1) := by decide +kernel
theorem dX11_callsOf_36 : decode cX11_callsOf 36 = .ok (.iconst 1, 1) := by decide +kernel
theorem dX11_callsOf_37 : decode cX11_callsOf 37 = .ok (.isub, 1) := by decide +kernel
theorem dX11_callsOf_38 : decode cX11_callsOf 38 = .ok (.iload 7, 2) := by decide +kernel
theorem dX11_callsOf_40 : decode cX11_callsOf 40 = .ok (.isub, 1) := by decide +kernel
theorem dX11_callsOf_41 : decode cX11_callsOf 41 = .ok (.imul, 1) := by decide +kernel
theorem dX11_callsOf_42 : decode cX11_callsOf 42 = .ok (.ishr, 1) := by decide +kernel
theorem dX11_callsOf_43 : decode cX11_callsOf 43 = .ok (.iconst 3, 1) := by decide +kernel
theorem dX11_callsOf_44 : decode cX11_callsOf 44 = .ok (.iand, 1) := by decide +kernel
theorem dX11_callsOf_45 : decode cX11_callsOf 45 = .ok (.iload 4, 2) := by decide +kernel
theorem dX11_callsOf_47 : decode cX11_callsOf 47 = .ok (.if_icmp .eq 6, 3) := by decide +kernel
theorem dX11_callsOf_50 : decode cX11_callsOf 50 = .ok (.goto 44, 3) := by decide +kernel
theorem dX11_callsOf_53 : decode cX11_callsOf 53 = .ok (.aload_n 0, 1) := by decide +kernel
theorem dX11_callsOf_54 : decode cX11_callsOf 54 = .ok (.getfield 44, 3) := by decide +kernel
theorem dX11_callsOf_57 : decode cX11_callsOf 57 = .ok (.iload 7, 2) := by decide +kernel
theorem dX11_callsOf_59 : decode cX11_callsOf 59 = .ok (.iaload, 1) := by decide +kernel
theorem dX11_callsOf_60 : decode cX11_callsOf 60 = .ok (.iload 4, 2) := by decide +kernel
theorem dX11_callsOf_62 : decode cX11_callsOf 62 = .ok (.ishr, 1) := by decide +kernel
theorem dX11_callsOf_63 : decode cX11_callsOf 63 = .ok (.iconst 1, 1) := by decide +kernel
theorem dX11_callsOf_64 : decode cX11_callsOf 64 = .ok (.iand, 1) := by decide +kernel
theorem dX11_callsOf_65 : decode cX11_callsOf 65 = .ok (.ifCond .ne 5, 3) := by decide +kernel
theorem dX11_callsOf_68 : decode cX11_callsOf 68 = .ok (.iconst (-1), 1) := by decide +kernel
theorem dX11_callsOf_69 : decode cX11_callsOf 69 = .ok (.ireturn, 1) := by decide +kernel
theorem dX11_callsOf_70 : decode cX11_callsOf 70 = .ok (.iload 5, 2) := by decide +kernel
theorem dX11_callsOf_72 : decode cX11_callsOf 72 = .ok (.aload_n 0, 1) := by decide +kernel
theorem dX11_callsOf_73 : decode cX11_callsOf 73 = .ok (.getfield 41, 3) := by decide +kernel
theorem dX11_callsOf_76 : decode cX11_callsOf 76 = .ok (.iload 7, 2) := by decide +kernel
theorem dX11_callsOf_78 : decode cX11_callsOf 78 = .ok (.iaload, 1) := by decide +kernel
theorem dX11_callsOf_79 : decode cX11_callsOf 79 = .ok (.ior, 1) := by decide +kernel
theorem dX11_callsOf_80 : decode cX11_callsOf 80 = .ok (.istore 5, 2) := by decide +kernel
theorem dX11_callsOf_82 : decode cX11_callsOf 82 = .ok (.iload 6, 2) := by decide +kernel
theorem dX11_callsOf_84 : decode cX11_callsOf 84 = .ok (.aload_n 0, 1) := by decide +kernel
theorem dX11_callsOf_85 : decode cX11_callsOf 85 = .ok (.getfield 47, 3) := by decide +kernel
theorem dX11_callsOf_88 : decode cX11_callsOf 88 = .ok (.iload 7, 2) := by decide +kernel
theorem dX11_callsOf_90 : decode cX11_callsOf 90 = .ok (.iaload, 1) := by decide +kernel
theorem dX11_callsOf_91 : decode cX11_callsOf 91 = .ok (.iadd, 1) := by decide +kernel
theorem dX11_callsOf_92 : decode cX11_callsOf 92 = .ok (.istore 6, 2) := by decide +kernel
theorem dX11_callsOf_94 : decode cX11_callsOf 94 = .ok (.iinc 7 1, 3) := by decide +kernel
theorem dX11_callsOf_97 : decode cX11_callsOf 97 = .ok (.goto (-70), 3) := by decide +kernel
theorem dX11_callsOf_100 : decode cX11_callsOf 100 = .ok (.iload 6, 2) := by decide +kernel
theorem dX11_callsOf_102 : decode cX11_callsOf 102 = .ok (.aload_n 0, 1) := by decide +kernel
theorem dX11_callsOf_103 : decode cX11_callsOf 103 = .ok (.getfield 9, 3) := by decide +kernel
theorem dX11_callsOf_106 : decode cX11_callsOf 106 = .ok (.sipush 354, 3) := by decide +kernel
theorem dX11_callsOf_109 : decode cX11_callsOf 109 = .ok (.iload 4, 2) := by decide +kernel
theorem dX11_callsOf_111 : decode cX11_callsOf 111 = .ok (.iadd, 1) := by decide +kernel
theorem dX11_callsOf_112 : decode cX11_callsOf 112 = .ok (.iaload, 1) := by decide +kernel
theorem dX11_callsOf_113 : decode cX11_callsOf 113 = .ok (.if_icmp .le 5, 3) := by decide +kernel
theorem dX11_callsOf_116 : decode cX11_callsOf 116 = .ok (.iconst (-1), 1) := by decide +kernel
theorem dX11_callsOf_117 : decode cX11_callsOf 117 = .ok (.ireturn, 1) := by decide +kernel
theorem dX11_callsOf_118 : decode cX11_callsOf 118 = .ok (.iload_n 3, 1) := by decide +kernel
theorem dX11_callsOf_119 : decode cX11_callsOf 119 = .ok (.iload 5, 2) := by decide +kernel
theorem dX11_callsOf_121 : decode cX11_callsOf 121 = .ok (.invokestatic 156, 3) := by decide +kernel
theorem dX11_callsOf_124 : decode cX11_callsOf 124 = .ok (.iadd, 1) := by decide +kernel
theorem dX11_callsOf_125 : decode cX11_callsOf 125 = .ok (.istore_n 3, 1) := by decide +kernel
theorem dX11_callsOf_126 : decode cX11_callsOf 126 = .ok (.iinc 4 1, 3) := by decide +kernel
theorem dX11_callsOf_129 : decode cX11_callsOf 129 = .ok (.goto (-117), 3) := by decide +kernel
theorem dX11_callsOf_132 : decode cX11_callsOf 132 = .ok (.iload_n 3, 1) := by decide +kernel
theorem dX11_callsOf_133 : decode cX11_callsOf 133 = .ok (.ireturn, 1) := by decide +kernel
theorem dX11_findPlan_0 : decode cX11_findPlan 0 = .ok (.aload_n 0, 1) := by decide +kernel
theorem dX11_findPlan_1 : decode cX11_findPlan 1 = .ok (.invokevirtual 159, 3) := by decide +kernel
theorem dX11_findPlan_4 : decode cX11_findPlan 4 = .ok (.aload_n 0, 1) := by decide +kernel
theorem dX11_findPlan_5 : decode cX11_findPlan 5 = .ok (.iconst (-1), 1) := by decide +kernel
theorem dX11_findPlan_6 : decode cX11_findPlan 6 = .ok (.putfield 162, 3) := by decide +kernel
theorem dX11_findPlan_9 : decode cX11_findPlan 9 = .ok (.aload_n 0, 1) := by decide +kernel
theorem dX11_findPlan_10 : decode cX11_findPlan 10 = .ok (.iconst 0, 1) := by decide +kernel
theorem dX11_findPlan_11 : decode cX11_findPlan 11 = .ok (.putfield 165, 3) := by decide +kernel
theorem dX11_findPlan_14 : decode cX11_findPlan 14 = .ok (.iconst 0, 1) := by decide +kernel
theorem dX11_findPlan_15 : decode cX11_findPlan 15 = .ok (.istore_n 1, 1) := by decide +kernel
theorem dX11_findPlan_16 : decode cX11_findPlan 16 = .ok (.iload_n 1, 1) := by decide +kernel
theorem dX11_findPlan_17 : decode cX11_findPlan 17 = .ok (.iconst 1, 1) := by decide +kernel
theorem dX11_findPlan_18 : decode cX11_findPlan 18 = .ok (.iconst 2, 1) := by decide +kernel
theorem dX11_findPlan_19 : decode cX11_findPlan 19 = .ok (.aload_n 0, 1) := by decide +kernel
theorem dX11_findPlan_20 : decode cX11_findPlan 20 = .ok (.getfield 9, 3) := by decide +kernel
theorem dX11_findPlan_23 : decode cX11_findPlan 23 = .ok (.iconst 3, 1) := by decide +kernel
theorem dX11_findPlan_24 : decode cX11_findPlan 24 = .ok (.iaload, 1) := by decide +kernel
theorem dX11_findPlan_25 : decode cX11_findPlan 25 = .ok (.imul, 1) := by decide +kernel
theorem dX11_findPlan_26 : decode cX11_findPlan 26 = .ok (.ishl, 1) := by decide +kernel
theorem dX11_findPlan_27 : decode cX11_findPlan 27 = .ok (.if_icmp .ge 77, 3) := by decide +kernel
theorem dX11_findPlan_30 : decode cX11_findPlan 30 = .ok (.aload_n 0, 1) := by decide +kernel
theorem dX11_findPlan_31 : decode cX11_findPlan 31 = .ok (.iload_n 1, 1) := by decide +kernel
theorem dX11_findPlan_32 : decode cX11_findPlan 32 = .ok (.invokevirtual 168, 3) := by decide +kernel
theorem dX11_findPlan_35 : decode cX11_findPlan 35 = .ok (.istore_n 2, 1) := by decide +kernel
theorem dX11_findPlan_36 : decode cX11_findPlan 36 = .ok (.iload_n 2, 1) := by decide +kernel
theorem dX11_findPlan_37 : decode cX11_findPlan 37 = .ok (.ifCond .lt 61, 3) := by decide +kernel
theorem dX11_findPlan_40 : decode cX11_findPlan 40 = .ok (.aload_n 0, 1) := by decide +kernel
theorem dX11_findPlan_41 : decode cX11_findPlan 41 = .ok (.getfield 162, 3) := by decide +kernel
theorem dX11_findPlan_44 : decode cX11_findPlan 44 = .ok (.ifCond .lt 14, 3) := by decide +kernel
theorem dX11_findPlan_47 : decode cX11_findPlan 47 = .ok (.iload_n 2, 1) := by decide +kernel
theorem dX11_findPlan_48 : decode cX11_findPlan 48 = .ok (.aload_n 0, 1) := by decide +kernel
theorem dX11_findPlan_49 : decode cX11_findPlan 49 = .ok (.getfield 162, 3) := by decide +kernel
theorem dX11_findPlan_52 : decode cX11_findPlan 52 = .ok (.if_icmp .le 6, 3) := by decide +kernel
theorem dX11_findPlan_55 : decode cX11_findPlan 55 = .ok (.goto 43, 3) := by decide +kernel
theorem dX11_findPlan_58 : decode cX11_findPlan 58 = .ok (.aload_n 0, 1) := by decide +kernel
theorem dX11_findPlan_59 : decode cX11_findPlan 59 = .ok (.getfield 162, 3) := by decide +kernel
theorem dX11_findPlan_62 : decode cX11_findPlan 62 = .ok (.ifCond .lt 11, 3) := by decide +kernel
theorem dX11_findPlan_65 : decode cX11_findPlan 65 = .ok (.iload_n 2, 1) := by decide +kernel
theorem dX11_findPlan_66 : decode cX11_findPlan 66 = .ok (.aload_n 0, 1) := by decide +kernel
theorem dX11_findPlan_67 : decode cX11_findPlan 67 = .ok (.getfield 162, 3) := by decide +kernel
theorem dX11_findPlan_70 : decode cX11_findPlan 70 = .ok (.if_icmp .ge 18, 3) := by decide +kernel
theorem dX11_findPlan_73 : decode cX11_findPlan 73 = .ok (.aload_n 0, 1) := by decide +kernel
theorem dX11_findPlan_74 : decode cX11_findPlan 74 = .ok (.iload_n 2, 1) := by decide +kernel
theorem dX11_findPlan_75 : decode cX11_findPlan 75 = .ok (.putfield 162, 3) := by decide +kernel
theorem dX11_findPlan_78 : decode cX11_findPlan 78 = .ok (.aload_n 0, 1) := by decide +kernel
theorem dX11_findPlan_79 : decode cX11_findPlan 79 = .ok (.iload_n 1, 1) := by decide +kernel
theorem dX11_findPlan_80 : decode cX11_findPlan 80 = .ok (.putfield 171, 3) := by decide +kernel
theorem dX11_findPlan_83 : decode cX11_findPlan 83 = .ok (.aload_n 0, 1) := by decide +kernel
theorem dX11_findPlan_84 : decode cX11_findPlan 84 = .ok (.iconst 0, 1) := by decide +kernel
theorem dX11_findPlan_85 : decode cX11_findPlan 85 = .ok (.putfield 165, 3) := by decide +kernel
theorem dX11_findPlan_88 : decode cX11_findPlan 88 = .ok (.aload_n 0, 1) := by decide +kernel
theorem dX11_findPlan_89 : decode cX11_findPlan 89 = .ok (.dup, 1) := by decide +kernel
theorem dX11_findPlan_90 : decode cX11_findPlan 90 = .ok (.getfield 165, 3) := by decide +kernel
theorem dX11_findPlan_93 : decode cX11_findPlan 93 = .ok (.iconst 1, 1) := by decide +kernel
theorem dX11_findPlan_94 : decode cX11_findPlan 94 = .ok (.iadd, 1) := by decide +kernel
theorem dX11_findPlan_95 : decode cX11_findPlan 95 = .ok (.putfield 165, 3) := by decide +kernel
theorem dX11_findPlan_98 : decode cX11_findPlan 98 = .ok (.iinc 1 1, 3) := by decide +kernel
theorem dX11_findPlan_101 : decode cX11_findPlan 101 = .ok (.goto (-85), 3) := by decide +kernel
theorem dX11_findPlan_104 : decode cX11_findPlan 104 = .ok (.return_, 1) := by decide +kernel
theorem dX11_plan_0 : decode cX11_plan 0 = .ok (.aload_n 0, 1) := by decide +kernel
theorem dX11_plan_1 : decode cX11_plan 1 = .ok (.invokevirtual 174, 3) := by decide +kernel
theorem dX11_plan_4 : decode cX11_plan 4 = .ok (.aload_n 0, 1) := by decide +kernel
theorem dX11_plan_5 : decode cX11_plan 5 = .ok (.getfield 162, 3) := by decide +kernel
theorem dX11_plan_8 : decode cX11_plan 8 = .ok (.ifCond .ge 12, 3) := by decide +kernel
theorem dX11_plan_11 : decode cX11_plan 11 = .ok (.aload_n 0, 1) := by decide +kernel
theorem dX11_plan_12 : decode cX11_plan 12 = .ok (.ldc 67, 2) := by decide +kernel
theorem dX11_plan_14 : decode cX11_plan 14 = .ok (.invokevirtual 68, 3) := by decide +kernel
theorem dX11_plan_17 : decode cX11_plan 17 = .ok (.goto 7, 3) := by decide +kernel
theorem dX11_plan_20 : decode cX11_plan 20 = .ok (.aload_n 0, 1) := by decide +kernel
theorem dX11_plan_21 : decode cX11_plan 21 = .ok (.getfield 162, 3) := by decide +kernel
theorem dX11_plan_24 : decode cX11_plan 24 = .ok (.ireturn, 1) := by decide +kernel
theorem dX11_planned_0 : decode cX11_planned 0 = .ok (.iload_n 1, 1) := by decide +kernel
theorem dX11_planned_1 : decode cX11_planned 1 = .ok (.iconst 0, 1) := by decide +kernel
theorem dX11_planned_2 : decode cX11_planned 2 = .ok (.aload_n 0, 1) := by decide +kernel
theorem dX11_planned_3 : decode cX11_planned 3 = .ok (.getfield 9, 3) := by decide +kernel
theorem dX11_planned_6 : decode cX11_planned 6 = .ok (.iconst 3, 1) := by decide +kernel
theorem dX11_planned_7 : decode cX11_planned 7 = .ok (.iaload, 1) := by decide +kernel
theorem dX11_planned_8 : decode cX11_planned 8 = .ok (.iconst 1, 1) := by decide +kernel
theorem dX11_planned_9 : decode cX11_planned 9 = .ok (.isub, 1) := by decide +kernel
theorem dX11_planned_10 : decode cX11_planned 10 = .ok (.invokestatic 60, 3) := by decide +kernel
theorem dX11_planned_13 : decode cX11_planned 13 = .ok (.ifCond .ne 10, 3) := by decide +kernel
theorem dX11_planned_16 : decode cX11_planned 16 = .ok (.aload_n 0, 1) := by decide +kernel
theorem dX11_planned_17 : decode cX11_planned 17 = .ok (.ldc 72, 2) := by decide +kernel
theorem dX11_planned_19 : decode cX11_planned 19 = .ok (.invokevirtual 68, 3) := by decide +kernel
theorem dX11_planned_22 : decode cX11_planned 22 = .ok (.ireturn, 1) := by decide +kernel
theorem dX11_planned_23 : decode cX11_planned 23 = .ok (.aload_n 0, 1) := by decide +kernel
theorem dX11_planned_24 : decode cX11_planned 24 = .ok (.invokevirtual 174, 3) := by decide +kernel
theorem dX11_planned_27 : decode cX11_planned 27 = .ok (.aload_n 0, 1) := by decide +kernel
theorem dX11_planned_28 : decode cX11_planned 28 = .ok (.getfield 162, 3) := by decide +kernel
theorem dX11_planned_31 : decode cX11_planned 31 = .ok (.ifCond .ge 12, 3) := by decide +kernel
theorem dX11_planned_34 : decode cX11_planned 34 = .ok (.aload_n 0, 1) := by decide +kernel
theorem dX11_planned_35 : decode cX11_planned 35 = .ok (.ldc 67, 2) := by decide +kernel
theorem dX11_planned_37 : decode cX11_planned 37 = .ok (.invokevirtual 68, 3) := by decide +kernel
theorem dX11_planned_40 : decode cX11_planned 40 = .ok (.goto 22, 3) := by decide +kernel
theorem dX11_planned_43 : decode cX11_planned 43 = .ok (.aload_n 0, 1) := by decide +kernel
theorem dX11_planned_44 : decode cX11_planned 44 = .ok (.getfield 171, 3) := by decide +kernel
theorem dX11_planned_47 : decode cX11_planned 47 = .ok (.iconst 2, 1) := by decide +kernel
theorem dX11_planned_48 : decode cX11_planned 48 = .ok (.aload_n 0, 1) := by decide +kernel
theorem dX11_planned_49 : decode cX11_planned 49 = .ok (.getfield 9, 3) := by decide +kernel
theorem dX11_planned_52 : decode cX11_planned 52 = .ok (.iconst 3, 1) := by decide +kernel
theorem dX11_planned_53 : decode cX11_planned 53 = .ok (.iaload, 1) := by decide +kernel
theorem dX11_planned_54 : decode cX11_planned 54 = .ok (.iconst 1, 1) := by decide +kernel
theorem dX11_planned_55 : decode cX11_planned 55 = .ok (.isub, 1) := by decide +kernel
theorem dX11_planned_56 : decode cX11_planned 56 = .ok (.iload_n 1, 1) := by decide +kernel
theorem dX11_planned_57 : decode cX11_planned 57 = .ok (.isub, 1) := by decide +kernel
theorem dX11_planned_58 : decode cX11_planned 58 = .ok (.imul, 1) := by decide +kernel
theorem dX11_planned_59 : decode cX11_planned 59 = .ok (.ishr, 1) := by decide +kernel
theorem dX11_planned_60 : decode cX11_planned 60 = .ok (.iconst 3, 1) := by decide +kernel
theorem dX11_planned_61 : decode cX11_planned 61 = .ok (.iand, 1) := by decide +kernel
theorem dX11_planned_62 : decode cX11_planned 62 = .ok (.ireturn, 1) := by decide +kernel
theorem dX11_plans_0 : decode cX11_plans 0 = .ok (.aload_n 0, 1) := by decide +kernel
theorem dX11_plans_1 : decode cX11_plans 1 = .ok (.invokevirtual 174, 3) := by decide +kernel
theorem dX11_plans_4 : decode cX11_plans 4 = .ok (.aload_n 0, 1) := by decide +kernel
theorem dX11_plans_5 : decode cX11_plans 5 = .ok (.getfield 165, 3) := by decide +kernel
theorem dX11_plans_8 : decode cX11_plans 8 = .ok (.ireturn, 1) := by decide +kernel
theorem dX11_shapeIn_0 : decode cX11_shapeIn 0 = .ok (.lload_n 0, 1) := by decide +kernel
theorem dX11_shapeIn_1 : decode cX11_shapeIn 1 = .ok (.iconst 2, 1) := by decide +kernel
theorem dX11_shapeIn_2 : decode cX11_shapeIn 2 = .ok (.iload_n 2, 1) := by decide +kernel
theorem dX11_shapeIn_3 : decode cX11_shapeIn 3 = .ok (.imul, 1) := by decide +kernel
theorem dX11_shapeIn_4 : decode cX11_shapeIn 4 = .ok (.lshr, 1) := by decide +kernel
theorem dX11_shapeIn_5 : decode cX11_shapeIn 5 = .ok (.ldc2_w 81, 3) := by decide +kernel
theorem dX11_shapeIn_8 : decode cX11_shapeIn 8 = .ok (.land, 1) := by decide +kernel
theorem dX11_shapeIn_9 : decode cX11_shapeIn 9 = .ok (.l2i, 1) := by decide +kernel
theorem dX11_shapeIn_10 : decode cX11_shapeIn 10 = .ok (.ireturn, 1) := by decide +kernel
theorem dX11_keptOf_0 : decode cX11_keptOf 0 = .ok (.iconst 0, 1) := by decide +kernel
theorem dX11_keptOf_1 : decode cX11_keptOf 1 = .ok (.istore 7, 2) := by decide +kernel
theorem dX11_keptOf_3 : decode cX11_keptOf 3 = .ok (.iload 7, 2) := by decide +kernel
theorem dX11_keptOf_5 : decode cX11_keptOf 5 = .ok (.iload_n 3, 1) := by decide +kernel
theorem dX11_keptOf_6 : decode cX11_keptOf 6 = .ok (.if_icmp .gt 135, 3) := by decide +kernel
theorem dX11_keptOf_9 : decode cX11_keptOf 9 = .ok (.iconst 0, 1) := by decide +kernel
theorem dX11_keptOf_10 : decode cX11_keptOf 10 = .ok (.istore 8, 2) := by decide +kernel
theorem dX11_keptOf_12 : decode cX11_keptOf 12 = .ok (.iload 8, 2) := by decide +kernel
theorem dX11_keptOf_14 : decode cX11_keptOf 14 = .ok (.iload 6, 2) := by decide +kernel
theorem dX11_keptOf_16 : decode cX11_keptOf 16 = .ok (.if_icmp .gt 119, 3) := by decide +kernel
theorem dX11_keptOf_19 : decode cX11_keptOf 19 = .ok (.iconst 0, 1) := by decide +kernel
theorem dX11_keptOf_20 : decode cX11_keptOf 20 = .ok (.istore 9, 2) := by decide +kernel
theorem dX11_keptOf_22 : decode cX11_keptOf 22 = .ok (.iload 7, 2) := by decide +kernel
theorem dX11_keptOf_24 : decode cX11_keptOf 24 = .ok (.ifCond .le 90, 3) := by decide +kernel
theorem dX11_keptOf_27 : decode cX11_keptOf 27 = .ok (.iload 8, 2) := by decide +kernel
theorem dX11_keptOf_29 : decode cX11_keptOf 29 = .ok (.ifCond .le 85, 3) := by decide +kernel
theorem dX11_keptOf_32 : decode cX11_keptOf 32 = .ok (.bipush 25, 2) := by decide +kernel
theorem dX11_keptOf_34 : decode cX11_keptOf 34 = .ok (.iload 7, 2) := by decide +kernel
theorem dX11_keptOf_36 : decode cX11_keptOf 36 = .ok (.imul, 1) := by decide +kernel
theorem dX11_keptOf_37 : decode cX11_keptOf 37 = .ok (.iload 8, 2) := by decide +kernel
theorem dX11_keptOf_39 : decode cX11_keptOf 39 = .ok (.iadd, 1) := by decide +kernel
theorem dX11_keptOf_40 : decode cX11_keptOf 40 = .ok (.istore 10, 2) := by decide +kernel
theorem dX11_keptOf_42 : decode cX11_keptOf 42 = .ok (.aload_n 0, 1) := by decide +kernel
theorem dX11_keptOf_43 : decode cX11_keptOf 43 = .ok (.getfield 50, 3) := by decide +kernel
theorem dX11_keptOf_46 : decode cX11_keptOf 46 = .ok (.iload 10, 2) := by decide +kernel
theorem dX11_keptOf_48 : decode cX11_keptOf 48 = .ok (.iconst 1, 1) := by decide +kernel
theorem dX11_keptOf_49 : decode cX11_keptOf 49 = .ok (.isub, 1) := by decide +kernel
theorem dX11_keptOf_50 : decode cX11_keptOf 50 = .ok (.iaload, 1) := by decide +kernel
theorem dX11_keptOf_51 : decode cX11_keptOf 51 = .ok (.aload_n 0, 1) := by decide +kernel
theorem dX11_keptOf_52 : decode cX11_keptOf 52 = .ok (.getfield 50, 3) := by decide +kernel
theorem dX11_keptOf_55 : decode cX11_keptOf 55 = .ok (.iload 10, 2) := by decide +kernel
theorem dX11_keptOf_57 : decode cX11_keptOf 57 = .ok (.bipush 24, 2) := by decide +kernel
theorem dX11_keptOf_59 : decode cX11_keptOf 59 = .ok (.isub, 1) := by decide +kernel
theorem dX11_keptOf_60 : decode cX11_keptOf 60 = .ok (.iconst 1, 1) := by decide +kernel
theorem dX11_keptOf_61 : decode cX11_keptOf 61 = .ok (.isub, 1) := by decide +kernel
theorem dX11_keptOf_62 : decode cX11_keptOf 62 = .ok (.iaload, 1) := by decide +kernel
theorem dX11_keptOf_63 : decode cX11_keptOf 63 = .ok (.invokestatic 177, 3) := by decide +kernel
theorem dX11_keptOf_66 : decode cX11_keptOf 66 = .ok (.istore 9, 2) := by decide +kernel
theorem dX11_keptOf_68 : decode cX11_keptOf 68 = .ok (.lload_n 1, 1) := by decide +kernel
theorem dX11_keptOf_69 : decode cX11_keptOf 69 = .ok (.iload 7, 2) := by decide +kernel
theorem dX11_keptOf_71 : decode cX11_keptOf 71 = .ok (.iconst 1, 1) := by decide +kernel
theorem dX11_keptOf_72 : decode cX11_keptOf 72 = .ok (.isub, 1) := by decide +kernel
theorem dX11_keptOf_73 : decode cX11_keptOf 73 = .ok (.invokestatic 180, 3) := by decide +kernel
theorem dX11_keptOf_76 : decode cX11_keptOf 76 = .ok (.lload 4, 2) := by decide +kernel
theorem dX11_keptOf_78 : decode cX11_keptOf 78 = .ok (.iload 8, 2) := by decide +kernel
theorem dX11_keptOf_80 : decode cX11_keptOf 80 = .ok (.iconst 1, 1) := by decide +kernel
theorem dX11_keptOf_81 : decode cX11_keptOf 81 = .ok (.isub, 1) := by decide +kernel
theorem dX11_keptOf_82 : decode cX11_keptOf 82 = .ok (.invokestatic 180, 3) := by decide +kernel
theorem dX11_keptOf_85 : decode cX11_keptOf 85 = .ok (.if_icmp .ne 25, 3) := by decide +kernel
theorem dX11_keptOf_88 : decode cX11_keptOf 88 = .ok (.iload 9, 2) := by decide +kernel
theorem dX11_keptOf_90 : decode cX11_keptOf 90 = .ok (.aload_n 0, 1) := by decide +kernel
theorem dX11_keptOf_91 : decode cX11_keptOf 91 = .ok (.getfield 50, 3) := by decide +kernel
theorem dX11_keptOf_94 : decode cX11_keptOf 94 = .ok (.iload 10, 2) := by decide +kernel
theorem dX11_keptOf_96 : decode cX11_keptOf 96 = .ok (.bipush 24, 2) := by decide +kernel
theorem dX11_keptOf_98 : decode cX11_keptOf 98 = .ok (.isub, 1) := by decide +kernel
theorem dX11_keptOf_99 : decode cX11_keptOf 99 = .ok (.iconst 2, 1) := by decide +kernel
theorem dX11_keptOf_100 : decode cX11_keptOf 100 = .ok (.isub, 1) := by decide +kernel
theorem dX11_keptOf_101 : decode cX11_keptOf 101 = .ok (.iaload, 1) := by decide +kernel
theorem dX11_keptOf_102 : decode cX11_keptOf 102 = .ok (.iconst 1, 1) := by decide +kernel
theorem dX11_keptOf_103 : decode cX11_keptOf 103 = .ok (.iadd, 1) := by decide +kernel
theorem dX11_keptOf_104 : decode cX11_keptOf 104 = .ok (.invokestatic 177, 3) := by decide +kernel
theorem dX11_keptOf_107 : decode cX11_keptOf 107 = .ok (.goto 5, 3) := by decide +kernel
theorem dX11_keptOf_110 : decode cX11_keptOf 110 = .ok (.iload 9, 2) := by decide +kernel
theorem dX11_keptOf_112 : decode cX11_keptOf 112 = .ok (.istore 9, 2) := by decide +kernel
theorem dX11_keptOf_114 : decode cX11_keptOf 114 = .ok (.aload_n 0, 1) := by decide +kernel
theorem dX11_keptOf_115 : decode cX11_keptOf 115 = .ok (.getfield 50, 3) := by decide +kernel
theorem dX11_keptOf_118 : decode cX11_keptOf 118 = .ok (.bipush 25, 2) := by decide +kernel
theorem dX11_keptOf_120 : decode cX11_keptOf 120 = .ok (.iload 7, 2) := by decide +kernel
theorem dX11_keptOf_122 : decode cX11_keptOf 122 = .ok (.imul, 1) := by decide +kernel
theorem dX11_keptOf_123 : decode cX11_keptOf 123 = .ok (.iload 8, 2) := by decide +kernel
theorem dX11_keptOf_125 : decode cX11_keptOf 125 = .ok (.iadd, 1) := by decide +kernel
theorem dX11_keptOf_126 : decode cX11_keptOf 126 = .ok (.iload 9, 2) := by decide +kernel
theorem dX11_keptOf_128 : decode cX11_keptOf 128 = .ok (.iastore, 1) := by decide +kernel
theorem dX11_keptOf_129 : decode cX11_keptOf 129 = .ok (.iinc 8 1, 3) := by decide +kernel
theorem dX11_keptOf_132 : decode cX11_keptOf 132 = .ok (.goto (-120), 3) := by decide +kernel
theorem dX11_keptOf_135 : decode cX11_keptOf 135 = .ok (.iinc 7 1, 3) := by decide +kernel
theorem dX11_keptOf_138 : decode cX11_keptOf 138 = .ok (.goto (-135), 3) := by decide +kernel
theorem dX11_keptOf_141 : decode cX11_keptOf 141 = .ok (.aload_n 0, 1) := by decide +kernel
theorem dX11_keptOf_142 : decode cX11_keptOf 142 = .ok (.getfield 50, 3) := by decide +kernel
theorem dX11_keptOf_145 : decode cX11_keptOf 145 = .ok (.bipush 25, 2) := by decide +kernel
theorem dX11_keptOf_147 : decode cX11_keptOf 147 = .ok (.iload_n 3, 1) := by decide +kernel
theorem dX11_keptOf_148 : decode cX11_keptOf 148 = .ok (.imul, 1) := by decide +kernel
theorem dX11_keptOf_149 : decode cX11_keptOf 149 = .ok (.iload 6, 2) := by decide +kernel
theorem dX11_keptOf_151 : decode cX11_keptOf 151 = .ok (.iadd, 1) := by decide +kernel
theorem dX11_keptOf_152 : decode cX11_keptOf 152 = .ok (.iaload, 1) := by decide +kernel
theorem dX11_keptOf_153 : decode cX11_keptOf 153 = .ok (.ireturn, 1) := by decide +kernel
theorem dX11_change_0 : decode cX11_change 0 = .ok (.aload_n 0, 1) := by decide +kernel
theorem dX11_change_1 : decode cX11_change 1 = .ok (.iload_n 1, 1) := by decide +kernel
theorem dX11_change_2 : decode cX11_change 2 = .ok (.invokevirtual 77, 3) := by decide +kernel
theorem dX11_change_5 : decode cX11_change 5 = .ok (.ifCond .eq 10, 3) := by decide +kernel
theorem dX11_change_8 : decode cX11_change 8 = .ok (.iload_n 2, 1) := by decide +kernel
theorem dX11_change_9 : decode cX11_change 9 = .ok (.invokestatic 184, 3) := by decide +kernel
theorem dX11_change_12 : decode cX11_change 12 = .ok (.ifCond .ne 10, 3) := by decide +kernel
theorem dX11_change_15 : decode cX11_change 15 = .ok (.aload_n 0, 1) := by decide +kernel
theorem dX11_change_16 : decode cX11_change 16 = .ok (.ldc 72, 2) := by decide +kernel
theorem dX11_change_18 : decode cX11_change 18 = .ok (.invokevirtual 68, 3) := by decide +kernel
theorem dX11_change_21 : decode cX11_change 21 = .ok (.ireturn, 1) := by decide +kernel
theorem dX11_change_22 : decode cX11_change 22 = .ok (.aload_n 0, 1) := by decide +kernel
theorem dX11_change_23 : decode cX11_change 23 = .ok (.getfield 23, 3) := by decide +kernel
theorem dX11_change_26 : decode cX11_change 26 = .ok (.iload_n 2, 1) := by decide +kernel
theorem dX11_change_27 : decode cX11_change 27 = .ok (.iaload, 1) := by decide +kernel
theorem dX11_change_28 : decode cX11_change 28 = .ok (.ifCond .ne 10, 3) := by decide +kernel
theorem dX11_change_31 : decode cX11_change 31 = .ok (.aload_n 0, 1) := by decide +kernel
theorem dX11_change_32 : decode cX11_change 32 = .ok (.ldc 187, 2) := by decide +kernel
theorem dX11_change_34 : decode cX11_change 34 = .ok (.invokevirtual 68, 3) := by decide +kernel
theorem dX11_change_37 : decode cX11_change 37 = .ok (.ireturn, 1) := by decide +kernel
theorem dX11_change_38 : decode cX11_change 38 = .ok (.aload_n 0, 1) := by decide +kernel
theorem dX11_change_39 : decode cX11_change 39 = .ok (.getfield 26, 3) := by decide +kernel
theorem dX11_change_42 : decode cX11_change 42 = .ok (.iload_n 2, 1) := by decide +kernel
theorem dX11_change_43 : decode cX11_change 43 = .ok (.iaload, 1) := by decide +kernel
theorem dX11_change_44 : decode cX11_change 44 = .ok (.bipush 24, 2) := by decide +kernel
theorem dX11_change_46 : decode cX11_change 46 = .ok (.if_icmp .le 10, 3) := by decide +kernel
theorem dX11_change_49 : decode cX11_change 49 = .ok (.aload_n 0, 1) := by decide +kernel
theorem dX11_change_50 : decode cX11_change 50 = .ok (.ldc 92, 2) := by decide +kernel
theorem dX11_change_52 : decode cX11_change 52 = .ok (.invokevirtual 68, 3) := by decide +kernel
theorem dX11_change_55 : decode cX11_change 55 = .ok (.ireturn, 1) := by decide +kernel
theorem dX11_change_56 : decode cX11_change 56 = .ok (.aload_n 0, 1) := by decide +kernel
theorem dX11_change_57 : decode cX11_change 57 = .ok (.invokevirtual 74, 3) := by decide +kernel
theorem dX11_change_60 : decode cX11_change 60 = .ok (.lconst 0, 1) := by decide +kernel
theorem dX11_change_61 : decode cX11_change 61 = .ok (.lstore_n 3, 1) := by decide +kernel
theorem dX11_change_62 : decode cX11_change 62 = .ok (.iconst 0, 1) := by decide +kernel
theorem dX11_change_63 : decode cX11_change 63 = .ok (.istore 5, 2) := by decide +kernel
theorem dX11_change_65 : decode cX11_change 65 = .ok (.iload 5, 2) := by decide +kernel
theorem dX11_change_67 : decode cX11_change 67 = .ok (.aload_n 0, 1) := by decide +kernel
theorem dX11_change_68 : decode cX11_change 68 = .ok (.getfield 26, 3) := by decide +kernel
theorem dX11_change_71 : decode cX11_change 71 = .ok (.iload_n 2, 1) := by decide +kernel
theorem dX11_change_72 : decode cX11_change 72 = .ok (.iaload, 1) := by decide +kernel
theorem dX11_change_73 : decode cX11_change 73 = .ok (.if_icmp .ge 32, 3) := by decide +kernel
theorem dX11_change_76 : decode cX11_change 76 = .ok (.lload_n 3, 1) := by decide +kernel
theorem dX11_change_77 : decode cX11_change 77 = .ok (.aload_n 0, 1) := by decide +kernel
theorem dX11_change_78 : decode cX11_change 78 = .ok (.getfield 29, 3) := by decide +kernel
theorem dX11_change_81 : decode cX11_change 81 = .ok (.bipush 30, 2) := by decide +kernel
theorem dX11_change_83 : decode cX11_change 83 = .ok (.iload_n 2, 1) := by decide +kernel
theorem dX11_change_84 : decode cX11_change 84 = .ok (.imul, 1) := by decide +kernel
theorem dX11_change_85 : decode cX11_change 85 = .ok (.iload 5, 2) := by decide +kernel
theorem dX11_change_87 : decode cX11_change 87 = .ok (.iadd, 1) := by decide +kernel
theorem dX11_change_88 : decode cX11_change 88 = .ok (.iaload, 1) := by decide +kernel
theorem dX11_change_89 : decode cX11_change 89 = .ok (.iconst 3, 1) := by decide +kernel
theorem dX11_change_90 : decode cX11_change 90 = .ok (.iand, 1) := by decide +kernel
theorem dX11_change_91 : decode cX11_change 91 = .ok (.i2l, 1) := by decide +kernel
theorem dX11_change_92 : decode cX11_change 92 = .ok (.iconst 2, 1) := by decide +kernel
theorem dX11_change_93 : decode cX11_change 93 = .ok (.iload 5, 2) := by decide +kernel
theorem dX11_change_95 : decode cX11_change 95 = .ok (.imul, 1) := by decide +kernel
theorem dX11_change_96 : decode cX11_change 96 = .ok (.lshl, 1) := by decide +kernel
theorem dX11_change_97 : decode cX11_change 97 = .ok (.lor, 1) := by decide +kernel
theorem dX11_change_98 : decode cX11_change 98 = .ok (.lstore_n 3, 1) := by decide +kernel
theorem dX11_change_99 : decode cX11_change 99 = .ok (.iinc 5 1, 3) := by decide +kernel
theorem dX11_change_102 : decode cX11_change 102 = .ok (.goto (-37), 3) := by decide +kernel
theorem dX11_change_105 : decode cX11_change 105 = .ok (.aload_n 0, 1) := by decide +kernel
theorem dX11_change_106 : decode cX11_change 106 = .ok (.aload_n 0, 1) := by decide +kernel
theorem dX11_change_107 : decode cX11_change 107 = .ok (.getfield 13, 3) := by decide +kernel
theorem dX11_change_110 : decode cX11_change 110 = .ok (.iload_n 1, 1) := by decide +kernel
theorem dX11_change_111 : decode cX11_change 111 = .ok (.laload, 1) := by decide +kernel
theorem dX11_change_112 : decode cX11_change 112 = .ok (.aload_n 0, 1) := by decide +kernel
theorem dX11_change_113 : decode cX11_change 113 = .ok (.getfield 9, 3) := by decide +kernel
theorem dX11_change_116 : decode cX11_change 116 = .ok (.bipush 16, 2) := by decide +kernel
theorem dX11_change_118 : decode cX11_change 118 = .ok (.iload_n 1, 1) := by decide +kernel
theorem dX11_change_119 : decode cX11_change 119 = .ok (.iadd, 1) := by decide +kernel
theorem dX11_change_120 : decode cX11_change 120 = .ok (.iaload, 1) := by decide +kernel
theorem dX11_change_121 : decode cX11_change 121 = .ok (.lload_n 3, 1) := by decide +kernel
theorem dX11_change_122 : decode cX11_change 122 = .ok (.aload_n 0, 1) := by decide +kernel
theorem dX11_change_123 : decode cX11_change 123 = .ok (.getfield 26, 3) := by decide +kernel
theorem dX11_change_126 : decode cX11_change 126 = .ok (.iload_n 2, 1) := by decide +kernel
theorem dX11_change_127 : decode cX11_change 127 = .ok (.iaload, 1) := by decide +kernel
theorem dX11_change_128 : decode cX11_change 128 = .ok (.invokevirtual 188, 3) := by decide +kernel
theorem dX11_change_131 : decode cX11_change 131 = .ok (.istore 5, 2) := by decide +kernel
theorem dX11_change_133 : decode cX11_change 133 = .ok (.aload_n 0, 1) := by decide +kernel
theorem dX11_change_134 : decode cX11_change 134 = .ok (.getfield 13, 3) := by decide +kernel
theorem dX11_change_137 : decode cX11_change 137 = .ok (.iload_n 1, 1) := by decide +kernel
theorem dX11_change_138 : decode cX11_change 138 = .ok (.lload_n 3, 1) := by decide +kernel
theorem dX11_change_139 : decode cX11_change 139 = .ok (.lastore, 1) := by decide +kernel
theorem dX11_change_140 : decode cX11_change 140 = .ok (.aload_n 0, 1) := by decide +kernel
theorem dX11_change_141 : decode cX11_change 141 = .ok (.getfield 9, 3) := by decide +kernel
theorem dX11_change_144 : decode cX11_change 144 = .ok (.bipush 16, 2) := by decide +kernel
theorem dX11_change_146 : decode cX11_change 146 = .ok (.iload_n 1, 1) := by decide +kernel
theorem dX11_change_147 : decode cX11_change 147 = .ok (.iadd, 1) := by decide +kernel
theorem dX11_change_148 : decode cX11_change 148 = .ok (.aload_n 0, 1) := by decide +kernel
theorem dX11_change_149 : decode cX11_change 149 = .ok (.getfield 26, 3) := by decide +kernel
theorem dX11_change_152 : decode cX11_change 152 = .ok (.iload_n 2, 1) := by decide +kernel
theorem dX11_change_153 : decode cX11_change 153 = .ok (.iaload, 1) := by decide +kernel
theorem dX11_change_154 : decode cX11_change 154 = .ok (.iastore, 1) := by decide +kernel
theorem dX11_change_155 : decode cX11_change 155 = .ok (.iload 5, 2) := by decide +kernel
theorem dX11_change_157 : decode cX11_change 157 = .ok (.ireturn, 1) := by decide +kernel
theorem dX11_kept_0 : decode cX11_kept 0 = .ok (.aload_n 0, 1) := by decide +kernel
theorem dX11_kept_1 : decode cX11_kept 1 = .ok (.iload_n 1, 1) := by decide +kernel
theorem dX11_kept_2 : decode cX11_kept 2 = .ok (.invokevirtual 77, 3) := by decide +kernel
theorem dX11_kept_5 : decode cX11_kept 5 = .ok (.ifCond .eq 11, 3) := by decide +kernel
theorem dX11_kept_8 : decode cX11_kept 8 = .ok (.aload_n 0, 1) := by decide +kernel
theorem dX11_kept_9 : decode cX11_kept 9 = .ok (.iload_n 2, 1) := by decide +kernel
theorem dX11_kept_10 : decode cX11_kept 10 = .ok (.invokevirtual 77, 3) := by decide +kernel
theorem dX11_kept_13 : decode cX11_kept 13 = .ok (.ifCond .ne 10, 3) := by decide +kernel
theorem dX11_kept_16 : decode cX11_kept 16 = .ok (.aload_n 0, 1) := by decide +kernel
theorem dX11_kept_17 : decode cX11_kept 17 = .ok (.ldc 72, 2) := by decide +kernel
theorem dX11_kept_19 : decode cX11_kept 19 = .ok (.invokevirtual 68, 3) := by decide +kernel
theorem dX11_kept_22 : decode cX11_kept 22 = .ok (.ireturn, 1) := by decide +kernel
theorem dX11_kept_23 : decode cX11_kept 23 = .ok (.aload_n 0, 1) := by decide +kernel
theorem dX11_kept_24 : decode cX11_kept 24 = .ok (.aload_n 0, 1) := by decide +kernel
theorem dX11_kept_25 : decode cX11_kept 25 = .ok (.getfield 13, 3) := by decide +kernel
theorem dX11_kept_28 : decode cX11_kept 28 = .ok (.iload_n 1, 1) := by decide +kernel
theorem dX11_kept_29 : decode cX11_kept 29 = .ok (.laload, 1) := by decide +kernel
theorem dX11_kept_30 : decode cX11_kept 30 = .ok (.aload_n 0, 1) := by decide +kernel
theorem dX11_kept_31 : decode cX11_kept 31 = .ok (.getfield 9, 3) := by decide +kernel
theorem dX11_kept_34 : decode cX11_kept 34 = .ok (.bipush 16, 2) := by decide +kernel
theorem dX11_kept_36 : decode cX11_kept 36 = .ok (.iload_n 1, 1) := by decide +kernel
theorem dX11_kept_37 : decode cX11_kept 37 = .ok (.iadd, 1) := by decide +kernel
theorem dX11_kept_38 : decode cX11_kept 38 = .ok (.iaload, 1) := by decide +kernel
theorem dX11_kept_39 : decode cX11_kept 39 = .ok (.aload_n 0, 1) := by decide +kernel
theorem dX11_kept_40 : decode cX11_kept 40 = .ok (.getfield 13, 3) := by decide +kernel
theorem dX11_kept_43 : decode cX11_kept 43 = .ok (.iload_n 2, 1) := by decide +kernel
theorem dX11_kept_44 : decode cX11_kept 44 = .ok (.laload, 1) := by decide +kernel
theorem dX11_kept_45 : decode cX11_kept 45 = .ok (.aload_n 0, 1) := by decide +kernel
theorem dX11_kept_46 : decode cX11_kept 46 = .ok (.getfield 9, 3) := by decide +kernel
theorem dX11_kept_49 : decode cX11_kept 49 = .ok (.bipush 16, 2) := by decide +kernel
theorem dX11_kept_51 : decode cX11_kept 51 = .ok (.iload_n 2, 1) := by decide +kernel
theorem dX11_kept_52 : decode cX11_kept 52 = .ok (.iadd, 1) := by decide +kernel
theorem dX11_kept_53 : decode cX11_kept 53 = .ok (.iaload, 1) := by decide +kernel
theorem dX11_kept_54 : decode cX11_kept 54 = .ok (.invokevirtual 188, 3) := by decide +kernel
theorem dX11_kept_57 : decode cX11_kept 57 = .ok (.ireturn, 1) := by decide +kernel
theorem dX11_isSheet_0 : decode cX11_isSheet 0 = .ok (.iload_n 0, 1) := by decide +kernel
theorem dX11_isSheet_1 : decode cX11_isSheet 1 = .ok (.iconst 0, 1) := by decide +kernel
theorem dX11_isSheet_2 : decode cX11_isSheet 2 = .ok (.iconst 3, 1) := by decide +kernel
theorem dX11_isSheet_3 : decode cX11_isSheet 3 = .ok (.invokestatic 60, 3) := by decide +kernel
theorem dX11_isSheet_6 : decode cX11_isSheet 6 = .ok (.ireturn, 1) := by decide +kernel
theorem dX11_sheet_0 : decode cX11_sheet 0 = .ok (.iload_n 1, 1) := by decide +kernel
theorem dX11_sheet_1 : decode cX11_sheet 1 = .ok (.invokestatic 184, 3) := by decide +kernel
theorem dX11_sheet_4 : decode cX11_sheet 4 = .ok (.ifCond .eq 25, 3) := by decide +kernel
theorem dX11_sheet_7 : decode cX11_sheet 7 = .ok (.iload_n 2, 1) := by decide +kernel
theorem dX11_sheet_8 : decode cX11_sheet 8 = .ok (.ifCond .eq 28, 3) := by decide +kernel
theorem dX11_sheet_11 : decode cX11_sheet 11 = .ok (.iload_n 2, 1) := by decide +kernel
theorem dX11_sheet_12 : decode cX11_sheet 12 = .ok (.bipush 8, 2) := by decide +kernel
theorem dX11_sheet_14 : decode cX11_sheet 14 = .ok (.if_icmp .eq 22, 3) := by decide +kernel
theorem dX11_sheet_17 : decode cX11_sheet 17 = .ok (.iload_n 2, 1) := by decide +kernel
theorem dX11_sheet_18 : decode cX11_sheet 18 = .ok (.bipush 16, 2) := by decide +kernel
theorem dX11_sheet_20 : decode cX11_sheet 20 = .ok (.if_icmp .eq 16, 3) := by decide +kernel
theorem dX11_sheet_23 : decode cX11_sheet 23 = .ok (.iload_n 2, 1) := by decide +kernel
theorem dX11_sheet_24 : decode cX11_sheet 24 = .ok (.bipush 32, 2) := by decide +kernel
theorem dX11_sheet_26 : decode cX11_sheet 26 = .ok (.if_icmp .eq 10, 3) := by decide +kernel
theorem dX11_sheet_29 : decode cX11_sheet 29 = .ok (.aload_n 0, 1) := by decide +kernel
theorem dX11_sheet_30 : decode cX11_sheet 30 = .ok (.ldc 72, 2) := by decide +kernel
theorem dX11_sheet_32 : decode cX11_sheet 32 = .ok (.invokevirtual 68, 3) := by decide +kernel
theorem dX11_sheet_35 : decode cX11_sheet 35 = .ok (.ireturn, 1) := by decide +kernel
theorem dX11_sheet_36 : decode cX11_sheet 36 = .ok (.iload_n 3, 1) := by decide +kernel
theorem dX11_sheet_37 : decode cX11_sheet 37 = .ok (.ifCond .ge 10, 3) := by decide +kernel
theorem dX11_sheet_40 : decode cX11_sheet 40 = .ok (.aload_n 0, 1) := by decide +kernel
theorem dX11_sheet_41 : decode cX11_sheet 41 = .ok (.ldc 92, 2) := by decide +kernel
theorem dX11_sheet_43 : decode cX11_sheet 43 = .ok (.invokevirtual 68, 3) := by decide +kernel
theorem dX11_sheet_46 : decode cX11_sheet 46 = .ok (.ireturn, 1) := by decide +kernel
theorem dX11_sheet_47 : decode cX11_sheet 47 = .ok (.iload_n 3, 1) := by decide +kernel
theorem dX11_sheet_48 : decode cX11_sheet 48 = .ok (.bipush 30, 2) := by decide +kernel
theorem dX11_sheet_50 : decode cX11_sheet 50 = .ok (.if_icmp .le 10, 3) := by decide +kernel
theorem dX11_sheet_53 : decode cX11_sheet 53 = .ok (.aload_n 0, 1) := by decide +kernel
theorem dX11_sheet_54 : decode cX11_sheet 54 = .ok (.ldc 72, 2) := by decide +kernel
theorem dX11_sheet_56 : decode cX11_sheet 56 = .ok (.invokevirtual 68, 3) := by decide +kernel
theorem dX11_sheet_59 : decode cX11_sheet 59 = .ok (.ireturn, 1) := by decide +kernel
theorem dX11_sheet_60 : decode cX11_sheet 60 = .ok (.aload_n 0, 1) := by decide +kernel
theorem dX11_sheet_61 : decode cX11_sheet 61 = .ok (.getfield 23, 3) := by decide +kernel
theorem dX11_sheet_64 : decode cX11_sheet 64 = .ok (.iload_n 1, 1) := by decide +kernel
theorem dX11_sheet_65 : decode cX11_sheet 65 = .ok (.iload_n 2, 1) := by decide +kernel
theorem dX11_sheet_66 : decode cX11_sheet 66 = .ok (.iastore, 1) := by decide +kernel
theorem dX11_sheet_67 : decode cX11_sheet 67 = .ok (.aload_n 0, 1) := by decide +kernel
theorem dX11_sheet_68 : decode cX11_sheet 68 = .ok (.getfield 26, 3) := by decide +kernel
theorem dX11_sheet_71 : decode cX11_sheet 71 = .ok (.iload_n 1, 1) := by decide +kernel
theorem dX11_sheet_72 : decode cX11_sheet 72 = .ok (.iload_n 2, 1) := by decide +kernel
theorem dX11_sheet_73 : decode cX11_sheet 73 = .ok (.ifCond .ne 7, 3) := by decide +kernel
theorem dX11_sheet_76 : decode cX11_sheet 76 = .ok (.iconst 0, 1) := by decide +kernel
theorem dX11_sheet_77 : decode cX11_sheet 77 = .ok (.goto 4, 3) := by decide +kernel
theorem dX11_sheet_80 : decode cX11_sheet 80 = .ok (.iload_n 3, 1) := by decide +kernel
theorem dX11_sheet_81 : decode cX11_sheet 81 = .ok (.iastore, 1) := by decide +kernel
theorem dX11_sheet_82 : decode cX11_sheet 82 = .ok (.iconst 0, 1) := by decide +kernel
theorem dX11_sheet_83 : decode cX11_sheet 83 = .ok (.istore 4, 2) := by decide +kernel
theorem dX11_sheet_85 : decode cX11_sheet 85 = .ok (.iload 4, 2) := by decide +kernel
theorem dX11_sheet_87 : decode cX11_sheet 87 = .ok (.bipush 30, 2) := by decide +kernel
theorem dX11_sheet_89 : decode cX11_sheet 89 = .ok (.if_icmp .ge 22, 3) := by decide +kernel
theorem dX11_sheet_92 : decode cX11_sheet 92 = .ok (.aload_n 0, 1) := by decide +kernel
theorem dX11_sheet_93 : decode cX11_sheet 93 = .ok (.getfield 29, 3) := by decide +kernel
theorem dX11_sheet_96 : decode cX11_sheet 96 = .ok (.bipush 30, 2) := by decide +kernel
theorem dX11_sheet_98 : decode cX11_sheet 98 = .ok (.iload_n 1, 1) := by decide +kernel
theorem dX11_sheet_99 : decode cX11_sheet 99 = .ok (.imul, 1) := by decide +kernel
theorem dX11_sheet_100 : decode cX11_sheet 100 = .ok (.iload 4, 2) := by decide +kernel
theorem dX11_sheet_102 : decode cX11_sheet 102 = .ok (.iadd, 1) := by decide +kernel
theorem dX11_sheet_103 : decode cX11_sheet 103 = .ok (.iconst 0, 1) := by decide +kernel
theorem dX11_sheet_104 : decode cX11_sheet 104 = .ok (.iastore, 1) := by decide +kernel
theorem dX11_sheet_105 : decode cX11_sheet 105 = .ok (.iinc 4 1, 3) := by decide +kernel
theorem dX11_sheet_108 : decode cX11_sheet 108 = .ok (.goto (-23), 3) := by decide +kernel
theorem dX11_sheet_111 : decode cX11_sheet 111 = .ok (.aload_n 0, 1) := by decide +kernel
theorem dX11_sheet_112 : decode cX11_sheet 112 = .ok (.getfield 26, 3) := by decide +kernel
theorem dX11_sheet_115 : decode cX11_sheet 115 = .ok (.iload_n 1, 1) := by decide +kernel
theorem dX11_sheet_116 : decode cX11_sheet 116 = .ok (.iaload, 1) := by decide +kernel
theorem dX11_sheet_117 : decode cX11_sheet 117 = .ok (.ireturn, 1) := by decide +kernel
theorem dX11_put_0 : decode cX11_put 0 = .ok (.iload_n 1, 1) := by decide +kernel
theorem dX11_put_1 : decode cX11_put 1 = .ok (.invokestatic 184, 3) := by decide +kernel
theorem dX11_put_4 : decode cX11_put 4 = .ok (.ifCond .ne 10, 3) := by decide +kernel
theorem dX11_put_7 : decode cX11_put 7 = .ok (.aload_n 0, 1) := by decide +kernel
theorem dX11_put_8 : decode cX11_put 8 = .ok (.ldc 72, 2) := by decide +kernel
theorem dX11_put_10 : decode cX11_put 10 = .ok (.invokevirtual 68, 3) := by decide +kernel
theorem dX11_put_13 : decode cX11_put 13 = .ok (.ireturn, 1) := by decide +kernel
theorem dX11_put_14 : decode cX11_put 14 = .ok (.aload_n 0, 1) := by decide +kernel
theorem dX11_put_15 : decode cX11_put 15 = .ok (.getfield 23, 3) := by decide +kernel
theorem dX11_put_18 : decode cX11_put 18 = .ok (.iload_n 1, 1) := by decide +kernel
theorem dX11_put_19 : decode cX11_put 19 = .ok (.iaload, 1) := by decide +kernel
theorem dX11_put_20 : decode cX11_put 20 = .ok (.ifCond .ne 10, 3) := by decide +kernel
theorem dX11_put_23 : decode cX11_put 23 = .ok (.aload_n 0, 1) := by decide +kernel
theorem dX11_put_24 : decode cX11_put 24 = .ok (.ldc 187, 2) := by decide +kernel
theorem dX11_put_26 : decode cX11_put 26 = .ok (.invokevirtual 68, 3) := by decide +kernel
theorem dX11_put_29 : decode cX11_put 29 = .ok (.ireturn, 1) := by decide +kernel
theorem dX11_put_30 : decode cX11_put 30 = .ok (.iload_n 2, 1) := by decide +kernel
theorem dX11_put_31 : decode cX11_put 31 = .ok (.iconst 0, 1) := by decide +kernel
theorem dX11_put_32 : decode cX11_put 32 = .ok (.aload_n 0, 1) := by decide +kernel
theorem dX11_put_33 : decode cX11_put 33 = .ok (.getfield 26, 3) := by decide +kernel
theorem dX11_put_36 : decode cX11_put 36 = .ok (.iload_n 1, 1) := by decide +kernel
theorem dX11_put_37 : decode cX11_put 37 = .ok (.iaload, 1) := by decide +kernel
theorem dX11_put_38 : decode cX11_put 38 = .ok (.iconst 1, 1) := by decide +kernel
theorem dX11_put_39 : decode cX11_put 39 = .ok (.isub, 1) := by decide +kernel
theorem dX11_put_40 : decode cX11_put 40 = .ok (.invokestatic 60, 3) := by decide +kernel
theorem dX11_put_43 : decode cX11_put 43 = .ok (.ifCond .ne 10, 3) := by decide +kernel
theorem dX11_put_46 : decode cX11_put 46 = .ok (.aload_n 0, 1) := by decide +kernel
theorem dX11_put_47 : decode cX11_put 47 = .ok (.ldc 72, 2) := by decide +kernel
theorem dX11_put_49 : decode cX11_put 49 = .ok (.invokevirtual 68, 3) := by decide +kernel
theorem dX11_put_52 : decode cX11_put 52 = .ok (.ireturn, 1) := by decide +kernel
theorem dX11_put_53 : decode cX11_put 53 = .ok (.bipush 32, 2) := by decide +kernel
theorem dX11_put_55 : decode cX11_put 55 = .ok (.aload_n 0, 1) := by decide +kernel
theorem dX11_put_56 : decode cX11_put 56 = .ok (.getfield 23, 3) := by decide +kernel
theorem dX11_put_59 : decode cX11_put 59 = .ok (.iload_n 1, 1) := by decide +kernel
theorem dX11_put_60 : decode cX11_put 60 = .ok (.iaload, 1) := by decide +kernel
theorem dX11_put_61 : decode cX11_put 61 = .ok (.isub, 1) := by decide +kernel
theorem dX11_put_62 : decode cX11_put 62 = .ok (.istore 4, 2) := by decide +kernel
theorem dX11_put_64 : decode cX11_put 64 = .ok (.aload_n 0, 1) := by decide +kernel
theorem dX11_put_65 : decode cX11_put 65 = .ok (.getfield 29, 3) := by decide +kernel
theorem dX11_put_68 : decode cX11_put 68 = .ok (.bipush 30, 2) := by decide +kernel
theorem dX11_put_70 : decode cX11_put 70 = .ok (.iload_n 1, 1) := by decide +kernel
theorem dX11_put_71 : decode cX11_put 71 = .ok (.imul, 1) := by decide +kernel
theorem dX11_put_72 : decode cX11_put 72 = .ok (.iload_n 2, 1) := by decide +kernel
theorem dX11_put_73 : decode cX11_put 73 = .ok (.iadd, 1) := by decide +kernel
theorem dX11_put_74 : decode cX11_put 74 = .ok (.iload_n 3, 1) := by decide +kernel
theorem dX11_put_75 : decode cX11_put 75 = .ok (.iload 4, 2) := by decide +kernel
theorem dX11_put_77 : decode cX11_put 77 = .ok (.ishl, 1) := by decide +kernel
theorem dX11_put_78 : decode cX11_put 78 = .ok (.iload 4, 2) := by decide +kernel
theorem dX11_put_80 : decode cX11_put 80 = .ok (.ishr, 1) := by decide +kernel
theorem dX11_put_81 : decode cX11_put 81 = .ok (.iastore, 1) := by decide +kernel
theorem dX11_put_82 : decode cX11_put 82 = .ok (.iconst 0, 1) := by decide +kernel
theorem dX11_put_83 : decode cX11_put 83 = .ok (.ireturn, 1) := by decide +kernel
theorem dX11_copy_0 : decode cX11_copy 0 = .ok (.iload_n 1, 1) := by decide +kernel
theorem dX11_copy_1 : decode cX11_copy 1 = .ok (.invokestatic 184, 3) := by decide +kernel
theorem dX11_copy_4 : decode cX11_copy 4 = .ok (.ifCond .eq 10, 3) := by decide +kernel
theorem dX11_copy_7 : decode cX11_copy 7 = .ok (.iload_n 3, 1) := by decide +kernel
theorem dX11_copy_8 : decode cX11_copy 8 = .ok (.invokestatic 184, 3) := by decide +kernel
theorem dX11_copy_11 : decode cX11_copy 11 = .ok (.ifCond .ne 10, 3) := by decide +kernel
theorem dX11_copy_14 : decode cX11_copy 14 = .ok (.aload_n 0, 1) := by decide +kernel
theorem dX11_copy_15 : decode cX11_copy 15 = .ok (.ldc 72, 2) := by decide +kernel
theorem dX11_copy_17 : decode cX11_copy 17 = .ok (.invokevirtual 68, 3) := by decide +kernel
theorem dX11_copy_20 : decode cX11_copy 20 = .ok (.ireturn, 1) := by decide +kernel
theorem dX11_copy_21 : decode cX11_copy 21 = .ok (.aload_n 0, 1) := by decide +kernel
theorem dX11_copy_22 : decode cX11_copy 22 = .ok (.getfield 23, 3) := by decide +kernel
theorem dX11_copy_25 : decode cX11_copy 25 = .ok (.iload_n 1, 1) := by decide +kernel
theorem dX11_copy_26 : decode cX11_copy 26 = .ok (.iaload, 1) := by decide +kernel
theorem dX11_copy_27 : decode cX11_copy 27 = .ok (.ifCond .eq 12, 3) := by decide +kernel
theorem dX11_copy_30 : decode cX11_copy 30 = .ok (.aload_n 0, 1) := by decide +kernel
theorem dX11_copy_31 : decode cX11_copy 31 = .ok (.getfield 23, 3) := by decide +kernel
theorem dX11_copy_34 : decode cX11_copy 34 = .ok (.iload_n 3, 1) := by decide +kernel
theorem dX11_copy_35 : decode cX11_copy 35 = .ok (.iaload, 1) := by decide +kernel
theorem dX11_copy_36 : decode cX11_copy 36 = .ok (.ifCond .ne 10, 3) := by decide +kernel
theorem dX11_copy_39 : decode cX11_copy 39 = .ok (.aload_n 0, 1) := by decide +kernel
theorem dX11_copy_40 : decode cX11_copy 40 = .ok (.ldc 187, 2) := by decide +kernel
theorem dX11_copy_42 : decode cX11_copy 42 = .ok (.invokevirtual 68, 3) := by decide +kernel
theorem dX11_copy_45 : decode cX11_copy 45 = .ok (.ireturn, 1) := by decide +kernel
theorem dX11_copy_46 : decode cX11_copy 46 = .ok (.aload_n 0, 1) := by decide +kernel
theorem dX11_copy_47 : decode cX11_copy 47 = .ok (.getfield 23, 3) := by decide +kernel
theorem dX11_copy_50 : decode cX11_copy 50 = .ok (.iload_n 1, 1) := by decide +kernel
theorem dX11_copy_51 : decode cX11_copy 51 = .ok (.iaload, 1) := by decide +kernel
theorem dX11_copy_52 : decode cX11_copy 52 = .ok (.aload_n 0, 1) := by decide +kernel
theorem dX11_copy_53 : decode cX11_copy 53 = .ok (.getfield 23, 3) := by decide +kernel
theorem dX11_copy_56 : decode cX11_copy 56 = .ok (.iload_n 3, 1) := by decide +kernel
theorem dX11_copy_57 : decode cX11_copy 57 = .ok (.iaload, 1) := by decide +kernel
theorem dX11_copy_58 : decode cX11_copy 58 = .ok (.if_icmp .eq 10, 3) := by decide +kernel
theorem dX11_copy_61 : decode cX11_copy 61 = .ok (.aload_n 0, 1) := by decide +kernel
theorem dX11_copy_62 : decode cX11_copy 62 = .ok (.ldc 88, 2) := by decide +kernel
theorem dX11_copy_64 : decode cX11_copy 64 = .ok (.invokevirtual 68, 3) := by decide +kernel
theorem dX11_copy_67 : decode cX11_copy 67 = .ok (.ireturn, 1) := by decide +kernel
theorem dX11_copy_68 : decode cX11_copy 68 = .ok (.iload_n 2, 1) := by decide +kernel
theorem dX11_copy_69 : decode cX11_copy 69 = .ok (.ifCond .lt 48, 3) := by decide +kernel
theorem dX11_copy_72 : decode cX11_copy 72 = .ok (.iload 4, 2) := by decide +kernel
theorem dX11_copy_74 : decode cX11_copy 74 = .ok (.ifCond .lt 43, 3) := by decide +kernel
theorem dX11_copy_77 : decode cX11_copy 77 = .ok (.iload 5, 2) := by decide +kernel
theorem dX11_copy_79 : decode cX11_copy 79 = .ok (.ifCond .lt 38, 3) := by decide +kernel
theorem dX11_copy_82 : decode cX11_copy 82 = .ok (.iload_n 2, 1) := by decide +kernel
theorem dX11_copy_83 : decode cX11_copy 83 = .ok (.i2l, 1) := by decide +kernel
theorem dX11_copy_84 : decode cX11_copy 84 = .ok (.iload 5, 2) := by decide +kernel
theorem dX11_copy_86 : decode cX11_copy 86 = .ok (.i2l, 1) := by decide +kernel
theorem dX11_copy_87 : decode cX11_copy 87 = .ok (.ladd, 1) := by decide +kernel
theorem dX11_copy_88 : decode cX11_copy 88 = .ok (.aload_n 0, 1) := by decide +kernel
theorem dX11_copy_89 : decode cX11_copy 89 = .ok (.getfield 26, 3) := by decide +kernel
theorem dX11_copy_92 : decode cX11_copy 92 = .ok (.iload_n 1, 1) := by decide +kernel
theorem dX11_copy_93 : decode cX11_copy 93 = .ok (.iaload, 1) := by decide +kernel
theorem dX11_copy_94 : decode cX11_copy 94 = .ok (.i2l, 1) := by decide +kernel
theorem dX11_copy_95 : decode cX11_copy 95 = .ok (.lcmp, 1) := by decide +kernel
theorem dX11_copy_96 : decode cX11_copy 96 = .ok (.ifCond .gt 21, 3) := by decide +kernel
theorem dX11_copy_99 : decode cX11_copy 99 = .ok (.iload 4, 2) := by decide +kernel
theorem dX11_copy_101 : decode cX11_copy 101 = .ok (.i2l, 1) := by decide +kernel
theorem dX11_copy_102 : decode cX11_copy 102 = .ok (.iload 5, 2) := by decide +kernel
theorem dX11_copy_104 : decode cX11_copy 104 = .ok (.i2l, 1) := by decide +kernel
theorem dX11_copy_105 : decode cX11_copy 105 = .ok (.ladd, 1) := by decide +kernel
theorem dX11_copy_106 : decode cX11_copy 106 = .ok (.aload_n 0, 1) := by decide +kernel
theorem dX11_copy_107 : decode cX11_copy 107 = .ok (.getfield 26, 3) := by decide +kernel
theorem dX11_copy_110 : decode cX11_copy 110 = .ok (.iload_n 3, 1) := by decide +kernel
theorem dX11_copy_111 : decode cX11_copy 111 = .ok (.iaload, 1) := by decide +kernel
theorem dX11_copy_112 : decode cX11_copy 112 = .ok (.i2l, 1) := by decide +kernel
theorem dX11_copy_113 : decode cX11_copy 113 = .ok (.lcmp, 1) := by decide +kernel
theorem dX11_copy_114 : decode cX11_copy 114 = .ok (.ifCond .le 10, 3) := by decide +kernel
theorem dX11_copy_117 : decode cX11_copy 117 = .ok (.aload_n 0, 1) := by decide +kernel
theorem dX11_copy_118 : decode cX11_copy 118 = .ok (.ldc 72, 2) := by decide +kernel
theorem dX11_copy_120 : decode cX11_copy 120 = .ok (.invokevirtual 68, 3) := by decide +kernel
theorem dX11_copy_123 : decode cX11_copy 123 = .ok (.ireturn, 1) := by decide +kernel
theorem dX11_copy_124 : decode cX11_copy 124 = .ok (.iconst 0, 1) := by decide +kernel
theorem dX11_copy_125 : decode cX11_copy 125 = .ok (.istore 6, 2) := by decide +kernel
theorem dX11_copy_127 : decode cX11_copy 127 = .ok (.iload 6, 2) := by decide +kernel
theorem dX11_copy_129 : decode cX11_copy 129 = .ok (.iload 5, 2) := by decide +kernel
theorem dX11_copy_131 : decode cX11_copy 131 = .ok (.if_icmp .ge 30, 3) := by decide +kernel
theorem dX11_copy_134 : decode cX11_copy 134 = .ok (.aload_n 0, 1) := by decide +kernel
theorem dX11_copy_135 : decode cX11_copy 135 = .ok (.getfield 53, 3) := by decide +kernel
theorem dX11_copy_138 : decode cX11_copy 138 = .ok (.iload 6, 2) := by decide +kernel
theorem dX11_copy_140 : decode cX11_copy 140 = .ok (.aload_n 0, 1) := by decide +kernel
theorem dX11_copy_141 : decode cX11_copy 141 = .ok (.getfield 29, 3) := by decide +kernel
theorem dX11_copy_144 : decode cX11_copy 144 = .ok (.bipush 30, 2) := by decide +kernel
theorem dX11_copy_146 : decode cX11_copy 146 = .ok (.iload_n 1, 1) := by decide +kernel
theorem dX11_copy_147 : decode cX11_copy 147 = .ok (.imul, 1) := by decide +kernel
theorem dX11_copy_148 : decode cX11_copy 148 = .ok (.iload_n 2, 1) := by decide +kernel
theorem dX11_copy_149 : decode cX11_copy 149 = .ok (.iadd, 1) := by decide +kernel
theorem dX11_copy_150 : decode cX11_copy 150 = .ok (.iload 6, 2) := by decide +kernel
theorem dX11_copy_152 : decode cX11_copy 152 = .ok (.iadd, 1) := by decide +kernel
theorem dX11_copy_153 : decode cX11_copy 153 = .ok (.iaload, 1) := by decide +kernel
theorem dX11_copy_154 : decode cX11_copy 154 = .ok (.iastore, 1) := by decide +kernel
theorem dX11_copy_155 : decode cX11_copy 155 = .ok (.iinc 6 1, 3) := by decide +kernel
theorem dX11_copy_158 : decode cX11_copy 158 = .ok (.goto (-31), 3) := by decide +kernel
theorem dX11_copy_161 : decode cX11_copy 161 = .ok (.iconst 0, 1) := by decide +kernel
theorem dX11_copy_162 : decode cX11_copy 162 = .ok (.istore 6, 2) := by decide +kernel
theorem dX11_copy_164 : decode cX11_copy 164 = .ok (.iload 6, 2) := by decide +kernel
theorem dX11_copy_166 : decode cX11_copy 166 = .ok (.iload 5, 2) := by decide +kernel
theorem dX11_copy_168 : decode cX11_copy 168 = .ok (.if_icmp .ge 31, 3) := by decide +kernel
theorem dX11_copy_171 : decode cX11_copy 171 = .ok (.aload_n 0, 1) := by decide +kernel
theorem dX11_copy_172 : decode cX11_copy 172 = .ok (.getfield 29, 3) := by decide +kernel
theorem dX11_copy_175 : decode cX11_copy 175 = .ok (.bipush 30, 2) := by decide +kernel
theorem dX11_copy_177 : decode cX11_copy 177 = .ok (.iload_n 3, 1) := by decide +kernel
theorem dX11_copy_178 : decode cX11_copy 178 = .ok (.imul, 1) := by decide +kernel
theorem dX11_copy_179 : decode cX11_copy 179 = .ok (.iload 4, 2) := by decide +kernel
theorem dX11_copy_181 : decode cX11_copy 181 = .ok (.iadd, 1) := by decide +kernel
theorem dX11_copy_182 : decode cX11_copy 182 = .ok (.iload 6, 2) := by decide +kernel
theorem dX11_copy_184 : decode cX11_copy 184 = .ok (.iadd, 1) := by decide +kernel
theorem dX11_copy_185 : decode cX11_copy 185 = .ok (.aload_n 0, 1) := by decide +kernel
theorem dX11_copy_186 : decode cX11_copy 186 = .ok (.getfield 53, 3) := by decide +kernel
theorem dX11_copy_189 : decode cX11_copy 189 = .ok (.iload 6, 2) := by decide +kernel
theorem dX11_copy_191 : decode cX11_copy 191 = .ok (.iaload, 1) := by decide +kernel
theorem dX11_copy_192 : decode cX11_copy 192 = .ok (.iastore, 1) := by decide +kernel
theorem dX11_copy_193 : decode cX11_copy 193 = .ok (.iinc 6 1, 3) := by decide +kernel
theorem dX11_copy_196 : decode cX11_copy 196 = .ok (.goto (-32), 3) := by decide +kernel
theorem dX11_copy_199 : decode cX11_copy 199 = .ok (.iload 5, 2) := by decide +kernel
theorem dX11_copy_201 : decode cX11_copy 201 = .ok (.ireturn, 1) := by decide +kernel
theorem dX11_all_0 : decode cX11_all 0 = .ok (.iload_n 1, 1) := by decide +kernel
theorem dX11_all_1 : decode cX11_all 1 = .ok (.iconst 0, 1) := by decide +kernel
theorem dX11_all_2 : decode cX11_all 2 = .ok (.iconst 4, 1) := by decide +kernel
theorem dX11_all_3 : decode cX11_all 3 = .ok (.invokestatic 60, 3) := by decide +kernel
theorem dX11_all_6 : decode cX11_all 6 = .ok (.ifCond .ne 10, 3) := by decide +kernel
theorem dX11_all_9 : decode cX11_all 9 = .ok (.aload_n 0, 1) := by decide +kernel
theorem dX11_all_10 : decode cX11_all 10 = .ok (.ldc 72, 2) := by decide +kernel
theorem dX11_all_12 : decode cX11_all 12 = .ok (.invokevirtual 68, 3) := by decide +kernel
theorem dX11_all_15 : decode cX11_all 15 = .ok (.ireturn, 1) := by decide +kernel
theorem dX11_all_16 : decode cX11_all 16 = .ok (.iload_n 1, 1) := by decide +kernel
theorem dX11_all_17 : decode cX11_all 17 = .ok (.iconst 4, 1) := by decide +kernel
theorem dX11_all_18 : decode cX11_all 18 = .ok (.if_icmp .ge 12, 3) := by decide +kernel
theorem dX11_all_21 : decode cX11_all 21 = .ok (.aload_n 0, 1) := by decide +kernel
theorem dX11_all_22 : decode cX11_all 22 = .ok (.getfield 9, 3) := by decide +kernel
theorem dX11_all_25 : decode cX11_all 25 = .ok (.iload_n 1, 1) := by decide +kernel
theorem dX11_all_26 : decode cX11_all 26 = .ok (.iaload, 1) := by decide +kernel
theorem dX11_all_27 : decode cX11_all 27 = .ok (.goto 7, 3) := by decide +kernel
theorem dX11_all_30 : decode cX11_all 30 = .ok (.aload_n 0, 1) := by decide +kernel
theorem dX11_all_31 : decode cX11_all 31 = .ok (.getfield 56, 3) := by decide +kernel
theorem dX11_all_34 : decode cX11_all 34 = .ok (.ireturn, 1) := by decide +kernel
end
section
/-! contracts by the kind of their answer -/
abbrev Ri (P : Int → qSt → Prop) : Option qV → qSt → Prop := fun r σ' => ∃ z, r = some (qi z) ∧ P z σ'
abbrev Rv (P : qSt → Prop) : Option qV → qSt → Prop := fun r σ' => r = none ∧ P σ'
abbrev Rr (P : Nat → Int → qSt → Prop) : Option qV → qSt → Prop := fun r σ' => ∃ k i, r = some (qr k i) ∧ P k i σ'
section
variable {E : qE} {l : Launch} {own : String} {cc : ByteArray} {nL : Nat} {rt : Option FieldType} {n : Nat} {Ret : Option qV → qSt → Prop} {G : qSt → Nat → List (Option qV) → List qV → Prop} {σ : qSt} {pc : Nat} {lv : List (Option qV)} {st : List qV}
theorem r_cvi {ix ar k c ci N2 nL2 n2 : Nat} {fl : List (Option Nat)} {i : Int} {y : MethodName} {b : ByteArray} {rt2 : Option FieldType} {As stv : List qV} {P : Int → qSt → Prop} {C2 : String} {T2 : u_T} (C : Cx E l own cc nL rt n Ret G) (hd : decode cc pc = .ok (.invokevirtual ix, 3)) (hm : qMv own ix y b nL2 rt2 ar) (M : CM E l y b nL2 rt2 n2 (qr k i :: As) σ (Ri P)) (hn : n2 < n) (hs : qsh (eT E) k = .inl (ci, fl)) (hcl : clz[ci]? = some (C2, T2, N2)) (hy : C2 = y.cls) (hc : qcn (eT E) k = c) (hi : 0 ≤ i ∧ i < c) (hst : stv = As.reverse ++ qr k i :: st) (har : As.length = ar) (hW : ((st.map (qv E)).map fun v => v.category).sum ≤ 8) (kk : ∀ (z : Int) (σ' : qSt), P z σ' → G σ' (pc + 3) lv (qi z :: st)) : G σ pc lv stv :=
  r_callV C hd hm M hn hs hcl hy hc hi hst har hW (fun r σ' h => by obtain ⟨z, rfl, h⟩ := h; exact kk z σ' h)
theorem r_cvv {ix ar k c ci N2 nL2 n2 : Nat} {fl : List (Option Nat)} {i : Int} {y : MethodName} {b : ByteArray} {rt2 : Option FieldType} {As stv : List qV} {P : qSt → Prop} {C2 : String} {T2 : u_T} (C : Cx E l own cc nL rt n Ret G) (hd : decode cc pc = .ok (.invokevirtual ix, 3)) (hm : qMv own ix y b nL2 rt2 ar) (M : CM E l y b nL2 rt2 n2 (qr k i :: As) σ (Rv P)) (hn : n2 < n) (hs : qsh (eT E) k = .inl (ci, fl)) (hcl : clz[ci]? = some (C2, T2, N2)) (hy : C2 = y.cls) (hc : qcn (eT E) k = c) (hi : 0 ≤ i ∧ i < c) (hst : stv = As.reverse ++ qr k i :: st) (har : As.length = ar) (hW : ((st.map (qv E)).map fun v => v.category).sum ≤ 8) (kk : ∀ (σ' : qSt), P σ' → G σ' (pc + 3) lv st) : G σ pc lv stv :=
  r_callV C hd hm M hn hs hcl hy hc hi hst har hW (fun r σ' h => by obtain ⟨rfl, h⟩ := h; exact kk σ' h)
theorem r_cvr {ix ar k c ci N2 nL2 n2 : Nat} {fl : List (Option Nat)} {i : Int} {y : MethodName} {b : ByteArray} {rt2 : Option FieldType} {As stv : List qV} {P : Nat → Int → qSt → Prop} {C2 : String} {T2 : u_T} (C : Cx E l own cc nL rt n Ret G) (hd : decode cc pc = .ok (.invokevirtual ix, 3)) (hm : qMv own ix y b nL2 rt2 ar) (M : CM E l y b nL2 rt2 n2 (qr k i :: As) σ (Rr P)) (hn : n2 < n) (hs : qsh (eT E) k = .inl (ci, fl)) (hcl : clz[ci]? = some (C2, T2, N2)) (hy : C2 = y.cls) (hc : qcn (eT E) k = c) (hi : 0 ≤ i ∧ i < c) (hst : stv = As.reverse ++ qr k i :: st) (har : As.length = ar) (hW : ((st.map (qv E)).map fun v => v.category).sum ≤ 8) (kk : ∀ (k' : Nat) (i' : Int) (σ' : qSt), P k' i' σ' → G σ' (pc + 3) lv (qr k' i' :: st)) : G σ pc lv stv :=
  r_callV C hd hm M hn hs hcl hy hc hi hst har hW (fun r σ' h => by obtain ⟨k', i', rfl, h⟩ := h; exact kk k' i' σ' h)
theorem r_csi {ix ar nL2 n2 : Nat} {y : MethodName} {b : ByteArray} {rt2 : Option FieldType} {As stv : List qV} {P : Int → qSt → Prop} (C : Cx E l own cc nL rt n Ret G) (hd : decode cc pc = .ok (.invokestatic ix, 3)) (hm : qMs own ix y b nL2 rt2 ar) (M : CM E l y b nL2 rt2 n2 As σ (Ri P)) (hn : n2 < n) (hst : stv = As.reverse ++ st) (har : As.length = ar) (hW : ((st.map (qv E)).map fun v => v.category).sum ≤ 8) (kk : ∀ (z : Int) (σ' : qSt), P z σ' → G σ' (pc + 3) lv (qi z :: st)) : G σ pc lv stv :=
  r_callS C hd hm M hn hst har hW (fun r σ' h => by obtain ⟨z, rfl, h⟩ := h; exact kk z σ' h)
theorem r_ifb_eq {P : Prop} [Decidable P] {off : Int} (tgt : Nat) (C : Cx E l own cc nL rt n Ret G) (hd : decode cc pc = .ok (.ifCond .eq off, 3)) (ht : (pc : Int) + off = (tgt : Int)) (kt : ¬ P → G σ tgt lv st) (kf : P → G σ (pc + 3) lv st) : G σ pc lv (qi (if P then 1 else 0) :: st) :=
  r_if_eq tgt C hd ht (by split <;> decide) (fun h => kt (fun hp => by rw [if_pos hp] at h; exact absurd h (by decide))) (fun h => kf (by by_cases hp : P; exact hp; exact absurd (if_neg hp) h))
theorem r_ifb_ne {P : Prop} [Decidable P] {off : Int} (tgt : Nat) (C : Cx E l own cc nL rt n Ret G) (hd : decode cc pc = .ok (.ifCond .ne off, 3)) (ht : (pc : Int) + off = (tgt : Int)) (kt : P → G σ tgt lv st) (kf : ¬ P → G σ (pc + 3) lv st) : G σ pc lv (qi (if P then 1 else 0) :: st) :=
  r_if_ne tgt C hd ht (by split <;> decide) (fun h => kt (by by_cases hp : P; exact hp; exact absurd (if_neg hp) h)) (fun h => kf (fun hp => by rw [if_pos hp] at h; exact absurd h (by decide)))
theorem r_dup2 {v w : qV} (C : Cx E l own cc nL rt n Ret G) (hd : decode cc pc = .ok (.dup2, 1)) (k : G σ (pc + 1) lv (v :: w :: v :: w :: st)) (hv : ∀ z, v ≠ ql z := by intro z h; cases h) (hw : ∀ z, w ≠ ql z := by intro z h; cases h) : G σ pc lv (v :: w :: st) := C.go (fun _ _ _ _ _ _ _ _ _ _ _ _ _ hx hb _ _ _ k => lv_dup2_11 hx hb hd (qv_cat E v hv) (qv_cat E w hw) k) k
theorem r_lcmp {a b : Int} (C : Cx E l own cc nL rt n Ret G) (hd : decode cc pc = .ok (.lcmp, 1)) (ha : InL a) (hb' : InL b) (k : G σ (pc + 1) lv (qi (if b < a then 1 else if a = b then 0 else -1) :: st)) : G σ pc lv (ql b :: ql a :: st) := C.go (fun _ _ _ _ _ _ _ _ _ _ _ _ _ hx hb _ _ _ k => W.lcmp hx hb hd (by
  have e : lg_cmp (Int64.ofInt a) (Int64.ofInt b) = Int32.ofInt (if b < a then 1 else if a = b then 0 else -1) := by
    unfold lg_cmp
    have h1 : (Int64.ofInt a > Int64.ofInt b) ↔ b < a := by rw [gt_iff_lt, Int64.lt_iff_toInt_lt, zl_toInt ha, zl_toInt hb']
    have h2 : (Int64.ofInt a = Int64.ofInt b) ↔ a = b := by rw [← Int64.toInt_inj, zl_toInt ha, zl_toInt hb']
    simp only [h1, h2]
    split
    · rfl
    · split <;> rfl
  rw [e]
  exact k)) k
theorem r_v {a b : Int} (h : a = b) (k : G σ pc lv (qi b :: st)) : G σ pc lv (qi a :: st) := h ▸ k
theorem r_vl {a b : Int} (h : a = b) (k : G σ pc lv (ql b :: st)) : G σ pc lv (ql a :: st) := h ▸ k
theorem r_s {σ' : qSt} (h : σ = σ') (k : G σ' pc lv st) : G σ pc lv st := h ▸ k
theorem CM.mkF {y : MethodName} {b : ByteArray} {av : List qV} (hT : qTok (eT E)) (hy : plainFor y = true) (hl : (qEnt av).length ≤ nL) (h : ∀ G, Cx E l y.cls b nL rt n Ret G → G σ 0 (qEnt av ++ List.replicate (nL - (qEnt av).length) none) []) : CM E l y b nL rt n av σ Ret := by
  refine va_MetF (cc := b) (maxL := nL) (ret := rt) hy rfl ?_
  intro p e s m args below meth c s₁ B hml hv
  obtain ⟨rfl, hwok, hP⟩ := hv
  rw [lg_entry_eq, qEnt_len]
  refine h _ ⟨p, e, s, m, _, below, meth, c, _, ⟨B.exec, B.bytes, hml, findClass_of_methodNamed B.named, atoms_spec B.pre⟩, fun w hw => List.mem_cons_of_mem _ hw, B.notSynchronized, B.returns, hT, hwok, rfl⟩ s.heap [] _ hP va_S.rf ?_
  unfold qLs
  rw [qEnt_as]
  have := lv_entry (av.map (qv E)) (n := nL) (by rw [qEnt_len]; exact hl)
  rw [qEnt_len] at this
  exact this
end
end
section
section
variable {E : qE} {l : Launch} {own : String} {cc : ByteArray} {nL : Nat} {rt : Option FieldType} {n : Nat} {Ret : Option qV → qSt → Prop} {G : qSt → Nat → List (Option qV) → List qV → Prop} {σ : qSt} {pc : Nat} {lv : List (Option qV)} {st : List qV}
theorem r_w {a : Int} (b : Int) (C : Cx E l own cc nL rt n Ret G) (h : Int32.ofInt a = Int32.ofInt b) (k : G σ pc lv (qi b :: st)) : G σ pc lv (qi a :: st) := C.go (fun _ _ _ _ _ _ _ _ _ _ _ _ _ _ _ _ _ _ k => by
  simp only [List.map_cons, qv] at k ⊢
  rw [h]
  exact k) k
end
theorem c_min (E : qE) (hT : qTok (eT E)) (l : Launch) (σ : qSt) (a b : Int) (ha : InI a) (hb : InI b) : CM E l yJ9_min_7cf53 cJ9_min_7cf53 2 (some .int) 1 [qi a, qi b] σ (Ri fun z σ' => z = min a b ∧ σ = σ') := by
  refine CM.mkF hT (by decide +kernel) (Nat.le_of_ble_eq_true rfl) (fun G C => ?_)
  show G σ 0 [some (qi a), some (qi b)] []
  refine r_iload_n C dJ9_min_7cf53_0 rfl ?_
  refine r_iload_n C dJ9_min_7cf53_1 rfl ?_
  refine r_ic_gt 9 C dJ9_min_7cf53_2 (by decide) (by omega) (by omega) (fun h2 => ?_) (fun h2 => ?_)
  · refine r_iload_n C dJ9_min_7cf53_9 rfl ?_
    refine r_iret C dJ9_min_7cf53_10 ⟨_, rfl, by omega, rfl⟩
  · refine r_iload_n C dJ9_min_7cf53_5 rfl ?_
    refine r_goto 10 C dJ9_min_7cf53_6 (by decide) ?_
    refine r_iret C dJ9_min_7cf53_10 ⟨_, rfl, by omega, rfl⟩
theorem c_max (E : qE) (hT : qTok (eT E)) (l : Launch) (σ : qSt) (a b : Int) (ha : InI a) (hb : InI b) : CM E l yJ9_max_7cf53 cJ9_max_7cf53 2 (some .int) 1 [qi a, qi b] σ (Ri fun z σ' => z = max a b ∧ σ = σ') := by
  refine CM.mkF hT (by decide +kernel) (Nat.le_of_ble_eq_true rfl) (fun G C => ?_)
  show G σ 0 [some (qi a), some (qi b)] []
  refine r_iload_n C dJ9_max_7cf53_0 rfl ?_
  refine r_iload_n C dJ9_max_7cf53_1 rfl ?_
  refine r_ic_lt 9 C dJ9_max_7cf53_2 (by decide) (by omega) (by omega) (fun h2 => ?_) (fun h2 => ?_)
  · refine r_iload_n C dJ9_max_7cf53_9 rfl ?_
    refine r_iret C dJ9_max_7cf53_10 ⟨_, rfl, by omega, rfl⟩
  · refine r_iload_n C dJ9_max_7cf53_5 rfl ?_
    refine r_goto 10 C dJ9_max_7cf53_6 (by decide) ?_
    refine r_iret C dJ9_max_7cf53_10 ⟨_, rfl, by omega, rfl⟩
/-- how many of the lowest twelve bits are set -/
def pop12 (z : Int) : Int := z % 2 + z / 2 % 2 + z / 4 % 2 + z / 8 % 2 + z / 16 % 2 + z / 32 % 2 + z / 64 % 2 + z / 128 % 2 + z / 256 % 2 + z / 512 % 2 + z / 1024 % 2 + z / 2048 % 2
def bcU (x y : Int32) : Int32 := (x.toUInt32 >>> (y.toUInt32 &&& Int32.toUInt32 31)).toInt32
def bc0 (x : Int32) : Int32 :=
  let a := x - (bcU x (Int32.ofInt 1) &&& Int32.ofInt 1431655765)
  let b := (a &&& Int32.ofInt 858993459) + (bcU a (Int32.ofInt 2) &&& Int32.ofInt 858993459)
  let c := (b + bcU b (Int32.ofInt 4)) &&& Int32.ofInt 252645135
  let d := c + bcU c (Int32.ofInt 8)
  let f := d + bcU d (Int32.ofInt 16)
  f &&& Int32.ofInt 63
theorem bc0_64 : ∀ i, i < 64 → ∀ j, j < 64 → bc0 (Int32.ofInt ((64 * i + j : Nat) : Int)) = Int32.ofInt (pop12 ((64 * i + j : Nat) : Int)) := by decide +kernel
theorem bc0_eq {a : Int} (h : 0 ≤ a ∧ a < 4096) : bc0 (Int32.ofInt a) = Int32.ofInt (pop12 a) := by
  have := bc0_64 (a / 64).toNat (by omega) (a % 64).toNat (by omega)
  rwa [show ((64 * (a / 64).toNat + (a % 64).toNat : Nat) : Int) = a by omega] at this
theorem w_ex (x : Int32) : ∃ w : Int, x = Int32.ofInt w := ⟨x.toInt, (Int32.ofInt_toInt x).symm⟩
theorem c_bitCount (E : qE) (hT : qTok (eT E)) (l : Launch) (σ : qSt) (a : Int) (ha : 0 ≤ a ∧ a < 4096) : CM E l yJ6_bitCount_0f7a4 cJ6_bitCount_0f7a4 1 (some .int) 1 [qi a] σ (Ri fun z σ' => z = pop12 a ∧ σ = σ') := by
  refine CM.mkF hT (by decide +kernel) (Nat.le_of_ble_eq_true rfl) (fun G C => ?_)
  show G σ 0 [some (qi a)] []
  obtain ⟨u1, hu1⟩ := w_ex (bcU (Int32.ofInt a) (Int32.ofInt 1))
  obtain ⟨u2, hu2⟩ := w_ex (Int32.ofInt u1 &&& Int32.ofInt 1431655765)
  obtain ⟨u3, hu3⟩ := w_ex (Int32.ofInt (a - u2) &&& Int32.ofInt 858993459)
  obtain ⟨u4, hu4⟩ := w_ex (bcU (Int32.ofInt (a - u2)) (Int32.ofInt 2))
  obtain ⟨u5, hu5⟩ := w_ex (Int32.ofInt u4 &&& Int32.ofInt 858993459)
  obtain ⟨u6, hu6⟩ := w_ex (bcU (Int32.ofInt (u3 + u5)) (Int32.ofInt 4))
  obtain ⟨u7, hu7⟩ := w_ex (Int32.ofInt (u3 + u5 + u6) &&& Int32.ofInt 252645135)
  obtain ⟨u8, hu8⟩ := w_ex (bcU (Int32.ofInt u7) (Int32.ofInt 8))
  obtain ⟨u9, hu9⟩ := w_ex (bcU (Int32.ofInt (u7 + u8)) (Int32.ofInt 16))
  obtain ⟨u10, hu10⟩ := w_ex (Int32.ofInt (u7 + u8 + u9) &&& Int32.ofInt 63)
  have key : Int32.ofInt u10 = Int32.ofInt (pop12 a) := by
    rw [← bc0_eq ha, ← hu10, Int32.ofInt_add, Int32.ofInt_add, ← hu9, Int32.ofInt_add, ← hu8, ← hu7, Int32.ofInt_add, ← hu6, Int32.ofInt_add, ← hu5, ← hu4, ← hu3, Int32.ofInt_sub, ← hu2, ← hu1]
    rfl
  refine r_iload_n C dJ6_bitCount_0f7a4_0 rfl ?_
  refine r_iload_n C dJ6_bitCount_0f7a4_1 rfl ?_
  refine r_iconst C dJ6_bitCount_0f7a4_2 ?_
  refine r_iushr u1 C dJ6_bitCount_0f7a4_3 hu1 ?_
  refine r_ldcw C dJ6_bitCount_0f7a4_4 kc_J6_265 ?_
  refine r_iand u2 C dJ6_bitCount_0f7a4_7 hu2 ?_
  refine r_isub C dJ6_bitCount_0f7a4_8 ?_
  refine r_istore_n C dJ6_bitCount_0f7a4_9 rfl rfl (by decide) ?_
  refine r_iload_n C dJ6_bitCount_0f7a4_10 rfl ?_
  refine r_ldcw C dJ6_bitCount_0f7a4_11 kc_J6_266 ?_
  refine r_iand u3 C dJ6_bitCount_0f7a4_14 hu3 ?_
  refine r_iload_n C dJ6_bitCount_0f7a4_15 rfl ?_
  refine r_iconst C dJ6_bitCount_0f7a4_16 ?_
  refine r_iushr u4 C dJ6_bitCount_0f7a4_17 hu4 ?_
  refine r_ldcw C dJ6_bitCount_0f7a4_18 kc_J6_266 ?_
  refine r_iand u5 C dJ6_bitCount_0f7a4_21 hu5 ?_
  refine r_iadd C dJ6_bitCount_0f7a4_22 ?_
  refine r_istore_n C dJ6_bitCount_0f7a4_23 rfl rfl (by decide) ?_
  refine r_iload_n C dJ6_bitCount_0f7a4_24 rfl ?_
  refine r_iload_n C dJ6_bitCount_0f7a4_25 rfl ?_
  refine r_iconst C dJ6_bitCount_0f7a4_26 ?_
  refine r_iushr u6 C dJ6_bitCount_0f7a4_27 hu6 ?_
  refine r_iadd C dJ6_bitCount_0f7a4_28 ?_
  refine r_ldcw C dJ6_bitCount_0f7a4_29 kc_J6_267 ?_
  refine r_iand u7 C dJ6_bitCount_0f7a4_32 hu7 ?_
  refine r_istore_n C dJ6_bitCount_0f7a4_33 rfl rfl (by decide) ?_
  refine r_iload_n C dJ6_bitCount_0f7a4_34 rfl ?_
  refine r_iload_n C dJ6_bitCount_0f7a4_35 rfl ?_
  refine r_bipush C dJ6_bitCount_0f7a4_36 ?_
  refine r_iushr u8 C dJ6_bitCount_0f7a4_38 hu8 ?_
  refine r_iadd C dJ6_bitCount_0f7a4_39 ?_
  refine r_istore_n C dJ6_bitCount_0f7a4_40 rfl rfl (by decide) ?_
  refine r_iload_n C dJ6_bitCount_0f7a4_41 rfl ?_
  refine r_iload_n C dJ6_bitCount_0f7a4_42 rfl ?_
  refine r_bipush C dJ6_bitCount_0f7a4_43 ?_
  refine r_iushr u9 C dJ6_bitCount_0f7a4_45 hu9 ?_
  refine r_iadd C dJ6_bitCount_0f7a4_46 ?_
  refine r_istore_n C dJ6_bitCount_0f7a4_47 rfl rfl (by decide) ?_
  refine r_iload_n C dJ6_bitCount_0f7a4_48 rfl ?_
  refine r_bipush C dJ6_bitCount_0f7a4_49 ?_
  refine r_iand u10 C dJ6_bitCount_0f7a4_51 hu10 ?_
  refine r_w (pop12 a) C key ?_
  refine r_iret C dJ6_bitCount_0f7a4_52 ⟨_, rfl, rfl, rfl⟩
end
section
/-! the class: small methods -/
abbrev Bd (σ : qSt) : Prop := ∀ (k : Nat) (i j : Int), k ≠ 206 → ¬ (k = 0 ∧ j = 12) → -2000000 ≤ σ k i j ∧ σ k i j ≤ 2000000
set_option maxRecDepth 20000 in
theorem c_X10_within (e : qR) (l : Launch) (σ : qSt) (v b : Int) (hv : InI v) (hbb : InI b) : CM (ED e) l yX10_within cX10_within 2 (some .boolean) 2 [qi v, qi b] σ (Ri fun z σ' => z = (if 0 ≤ v ∧ v < b then 1 else 0) ∧ σ = σ') := by
  refine CM.mk tD_ok (by decide +kernel) (Nat.le_of_ble_eq_true rfl) (fun G C => ?_)
  show G σ 0 [some (qi v), some (qi b)] []
  refine r_iload_n C dX10_within_0 rfl ?_
  refine r_if_lt 13 C dX10_within_1 (by decide) (by omega) (fun h1 => ?_) (fun h1 => ?_)
  · refine r_iconst C dX10_within_13 ?_
    refine r_zret C dX10_within_14 (by decide) ?_
    exact ⟨_, rfl, by omega, rfl⟩
  · refine r_iload_n C dX10_within_4 rfl ?_
    refine r_iload_n C dX10_within_5 rfl ?_
    refine r_ic_ge 13 C dX10_within_6 (by decide) (by omega) (by omega) (fun h6 => ?_) (fun h6 => ?_)
    · refine r_iconst C dX10_within_13 ?_
      refine r_zret C dX10_within_14 (by decide) ?_
      exact ⟨_, rfl, by omega, rfl⟩
    · refine r_iconst C dX10_within_9 ?_
      refine r_goto 14 C dX10_within_10 (by decide) ?_
      refine r_zret C dX10_within_14 (by decide) ?_
      exact ⟨_, rfl, by omega, rfl⟩
set_option maxRecDepth 20000 in
theorem c_X10_isNoneOrWithin (e : qR) (l : Launch) (σ : qSt) (v b : Int) (hv : InI v) (hbb : InI b) : CM (ED e) l yX10_isNoneOrWithin cX10_isNoneOrWithin 2 (some .boolean) 3 [qi v, qi b] σ (Ri fun z σ' => z = (if v = -1 ∨ (0 ≤ v ∧ v < b) then 1 else 0) ∧ σ = σ') := by
  refine CM.mk tD_ok (by decide +kernel) (Nat.le_of_ble_eq_true rfl) (fun G C => ?_)
  show G σ 0 [some (qi v), some (qi b)] []
  refine r_iload_n C dX10_isNoneOrWithin_0 rfl ?_
  refine r_iconst C dX10_isNoneOrWithin_1 ?_
  refine r_ic_eq 13 C dX10_isNoneOrWithin_2 (by decide) (by omega) (by omega) (fun h2 => ?_) (fun h2 => ?_)
  · refine r_iconst C dX10_isNoneOrWithin_13 ?_
    refine r_goto 18 C dX10_isNoneOrWithin_14 (by decide) ?_
    refine r_zret C dX10_isNoneOrWithin_18 (by decide) ?_
    exact ⟨_, rfl, by omega, rfl⟩
  · refine r_iload_n C dX10_isNoneOrWithin_5 rfl ?_
    refine r_iload_n C dX10_isNoneOrWithin_6 rfl ?_
    refine r_csi C dX10_isNoneOrWithin_7 ms_X10_86 (c_X10_within e l _ _ _ (by omega) (by omega)) (by decide) rfl rfl (Nat.le_of_ble_eq_true rfl) (fun z7 σ7 h7 => ?_)
    obtain ⟨rfl, rfl⟩ := h7
    refine r_ifb_eq 17 C dX10_isNoneOrWithin_10 (by decide) (fun h10 => ?_) (fun h10 => ?_)
    · refine r_iconst C dX10_isNoneOrWithin_17 ?_
      refine r_zret C dX10_isNoneOrWithin_18 (by decide) ?_
      exact ⟨_, rfl, by omega, rfl⟩
    · refine r_iconst C dX10_isNoneOrWithin_13 ?_
      refine r_goto 18 C dX10_isNoneOrWithin_14 (by decide) ?_
      refine r_zret C dX10_isNoneOrWithin_18 (by decide) ?_
      exact ⟨_, rfl, by omega, rfl⟩
set_option maxRecDepth 20000 in
theorem c_X10_isLength (e : qR) (l : Launch) (σ : qSt) (v : Int) (hv : InI v) : CM (ED e) l yX10_isLength cX10_isLength 1 (some .boolean) 2 [qi v] σ (Ri fun z σ' => z = (if 1 ≤ v ∧ v ≤ 6 then 1 else 0) ∧ σ = σ') := by
  refine CM.mk tD_ok (by decide +kernel) (Nat.le_of_ble_eq_true rfl) (fun G C => ?_)
  show G σ 0 [some (qi v)] []
  refine r_iload_n C dX10_isLength_0 rfl ?_
  refine r_iconst C dX10_isLength_1 ?_
  refine r_ic_lt 15 C dX10_isLength_2 (by decide) (by omega) (by omega) (fun h2 => ?_) (fun h2 => ?_)
  · refine r_iconst C dX10_isLength_15 ?_
    refine r_zret C dX10_isLength_16 (by decide) ?_
    exact ⟨_, rfl, by omega, rfl⟩
  · refine r_iload_n C dX10_isLength_5 rfl ?_
    refine r_bipush C dX10_isLength_6 ?_
    refine r_ic_gt 15 C dX10_isLength_8 (by decide) (by omega) (by omega) (fun h8 => ?_) (fun h8 => ?_)
    · refine r_iconst C dX10_isLength_15 ?_
      refine r_zret C dX10_isLength_16 (by decide) ?_
      exact ⟨_, rfl, by omega, rfl⟩
    · refine r_iconst C dX10_isLength_11 ?_
      refine r_goto 16 C dX10_isLength_12 (by decide) ?_
      refine r_zret C dX10_isLength_16 (by decide) ?_
      exact ⟨_, rfl, by omega, rfl⟩
set_option maxRecDepth 20000 in
theorem c_X10_isLine (e : qR) (l : Launch) (σ : qSt) (x : Int) (hb : Bd σ) (hv : InI x) : CM (ED e) l yX10_isLine cX10_isLine 2 (some .boolean) 3 [qr 0 0, qi x] σ (Ri fun z σ' => z = (if 0 ≤ x ∧ x < σ 0 0 10 then 1 else 0) ∧ σ = σ') := by
  refine CM.mk tD_ok (by decide +kernel) (Nat.le_of_ble_eq_true rfl) (fun G C => ?_)
  show G σ 0 [some (qr 0 0), some (qi x)] []
  refine r_iload_n C dX10_isLine_0 rfl ?_
  refine r_aload_n C dX10_isLine_1 rfl ?_
  refine r_get_i (c := 1) 10 C dX10_isLine_2 fl_X10_73 rfl rfl rfl rfl (by decide) ?_
  have b2 := hb 0 0 10 (by omega) (by omega)
  refine r_csi C dX10_isLine_5 ms_X10_86 (c_X10_within e l _ _ _ (by omega) (by omega)) (by decide) rfl rfl (Nat.le_of_ble_eq_true rfl) (fun z5 σ5 h5 => ?_)
  obtain ⟨rfl, rfl⟩ := h5
  refine r_zret C dX10_isLine_8 (by split <;> simp) ?_
  exact ⟨_, rfl, rfl, rfl⟩
set_option maxRecDepth 20000 in
theorem c_X10_isWording (e : qR) (l : Launch) (σ : qSt) (x : Int) (hb : Bd σ) (hv : InI x) : CM (ED e) l yX10_isWording cX10_isWording 2 (some .boolean) 3 [qr 0 0, qi x] σ (Ri fun z σ' => z = (if 0 ≤ x ∧ x < σ 0 0 11 then 1 else 0) ∧ σ = σ') := by
  refine CM.mk tD_ok (by decide +kernel) (Nat.le_of_ble_eq_true rfl) (fun G C => ?_)
  show G σ 0 [some (qr 0 0), some (qi x)] []
  refine r_iload_n C dX10_isWording_0 rfl ?_
  refine r_aload_n C dX10_isWording_1 rfl ?_
  refine r_get_i (c := 1) 11 C dX10_isWording_2 fl_X10_77 rfl rfl rfl rfl (by decide) ?_
  have b2 := hb 0 0 11 (by omega) (by omega)
  refine r_csi C dX10_isWording_5 ms_X10_86 (c_X10_within e l _ _ _ (by omega) (by omega)) (by decide) rfl rfl (Nat.le_of_ble_eq_true rfl) (fun z5 σ5 h5 => ?_)
  obtain ⟨rfl, rfl⟩ := h5
  refine r_zret C dX10_isWording_8 (by split <;> simp) ?_
  exact ⟨_, rfl, rfl, rfl⟩
set_option maxRecDepth 20000 in
theorem c_X10_finding (e : qR) (l : Launch) (σ : qSt) (x : Int) : CM (ED e) l yX10_finding cX10_finding 2 (some .int) 2 [qr 0 0, qi x] σ (Ri fun z σ' => z = x ∧ σ' = qUp σ 0 0 12 (σ 0 0 12 + 1)) := by
  refine CM.mk tD_ok (by decide +kernel) (Nat.le_of_ble_eq_true rfl) (fun G C => ?_)
  show G σ 0 [some (qr 0 0), some (qi x)] []
  refine r_aload_n C dX10_finding_0 rfl ?_
  refine r_dup C dX10_finding_1 ?_
  refine r_get_i (c := 1) 12 C dX10_finding_2 fl_X10_80 rfl rfl rfl rfl (by decide) ?_
  refine r_iconst C dX10_finding_5 ?_
  refine r_iadd C dX10_finding_6 ?_
  refine r_put_i (c := 1) 12 C dX10_finding_7 fw_X10_80 rfl rfl rfl rfl (by decide) rfl rfl ?_
  refine r_iload_n C dX10_finding_10 rfl ?_
  refine r_iret C dX10_finding_11 ?_
  exact ⟨_, rfl, rfl, rfl⟩

set_option maxRecDepth 20000 in
theorem c_X4_append (e : qR) (l : Launch) (σ : qSt) (land sort word day : Int) (hc : 0 ≤ σ 4 0 5 ∧ σ 4 0 5 < 40) : CM (ED e) l yX4_append cX4_append 5 none 2 [qr 4 0, qi land, qi sort, qi word, qi day] σ (Rv fun σ' => σ' = qUp (qUp (qUp (qUp (qUp σ 6 0 (σ 4 0 5) land) 7 0 (σ 4 0 5) sort) 8 0 (σ 4 0 5) word) 9 0 (σ 4 0 5) day) 4 0 5 (σ 4 0 5 + 1)) := by
  refine CM.mk tD_ok (by decide +kernel) (Nat.le_of_ble_eq_true rfl) (fun G C => ?_)
  show G σ 0 [some (qr 4 0), some (qi land), some (qi sort), some (qi word), some (qi day)] []
  refine r_aload_n C dX4_append_0 rfl ?_
  refine r_get_r (c := 1) C dX4_append_1 fl_X4_15 rfl rfl rfl (by decide) rfl ?_
  refine r_aload_n C dX4_append_4 rfl ?_
  refine r_get_i (c := 1) 5 C dX4_append_5 fl_X4_27 rfl rfl rfl rfl (by decide) ?_
  refine r_iload_n C dX4_append_8 rfl ?_
  refine r_iast (c := 1) (N := 40) C dX4_append_9 rfl rfl (by decide) (by omega) ?_
  refine r_aload_n C dX4_append_10 rfl ?_
  refine r_get_r (c := 1) C dX4_append_11 fl_X4_18 rfl rfl rfl (by decide) rfl ?_
  refine r_aload_n C dX4_append_14 rfl ?_
  refine r_get_i (c := 1) 5 C dX4_append_15 fl_X4_27 rfl rfl rfl rfl (by decide) ?_
  refine r_v (b := (σ 4 0 5)) (by simp [qUp, qCpy]) ?_
  refine r_iload_n C dX4_append_18 rfl ?_
  refine r_iast (c := 1) (N := 40) C dX4_append_19 rfl rfl (by decide) (by omega) ?_
  refine r_aload_n C dX4_append_20 rfl ?_
  refine r_get_r (c := 1) C dX4_append_21 fl_X4_21 rfl rfl rfl (by decide) rfl ?_
  refine r_aload_n C dX4_append_24 rfl ?_
  refine r_get_i (c := 1) 5 C dX4_append_25 fl_X4_27 rfl rfl rfl rfl (by decide) ?_
  refine r_v (b := (σ 4 0 5)) (by simp [qUp, qCpy]) ?_
  refine r_iload_n C dX4_append_28 rfl ?_
  refine r_iast (c := 1) (N := 40) C dX4_append_29 rfl rfl (by decide) (by omega) ?_
  refine r_aload_n C dX4_append_30 rfl ?_
  refine r_get_r (c := 1) C dX4_append_31 fl_X4_24 rfl rfl rfl (by decide) rfl ?_
  refine r_aload_n C dX4_append_34 rfl ?_
  refine r_get_i (c := 1) 5 C dX4_append_35 fl_X4_27 rfl rfl rfl rfl (by decide) ?_
  refine r_v (b := (σ 4 0 5)) (by simp [qUp, qCpy]) ?_
  refine r_iload C dX4_append_38 rfl ?_
  refine r_iast (c := 1) (N := 40) C dX4_append_40 rfl rfl (by decide) (by omega) ?_
  refine r_aload_n C dX4_append_41 rfl ?_
  refine r_dup C dX4_append_42 ?_
  refine r_get_i (c := 1) 5 C dX4_append_43 fl_X4_27 rfl rfl rfl rfl (by decide) ?_
  refine r_v (b := (σ 4 0 5)) (by simp [qUp, qCpy]) ?_
  refine r_iconst C dX4_append_46 ?_
  refine r_iadd C dX4_append_47 ?_
  refine r_put_i (c := 1) 5 C dX4_append_48 fw_X4_27 rfl rfl rfl rfl (by decide) rfl rfl ?_
  refine r_vret C dX4_append_51 ?_
  exact ⟨rfl, rfl⟩
set_option maxRecDepth 20000 in
theorem c_X4_overrules (e : qR) (l : Launch) (σ : qSt) (t f land day : Int) (hb : Bd σ) (ht : 0 ≤ t ∧ t < 40) (hf : InI f ∧ f < 40) (hl : InI land) (hd : InI day) : CM (ED e) l yX4_overrules cX4_overrules 5 (some .boolean) 2 [qr 4 0, qi t, qi f, qi land, qi day] σ (Ri fun z σ' => z = (if σ 6 0 t = land ∧ σ 9 0 t ≤ day ∧ (f < 0 ∨ σ 9 0 f ≤ σ 9 0 t) then 1 else 0) ∧ σ = σ') := by
  refine CM.mk tD_ok (by decide +kernel) (Nat.le_of_ble_eq_true rfl) (fun G C => ?_)
  show G σ 0 [some (qr 4 0), some (qi t), some (qi f), some (qi land), some (qi day)] []
  refine r_aload_n C dX4_overrules_0 rfl ?_
  refine r_get_r (c := 1) C dX4_overrules_1 fl_X4_15 rfl rfl rfl (by decide) rfl ?_
  refine r_iload_n C dX4_overrules_4 rfl ?_
  refine r_iald (c := 1) (N := 40) C dX4_overrules_5 rfl rfl (by decide) (by omega) ?_
  have b5 := hb 6 0 t (by omega) (by omega)
  refine r_iload_n C dX4_overrules_6 rfl ?_
  refine r_ic_ne 44 C dX4_overrules_7 (by decide) (by omega) (by omega) (fun h7 => ?_) (fun h7 => ?_)
  · refine r_iconst C dX4_overrules_44 ?_
    refine r_zret C dX4_overrules_45 (by decide) ?_
    exact ⟨_, rfl, by omega, rfl⟩
  · refine r_aload_n C dX4_overrules_10 rfl ?_
    refine r_get_r (c := 1) C dX4_overrules_11 fl_X4_24 rfl rfl rfl (by decide) rfl ?_
    refine r_iload_n C dX4_overrules_14 rfl ?_
    refine r_iald (c := 1) (N := 40) C dX4_overrules_15 rfl rfl (by decide) (by omega) ?_
    have b15 := hb 9 0 t (by omega) (by omega)
    refine r_iload C dX4_overrules_16 rfl ?_
    refine r_ic_gt 44 C dX4_overrules_18 (by decide) (by omega) (by omega) (fun h18 => ?_) (fun h18 => ?_)
    · refine r_iconst C dX4_overrules_44 ?_
      refine r_zret C dX4_overrules_45 (by decide) ?_
      exact ⟨_, rfl, by omega, rfl⟩
    · refine r_iload_n C dX4_overrules_21 rfl ?_
      refine r_if_lt 40 C dX4_overrules_22 (by decide) (by omega) (fun h22 => ?_) (fun h22 => ?_)
      · refine r_iconst C dX4_overrules_40 ?_
        refine r_goto 45 C dX4_overrules_41 (by decide) ?_
        refine r_zret C dX4_overrules_45 (by decide) ?_
        exact ⟨_, rfl, by omega, rfl⟩
      · refine r_aload_n C dX4_overrules_25 rfl ?_
        refine r_get_r (c := 1) C dX4_overrules_26 fl_X4_24 rfl rfl rfl (by decide) rfl ?_
        refine r_iload_n C dX4_overrules_29 rfl ?_
        refine r_iald (c := 1) (N := 40) C dX4_overrules_30 rfl rfl (by decide) (by omega) ?_
        have b30 := hb 9 0 t (by omega) (by omega)
        refine r_aload_n C dX4_overrules_31 rfl ?_
        refine r_get_r (c := 1) C dX4_overrules_32 fl_X4_24 rfl rfl rfl (by decide) rfl ?_
        refine r_iload_n C dX4_overrules_35 rfl ?_
        refine r_iald (c := 1) (N := 40) C dX4_overrules_36 rfl rfl (by decide) (by omega) ?_
        have b36 := hb 9 0 f (by omega) (by omega)
        refine r_ic_lt 44 C dX4_overrules_37 (by decide) (by omega) (by omega) (fun h37 => ?_) (fun h37 => ?_)
        · refine r_iconst C dX4_overrules_44 ?_
          refine r_zret C dX4_overrules_45 (by decide) ?_
          exact ⟨_, rfl, by omega, rfl⟩
        · refine r_iconst C dX4_overrules_40 ?_
          refine r_goto 45 C dX4_overrules_41 (by decide) ?_
          refine r_zret C dX4_overrules_45 (by decide) ?_
          exact ⟨_, rfl, by omega, rfl⟩
/-- the text in force, by its place: of the first n the latest, of several the last one (-1: none); q says which are meant -/
def inF (ld dy : Int → Int) (q : Int → Bool) (land day : Int) : Nat → Int
  | 0 => -1
  | n + 1 => if q n = true ∧ ld n = land ∧ dy n ≤ day ∧ (inF ld dy q land day n < 0 ∨ dy (inF ld dy q land day n) ≤ dy n) then (n : Int) else inF ld dy q land day n
theorem inF_lt (ld dy : Int → Int) (q : Int → Bool) (land day : Int) : ∀ n : Nat, -1 ≤ inF ld dy q land day n ∧ inF ld dy q land day n < n
  | 0 => by simp [inF]
  | n + 1 => by
    have := inF_lt ld dy q land day n
    simp only [inF]
    split <;> omega
def qBar (so wo : Int → Int) (word : Int) : Int → Bool := fun t => decide (so t ≠ 2 ∧ wo t = word)
def qCho (so wo nm : Int → Int) (name : Int) : Int → Bool := fun t => decide (so t = 2 ∧ nm (wo t) = name)
set_option maxRecDepth 20000 in
theorem lp_X4_isBarred {G : qSt → Nat → List (Option qV) → List qV → Prop} {Ret : Option qV → qSt → Prop} (e : qR) (l : Launch) (σ : qSt) (land word day : Int) (hb : Bd σ) (hc : 0 ≤ σ 4 0 5 ∧ σ 4 0 5 ≤ 40) (hl : InI land) (hw : InI word) (hd : InI day) (C : Cx (ED e) l RX4 cX4_isBarred 6 (some .boolean) 3 Ret G) (hR : ∀ z, z = (if 0 ≤ inF (σ 6 0) (σ 9 0) (qBar (σ 7 0) (σ 8 0) word) land day (σ 4 0 5).toNat ∧ σ 7 0 (inF (σ 6 0) (σ 9 0) (qBar (σ 7 0) (σ 8 0) word) land day (σ 4 0 5).toNat) = 0 then 1 else 0) → Ret (some (qi z)) σ) : ∀ (k : Nat) (m : Nat) (f : Int), f = inF (σ 6 0) (σ 9 0) (qBar (σ 7 0) (σ 8 0) word) land day m → (m : Int) + k = σ 4 0 5 → G σ 6 [some (qr 4 0), some (qi land), some (qi word), some (qi day), some (qi f), some (qi (m : Int))] [] := by
  intro k
  induction k with
  | zero =>
    intro m f hf hm
    have hfl := inF_lt (σ 6 0) (σ 9 0) (qBar (σ 7 0) (σ 8 0) word) land day m
    rw [← hf] at hfl
    refine r_iload C dX4_isBarred_6 rfl ?_
    refine r_aload_n C dX4_isBarred_8 rfl ?_
    refine r_get_i (c := 1) 5 C dX4_isBarred_9 fl_X4_27 rfl rfl rfl rfl (by decide) ?_
    have b9 := hb 4 0 5 (by omega) (by omega)
    refine r_ic_ge 60 C dX4_isBarred_12 (by decide) (by omega) (by omega) (fun h12 => ?_) (fun h12 => ?_)
    · refine r_iload C dX4_isBarred_60 rfl ?_
      refine r_if_lt 79 C dX4_isBarred_62 (by decide) (by omega) (fun h62 => ?_) (fun h62 => ?_)
      · refine r_iconst C dX4_isBarred_79 ?_
        refine r_zret C dX4_isBarred_80 (by decide) ?_
        exact hR _ (by rw [show (σ 4 0 5).toNat = m by omega, ← hf]; omega)
      · refine r_aload_n C dX4_isBarred_65 rfl ?_
        refine r_get_r (c := 1) C dX4_isBarred_66 fl_X4_18 rfl rfl rfl (by decide) rfl ?_
        refine r_iload C dX4_isBarred_69 rfl ?_
        refine r_iald (c := 1) (N := 40) C dX4_isBarred_71 rfl rfl (by decide) (by omega) ?_
        have b71 := hb 7 0 f (by omega) (by omega)
        refine r_if_ne 79 C dX4_isBarred_72 (by decide) (by omega) (fun h72 => ?_) (fun h72 => ?_)
        · refine r_iconst C dX4_isBarred_79 ?_
          refine r_zret C dX4_isBarred_80 (by decide) ?_
          exact hR _ (by rw [show (σ 4 0 5).toNat = m by omega, ← hf]; omega)
        · refine r_iconst C dX4_isBarred_75 ?_
          refine r_goto 80 C dX4_isBarred_76 (by decide) ?_
          refine r_zret C dX4_isBarred_80 (by decide) ?_
          exact hR _ (by rw [show (σ 4 0 5).toNat = m by omega, ← hf]; omega)
    · exfalso; omega
  | succ k ih =>
    intro m f hf hm
    have hfl := inF_lt (σ 6 0) (σ 9 0) (qBar (σ 7 0) (σ 8 0) word) land day m
    rw [← hf] at hfl
    refine r_iload C dX4_isBarred_6 rfl ?_
    refine r_aload_n C dX4_isBarred_8 rfl ?_
    refine r_get_i (c := 1) 5 C dX4_isBarred_9 fl_X4_27 rfl rfl rfl rfl (by decide) ?_
    have b9 := hb 4 0 5 (by omega) (by omega)
    refine r_ic_ge 60 C dX4_isBarred_12 (by decide) (by omega) (by omega) (fun h12 => ?_) (fun h12 => ?_)
    · exfalso; omega
    · refine r_aload_n C dX4_isBarred_15 rfl ?_
      refine r_get_r (c := 1) C dX4_isBarred_16 fl_X4_18 rfl rfl rfl (by decide) rfl ?_
      refine r_iload C dX4_isBarred_19 rfl ?_
      refine r_iald (c := 1) (N := 40) C dX4_isBarred_21 rfl rfl (by decide) (by omega) ?_
      have b21 := hb 7 0 (m : Int) (by omega) (by omega)
      refine r_iconst C dX4_isBarred_22 ?_
      refine r_ic_eq 54 C dX4_isBarred_23 (by decide) (by omega) (by omega) (fun h23 => ?_) (fun h23 => ?_)
      · refine r_iinc C dX4_isBarred_54 rfl rfl rfl (by decide) ?_
        refine r_goto 6 C dX4_isBarred_57 (by decide) ?_
        exact ih (m + 1) _ (by simp only [inF]; rw [← hf]; simp only [qBar, decide_eq_true_eq]; split <;> omega) (by omega)
      · refine r_aload_n C dX4_isBarred_26 rfl ?_
        refine r_get_r (c := 1) C dX4_isBarred_27 fl_X4_21 rfl rfl rfl (by decide) rfl ?_
        refine r_iload C dX4_isBarred_30 rfl ?_
        refine r_iald (c := 1) (N := 40) C dX4_isBarred_32 rfl rfl (by decide) (by omega) ?_
        have b32 := hb 8 0 (m : Int) (by omega) (by omega)
        refine r_iload_n C dX4_isBarred_33 rfl ?_
        refine r_ic_ne 54 C dX4_isBarred_34 (by decide) (by omega) (by omega) (fun h34 => ?_) (fun h34 => ?_)
        · refine r_iinc C dX4_isBarred_54 rfl rfl rfl (by decide) ?_
          refine r_goto 6 C dX4_isBarred_57 (by decide) ?_
          exact ih (m + 1) _ (by simp only [inF]; rw [← hf]; simp only [qBar, decide_eq_true_eq]; split <;> omega) (by omega)
        · refine r_aload_n C dX4_isBarred_37 rfl ?_
          refine r_iload C dX4_isBarred_38 rfl ?_
          refine r_iload C dX4_isBarred_40 rfl ?_
          refine r_iload_n C dX4_isBarred_42 rfl ?_
          refine r_iload_n C dX4_isBarred_43 rfl ?_
          refine r_cvi (c := 1) C dX4_isBarred_44 mv_X4_31 (c_X4_overrules e l _ _ _ _ _ hb (by omega) (by omega) (by omega) (by omega)) (by decide) rfl rfl rfl rfl (by decide) rfl rfl (Nat.le_of_ble_eq_true rfl) (fun z44 σ44 h44 => ?_)
          obtain ⟨rfl, rfl⟩ := h44
          refine r_ifb_eq 54 C dX4_isBarred_47 (by decide) (fun h47 => ?_) (fun h47 => ?_)
          · refine r_iinc C dX4_isBarred_54 rfl rfl rfl (by decide) ?_
            refine r_goto 6 C dX4_isBarred_57 (by decide) ?_
            exact ih (m + 1) _ (by simp only [inF]; rw [← hf]; simp only [qBar, decide_eq_true_eq]; split <;> omega) (by omega)
          · refine r_iload C dX4_isBarred_50 rfl ?_
            refine r_istore C dX4_isBarred_52 rfl rfl (by decide) ?_
            refine r_iinc C dX4_isBarred_54 rfl rfl rfl (by decide) ?_
            refine r_goto 6 C dX4_isBarred_57 (by decide) ?_
            exact ih (m + 1) _ (by simp only [inF]; rw [← hf]; simp only [qBar, decide_eq_true_eq]; split <;> omega) (by omega)
set_option maxRecDepth 20000 in
theorem c_X4_isBarred (e : qR) (l : Launch) (σ : qSt) (land word day : Int) (hb : Bd σ) (hc : 0 ≤ σ 4 0 5 ∧ σ 4 0 5 ≤ 40) (hl : InI land) (hw : InI word) (hd : InI day) : CM (ED e) l yX4_isBarred cX4_isBarred 6 (some .boolean) 3 [qr 4 0, qi land, qi word, qi day] σ (Ri fun z σ' => z = (if 0 ≤ inF (σ 6 0) (σ 9 0) (qBar (σ 7 0) (σ 8 0) word) land day (σ 4 0 5).toNat ∧ σ 7 0 (inF (σ 6 0) (σ 9 0) (qBar (σ 7 0) (σ 8 0) word) land day (σ 4 0 5).toNat) = 0 then 1 else 0) ∧ σ = σ') := by
  refine CM.mk tD_ok (by decide +kernel) (Nat.le_of_ble_eq_true rfl) (fun G C => ?_)
  show G σ 0 [some (qr 4 0), some (qi land), some (qi word), some (qi day), none, none] []
  refine r_iconst C dX4_isBarred_0 ?_
  refine r_istore C dX4_isBarred_1 rfl rfl (by decide) ?_
  refine r_iconst C dX4_isBarred_3 ?_
  refine r_istore C dX4_isBarred_4 rfl rfl (by decide) ?_
  exact lp_X4_isBarred e l σ land word day hb hc hl hw hd C (fun z hz => ⟨_, rfl, hz, rfl⟩) (σ 4 0 5).toNat 0 _ rfl (by omega)
end
section
/-! bits -/
theorem z_nI (n : Nat) : nI n = Int32.ofInt (n : Int) := rfl
theorem z_tn (a : Int) : (Int32.ofInt a).toBitVec.toNat = (a % 4294967296).toNat := by
  rw [Int32.toBitVec_ofInt, BitVec.toNat_ofInt]
  rfl
theorem z_mask (a : Int) (k : Nat) (p : Int) (hp : ((2 ^ k : Nat) : Int) = p) (hd : p ∣ 4294967296) (hq : p ≤ 4294967296) : Int32.ofInt a &&& Int32.ofInt (p - 1) = Int32.ofInt (a % p) := by
  have h1 : 0 < 2 ^ k := Nat.two_pow_pos k
  have hm : (Int32.ofInt (p - 1)).toBitVec.toNat = 2 ^ k - 1 := by
    rw [z_tn, Int.emod_eq_of_lt (by omega) (by omega)]
    omega
  rw [pk_and _ k hm, z_tn, z_nI]
  congr 1
  have h2 : (((a % 4294967296).toNat % 2 ^ k : Nat) : Int) = ((a % 4294967296).toNat : Int) % ((2 ^ k : Nat) : Int) := by push_cast; rfl
  rw [h2, hp, Int.toNat_of_nonneg (Int.emod_nonneg _ (by decide)), Int.emod_emod_of_dvd _ hd]
/-! the laws -/
def barB (ld so wo dy : Int → Int) (n : Nat) (land word day : Int) : Bool := decide (0 ≤ inF ld dy (qBar so wo word) land day n ∧ so (inF ld dy (qBar so wo word) land day n) = 0)
def choF (ld so wo dy nm : Int → Int) (n : Nat) (land name day : Int) : Int := if inF ld dy (qCho so wo nm name) land day n < 0 then -1 else wo (inF ld dy (qCho so wo nm name) land day n)
def okW (ld so wo dy nm : Int → Int) (n : Nat) (land day word : Int) : Bool := decide (¬ barB ld so wo dy n land word day = true ∧ (nm word < 0 ∨ choF ld so wo dy nm n land (nm word) day < 0 ∨ choF ld so wo dy nm n land (nm word) day = word))
def allW (f : Int → Bool) : Nat → Bool
  | 0 => true
  | n + 1 => allW f n && f n
theorem allW_no {f : Int → Bool} {m : Nat} (h : f m = false) : ∀ n : Nat, m < n → allW f n = false
  | 0, hn => absurd hn (Nat.not_lt_zero _)
  | n + 1, hn => by
    simp only [allW]
    by_cases e : m = n
    · subst e
      rw [h, Bool.and_false]
    · rw [allW_no h n (by omega), Bool.false_and]
def cntE (f : Int → Int) (x : Int) : Nat → Int
  | 0 => 0
  | n + 1 => cntE f x n + (if f n = x then 1 else 0)
theorem cntE_le (f : Int → Int) (x : Int) : ∀ n : Nat, 0 ≤ cntE f x n ∧ cntE f x n ≤ n
  | 0 => by simp [cntE]
  | n + 1 => by
    have := cntE_le f x n
    simp only [cntE]
    split <;> omega
theorem c_isBarred (e : qR) (l : Launch) (σ : qSt) (land word day : Int) (hb : Bd σ) (hc : 0 ≤ σ 4 0 5 ∧ σ 4 0 5 ≤ 40) (hl : InI land) (hw : InI word) (hd : InI day) : CM (ED e) l yX4_isBarred cX4_isBarred 6 (some .boolean) 3 [qr 4 0, qi land, qi word, qi day] σ (Ri fun z σ' => z = (if barB (σ 6 0) (σ 7 0) (σ 8 0) (σ 9 0) (σ 4 0 5).toNat land word day = true then 1 else 0) ∧ σ = σ') :=
  (c_X4_isBarred e l σ land word day hb hc hl hw hd).weaken (fun r σ' h => by
    obtain ⟨z, rfl, hz, h2⟩ := h
    exact ⟨z, rfl, by rw [hz]; simp only [barB, decide_eq_true_eq], h2⟩)
set_option maxRecDepth 20000 in
theorem lp_X4_choiceFor {G : qSt → Nat → List (Option qV) → List qV → Prop} {Ret : Option qV → qSt → Prop} (e : qR) (l : Launch) (σ : qSt) (land name day : Int) (hb : Bd σ) (hc : 0 ≤ σ 4 0 5 ∧ σ 4 0 5 ≤ 40) (hW : ∀ t, 0 ≤ t → t < 40 → 0 ≤ σ 8 0 t ∧ σ 8 0 t < 32) (hl : InI land) (hw : InI name) (hd : InI day) (C : Cx (ED e) l RX4 cX4_choiceFor 6 (some .int) 3 Ret G) (hR : ∀ z, z = choF (σ 6 0) (σ 7 0) (σ 8 0) (σ 9 0) (σ 5 0) (σ 4 0 5).toNat land name day → Ret (some (qi z)) σ) : ∀ (k : Nat) (m : Nat) (f : Int), f = inF (σ 6 0) (σ 9 0) (qCho (σ 7 0) (σ 8 0) (σ 5 0) name) land day m → (m : Int) + k = σ 4 0 5 → G σ 6 [some (qr 4 0), some (qi land), some (qi name), some (qi day), some (qi f), some (qi (m : Int))] [] := by
  intro k
  induction k with
  | zero =>
    intro m f hf hm
    have hfl := inF_lt (σ 6 0) (σ 9 0) (qCho (σ 7 0) (σ 8 0) (σ 5 0) name) land day m
    rw [← hf] at hfl
    refine r_iload C dX4_choiceFor_6 rfl ?_
    refine r_aload_n C dX4_choiceFor_8 rfl ?_
    refine r_get_i (c := 1) 5 C dX4_choiceFor_9 fl_X4_27 rfl rfl rfl rfl (by decide) ?_
    have b9 := hb 4 0 5 (by omega) (by omega)
    refine r_ic_ge 65 C dX4_choiceFor_12 (by decide) (by omega) (by omega) (fun h12 => ?_) (fun h12 => ?_)
    · refine r_iload C dX4_choiceFor_65 rfl ?_
      refine r_if_ge 74 C dX4_choiceFor_67 (by decide) (by omega) (fun h67 => ?_) (fun h67 => ?_)
      · refine r_aload_n C dX4_choiceFor_74 rfl ?_
        refine r_get_r (c := 1) C dX4_choiceFor_75 fl_X4_21 rfl rfl rfl (by decide) rfl ?_
        refine r_iload C dX4_choiceFor_78 rfl ?_
        refine r_iald (c := 1) (N := 40) C dX4_choiceFor_80 rfl rfl (by decide) (by omega) ?_
        have b80 := hb 8 0 f (by omega) (by omega)
        refine r_iret C dX4_choiceFor_81 ?_
        exact hR _ (by simp only [choF]; rw [show (σ 4 0 5).toNat = m by omega, ← hf]; split <;> omega)
      · refine r_iconst C dX4_choiceFor_70 ?_
        refine r_goto 81 C dX4_choiceFor_71 (by decide) ?_
        refine r_iret C dX4_choiceFor_81 ?_
        exact hR _ (by simp only [choF]; rw [show (σ 4 0 5).toNat = m by omega, ← hf]; split <;> omega)
    · exfalso; omega
  | succ k ih =>
    intro m f hf hm
    have hfl := inF_lt (σ 6 0) (σ 9 0) (qCho (σ 7 0) (σ 8 0) (σ 5 0) name) land day m
    rw [← hf] at hfl
    refine r_iload C dX4_choiceFor_6 rfl ?_
    refine r_aload_n C dX4_choiceFor_8 rfl ?_
    refine r_get_i (c := 1) 5 C dX4_choiceFor_9 fl_X4_27 rfl rfl rfl rfl (by decide) ?_
    have b9 := hb 4 0 5 (by omega) (by omega)
    refine r_ic_ge 65 C dX4_choiceFor_12 (by decide) (by omega) (by omega) (fun h12 => ?_) (fun h12 => ?_)
    · exfalso; omega
    · refine r_aload_n C dX4_choiceFor_15 rfl ?_
      refine r_get_r (c := 1) C dX4_choiceFor_16 fl_X4_18 rfl rfl rfl (by decide) rfl ?_
      refine r_iload C dX4_choiceFor_19 rfl ?_
      refine r_iald (c := 1) (N := 40) C dX4_choiceFor_21 rfl rfl (by decide) (by omega) ?_
      have b21 := hb 7 0 (m : Int) (by omega) (by omega)
      refine r_iconst C dX4_choiceFor_22 ?_
      refine r_ic_ne 59 C dX4_choiceFor_23 (by decide) (by omega) (by omega) (fun h23 => ?_) (fun h23 => ?_)
      · refine r_iinc C dX4_choiceFor_59 rfl rfl rfl (by decide) ?_
        refine r_goto 6 C dX4_choiceFor_62 (by decide) ?_
        exact ih (m + 1) _ (by simp only [inF]; rw [← hf]; simp only [qCho, decide_eq_true_eq]; split <;> omega) (by omega)
      · refine r_aload_n C dX4_choiceFor_26 rfl ?_
        refine r_get_r (c := 1) C dX4_choiceFor_27 fl_X4_9 rfl rfl rfl (by decide) rfl ?_
        refine r_aload_n C dX4_choiceFor_30 rfl ?_
        refine r_get_r (c := 1) C dX4_choiceFor_31 fl_X4_21 rfl rfl rfl (by decide) rfl ?_
        refine r_iload C dX4_choiceFor_34 rfl ?_
        refine r_iald (c := 1) (N := 40) C dX4_choiceFor_36 rfl rfl (by decide) (by omega) ?_
        have b36 := hb 8 0 (m : Int) (by omega) (by omega)
        have w37 := hW (m : Int) (by omega) (by omega)
        refine r_iald (c := 1) (N := 32) C dX4_choiceFor_37 rfl rfl (by decide) (by omega) ?_
        have b37 := hb 5 0 (σ 8 0 (m : Int)) (by omega) (by omega)
        refine r_iload_n C dX4_choiceFor_38 rfl ?_
        refine r_ic_ne 59 C dX4_choiceFor_39 (by decide) (by omega) (by omega) (fun h39 => ?_) (fun h39 => ?_)
        · refine r_iinc C dX4_choiceFor_59 rfl rfl rfl (by decide) ?_
          refine r_goto 6 C dX4_choiceFor_62 (by decide) ?_
          exact ih (m + 1) _ (by simp only [inF]; rw [← hf]; simp only [qCho, decide_eq_true_eq]; split <;> omega) (by omega)
        · refine r_aload_n C dX4_choiceFor_42 rfl ?_
          refine r_iload C dX4_choiceFor_43 rfl ?_
          refine r_iload C dX4_choiceFor_45 rfl ?_
          refine r_iload_n C dX4_choiceFor_47 rfl ?_
          refine r_iload_n C dX4_choiceFor_48 rfl ?_
          refine r_cvi (c := 1) C dX4_choiceFor_49 mv_X4_31 (c_X4_overrules e l _ _ _ _ _ hb (by omega) (by omega) (by omega) (by omega)) (by decide) rfl rfl rfl rfl (by decide) rfl rfl (Nat.le_of_ble_eq_true rfl) (fun z49 σ49 h49 => ?_)
          obtain ⟨rfl, rfl⟩ := h49
          refine r_ifb_eq 59 C dX4_choiceFor_52 (by decide) (fun h52 => ?_) (fun h52 => ?_)
          · refine r_iinc C dX4_choiceFor_59 rfl rfl rfl (by decide) ?_
            refine r_goto 6 C dX4_choiceFor_62 (by decide) ?_
            exact ih (m + 1) _ (by simp only [inF]; rw [← hf]; simp only [qCho, decide_eq_true_eq]; split <;> omega) (by omega)
          · refine r_iload C dX4_choiceFor_55 rfl ?_
            refine r_istore C dX4_choiceFor_57 rfl rfl (by decide) ?_
            refine r_iinc C dX4_choiceFor_59 rfl rfl rfl (by decide) ?_
            refine r_goto 6 C dX4_choiceFor_62 (by decide) ?_
            exact ih (m + 1) _ (by simp only [inF]; rw [← hf]; simp only [qCho, decide_eq_true_eq]; split <;> omega) (by omega)
set_option maxRecDepth 20000 in
theorem c_X4_choiceFor (e : qR) (l : Launch) (σ : qSt) (land name day : Int) (hb : Bd σ) (hc : 0 ≤ σ 4 0 5 ∧ σ 4 0 5 ≤ 40) (hW : ∀ t, 0 ≤ t → t < 40 → 0 ≤ σ 8 0 t ∧ σ 8 0 t < 32) (hl : InI land) (hw : InI name) (hd : InI day) : CM (ED e) l yX4_choiceFor cX4_choiceFor 6 (some .int) 3 [qr 4 0, qi land, qi name, qi day] σ (Ri fun z σ' => z = choF (σ 6 0) (σ 7 0) (σ 8 0) (σ 9 0) (σ 5 0) (σ 4 0 5).toNat land name day ∧ σ = σ') := by
  refine CM.mk tD_ok (by decide +kernel) (Nat.le_of_ble_eq_true rfl) (fun G C => ?_)
  show G σ 0 [some (qr 4 0), some (qi land), some (qi name), some (qi day), none, none] []
  refine r_iconst C dX4_choiceFor_0 ?_
  refine r_istore C dX4_choiceFor_1 rfl rfl (by decide) ?_
  refine r_iconst C dX4_choiceFor_3 ?_
  refine r_istore C dX4_choiceFor_4 rfl rfl (by decide) ?_
  exact lp_X4_choiceFor e l σ land name day hb hc hW hl hw hd C (fun z hz => ⟨_, rfl, hz, rfl⟩) (σ 4 0 5).toNat 0 _ rfl (by omega)
theorem choF_rng {ld so wo dy nm : Int → Int} {n : Nat} {land name day : Int} (hn : n ≤ 40) (hW : ∀ t, 0 ≤ t → t < 40 → 0 ≤ wo t ∧ wo t < 32) : -1 ≤ choF ld so wo dy nm n land name day ∧ choF ld so wo dy nm n land name day < 32 := by
  unfold choF
  have := inF_lt ld dy (qCho so wo nm name) land day n
  split
  · omega
  · have := hW _ (by omega : 0 ≤ inF ld dy (qCho so wo nm name) land day n) (by omega)
    omega
set_option maxRecDepth 20000 in
theorem c_X4_allowsWord (e : qR) (l : Launch) (σ : qSt) (word land day : Int) (hb : Bd σ) (hc : 0 ≤ σ 4 0 5 ∧ σ 4 0 5 ≤ 40) (hW : ∀ t, 0 ≤ t → t < 40 → 0 ≤ σ 8 0 t ∧ σ 8 0 t < 32) (hl : InI land) (hw : 0 ≤ word ∧ word < 32) (hd : InI day) : CM (ED e) l yX4_allowsWord cX4_allowsWord 5 (some .boolean) 4 [qr 4 0, qi word, qi land, qi day] σ (Ri fun z σ' => z = (if okW (σ 6 0) (σ 7 0) (σ 8 0) (σ 9 0) (σ 5 0) (σ 4 0 5).toNat land day word = true then 1 else 0) ∧ σ = σ') := by
  refine CM.mk tD_ok (by decide +kernel) (Nat.le_of_ble_eq_true rfl) (fun G C => ?_)
  show G σ 0 [some (qr 4 0), some (qi word), some (qi land), some (qi day), none] []
  refine r_aload_n C dX4_allowsWord_0 rfl ?_
  refine r_iload_n C dX4_allowsWord_1 rfl ?_
  refine r_iload_n C dX4_allowsWord_2 rfl ?_
  refine r_iload_n C dX4_allowsWord_3 rfl ?_
  refine r_cvi (c := 1) C dX4_allowsWord_4 mv_X4_45 (c_isBarred e l _ _ _ _ hb hc (by omega) (by omega) (by omega)) (by decide) rfl rfl rfl rfl (by decide) rfl rfl (Nat.le_of_ble_eq_true rfl) (fun z4 σ4 h4 => ?_)
  obtain ⟨rfl, rfl⟩ := h4
  refine r_ifb_eq 12 C dX4_allowsWord_7 (by decide) (fun h7 => ?_) (fun h7 => ?_)
  · refine r_aload_n C dX4_allowsWord_12 rfl ?_
    refine r_get_r (c := 1) C dX4_allowsWord_13 fl_X4_9 rfl rfl rfl (by decide) rfl ?_
    refine r_iload_n C dX4_allowsWord_16 rfl ?_
    refine r_iald (c := 1) (N := 32) C dX4_allowsWord_17 rfl rfl (by decide) (by omega) ?_
    have b17 := hb 5 0 word (by omega) (by omega)
    refine r_if_ge 23 C dX4_allowsWord_18 (by decide) (by omega) (fun h18 => ?_) (fun h18 => ?_)
    · refine r_aload_n C dX4_allowsWord_23 rfl ?_
      refine r_iload_n C dX4_allowsWord_24 rfl ?_
      refine r_aload_n C dX4_allowsWord_25 rfl ?_
      refine r_get_r (c := 1) C dX4_allowsWord_26 fl_X4_9 rfl rfl rfl (by decide) rfl ?_
      refine r_iload_n C dX4_allowsWord_29 rfl ?_
      refine r_iald (c := 1) (N := 32) C dX4_allowsWord_30 rfl rfl (by decide) (by omega) ?_
      have b30 := hb 5 0 word (by omega) (by omega)
      refine r_iload_n C dX4_allowsWord_31 rfl ?_
      refine r_cvi (c := 1) C dX4_allowsWord_32 mv_X4_48 (c_X4_choiceFor e l _ _ _ _ hb hc hW (by omega) (by omega) (by omega)) (by decide) rfl rfl rfl rfl (by decide) rfl rfl (Nat.le_of_ble_eq_true rfl) (fun z32 σ32 h32 => ?_)
      obtain ⟨rfl, rfl⟩ := h32
      have hch := choF_rng (ld := σ 6 0) (so := σ 7 0) (wo := σ 8 0) (dy := σ 9 0) (nm := σ 5 0) (n := (σ 4 0 5).toNat) (land := land) (name := σ 5 0 word) (day := day) (by omega) hW
      refine r_istore C dX4_allowsWord_35 rfl rfl (by decide) ?_
      refine r_iload C dX4_allowsWord_37 rfl ?_
      refine r_if_lt 48 C dX4_allowsWord_39 (by decide) (by omega) (fun h39 => ?_) (fun h39 => ?_)
      · refine r_iconst C dX4_allowsWord_48 ?_
        refine r_goto 53 C dX4_allowsWord_49 (by decide) ?_
        refine r_zret C dX4_allowsWord_53 (by decide) ?_
        exact ⟨_, rfl, (if_pos (by simp only [okW, decide_eq_true_eq]; exact ⟨h7, by omega⟩)).symm, rfl⟩
      · refine r_iload C dX4_allowsWord_42 rfl ?_
        refine r_iload_n C dX4_allowsWord_44 rfl ?_
        refine r_ic_ne 52 C dX4_allowsWord_45 (by decide) (by omega) (by omega) (fun h45 => ?_) (fun h45 => ?_)
        · refine r_iconst C dX4_allowsWord_52 ?_
          refine r_zret C dX4_allowsWord_53 (by decide) ?_
          exact ⟨_, rfl, (if_neg (by simp only [okW, decide_eq_true_eq]; exact fun q => by have := q.2; omega)).symm, rfl⟩
        · refine r_iconst C dX4_allowsWord_48 ?_
          refine r_goto 53 C dX4_allowsWord_49 (by decide) ?_
          refine r_zret C dX4_allowsWord_53 (by decide) ?_
          exact ⟨_, rfl, (if_pos (by simp only [okW, decide_eq_true_eq]; exact ⟨h7, by omega⟩)).symm, rfl⟩
    · refine r_iconst C dX4_allowsWord_21 ?_
      refine r_zret C dX4_allowsWord_22 (by decide) ?_
      exact ⟨_, rfl, (if_pos (by simp only [okW, decide_eq_true_eq]; exact ⟨h7, Or.inl h18⟩)).symm, rfl⟩
  · refine r_iconst C dX4_allowsWord_10 ?_
    refine r_zret C dX4_allowsWord_11 (by decide) ?_
    exact ⟨_, rfl, (if_neg (by simp only [okW, decide_eq_true_eq]; exact fun q => q.1 h7)).symm, rfl⟩
set_option maxRecDepth 20000 in
theorem lp_X4_allows {G : qSt → Nat → List (Option qV) → List qV → Prop} {Ret : Option qV → qSt → Prop} (e : qR) (l : Launch) (σ : qSt) (w land day : Int) (hb : Bd σ) (hc : 0 ≤ σ 4 0 5 ∧ σ 4 0 5 ≤ 40) (hW : ∀ t, 0 ≤ t → t < 40 → 0 ≤ σ 8 0 t ∧ σ 8 0 t < 32) (hl : InI land) (hd : InI day) (hw : 0 ≤ w ∧ w < 20) (hs : 0 ≤ σ 105 w 7 ∧ σ 105 w 7 ≤ 8) (hV : ∀ t, 0 ≤ t → t < 8 → 0 ≤ σ 109 w t ∧ σ 109 w t < 32) (C : Cx (ED e) l RX4 cX4_allows 5 (some .boolean) 5 Ret G) (hR : ∀ z, z = (if allW (fun i => okW (σ 6 0) (σ 7 0) (σ 8 0) (σ 9 0) (σ 5 0) (σ 4 0 5).toNat land day (σ 109 w i)) (σ 105 w 7).toNat = true then 1 else 0) → Ret (some (qi z)) σ) : ∀ (k : Nat) (m : Nat), allW (fun i => okW (σ 6 0) (σ 7 0) (σ 8 0) (σ 9 0) (σ 5 0) (σ 4 0 5).toNat land day (σ 109 w i)) m = true → (m : Int) + k = σ 105 w 7 → G σ 3 [some (qr 4 0), some (qr 105 w), some (qi land), some (qi day), some (qi (m : Int))] [] := by
  intro k
  induction k with
  | zero =>
    intro m hf hm
    refine r_iload C dX4_allows_3 rfl ?_
    refine r_aload_n C dX4_allows_5 rfl ?_
    refine r_get_i (c := 20) 7 C dX4_allows_6 fl_X4_35 rfl rfl rfl rfl (by omega) ?_
    have b6 := hb 105 w 7 (by omega) (by omega)
    refine r_ic_ge 36 C dX4_allows_9 (by decide) (by omega) (by omega) (fun h9 => ?_) (fun h9 => ?_)
    · refine r_iconst C dX4_allows_36 ?_
      refine r_zret C dX4_allows_37 (by decide) ?_
      exact hR _ (by rw [show (σ 105 w 7).toNat = m by omega, hf]; rfl)
    · exfalso; omega
  | succ k ih =>
    intro m hf hm
    refine r_iload C dX4_allows_3 rfl ?_
    refine r_aload_n C dX4_allows_5 rfl ?_
    refine r_get_i (c := 20) 7 C dX4_allows_6 fl_X4_35 rfl rfl rfl rfl (by omega) ?_
    have b6 := hb 105 w 7 (by omega) (by omega)
    refine r_ic_ge 36 C dX4_allows_9 (by decide) (by omega) (by omega) (fun h9 => ?_) (fun h9 => ?_)
    · exfalso; omega
    · refine r_aload_n C dX4_allows_12 rfl ?_
      refine r_aload_n C dX4_allows_13 rfl ?_
      refine r_get_r (c := 20) C dX4_allows_14 fl_X4_40 rfl rfl rfl (by omega) rfl ?_
      refine r_iload C dX4_allows_17 rfl ?_
      refine r_iald (c := 20) (N := 8) C dX4_allows_19 rfl rfl (by omega) (by omega) ?_
      have b19 := hb 109 w (m : Int) (by omega) (by omega)
      have w20 := hV (m : Int) (by omega) (by omega)
      refine r_iload_n C dX4_allows_20 rfl ?_
      refine r_iload_n C dX4_allows_21 rfl ?_
      refine r_cvi (c := 1) C dX4_allows_22 mv_X4_41 (c_X4_allowsWord e l _ _ _ _ hb hc hW (by omega) (by omega) (by omega)) (by decide) rfl rfl rfl rfl (by decide) rfl rfl (Nat.le_of_ble_eq_true rfl) (fun z22 σ22 h22 => ?_)
      obtain ⟨rfl, rfl⟩ := h22
      refine r_ifb_ne 30 C dX4_allows_25 (by decide) (fun h25 => ?_) (fun h25 => ?_)
      · refine r_iinc C dX4_allows_30 rfl rfl rfl (by decide) ?_
        refine r_goto 3 C dX4_allows_33 (by decide) ?_
        exact ih (m + 1) (by simp only [allW, hf, Bool.true_and]; exact h25) (by omega)
      · refine r_iconst C dX4_allows_28 ?_
        refine r_zret C dX4_allows_29 (by decide) ?_
        exact hR _ (by rw [allW_no (m := m) (by simpa using h25) _ (by omega)]; rfl)
set_option maxRecDepth 20000 in
theorem c_X4_allows (e : qR) (l : Launch) (σ : qSt) (w land day : Int) (hb : Bd σ) (hc : 0 ≤ σ 4 0 5 ∧ σ 4 0 5 ≤ 40) (hW : ∀ t, 0 ≤ t → t < 40 → 0 ≤ σ 8 0 t ∧ σ 8 0 t < 32) (hl : InI land) (hd : InI day) (hw : 0 ≤ w ∧ w < 20) (hs : 0 ≤ σ 105 w 7 ∧ σ 105 w 7 ≤ 8) (hV : ∀ t, 0 ≤ t → t < 8 → 0 ≤ σ 109 w t ∧ σ 109 w t < 32) : CM (ED e) l yX4_allows cX4_allows 5 (some .boolean) 5 [qr 4 0, qr 105 w, qi land, qi day] σ (Ri fun z σ' => z = (if allW (fun i => okW (σ 6 0) (σ 7 0) (σ 8 0) (σ 9 0) (σ 5 0) (σ 4 0 5).toNat land day (σ 109 w i)) (σ 105 w 7).toNat = true then 1 else 0) ∧ σ = σ') := by
  refine CM.mk tD_ok (by decide +kernel) (Nat.le_of_ble_eq_true rfl) (fun G C => ?_)
  show G σ 0 [some (qr 4 0), some (qr 105 w), some (qi land), some (qi day), none] []
  refine r_iconst C dX4_allows_0 ?_
  refine r_istore C dX4_allows_1 rfl rfl (by decide) ?_
  exact lp_X4_allows e l σ w land day hb hc hW hl hd hw hs hV C (fun z hz => ⟨_, rfl, hz, rfl⟩) (σ 105 w 7).toNat 0 rfl (by omega)
end
section
/-! the class: lines, wordings, sheets, acts -/
/-- cost of a syllable's shape over a frame's, by the wording's kind -/
def cOv (own shape kind : Int) : Int := if own = shape ∨ kind = 2 then 0 else if own = 0 ∨ shape = 0 then (if kind = 3 then 0 else 3) else 1
theorem cOv_rng (own shape kind : Int) : 0 ≤ cOv own shape kind ∧ cOv own shape kind ≤ 3 := by
  unfold cOv
  split
  · omega
  · split
    · split <;> omega
    · omega
def qFil (σ : qSt) (k : Nat) (i lo hi z : Int) : qSt := fun a b c => if a = k ∧ b = i ∧ lo ≤ c ∧ c < hi then z else σ a b c
theorem qFil_0 (σ : qSt) (k : Nat) (i lo z : Int) : qFil σ k i lo lo z = σ := by
  funext a b c
  simp only [qFil]
  rw [if_neg]
  omega
theorem qFil_s (σ : qSt) (k : Nat) (i lo hi z : Int) (h : lo ≤ hi) : qUp (qFil σ k i lo hi z) k i hi z = qFil σ k i lo (hi + 1) z := by
  funext a b c
  simp only [qUp, qFil]
  by_cases h1 : a = k ∧ b = i ∧ c = hi
  · rw [if_pos h1, if_pos (by omega)]
  · rw [if_neg h1]
    by_cases h2 : a = k ∧ b = i ∧ lo ≤ c ∧ c < hi
    · rw [if_pos h2, if_pos (by omega)]
    · rw [if_neg h2, if_neg (by omega)]
set_option maxRecDepth 20000 in
theorem c_X9_begin (e : qR) (l : Launch) (σ : qSt) (w li ki se : Int) (hw : 0 ≤ w ∧ w < 20) : CM (ED e) l yX9_begin cX9_begin 4 none 2 [qr 105 w, qi li, qi ki, qi se] σ (Rv fun σ' => σ' = qUp (qUp (qUp (qUp σ 105 w 4 li) 105 w 5 ki) 105 w 6 se) 105 w 7 0) := by
  refine CM.mk tD_ok (by decide +kernel) (Nat.le_of_ble_eq_true rfl) (fun G C => ?_)
  show G σ 0 [some (qr 105 w), some (qi li), some (qi ki), some (qi se)] []
  refine r_aload_n C dX9_begin_0 rfl ?_
  refine r_iload_n C dX9_begin_1 rfl ?_
  refine r_put_i (c := 20) 4 C dX9_begin_2 fw_X9_24 rfl rfl rfl rfl (by omega) rfl rfl ?_
  refine r_aload_n C dX9_begin_5 rfl ?_
  refine r_iload_n C dX9_begin_6 rfl ?_
  refine r_put_i (c := 20) 5 C dX9_begin_7 fw_X9_28 rfl rfl rfl rfl (by omega) rfl rfl ?_
  refine r_aload_n C dX9_begin_10 rfl ?_
  refine r_iload_n C dX9_begin_11 rfl ?_
  refine r_put_i (c := 20) 6 C dX9_begin_12 fw_X9_31 rfl rfl rfl rfl (by omega) rfl rfl ?_
  refine r_aload_n C dX9_begin_15 rfl ?_
  refine r_iconst C dX9_begin_16 ?_
  refine r_put_i (c := 20) 7 C dX9_begin_17 fw_X9_34 rfl rfl rfl rfl (by omega) rfl rfl ?_
  refine r_vret C dX9_begin_20 ?_
  exact ⟨rfl, rfl⟩
set_option maxRecDepth 20000 in
theorem c_X9_append (e : qR) (l : Launch) (σ : qSt) (w s0 s1 s2 s3 : Int) (hw : 0 ≤ w ∧ w < 20) (hs : 0 ≤ σ 105 w 7 ∧ σ 105 w 7 < 8) : CM (ED e) l yX9_append cX9_append 5 none 2 [qr 105 w, qi s0, qi s1, qi s2, qi s3] σ (Rv fun σ' => σ' = qUp (qUp (qUp (qUp (qUp σ 106 w (σ 105 w 7) s0) 107 w (σ 105 w 7) s1) 108 w (σ 105 w 7) s2) 109 w (σ 105 w 7) s3) 105 w 7 (σ 105 w 7 + 1)) := by
  refine CM.mk tD_ok (by decide +kernel) (Nat.le_of_ble_eq_true rfl) (fun G C => ?_)
  show G σ 0 [some (qr 105 w), some (qi s0), some (qi s1), some (qi s2), some (qi s3)] []
  refine r_aload_n C dX9_append_0 rfl ?_
  refine r_get_r (c := 20) C dX9_append_1 fl_X9_9 rfl rfl rfl (by omega) rfl ?_
  refine r_aload_n C dX9_append_4 rfl ?_
  refine r_get_i (c := 20) 7 C dX9_append_5 fl_X9_34 rfl rfl rfl rfl (by omega) ?_
  refine r_iload_n C dX9_append_8 rfl ?_
  refine r_iast (c := 20) (N := 8) C dX9_append_9 rfl rfl (by omega) (by omega) ?_
  refine r_aload_n C dX9_append_10 rfl ?_
  refine r_get_r (c := 20) C dX9_append_11 fl_X9_15 rfl rfl rfl (by omega) rfl ?_
  refine r_aload_n C dX9_append_14 rfl ?_
  refine r_get_i (c := 20) 7 C dX9_append_15 fl_X9_34 rfl rfl rfl rfl (by omega) ?_
  refine r_v (b := (σ 105 w 7)) (by simp [qUp, qCpy]) ?_
  refine r_iload_n C dX9_append_18 rfl ?_
  refine r_iast (c := 20) (N := 8) C dX9_append_19 rfl rfl (by omega) (by omega) ?_
  refine r_aload_n C dX9_append_20 rfl ?_
  refine r_get_r (c := 20) C dX9_append_21 fl_X9_18 rfl rfl rfl (by omega) rfl ?_
  refine r_aload_n C dX9_append_24 rfl ?_
  refine r_get_i (c := 20) 7 C dX9_append_25 fl_X9_34 rfl rfl rfl rfl (by omega) ?_
  refine r_v (b := (σ 105 w 7)) (by simp [qUp, qCpy]) ?_
  refine r_iload_n C dX9_append_28 rfl ?_
  refine r_iast (c := 20) (N := 8) C dX9_append_29 rfl rfl (by omega) (by omega) ?_
  refine r_aload_n C dX9_append_30 rfl ?_
  refine r_get_r (c := 20) C dX9_append_31 fl_X9_21 rfl rfl rfl (by omega) rfl ?_
  refine r_aload_n C dX9_append_34 rfl ?_
  refine r_get_i (c := 20) 7 C dX9_append_35 fl_X9_34 rfl rfl rfl rfl (by omega) ?_
  refine r_v (b := (σ 105 w 7)) (by simp [qUp, qCpy]) ?_
  refine r_iload C dX9_append_38 rfl ?_
  refine r_iast (c := 20) (N := 8) C dX9_append_40 rfl rfl (by omega) (by omega) ?_
  refine r_aload_n C dX9_append_41 rfl ?_
  refine r_dup C dX9_append_42 ?_
  refine r_get_i (c := 20) 7 C dX9_append_43 fl_X9_34 rfl rfl rfl rfl (by omega) ?_
  refine r_v (b := (σ 105 w 7)) (by simp [qUp, qCpy]) ?_
  refine r_iconst C dX9_append_46 ?_
  refine r_iadd C dX9_append_47 ?_
  refine r_put_i (c := 20) 7 C dX9_append_48 fw_X9_34 rfl rfl rfl rfl (by omega) rfl rfl ?_
  refine r_vret C dX9_append_51 ?_
  exact ⟨rfl, rfl⟩
set_option maxRecDepth 20000 in
theorem c_X9_longest (e : qR) (l : Launch) (σ : qSt) (w i : Int) (hb : Bd σ) (hw : 0 ≤ w ∧ w < 20) (hi : 0 ≤ i ∧ i < 8) : CM (ED e) l yX9_longest cX9_longest 2 (some .int) 2 [qr 105 w, qi i] σ (Ri fun z σ' => z = (if σ 105 w 5 = 1 ∨ σ 105 w 5 = 3 then σ 107 w i else σ 108 w i) ∧ σ = σ') := by
  refine CM.mk tD_ok (by decide +kernel) (Nat.le_of_ble_eq_true rfl) (fun G C => ?_)
  show G σ 0 [some (qr 105 w), some (qi i)] []
  refine r_aload_n C dX9_longest_0 rfl ?_
  refine r_get_i (c := 20) 5 C dX9_longest_1 fl_X9_28 rfl rfl rfl rfl (by omega) ?_
  have b1 := hb 105 w 5 (by omega) (by omega)
  refine r_iconst C dX9_longest_4 ?_
  refine r_ic_eq 16 C dX9_longest_5 (by decide) (by omega) (by omega) (fun h5 => ?_) (fun h5 => ?_)
  · refine r_aload_n C dX9_longest_16 rfl ?_
    refine r_get_r (c := 20) C dX9_longest_17 fl_X9_15 rfl rfl rfl (by omega) rfl ?_
    refine r_iload_n C dX9_longest_20 rfl ?_
    refine r_iald (c := 20) (N := 8) C dX9_longest_21 rfl rfl (by omega) (by omega) ?_
    have b21 := hb 107 w i (by omega) (by omega)
    refine r_goto 31 C dX9_longest_22 (by decide) ?_
    refine r_iret C dX9_longest_31 ?_
    exact ⟨_, rfl, by first | (rw [if_pos (by omega)]) | (rw [if_neg (by omega)]), rfl⟩
  · refine r_aload_n C dX9_longest_8 rfl ?_
    refine r_get_i (c := 20) 5 C dX9_longest_9 fl_X9_28 rfl rfl rfl rfl (by omega) ?_
    have b9 := hb 105 w 5 (by omega) (by omega)
    refine r_iconst C dX9_longest_12 ?_
    refine r_ic_ne 25 C dX9_longest_13 (by decide) (by omega) (by omega) (fun h13 => ?_) (fun h13 => ?_)
    · refine r_aload_n C dX9_longest_25 rfl ?_
      refine r_get_r (c := 20) C dX9_longest_26 fl_X9_18 rfl rfl rfl (by omega) rfl ?_
      refine r_iload_n C dX9_longest_29 rfl ?_
      refine r_iald (c := 20) (N := 8) C dX9_longest_30 rfl rfl (by omega) (by omega) ?_
      have b30 := hb 108 w i (by omega) (by omega)
      refine r_iret C dX9_longest_31 ?_
      exact ⟨_, rfl, by first | (rw [if_pos (by omega)]) | (rw [if_neg (by omega)]), rfl⟩
    · refine r_aload_n C dX9_longest_16 rfl ?_
      refine r_get_r (c := 20) C dX9_longest_17 fl_X9_15 rfl rfl rfl (by omega) rfl ?_
      refine r_iload_n C dX9_longest_20 rfl ?_
      refine r_iald (c := 20) (N := 8) C dX9_longest_21 rfl rfl (by omega) (by omega) ?_
      have b21 := hb 107 w i (by omega) (by omega)
      refine r_goto 31 C dX9_longest_22 (by decide) ?_
      refine r_iret C dX9_longest_31 ?_
      exact ⟨_, rfl, by first | (rw [if_pos (by omega)]) | (rw [if_neg (by omega)]), rfl⟩
set_option maxRecDepth 20000 in
theorem c_X9_costOver (e : qR) (l : Launch) (σ : qSt) (w i shp : Int) (hb : Bd σ) (hw : 0 ≤ w ∧ w < 20) (hi : 0 ≤ i ∧ i < 8) (hs : InI shp) : CM (ED e) l yX9_costOver cX9_costOver 4 (some .int) 2 [qr 105 w, qi i, qi shp] σ (Ri fun z σ' => z = cOv (σ 106 w i) shp (σ 105 w 5) ∧ σ = σ') := by
  refine CM.mk tD_ok (by decide +kernel) (Nat.le_of_ble_eq_true rfl) (fun G C => ?_)
  show G σ 0 [some (qr 105 w), some (qi i), some (qi shp), none] []
  refine r_aload_n C dX9_costOver_0 rfl ?_
  refine r_get_r (c := 20) C dX9_costOver_1 fl_X9_9 rfl rfl rfl (by omega) rfl ?_
  refine r_iload_n C dX9_costOver_4 rfl ?_
  refine r_iald (c := 20) (N := 8) C dX9_costOver_5 rfl rfl (by omega) (by omega) ?_
  have b5 := hb 106 w i (by omega) (by omega)
  refine r_istore_n C dX9_costOver_6 rfl rfl (by decide) ?_
  refine r_iload_n C dX9_costOver_7 rfl ?_
  refine r_iload_n C dX9_costOver_8 rfl ?_
  refine r_ic_eq 20 C dX9_costOver_9 (by decide) (by omega) (by omega) (fun h9 => ?_) (fun h9 => ?_)
  · refine r_iconst C dX9_costOver_20 ?_
    refine r_iret C dX9_costOver_21 ?_
    exact ⟨_, rfl, by simp only [cOv]; omega, rfl⟩
  · refine r_aload_n C dX9_costOver_12 rfl ?_
    refine r_get_i (c := 20) 5 C dX9_costOver_13 fl_X9_28 rfl rfl rfl rfl (by omega) ?_
    have b13 := hb 105 w 5 (by omega) (by omega)
    refine r_iconst C dX9_costOver_16 ?_
    refine r_ic_ne 22 C dX9_costOver_17 (by decide) (by omega) (by omega) (fun h17 => ?_) (fun h17 => ?_)
    · refine r_iload_n C dX9_costOver_22 rfl ?_
      refine r_if_eq 30 C dX9_costOver_23 (by decide) (by omega) (fun h23 => ?_) (fun h23 => ?_)
      · refine r_aload_n C dX9_costOver_30 rfl ?_
        refine r_get_i (c := 20) 5 C dX9_costOver_31 fl_X9_28 rfl rfl rfl rfl (by omega) ?_
        have b31 := hb 105 w 5 (by omega) (by omega)
        refine r_iconst C dX9_costOver_34 ?_
        refine r_ic_ne 42 C dX9_costOver_35 (by decide) (by omega) (by omega) (fun h35 => ?_) (fun h35 => ?_)
        · refine r_iconst C dX9_costOver_42 ?_
          refine r_iret C dX9_costOver_43 ?_
          exact ⟨_, rfl, by simp only [cOv]; omega, rfl⟩
        · refine r_iconst C dX9_costOver_38 ?_
          refine r_goto 43 C dX9_costOver_39 (by decide) ?_
          refine r_iret C dX9_costOver_43 ?_
          exact ⟨_, rfl, by simp only [cOv]; omega, rfl⟩
      · refine r_iload_n C dX9_costOver_26 rfl ?_
        refine r_if_ne 44 C dX9_costOver_27 (by decide) (by omega) (fun h27 => ?_) (fun h27 => ?_)
        · refine r_iconst C dX9_costOver_44 ?_
          refine r_iret C dX9_costOver_45 ?_
          exact ⟨_, rfl, by simp only [cOv]; omega, rfl⟩
        · refine r_aload_n C dX9_costOver_30 rfl ?_
          refine r_get_i (c := 20) 5 C dX9_costOver_31 fl_X9_28 rfl rfl rfl rfl (by omega) ?_
          have b31 := hb 105 w 5 (by omega) (by omega)
          refine r_iconst C dX9_costOver_34 ?_
          refine r_ic_ne 42 C dX9_costOver_35 (by decide) (by omega) (by omega) (fun h35 => ?_) (fun h35 => ?_)
          · refine r_iconst C dX9_costOver_42 ?_
            refine r_iret C dX9_costOver_43 ?_
            exact ⟨_, rfl, by simp only [cOv]; omega, rfl⟩
          · refine r_iconst C dX9_costOver_38 ?_
            refine r_goto 43 C dX9_costOver_39 (by decide) ?_
            refine r_iret C dX9_costOver_43 ?_
            exact ⟨_, rfl, by simp only [cOv]; omega, rfl⟩
    · refine r_iconst C dX9_costOver_20 ?_
      refine r_iret C dX9_costOver_21 ?_
      exact ⟨_, rfl, by simp only [cOv]; omega, rfl⟩
set_option maxRecDepth 20000 in
theorem c_X9_isOfKind_0 (e : qR) (l : Launch) (σ : qSt) (w x : Int) (hx : 0 ≤ x ∧ x < 4) (hw : 0 ≤ w ∧ w < 20) (hk : σ 105 w 5 = 0) : CM (ED e) l yX9_isOfKind cX9_isOfKind 4 (some .boolean) 2 [qr 105 w, qi x] σ (Ri fun z σ' => z = (if x = 0 then 1 else 0) ∧ σ = σ') := by
  refine CM.mk tD_ok (by decide +kernel) (Nat.le_of_ble_eq_true rfl) (fun G C => ?_)
  show G σ 0 [some (qr 105 w), some (qi x), none, none] []
  refine r_aload_n C dX9_isOfKind_0 rfl ?_
  refine r_get_i (c := 20) 5 C dX9_isOfKind_1 fl_X9_28 rfl rfl rfl rfl (by omega) ?_
  refine r_v hk ?_
  refine r_istore_n C dX9_isOfKind_4 rfl rfl (by decide) ?_
  refine r_iconst C dX9_isOfKind_5 ?_
  refine r_istore_n C dX9_isOfKind_6 rfl rfl (by decide) ?_
  refine r_iload_n C dX9_isOfKind_7 rfl ?_
  refine r_iconst C dX9_isOfKind_8 ?_
  refine r_ic_ge 35 C dX9_isOfKind_9 (by decide) (by decide) (by decide) (fun h => absurd h (by decide)) (fun _ => ?_)
  refine r_iload_n C dX9_isOfKind_12 rfl ?_
  refine r_if_lt 35 C dX9_isOfKind_13 (by decide) (by decide) (fun h => absurd h (by decide)) (fun _ => ?_)
  refine r_iload_n C dX9_isOfKind_16 rfl ?_
  refine r_iload_n C dX9_isOfKind_17 rfl ?_
  refine r_ic_ne 23 C dX9_isOfKind_18 (by decide) (by omega) (by omega) (fun h18 => ?_) (fun h18 => ?_)
  · refine r_getst C dX9_isOfKind_23 ?_
    refine r_iload_n C dX9_isOfKind_26 rfl ?_
    refine r_uald (v := -1) C dX9_isOfKind_27 (by decide) (by decide) ?_
    refine r_istore_n C dX9_isOfKind_28 rfl rfl (by decide) ?_
    refine r_iinc C dX9_isOfKind_29 rfl rfl rfl (by decide) ?_
    refine r_goto 7 C dX9_isOfKind_32 (by decide) ?_
    refine r_iload_n C dX9_isOfKind_7 rfl ?_
    refine r_iconst C dX9_isOfKind_8 ?_
    refine r_ic_ge 35 C dX9_isOfKind_9 (by decide) (by decide) (by decide) (fun h => absurd h (by decide)) (fun _ => ?_)
    refine r_iload_n C dX9_isOfKind_12 rfl ?_
    refine r_if_lt 35 C dX9_isOfKind_13 (by decide) (by decide) (fun _ => ?_) (fun h => absurd h (by decide))
    refine r_iconst C dX9_isOfKind_35 ?_
    refine r_zret C dX9_isOfKind_36 (by decide) ?_
    exact ⟨_, rfl, by omega, rfl⟩
  · refine r_iconst C dX9_isOfKind_21 ?_
    refine r_zret C dX9_isOfKind_22 (by decide) ?_
    exact ⟨_, rfl, by omega, rfl⟩
set_option maxRecDepth 20000 in
theorem c_X9_isOfKind_1 (e : qR) (l : Launch) (σ : qSt) (w x : Int) (hx : 0 ≤ x ∧ x < 4) (hw : 0 ≤ w ∧ w < 20) (hk : σ 105 w 5 = 1) : CM (ED e) l yX9_isOfKind cX9_isOfKind 4 (some .boolean) 2 [qr 105 w, qi x] σ (Ri fun z σ' => z = (if x = 1 ∨ x = 0 then 1 else 0) ∧ σ = σ') := by
  refine CM.mk tD_ok (by decide +kernel) (Nat.le_of_ble_eq_true rfl) (fun G C => ?_)
  show G σ 0 [some (qr 105 w), some (qi x), none, none] []
  refine r_aload_n C dX9_isOfKind_0 rfl ?_
  refine r_get_i (c := 20) 5 C dX9_isOfKind_1 fl_X9_28 rfl rfl rfl rfl (by omega) ?_
  refine r_v hk ?_
  refine r_istore_n C dX9_isOfKind_4 rfl rfl (by decide) ?_
  refine r_iconst C dX9_isOfKind_5 ?_
  refine r_istore_n C dX9_isOfKind_6 rfl rfl (by decide) ?_
  refine r_iload_n C dX9_isOfKind_7 rfl ?_
  refine r_iconst C dX9_isOfKind_8 ?_
  refine r_ic_ge 35 C dX9_isOfKind_9 (by decide) (by decide) (by decide) (fun h => absurd h (by decide)) (fun _ => ?_)
  refine r_iload_n C dX9_isOfKind_12 rfl ?_
  refine r_if_lt 35 C dX9_isOfKind_13 (by decide) (by decide) (fun h => absurd h (by decide)) (fun _ => ?_)
  refine r_iload_n C dX9_isOfKind_16 rfl ?_
  refine r_iload_n C dX9_isOfKind_17 rfl ?_
  refine r_ic_ne 23 C dX9_isOfKind_18 (by decide) (by omega) (by omega) (fun h18 => ?_) (fun h18 => ?_)
  · refine r_getst C dX9_isOfKind_23 ?_
    refine r_iload_n C dX9_isOfKind_26 rfl ?_
    refine r_uald (v := 0) C dX9_isOfKind_27 (by decide) (by decide) ?_
    refine r_istore_n C dX9_isOfKind_28 rfl rfl (by decide) ?_
    refine r_iinc C dX9_isOfKind_29 rfl rfl rfl (by decide) ?_
    refine r_goto 7 C dX9_isOfKind_32 (by decide) ?_
    refine r_iload_n C dX9_isOfKind_7 rfl ?_
    refine r_iconst C dX9_isOfKind_8 ?_
    refine r_ic_ge 35 C dX9_isOfKind_9 (by decide) (by decide) (by decide) (fun h => absurd h (by decide)) (fun _ => ?_)
    refine r_iload_n C dX9_isOfKind_12 rfl ?_
    refine r_if_lt 35 C dX9_isOfKind_13 (by decide) (by decide) (fun h => absurd h (by decide)) (fun _ => ?_)
    refine r_iload_n C dX9_isOfKind_16 rfl ?_
    refine r_iload_n C dX9_isOfKind_17 rfl ?_
    refine r_ic_ne 23 C dX9_isOfKind_18 (by decide) (by omega) (by omega) (fun h18 => ?_) (fun h18 => ?_)
    · refine r_getst C dX9_isOfKind_23 ?_
      refine r_iload_n C dX9_isOfKind_26 rfl ?_
      refine r_uald (v := -1) C dX9_isOfKind_27 (by decide) (by decide) ?_
      refine r_istore_n C dX9_isOfKind_28 rfl rfl (by decide) ?_
      refine r_iinc C dX9_isOfKind_29 rfl rfl rfl (by decide) ?_
      refine r_goto 7 C dX9_isOfKind_32 (by decide) ?_
      refine r_iload_n C dX9_isOfKind_7 rfl ?_
      refine r_iconst C dX9_isOfKind_8 ?_
      refine r_ic_ge 35 C dX9_isOfKind_9 (by decide) (by decide) (by decide) (fun h => absurd h (by decide)) (fun _ => ?_)
      refine r_iload_n C dX9_isOfKind_12 rfl ?_
      refine r_if_lt 35 C dX9_isOfKind_13 (by decide) (by decide) (fun _ => ?_) (fun h => absurd h (by decide))
      refine r_iconst C dX9_isOfKind_35 ?_
      refine r_zret C dX9_isOfKind_36 (by decide) ?_
      exact ⟨_, rfl, by omega, rfl⟩
    · refine r_iconst C dX9_isOfKind_21 ?_
      refine r_zret C dX9_isOfKind_22 (by decide) ?_
      exact ⟨_, rfl, by omega, rfl⟩
  · refine r_iconst C dX9_isOfKind_21 ?_
    refine r_zret C dX9_isOfKind_22 (by decide) ?_
    exact ⟨_, rfl, by omega, rfl⟩
set_option maxRecDepth 20000 in
theorem c_X9_isOfKind_2 (e : qR) (l : Launch) (σ : qSt) (w x : Int) (hx : 0 ≤ x ∧ x < 4) (hw : 0 ≤ w ∧ w < 20) (hk : σ 105 w 5 = 2) : CM (ED e) l yX9_isOfKind cX9_isOfKind 4 (some .boolean) 2 [qr 105 w, qi x] σ (Ri fun z σ' => z = (if x = 2 ∨ x = 0 then 1 else 0) ∧ σ = σ') := by
  refine CM.mk tD_ok (by decide +kernel) (Nat.le_of_ble_eq_true rfl) (fun G C => ?_)
  show G σ 0 [some (qr 105 w), some (qi x), none, none] []
  refine r_aload_n C dX9_isOfKind_0 rfl ?_
  refine r_get_i (c := 20) 5 C dX9_isOfKind_1 fl_X9_28 rfl rfl rfl rfl (by omega) ?_
  refine r_v hk ?_
  refine r_istore_n C dX9_isOfKind_4 rfl rfl (by decide) ?_
  refine r_iconst C dX9_isOfKind_5 ?_
  refine r_istore_n C dX9_isOfKind_6 rfl rfl (by decide) ?_
  refine r_iload_n C dX9_isOfKind_7 rfl ?_
  refine r_iconst C dX9_isOfKind_8 ?_
  refine r_ic_ge 35 C dX9_isOfKind_9 (by decide) (by decide) (by decide) (fun h => absurd h (by decide)) (fun _ => ?_)
  refine r_iload_n C dX9_isOfKind_12 rfl ?_
  refine r_if_lt 35 C dX9_isOfKind_13 (by decide) (by decide) (fun h => absurd h (by decide)) (fun _ => ?_)
  refine r_iload_n C dX9_isOfKind_16 rfl ?_
  refine r_iload_n C dX9_isOfKind_17 rfl ?_
  refine r_ic_ne 23 C dX9_isOfKind_18 (by decide) (by omega) (by omega) (fun h18 => ?_) (fun h18 => ?_)
  · refine r_getst C dX9_isOfKind_23 ?_
    refine r_iload_n C dX9_isOfKind_26 rfl ?_
    refine r_uald (v := 0) C dX9_isOfKind_27 (by decide) (by decide) ?_
    refine r_istore_n C dX9_isOfKind_28 rfl rfl (by decide) ?_
    refine r_iinc C dX9_isOfKind_29 rfl rfl rfl (by decide) ?_
    refine r_goto 7 C dX9_isOfKind_32 (by decide) ?_
    refine r_iload_n C dX9_isOfKind_7 rfl ?_
    refine r_iconst C dX9_isOfKind_8 ?_
    refine r_ic_ge 35 C dX9_isOfKind_9 (by decide) (by decide) (by decide) (fun h => absurd h (by decide)) (fun _ => ?_)
    refine r_iload_n C dX9_isOfKind_12 rfl ?_
    refine r_if_lt 35 C dX9_isOfKind_13 (by decide) (by decide) (fun h => absurd h (by decide)) (fun _ => ?_)
    refine r_iload_n C dX9_isOfKind_16 rfl ?_
    refine r_iload_n C dX9_isOfKind_17 rfl ?_
    refine r_ic_ne 23 C dX9_isOfKind_18 (by decide) (by omega) (by omega) (fun h18 => ?_) (fun h18 => ?_)
    · refine r_getst C dX9_isOfKind_23 ?_
      refine r_iload_n C dX9_isOfKind_26 rfl ?_
      refine r_uald (v := -1) C dX9_isOfKind_27 (by decide) (by decide) ?_
      refine r_istore_n C dX9_isOfKind_28 rfl rfl (by decide) ?_
      refine r_iinc C dX9_isOfKind_29 rfl rfl rfl (by decide) ?_
      refine r_goto 7 C dX9_isOfKind_32 (by decide) ?_
      refine r_iload_n C dX9_isOfKind_7 rfl ?_
      refine r_iconst C dX9_isOfKind_8 ?_
      refine r_ic_ge 35 C dX9_isOfKind_9 (by decide) (by decide) (by decide) (fun h => absurd h (by decide)) (fun _ => ?_)
      refine r_iload_n C dX9_isOfKind_12 rfl ?_
      refine r_if_lt 35 C dX9_isOfKind_13 (by decide) (by decide) (fun _ => ?_) (fun h => absurd h (by decide))
      refine r_iconst C dX9_isOfKind_35 ?_
      refine r_zret C dX9_isOfKind_36 (by decide) ?_
      exact ⟨_, rfl, by omega, rfl⟩
    · refine r_iconst C dX9_isOfKind_21 ?_
      refine r_zret C dX9_isOfKind_22 (by decide) ?_
      exact ⟨_, rfl, by omega, rfl⟩
  · refine r_iconst C dX9_isOfKind_21 ?_
    refine r_zret C dX9_isOfKind_22 (by decide) ?_
    exact ⟨_, rfl, by omega, rfl⟩
set_option maxRecDepth 20000 in
theorem c_X9_isOfKind_3 (e : qR) (l : Launch) (σ : qSt) (w x : Int) (hx : 0 ≤ x ∧ x < 4) (hw : 0 ≤ w ∧ w < 20) (hk : σ 105 w 5 = 3) : CM (ED e) l yX9_isOfKind cX9_isOfKind 4 (some .boolean) 2 [qr 105 w, qi x] σ (Ri fun z σ' => z = (if x = 3 ∨ x = 1 ∨ x = 0 then 1 else 0) ∧ σ = σ') := by
  refine CM.mk tD_ok (by decide +kernel) (Nat.le_of_ble_eq_true rfl) (fun G C => ?_)
  show G σ 0 [some (qr 105 w), some (qi x), none, none] []
  refine r_aload_n C dX9_isOfKind_0 rfl ?_
  refine r_get_i (c := 20) 5 C dX9_isOfKind_1 fl_X9_28 rfl rfl rfl rfl (by omega) ?_
  refine r_v hk ?_
  refine r_istore_n C dX9_isOfKind_4 rfl rfl (by decide) ?_
  refine r_iconst C dX9_isOfKind_5 ?_
  refine r_istore_n C dX9_isOfKind_6 rfl rfl (by decide) ?_
  refine r_iload_n C dX9_isOfKind_7 rfl ?_
  refine r_iconst C dX9_isOfKind_8 ?_
  refine r_ic_ge 35 C dX9_isOfKind_9 (by decide) (by decide) (by decide) (fun h => absurd h (by decide)) (fun _ => ?_)
  refine r_iload_n C dX9_isOfKind_12 rfl ?_
  refine r_if_lt 35 C dX9_isOfKind_13 (by decide) (by decide) (fun h => absurd h (by decide)) (fun _ => ?_)
  refine r_iload_n C dX9_isOfKind_16 rfl ?_
  refine r_iload_n C dX9_isOfKind_17 rfl ?_
  refine r_ic_ne 23 C dX9_isOfKind_18 (by decide) (by omega) (by omega) (fun h18 => ?_) (fun h18 => ?_)
  · refine r_getst C dX9_isOfKind_23 ?_
    refine r_iload_n C dX9_isOfKind_26 rfl ?_
    refine r_uald (v := 1) C dX9_isOfKind_27 (by decide) (by decide) ?_
    refine r_istore_n C dX9_isOfKind_28 rfl rfl (by decide) ?_
    refine r_iinc C dX9_isOfKind_29 rfl rfl rfl (by decide) ?_
    refine r_goto 7 C dX9_isOfKind_32 (by decide) ?_
    refine r_iload_n C dX9_isOfKind_7 rfl ?_
    refine r_iconst C dX9_isOfKind_8 ?_
    refine r_ic_ge 35 C dX9_isOfKind_9 (by decide) (by decide) (by decide) (fun h => absurd h (by decide)) (fun _ => ?_)
    refine r_iload_n C dX9_isOfKind_12 rfl ?_
    refine r_if_lt 35 C dX9_isOfKind_13 (by decide) (by decide) (fun h => absurd h (by decide)) (fun _ => ?_)
    refine r_iload_n C dX9_isOfKind_16 rfl ?_
    refine r_iload_n C dX9_isOfKind_17 rfl ?_
    refine r_ic_ne 23 C dX9_isOfKind_18 (by decide) (by omega) (by omega) (fun h18 => ?_) (fun h18 => ?_)
    · refine r_getst C dX9_isOfKind_23 ?_
      refine r_iload_n C dX9_isOfKind_26 rfl ?_
      refine r_uald (v := 0) C dX9_isOfKind_27 (by decide) (by decide) ?_
      refine r_istore_n C dX9_isOfKind_28 rfl rfl (by decide) ?_
      refine r_iinc C dX9_isOfKind_29 rfl rfl rfl (by decide) ?_
      refine r_goto 7 C dX9_isOfKind_32 (by decide) ?_
      refine r_iload_n C dX9_isOfKind_7 rfl ?_
      refine r_iconst C dX9_isOfKind_8 ?_
      refine r_ic_ge 35 C dX9_isOfKind_9 (by decide) (by decide) (by decide) (fun h => absurd h (by decide)) (fun _ => ?_)
      refine r_iload_n C dX9_isOfKind_12 rfl ?_
      refine r_if_lt 35 C dX9_isOfKind_13 (by decide) (by decide) (fun h => absurd h (by decide)) (fun _ => ?_)
      refine r_iload_n C dX9_isOfKind_16 rfl ?_
      refine r_iload_n C dX9_isOfKind_17 rfl ?_
      refine r_ic_ne 23 C dX9_isOfKind_18 (by decide) (by omega) (by omega) (fun h18 => ?_) (fun h18 => ?_)
      · refine r_getst C dX9_isOfKind_23 ?_
        refine r_iload_n C dX9_isOfKind_26 rfl ?_
        refine r_uald (v := -1) C dX9_isOfKind_27 (by decide) (by decide) ?_
        refine r_istore_n C dX9_isOfKind_28 rfl rfl (by decide) ?_
        refine r_iinc C dX9_isOfKind_29 rfl rfl rfl (by decide) ?_
        refine r_goto 7 C dX9_isOfKind_32 (by decide) ?_
        refine r_iload_n C dX9_isOfKind_7 rfl ?_
        refine r_iconst C dX9_isOfKind_8 ?_
        refine r_ic_ge 35 C dX9_isOfKind_9 (by decide) (by decide) (by decide) (fun h => absurd h (by decide)) (fun _ => ?_)
        refine r_iload_n C dX9_isOfKind_12 rfl ?_
        refine r_if_lt 35 C dX9_isOfKind_13 (by decide) (by decide) (fun _ => ?_) (fun h => absurd h (by decide))
        refine r_iconst C dX9_isOfKind_35 ?_
        refine r_zret C dX9_isOfKind_36 (by decide) ?_
        exact ⟨_, rfl, by omega, rfl⟩
      · refine r_iconst C dX9_isOfKind_21 ?_
        refine r_zret C dX9_isOfKind_22 (by decide) ?_
        exact ⟨_, rfl, by omega, rfl⟩
    · refine r_iconst C dX9_isOfKind_21 ?_
      refine r_zret C dX9_isOfKind_22 (by decide) ?_
      exact ⟨_, rfl, by omega, rfl⟩
  · refine r_iconst C dX9_isOfKind_21 ?_
    refine r_zret C dX9_isOfKind_22 (by decide) ?_
    exact ⟨_, rfl, by omega, rfl⟩
def isK (kind x : Int) : Prop := x = 0 ∨ kind = x ∨ (x = 1 ∧ kind = 3)
theorem c_X9_isOfKind (e : qR) (l : Launch) (σ : qSt) (w x : Int) (hx : 0 ≤ x ∧ x < 4) (hw : 0 ≤ w ∧ w < 20) (hk : 0 ≤ σ 105 w 5 ∧ σ 105 w 5 < 4) : CM (ED e) l yX9_isOfKind cX9_isOfKind 4 (some .boolean) 2 [qr 105 w, qi x] σ (Ri fun z σ' => z = (if x = 0 ∨ σ 105 w 5 = x ∨ (x = 1 ∧ σ 105 w 5 = 3) then 1 else 0) ∧ σ = σ') := by
  rcases (by omega : σ 105 w 5 = 0 ∨ σ 105 w 5 = 1 ∨ σ 105 w 5 = 2 ∨ σ 105 w 5 = 3) with h | h | h | h
  · exact (c_X9_isOfKind_0 e l σ w x hx hw h).weaken (fun r σ' q => by obtain ⟨z, rfl, hz, h2⟩ := q; exact ⟨z, rfl, by rw [hz]; omega, h2⟩)
  · exact (c_X9_isOfKind_1 e l σ w x hx hw h).weaken (fun r σ' q => by obtain ⟨z, rfl, hz, h2⟩ := q; exact ⟨z, rfl, by rw [hz]; omega, h2⟩)
  · exact (c_X9_isOfKind_2 e l σ w x hx hw h).weaken (fun r σ' q => by obtain ⟨z, rfl, hz, h2⟩ := q; exact ⟨z, rfl, by rw [hz]; omega, h2⟩)
  · exact (c_X9_isOfKind_3 e l σ w x hx hw h).weaken (fun r σ' q => by obtain ⟨z, rfl, hz, h2⟩ := q; exact ⟨z, rfl, by rw [hz]; omega, h2⟩)
set_option maxRecDepth 20000 in
theorem c_X5_begin (e : qR) (l : Launch) (σ : qSt) (i pa : Int) (hi : 0 ≤ i ∧ i < 12) : CM (ED e) l yX5_begin cX5_begin 2 none 2 [qr 81 i, qi pa] σ (Rv fun σ' => σ' = qUp (qUp σ 81 i 1 pa) 81 i 2 0) := by
  refine CM.mk tD_ok (by decide +kernel) (Nat.le_of_ble_eq_true rfl) (fun G C => ?_)
  show G σ 0 [some (qr 81 i), some (qi pa)] []
  refine r_aload_n C dX5_begin_0 rfl ?_
  refine r_iload_n C dX5_begin_1 rfl ?_
  refine r_put_i (c := 12) 1 C dX5_begin_2 fw_X5_15 rfl rfl rfl rfl (by omega) rfl rfl ?_
  refine r_aload_n C dX5_begin_5 rfl ?_
  refine r_iconst C dX5_begin_6 ?_
  refine r_put_i (c := 12) 2 C dX5_begin_7 fw_X5_19 rfl rfl rfl rfl (by omega) rfl rfl ?_
  refine r_vret C dX5_begin_10 ?_
  exact ⟨rfl, rfl⟩
set_option maxRecDepth 20000 in
theorem c_X5_takeFrames_n (e : qR) (l : Launch) (σ : qSt) (i n : Int) (hi : 0 ≤ i ∧ i < 12) (hn : 0 ≤ n ∧ n ≤ 24) : CM (ED e) l yX5_takeFrames cX5_takeFrames 3 none 2 [qr 81 i, qr 80 0, qi n] σ (Rv fun σ' => σ' = qUp (qCpy σ 80 0 0 82 i 0 n) 81 i 2 n) := by
  refine CM.mk tD_ok (by decide +kernel) (Nat.le_of_ble_eq_true rfl) (fun G C => ?_)
  show G σ 0 [some (qr 81 i), some (qr 80 0), some (qi n)] []
  refine r_aload_n C dX5_takeFrames_0 rfl ?_
  refine r_iconst C dX5_takeFrames_1 ?_
  refine r_aload_n C dX5_takeFrames_2 rfl ?_
  refine r_get_r (c := 12) C dX5_takeFrames_3 fl_X5_9 rfl rfl rfl (by omega) rfl ?_
  refine r_iconst C dX5_takeFrames_6 ?_
  refine r_iload_n C dX5_takeFrames_7 rfl ?_
  refine r_acopy (c1 := 1) (N1 := 24) (c2 := 12) (N2 := 24) C dX5_takeFrames_8 ac_X5_22 rfl rfl (by omega) rfl rfl (by omega) (by omega) (by omega) (by omega) (by omega) (by omega) (by decide) (Nat.le_of_ble_eq_true rfl) ?_ (hnat := ac_nat) (hst := ac_st) (hini := ac_ini)
  refine r_aload_n C dX5_takeFrames_11 rfl ?_
  refine r_iload_n C dX5_takeFrames_12 rfl ?_
  refine r_put_i (c := 12) 2 C dX5_takeFrames_13 fw_X5_19 rfl rfl rfl rfl (by omega) rfl rfl ?_
  refine r_vret C dX5_takeFrames_16 ?_
  exact ⟨rfl, rfl⟩
set_option maxRecDepth 20000 in
theorem c_X5_takeFrames_a (e : qR) (l : Launch) (σ : qSt) (i a n : Int) (hi : 0 ≤ i ∧ i < 12) (ha : 0 ≤ a ∧ a < 20) (hn : 0 ≤ n ∧ n ≤ 24) : CM (ED e) l yX5_takeFrames cX5_takeFrames 3 none 2 [qr 81 i, qr 41 a, qi n] σ (Rv fun σ' => σ' = qUp (qCpy σ 41 a 0 82 i 0 n) 81 i 2 n) := by
  refine CM.mk tD_ok (by decide +kernel) (Nat.le_of_ble_eq_true rfl) (fun G C => ?_)
  show G σ 0 [some (qr 81 i), some (qr 41 a), some (qi n)] []
  refine r_aload_n C dX5_takeFrames_0 rfl ?_
  refine r_iconst C dX5_takeFrames_1 ?_
  refine r_aload_n C dX5_takeFrames_2 rfl ?_
  refine r_get_r (c := 12) C dX5_takeFrames_3 fl_X5_9 rfl rfl rfl (by omega) rfl ?_
  refine r_iconst C dX5_takeFrames_6 ?_
  refine r_iload_n C dX5_takeFrames_7 rfl ?_
  refine r_acopy (c1 := 20) (N1 := 24) (c2 := 12) (N2 := 24) C dX5_takeFrames_8 ac_X5_22 rfl rfl (by omega) rfl rfl (by omega) (by omega) (by omega) (by omega) (by omega) (by omega) (by decide) (Nat.le_of_ble_eq_true rfl) ?_ (hnat := ac_nat) (hst := ac_st) (hini := ac_ini)
  refine r_aload_n C dX5_takeFrames_11 rfl ?_
  refine r_iload_n C dX5_takeFrames_12 rfl ?_
  refine r_put_i (c := 12) 2 C dX5_takeFrames_13 fw_X5_19 rfl rfl rfl rfl (by omega) rfl rfl ?_
  refine r_vret C dX5_takeFrames_16 ?_
  exact ⟨rfl, rfl⟩
set_option maxRecDepth 20000 in
theorem c_X8_isMissing (e : qR) (l : Launch) (σ : qSt) (s : Int) (hb : Bd σ) (hs : 0 ≤ s ∧ s < 4) : CM (ED e) l yX8_isMissing cX8_isMissing 1 (some .boolean) 2 [qr 205 s] σ (Ri fun z σ' => z = (if σ 205 s 1 = 0 then 1 else 0) ∧ σ = σ') := by
  refine CM.mk tD_ok (by decide +kernel) (Nat.le_of_ble_eq_true rfl) (fun G C => ?_)
  show G σ 0 [some (qr 205 s)] []
  refine r_aload_n C dX8_isMissing_0 rfl ?_
  refine r_get_i (c := 4) 1 C dX8_isMissing_1 fl_X8_15 rfl rfl rfl rfl (by omega) ?_
  have b1 := hb 205 s 1 (by omega) (by omega)
  refine r_if_ne 11 C dX8_isMissing_4 (by decide) (by omega) (fun h4 => ?_) (fun h4 => ?_)
  · refine r_iconst C dX8_isMissing_11 ?_
    refine r_zret C dX8_isMissing_12 (by decide) ?_
    exact ⟨_, rfl, by omega, rfl⟩
  · refine r_iconst C dX8_isMissing_7 ?_
    refine r_goto 12 C dX8_isMissing_8 (by decide) ?_
    refine r_zret C dX8_isMissing_12 (by decide) ?_
    exact ⟨_, rfl, by omega, rfl⟩
set_option maxRecDepth 20000 in
theorem c_X8_hasStretch (e : qR) (l : Launch) (σ : qSt) (s f n : Int) (hb : Bd σ) (hs : 0 ≤ s ∧ s < 4) (hf : InI f) (hn : InI n) : CM (ED e) l yX8_hasStretch cX8_hasStretch 3 (some .boolean) 2 [qr 205 s, qi f, qi n] σ (Ri fun z σ' => z = (if 0 ≤ f ∧ 0 ≤ n ∧ n ≤ σ 205 s 2 ∧ f ≤ σ 205 s 2 - n then 1 else 0) ∧ σ = σ') := by
  refine CM.mk tD_ok (by decide +kernel) (Nat.le_of_ble_eq_true rfl) (fun G C => ?_)
  show G σ 0 [some (qr 205 s), some (qi f), some (qi n)] []
  refine r_iload_n C dX8_hasStretch_0 rfl ?_
  refine r_if_lt 30 C dX8_hasStretch_1 (by decide) (by omega) (fun h1 => ?_) (fun h1 => ?_)
  · refine r_iconst C dX8_hasStretch_30 ?_
    refine r_zret C dX8_hasStretch_31 (by decide) ?_
    exact ⟨_, rfl, by omega, rfl⟩
  · refine r_iload_n C dX8_hasStretch_4 rfl ?_
    refine r_if_lt 30 C dX8_hasStretch_5 (by decide) (by omega) (fun h5 => ?_) (fun h5 => ?_)
    · refine r_iconst C dX8_hasStretch_30 ?_
      refine r_zret C dX8_hasStretch_31 (by decide) ?_
      exact ⟨_, rfl, by omega, rfl⟩
    · refine r_iload_n C dX8_hasStretch_8 rfl ?_
      refine r_aload_n C dX8_hasStretch_9 rfl ?_
      refine r_get_i (c := 4) 2 C dX8_hasStretch_10 fl_X8_19 rfl rfl rfl rfl (by omega) ?_
      have b10 := hb 205 s 2 (by omega) (by omega)
      refine r_ic_gt 30 C dX8_hasStretch_13 (by decide) (by omega) (by omega) (fun h13 => ?_) (fun h13 => ?_)
      · refine r_iconst C dX8_hasStretch_30 ?_
        refine r_zret C dX8_hasStretch_31 (by decide) ?_
        exact ⟨_, rfl, by omega, rfl⟩
      · refine r_iload_n C dX8_hasStretch_16 rfl ?_
        refine r_aload_n C dX8_hasStretch_17 rfl ?_
        refine r_get_i (c := 4) 2 C dX8_hasStretch_18 fl_X8_19 rfl rfl rfl rfl (by omega) ?_
        have b18 := hb 205 s 2 (by omega) (by omega)
        refine r_iload_n C dX8_hasStretch_21 rfl ?_
        refine r_isub C dX8_hasStretch_22 ?_
        refine r_ic_gt 30 C dX8_hasStretch_23 (by decide) (by omega) (by omega) (fun h23 => ?_) (fun h23 => ?_)
        · refine r_iconst C dX8_hasStretch_30 ?_
          refine r_zret C dX8_hasStretch_31 (by decide) ?_
          exact ⟨_, rfl, by omega, rfl⟩
        · refine r_iconst C dX8_hasStretch_26 ?_
          refine r_goto 31 C dX8_hasStretch_27 (by decide) ?_
          refine r_zret C dX8_hasStretch_31 (by decide) ?_
          exact ⟨_, rfl, by omega, rfl⟩
set_option maxRecDepth 20000 in
theorem lp_X8_begin {G : qSt → Nat → List (Option qV) → List qV → Prop} {Ret : Option qV → qSt → Prop} (e : qR) (l : Launch) (σ : qSt) (s bi nn : Int) (hs : 0 ≤ s ∧ s < 4) (C : Cx (ED e) l RX8 cX8_begin 4 none 2 Ret G) (hR : Ret none (qFil σ 206 s 0 30 0)) : ∀ (k : Nat) (m : Nat), (m : Int) + k = 30 → G (qFil σ 206 s 0 (m : Int) 0) 20 [some (qr 205 s), some (qi bi), some (qi nn), some (qi (m : Int))] [] := by
  intro k
  induction k with
  | zero =>
    intro m hm
    refine r_iload_n C dX8_begin_20 rfl ?_
    refine r_bipush C dX8_begin_21 ?_
    refine r_ic_ge 39 C dX8_begin_23 (by decide) (by omega) (by omega) (fun h23 => ?_) (fun h23 => ?_)
    · refine r_vret C dX8_begin_39 ?_
      rw [show (m : Int) = 30 by omega]
      exact hR
    · exfalso; omega
  | succ k ih =>
    intro m hm
    refine r_iload_n C dX8_begin_20 rfl ?_
    refine r_bipush C dX8_begin_21 ?_
    refine r_ic_ge 39 C dX8_begin_23 (by decide) (by omega) (by omega) (fun h23 => ?_) (fun h23 => ?_)
    · exfalso; omega
    · refine r_aload_n C dX8_begin_26 rfl ?_
      refine r_get_r (c := 4) C dX8_begin_27 fl_X8_9 rfl rfl rfl (by omega) rfl ?_
      refine r_iload_n C dX8_begin_30 rfl ?_
      refine r_iconst C dX8_begin_31 ?_
      refine r_iast (c := 4) (N := 30) C dX8_begin_32 rfl rfl (by omega) (by omega) ?_
      refine r_iinc C dX8_begin_33 rfl rfl rfl (by decide) ?_
      refine r_goto 20 C dX8_begin_36 (by decide) ?_
      rw [qFil_s σ 206 s 0 (m : Int) 0 (by omega)]
      exact ih (m + 1) (by omega)
set_option maxRecDepth 20000 in
theorem c_X8_begin (e : qR) (l : Launch) (σ : qSt) (s bi nn : Int) (hs : 0 ≤ s ∧ s < 4) (hbi : InI bi) : CM (ED e) l yX8_begin cX8_begin 4 none 2 [qr 205 s, qi bi, qi nn] σ (Rv fun σ' => σ' = qFil (qUp (qUp σ 205 s 1 bi) 205 s 2 (if bi = 0 then 0 else nn)) 206 s 0 30 0) := by
  refine CM.mk tD_ok (by decide +kernel) (Nat.le_of_ble_eq_true rfl) (fun G C => ?_)
  show G σ 0 [some (qr 205 s), some (qi bi), some (qi nn), none] []
  refine r_aload_n C dX8_begin_0 rfl ?_
  refine r_iload_n C dX8_begin_1 rfl ?_
  refine r_put_i (c := 4) 1 C dX8_begin_2 fw_X8_15 rfl rfl rfl rfl (by omega) rfl rfl ?_
  refine r_aload_n C dX8_begin_5 rfl ?_
  refine r_iload_n C dX8_begin_6 rfl ?_
  refine r_if_ne 14 C dX8_begin_7 (by decide) (by omega) (fun h7 => ?_) (fun h7 => ?_)
  · refine r_iload_n C dX8_begin_14 rfl ?_
    refine r_put_i (c := 4) 2 C dX8_begin_15 fw_X8_19 rfl rfl rfl rfl (by omega) rfl rfl ?_
    refine r_iconst C dX8_begin_18 ?_
    refine r_istore_n C dX8_begin_19 rfl rfl (by decide) ?_
    have key := lp_X8_begin e l (qUp (qUp σ 205 s 1 bi) 205 s 2 (if bi = 0 then 0 else nn)) s bi nn hs C ⟨rfl, rfl⟩ 30 0 (by omega)
    rw [show ((0 : Nat) : Int) = 0 from rfl, qFil_0] at key
    first | (rw [if_pos (by omega)] at key; exact key) | (rw [if_neg (by omega)] at key; exact key)
  · refine r_iconst C dX8_begin_10 ?_
    refine r_goto 15 C dX8_begin_11 (by decide) ?_
    refine r_put_i (c := 4) 2 C dX8_begin_15 fw_X8_19 rfl rfl rfl rfl (by omega) rfl rfl ?_
    refine r_iconst C dX8_begin_18 ?_
    refine r_istore_n C dX8_begin_19 rfl rfl (by decide) ?_
    have key := lp_X8_begin e l (qUp (qUp σ 205 s 1 bi) 205 s 2 (if bi = 0 then 0 else nn)) s bi nn hs C ⟨rfl, rfl⟩ 30 0 (by omega)
    rw [show ((0 : Nat) : Int) = 0 from rfl, qFil_0] at key
    first | (rw [if_pos (by omega)] at key; exact key) | (rw [if_neg (by omega)] at key; exact key)
set_option maxRecDepth 20000 in
theorem c_X8_write_32 (e : qR) (l : Launch) (σ : qSt) (s i v : Int) (hs : 0 ≤ s ∧ s < 4) (hi : 0 ≤ i ∧ i < 30) (hbt : σ 205 s 1 = 32) : CM (ED e) l yX8_write cX8_write 3 none 2 [qr 205 s, qi i, qi v] σ (Rv fun σ' => ∃ x, x % 4 = v % 4 ∧ σ' = qUp σ 206 s i x) := by
  refine CM.mk tD_ok (by decide +kernel) (Nat.le_of_ble_eq_true rfl) (fun G C => ?_)
  show G σ 0 [some (qr 205 s), some (qi i), some (qi v)] []
  refine r_aload_n C dX8_write_0 rfl ?_
  refine r_get_r (c := 4) C dX8_write_1 fl_X8_9 rfl rfl rfl (by omega) rfl ?_
  refine r_iload_n C dX8_write_4 rfl ?_
  refine r_aload_n C dX8_write_5 rfl ?_
  refine r_get_i (c := 4) 1 C dX8_write_6 fl_X8_15 rfl rfl rfl rfl (by omega) ?_
  refine r_v hbt ?_
  refine r_bipush C dX8_write_9 ?_
  refine r_ic_ne 18 C dX8_write_11 (by decide) (by decide) (by decide) (fun h => absurd h (by decide)) (fun _ => ?_)
  refine r_iload_n C dX8_write_14 rfl ?_
  refine r_goto 28 C dX8_write_15 (by decide) ?_
  refine r_iast (c := 4) (N := 30) C dX8_write_28 rfl rfl (by omega) (by omega) ?_
  refine r_vret C dX8_write_29 ?_
  exact ⟨rfl, _, by omega, rfl⟩
set_option maxRecDepth 20000 in
theorem c_X8_write_16 (e : qR) (l : Launch) (σ : qSt) (s i v : Int) (hs : 0 ≤ s ∧ s < 4) (hi : 0 ≤ i ∧ i < 30) (hbt : σ 205 s 1 = 16) : CM (ED e) l yX8_write cX8_write 3 none 2 [qr 205 s, qi i, qi v] σ (Rv fun σ' => ∃ x, x % 4 = v % 4 ∧ σ' = qUp σ 206 s i x) := by
  refine CM.mk tD_ok (by decide +kernel) (Nat.le_of_ble_eq_true rfl) (fun G C => ?_)
  show G σ 0 [some (qr 205 s), some (qi i), some (qi v)] []
  refine r_aload_n C dX8_write_0 rfl ?_
  refine r_get_r (c := 4) C dX8_write_1 fl_X8_9 rfl rfl rfl (by omega) rfl ?_
  refine r_iload_n C dX8_write_4 rfl ?_
  refine r_aload_n C dX8_write_5 rfl ?_
  refine r_get_i (c := 4) 1 C dX8_write_6 fl_X8_15 rfl rfl rfl rfl (by omega) ?_
  refine r_v hbt ?_
  refine r_bipush C dX8_write_9 ?_
  refine r_ic_ne 18 C dX8_write_11 (by decide) (by decide) (by decide) (fun _ => ?_) (fun h => absurd h (by decide))
  refine r_iload_n C dX8_write_18 rfl ?_
  refine r_iconst C dX8_write_19 ?_
  refine r_aload_n C dX8_write_20 rfl ?_
  refine r_get_i (c := 4) 1 C dX8_write_21 fl_X8_15 rfl rfl rfl rfl (by omega) ?_
  refine r_v hbt ?_
  refine r_ishl 65536 C dX8_write_24 (by decide) ?_
  refine r_iconst C dX8_write_25 ?_
  refine r_isub C dX8_write_26 ?_
  refine r_iand (v % 65536) C dX8_write_27 (z_mask v 16 65536 rfl (by decide) (by decide)) ?_
  refine r_iast (c := 4) (N := 30) C dX8_write_28 rfl rfl (by omega) (by omega) ?_
  refine r_vret C dX8_write_29 ?_
  exact ⟨rfl, _, by omega, rfl⟩
set_option maxRecDepth 20000 in
theorem c_X8_write_8 (e : qR) (l : Launch) (σ : qSt) (s i v : Int) (hs : 0 ≤ s ∧ s < 4) (hi : 0 ≤ i ∧ i < 30) (hbt : σ 205 s 1 = 8) : CM (ED e) l yX8_write cX8_write 3 none 2 [qr 205 s, qi i, qi v] σ (Rv fun σ' => ∃ x, x % 4 = v % 4 ∧ σ' = qUp σ 206 s i x) := by
  refine CM.mk tD_ok (by decide +kernel) (Nat.le_of_ble_eq_true rfl) (fun G C => ?_)
  show G σ 0 [some (qr 205 s), some (qi i), some (qi v)] []
  refine r_aload_n C dX8_write_0 rfl ?_
  refine r_get_r (c := 4) C dX8_write_1 fl_X8_9 rfl rfl rfl (by omega) rfl ?_
  refine r_iload_n C dX8_write_4 rfl ?_
  refine r_aload_n C dX8_write_5 rfl ?_
  refine r_get_i (c := 4) 1 C dX8_write_6 fl_X8_15 rfl rfl rfl rfl (by omega) ?_
  refine r_v hbt ?_
  refine r_bipush C dX8_write_9 ?_
  refine r_ic_ne 18 C dX8_write_11 (by decide) (by decide) (by decide) (fun _ => ?_) (fun h => absurd h (by decide))
  refine r_iload_n C dX8_write_18 rfl ?_
  refine r_iconst C dX8_write_19 ?_
  refine r_aload_n C dX8_write_20 rfl ?_
  refine r_get_i (c := 4) 1 C dX8_write_21 fl_X8_15 rfl rfl rfl rfl (by omega) ?_
  refine r_v hbt ?_
  refine r_ishl 256 C dX8_write_24 (by decide) ?_
  refine r_iconst C dX8_write_25 ?_
  refine r_isub C dX8_write_26 ?_
  refine r_iand (v % 256) C dX8_write_27 (z_mask v 8 256 rfl (by decide) (by decide)) ?_
  refine r_iast (c := 4) (N := 30) C dX8_write_28 rfl rfl (by omega) (by omega) ?_
  refine r_vret C dX8_write_29 ?_
  exact ⟨rfl, _, by omega, rfl⟩
theorem c_X8_write (e : qR) (l : Launch) (σ : qSt) (s i v : Int) (hs : 0 ≤ s ∧ s < 4) (hi : 0 ≤ i ∧ i < 30) (hbt : σ 205 s 1 = 8 ∨ σ 205 s 1 = 16 ∨ σ 205 s 1 = 32) : CM (ED e) l yX8_write cX8_write 3 none 2 [qr 205 s, qi i, qi v] σ (Rv fun σ' => ∃ x, x % 4 = v % 4 ∧ σ' = qUp σ 206 s i x) := by
  rcases hbt with h | h | h
  · exact c_X8_write_8 e l σ s i v hs hi h
  · exact c_X8_write_16 e l σ s i v hs hi h
  · exact c_X8_write_32 e l σ s i v hs hi h
set_option maxRecDepth 20000 in
theorem c_X0_keepFrames (e : qR) (l : Launch) (σ : qSt) (a i : Int) (ha : 0 ≤ a ∧ a < 20) (hi : 0 ≤ i ∧ i < 12) (hf : 0 ≤ σ 81 i 2 ∧ σ 81 i 2 ≤ 24) : CM (ED e) l yX0_keepFrames cX0_keepFrames 2 none 2 [qr 40 a, qr 81 i] σ (Rv fun σ' => σ' = qUp (qCpy σ 82 i 0 41 a 0 (σ 81 i 2)) 40 a 1 (σ 81 i 2)) := by
  refine CM.mk tD_ok (by decide +kernel) (Nat.le_of_ble_eq_true rfl) (fun G C => ?_)
  show G σ 0 [some (qr 40 a), some (qr 81 i)] []
  refine r_aload_n C dX0_keepFrames_0 rfl ?_
  refine r_get_r (c := 12) C dX0_keepFrames_1 fl_X0_28 rfl rfl rfl (by omega) rfl ?_
  refine r_iconst C dX0_keepFrames_4 ?_
  refine r_aload_n C dX0_keepFrames_5 rfl ?_
  refine r_get_r (c := 20) C dX0_keepFrames_6 fl_X0_9 rfl rfl rfl (by omega) rfl ?_
  refine r_iconst C dX0_keepFrames_9 ?_
  refine r_aload_n C dX0_keepFrames_10 rfl ?_
  refine r_get_i (c := 12) 2 C dX0_keepFrames_11 fl_X0_33 rfl rfl rfl rfl (by omega) ?_
  refine r_acopy (c1 := 12) (N1 := 24) (c2 := 20) (N2 := 24) C dX0_keepFrames_14 ac_X0_36 rfl rfl (by omega) rfl rfl (by omega) (by omega) (by omega) (by omega) (by omega) (by omega) (by decide) (Nat.le_of_ble_eq_true rfl) ?_ (hnat := ac_nat) (hst := ac_st) (hini := ac_ini)
  refine r_aload_n C dX0_keepFrames_17 rfl ?_
  refine r_aload_n C dX0_keepFrames_18 rfl ?_
  refine r_get_i (c := 12) 2 C dX0_keepFrames_19 fl_X0_33 rfl rfl rfl rfl (by omega) ?_
  refine r_v (b := (σ 81 i 2)) (by simp [qUp, qCpy]) ?_
  refine r_put_i (c := 20) 1 C dX0_keepFrames_22 fw_X0_15 rfl rfl rfl rfl (by omega) rfl rfl ?_
  refine r_vret C dX0_keepFrames_25 ?_
  exact ⟨rfl, rfl⟩
set_option maxRecDepth 20000 in
theorem c_X0_keepSyllable (e : qR) (l : Launch) (σ : qSt) (a w : Int) (ha : 0 ≤ a ∧ a < 20) (hw : 0 ≤ w ∧ w < 20) (hf : 0 ≤ σ 105 w 7 ∧ σ 105 w 7 < 8) : CM (ED e) l yX0_keepSyllable cX0_keepSyllable 3 none 2 [qr 40 a, qr 105 w] σ (Rv fun σ' => σ' = qUp (qUp (qUp (qUp σ 41 a 0 (σ 106 w (σ 105 w 7))) 41 a 1 (σ 107 w (σ 105 w 7))) 41 a 2 (σ 108 w (σ 105 w 7))) 41 a 3 (σ 109 w (σ 105 w 7))) := by
  refine CM.mk tD_ok (by decide +kernel) (Nat.le_of_ble_eq_true rfl) (fun G C => ?_)
  show G σ 0 [some (qr 40 a), some (qr 105 w), none] []
  refine r_aload_n C dX0_keepSyllable_0 rfl ?_
  refine r_get_i (c := 20) 7 C dX0_keepSyllable_1 fl_X0_42 rfl rfl rfl rfl (by omega) ?_
  refine r_istore_n C dX0_keepSyllable_4 rfl rfl (by decide) ?_
  refine r_aload_n C dX0_keepSyllable_5 rfl ?_
  refine r_get_r (c := 20) C dX0_keepSyllable_6 fl_X0_9 rfl rfl rfl (by omega) rfl ?_
  refine r_iconst C dX0_keepSyllable_9 ?_
  refine r_aload_n C dX0_keepSyllable_10 rfl ?_
  refine r_get_r (c := 20) C dX0_keepSyllable_11 fl_X0_47 rfl rfl rfl (by omega) rfl ?_
  refine r_iload_n C dX0_keepSyllable_14 rfl ?_
  refine r_iald (c := 20) (N := 8) C dX0_keepSyllable_15 rfl rfl (by omega) (by omega) ?_
  refine r_iast (c := 20) (N := 24) C dX0_keepSyllable_16 rfl rfl (by omega) (by omega) ?_
  refine r_aload_n C dX0_keepSyllable_17 rfl ?_
  refine r_get_r (c := 20) C dX0_keepSyllable_18 fl_X0_9 rfl rfl rfl (by omega) rfl ?_
  refine r_iconst C dX0_keepSyllable_21 ?_
  refine r_aload_n C dX0_keepSyllable_22 rfl ?_
  refine r_get_r (c := 20) C dX0_keepSyllable_23 fl_X0_48 rfl rfl rfl (by omega) rfl ?_
  refine r_iload_n C dX0_keepSyllable_26 rfl ?_
  refine r_iald (c := 20) (N := 8) C dX0_keepSyllable_27 rfl rfl (by omega) (by omega) ?_
  refine r_v (b := (σ 107 w (σ 105 w 7))) (by simp [qUp, qCpy]) ?_
  refine r_iast (c := 20) (N := 24) C dX0_keepSyllable_28 rfl rfl (by omega) (by omega) ?_
  refine r_aload_n C dX0_keepSyllable_29 rfl ?_
  refine r_get_r (c := 20) C dX0_keepSyllable_30 fl_X0_9 rfl rfl rfl (by omega) rfl ?_
  refine r_iconst C dX0_keepSyllable_33 ?_
  refine r_aload_n C dX0_keepSyllable_34 rfl ?_
  refine r_get_r (c := 20) C dX0_keepSyllable_35 fl_X0_51 rfl rfl rfl (by omega) rfl ?_
  refine r_iload_n C dX0_keepSyllable_38 rfl ?_
  refine r_iald (c := 20) (N := 8) C dX0_keepSyllable_39 rfl rfl (by omega) (by omega) ?_
  refine r_v (b := (σ 108 w (σ 105 w 7))) (by simp [qUp, qCpy]) ?_
  refine r_iast (c := 20) (N := 24) C dX0_keepSyllable_40 rfl rfl (by omega) (by omega) ?_
  refine r_aload_n C dX0_keepSyllable_41 rfl ?_
  refine r_get_r (c := 20) C dX0_keepSyllable_42 fl_X0_9 rfl rfl rfl (by omega) rfl ?_
  refine r_iconst C dX0_keepSyllable_45 ?_
  refine r_aload_n C dX0_keepSyllable_46 rfl ?_
  refine r_get_r (c := 20) C dX0_keepSyllable_47 fl_X0_54 rfl rfl rfl (by omega) rfl ?_
  refine r_iload_n C dX0_keepSyllable_50 rfl ?_
  refine r_iald (c := 20) (N := 8) C dX0_keepSyllable_51 rfl rfl (by omega) (by omega) ?_
  refine r_v (b := (σ 109 w (σ 105 w 7))) (by simp [qUp, qCpy]) ?_
  refine r_iast (c := 20) (N := 24) C dX0_keepSyllable_52 rfl rfl (by omega) (by omega) ?_
  refine r_vret C dX0_keepSyllable_53 ?_
  exact ⟨rfl, rfl⟩
set_option maxRecDepth 20000 in
theorem c_X0_giveSyllableBack (e : qR) (l : Launch) (σ : qSt) (a w : Int) (ha : 0 ≤ a ∧ a < 20) (hw : 0 ≤ w ∧ w < 20) (hf : 0 ≤ σ 105 w 7 ∧ σ 105 w 7 < 8) : CM (ED e) l yX0_giveSyllableBack cX0_giveSyllableBack 2 none 3 [qr 40 a, qr 105 w] σ (Rv fun σ' => σ' = qUp (qUp (qUp (qUp (qUp σ 106 w (σ 105 w 7) (σ 41 a 0)) 107 w (σ 105 w 7) (σ 41 a 1)) 108 w (σ 105 w 7) (σ 41 a 2)) 109 w (σ 105 w 7) (σ 41 a 3)) 105 w 7 (σ 105 w 7 + 1)) := by
  refine CM.mk tD_ok (by decide +kernel) (Nat.le_of_ble_eq_true rfl) (fun G C => ?_)
  show G σ 0 [some (qr 40 a), some (qr 105 w)] []
  refine r_aload_n C dX0_giveSyllableBack_0 rfl ?_
  refine r_aload_n C dX0_giveSyllableBack_1 rfl ?_
  refine r_get_r (c := 20) C dX0_giveSyllableBack_2 fl_X0_9 rfl rfl rfl (by omega) rfl ?_
  refine r_iconst C dX0_giveSyllableBack_5 ?_
  refine r_iald (c := 20) (N := 24) C dX0_giveSyllableBack_6 rfl rfl (by omega) (by omega) ?_
  refine r_aload_n C dX0_giveSyllableBack_7 rfl ?_
  refine r_get_r (c := 20) C dX0_giveSyllableBack_8 fl_X0_9 rfl rfl rfl (by omega) rfl ?_
  refine r_iconst C dX0_giveSyllableBack_11 ?_
  refine r_iald (c := 20) (N := 24) C dX0_giveSyllableBack_12 rfl rfl (by omega) (by omega) ?_
  refine r_aload_n C dX0_giveSyllableBack_13 rfl ?_
  refine r_get_r (c := 20) C dX0_giveSyllableBack_14 fl_X0_9 rfl rfl rfl (by omega) rfl ?_
  refine r_iconst C dX0_giveSyllableBack_17 ?_
  refine r_iald (c := 20) (N := 24) C dX0_giveSyllableBack_18 rfl rfl (by omega) (by omega) ?_
  refine r_aload_n C dX0_giveSyllableBack_19 rfl ?_
  refine r_get_r (c := 20) C dX0_giveSyllableBack_20 fl_X0_9 rfl rfl rfl (by omega) rfl ?_
  refine r_iconst C dX0_giveSyllableBack_23 ?_
  refine r_iald (c := 20) (N := 24) C dX0_giveSyllableBack_24 rfl rfl (by omega) (by omega) ?_
  refine r_cvv (c := 20) C dX0_giveSyllableBack_25 mv_X0_57 (c_X9_append e l _ _ _ _ _ _ hw hf) (by decide) rfl rfl rfl rfl (by omega) rfl rfl (Nat.le_of_ble_eq_true rfl) (fun σ25 h25 => ?_)
  subst h25
  refine r_vret C dX0_giveSyllableBack_28 ?_
  exact ⟨rfl, rfl⟩
def pApp (σ : qSt) (d wh wa : Int) : qSt := qUp (qUp (qUp (qUp (qUp σ 40 (σ 38 0 1) 2 d) 40 (σ 38 0 1) 3 wh) 40 (σ 38 0 1) 4 wa) 38 0 1 (if σ 38 0 1 + 1 < 20 then σ 38 0 1 + 1 else 0)) 38 0 2 (min (σ 38 0 2 + 1) 20)
set_option maxRecDepth 20000 in
theorem c_X3_append (e : qR) (l : Launch) (σ : qSt) (d wh wa : Int) (hn : 0 ≤ σ 38 0 1 ∧ σ 38 0 1 < 20) (hc : 0 ≤ σ 38 0 2 ∧ σ 38 0 2 ≤ 20) : CM (ED e) l yX3_append cX3_append 5 (some (.object "DubDesk$Act")) 2 [qr 38 0, qi d, qi wh, qi wa] σ (Rr fun k i σ' => k = 40 ∧ i = σ 38 0 1 ∧ σ' = pApp σ d wh wa) := by
  refine CM.mk tD_ok (by decide +kernel) (Nat.le_of_ble_eq_true rfl) (fun G C => ?_)
  show G σ 0 [some (qr 38 0), some (qi d), some (qi wh), some (qi wa), none] []
  refine r_aload_n C dX3_append_0 rfl ?_
  refine r_get_r (c := 1) C dX3_append_1 fl_X3_11 rfl rfl rfl (by decide) rfl ?_
  refine r_aload_n C dX3_append_4 rfl ?_
  refine r_get_i (c := 1) 1 C dX3_append_5 fl_X3_17 rfl rfl rfl rfl (by decide) ?_
  refine r_aald (c := 1) (N := 20) C dX3_append_8 rfl (by decide) rfl (by decide) (by omega) rfl ?_
  refine r_astore C dX3_append_9 rfl rfl (by decide) ?_
  refine r_aload C dX3_append_11 rfl ?_
  refine r_iload_n C dX3_append_13 rfl ?_
  refine r_put_i (c := 20) 2 C dX3_append_14 fw_X3_25 rfl rfl rfl rfl (by omega) rfl rfl ?_
  refine r_aload C dX3_append_17 rfl ?_
  refine r_iload_n C dX3_append_19 rfl ?_
  refine r_put_i (c := 20) 3 C dX3_append_20 fw_X3_28 rfl rfl rfl rfl (by omega) rfl rfl ?_
  refine r_aload C dX3_append_23 rfl ?_
  refine r_iload_n C dX3_append_25 rfl ?_
  refine r_put_i (c := 20) 4 C dX3_append_26 fw_X3_31 rfl rfl rfl rfl (by omega) rfl rfl ?_
  refine r_aload_n C dX3_append_29 rfl ?_
  refine r_aload_n C dX3_append_30 rfl ?_
  refine r_get_i (c := 1) 1 C dX3_append_31 fl_X3_17 rfl rfl rfl rfl (by decide) ?_
  refine r_v (b := (σ 38 0 1)) (by simp [qUp, qCpy]) ?_
  refine r_iconst C dX3_append_34 ?_
  refine r_iadd C dX3_append_35 ?_
  refine r_bipush C dX3_append_36 ?_
  refine r_ic_ge 50 C dX3_append_38 (by decide) (by omega) (by omega) (fun h38 => ?_) (fun h38 => ?_)
  · refine r_iconst C dX3_append_50 ?_
    refine r_put_i (c := 1) 1 C dX3_append_51 fw_X3_17 rfl rfl rfl rfl (by decide) rfl rfl ?_
    refine r_aload_n C dX3_append_54 rfl ?_
    refine r_aload_n C dX3_append_55 rfl ?_
    refine r_get_i (c := 1) 2 C dX3_append_56 fl_X3_21 rfl rfl rfl rfl (by decide) ?_
    refine r_v (b := (σ 38 0 2)) (by simp [qUp, qCpy]) ?_
    refine r_iconst C dX3_append_59 ?_
    refine r_iadd C dX3_append_60 ?_
    refine r_bipush C dX3_append_61 ?_
    refine r_csi C dX3_append_63 ms_X3_34 (c_min (ED e) tD_ok l _ _ _ (by omega) (by omega)) (by decide) rfl rfl (Nat.le_of_ble_eq_true rfl) (fun z63 σ63 h63 => ?_)
    obtain ⟨rfl, rfl⟩ := h63
    refine r_put_i (c := 1) 2 C dX3_append_66 fw_X3_21 rfl rfl rfl rfl (by decide) rfl rfl ?_
    refine r_aload C dX3_append_69 rfl ?_
    refine r_aret C dX3_append_71 ?_
    exact ⟨_, _, rfl, rfl, rfl, by simp only [pApp]; first | rw [if_pos (by omega)] | rw [if_neg (by omega)]⟩
  · refine r_aload_n C dX3_append_41 rfl ?_
    refine r_get_i (c := 1) 1 C dX3_append_42 fl_X3_17 rfl rfl rfl rfl (by decide) ?_
    refine r_v (b := (σ 38 0 1)) (by simp [qUp, qCpy]) ?_
    refine r_iconst C dX3_append_45 ?_
    refine r_iadd C dX3_append_46 ?_
    refine r_goto 51 C dX3_append_47 (by decide) ?_
    refine r_put_i (c := 1) 1 C dX3_append_51 fw_X3_17 rfl rfl rfl rfl (by decide) rfl rfl ?_
    refine r_aload_n C dX3_append_54 rfl ?_
    refine r_aload_n C dX3_append_55 rfl ?_
    refine r_get_i (c := 1) 2 C dX3_append_56 fl_X3_21 rfl rfl rfl rfl (by decide) ?_
    refine r_v (b := (σ 38 0 2)) (by simp [qUp, qCpy]) ?_
    refine r_iconst C dX3_append_59 ?_
    refine r_iadd C dX3_append_60 ?_
    refine r_bipush C dX3_append_61 ?_
    refine r_csi C dX3_append_63 ms_X3_34 (c_min (ED e) tD_ok l _ _ _ (by omega) (by omega)) (by decide) rfl rfl (Nat.le_of_ble_eq_true rfl) (fun z63 σ63 h63 => ?_)
    obtain ⟨rfl, rfl⟩ := h63
    refine r_put_i (c := 1) 2 C dX3_append_66 fw_X3_21 rfl rfl rfl rfl (by decide) rfl rfl ?_
    refine r_aload C dX3_append_69 rfl ?_
    refine r_aret C dX3_append_71 ?_
    exact ⟨_, _, rfl, rfl, rfl, by simp only [pApp]; first | rw [if_pos (by omega)] | rw [if_neg (by omega)]⟩
set_option maxRecDepth 20000 in
theorem c_X3_takeLatest (e : qR) (l : Launch) (σ : qSt) (hn : 0 ≤ σ 38 0 1 ∧ σ 38 0 1 < 20) (hc : 0 ≤ σ 38 0 2 ∧ σ 38 0 2 ≤ 20) (hc1 : 1 ≤ σ 38 0 2) : CM (ED e) l yX3_takeLatest cX3_takeLatest 1 (some (.object "DubDesk$Act")) 2 [qr 38 0] σ (Rr fun k i σ' => k = 40 ∧ i = (if 0 < σ 38 0 1 then σ 38 0 1 - 1 else 19) ∧ σ' = qUp (qUp σ 38 0 1 (if 0 < σ 38 0 1 then σ 38 0 1 - 1 else 19)) 38 0 2 (σ 38 0 2 - 1)) := by
  refine CM.mk tD_ok (by decide +kernel) (Nat.le_of_ble_eq_true rfl) (fun G C => ?_)
  show G σ 0 [some (qr 38 0)] []
  refine r_aload_n C dX3_takeLatest_0 rfl ?_
  refine r_aload_n C dX3_takeLatest_1 rfl ?_
  refine r_get_i (c := 1) 1 C dX3_takeLatest_2 fl_X3_17 rfl rfl rfl rfl (by decide) ?_
  refine r_if_le 17 C dX3_takeLatest_5 (by decide) (by omega) (fun h5 => ?_) (fun h5 => ?_)
  · refine r_bipush C dX3_takeLatest_17 ?_
    refine r_put_i (c := 1) 1 C dX3_takeLatest_19 fw_X3_17 rfl rfl rfl rfl (by decide) rfl rfl ?_
    refine r_aload_n C dX3_takeLatest_22 rfl ?_
    refine r_dup C dX3_takeLatest_23 ?_
    refine r_get_i (c := 1) 2 C dX3_takeLatest_24 fl_X3_21 rfl rfl rfl rfl (by decide) ?_
    refine r_v (b := (σ 38 0 2)) (by simp [qUp, qCpy]) ?_
    refine r_iconst C dX3_takeLatest_27 ?_
    refine r_isub C dX3_takeLatest_28 ?_
    refine r_put_i (c := 1) 2 C dX3_takeLatest_29 fw_X3_21 rfl rfl rfl rfl (by decide) rfl rfl ?_
    refine r_aload_n C dX3_takeLatest_32 rfl ?_
    refine r_get_r (c := 1) C dX3_takeLatest_33 fl_X3_11 rfl rfl rfl (by decide) rfl ?_
    refine r_aload_n C dX3_takeLatest_36 rfl ?_
    refine r_get_i (c := 1) 1 C dX3_takeLatest_37 fl_X3_17 rfl rfl rfl rfl (by decide) ?_
    refine r_v (b := 19) (by simp [qUp, qCpy]) ?_
    refine r_aald (c := 1) (N := 20) C dX3_takeLatest_40 rfl (by decide) rfl (by decide) (by omega) rfl ?_
    refine r_aret C dX3_takeLatest_41 ?_
    exact ⟨_, _, rfl, rfl, by first | rw [if_pos (by omega)] | rw [if_neg (by omega)], by first | rw [if_pos (by omega)] | rw [if_neg (by omega)]⟩
  · refine r_aload_n C dX3_takeLatest_8 rfl ?_
    refine r_get_i (c := 1) 1 C dX3_takeLatest_9 fl_X3_17 rfl rfl rfl rfl (by decide) ?_
    refine r_iconst C dX3_takeLatest_12 ?_
    refine r_isub C dX3_takeLatest_13 ?_
    refine r_goto 19 C dX3_takeLatest_14 (by decide) ?_
    refine r_put_i (c := 1) 1 C dX3_takeLatest_19 fw_X3_17 rfl rfl rfl rfl (by decide) rfl rfl ?_
    refine r_aload_n C dX3_takeLatest_22 rfl ?_
    refine r_dup C dX3_takeLatest_23 ?_
    refine r_get_i (c := 1) 2 C dX3_takeLatest_24 fl_X3_21 rfl rfl rfl rfl (by decide) ?_
    refine r_v (b := (σ 38 0 2)) (by simp [qUp, qCpy]) ?_
    refine r_iconst C dX3_takeLatest_27 ?_
    refine r_isub C dX3_takeLatest_28 ?_
    refine r_put_i (c := 1) 2 C dX3_takeLatest_29 fw_X3_21 rfl rfl rfl rfl (by decide) rfl rfl ?_
    refine r_aload_n C dX3_takeLatest_32 rfl ?_
    refine r_get_r (c := 1) C dX3_takeLatest_33 fl_X3_11 rfl rfl rfl (by decide) rfl ?_
    refine r_aload_n C dX3_takeLatest_36 rfl ?_
    refine r_get_i (c := 1) 1 C dX3_takeLatest_37 fl_X3_17 rfl rfl rfl rfl (by decide) ?_
    refine r_v (b := ((σ 38 0 1) - 1)) (by simp [qUp, qCpy]) ?_
    refine r_aald (c := 1) (N := 20) C dX3_takeLatest_40 rfl (by decide) rfl (by decide) (by omega) rfl ?_
    refine r_aret C dX3_takeLatest_41 ?_
    exact ⟨_, _, rfl, rfl, by first | rw [if_pos (by omega)] | rw [if_neg (by omega)], by first | rw [if_pos (by omega)] | rw [if_neg (by omega)]⟩
def pRem (σ : qSt) (d wh wa : Int) : qSt := pApp (qUp σ 15 0 9 0) d wh wa
set_option maxRecDepth 20000 in
theorem c_X10_remember (e : qR) (l : Launch) (σ : qSt) (d wh wa : Int) (hn : 0 ≤ σ 38 0 1 ∧ σ 38 0 1 < 20) (hc : 0 ≤ σ 38 0 2 ∧ σ 38 0 2 ≤ 20) : CM (ED e) l yX10_remember cX10_remember 4 (some (.object "DubDesk$Act")) 3 [qr 0 0, qi d, qi wh, qi wa] σ (Rr fun k i σ' => k = 40 ∧ i = σ 38 0 1 ∧ σ' = pRem σ d wh wa) := by
  refine CM.mk tD_ok (by decide +kernel) (Nat.le_of_ble_eq_true rfl) (fun G C => ?_)
  show G σ 0 [some (qr 0 0), some (qi d), some (qi wh), some (qi wa)] []
  refine r_aload_n C dX10_remember_0 rfl ?_
  refine r_get_r (c := 1) C dX10_remember_1 fl_X10_44 rfl rfl rfl (by decide) rfl ?_
  refine r_iconst C dX10_remember_4 ?_
  refine r_put_i (c := 1) 9 C dX10_remember_5 fw_X10_279 rfl rfl rfl rfl (by decide) rfl rfl ?_
  refine r_aload_n C dX10_remember_8 rfl ?_
  refine r_get_r (c := 1) C dX10_remember_9 fl_X10_65 rfl rfl rfl (by decide) rfl ?_
  refine r_iload_n C dX10_remember_12 rfl ?_
  refine r_iload_n C dX10_remember_13 rfl ?_
  refine r_iload_n C dX10_remember_14 rfl ?_
  refine r_cvr (c := 1) C dX10_remember_15 mv_X10_293 (c_X3_append e l _ _ _ _ (by simpa [qUp] using hn) (by simpa [qUp] using hc)) (by decide) rfl rfl rfl rfl (by decide) rfl rfl (Nat.le_of_ble_eq_true rfl) (fun k15 i15 σ15 h15 => ?_)
  obtain ⟨rfl, rfl, rfl⟩ := h15
  refine r_aret C dX10_remember_18 ?_
  exact ⟨_, _, rfl, rfl, by simp [qUp], rfl⟩
set_option maxRecDepth 20000 in
theorem lp_X10_countWordings {G : qSt → Nat → List (Option qV) → List qV → Prop} {Ret : Option qV → qSt → Prop} (e : qR) (l : Launch) (σ : qSt) (x : Int) (hb : Bd σ) (hc : 0 ≤ σ 0 0 11 ∧ σ 0 0 11 ≤ 20) (hx : InI x) (C : Cx (ED e) l RX10 cX10_countWordings 4 (some .int) 2 Ret G) (hR : ∀ z, z = cntE (fun w => σ 105 w 4) x (σ 0 0 11).toNat → Ret (some (qi z)) σ) : ∀ (k : Nat) (m : Nat) (c : Int), c = cntE (fun w => σ 105 w 4) x m → (m : Int) + k = σ 0 0 11 → G σ 4 [some (qr 0 0), some (qi x), some (qi c), some (qi (m : Int))] [] := by
  intro k
  induction k with
  | zero =>
    intro m c hf hm
    refine r_iload_n C dX10_countWordings_4 rfl ?_
    refine r_aload_n C dX10_countWordings_5 rfl ?_
    refine r_get_i (c := 1) 11 C dX10_countWordings_6 fl_X10_77 rfl rfl rfl rfl (by decide) ?_
    have b6 := hb 0 0 11 (by omega) (by omega)
    refine r_ic_ge 34 C dX10_countWordings_9 (by decide) (by omega) (by omega) (fun h9 => ?_) (fun h9 => ?_)
    · refine r_iload_n C dX10_countWordings_34 rfl ?_
      refine r_iret C dX10_countWordings_35 ?_
      exact hR _ (by rw [show (σ 0 0 11).toNat = m by omega, ← hf])
    · exfalso; omega
  | succ k ih =>
    intro m c hf hm
    refine r_iload_n C dX10_countWordings_4 rfl ?_
    refine r_aload_n C dX10_countWordings_5 rfl ?_
    refine r_get_i (c := 1) 11 C dX10_countWordings_6 fl_X10_77 rfl rfl rfl rfl (by decide) ?_
    have b6 := hb 0 0 11 (by omega) (by omega)
    refine r_ic_ge 34 C dX10_countWordings_9 (by decide) (by omega) (by omega) (fun h9 => ?_) (fun h9 => ?_)
    · exfalso; omega
    · refine r_aload_n C dX10_countWordings_12 rfl ?_
      refine r_get_r (c := 1) C dX10_countWordings_13 fl_X10_17 rfl rfl rfl (by decide) rfl ?_
      refine r_iload_n C dX10_countWordings_16 rfl ?_
      refine r_aald (c := 1) (N := 20) C dX10_countWordings_17 rfl (by decide) rfl (by decide) (by omega) rfl ?_
      refine r_get_i (c := 20) 4 C dX10_countWordings_18 fl_X10_142 rfl rfl rfl rfl (by omega) ?_
      have b18 := hb 105 (m : Int) 4 (by omega) (by omega)
      refine r_iload_n C dX10_countWordings_21 rfl ?_
      refine r_ic_ne 28 C dX10_countWordings_22 (by decide) (by omega) (by omega) (fun h22 => ?_) (fun h22 => ?_)
      · refine r_iinc C dX10_countWordings_28 rfl rfl rfl (by decide) ?_
        refine r_goto 4 C dX10_countWordings_31 (by decide) ?_
        exact ih (m + 1) _ (by simp only [cntE]; rw [← hf]; split <;> omega) (by omega)
      · refine r_iinc C dX10_countWordings_25 rfl rfl rfl (by decide) ?_
        refine r_iinc C dX10_countWordings_28 rfl rfl rfl (by decide) ?_
        refine r_goto 4 C dX10_countWordings_31 (by decide) ?_
        exact ih (m + 1) _ (by simp only [cntE]; rw [← hf]; split <;> omega) (by omega)
set_option maxRecDepth 20000 in
theorem c_X10_countWordings (e : qR) (l : Launch) (σ : qSt) (x : Int) (hb : Bd σ) (hc : 0 ≤ σ 0 0 11 ∧ σ 0 0 11 ≤ 20) (hx : InI x) : CM (ED e) l yX10_countWordings cX10_countWordings 4 (some .int) 2 [qr 0 0, qi x] σ (Ri fun z σ' => z = cntE (fun w => σ 105 w 4) x (σ 0 0 11).toNat ∧ σ = σ') := by
  refine CM.mk tD_ok (by decide +kernel) (Nat.le_of_ble_eq_true rfl) (fun G C => ?_)
  show G σ 0 [some (qr 0 0), some (qi x), none, none] []
  refine r_iconst C dX10_countWordings_0 ?_
  refine r_istore_n C dX10_countWordings_1 rfl rfl (by decide) ?_
  refine r_iconst C dX10_countWordings_2 ?_
  refine r_istore_n C dX10_countWordings_3 rfl rfl (by decide) ?_
  exact lp_X10_countWordings e l σ x hb hc hx C (fun z hz => ⟨_, rfl, hz, rfl⟩) (σ 0 0 11).toNat 0 _ rfl (by omega)
end
section
/-! THE FIT: tables and their equations -/
def sOc (oc : Int → Int) (p : Int) : Nat → Int
  | 0 => 0
  | k + 1 => sOc oc p k + oc (p + k)
/-- the least of c at 1 .. k from lo on; 1000000 if there is none below it -/
def mnL (c : Nat → Int) (lo : Int) : Nat → Int
  | 0 => 1000000
  | k + 1 => if lo ≤ ((k + 1 : Nat) : Int) then min (mnL c lo k) (c (k + 1)) else mnL c lo k
/-- the first of 1 .. k at which c holds; 0 if it does nowhere -/
def shF (c : Nat → Bool) : Nat → Int
  | 0 => 0
  | k + 1 => if shF c k ≠ 0 then shF c k else if c (k + 1) = true then ((k + 1 : Nat) : Int) else 0
def pz (s : Int) : Int := if s = 0 then 0 else 2
theorem pz_rng (s : Int) : 0 ≤ pz s ∧ pz s ≤ 2 := by unfold pz; split <;> omega
theorem sOc_rng {oc : Int → Int} (h : ∀ q, 0 ≤ oc q ∧ oc q ≤ 3) (p : Int) : ∀ k : Nat, 0 ≤ sOc oc p k ∧ sOc oc p k ≤ 3 * k
  | 0 => by simp [sOc]
  | k + 1 => by
    have h1 := sOc_rng h p k
    have h2 := h (p + k)
    simp only [sOc]
    omega
theorem mnL_le (c : Nat → Int) (lo : Int) : ∀ k : Nat, mnL c lo k ≤ 1000000
  | 0 => by simp [mnL]
  | k + 1 => by
    have := mnL_le c lo k
    simp only [mnL]
    split <;> omega
theorem mnL_ge {c : Nat → Int} {lo : Int} : ∀ k : Nat, (∀ j, 1 ≤ j → j ≤ k → 0 ≤ c j) → 0 ≤ mnL c lo k
  | 0, _ => by simp [mnL]
  | k + 1, h => by
    have h1 := mnL_ge (c := c) (lo := lo) k (fun j a b => h j a (by omega))
    have h2 := h (k + 1) (by omega) (by omega)
    simp only [mnL]
    split <;> omega
theorem shF_rng (c : Nat → Bool) : ∀ k : Nat, 0 ≤ shF c k ∧ shF c k ≤ k
  | 0 => by simp [shF]
  | k + 1 => by
    have := shF_rng c k
    simp only [shF]
    split
    · omega
    · split <;> omega
theorem shF_keep {c : Nat → Bool} {m : Nat} (h : shF c m ≠ 0) : ∀ k : Nat, m ≤ k → shF c k = shF c m
  | 0, hk => by rw [show m = 0 by omega]
  | k + 1, hk => by
    by_cases e : m = k + 1
    · rw [e]
    · have := shF_keep h k (by omega)
      simp only [shF]
      rw [this, if_pos h]
theorem mnL_lo (c : Nat → Int) (lo : Int) : ∀ k : Nat, (∀ j, -3000000 ≤ c j) → -3000000 ≤ mnL c lo k
  | 0, _ => by simp [mnL]
  | k + 1, h => by
    have h1 := mnL_lo c lo k h
    have h2 := h (k + 1)
    simp only [mnL]
    split <;> omega
set_option maxRecDepth 20000 in
theorem c_X2_pauseCost (e : qR) (l : Launch) (σ : qSt) (s : Int) (hs : InI s) : CM (ED e) l yX2_pauseCost cX2_pauseCost 1 (some .int) 2 [qi s] σ (Ri fun z σ' => z = pz s ∧ σ = σ') := by
  refine CM.mk tD_ok (by decide +kernel) (Nat.le_of_ble_eq_true rfl) (fun G C => ?_)
  show G σ 0 [some (qi s)] []
  refine r_iload_n C dX2_pauseCost_0 rfl ?_
  refine r_if_ne 8 C dX2_pauseCost_1 (by decide) (by omega) (fun h1 => ?_) (fun h1 => ?_)
  · refine r_iconst C dX2_pauseCost_8 ?_
    refine r_iret C dX2_pauseCost_9 ?_
    exact ⟨_, rfl, by simp only [pz]; omega, rfl⟩
  · refine r_iconst C dX2_pauseCost_4 ?_
    refine r_goto 9 C dX2_pauseCost_5 (by decide) ?_
    refine r_iret C dX2_pauseCost_9 ?_
    exact ⟨_, rfl, by simp only [pz]; omega, rfl⟩
set_option maxRecDepth 20000 in
theorem lp_X2_leastFrom {G : qSt → Nat → List (Option qV) → List qV → Prop} {Ret : Option qV → qSt → Prop} (e : qR) (l : Launch) (σ : qSt) (w i s p : Int) (K : Nat) (hb : Bd σ) (hw : 0 ≤ w ∧ w < 20) (hi : 0 ≤ i ∧ i < 12) (hs : 0 ≤ s ∧ s < 8) (hn : 0 ≤ σ 81 i 2 ∧ σ 81 i 2 ≤ 24) (hp : 0 ≤ p ∧ p < σ 81 i 2) (hlo : 0 ≤ σ 107 w s ∧ σ 107 w s ≤ 6) (hmo : 0 ≤ σ 108 w s ∧ σ 108 w s ≤ 6) (hK : (K : Int) ≤ σ 81 i 2 - p) (C : Cx (ED e) l RX2 cX2_leastFrom 9 (some .int) 3 Ret G) (hR : Ret (some (qi (mnL (fun j => sOc (fun q => cOv (σ 106 w s) (σ 82 i q) (σ 105 w 5)) p j + σ 25 (s + 1) (p + j)) (σ 107 w s) K))) σ) : ∀ (k : Nat) (m : Nat) (x la le : Int), x = (m : Int) + 1 → la = sOc (fun q => cOv (σ 106 w s) (σ 82 i q) (σ 105 w 5)) p m → le = mnL (fun j => sOc (fun q => cOv (σ 106 w s) (σ 82 i q) (σ 105 w 5)) p j + σ 25 (s + 1) (p + j)) (σ 107 w s) m → m + k = K → G σ 27 [some (qr 23 0), some (qr 105 w), some (qr 81 i), some (qi s), some (qi p), some (qi (K : Int)), some (qi la), some (qi le), some (qi x)] [] := by
  intro k
  induction k with
  | zero =>
    intro m x la le hx hla hle hm
    have hsr := sOc_rng (oc := (fun q => cOv (σ 106 w s) (σ 82 i q) (σ 105 w 5))) (fun q => cOv_rng _ _ _) p m
    have hml := mnL_le (fun j => sOc (fun q => cOv (σ 106 w s) (σ 82 i q) (σ 105 w 5)) p j + σ 25 (s + 1) (p + j)) (σ 107 w s) m
    rw [← hla] at hsr
    rw [← hle] at hml
    have hmg : -3000000 ≤ le := by rw [hle]; exact mnL_lo _ _ _ (fun j => by have h1 := sOc_rng (oc := (fun q => cOv (σ 106 w s) (σ 82 i q) (σ 105 w 5))) (fun q => cOv_rng _ _ _) p j; have h2 := hb 25 (s + 1) (p + j) (by omega) (by omega); omega)
    refine r_iload C dX2_leastFrom_27 rfl ?_
    refine r_iload C dX2_leastFrom_29 rfl ?_
    refine r_ic_gt 97 C dX2_leastFrom_31 (by decide) (by omega) (by omega) (fun h31 => ?_) (fun h31 => ?_)
    · refine r_iload C dX2_leastFrom_97 rfl ?_
      refine r_iret C dX2_leastFrom_99 ?_
      rw [show m = K by omega] at hle
      rw [hle]
      exact hR
    · exfalso; omega
  | succ k ih =>
    intro m x la le hx hla hle hm
    have hsr := sOc_rng (oc := (fun q => cOv (σ 106 w s) (σ 82 i q) (σ 105 w 5))) (fun q => cOv_rng _ _ _) p m
    have hml := mnL_le (fun j => sOc (fun q => cOv (σ 106 w s) (σ 82 i q) (σ 105 w 5)) p j + σ 25 (s + 1) (p + j)) (σ 107 w s) m
    rw [← hla] at hsr
    rw [← hle] at hml
    have hmg : -3000000 ≤ le := by rw [hle]; exact mnL_lo _ _ _ (fun j => by have h1 := sOc_rng (oc := (fun q => cOv (σ 106 w s) (σ 82 i q) (σ 105 w 5))) (fun q => cOv_rng _ _ _) p j; have h2 := hb 25 (s + 1) (p + j) (by omega) (by omega); omega)
    refine r_iload C dX2_leastFrom_27 rfl ?_
    refine r_iload C dX2_leastFrom_29 rfl ?_
    refine r_ic_gt 97 C dX2_leastFrom_31 (by decide) (by omega) (by omega) (fun h31 => ?_) (fun h31 => ?_)
    · exfalso; omega
    · refine r_iload C dX2_leastFrom_34 rfl ?_
      refine r_aload_n C dX2_leastFrom_36 rfl ?_
      refine r_iload_n C dX2_leastFrom_37 rfl ?_
      refine r_aload_n C dX2_leastFrom_38 rfl ?_
      refine r_get_r (c := 12) C dX2_leastFrom_39 fl_X2_51 rfl rfl rfl (by omega) rfl ?_
      refine r_iload C dX2_leastFrom_42 rfl ?_
      refine r_iload C dX2_leastFrom_44 rfl ?_
      refine r_iadd C dX2_leastFrom_46 ?_
      refine r_iconst C dX2_leastFrom_47 ?_
      refine r_isub C dX2_leastFrom_48 ?_
      refine r_iald (c := 12) (N := 24) C dX2_leastFrom_49 rfl rfl (by omega) (by omega) ?_
      have b49 := hb 82 i ((p + x) - 1) (by omega) (by omega)
      refine r_cvi (c := 20) C dX2_leastFrom_50 mv_X2_71 (c_X9_costOver e l _ _ _ _ hb hw hs (by omega)) (by decide) rfl rfl rfl rfl (by omega) rfl rfl (Nat.le_of_ble_eq_true rfl) (fun z50 σ50 h50 => ?_)
      obtain ⟨rfl, rfl⟩ := h50
      have hcv50 := cOv_rng (σ 106 w s) (σ 82 i (p + x - 1)) (σ 105 w 5)
      refine r_iadd C dX2_leastFrom_53 ?_
      refine r_istore C dX2_leastFrom_54 rfl rfl (by decide) ?_
      refine r_iload C dX2_leastFrom_56 rfl ?_
      refine r_aload_n C dX2_leastFrom_58 rfl ?_
      refine r_get_r (c := 20) C dX2_leastFrom_59 fl_X2_74 rfl rfl rfl (by omega) rfl ?_
      refine r_iload_n C dX2_leastFrom_62 rfl ?_
      refine r_iald (c := 20) (N := 8) C dX2_leastFrom_63 rfl rfl (by omega) (by omega) ?_
      have b63 := hb 107 w s (by omega) (by omega)
      refine r_ic_lt 91 C dX2_leastFrom_64 (by decide) (by omega) (by omega) (fun h64 => ?_) (fun h64 => ?_)
      · refine r_iinc C dX2_leastFrom_91 rfl rfl rfl (by decide) ?_
        refine r_goto 27 C dX2_leastFrom_94 (by decide) ?_
        exact ih (m + 1) _ _ _ (by omega) (by simp only [sOc]; rw [← hla, show p + x - 1 = p + (m : Int) by omega]) (by simp only [mnL]; rw [← hle]; first | (rw [if_pos (by omega)]; simp only [sOc]; rw [← hla, show p + x - 1 = p + (m : Int) by omega, show p + x = p + ((m + 1 : Nat) : Int) by omega]) | rw [if_neg (by omega)]) (by omega)
      · refine r_iload C dX2_leastFrom_67 rfl ?_
        refine r_iload C dX2_leastFrom_69 rfl ?_
        refine r_aload_n C dX2_leastFrom_71 rfl ?_
        refine r_get_r (c := 1) C dX2_leastFrom_72 fl_X2_11 rfl rfl rfl (by decide) rfl ?_
        refine r_iload_n C dX2_leastFrom_75 rfl ?_
        refine r_iconst C dX2_leastFrom_76 ?_
        refine r_iadd C dX2_leastFrom_77 ?_
        refine r_aald (c := 1) (N := 9) C dX2_leastFrom_78 rfl (by decide) rfl (by decide) (by omega) rfl ?_
        refine r_iload C dX2_leastFrom_79 rfl ?_
        refine r_iload C dX2_leastFrom_81 rfl ?_
        refine r_iadd C dX2_leastFrom_83 ?_
        refine r_iald (c := 9) (N := 25) C dX2_leastFrom_84 rfl rfl (by omega) (by omega) ?_
        have b84 := hb 25 (s + 1) (p + x) (by omega) (by omega)
        refine r_iadd C dX2_leastFrom_85 ?_
        refine r_csi C dX2_leastFrom_86 ms_X2_62 (c_min (ED e) tD_ok l _ _ _ (by omega) (by omega)) (by decide) rfl rfl (Nat.le_of_ble_eq_true rfl) (fun z86 σ86 h86 => ?_)
        obtain ⟨rfl, rfl⟩ := h86
        refine r_istore C dX2_leastFrom_89 rfl rfl (by decide) ?_
        refine r_iinc C dX2_leastFrom_91 rfl rfl rfl (by decide) ?_
        refine r_goto 27 C dX2_leastFrom_94 (by decide) ?_
        exact ih (m + 1) _ _ _ (by omega) (by simp only [sOc]; rw [← hla, show p + x - 1 = p + (m : Int) by omega]) (by simp only [mnL]; rw [← hle]; first | (rw [if_pos (by omega)]; simp only [sOc]; rw [← hla, show p + x - 1 = p + (m : Int) by omega, show p + x = p + ((m + 1 : Nat) : Int) by omega]) | rw [if_neg (by omega)]) (by omega)
set_option maxRecDepth 20000 in
theorem c_X2_leastFrom (e : qR) (l : Launch) (σ : qSt) (w i s p : Int) (hb : Bd σ) (hw : 0 ≤ w ∧ w < 20) (hi : 0 ≤ i ∧ i < 12) (hs : 0 ≤ s ∧ s < 8) (hn : 0 ≤ σ 81 i 2 ∧ σ 81 i 2 ≤ 24) (hp : 0 ≤ p ∧ p < σ 81 i 2) (hlo : 0 ≤ σ 107 w s ∧ σ 107 w s ≤ 6) (hmo : 0 ≤ σ 108 w s ∧ σ 108 w s ≤ 6) : CM (ED e) l yX2_leastFrom cX2_leastFrom 9 (some .int) 3 [qr 23 0, qr 105 w, qr 81 i, qi s, qi p] σ (Ri fun z σ' => z = mnL (fun j => sOc (fun q => cOv (σ 106 w s) (σ 82 i q) (σ 105 w 5)) p j + σ 25 (s + 1) (p + j)) (σ 107 w s) (min (if σ 105 w 5 = 1 ∨ σ 105 w 5 = 3 then σ 107 w s else σ 108 w s) (σ 81 i 2 - p)).toNat ∧ σ = σ') := by
  refine CM.mk tD_ok (by decide +kernel) (Nat.le_of_ble_eq_true rfl) (fun G C => ?_)
  show G σ 0 [some (qr 23 0), some (qr 105 w), some (qr 81 i), some (qi s), some (qi p), none, none, none, none] []
  refine r_aload_n C dX2_leastFrom_0 rfl ?_
  refine r_iload_n C dX2_leastFrom_1 rfl ?_
  refine r_cvi (c := 20) C dX2_leastFrom_2 mv_X2_68 (c_X9_longest e l _ _ _ hb hw hs) (by decide) rfl rfl rfl rfl (by omega) rfl rfl (Nat.le_of_ble_eq_true rfl) (fun z2 σ2 h2 => ?_)
  obtain ⟨rfl, rfl⟩ := h2
  refine r_aload_n C dX2_leastFrom_5 rfl ?_
  refine r_get_i (c := 12) 2 C dX2_leastFrom_6 fl_X2_46 rfl rfl rfl rfl (by omega) ?_
  have b6 := hb 81 i 2 (by omega) (by omega)
  refine r_iload C dX2_leastFrom_9 rfl ?_
  refine r_isub C dX2_leastFrom_11 ?_
  refine r_csi C dX2_leastFrom_12 ms_X2_62 (c_min (ED e) tD_ok l _ _ _ (by omega) (by omega)) (by decide) rfl rfl (Nat.le_of_ble_eq_true rfl) (fun z12 σ12 h12 => ?_)
  obtain ⟨rfl, rfl⟩ := h12
  refine r_v (b := (((min (if σ 105 w 5 = 1 ∨ σ 105 w 5 = 3 then σ 107 w s else σ 108 w s) (σ 81 i 2 - p)).toNat : Nat) : Int)) (by omega) ?_
  refine r_istore C dX2_leastFrom_15 rfl rfl (by decide) ?_
  refine r_iconst C dX2_leastFrom_17 ?_
  refine r_istore C dX2_leastFrom_18 rfl rfl (by decide) ?_
  refine r_ldc C dX2_leastFrom_20 kc_X2_41 ?_
  refine r_istore C dX2_leastFrom_22 rfl rfl (by decide) ?_
  refine r_iconst C dX2_leastFrom_24 ?_
  refine r_istore C dX2_leastFrom_25 rfl rfl (by decide) ?_
  exact lp_X2_leastFrom e l σ w i s p _ hb hw hi hs hn hp hlo hmo (by omega) C ⟨_, rfl, rfl, rfl⟩ (min (if σ 105 w 5 = 1 ∨ σ 105 w 5 = 3 then σ 107 w s else σ 108 w s) (σ 81 i 2 - p)).toNat 0 _ _ _ (by omega) rfl rfl (by omega)
set_option maxRecDepth 20000 in
theorem lp_X2_shortestFrom {G : qSt → Nat → List (Option qV) → List qV → Prop} {Ret : Option qV → qSt → Prop} (e : qR) (l : Launch) (σ : qSt) (w i s p : Int) (K : Nat) (hb : Bd σ) (hw : 0 ≤ w ∧ w < 20) (hi : 0 ≤ i ∧ i < 12) (hs : 0 ≤ s ∧ s < 8) (hn : 0 ≤ σ 81 i 2 ∧ σ 81 i 2 ≤ 24) (hp : 0 ≤ p ∧ p < σ 81 i 2) (hlo : 0 ≤ σ 107 w s ∧ σ 107 w s ≤ 6) (hmo : 0 ≤ σ 108 w s ∧ σ 108 w s ≤ 6) (hK : (K : Int) ≤ σ 81 i 2 - p) (C : Cx (ED e) l RX2 cX2_shortestFrom 8 (some .int) 3 Ret G) (hR : Ret (some (qi (shF (fun j => decide (σ 107 w s ≤ (j : Int) ∧ sOc (fun q => cOv (σ 106 w s) (σ 82 i q) (σ 105 w 5)) p j + σ 25 (s + 1) (p + j) = σ 25 s p)) K))) σ) : ∀ (k : Nat) (m : Nat) (x la : Int), x = (m : Int) + 1 → la = sOc (fun q => cOv (σ 106 w s) (σ 82 i q) (σ 105 w 5)) p m → shF (fun j => decide (σ 107 w s ≤ (j : Int) ∧ sOc (fun q => cOv (σ 106 w s) (σ 82 i q) (σ 105 w 5)) p j + σ 25 (s + 1) (p + j) = σ 25 s p)) m = 0 → m + k = K → G σ 23 [some (qr 23 0), some (qr 105 w), some (qr 81 i), some (qi s), some (qi p), some (qi (K : Int)), some (qi la), some (qi x)] [] := by
  intro k
  induction k with
  | zero =>
    intro m x la hx hla hle hm
    have hsr := sOc_rng (oc := (fun q => cOv (σ 106 w s) (σ 82 i q) (σ 105 w 5))) (fun q => cOv_rng _ _ _) p m
    rw [← hla] at hsr
    refine r_iload C dX2_shortestFrom_23 rfl ?_
    refine r_iload C dX2_shortestFrom_25 rfl ?_
    refine r_ic_gt 101 C dX2_shortestFrom_27 (by decide) (by omega) (by omega) (fun h27 => ?_) (fun h27 => ?_)
    · refine r_iconst C dX2_shortestFrom_101 ?_
      refine r_iret C dX2_shortestFrom_102 ?_
      rw [show m = K by omega] at hle
      rw [hle] at hR
      exact hR
    · exfalso; omega
  | succ k ih =>
    intro m x la hx hla hle hm
    have hsr := sOc_rng (oc := (fun q => cOv (σ 106 w s) (σ 82 i q) (σ 105 w 5))) (fun q => cOv_rng _ _ _) p m
    rw [← hla] at hsr
    refine r_iload C dX2_shortestFrom_23 rfl ?_
    refine r_iload C dX2_shortestFrom_25 rfl ?_
    refine r_ic_gt 101 C dX2_shortestFrom_27 (by decide) (by omega) (by omega) (fun h27 => ?_) (fun h27 => ?_)
    · exfalso; omega
    · refine r_iload C dX2_shortestFrom_30 rfl ?_
      refine r_aload_n C dX2_shortestFrom_32 rfl ?_
      refine r_iload_n C dX2_shortestFrom_33 rfl ?_
      refine r_aload_n C dX2_shortestFrom_34 rfl ?_
      refine r_get_r (c := 12) C dX2_shortestFrom_35 fl_X2_51 rfl rfl rfl (by omega) rfl ?_
      refine r_iload C dX2_shortestFrom_38 rfl ?_
      refine r_iload C dX2_shortestFrom_40 rfl ?_
      refine r_iadd C dX2_shortestFrom_42 ?_
      refine r_iconst C dX2_shortestFrom_43 ?_
      refine r_isub C dX2_shortestFrom_44 ?_
      refine r_iald (c := 12) (N := 24) C dX2_shortestFrom_45 rfl rfl (by omega) (by omega) ?_
      have b45 := hb 82 i ((p + x) - 1) (by omega) (by omega)
      refine r_cvi (c := 20) C dX2_shortestFrom_46 mv_X2_71 (c_X9_costOver e l _ _ _ _ hb hw hs (by omega)) (by decide) rfl rfl rfl rfl (by omega) rfl rfl (Nat.le_of_ble_eq_true rfl) (fun z46 σ46 h46 => ?_)
      obtain ⟨rfl, rfl⟩ := h46
      have hcv46 := cOv_rng (σ 106 w s) (σ 82 i (p + x - 1)) (σ 105 w 5)
      refine r_iadd C dX2_shortestFrom_49 ?_
      refine r_istore C dX2_shortestFrom_50 rfl rfl (by decide) ?_
      refine r_iload C dX2_shortestFrom_52 rfl ?_
      refine r_aload_n C dX2_shortestFrom_54 rfl ?_
      refine r_get_r (c := 20) C dX2_shortestFrom_55 fl_X2_74 rfl rfl rfl (by omega) rfl ?_
      refine r_iload_n C dX2_shortestFrom_58 rfl ?_
      refine r_iald (c := 20) (N := 8) C dX2_shortestFrom_59 rfl rfl (by omega) (by omega) ?_
      have b59 := hb 107 w s (by omega) (by omega)
      refine r_ic_lt 95 C dX2_shortestFrom_60 (by decide) (by omega) (by omega) (fun h60 => ?_) (fun h60 => ?_)
      · refine r_iinc C dX2_shortestFrom_95 rfl rfl rfl (by decide) ?_
        refine r_goto 23 C dX2_shortestFrom_98 (by decide) ?_
        exact ih (m + 1) _ _ (by omega) (by simp only [sOc]; rw [← hla, show p + x - 1 = p + (m : Int) by omega]) (by simp only [shF]; rw [hle, if_neg (by simp), if_neg (by rw [decide_eq_true_eq]; simp only [sOc]; rw [← hla, ← show p + x - 1 = p + (m : Int) by omega, ← show p + x = p + ((m + 1 : Nat) : Int) by omega]; omega)]) (by omega)
      · refine r_iload C dX2_shortestFrom_63 rfl ?_
        refine r_aload_n C dX2_shortestFrom_65 rfl ?_
        refine r_get_r (c := 1) C dX2_shortestFrom_66 fl_X2_11 rfl rfl rfl (by decide) rfl ?_
        refine r_iload_n C dX2_shortestFrom_69 rfl ?_
        refine r_iconst C dX2_shortestFrom_70 ?_
        refine r_iadd C dX2_shortestFrom_71 ?_
        refine r_aald (c := 1) (N := 9) C dX2_shortestFrom_72 rfl (by decide) rfl (by decide) (by omega) rfl ?_
        refine r_iload C dX2_shortestFrom_73 rfl ?_
        refine r_iload C dX2_shortestFrom_75 rfl ?_
        refine r_iadd C dX2_shortestFrom_77 ?_
        refine r_iald (c := 9) (N := 25) C dX2_shortestFrom_78 rfl rfl (by omega) (by omega) ?_
        have b78 := hb 25 (s + 1) (p + x) (by omega) (by omega)
        refine r_iadd C dX2_shortestFrom_79 ?_
        refine r_aload_n C dX2_shortestFrom_80 rfl ?_
        refine r_get_r (c := 1) C dX2_shortestFrom_81 fl_X2_11 rfl rfl rfl (by decide) rfl ?_
        refine r_iload_n C dX2_shortestFrom_84 rfl ?_
        refine r_aald (c := 1) (N := 9) C dX2_shortestFrom_85 rfl (by decide) rfl (by decide) (by omega) rfl ?_
        refine r_iload C dX2_shortestFrom_86 rfl ?_
        refine r_iald (c := 9) (N := 25) C dX2_shortestFrom_88 rfl rfl (by omega) (by omega) ?_
        have b88 := hb 25 s p (by omega) (by omega)
        refine r_ic_ne 95 C dX2_shortestFrom_89 (by decide) (by omega) (by omega) (fun h89 => ?_) (fun h89 => ?_)
        · refine r_iinc C dX2_shortestFrom_95 rfl rfl rfl (by decide) ?_
          refine r_goto 23 C dX2_shortestFrom_98 (by decide) ?_
          exact ih (m + 1) _ _ (by omega) (by simp only [sOc]; rw [← hla, show p + x - 1 = p + (m : Int) by omega]) (by simp only [shF]; rw [hle, if_neg (by simp), if_neg (by rw [decide_eq_true_eq]; simp only [sOc]; rw [← hla, ← show p + x - 1 = p + (m : Int) by omega, ← show p + x = p + ((m + 1 : Nat) : Int) by omega]; omega)]) (by omega)
        · refine r_iload C dX2_shortestFrom_92 rfl ?_
          refine r_iret C dX2_shortestFrom_94 ?_
          have hq : shF (fun j => decide (σ 107 w s ≤ (j : Int) ∧ sOc (fun q => cOv (σ 106 w s) (σ 82 i q) (σ 105 w 5)) p j + σ 25 (s + 1) (p + j) = σ 25 s p)) (m + 1) = x := by
            simp only [shF]
            rw [hle, if_neg (by simp), if_pos (by rw [decide_eq_true_eq]; simp only [sOc]; rw [← hla, ← show p + x - 1 = p + (m : Int) by omega, ← show p + x = p + ((m + 1 : Nat) : Int) by omega]; omega)]
            omega
          rw [shF_keep (m := m + 1) (by rw [hq]; omega) K (by omega), hq] at hR
          exact hR
set_option maxRecDepth 20000 in
theorem c_X2_shortestFrom (e : qR) (l : Launch) (σ : qSt) (w i s p : Int) (hb : Bd σ) (hw : 0 ≤ w ∧ w < 20) (hi : 0 ≤ i ∧ i < 12) (hs : 0 ≤ s ∧ s < 8) (hn : 0 ≤ σ 81 i 2 ∧ σ 81 i 2 ≤ 24) (hp : 0 ≤ p ∧ p < σ 81 i 2) (hlo : 0 ≤ σ 107 w s ∧ σ 107 w s ≤ 6) (hmo : 0 ≤ σ 108 w s ∧ σ 108 w s ≤ 6) : CM (ED e) l yX2_shortestFrom cX2_shortestFrom 8 (some .int) 3 [qr 23 0, qr 105 w, qr 81 i, qi s, qi p] σ (Ri fun z σ' => z = shF (fun j => decide (σ 107 w s ≤ (j : Int) ∧ sOc (fun q => cOv (σ 106 w s) (σ 82 i q) (σ 105 w 5)) p j + σ 25 (s + 1) (p + j) = σ 25 s p)) (min (if σ 105 w 5 = 1 ∨ σ 105 w 5 = 3 then σ 107 w s else σ 108 w s) (σ 81 i 2 - p)).toNat ∧ σ = σ') := by
  refine CM.mk tD_ok (by decide +kernel) (Nat.le_of_ble_eq_true rfl) (fun G C => ?_)
  show G σ 0 [some (qr 23 0), some (qr 105 w), some (qr 81 i), some (qi s), some (qi p), none, none, none] []
  refine r_aload_n C dX2_shortestFrom_0 rfl ?_
  refine r_iload_n C dX2_shortestFrom_1 rfl ?_
  refine r_cvi (c := 20) C dX2_shortestFrom_2 mv_X2_68 (c_X9_longest e l _ _ _ hb hw hs) (by decide) rfl rfl rfl rfl (by omega) rfl rfl (Nat.le_of_ble_eq_true rfl) (fun z2 σ2 h2 => ?_)
  obtain ⟨rfl, rfl⟩ := h2
  refine r_aload_n C dX2_shortestFrom_5 rfl ?_
  refine r_get_i (c := 12) 2 C dX2_shortestFrom_6 fl_X2_46 rfl rfl rfl rfl (by omega) ?_
  have b6 := hb 81 i 2 (by omega) (by omega)
  refine r_iload C dX2_shortestFrom_9 rfl ?_
  refine r_isub C dX2_shortestFrom_11 ?_
  refine r_csi C dX2_shortestFrom_12 ms_X2_62 (c_min (ED e) tD_ok l _ _ _ (by omega) (by omega)) (by decide) rfl rfl (Nat.le_of_ble_eq_true rfl) (fun z12 σ12 h12 => ?_)
  obtain ⟨rfl, rfl⟩ := h12
  refine r_v (b := (((min (if σ 105 w 5 = 1 ∨ σ 105 w 5 = 3 then σ 107 w s else σ 108 w s) (σ 81 i 2 - p)).toNat : Nat) : Int)) (by omega) ?_
  refine r_istore C dX2_shortestFrom_15 rfl rfl (by decide) ?_
  refine r_iconst C dX2_shortestFrom_17 ?_
  refine r_istore C dX2_shortestFrom_18 rfl rfl (by decide) ?_
  refine r_iconst C dX2_shortestFrom_20 ?_
  refine r_istore C dX2_shortestFrom_21 rfl rfl (by decide) ?_
  exact lp_X2_shortestFrom e l σ w i s p _ hb hw hi hs hn hp hlo hmo (by omega) C ⟨_, rfl, rfl, rfl⟩ (min (if σ 105 w 5 = 1 ∨ σ 105 w 5 = 3 then σ 107 w s else σ 108 w s) (σ 81 i 2 - p)).toNat 0 _ _ (by omega) rfl rfl (by omega)
end
section
/-! THE FIT: rows, the walk back, the whole -/
abbrev AgR (r : Int) (σ σ1 : qSt) : Prop := ∀ (a : Nat) (b c : Int), ¬ (a = 25 ∧ b = r) → σ1 a b c = σ a b c
def fpI (σ : qSt) (i r n k : Int) (σ1 : qSt) : Prop := AgR r σ σ1 ∧ Bd σ1 ∧ σ1 25 r n = 0 ∧ (∀ p, k ≤ p → p < n → σ1 25 r p = σ1 25 r (p + 1) + pz (σ 82 i p)) ∧ ∀ p, k ≤ p → p ≤ n → 0 ≤ σ1 25 r p ∧ σ1 25 r p ≤ 2 * (n - p)
theorem Bd.up {σ : qSt} (h : Bd σ) {k : Nat} {i j z : Int} (hz : -2000000 ≤ z ∧ z ≤ 2000000) : Bd (qUp σ k i j z) := by
  intro a b c h1 h2
  simp only [qUp]
  split
  · exact hz
  · exact h a b c h1 h2
theorem fp_0 {σ : qSt} (hb : Bd σ) (i r n : Int) : fpI σ i r n n (qUp σ 25 r n 0) := by
  refine ⟨fun a b c h => ?_, hb.up (by omega), by simp [qUp], fun p h1 h2 => by omega, fun p h1 h2 => ?_⟩
  · simp only [qUp]
    rw [if_neg (by rintro ⟨h1, h2, -⟩; exact h ⟨h1, h2⟩)]
  · rw [show p = n by omega]
    simp [qUp]
theorem fp_step {σ σ1 : qSt} {i r n x : Int} (h : fpI σ i r n (x + 1) σ1) (hx : 0 ≤ x ∧ x < n) (hn : n ≤ 24) : fpI σ i r n x (qUp σ1 25 r x (σ1 25 r (x + 1) + pz (σ1 82 i x))) := by
  obtain ⟨h1, h2, h3, h4, h5⟩ := h
  have h6 := h5 (x + 1) (by omega) (by omega)
  have h7 := pz_rng (σ1 82 i x)
  refine ⟨fun a b c h => ?_, h2.up (by omega), ?_, fun p q1 q2 => ?_, fun p q1 q2 => ?_⟩
  · simp only [qUp]
    rw [if_neg (by rintro ⟨q1, q2, -⟩; exact h ⟨q1, q2⟩)]
    exact h1 a b c h
  · simp only [qUp]
    rw [if_neg (by omega)]
    exact h3
  · by_cases e : p = x
    · subst e
      rw [qUp_eq, qUp_ne (by omega), h1 82 i p (by omega)]
    · simp only [qUp]
      rw [if_neg (by omega), if_neg (by omega)]
      exact h4 p (by omega) q2
  · by_cases e : p = x
    · subst e
      rw [qUp_eq]
      omega
    · simp only [qUp]
      rw [if_neg (by omega)]
      exact h5 p (by omega) q2
set_option maxRecDepth 20000 in
theorem lp_X2_fillPauses {G : qSt → Nat → List (Option qV) → List qV → Prop} {Ret : Option qV → qSt → Prop} (e : qR) (l : Launch) (σ : qSt) (i r n : Int) (hi : 0 ≤ i ∧ i < 12) (hr : 0 ≤ r ∧ r < 9) (hn : 0 ≤ n ∧ n ≤ 24) (C : Cx (ED e) l RX2 cX2_fillPauses 4 none 3 Ret G) (hR : ∀ σ', fpI σ i r n 0 σ' → Ret none σ') : ∀ (k : Nat) (x : Int) (σ1 : qSt), x = (k : Int) - 1 → x < n → fpI σ i r n (x + 1) σ1 → G σ1 24 [some (qr 23 0), some (qr 81 i), some (qr 25 r), some (qi x)] [] := by
  intro k
  induction k with
  | zero =>
    intro x σ1 hx hxn hI
    have hb1 := hI.2.1
    refine r_iload_n C dX2_fillPauses_24 rfl ?_
    refine r_if_lt 52 C dX2_fillPauses_25 (by decide) (by omega) (fun h25 => ?_) (fun h25 => ?_)
    · refine r_vret C dX2_fillPauses_52 ?_
      exact hR _ (by rw [show x + 1 = 0 by omega] at hI; exact hI)
    · exfalso; omega
  | succ k ih =>
    intro x σ1 hx hxn hI
    have hb1 := hI.2.1
    refine r_iload_n C dX2_fillPauses_24 rfl ?_
    refine r_if_lt 52 C dX2_fillPauses_25 (by decide) (by omega) (fun h25 => ?_) (fun h25 => ?_)
    · exfalso; omega
    · refine r_aload_n C dX2_fillPauses_28 rfl ?_
      refine r_iload_n C dX2_fillPauses_29 rfl ?_
      refine r_aload_n C dX2_fillPauses_30 rfl ?_
      refine r_iload_n C dX2_fillPauses_31 rfl ?_
      refine r_iconst C dX2_fillPauses_32 ?_
      refine r_iadd C dX2_fillPauses_33 ?_
      refine r_iald (c := 9) (N := 25) C dX2_fillPauses_34 rfl rfl (by omega) (by omega) ?_
      have b34 := hb1 25 r (x + 1) (by omega) (by omega)
      refine r_aload_n C dX2_fillPauses_35 rfl ?_
      refine r_get_r (c := 12) C dX2_fillPauses_36 fl_X2_51 rfl rfl rfl (by omega) rfl ?_
      refine r_iload_n C dX2_fillPauses_39 rfl ?_
      refine r_iald (c := 12) (N := 24) C dX2_fillPauses_40 rfl rfl (by omega) (by omega) ?_
      have b40 := hb1 82 i x (by omega) (by omega)
      refine r_csi C dX2_fillPauses_41 ms_X2_54 (c_X2_pauseCost e l _ _ (by omega)) (by decide) rfl rfl (Nat.le_of_ble_eq_true rfl) (fun z41 σ41 h41 => ?_)
      obtain ⟨rfl, rfl⟩ := h41
      refine r_iadd C dX2_fillPauses_44 ?_
      refine r_iast (c := 9) (N := 25) C dX2_fillPauses_45 rfl rfl (by omega) (by omega) ?_
      refine r_iinc C dX2_fillPauses_46 rfl rfl rfl (by decide) ?_
      refine r_goto 24 C dX2_fillPauses_49 (by decide) ?_
      exact ih _ _ (by omega) (by omega) (by have := fp_step hI (by omega) (by omega); rwa [show x + -1 + 1 = x by omega])
set_option maxRecDepth 20000 in
theorem c_X2_fillPauses (e : qR) (l : Launch) (σ : qSt) (i : Int) (hb : Bd σ) (hi : 0 ≤ i ∧ i < 12) (hr : 0 ≤ σ 23 0 4 ∧ σ 23 0 4 < 9) (hn : 0 ≤ σ 81 i 2 ∧ σ 81 i 2 ≤ 24) : CM (ED e) l yX2_fillPauses cX2_fillPauses 4 none 3 [qr 23 0, qr 81 i] σ (Rv fun σ' => fpI σ i (σ 23 0 4) (σ 81 i 2) 0 σ') := by
  refine CM.mk tD_ok (by decide +kernel) (Nat.le_of_ble_eq_true rfl) (fun G C => ?_)
  show G σ 0 [some (qr 23 0), some (qr 81 i), none, none] []
  refine r_aload_n C dX2_fillPauses_0 rfl ?_
  refine r_get_r (c := 1) C dX2_fillPauses_1 fl_X2_11 rfl rfl rfl (by decide) rfl ?_
  refine r_aload_n C dX2_fillPauses_4 rfl ?_
  refine r_get_i (c := 1) 4 C dX2_fillPauses_5 fl_X2_27 rfl rfl rfl rfl (by decide) ?_
  have b5 := hb 23 0 4 (by omega) (by omega)
  refine r_aald (c := 1) (N := 9) C dX2_fillPauses_8 rfl (by decide) rfl (by decide) (by omega) rfl ?_
  refine r_astore_n C dX2_fillPauses_9 rfl rfl (by decide) ?_
  refine r_aload_n C dX2_fillPauses_10 rfl ?_
  refine r_aload_n C dX2_fillPauses_11 rfl ?_
  refine r_get_i (c := 12) 2 C dX2_fillPauses_12 fl_X2_46 rfl rfl rfl rfl (by omega) ?_
  have b12 := hb 81 i 2 (by omega) (by omega)
  refine r_iconst C dX2_fillPauses_15 ?_
  refine r_iast (c := 9) (N := 25) C dX2_fillPauses_16 rfl rfl (by omega) (by omega) ?_
  refine r_aload_n C dX2_fillPauses_17 rfl ?_
  refine r_get_i (c := 12) 2 C dX2_fillPauses_18 fl_X2_46 rfl rfl rfl rfl (by omega) ?_
  refine r_v (b := (σ 81 i 2)) (by simp [qUp, qCpy]) ?_
  have b18 := hb 81 i 2 (by omega) (by omega)
  refine r_iconst C dX2_fillPauses_21 ?_
  refine r_isub C dX2_fillPauses_22 ?_
  refine r_istore_n C dX2_fillPauses_23 rfl rfl (by decide) ?_
  exact lp_X2_fillPauses e l σ i _ _ hi hr hn C (fun σ' h => ⟨rfl, h⟩) (σ 81 i 2).toNat _ _ (by omega) (by omega) (by rw [show σ 81 i 2 - 1 + 1 = σ 81 i 2 by omega]; exact fp_0 hb _ _ _)
def lfS (σ : qSt) (w i s p : Int) : Int := mnL (fun j => sOc (fun q => cOv (σ 106 w s) (σ 82 i q) (σ 105 w 5)) p j + σ 25 (s + 1) (p + j)) (σ 107 w s) (min (if σ 105 w 5 = 1 ∨ σ 105 w 5 = 3 then σ 107 w s else σ 108 w s) (σ 81 i 2 - p)).toNat
def shS (σ : qSt) (w i s p : Int) : Int := shF (fun j => decide (σ 107 w s ≤ (j : Int) ∧ sOc (fun q => cOv (σ 106 w s) (σ 82 i q) (σ 105 w 5)) p j + σ 25 (s + 1) (p + j) = σ 25 s p)) (min (if σ 105 w 5 = 1 ∨ σ 105 w 5 = 3 then σ 107 w s else σ 108 w s) (σ 81 i 2 - p)).toNat
theorem lfS_cg {σ σ1 : qSt} {w i s p : Int} (h : AgR s σ σ1) : lfS σ1 w i s p = lfS σ w i s p := by
  have h1 : ∀ (a : Nat) (b c : Int), a ≠ 25 → σ1 a b c = σ a b c := fun a b c q => h a b c (fun z => q z.1)
  have h2 : ∀ c, σ1 25 (s + 1) c = σ 25 (s + 1) c := fun c => h 25 (s + 1) c (by omega)
  unfold lfS
  simp only [h2, h1 106 _ _ (by decide), h1 82 _ _ (by decide), h1 105 _ _ (by decide), h1 107 _ _ (by decide), h1 108 _ _ (by decide), h1 81 _ _ (by decide)]
theorem lfS_rng {σ : qSt} {w i s p : Int} (hp : 0 ≤ p) (h : ∀ q, 0 ≤ q → q ≤ σ 81 i 2 → 0 ≤ σ 25 (s + 1) q) : 0 ≤ lfS σ w i s p ∧ lfS σ w i s p ≤ 1000000 := by
  unfold lfS
  refine ⟨mnL_ge _ (fun j h1 h2 => ?_), mnL_le _ _ _⟩
  have h3 := sOc_rng (oc := fun q => cOv (σ 106 w s) (σ 82 i q) (σ 105 w 5)) (fun q => cOv_rng _ _ _) p j
  have h4 := h (p + j) (by omega) (by omega)
  omega
theorem shS_cg {σ σ1 : qSt} {w i s p : Int} (h : ∀ (a : Nat) (b c : Int), a ≠ 34 → a ≠ 35 → σ1 a b c = σ a b c) : shS σ1 w i s p = shS σ w i s p := by
  unfold shS
  simp only [h 25 _ _ (by decide) (by decide), h 106 _ _ (by decide) (by decide), h 82 _ _ (by decide) (by decide), h 105 _ _ (by decide) (by decide), h 107 _ _ (by decide) (by decide), h 108 _ _ (by decide) (by decide), h 81 _ _ (by decide) (by decide)]
def fsI (σ : qSt) (w i s n k : Int) (σ1 : qSt) : Prop := AgR s σ σ1 ∧ Bd σ1 ∧ σ1 25 s n = 1000000 ∧ (∀ p, k ≤ p → p < n → σ1 25 s p = min (σ1 25 s (p + 1) + pz (σ 82 i p)) (lfS σ w i s p)) ∧ ∀ p, k ≤ p → p ≤ n → 0 ≤ σ1 25 s p ∧ σ1 25 s p ≤ 1000000
theorem fs_0 {σ : qSt} (hb : Bd σ) (w i s n : Int) : fsI σ w i s n n (qUp σ 25 s n 1000000) := by
  refine ⟨fun a b c h => ?_, hb.up (by omega), by simp [qUp], fun p h1 h2 => by omega, fun p h1 h2 => ?_⟩
  · simp only [qUp]
    rw [if_neg (by rintro ⟨h1, h2, -⟩; exact h ⟨h1, h2⟩)]
  · rw [show p = n by omega]
    simp [qUp]
theorem fs_step {σ σ1 : qSt} {w i s n x : Int} (h : fsI σ w i s n (x + 1) σ1) (hx : 0 ≤ x ∧ x < n) (hl : 0 ≤ lfS σ w i s x ∧ lfS σ w i s x ≤ 1000000) : fsI σ w i s n x (qUp σ1 25 s x (min (σ1 25 s (x + 1) + pz (σ1 82 i x)) (lfS σ1 w i s x))) := by
  obtain ⟨h1, h2, h3, h4, h5⟩ := h
  have h6 := h5 (x + 1) (by omega) (by omega)
  have h7 := pz_rng (σ1 82 i x)
  have h8 := lfS_cg (w := w) (i := i) (p := x) h1
  rw [h8]
  refine ⟨fun a b c h => ?_, h2.up (by omega), ?_, fun p q1 q2 => ?_, fun p q1 q2 => ?_⟩
  · simp only [qUp]
    rw [if_neg (by rintro ⟨q1, q2, -⟩; exact h ⟨q1, q2⟩)]
    exact h1 a b c h
  · simp only [qUp]
    rw [if_neg (by omega)]
    exact h3
  · by_cases e : p = x
    · subst e
      rw [qUp_eq, qUp_ne (by omega), h1 82 i p (by omega)]
    · simp only [qUp]
      rw [if_neg (by omega), if_neg (by omega)]
      exact h4 p (by omega) q2
  · by_cases e : p = x
    · subst e
      rw [qUp_eq]
      omega
    · simp only [qUp]
      rw [if_neg (by omega)]
      exact h5 p (by omega) q2
set_option maxRecDepth 20000 in
theorem lp_X2_fillSyllable {G : qSt → Nat → List (Option qV) → List qV → Prop} {Ret : Option qV → qSt → Prop} (e : qR) (l : Launch) (σ : qSt) (w i s : Int) (hw : 0 ≤ w ∧ w < 20) (hi : 0 ≤ i ∧ i < 12) (hs : 0 ≤ s ∧ s < 8) (hn : 0 ≤ σ 81 i 2 ∧ σ 81 i 2 ≤ 24) (hlo : 0 ≤ σ 107 w s ∧ σ 107 w s ≤ 6) (hmo : 0 ≤ σ 108 w s ∧ σ 108 w s ≤ 6) (hnx : ∀ q, 0 ≤ q → q ≤ σ 81 i 2 → 0 ≤ σ 25 (s + 1) q) (C : Cx (ED e) l RX2 cX2_fillSyllable 7 none 4 Ret G) (hR : ∀ σ', fsI σ w i s (σ 81 i 2) 0 σ' → Ret none σ') : ∀ (k : Nat) (x : Int) (o6 : Option qV) (σ1 : qSt), x = (k : Int) - 1 → x < σ 81 i 2 → fsI σ w i s (σ 81 i 2) (x + 1) σ1 → G σ1 25 [some (qr 23 0), some (qr 105 w), some (qr 81 i), some (qi s), some (qr 25 s), some (qi x), o6] [] := by
  intro k
  induction k with
  | zero =>
    intro x o6 σ1 hx hxn hI
    have hb1 := hI.2.1
    refine r_iload C dX2_fillSyllable_25 rfl ?_
    refine r_if_lt 75 C dX2_fillSyllable_27 (by decide) (by omega) (fun h27 => ?_) (fun h27 => ?_)
    · refine r_vret C dX2_fillSyllable_75 ?_
      exact hR _ (by rw [show x + 1 = 0 by omega] at hI; exact hI)
    · exfalso; omega
  | succ k ih =>
    intro x o6 σ1 hx hxn hI
    have hb1 := hI.2.1
    refine r_iload C dX2_fillSyllable_25 rfl ?_
    refine r_if_lt 75 C dX2_fillSyllable_27 (by decide) (by omega) (fun h27 => ?_) (fun h27 => ?_)
    · exfalso; omega
    · refine r_aload C dX2_fillSyllable_30 rfl ?_
      refine r_iload C dX2_fillSyllable_32 rfl ?_
      refine r_iconst C dX2_fillSyllable_34 ?_
      refine r_iadd C dX2_fillSyllable_35 ?_
      refine r_iald (c := 9) (N := 25) C dX2_fillSyllable_36 rfl rfl (by omega) (by omega) ?_
      have b36 := hb1 25 s (x + 1) (by omega) (by omega)
      refine r_aload_n C dX2_fillSyllable_37 rfl ?_
      refine r_get_r (c := 12) C dX2_fillSyllable_38 fl_X2_51 rfl rfl rfl (by omega) rfl ?_
      refine r_iload C dX2_fillSyllable_41 rfl ?_
      refine r_iald (c := 12) (N := 24) C dX2_fillSyllable_43 rfl rfl (by omega) (by omega) ?_
      have b43 := hb1 82 i x (by omega) (by omega)
      refine r_csi C dX2_fillSyllable_44 ms_X2_54 (c_X2_pauseCost e l _ _ (by omega)) (by decide) rfl rfl (Nat.le_of_ble_eq_true rfl) (fun z44 σ44 h44 => ?_)
      obtain ⟨rfl, rfl⟩ := h44
      have hpz := pz_rng (σ1 82 i x)
      refine r_iadd C dX2_fillSyllable_47 ?_
      refine r_istore C dX2_fillSyllable_48 rfl rfl (by decide) ?_
      refine r_aload C dX2_fillSyllable_50 rfl ?_
      refine r_iload C dX2_fillSyllable_52 rfl ?_
      refine r_iload C dX2_fillSyllable_54 rfl ?_
      refine r_aload_n C dX2_fillSyllable_56 rfl ?_
      refine r_aload_n C dX2_fillSyllable_57 rfl ?_
      refine r_aload_n C dX2_fillSyllable_58 rfl ?_
      refine r_iload_n C dX2_fillSyllable_59 rfl ?_
      refine r_iload C dX2_fillSyllable_60 rfl ?_
      refine r_cvi (c := 1) C dX2_fillSyllable_62 mv_X2_58 (c_X2_leastFrom e l σ1 w i s x hb1 hw hi hs (by rw [hI.1 81 i 2 (by omega)]; exact hn) (by rw [hI.1 81 i 2 (by omega)]; omega) (by rw [hI.1 107 w s (by omega)]; exact hlo) (by rw [hI.1 108 w s (by omega)]; exact hmo)) (by decide) rfl rfl rfl rfl (by decide) rfl rfl (Nat.le_of_ble_eq_true rfl) (fun z62 σ62 h62 => ?_)
      obtain ⟨rfl, rfl⟩ := h62
      have hlr : -3000000 ≤ lfS σ1 w i s x ∧ lfS σ1 w i s x ≤ 1000000 := by rw [lfS_cg hI.1]; have := lfS_rng (w := w) (i := i) (s := s) (p := x) (by omega) hnx; omega
      unfold lfS at hlr
      refine r_csi C dX2_fillSyllable_65 ms_X2_62 (c_min (ED e) tD_ok l _ _ _ (by omega) (by omega)) (by decide) rfl rfl (Nat.le_of_ble_eq_true rfl) (fun z65 σ65 h65 => ?_)
      obtain ⟨rfl, rfl⟩ := h65
      refine r_iast (c := 9) (N := 25) C dX2_fillSyllable_68 rfl rfl (by omega) (by omega) ?_
      refine r_iinc C dX2_fillSyllable_69 rfl rfl rfl (by decide) ?_
      refine r_goto 25 C dX2_fillSyllable_72 (by decide) ?_
      exact ih _ _ _ (by omega) (by omega) (by have := fs_step hI (by omega) (lfS_rng (by omega) hnx); rwa [show x + -1 + 1 = x by omega])
set_option maxRecDepth 20000 in
theorem c_X2_fillSyllable (e : qR) (l : Launch) (σ : qSt) (w i s : Int) (hb : Bd σ) (hw : 0 ≤ w ∧ w < 20) (hi : 0 ≤ i ∧ i < 12) (hs : 0 ≤ s ∧ s < 8) (hn : 0 ≤ σ 81 i 2 ∧ σ 81 i 2 ≤ 24) (hlo : 0 ≤ σ 107 w s ∧ σ 107 w s ≤ 6) (hmo : 0 ≤ σ 108 w s ∧ σ 108 w s ≤ 6) (hnx : ∀ q, 0 ≤ q → q ≤ σ 81 i 2 → 0 ≤ σ 25 (s + 1) q) : CM (ED e) l yX2_fillSyllable cX2_fillSyllable 7 none 4 [qr 23 0, qr 105 w, qr 81 i, qi s] σ (Rv fun σ' => fsI σ w i s (σ 81 i 2) 0 σ') := by
  refine CM.mk tD_ok (by decide +kernel) (Nat.le_of_ble_eq_true rfl) (fun G C => ?_)
  show G σ 0 [some (qr 23 0), some (qr 105 w), some (qr 81 i), some (qi s), none, none, none] []
  refine r_aload_n C dX2_fillSyllable_0 rfl ?_
  refine r_get_r (c := 1) C dX2_fillSyllable_1 fl_X2_11 rfl rfl rfl (by decide) rfl ?_
  refine r_iload_n C dX2_fillSyllable_4 rfl ?_
  refine r_aald (c := 1) (N := 9) C dX2_fillSyllable_5 rfl (by decide) rfl (by decide) (by omega) rfl ?_
  refine r_astore C dX2_fillSyllable_6 rfl rfl (by decide) ?_
  refine r_aload C dX2_fillSyllable_8 rfl ?_
  refine r_aload_n C dX2_fillSyllable_10 rfl ?_
  refine r_get_i (c := 12) 2 C dX2_fillSyllable_11 fl_X2_46 rfl rfl rfl rfl (by omega) ?_
  have b11 := hb 81 i 2 (by omega) (by omega)
  refine r_ldc C dX2_fillSyllable_14 kc_X2_41 ?_
  refine r_iast (c := 9) (N := 25) C dX2_fillSyllable_16 rfl rfl (by omega) (by omega) ?_
  refine r_aload_n C dX2_fillSyllable_17 rfl ?_
  refine r_get_i (c := 12) 2 C dX2_fillSyllable_18 fl_X2_46 rfl rfl rfl rfl (by omega) ?_
  refine r_v (b := (σ 81 i 2)) (by simp [qUp, qCpy]) ?_
  have b18 := hb 81 i 2 (by omega) (by omega)
  refine r_iconst C dX2_fillSyllable_21 ?_
  refine r_isub C dX2_fillSyllable_22 ?_
  refine r_istore C dX2_fillSyllable_23 rfl rfl (by decide) ?_
  exact lp_X2_fillSyllable e l σ w i s hw hi hs hn hlo hmo hnx C (fun σ' h => ⟨rfl, h⟩) (σ 81 i 2).toNat _ _ _ (by omega) (by omega) (by rw [show σ 81 i 2 - 1 + 1 = σ 81 i 2 by omega]; exact fs_0 hb _ _ _ _)
/-- where the one at j may begin: behind the one ahead of it -/
def stB (b l : Int → Int) (j : Int) : Int := if j = 0 then 0 else b (j - 1) + l (j - 1)
/-- the first t are laid as the walk lays them: each as early as one can, and then as short -/
def TrP (sh : Int → Int → Int) (n : Int) (b l : Int → Int) (t : Int) : Prop := ∀ j, 0 ≤ j → j < t → stB b l j ≤ b j ∧ b j < n ∧ l j = sh j (b j) ∧ 0 < l j ∧ ∀ f, stB b l j ≤ f → f < b j → sh j f = 0
abbrev AgT (σ σ1 : qSt) : Prop := ∀ (a : Nat) (b c : Int), a ≠ 34 → a ≠ 35 → σ1 a b c = σ a b c
def trI (σ : qSt) (w i t u p : Int) (σ1 : qSt) : Prop := AgT σ σ1 ∧ Bd σ1 ∧ 0 ≤ t ∧ t ≤ σ 23 0 4 ∧ TrP (shS σ w i) (σ 81 i 2) (σ1 34 0) (σ1 35 0) t ∧ u = stB (σ1 34 0) (σ1 35 0) t ∧ 0 ≤ u ∧ u ≤ 24 ∧ ∀ f, u ≤ f → f < p → shS σ w i t f = 0
def trQ (σ : qSt) (w i : Int) (σ1 : qSt) : Prop := AgT σ σ1 ∧ Bd σ1 ∧ ∃ t, 0 ≤ t ∧ t ≤ σ 23 0 4 ∧ TrP (shS σ w i) (σ 81 i 2) (σ1 34 0) (σ1 35 0) t ∧ (t = σ 23 0 4 ∨ ∀ f, stB (σ1 34 0) (σ1 35 0) t ≤ f → f < σ 81 i 2 → shS σ w i t f = 0)
theorem shS_le {σ : qSt} {w i s p : Int} (hp : p ≤ σ 81 i 2) : 0 ≤ shS σ w i s p ∧ shS σ w i s p ≤ σ 81 i 2 - p := by
  unfold shS
  have := shF_rng (fun j => decide (σ 107 w s ≤ (j : Int) ∧ sOc (fun q => cOv (σ 106 w s) (σ 82 i q) (σ 105 w 5)) p j + σ 25 (s + 1) (p + j) = σ 25 s p)) (min (if σ 105 w 5 = 1 ∨ σ 105 w 5 = 3 then σ 107 w s else σ 108 w s) (σ 81 i 2 - p)).toNat
  omega
theorem tr_skip {σ σ1 : qSt} {w i t u p : Int} (h : trI σ w i t u p σ1) (hp : p < u ∨ shS σ w i t p = 0) : trI σ w i t u (p + 1) σ1 := by
  obtain ⟨h1, h2, h3, h4, h5, h6, h7, h8, h9⟩ := h
  refine ⟨h1, h2, h3, h4, h5, h6, h7, h8, fun f q1 q2 => ?_⟩
  by_cases e : f = p
  · subst e
    omega
  · exact h9 f q1 (by omega)
theorem tr_put {σ σ1 : qSt} {w i t u p z : Int} (h : trI σ w i t u p σ1) (hn : σ 81 i 2 ≤ 24) (ht : t < σ 23 0 4) (hp : 0 ≤ p ∧ u ≤ p ∧ p < σ 81 i 2) (hz : z = shS σ w i t p) (hz0 : 0 < z) : trI σ w i (t + 1) (p + z) (p + 1) (qUp (qUp σ1 34 0 t p) 35 0 t z) := by
  obtain ⟨h1, h2, h3, h4, h5, h6, h7, h8, h9⟩ := h
  have hr := shS_le (w := w) (s := t) (i := i) (σ := σ) (p := p) (by omega)
  have e1 : ∀ j, j ≠ t → (qUp (qUp σ1 34 0 t p) 35 0 t z) 34 0 j = σ1 34 0 j := fun j hj => by simp [qUp, hj]
  have e2 : ∀ j, j ≠ t → (qUp (qUp σ1 34 0 t p) 35 0 t z) 35 0 j = σ1 35 0 j := fun j hj => by simp [qUp, hj]
  have e3 : (qUp (qUp σ1 34 0 t p) 35 0 t z) 34 0 t = p := by simp [qUp]
  have e4 : (qUp (qUp σ1 34 0 t p) 35 0 t z) 35 0 t = z := by simp [qUp]
  have e5 : ∀ j, j ≤ t → stB ((qUp (qUp σ1 34 0 t p) 35 0 t z) 34 0) ((qUp (qUp σ1 34 0 t p) 35 0 t z) 35 0) j = stB (σ1 34 0) (σ1 35 0) j := fun j hj => by
    unfold stB
    rw [e1 (j - 1) (by omega), e2 (j - 1) (by omega)]
  refine ⟨fun a b c q1 q2 => by simp only [qUp]; rw [if_neg (by omega), if_neg (by omega)]; exact h1 a b c q1 q2, (h2.up (by omega)).up (by omega), by omega, by omega, fun j q1 q2 => ?_, ?_, by omega, by omega, fun f q1 q2 => by omega⟩
  · by_cases e : j = t
    · subst e
      rw [e5 j (by omega), e3, e4, ← h6]
      exact ⟨by omega, by omega, hz, hz0, fun f q3 q4 => h9 f q3 q4⟩
    · rw [e5 j (by omega), e1 j e, e2 j e]
      exact h5 j q1 (by omega)
  · unfold stB
    rw [if_neg (by omega), show t + 1 - 1 = t by omega, e3, e4]
set_option maxRecDepth 20000 in
theorem lp_X2_trace {G : qSt → Nat → List (Option qV) → List qV → Prop} {Ret : Option qV → qSt → Prop} (e : qR) (l : Launch) (σ : qSt) (w i : Int) (hw : 0 ≤ w ∧ w < 20) (hi : 0 ≤ i ∧ i < 12) (hn : 0 ≤ σ 81 i 2 ∧ σ 81 i 2 ≤ 24) (hsc : 0 ≤ σ 23 0 4 ∧ σ 23 0 4 ≤ 8) (hlo : ∀ s, 0 ≤ s → s < 8 → 0 ≤ σ 107 w s ∧ σ 107 w s ≤ 6) (hmo : ∀ s, 0 ≤ s → s < 8 → 0 ≤ σ 108 w s ∧ σ 108 w s ≤ 6) (C : Cx (ED e) l RX2 cX2_trace 7 none 4 Ret G) (hR : ∀ σ', trQ σ w i σ' → Ret none σ') : ∀ (k : Nat) (t u x : Int) (o6 : Option qV) (σ1 : qSt), x + (k : Int) = σ 81 i 2 → trI σ w i t u x σ1 → 0 ≤ x → G σ1 8 [some (qr 23 0), some (qr 105 w), some (qr 81 i), some (qi t), some (qi u), some (qi x), o6] [] := by
  intro k
  induction k with
  | zero =>
    intro t u x o6 σ1 hx hI hx0
    have hb1 := hI.2.1
    have ha := hI.1
    have e81 := ha 81 i 2 (by decide) (by decide)
    have e23 := ha 23 0 4 (by decide) (by decide)
    obtain ⟨-, -, ht0, htc, -, -, hu0, hu1, -⟩ := id hI
    refine r_iload C dX2_trace_8 rfl ?_
    refine r_aload_n C dX2_trace_10 rfl ?_
    refine r_get_i (c := 12) 2 C dX2_trace_11 fl_X2_46 rfl rfl rfl rfl (by omega) ?_
    have b11 := hb1 81 i 2 (by omega) (by omega)
    refine r_ic_ge 84 C dX2_trace_14 (by decide) (by omega) (by omega) (fun h14 => ?_) (fun h14 => ?_)
    · refine r_vret C dX2_trace_84 ?_
      exact hR _ ⟨ha, hb1, t, ht0, htc, hI.2.2.2.2.1, by first | (left; omega) | (right; rw [← hI.2.2.2.2.2.1]; intro f q1 q2; exact hI.2.2.2.2.2.2.2.2 f q1 (by omega))⟩
    · exfalso; omega
  | succ k ih =>
    intro t u x o6 σ1 hx hI hx0
    have hb1 := hI.2.1
    have ha := hI.1
    have e81 := ha 81 i 2 (by decide) (by decide)
    have e23 := ha 23 0 4 (by decide) (by decide)
    obtain ⟨-, -, ht0, htc, -, -, hu0, hu1, -⟩ := id hI
    refine r_iload C dX2_trace_8 rfl ?_
    refine r_aload_n C dX2_trace_10 rfl ?_
    refine r_get_i (c := 12) 2 C dX2_trace_11 fl_X2_46 rfl rfl rfl rfl (by omega) ?_
    have b11 := hb1 81 i 2 (by omega) (by omega)
    refine r_ic_ge 84 C dX2_trace_14 (by decide) (by omega) (by omega) (fun h14 => ?_) (fun h14 => ?_)
    · exfalso; omega
    · refine r_iload_n C dX2_trace_17 rfl ?_
      refine r_aload_n C dX2_trace_18 rfl ?_
      refine r_get_i (c := 1) 4 C dX2_trace_19 fl_X2_27 rfl rfl rfl rfl (by decide) ?_
      have b19 := hb1 23 0 4 (by omega) (by omega)
      refine r_ic_ge 84 C dX2_trace_22 (by decide) (by omega) (by omega) (fun h22 => ?_) (fun h22 => ?_)
      · refine r_vret C dX2_trace_84 ?_
        exact hR _ ⟨ha, hb1, t, ht0, htc, hI.2.2.2.2.1, by first | (left; omega) | (right; rw [← hI.2.2.2.2.2.1]; intro f q1 q2; exact hI.2.2.2.2.2.2.2.2 f q1 (by omega))⟩
      · refine r_iload C dX2_trace_25 rfl ?_
        refine r_iload C dX2_trace_27 rfl ?_
        refine r_ic_ge 36 C dX2_trace_29 (by decide) (by omega) (by omega) (fun h29 => ?_) (fun h29 => ?_)
        · refine r_aload_n C dX2_trace_36 rfl ?_
          refine r_aload_n C dX2_trace_37 rfl ?_
          refine r_aload_n C dX2_trace_38 rfl ?_
          refine r_iload_n C dX2_trace_39 rfl ?_
          refine r_iload C dX2_trace_40 rfl ?_
          refine r_cvi (c := 1) C dX2_trace_42 mv_X2_77 (c_X2_shortestFrom e l σ1 w i t x hb1 hw hi (by omega) (by rw [ha 81 i 2 (by decide) (by decide)]; exact hn) (by rw [ha 81 i 2 (by decide) (by decide)]; omega) (by rw [ha 107 w t (by decide) (by decide)]; exact hlo t (by omega) (by omega)) (by rw [ha 108 w t (by decide) (by decide)]; exact hmo t (by omega) (by omega))) (by decide) rfl rfl rfl rfl (by decide) rfl rfl (Nat.le_of_ble_eq_true rfl) (fun z42 σ42 h42 => ?_)
          obtain ⟨hz42, rfl⟩ := h42
          have hz2 : z42 = shS σ w i t x := by rw [← shS_cg ha, hz42]; rfl
          clear hz42
          have hz3 := shS_le (σ := σ) (w := w) (i := i) (s := t) (p := x) (by omega)
          refine r_istore C dX2_trace_45 rfl rfl (by decide) ?_
          refine r_iload C dX2_trace_47 rfl ?_
          refine r_if_le 78 C dX2_trace_49 (by decide) (by omega) (fun h49 => ?_) (fun h49 => ?_)
          · refine r_iinc C dX2_trace_78 rfl rfl rfl (by decide) ?_
            refine r_goto 8 C dX2_trace_81 (by decide) ?_
            exact ih _ _ _ _ _ (by omega) (tr_skip hI (by omega)) (by omega)
          · refine r_aload_n C dX2_trace_52 rfl ?_
            refine r_get_r (c := 1) C dX2_trace_53 fl_X2_16 rfl rfl rfl (by decide) rfl ?_
            refine r_iload_n C dX2_trace_56 rfl ?_
            refine r_iload C dX2_trace_57 rfl ?_
            refine r_iast (c := 1) (N := 8) C dX2_trace_59 rfl rfl (by decide) (by omega) ?_
            refine r_aload_n C dX2_trace_60 rfl ?_
            refine r_get_r (c := 1) C dX2_trace_61 fl_X2_20 rfl rfl rfl (by decide) rfl ?_
            refine r_iload_n C dX2_trace_64 rfl ?_
            refine r_iload C dX2_trace_65 rfl ?_
            refine r_iast (c := 1) (N := 8) C dX2_trace_67 rfl rfl (by decide) (by omega) ?_
            refine r_iload C dX2_trace_68 rfl ?_
            refine r_iload C dX2_trace_70 rfl ?_
            refine r_iadd C dX2_trace_72 ?_
            refine r_istore C dX2_trace_73 rfl rfl (by decide) ?_
            refine r_iinc C dX2_trace_75 rfl rfl rfl (by decide) ?_
            refine r_iinc C dX2_trace_78 rfl rfl rfl (by decide) ?_
            refine r_goto 8 C dX2_trace_81 (by decide) ?_
            exact ih _ _ _ _ _ (by omega) (tr_put hI (by omega) (by omega) (by omega) hz2 (by omega)) (by omega)
        · refine r_iconst C dX2_trace_32 ?_
          refine r_goto 45 C dX2_trace_33 (by decide) ?_
          refine r_istore C dX2_trace_45 rfl rfl (by decide) ?_
          refine r_iload C dX2_trace_47 rfl ?_
          refine r_if_le 78 C dX2_trace_49 (by decide) (by decide) (fun _ => ?_) (fun h => absurd h (by decide))
          refine r_iinc C dX2_trace_78 rfl rfl rfl (by decide) ?_
          refine r_goto 8 C dX2_trace_81 (by decide) ?_
          exact ih _ _ _ _ _ (by omega) (tr_skip hI (by omega)) (by omega)
set_option maxRecDepth 20000 in
theorem c_X2_trace (e : qR) (l : Launch) (σ : qSt) (w i : Int) (hb : Bd σ) (hw : 0 ≤ w ∧ w < 20) (hi : 0 ≤ i ∧ i < 12) (hn : 0 ≤ σ 81 i 2 ∧ σ 81 i 2 ≤ 24) (hsc : 0 ≤ σ 23 0 4 ∧ σ 23 0 4 ≤ 8) (hlo : ∀ s, 0 ≤ s → s < 8 → 0 ≤ σ 107 w s ∧ σ 107 w s ≤ 6) (hmo : ∀ s, 0 ≤ s → s < 8 → 0 ≤ σ 108 w s ∧ σ 108 w s ≤ 6) : CM (ED e) l yX2_trace cX2_trace 7 none 4 [qr 23 0, qr 105 w, qr 81 i] σ (Rv fun σ' => trQ σ w i σ') := by
  refine CM.mk tD_ok (by decide +kernel) (Nat.le_of_ble_eq_true rfl) (fun G C => ?_)
  show G σ 0 [some (qr 23 0), some (qr 105 w), some (qr 81 i), none, none, none, none] []
  refine r_iconst C dX2_trace_0 ?_
  refine r_istore_n C dX2_trace_1 rfl rfl (by decide) ?_
  refine r_iconst C dX2_trace_2 ?_
  refine r_istore C dX2_trace_3 rfl rfl (by decide) ?_
  refine r_iconst C dX2_trace_5 ?_
  refine r_istore C dX2_trace_6 rfl rfl (by decide) ?_
  exact lp_X2_trace e l σ w i hw hi hn hsc hlo hmo C (fun σ' h => ⟨rfl, h⟩) (σ 81 i 2).toNat _ _ _ _ _ (by omega) ⟨fun _ _ _ _ _ => rfl, hb, by omega, by omega, fun j q1 q2 => by omega, by simp [stB], by omega, by omega, fun f q1 q2 => by omega⟩ (by omega)
end
section
/-! THE FIT: the whole table -/
def IsDP (oc : Int → Int → Int) (pf lo hi : Int → Int) (n m j : Int) (T : Int → Int → Int) : Prop :=
  T m n = 0 ∧ (∀ p, 0 ≤ p → p < n → T m p = T m (p + 1) + pf p) ∧ (∀ p, 0 ≤ p → p ≤ n → 0 ≤ T m p ∧ T m p ≤ 2 * (n - p)) ∧
  ∀ s, j ≤ s → s < m → T s n = 1000000 ∧ (∀ p, 0 ≤ p → p < n → T s p = min (T s (p + 1) + pf p) (mnL (fun q => sOc (oc s) p q + T (s + 1) (p + q)) (lo s) (min (hi s) (n - p)).toNat)) ∧ ∀ p, 0 ≤ p → p ≤ n → 0 ≤ T s p ∧ T s p ≤ 1000000
def shX (oc : Int → Int → Int) (lo hi : Int → Int) (n : Int) (T : Int → Int → Int) (s p : Int) : Int := shF (fun j => decide (lo s ≤ (j : Int) ∧ sOc (oc s) p j + T (s + 1) (p + j) = T s p)) (min (hi s) (n - p)).toNat
def ocS (σ : qSt) (w i : Int) : Int → Int → Int := fun s q => cOv (σ 106 w s) (σ 82 i q) (σ 105 w 5)
def pfS (σ : qSt) (i : Int) : Int → Int := fun p => pz (σ 82 i p)
def loS (σ : qSt) (w : Int) : Int → Int := fun s => σ 107 w s
def hiS (σ : qSt) (w : Int) : Int → Int := fun s => if σ 105 w 5 = 1 ∨ σ 105 w 5 = 3 then σ 107 w s else σ 108 w s
def skI (σ : qSt) (w i j : Int) (σ1 : qSt) : Prop := (∀ (a : Nat) (b c : Int), a ≠ 25 → ¬ (a = 23 ∧ c = 4) → σ1 a b c = σ a b c) ∧ Bd σ1 ∧ σ1 23 0 4 = σ 105 w 7 ∧ IsDP (ocS σ w i) (pfS σ i) (loS σ w) (hiS σ w) (σ 81 i 2) (σ 105 w 7) j (σ1 25)
theorem sk_0 {σ σ1 σ2 : qSt} {w i : Int} (h1 : σ1 = qUp σ 23 0 4 (σ 105 w 7)) (h : fpI σ1 i (σ1 23 0 4) (σ1 81 i 2) 0 σ2) : skI σ w i (σ 105 w 7) σ2 := by
  have e1 : ∀ (a : Nat) (b c : Int), ¬ (a = 23 ∧ c = 4) → σ1 a b c = σ a b c := fun a b c hc => by
    rw [h1]
    simp only [qUp]
    rw [if_neg (by omega)]
  have e2 : σ1 23 0 4 = σ 105 w 7 := by rw [h1]; simp [qUp]
  rw [e2, e1 81 i 2 (by omega)] at h
  obtain ⟨q1, q2, q3, q4, q5⟩ := h
  refine ⟨fun a b c z1 z2 => by rw [q1 a b c (by omega), e1 a b c z2], q2, by rw [q1 23 0 4 (by omega), e2], q3, fun p z1 z2 => ?_, fun p z1 z2 => q5 p z1 z2, fun s z1 z2 => by omega⟩
  have := q4 p z1 z2
  rw [e1 82 i p (by omega)] at this
  exact this
theorem sk_nx {σ σ1 : qSt} {w i x : Int} (h : skI σ w i (x + 1) σ1) (hx : x < σ 105 w 7) : ∀ q, 0 ≤ q → q ≤ σ 81 i 2 → 0 ≤ σ1 25 (x + 1) q := by
  obtain ⟨-, -, -, -, -, h4, h5⟩ := h
  intro q q1 q2
  by_cases e : x + 1 = σ 105 w 7
  · rw [e]
    exact (h4 q q1 q2).1
  · exact ((h5 (x + 1) (by omega) (by omega)).2.2 q q1 q2).1
theorem sk_step {σ σ1 σ2 : qSt} {w i x : Int} (h : skI σ w i (x + 1) σ1) (hx : x < σ 105 w 7) (hf : fsI σ1 w i x (σ1 81 i 2) 0 σ2) : skI σ w i x σ2 := by
  obtain ⟨h1, h2, h3, d1, d2, d3, d4⟩ := h
  obtain ⟨f1, f2, f3, f4, f5⟩ := hf
  have e81 := h1 81 i 2 (by omega) (by omega)
  rw [e81] at f3 f4 f5
  refine ⟨fun a b c z1 z2 => by rw [f1 a b c (by omega), h1 a b c z1 z2], f2, by rw [f1 23 0 4 (by omega), h3], ?_, ?_, ?_, ?_⟩
  · rw [f1 25 _ _ (by omega)]
    exact d1
  · intro p z1 z2
    rw [f1 25 _ _ (by omega), f1 25 _ _ (by omega)]
    exact d2 p z1 z2
  · intro p z1 z2
    rw [f1 25 _ _ (by omega)]
    exact d3 p z1 z2
  · intro s z1 z2
    by_cases e : s = x
    · subst e
      refine ⟨f3, fun p q1 q2 => ?_, fun p q1 q2 => f5 p q1 q2⟩
      rw [f4 p q1 q2, h1 82 i p (by omega) (by omega)]
      have h1' : ∀ (a : Nat) (b c : Int), a ≠ 25 → a ≠ 23 → σ1 a b c = σ a b c := fun a b c q1 q2 => h1 a b c q1 (by omega)
      have e5 : lfS σ1 w i s p = mnL (fun q => sOc (ocS σ w i s) p q + σ2 25 (s + 1) (p + q)) (loS σ w s) (min (hiS σ w s) (σ 81 i 2 - p)).toNat := by
        unfold lfS ocS loS hiS
        simp only [h1' 106 _ _ (by decide) (by decide), h1' 82 _ _ (by decide) (by decide), h1' 105 _ _ (by decide) (by decide), h1' 107 _ _ (by decide) (by decide), h1' 108 _ _ (by decide) (by decide), e81, fun c => f1 25 (s + 1) c (by omega)]
      rw [e5]
      rfl
    · obtain ⟨g1, g2, g3⟩ := d4 s (by omega) z2
      have e6 : ∀ c, σ2 25 s c = σ1 25 s c := fun c => f1 25 s c (by omega)
      have e7 : ∀ c, σ2 25 (s + 1) c = σ1 25 (s + 1) c := fun c => f1 25 (s + 1) c (by omega)
      simp only [e6, e7]
      exact ⟨g1, g2, g3⟩
/-- what stands behind a search for THE FIT of a wording of a line -/
def skQ (σ : qSt) (w i z : Int) (σ1 : qSt) : Prop := (∀ (a : Nat) (b c : Int), a ≠ 23 → a ≠ 25 → a ≠ 34 → a ≠ 35 → σ1 a b c = σ a b c) ∧ Bd σ1 ∧ σ1 23 0 4 = σ 105 w 7 ∧ σ1 23 0 3 = σ1 25 0 0 ∧ IsDP (ocS σ w i) (pfS σ i) (loS σ w) (hiS σ w) (σ 81 i 2) (σ 105 w 7) 0 (σ1 25) ∧ ((z = 0 ∧ 1000000 ≤ σ1 25 0 0) ∨ (z = 1 ∧ σ1 25 0 0 < 1000000 ∧ ∃ t, 0 ≤ t ∧ t ≤ σ 105 w 7 ∧ TrP (shX (ocS σ w i) (loS σ w) (hiS σ w) (σ 81 i 2) (σ1 25)) (σ 81 i 2) (σ1 34 0) (σ1 35 0) t ∧ (t = σ 105 w 7 ∨ ∀ f, stB (σ1 34 0) (σ1 35 0) t ≤ f → f < σ 81 i 2 → shX (ocS σ w i) (loS σ w) (hiS σ w) (σ 81 i 2) (σ1 25) t f = 0)))
theorem sk_no {σ σ1 σ2 : qSt} {w i : Int} (h : skI σ w i 0 σ1) (h2 : σ2 = qUp σ1 23 0 3 (σ1 25 0 0)) (hz : -2000000 ≤ σ1 25 0 0 ∧ σ1 25 0 0 ≤ 2000000) (hf : 1000000 ≤ σ1 25 0 0) : skQ σ w i 0 σ2 := by
  obtain ⟨h1, hb, h3, hd⟩ := h
  subst h2
  refine ⟨fun a b c z1 z2 z3 z4 => ?_, hb.up hz, by simp [qUp, h3], by simp [qUp], ?_, Or.inl ⟨rfl, by simp [qUp]; exact hf⟩⟩
  · simp only [qUp]
    rw [if_neg (by omega)]
    exact h1 a b c z2 (by omega)
  · have : (qUp σ1 23 0 3 (σ1 25 0 0)) 25 = σ1 25 := by funext b c; simp [qUp]
    rw [this]
    exact hd
theorem sk_yes {σ σ1 σ2 σ3 : qSt} {w i : Int} (h : skI σ w i 0 σ1) (h2 : σ2 = qUp σ1 23 0 3 (σ1 25 0 0)) (hf : σ1 25 0 0 < 1000000) (ht : trQ σ2 w i σ3) : skQ σ w i 1 σ3 := by
  obtain ⟨h1, hb, h3, hd⟩ := h
  obtain ⟨t1, t2, t, t3, t4, t5, t6⟩ := ht
  have e1 : ∀ (a : Nat) (b c : Int), a ≠ 23 → σ2 a b c = σ1 a b c := fun a b c q => by
    rw [h2]
    simp only [qUp]
    rw [if_neg (by omega)]
  have e25 : σ3 25 = σ1 25 := by funext b c; rw [t1 25 b c (by decide) (by decide), e1 25 b c (by decide)]
  have e81 : σ2 81 i 2 = σ 81 i 2 := by rw [e1 81 i 2 (by decide), h1 81 i 2 (by decide) (by omega)]
  have e4 : σ2 23 0 4 = σ 105 w 7 := by rw [h2]; simp [qUp, h3]
  have h1' : ∀ (a : Nat) (b c : Int), a ≠ 25 → a ≠ 23 → σ1 a b c = σ a b c := fun a b c q1 q2 => h1 a b c q1 (by omega)
  have esh : shS σ2 w i = shX (ocS σ w i) (loS σ w) (hiS σ w) (σ 81 i 2) (σ3 25) := by
    funext s f
    unfold shS shX ocS loS hiS
    rw [e25]
    simp only [e81, e1 25 _ _ (by decide), e1 106 _ _ (by decide), e1 82 _ _ (by decide), e1 105 _ _ (by decide), e1 107 _ _ (by decide), e1 108 _ _ (by decide), h1' 106 _ _ (by decide) (by decide), h1' 82 _ _ (by decide) (by decide), h1' 105 _ _ (by decide) (by decide), h1' 107 _ _ (by decide) (by decide), h1' 108 _ _ (by decide) (by decide)]
  rw [esh, e81] at t5 t6
  rw [e4] at t4 t6
  refine ⟨fun a b c z1 z2 z3 z4 => by rw [t1 a b c z3 z4, e1 a b c z1, h1 a b c z2 (by omega)], t2, by rw [t1 23 0 4 (by decide) (by decide), e4], ?_, by rw [e25]; exact hd, Or.inr ⟨rfl, by rw [e25]; exact hf, t, t3, t4, t5, t6⟩⟩
  rw [t1 23 0 3 (by decide) (by decide), e25, h2]
  simp [qUp]
set_option maxRecDepth 20000 in
theorem lp_X2_seek {G : qSt → Nat → List (Option qV) → List qV → Prop} {Ret : Option qV → qSt → Prop} (e : qR) (l : Launch) (σ : qSt) (w i : Int) (hb : Bd σ) (hw : 0 ≤ w ∧ w < 20) (hi : 0 ≤ i ∧ i < 12) (hn : 0 ≤ σ 81 i 2 ∧ σ 81 i 2 ≤ 24) (hsc : 0 ≤ σ 105 w 7 ∧ σ 105 w 7 ≤ 8) (hlo : ∀ s, 0 ≤ s → s < 8 → 0 ≤ σ 107 w s ∧ σ 107 w s ≤ 6) (hmo : ∀ s, 0 ≤ s → s < 8 → 0 ≤ σ 108 w s ∧ σ 108 w s ≤ 6) (C : Cx (ED e) l RX2 cX2_seek 4 (some .boolean) 5 Ret G) (hR : ∀ z σ', skQ σ w i z σ' → Ret (some (qi z)) σ') : ∀ (k : Nat) (x : Int) (σ1 : qSt), x = (k : Int) - 1 → x < σ 105 w 7 → skI σ w i (x + 1) σ1 → G σ1 20 [some (qr 23 0), some (qr 105 w), some (qr 81 i), some (qi x)] [] := by
  intro k
  induction k with
  | zero =>
    intro x σ1 hx hxm hI
    have hb1 := hI.2.1
    have ha := hI.1
    have e81 := ha 81 i 2 (by decide) (by omega)
    have e23 := hI.2.2.1
    refine r_iload_n C dX2_seek_20 rfl ?_
    refine r_if_lt 37 C dX2_seek_21 (by decide) (by omega) (fun h21 => ?_) (fun h21 => ?_)
    · refine r_aload_n C dX2_seek_37 rfl ?_
      refine r_aload_n C dX2_seek_38 rfl ?_
      refine r_get_r (c := 1) C dX2_seek_39 fl_X2_11 rfl rfl rfl (by decide) rfl ?_
      refine r_iconst C dX2_seek_42 ?_
      refine r_aald (c := 1) (N := 9) C dX2_seek_43 rfl (by decide) rfl (by decide) (by omega) rfl ?_
      refine r_iconst C dX2_seek_44 ?_
      refine r_iald (c := 9) (N := 25) C dX2_seek_45 rfl rfl (by omega) (by omega) ?_
      have b45 := hb1 25 0 0 (by omega) (by omega)
      refine r_put_i (c := 1) 3 C dX2_seek_46 fw_X2_23 rfl rfl rfl rfl (by decide) rfl rfl ?_
      refine r_aload_n C dX2_seek_49 rfl ?_
      refine r_get_i (c := 1) 3 C dX2_seek_50 fl_X2_23 rfl rfl rfl rfl (by decide) ?_
      refine r_v (b := (σ1 25 0 0)) (by simp [qUp, qCpy]) ?_
      refine r_ldc C dX2_seek_53 kc_X2_41 ?_
      refine r_ic_lt 60 C dX2_seek_55 (by decide) (by omega) (by omega) (fun h55 => ?_) (fun h55 => ?_)
      · refine r_aload_n C dX2_seek_60 rfl ?_
        refine r_aload_n C dX2_seek_61 rfl ?_
        refine r_aload_n C dX2_seek_62 rfl ?_
        refine r_cvv (c := 1) C dX2_seek_63 mv_X2_42 (c_X2_trace e l _ w i (hb1.up (by omega)) hw hi (by simpa [qUp, e81] using hn) (by simpa [qUp, e23] using hsc) (fun s q1 q2 => by have := ha 107 w s (by decide) (by omega); simpa [qUp, this] using hlo s q1 q2) (fun s q1 q2 => by have := ha 108 w s (by decide) (by omega); simpa [qUp, this] using hmo s q1 q2)) (by decide) rfl rfl rfl rfl (by decide) rfl rfl (Nat.le_of_ble_eq_true rfl) (fun σ63 h63 => ?_)
        refine r_iconst C dX2_seek_66 ?_
        refine r_zret C dX2_seek_67 (by decide) ?_
        exact hR _ _ (sk_yes (by rw [show x + 1 = 0 by omega] at hI; exact hI) rfl (by omega) h63)
      · refine r_iconst C dX2_seek_58 ?_
        refine r_zret C dX2_seek_59 (by decide) ?_
        exact hR _ _ (sk_no (by rw [show x + 1 = 0 by omega] at hI; exact hI) rfl (by omega) (by omega))
    · exfalso; omega
  | succ k ih =>
    intro x σ1 hx hxm hI
    have hb1 := hI.2.1
    have ha := hI.1
    have e81 := ha 81 i 2 (by decide) (by omega)
    have e23 := hI.2.2.1
    refine r_iload_n C dX2_seek_20 rfl ?_
    refine r_if_lt 37 C dX2_seek_21 (by decide) (by omega) (fun h21 => ?_) (fun h21 => ?_)
    · exfalso; omega
    · refine r_aload_n C dX2_seek_24 rfl ?_
      refine r_aload_n C dX2_seek_25 rfl ?_
      refine r_aload_n C dX2_seek_26 rfl ?_
      refine r_iload_n C dX2_seek_27 rfl ?_
      refine r_cvv (c := 1) C dX2_seek_28 mv_X2_37 (c_X2_fillSyllable e l σ1 w i x hb1 hw hi (by omega) (by rw [e81]; exact hn) (by rw [ha 107 w x (by decide) (by omega)]; exact hlo x (by omega) (by omega)) (by rw [ha 108 w x (by decide) (by omega)]; exact hmo x (by omega) (by omega)) (by rw [e81]; exact sk_nx hI hxm)) (by decide) rfl rfl rfl rfl (by decide) rfl rfl (Nat.le_of_ble_eq_true rfl) (fun σ28 h28 => ?_)
      refine r_iinc C dX2_seek_31 rfl rfl rfl (by decide) ?_
      refine r_goto 20 C dX2_seek_34 (by decide) ?_
      exact ih _ _ (by omega) (by omega) (by have := sk_step hI hxm h28; rwa [show x + -1 + 1 = x by omega])
set_option maxRecDepth 20000 in
theorem c_X2_seek (e : qR) (l : Launch) (σ : qSt) (w i : Int) (hb : Bd σ) (hw : 0 ≤ w ∧ w < 20) (hi : 0 ≤ i ∧ i < 12) (hn : 0 ≤ σ 81 i 2 ∧ σ 81 i 2 ≤ 24) (hsc : 0 ≤ σ 105 w 7 ∧ σ 105 w 7 ≤ 8) (hlo : ∀ s, 0 ≤ s → s < 8 → 0 ≤ σ 107 w s ∧ σ 107 w s ≤ 6) (hmo : ∀ s, 0 ≤ s → s < 8 → 0 ≤ σ 108 w s ∧ σ 108 w s ≤ 6) : CM (ED e) l yX2_seek cX2_seek 4 (some .boolean) 5 [qr 23 0, qr 105 w, qr 81 i] σ (Ri fun z σ' => skQ σ w i z σ') := by
  refine CM.mk tD_ok (by decide +kernel) (Nat.le_of_ble_eq_true rfl) (fun G C => ?_)
  show G σ 0 [some (qr 23 0), some (qr 105 w), some (qr 81 i), none] []
  refine r_aload_n C dX2_seek_0 rfl ?_
  refine r_aload_n C dX2_seek_1 rfl ?_
  refine r_get_i (c := 20) 7 C dX2_seek_2 fl_X2_30 rfl rfl rfl rfl (by omega) ?_
  have b2 := hb 105 w 7 (by omega) (by omega)
  refine r_put_i (c := 1) 4 C dX2_seek_5 fw_X2_27 rfl rfl rfl rfl (by decide) rfl rfl ?_
  refine r_aload_n C dX2_seek_8 rfl ?_
  refine r_aload_n C dX2_seek_9 rfl ?_
  refine r_cvv (c := 1) C dX2_seek_10 mv_X2_33 (c_X2_fillPauses e l _ i (hb.up (by omega)) hi (by simp only [qUp_eq]; omega) (by simpa [qUp] using hn)) (by decide) rfl rfl rfl rfl (by decide) rfl rfl (Nat.le_of_ble_eq_true rfl) (fun σ10 h10 => ?_)
  have hI := sk_0 rfl h10
  have e23 := hI.2.2.1
  refine r_s rfl ?_
  refine r_aload_n C dX2_seek_13 rfl ?_
  refine r_get_i (c := 1) 4 C dX2_seek_14 fl_X2_27 rfl rfl rfl rfl (by decide) ?_
  refine r_v e23 ?_
  refine r_iconst C dX2_seek_17 ?_
  refine r_isub C dX2_seek_18 ?_
  refine r_istore_n C dX2_seek_19 rfl rfl (by decide) ?_
  exact lp_X2_seek e l σ w i hb hw hi hn hsc hlo hmo C (fun z σ' h => ⟨_, rfl, h⟩) (σ 105 w 7).toNat _ _ (by omega) (by omega) (by rw [show σ 105 w 7 - 1 + 1 = σ 105 w 7 by omega]; exact hI)
/-- which of the first k lies on frame x: the first one, or -1 -/
def onF (b l : Int → Int) (x : Int) : Nat → Int
  | 0 => -1
  | k + 1 => if onF b l x k ≠ -1 then onF b l x k else if b k ≤ x ∧ x < b k + l k then (k : Int) else -1
theorem onF_keep {b l : Int → Int} {x : Int} {m : Nat} (h : onF b l x m ≠ -1) : ∀ k : Nat, m ≤ k → onF b l x k = onF b l x m
  | 0, hk => by rw [show m = 0 by omega]
  | k + 1, hk => by
    by_cases e : m = k + 1
    · rw [e]
    · have := onF_keep h k (by omega)
      simp only [onF]
      rw [this, if_pos h]
set_option maxRecDepth 20000 in
theorem lp_X2_syllableOn {G : qSt → Nat → List (Option qV) → List qV → Prop} {Ret : Option qV → qSt → Prop} (e : qR) (l : Launch) (σ : qSt) (x : Int) (hb : Bd σ) (hc : 0 ≤ σ 23 0 4 ∧ σ 23 0 4 ≤ 8) (hx : InI x) (C : Cx (ED e) l RX2 cX2_syllableOn 3 (some .int) 2 Ret G) (hR : Ret (some (qi (onF (σ 34 0) (σ 35 0) x (σ 23 0 4).toNat))) σ) : ∀ (k : Nat) (m : Nat), onF (σ 34 0) (σ 35 0) x m = -1 → (m : Int) + k = σ 23 0 4 → G σ 2 [some (qr 23 0), some (qi x), some (qi (m : Int))] [] := by
  intro k
  induction k with
  | zero =>
    intro m hf hm
    refine r_iload_n C dX2_syllableOn_2 rfl ?_
    refine r_aload_n C dX2_syllableOn_3 rfl ?_
    refine r_get_i (c := 1) 4 C dX2_syllableOn_4 fl_X2_27 rfl rfl rfl rfl (by decide) ?_
    have b4 := hb 23 0 4 (by omega) (by omega)
    refine r_ic_ge 45 C dX2_syllableOn_7 (by decide) (by omega) (by omega) (fun h7 => ?_) (fun h7 => ?_)
    · refine r_iconst C dX2_syllableOn_45 ?_
      refine r_iret C dX2_syllableOn_46 ?_
      rw [show (σ 23 0 4).toNat = m by omega, hf] at hR
      exact hR
    · exfalso; omega
  | succ k ih =>
    intro m hf hm
    refine r_iload_n C dX2_syllableOn_2 rfl ?_
    refine r_aload_n C dX2_syllableOn_3 rfl ?_
    refine r_get_i (c := 1) 4 C dX2_syllableOn_4 fl_X2_27 rfl rfl rfl rfl (by decide) ?_
    have b4 := hb 23 0 4 (by omega) (by omega)
    refine r_ic_ge 45 C dX2_syllableOn_7 (by decide) (by omega) (by omega) (fun h7 => ?_) (fun h7 => ?_)
    · exfalso; omega
    · refine r_iload_n C dX2_syllableOn_10 rfl ?_
      refine r_aload_n C dX2_syllableOn_11 rfl ?_
      refine r_get_r (c := 1) C dX2_syllableOn_12 fl_X2_16 rfl rfl rfl (by decide) rfl ?_
      refine r_iload_n C dX2_syllableOn_15 rfl ?_
      refine r_iald (c := 1) (N := 8) C dX2_syllableOn_16 rfl rfl (by decide) (by omega) ?_
      have b16 := hb 34 0 (m : Int) (by omega) (by omega)
      refine r_ic_lt 39 C dX2_syllableOn_17 (by decide) (by omega) (by omega) (fun h17 => ?_) (fun h17 => ?_)
      · refine r_iinc C dX2_syllableOn_39 rfl rfl rfl (by decide) ?_
        refine r_goto 2 C dX2_syllableOn_42 (by decide) ?_
        exact ih (m + 1) (by simp only [onF]; rw [hf, if_neg (by simp), if_neg (by omega)]) (by omega)
      · refine r_iload_n C dX2_syllableOn_20 rfl ?_
        refine r_aload_n C dX2_syllableOn_21 rfl ?_
        refine r_get_r (c := 1) C dX2_syllableOn_22 fl_X2_16 rfl rfl rfl (by decide) rfl ?_
        refine r_iload_n C dX2_syllableOn_25 rfl ?_
        refine r_iald (c := 1) (N := 8) C dX2_syllableOn_26 rfl rfl (by decide) (by omega) ?_
        have b26 := hb 34 0 (m : Int) (by omega) (by omega)
        refine r_aload_n C dX2_syllableOn_27 rfl ?_
        refine r_get_r (c := 1) C dX2_syllableOn_28 fl_X2_20 rfl rfl rfl (by decide) rfl ?_
        refine r_iload_n C dX2_syllableOn_31 rfl ?_
        refine r_iald (c := 1) (N := 8) C dX2_syllableOn_32 rfl rfl (by decide) (by omega) ?_
        have b32 := hb 35 0 (m : Int) (by omega) (by omega)
        refine r_iadd C dX2_syllableOn_33 ?_
        refine r_ic_ge 39 C dX2_syllableOn_34 (by decide) (by omega) (by omega) (fun h34 => ?_) (fun h34 => ?_)
        · refine r_iinc C dX2_syllableOn_39 rfl rfl rfl (by decide) ?_
          refine r_goto 2 C dX2_syllableOn_42 (by decide) ?_
          exact ih (m + 1) (by simp only [onF]; rw [hf, if_neg (by simp), if_neg (by omega)]) (by omega)
        · refine r_iload_n C dX2_syllableOn_37 rfl ?_
          refine r_iret C dX2_syllableOn_38 ?_
          have hq : onF (σ 34 0) (σ 35 0) x (m + 1) = (m : Int) := by
            simp only [onF]
            rw [hf, if_neg (by simp), if_pos (by omega)]
          rw [onF_keep (m := m + 1) (by rw [hq]; omega) _ (by omega), hq] at hR
          exact hR
set_option maxRecDepth 20000 in
theorem c_X2_syllableOn (e : qR) (l : Launch) (σ : qSt) (x : Int) (hb : Bd σ) (hc : 0 ≤ σ 23 0 4 ∧ σ 23 0 4 ≤ 8) (hx : InI x) : CM (ED e) l yX2_syllableOn cX2_syllableOn 3 (some .int) 2 [qr 23 0, qi x] σ (Ri fun z σ' => z = onF (σ 34 0) (σ 35 0) x (σ 23 0 4).toNat ∧ σ = σ') := by
  refine CM.mk tD_ok (by decide +kernel) (Nat.le_of_ble_eq_true rfl) (fun G C => ?_)
  show G σ 0 [some (qr 23 0), some (qi x), none] []
  refine r_iconst C dX2_syllableOn_0 ?_
  refine r_istore_n C dX2_syllableOn_1 rfl rfl (by decide) ?_
  exact lp_X2_syllableOn e l σ x hb hc hx C ⟨_, rfl, rfl, rfl⟩ (σ 23 0 4).toNat 0 rfl (by omega)
end
section
/-! KEPT -/
def lcs (o f : Int → Int) : Nat → Nat → Int
  | 0, _ => 0
  | _ + 1, 0 => 0
  | i + 1, j + 1 => if o i = f j then lcs o f i j + 1 else max (lcs o f i (j + 1)) (lcs o f (i + 1) j)
termination_by i j => i + j
theorem lcs_0 (o f : Int → Int) (j : Nat) : lcs o f 0 j = 0 := by rw [lcs]
theorem lcs_z (o f : Int → Int) (i : Nat) : lcs o f i 0 = 0 := by cases i <;> rw [lcs]
theorem lcs_s (o f : Int → Int) (i j : Nat) : lcs o f (i + 1) (j + 1) = if o i = f j then lcs o f i j + 1 else max (lcs o f i (j + 1)) (lcs o f (i + 1) j) := by rw [lcs]
theorem lcs_rng (o f : Int → Int) : ∀ (k i j : Nat), i + j ≤ k → 0 ≤ lcs o f i j ∧ lcs o f i j ≤ i ∧ lcs o f i j ≤ j := by
  intro k
  induction k with
  | zero =>
    intro i j h
    rw [show i = 0 by omega, lcs_0]
    omega
  | succ k ih =>
    intro i j h
    cases i with
    | zero => rw [lcs_0]; omega
    | succ i =>
      cases j with
      | zero => rw [lcs_z]; omega
      | succ j =>
        have h1 := ih i j (by omega)
        have h2 := ih i (j + 1) (by omega)
        have h3 := ih (i + 1) j (by omega)
        rw [lcs_s]
        split <;> omega
abbrev AgK (σ σ1 : qSt) : Prop := ∀ (a : Nat) (b c : Int), a ≠ 37 → σ1 a b c = σ a b c
def ckI (σ : qSt) (o f : Int → Int) (m : Int) (i : Nat) (jj : Int) (σ1 : qSt) : Prop := AgK σ σ1 ∧ Bd σ1 ∧ (∀ t : Nat, (t : Int) ≤ jj → (t : Int) ≤ m → σ1 37 0 t = lcs o f (i + 1) t) ∧ ∀ t : Nat, jj < (t : Int) → (t : Int) ≤ m → σ1 37 0 t = lcs o f i t
theorem ck_step {σ σ1 : qSt} {o f : Int → Int} {m x v : Int} {i jj : Nat} (h : ckI σ o f m i jj σ1) (hx : x = (jj : Int) + 1) (hm : x ≤ m) (hm2 : m ≤ 24) (hv : v = lcs o f (i + 1) (jj + 1)) : ckI σ o f m i ((jj + 1 : Nat) : Int) (qUp σ1 37 0 x v) := by
  obtain ⟨h1, h2, h3, h4⟩ := h
  have hr := lcs_rng o f _ (i + 1) (jj + 1) (Nat.le_refl _)
  refine ⟨fun a b c q => by simp only [qUp]; rw [if_neg (by omega)]; exact h1 a b c q, h2.up (by omega), fun t q1 q2 => ?_, fun t q1 q2 => ?_⟩
  · by_cases e : t = jj + 1
    · subst e
      rw [show x = ((jj + 1 : Nat) : Int) by omega, qUp_eq, hv]
    · rw [qUp_ne (by omega)]
      exact h3 t (by omega) q2
  · rw [qUp_ne (by omega)]
    exact h4 t (by omega) q2
theorem ck_new {σ σ1 : qSt} {o f : Int → Int} {m : Int} {i : Nat} (h : ckI σ o f m i m σ1) : ckI σ o f m (i + 1) 0 σ1 := by
  obtain ⟨h1, h2, h3, h4⟩ := h
  refine ⟨h1, h2, fun t q1 q2 => ?_, fun t q1 q2 => h3 t q2 q2⟩
  rw [h3 t q2 q2, show t = 0 by omega, lcs_z, lcs_z]
theorem ck_0 {σ : qSt} (hb : Bd σ) (o f : Int → Int) (m : Int) : ckI σ o f m 0 0 (qFil σ 37 0 0 (m + 1) 0) := by
  have e : ∀ t : Nat, (t : Int) ≤ m → (qFil σ 37 0 0 (m + 1) 0) 37 0 t = 0 := fun t h => by unfold qFil; exact if_pos ⟨rfl, rfl, by omega, by omega⟩
  refine ⟨fun a b c q => by simp only [qFil]; rw [if_neg (by omega)], fun a b c q1 q2 => ?_, fun t q1 q2 => ?_, fun t q1 q2 => ?_⟩
  · simp only [qFil]
    split
    · omega
    · exact hb a b c q1 q2
  · rw [e t q2, show t = 0 by omega, lcs_z]
  · rw [e t q2, lcs_0]
set_option maxRecDepth 20000 in
theorem lp_X6_ck1_n {G : qSt → Nat → List (Option qV) → List qV → Prop} {Ret : Option qV → qSt → Prop} (e : qR) (l : Launch) (σ : qSt) (i n m : Int) (hi : 0 ≤ i ∧ i < 12) (hn : 0 ≤ n ∧ n ≤ 24) (hm : 0 ≤ m ∧ m ≤ 24) (C : Cx (ED e) l RX6 cX6_countKept 9 (some .int) 3 Ret G) (hN : ∀ x, G (qFil σ 37 0 0 (m + 1) 0) 24 [some (qr 36 0), some (qr 82 i), some (qi n), some (qr 80 0), some (qi m), some (qi x), none, none, none] []) : ∀ (k : Nat) (x : Int), x + (k : Int) = m + 1 → 0 ≤ x → G (qFil σ 37 0 0 x 0) 3 [some (qr 36 0), some (qr 82 i), some (qi n), some (qr 80 0), some (qi m), some (qi x), none, none, none] [] := by
  intro k
  induction k with
  | zero =>
    intro x hx hx0
    refine r_iload C dX6_countKept_3 rfl ?_
    refine r_iload C dX6_countKept_5 rfl ?_
    refine r_ic_gt 24 C dX6_countKept_7 (by decide) (by omega) (by omega) (fun h7 => ?_) (fun h7 => ?_)
    · rw [show x = m + 1 by omega]
      exact hN _
    · exfalso; omega
  | succ k ih =>
    intro x hx hx0
    refine r_iload C dX6_countKept_3 rfl ?_
    refine r_iload C dX6_countKept_5 rfl ?_
    refine r_ic_gt 24 C dX6_countKept_7 (by decide) (by omega) (by omega) (fun h7 => ?_) (fun h7 => ?_)
    · exfalso; omega
    · refine r_aload_n C dX6_countKept_10 rfl ?_
      refine r_get_r (c := 1) C dX6_countKept_11 fl_X6_9 rfl rfl rfl (by decide) rfl ?_
      refine r_iload C dX6_countKept_14 rfl ?_
      refine r_iconst C dX6_countKept_16 ?_
      refine r_iast (c := 1) (N := 25) C dX6_countKept_17 rfl rfl (by decide) (by omega) ?_
      refine r_iinc C dX6_countKept_18 rfl rfl rfl (by decide) ?_
      refine r_goto 3 C dX6_countKept_21 (by decide) ?_
      rw [qFil_s σ 37 0 0 x 0 (by omega)]
      exact ih _ (by omega) (by omega)
set_option maxRecDepth 20000 in
theorem lp_X6_ck2_n {G : qSt → Nat → List (Option qV) → List qV → Prop} {Ret : Option qV → qSt → Prop} (e : qR) (l : Launch) (σ : qSt) (i n m : Int) (ii : Nat) (hi : 0 ≤ i ∧ i < 12) (hn : 0 ≤ n ∧ n ≤ 24) (hm : 0 ≤ m ∧ m ≤ 24) (hii : (ii : Int) < n) (C : Cx (ED e) l RX6 cX6_countKept 9 (some .int) 3 Ret G) (hN : ∀ (σ2 : qSt) (a6 a7 : Int) (o8 : Option qV), ckI σ (σ 82 i) (σ 80 0) m ii m σ2 → G σ2 106 [some (qr 36 0), some (qr 82 i), some (qi n), some (qr 80 0), some (qi m), some (qi (ii : Int)), some (qi a6), some (qi a7), o8] []) : ∀ (k : Nat) (jj : Nat) (x a6 : Int) (o8 : Option qV) (σ1 : qSt), x = (jj : Int) + 1 → (jj : Int) + (k : Int) = m → a6 = lcs (σ 82 i) (σ 80 0) ii jj → ckI σ (σ 82 i) (σ 80 0) m ii jj σ1 → G σ1 39 [some (qr 36 0), some (qr 82 i), some (qi n), some (qr 80 0), some (qi m), some (qi (ii : Int)), some (qi a6), some (qi x), o8] [] := by
  intro k
  induction k with
  | zero =>
    intro jj x a6 o8 σ1 hx hxm ha6 hI
    have hb1 := hI.2.1
    have hr6 := lcs_rng (σ 82 i) (σ 80 0) _ ii jj (Nat.le_refl _)
    rw [← ha6] at hr6
    refine r_iload C dX6_countKept_39 rfl ?_
    refine r_iload C dX6_countKept_41 rfl ?_
    refine r_ic_gt 106 C dX6_countKept_43 (by decide) (by omega) (by omega) (fun h43 => ?_) (fun h43 => ?_)
    · rw [show (jj : Int) = m by omega] at hI
      exact hN _ _ _ _ hI
    · exfalso; omega
  | succ k ih =>
    intro jj x a6 o8 σ1 hx hxm ha6 hI
    have hb1 := hI.2.1
    have hr6 := lcs_rng (σ 82 i) (σ 80 0) _ ii jj (Nat.le_refl _)
    rw [← ha6] at hr6
    refine r_iload C dX6_countKept_39 rfl ?_
    refine r_iload C dX6_countKept_41 rfl ?_
    refine r_ic_gt 106 C dX6_countKept_43 (by decide) (by omega) (by omega) (fun h43 => ?_) (fun h43 => ?_)
    · exfalso; omega
    · have e1 : σ1 82 i (ii : Int) = σ 82 i (ii : Int) := hI.1 82 i ii (by decide)
      have e2 : σ1 80 0 (x - 1) = σ 80 0 (jj : Int) := by rw [show x - 1 = (jj : Int) by omega]; exact hI.1 80 0 jj (by decide)
      have r8 : σ1 37 0 x = lcs (σ 82 i) (σ 80 0) ii (jj + 1) := by rw [show x = ((jj + 1 : Nat) : Int) by omega]; exact hI.2.2.2 (jj + 1) (by omega) (by omega)
      have r7 : σ1 37 0 (x - 1) = lcs (σ 82 i) (σ 80 0) (ii + 1) jj := by rw [show x - 1 = (jj : Int) by omega]; exact hI.2.2.1 jj (by omega) (by omega)
      refine r_aload_n C dX6_countKept_46 rfl ?_
      refine r_get_r (c := 1) C dX6_countKept_47 fl_X6_9 rfl rfl rfl (by decide) rfl ?_
      refine r_iload C dX6_countKept_50 rfl ?_
      refine r_iald (c := 1) (N := 25) C dX6_countKept_52 rfl rfl (by decide) (by omega) ?_
      have b52 := hb1 37 0 x (by omega) (by omega)
      refine r_istore C dX6_countKept_53 rfl rfl (by decide) ?_
      refine r_aload_n C dX6_countKept_55 rfl ?_
      refine r_get_r (c := 1) C dX6_countKept_56 fl_X6_9 rfl rfl rfl (by decide) rfl ?_
      refine r_iload C dX6_countKept_59 rfl ?_
      refine r_aload_n C dX6_countKept_61 rfl ?_
      refine r_iload C dX6_countKept_62 rfl ?_
      refine r_iald (c := 12) (N := 24) C dX6_countKept_64 rfl rfl (by omega) (by omega) ?_
      have b64 := hb1 82 i (ii : Int) (by omega) (by omega)
      refine r_aload_n C dX6_countKept_65 rfl ?_
      refine r_iload C dX6_countKept_66 rfl ?_
      refine r_iconst C dX6_countKept_68 ?_
      refine r_isub C dX6_countKept_69 ?_
      refine r_iald (c := 1) (N := 24) C dX6_countKept_70 rfl rfl (by decide) (by omega) ?_
      have b70 := hb1 80 0 (x - 1) (by omega) (by omega)
      refine r_ic_ne 81 C dX6_countKept_71 (by decide) (by omega) (by omega) (fun h71 => ?_) (fun h71 => ?_)
      · refine r_iload C dX6_countKept_81 rfl ?_
        refine r_aload_n C dX6_countKept_83 rfl ?_
        refine r_get_r (c := 1) C dX6_countKept_84 fl_X6_9 rfl rfl rfl (by decide) rfl ?_
        refine r_iload C dX6_countKept_87 rfl ?_
        refine r_iconst C dX6_countKept_89 ?_
        refine r_isub C dX6_countKept_90 ?_
        refine r_iald (c := 1) (N := 25) C dX6_countKept_91 rfl rfl (by decide) (by omega) ?_
        have b91 := hb1 37 0 (x - 1) (by omega) (by omega)
        refine r_csi C dX6_countKept_92 ms_X6_15 (c_max (ED e) tD_ok l _ _ _ (by omega) (by omega)) (by decide) rfl rfl (Nat.le_of_ble_eq_true rfl) (fun z92 σ92 h92 => ?_)
        obtain ⟨rfl, rfl⟩ := h92
        refine r_iast (c := 1) (N := 25) C dX6_countKept_95 rfl rfl (by decide) (by omega) ?_
        refine r_iload C dX6_countKept_96 rfl ?_
        refine r_istore C dX6_countKept_98 rfl rfl (by decide) ?_
        refine r_iinc C dX6_countKept_100 rfl rfl rfl (by decide) ?_
        refine r_goto 39 C dX6_countKept_103 (by decide) ?_
        exact ih (jj + 1) _ _ _ _ (by omega) (by omega) (by exact r8) (ck_step hI (by omega) (by omega) (by omega) (by rw [lcs_s, ← e1, ← e2, ← ha6, ← r8, ← r7]; first | rw [if_pos h71] | rw [if_neg h71]))
      · refine r_iload C dX6_countKept_74 rfl ?_
        refine r_iconst C dX6_countKept_76 ?_
        refine r_iadd C dX6_countKept_77 ?_
        refine r_goto 95 C dX6_countKept_78 (by decide) ?_
        refine r_iast (c := 1) (N := 25) C dX6_countKept_95 rfl rfl (by decide) (by omega) ?_
        refine r_iload C dX6_countKept_96 rfl ?_
        refine r_istore C dX6_countKept_98 rfl rfl (by decide) ?_
        refine r_iinc C dX6_countKept_100 rfl rfl rfl (by decide) ?_
        refine r_goto 39 C dX6_countKept_103 (by decide) ?_
        exact ih (jj + 1) _ _ _ _ (by omega) (by omega) (by exact r8) (ck_step hI (by omega) (by omega) (by omega) (by rw [lcs_s, ← e1, ← e2, ← ha6, ← r8, ← r7]; first | rw [if_pos h71] | rw [if_neg h71]))
set_option maxRecDepth 20000 in
theorem lp_X6_ck3_n {G : qSt → Nat → List (Option qV) → List qV → Prop} {Ret : Option qV → qSt → Prop} (e : qR) (l : Launch) (σ : qSt) (i n m : Int) (hi : 0 ≤ i ∧ i < 12) (hn : 0 ≤ n ∧ n ≤ 24) (hm : 0 ≤ m ∧ m ≤ 24) (C : Cx (ED e) l RX6 cX6_countKept 9 (some .int) 3 Ret G) (hR : ∀ σ', AgK σ σ' → Bd σ' → Ret (some (qi (lcs (σ 82 i) (σ 80 0) n.toNat m.toNat))) σ') : ∀ (k : Nat) (ii : Nat) (o6 o7 o8 : Option qV) (σ1 : qSt), (ii : Int) + (k : Int) = n → ckI σ (σ 82 i) (σ 80 0) m ii 0 σ1 → G σ1 27 [some (qr 36 0), some (qr 82 i), some (qi n), some (qr 80 0), some (qi m), some (qi (ii : Int)), o6, o7, o8] [] := by
  intro k
  induction k with
  | zero =>
    intro ii o6 o7 o8 σ1 hii hI
    have hb1 := hI.2.1
    refine r_iload C dX6_countKept_27 rfl ?_
    refine r_iload_n C dX6_countKept_29 rfl ?_
    refine r_ic_ge 112 C dX6_countKept_30 (by decide) (by omega) (by omega) (fun h30 => ?_) (fun h30 => ?_)
    · refine r_aload_n C dX6_countKept_112 rfl ?_
      refine r_get_r (c := 1) C dX6_countKept_113 fl_X6_9 rfl rfl rfl (by decide) rfl ?_
      refine r_iload C dX6_countKept_116 rfl ?_
      refine r_iald (c := 1) (N := 25) C dX6_countKept_118 rfl rfl (by decide) (by omega) ?_
      have b118 := hb1 37 0 m (by omega) (by omega)
      refine r_iret C dX6_countKept_119 ?_
      have rr : σ1 37 0 m = lcs (σ 82 i) (σ 80 0) n.toNat m.toNat := by
        rcases Nat.eq_zero_or_pos m.toNat with q | q
        · have := hI.2.2.1 0 (by omega) (by omega)
          rw [show m = ((0 : Nat) : Int) by omega, this, lcs_z]
          rw [show (((0 : Nat) : Int)).toNat = 0 from rfl, lcs_z]
        · have := hI.2.2.2 m.toNat (by omega) (by omega)
          rw [show ((m.toNat : Nat) : Int) = m by omega] at this
          rw [this, show n.toNat = ii by omega]
      rw [rr]
      exact hR _ hI.1 hb1
    · exfalso; omega
  | succ k ih =>
    intro ii o6 o7 o8 σ1 hii hI
    have hb1 := hI.2.1
    refine r_iload C dX6_countKept_27 rfl ?_
    refine r_iload_n C dX6_countKept_29 rfl ?_
    refine r_ic_ge 112 C dX6_countKept_30 (by decide) (by omega) (by omega) (fun h30 => ?_) (fun h30 => ?_)
    · exfalso; omega
    · refine r_iconst C dX6_countKept_33 ?_
      refine r_istore C dX6_countKept_34 rfl rfl (by decide) ?_
      refine r_iconst C dX6_countKept_36 ?_
      refine r_istore C dX6_countKept_37 rfl rfl (by decide) ?_
      refine lp_X6_ck2_n e l σ i n m ii hi hn hm (by omega) C (fun σ2 a6 a7 o8 h2 => ?_) m.toNat 0 _ _ _ _ rfl (by omega) (by rw [lcs_z]) hI
      refine r_iinc C dX6_countKept_106 rfl rfl rfl (by decide) ?_
      refine r_goto 27 C dX6_countKept_109 (by decide) ?_
      exact ih (ii + 1) _ _ _ _ (by omega) (ck_new h2)
set_option maxRecDepth 20000 in
theorem c_X6_countKept_n (e : qR) (l : Launch) (σ : qSt) (i n m : Int) (hb : Bd σ) (hi : 0 ≤ i ∧ i < 12) (hn : 0 ≤ n ∧ n ≤ 24) (hm : 0 ≤ m ∧ m ≤ 24) : CM (ED e) l yX6_countKept cX6_countKept 9 (some .int) 3 [qr 36 0, qr 82 i, qi n, qr 80 0, qi m] σ (Ri fun z σ' => z = lcs (σ 82 i) (σ 80 0) n.toNat m.toNat ∧ AgK σ σ' ∧ Bd σ') := by
  refine CM.mk tD_ok (by decide +kernel) (Nat.le_of_ble_eq_true rfl) (fun G C => ?_)
  show G σ 0 [some (qr 36 0), some (qr 82 i), some (qi n), some (qr 80 0), some (qi m), none, none, none, none] []
  refine r_iconst C dX6_countKept_0 ?_
  refine r_istore C dX6_countKept_1 rfl rfl (by decide) ?_
  rw [← qFil_0 σ 37 0 0 0]
  refine lp_X6_ck1_n e l σ i n m hi hn hm C (fun x => ?_) (m + 1).toNat _ (by omega) (by omega)
  refine r_iconst C dX6_countKept_24 ?_
  refine r_istore C dX6_countKept_25 rfl rfl (by decide) ?_
  exact lp_X6_ck3_n e l σ i n m hi hn hm C (fun σ' h1 h2 => ⟨_, rfl, rfl, h1, h2⟩) n.toNat 0 _ _ _ _ (by omega) (ck_0 hb _ _ _)
set_option maxRecDepth 20000 in
theorem lp_X6_ck1_l {G : qSt → Nat → List (Option qV) → List qV → Prop} {Ret : Option qV → qSt → Prop} (e : qR) (l : Launch) (σ : qSt) (i j n m : Int) (hi : 0 ≤ i ∧ i < 12) (hj : 0 ≤ j ∧ j < 12) (hn : 0 ≤ n ∧ n ≤ 24) (hm : 0 ≤ m ∧ m ≤ 24) (C : Cx (ED e) l RX6 cX6_countKept 9 (some .int) 3 Ret G) (hN : ∀ x, G (qFil σ 37 0 0 (m + 1) 0) 24 [some (qr 36 0), some (qr 82 i), some (qi n), some (qr 82 j), some (qi m), some (qi x), none, none, none] []) : ∀ (k : Nat) (x : Int), x + (k : Int) = m + 1 → 0 ≤ x → G (qFil σ 37 0 0 x 0) 3 [some (qr 36 0), some (qr 82 i), some (qi n), some (qr 82 j), some (qi m), some (qi x), none, none, none] [] := by
  intro k
  induction k with
  | zero =>
    intro x hx hx0
    refine r_iload C dX6_countKept_3 rfl ?_
    refine r_iload C dX6_countKept_5 rfl ?_
    refine r_ic_gt 24 C dX6_countKept_7 (by decide) (by omega) (by omega) (fun h7 => ?_) (fun h7 => ?_)
    · rw [show x = m + 1 by omega]
      exact hN _
    · exfalso; omega
  | succ k ih =>
    intro x hx hx0
    refine r_iload C dX6_countKept_3 rfl ?_
    refine r_iload C dX6_countKept_5 rfl ?_
    refine r_ic_gt 24 C dX6_countKept_7 (by decide) (by omega) (by omega) (fun h7 => ?_) (fun h7 => ?_)
    · exfalso; omega
    · refine r_aload_n C dX6_countKept_10 rfl ?_
      refine r_get_r (c := 1) C dX6_countKept_11 fl_X6_9 rfl rfl rfl (by decide) rfl ?_
      refine r_iload C dX6_countKept_14 rfl ?_
      refine r_iconst C dX6_countKept_16 ?_
      refine r_iast (c := 1) (N := 25) C dX6_countKept_17 rfl rfl (by decide) (by omega) ?_
      refine r_iinc C dX6_countKept_18 rfl rfl rfl (by decide) ?_
      refine r_goto 3 C dX6_countKept_21 (by decide) ?_
      rw [qFil_s σ 37 0 0 x 0 (by omega)]
      exact ih _ (by omega) (by omega)
set_option maxRecDepth 20000 in
theorem lp_X6_ck2_l {G : qSt → Nat → List (Option qV) → List qV → Prop} {Ret : Option qV → qSt → Prop} (e : qR) (l : Launch) (σ : qSt) (i j n m : Int) (ii : Nat) (hi : 0 ≤ i ∧ i < 12) (hj : 0 ≤ j ∧ j < 12) (hn : 0 ≤ n ∧ n ≤ 24) (hm : 0 ≤ m ∧ m ≤ 24) (hii : (ii : Int) < n) (C : Cx (ED e) l RX6 cX6_countKept 9 (some .int) 3 Ret G) (hN : ∀ (σ2 : qSt) (a6 a7 : Int) (o8 : Option qV), ckI σ (σ 82 i) (σ 82 j) m ii m σ2 → G σ2 106 [some (qr 36 0), some (qr 82 i), some (qi n), some (qr 82 j), some (qi m), some (qi (ii : Int)), some (qi a6), some (qi a7), o8] []) : ∀ (k : Nat) (jj : Nat) (x a6 : Int) (o8 : Option qV) (σ1 : qSt), x = (jj : Int) + 1 → (jj : Int) + (k : Int) = m → a6 = lcs (σ 82 i) (σ 82 j) ii jj → ckI σ (σ 82 i) (σ 82 j) m ii jj σ1 → G σ1 39 [some (qr 36 0), some (qr 82 i), some (qi n), some (qr 82 j), some (qi m), some (qi (ii : Int)), some (qi a6), some (qi x), o8] [] := by
  intro k
  induction k with
  | zero =>
    intro jj x a6 o8 σ1 hx hxm ha6 hI
    have hb1 := hI.2.1
    have hr6 := lcs_rng (σ 82 i) (σ 82 j) _ ii jj (Nat.le_refl _)
    rw [← ha6] at hr6
    refine r_iload C dX6_countKept_39 rfl ?_
    refine r_iload C dX6_countKept_41 rfl ?_
    refine r_ic_gt 106 C dX6_countKept_43 (by decide) (by omega) (by omega) (fun h43 => ?_) (fun h43 => ?_)
    · rw [show (jj : Int) = m by omega] at hI
      exact hN _ _ _ _ hI
    · exfalso; omega
  | succ k ih =>
    intro jj x a6 o8 σ1 hx hxm ha6 hI
    have hb1 := hI.2.1
    have hr6 := lcs_rng (σ 82 i) (σ 82 j) _ ii jj (Nat.le_refl _)
    rw [← ha6] at hr6
    refine r_iload C dX6_countKept_39 rfl ?_
    refine r_iload C dX6_countKept_41 rfl ?_
    refine r_ic_gt 106 C dX6_countKept_43 (by decide) (by omega) (by omega) (fun h43 => ?_) (fun h43 => ?_)
    · exfalso; omega
    · have e1 : σ1 82 i (ii : Int) = σ 82 i (ii : Int) := hI.1 82 i ii (by decide)
      have e2 : σ1 82 j (x - 1) = σ 82 j (jj : Int) := by rw [show x - 1 = (jj : Int) by omega]; exact hI.1 82 j jj (by decide)
      have r8 : σ1 37 0 x = lcs (σ 82 i) (σ 82 j) ii (jj + 1) := by rw [show x = ((jj + 1 : Nat) : Int) by omega]; exact hI.2.2.2 (jj + 1) (by omega) (by omega)
      have r7 : σ1 37 0 (x - 1) = lcs (σ 82 i) (σ 82 j) (ii + 1) jj := by rw [show x - 1 = (jj : Int) by omega]; exact hI.2.2.1 jj (by omega) (by omega)
      refine r_aload_n C dX6_countKept_46 rfl ?_
      refine r_get_r (c := 1) C dX6_countKept_47 fl_X6_9 rfl rfl rfl (by decide) rfl ?_
      refine r_iload C dX6_countKept_50 rfl ?_
      refine r_iald (c := 1) (N := 25) C dX6_countKept_52 rfl rfl (by decide) (by omega) ?_
      have b52 := hb1 37 0 x (by omega) (by omega)
      refine r_istore C dX6_countKept_53 rfl rfl (by decide) ?_
      refine r_aload_n C dX6_countKept_55 rfl ?_
      refine r_get_r (c := 1) C dX6_countKept_56 fl_X6_9 rfl rfl rfl (by decide) rfl ?_
      refine r_iload C dX6_countKept_59 rfl ?_
      refine r_aload_n C dX6_countKept_61 rfl ?_
      refine r_iload C dX6_countKept_62 rfl ?_
      refine r_iald (c := 12) (N := 24) C dX6_countKept_64 rfl rfl (by omega) (by omega) ?_
      have b64 := hb1 82 i (ii : Int) (by omega) (by omega)
      refine r_aload_n C dX6_countKept_65 rfl ?_
      refine r_iload C dX6_countKept_66 rfl ?_
      refine r_iconst C dX6_countKept_68 ?_
      refine r_isub C dX6_countKept_69 ?_
      refine r_iald (c := 12) (N := 24) C dX6_countKept_70 rfl rfl (by omega) (by omega) ?_
      have b70 := hb1 82 j (x - 1) (by omega) (by omega)
      refine r_ic_ne 81 C dX6_countKept_71 (by decide) (by omega) (by omega) (fun h71 => ?_) (fun h71 => ?_)
      · refine r_iload C dX6_countKept_81 rfl ?_
        refine r_aload_n C dX6_countKept_83 rfl ?_
        refine r_get_r (c := 1) C dX6_countKept_84 fl_X6_9 rfl rfl rfl (by decide) rfl ?_
        refine r_iload C dX6_countKept_87 rfl ?_
        refine r_iconst C dX6_countKept_89 ?_
        refine r_isub C dX6_countKept_90 ?_
        refine r_iald (c := 1) (N := 25) C dX6_countKept_91 rfl rfl (by decide) (by omega) ?_
        have b91 := hb1 37 0 (x - 1) (by omega) (by omega)
        refine r_csi C dX6_countKept_92 ms_X6_15 (c_max (ED e) tD_ok l _ _ _ (by omega) (by omega)) (by decide) rfl rfl (Nat.le_of_ble_eq_true rfl) (fun z92 σ92 h92 => ?_)
        obtain ⟨rfl, rfl⟩ := h92
        refine r_iast (c := 1) (N := 25) C dX6_countKept_95 rfl rfl (by decide) (by omega) ?_
        refine r_iload C dX6_countKept_96 rfl ?_
        refine r_istore C dX6_countKept_98 rfl rfl (by decide) ?_
        refine r_iinc C dX6_countKept_100 rfl rfl rfl (by decide) ?_
        refine r_goto 39 C dX6_countKept_103 (by decide) ?_
        exact ih (jj + 1) _ _ _ _ (by omega) (by omega) (by exact r8) (ck_step hI (by omega) (by omega) (by omega) (by rw [lcs_s, ← e1, ← e2, ← ha6, ← r8, ← r7]; first | rw [if_pos h71] | rw [if_neg h71]))
      · refine r_iload C dX6_countKept_74 rfl ?_
        refine r_iconst C dX6_countKept_76 ?_
        refine r_iadd C dX6_countKept_77 ?_
        refine r_goto 95 C dX6_countKept_78 (by decide) ?_
        refine r_iast (c := 1) (N := 25) C dX6_countKept_95 rfl rfl (by decide) (by omega) ?_
        refine r_iload C dX6_countKept_96 rfl ?_
        refine r_istore C dX6_countKept_98 rfl rfl (by decide) ?_
        refine r_iinc C dX6_countKept_100 rfl rfl rfl (by decide) ?_
        refine r_goto 39 C dX6_countKept_103 (by decide) ?_
        exact ih (jj + 1) _ _ _ _ (by omega) (by omega) (by exact r8) (ck_step hI (by omega) (by omega) (by omega) (by rw [lcs_s, ← e1, ← e2, ← ha6, ← r8, ← r7]; first | rw [if_pos h71] | rw [if_neg h71]))
set_option maxRecDepth 20000 in
theorem lp_X6_ck3_l {G : qSt → Nat → List (Option qV) → List qV → Prop} {Ret : Option qV → qSt → Prop} (e : qR) (l : Launch) (σ : qSt) (i j n m : Int) (hi : 0 ≤ i ∧ i < 12) (hj : 0 ≤ j ∧ j < 12) (hn : 0 ≤ n ∧ n ≤ 24) (hm : 0 ≤ m ∧ m ≤ 24) (C : Cx (ED e) l RX6 cX6_countKept 9 (some .int) 3 Ret G) (hR : ∀ σ', AgK σ σ' → Bd σ' → Ret (some (qi (lcs (σ 82 i) (σ 82 j) n.toNat m.toNat))) σ') : ∀ (k : Nat) (ii : Nat) (o6 o7 o8 : Option qV) (σ1 : qSt), (ii : Int) + (k : Int) = n → ckI σ (σ 82 i) (σ 82 j) m ii 0 σ1 → G σ1 27 [some (qr 36 0), some (qr 82 i), some (qi n), some (qr 82 j), some (qi m), some (qi (ii : Int)), o6, o7, o8] [] := by
  intro k
  induction k with
  | zero =>
    intro ii o6 o7 o8 σ1 hii hI
    have hb1 := hI.2.1
    refine r_iload C dX6_countKept_27 rfl ?_
    refine r_iload_n C dX6_countKept_29 rfl ?_
    refine r_ic_ge 112 C dX6_countKept_30 (by decide) (by omega) (by omega) (fun h30 => ?_) (fun h30 => ?_)
    · refine r_aload_n C dX6_countKept_112 rfl ?_
      refine r_get_r (c := 1) C dX6_countKept_113 fl_X6_9 rfl rfl rfl (by decide) rfl ?_
      refine r_iload C dX6_countKept_116 rfl ?_
      refine r_iald (c := 1) (N := 25) C dX6_countKept_118 rfl rfl (by decide) (by omega) ?_
      have b118 := hb1 37 0 m (by omega) (by omega)
      refine r_iret C dX6_countKept_119 ?_
      have rr : σ1 37 0 m = lcs (σ 82 i) (σ 82 j) n.toNat m.toNat := by
        rcases Nat.eq_zero_or_pos m.toNat with q | q
        · have := hI.2.2.1 0 (by omega) (by omega)
          rw [show m = ((0 : Nat) : Int) by omega, this, lcs_z]
          rw [show (((0 : Nat) : Int)).toNat = 0 from rfl, lcs_z]
        · have := hI.2.2.2 m.toNat (by omega) (by omega)
          rw [show ((m.toNat : Nat) : Int) = m by omega] at this
          rw [this, show n.toNat = ii by omega]
      rw [rr]
      exact hR _ hI.1 hb1
    · exfalso; omega
  | succ k ih =>
    intro ii o6 o7 o8 σ1 hii hI
    have hb1 := hI.2.1
    refine r_iload C dX6_countKept_27 rfl ?_
    refine r_iload_n C dX6_countKept_29 rfl ?_
    refine r_ic_ge 112 C dX6_countKept_30 (by decide) (by omega) (by omega) (fun h30 => ?_) (fun h30 => ?_)
    · exfalso; omega
    · refine r_iconst C dX6_countKept_33 ?_
      refine r_istore C dX6_countKept_34 rfl rfl (by decide) ?_
      refine r_iconst C dX6_countKept_36 ?_
      refine r_istore C dX6_countKept_37 rfl rfl (by decide) ?_
      refine lp_X6_ck2_l e l σ i j n m ii hi hj hn hm (by omega) C (fun σ2 a6 a7 o8 h2 => ?_) m.toNat 0 _ _ _ _ rfl (by omega) (by rw [lcs_z]) hI
      refine r_iinc C dX6_countKept_106 rfl rfl rfl (by decide) ?_
      refine r_goto 27 C dX6_countKept_109 (by decide) ?_
      exact ih (ii + 1) _ _ _ _ (by omega) (ck_new h2)
set_option maxRecDepth 20000 in
theorem c_X6_countKept_l (e : qR) (l : Launch) (σ : qSt) (i n j m : Int) (hb : Bd σ) (hi : 0 ≤ i ∧ i < 12) (hj : 0 ≤ j ∧ j < 12) (hn : 0 ≤ n ∧ n ≤ 24) (hm : 0 ≤ m ∧ m ≤ 24) : CM (ED e) l yX6_countKept cX6_countKept 9 (some .int) 3 [qr 36 0, qr 82 i, qi n, qr 82 j, qi m] σ (Ri fun z σ' => z = lcs (σ 82 i) (σ 82 j) n.toNat m.toNat ∧ AgK σ σ' ∧ Bd σ') := by
  refine CM.mk tD_ok (by decide +kernel) (Nat.le_of_ble_eq_true rfl) (fun G C => ?_)
  show G σ 0 [some (qr 36 0), some (qr 82 i), some (qi n), some (qr 82 j), some (qi m), none, none, none, none] []
  refine r_iconst C dX6_countKept_0 ?_
  refine r_istore C dX6_countKept_1 rfl rfl (by decide) ?_
  rw [← qFil_0 σ 37 0 0 0]
  refine lp_X6_ck1_l e l σ i j n m hi hj hn hm C (fun x => ?_) (m + 1).toNat _ (by omega) (by omega)
  refine r_iconst C dX6_countKept_24 ?_
  refine r_istore C dX6_countKept_25 rfl rfl (by decide) ?_
  exact lp_X6_ck3_l e l σ i j n m hi hj hn hm C (fun σ' h1 h2 => ⟨_, rfl, rfl, h1, h2⟩) n.toNat 0 _ _ _ _ (by omega) (ck_0 hb _ _ _)
end
section
/-! sets as numbers -/
def bor (a b : Int) : Int := ((a.toNat ||| b.toNat : Nat) : Int)
def band (a b : Int) : Int := ((a.toNat &&& b.toNat : Nat) : Int)
def bdf (a b : Int) : Int := ((a.toNat ^^^ (a.toNat &&& b.toNat) : Nat) : Int)
theorem nx_or (a b : Nat) : Int32.ofInt (a : Int) ||| Int32.ofInt (b : Int) = Int32.ofInt ((a ||| b : Nat) : Int) := by
  apply Int32.toBitVec_inj.mp
  apply BitVec.eq_of_toNat_eq
  rw [Int32.toBitVec_or, BitVec.toNat_or, z_tn, z_tn, z_tn]
  rw [show ((a : Int) % 4294967296).toNat = a % 2 ^ 32 by omega, show ((b : Int) % 4294967296).toNat = b % 2 ^ 32 by omega, show (((a ||| b : Nat) : Int) % 4294967296).toNat = (a ||| b) % 2 ^ 32 by omega, Nat.or_mod_two_pow]
theorem nx_dif (a b : Nat) : Int32.ofInt (a : Int) &&& (Int32.ofInt (b : Int) ^^^ Int32.ofInt (-1)) = Int32.ofInt ((a ^^^ (a &&& b) : Nat) : Int) := by
  apply Int32.toBitVec_inj.mp
  have h : ∀ x y : BitVec 32, x &&& (y ^^^ (Int32.ofInt (-1)).toBitVec) = x ^^^ (x &&& y) := by
    intro x y
    apply BitVec.eq_of_getLsbD_eq
    intro i hi
    have hm : (Int32.ofInt (-1)).toBitVec = BitVec.allOnes 32 := by decide
    rw [hm]
    simp only [BitVec.getLsbD_and, BitVec.getLsbD_xor, BitVec.getLsbD_allOnes, hi, decide_true]
    cases x.getLsbD i <;> cases y.getLsbD i <;> rfl
  rw [Int32.toBitVec_and, Int32.toBitVec_xor, h]
  apply BitVec.eq_of_toNat_eq
  rw [BitVec.toNat_xor, BitVec.toNat_and, z_tn, z_tn, z_tn]
  rw [show ((a : Int) % 4294967296).toNat = a % 2 ^ 32 by omega, show ((b : Int) % 4294967296).toNat = b % 2 ^ 32 by omega, show (((a ^^^ (a &&& b) : Nat) : Int) % 4294967296).toNat = (a ^^^ (a &&& b)) % 2 ^ 32 by omega, Nat.xor_mod_two_pow, Nat.and_mod_two_pow]
theorem pop12_t (n : Nat) : pop12 (n : Int) = ((n.testBit 0).toNat + (n.testBit 1).toNat + (n.testBit 2).toNat + (n.testBit 3).toNat + (n.testBit 4).toNat + (n.testBit 5).toNat + (n.testBit 6).toNat + (n.testBit 7).toNat + (n.testBit 8).toNat + (n.testBit 9).toNat + (n.testBit 10).toNat + (n.testBit 11).toNat : Nat) := by
  have h : ∀ (k : Nat) (p : Int), ((2 ^ k : Nat) : Int) = p → (((n.testBit k).toNat : Nat) : Int) = (n : Int) / p % 2 := by
    intro k p hp
    rw [Nat.toNat_testBit, ← hp]
    push_cast
    rfl
  unfold pop12
  simp only [Int.natCast_add]
  rw [h 0 1 rfl, h 1 2 rfl, h 2 4 rfl, h 3 8 rfl, h 4 16 rfl, h 5 32 rfl, h 6 64 rfl, h 7 128 rfl, h 8 256 rfl, h 9 512 rfl, h 10 1024 rfl, h 11 2048 rfl, Int.ediv_one]
theorem bt_p (a b : Nat) : pop12 ((a ^^^ (a &&& b) : Nat) : Int) + pop12 ((b : Nat) : Int) = pop12 ((b ||| a : Nat) : Int) := by
  have h : ∀ k, ((a ^^^ (a &&& b)).testBit k).toNat + (b.testBit k).toNat = ((b ||| a).testBit k).toNat := by
    intro k
    simp only [Nat.testBit_xor, Nat.testBit_and, Nat.testBit_or]
    cases a.testBit k <;> cases b.testBit k <;> rfl
  rw [pop12_t, pop12_t, pop12_t, ← h 0, ← h 1, ← h 2, ← h 3, ← h 4, ← h 5, ← h 6, ← h 7, ← h 8, ← h 9, ← h 10, ← h 11]
  omega
theorem bt_4 : ∀ a, a < 16 → ∀ b, b < 16 → Int32.ofInt ((a : Nat) : Int) &&& Int32.ofInt ((b : Nat) : Int) = Int32.ofInt ((a &&& b : Nat) : Int) ∧ a &&& b < 16 := by decide +kernel
theorem bor_v {a b : Int} (ha : 0 ≤ a ∧ a < 256) (hb : 0 ≤ b ∧ b < 256) : Int32.ofInt a ||| Int32.ofInt b = Int32.ofInt (bor a b) := by
  have := nx_or a.toNat b.toNat
  rwa [Int.toNat_of_nonneg ha.1, Int.toNat_of_nonneg hb.1] at this
theorem bor_r {a b : Int} (ha : 0 ≤ a ∧ a < 256) (hb : 0 ≤ b ∧ b < 256) : 0 ≤ bor a b ∧ bor a b < 256 := by
  have := Nat.or_lt_two_pow (n := 8) (show a.toNat < 2 ^ 8 by omega) (show b.toNat < 2 ^ 8 by omega)
  unfold bor
  omega
theorem bdf_v {a b w : Int} (ha : 0 ≤ a ∧ a < 256) (hb : 0 ≤ b ∧ b < 256) (hw : Int32.ofInt b ^^^ Int32.ofInt (-1) = Int32.ofInt w) : Int32.ofInt a &&& Int32.ofInt w = Int32.ofInt (bdf a b) := by
  have := nx_dif a.toNat b.toNat
  rw [Int.toNat_of_nonneg ha.1, Int.toNat_of_nonneg hb.1, hw] at this
  exact this
theorem bdf_r {a b : Int} (ha : 0 ≤ a ∧ a < 256) (hb : 0 ≤ b ∧ b < 256) : 0 ≤ bdf a b ∧ bdf a b < 256 := by
  have := Nat.xor_lt_two_pow (n := 8) (show a.toNat < 2 ^ 8 by omega) (Nat.and_lt_two_pow (n := 8) a.toNat (show b.toNat < 2 ^ 8 by omega))
  unfold bdf
  omega
theorem bdf_p {a b : Int} (ha : 0 ≤ a) (hb : 0 ≤ b) : pop12 (bdf a b) + pop12 b = pop12 (bor b a) := by
  have := bt_p a.toNat b.toNat
  rw [Int.toNat_of_nonneg hb] at this
  exact this
theorem band_v {a b : Int} (ha : 0 ≤ a ∧ a < 16) (hb : 0 ≤ b ∧ b < 16) : Int32.ofInt a &&& Int32.ofInt b = Int32.ofInt (band a b) := by
  have := (bt_4 a.toNat (by omega) b.toNat (by omega)).1
  rwa [Int.toNat_of_nonneg ha.1, Int.toNat_of_nonneg hb.1] at this
theorem band_r {a b : Int} (ha : 0 ≤ a ∧ a < 16) (hb : 0 ≤ b ∧ b < 16) : 0 ≤ band a b ∧ band a b < 16 := by
  have := (bt_4 a.toNat (by omega) b.toNat (by omega)).2
  unfold band
  omega
theorem pop12_r {z : Int} (h : 0 ≤ z) : 0 ≤ pop12 z ∧ pop12 z ≤ 12 := by unfold pop12; omega
theorem z_shm {b : Int} (hb : 0 ≤ b ∧ b < 32) : ((Int32.ofInt b &&& 31).toBitVec.smod 32).toNat = b.toNat := by
  have h : ∀ n, n < 32 → ((Int32.ofInt ((n : Nat) : Int) &&& 31).toBitVec.smod 32).toNat = n := by decide +kernel
  have := h b.toNat (by omega)
  rwa [Int.toNat_of_nonneg hb.1] at this
theorem z_shr {a b : Int} (ha : InI a) (hb : 0 ≤ b ∧ b < 32) : Int32.ofInt a >>> (Int32.ofInt b &&& 31) = Int32.ofInt (a / 2 ^ b.toNat) := by
  apply Int32.toInt_inj.mp
  have h2 : (1 : Int) ≤ 2 ^ b.toNat := by exact_mod_cast Nat.one_le_two_pow
  have h3 : InI (a / 2 ^ b.toNat) := by
    constructor
    · have := Int.ediv_le_ediv (a := -2147483648) (b := a) (c := 2 ^ b.toNat) (by omega) ha.1
      have h5 : (-2147483648 : Int) ≤ -2147483648 / 2 ^ b.toNat := by
        apply Int.le_ediv_of_mul_le (by omega)
        omega
      omega
    · by_cases q : 0 ≤ a
      · have := Int.ediv_le_self (2 ^ b.toNat) q
        omega
      · have := Int.ediv_neg_of_neg_of_pos (a := a) (b := 2 ^ b.toNat) (by omega) (by omega)
        omega
  rw [pk_shr _ _ b.toNat (z_shm hb), z_toInt ha, z_toInt h3, Int.shiftRight_eq_div_pow]
  norm_cast
theorem z_shl1 {b : Int} (hb : 0 ≤ b ∧ b < 13) : Int32.ofInt 1 <<< (Int32.ofInt b &&& 31) = Int32.ofInt (2 ^ b.toNat) := by
  have h : ∀ n, n < 13 → Int32.ofInt 1 <<< (Int32.ofInt ((n : Nat) : Int) &&& 31) = Int32.ofInt (2 ^ n) := by decide +kernel
  have := h b.toNat (by omega)
  rwa [Int.toNat_of_nonneg hb.1] at this
theorem p2_r {b : Int} (hb : 0 ≤ b ∧ b < 8) : (1 : Int) ≤ 2 ^ b.toNat ∧ (2 : Int) ^ b.toNat < 256 := by
  have h : ∀ n, n < 8 → (1 : Int) ≤ 2 ^ n ∧ (2 : Int) ^ n < 256 := by decide
  exact h b.toNat (by omega)
theorem z_bit {a : Int} : Int32.ofInt a &&& Int32.ofInt 1 = Int32.ofInt (a % 2) := z_mask a 1 2 rfl (by decide) (by decide)
/-! the crew -/
def aol (set : Int) (who : Int → Int) : Nat → Int
  | 0 => 0
  | l + 1 => if set / 2 ^ l % 2 = 1 ∧ 0 ≤ who l then bor (aol set who l) (2 ^ (who l).toNat) else aol set who l
theorem aol_r {set : Int} {who : Int → Int} (h : ∀ l, who l < 8) : ∀ n : Nat, 0 ≤ aol set who n ∧ aol set who n < 256
  | 0 => by simp [aol]
  | n + 1 => by
    have h1 := aol_r (set := set) h n
    simp only [aol]
    split
    · next q =>
      have h2 := p2_r (b := who n) ⟨q.2, h n⟩
      exact bor_r h1 (by omega)
    · exact h1
def doa (acts : Int) (fr : Int → Int) : Nat → Int
  | 0 => 15
  | w + 1 => if acts / 2 ^ w % 2 = 1 then band (doa acts fr w) (fr w) else doa acts fr w
theorem doa_r {acts : Int} {fr : Int → Int} : ∀ n : Nat, (∀ w : Nat, w < n → 0 ≤ fr w ∧ fr w < 16) → 0 ≤ doa acts fr n ∧ doa acts fr n < 16
  | 0, _ => by simp [doa]
  | n + 1, h => by
    have h1 := doa_r (acts := acts) n (fun w q => h w (by omega))
    simp only [doa]
    split
    · exact band_r h1 (h n (by omega))
    · exact h1
theorem aol_r2 {set : Int} {who : Int → Int} : ∀ n : Nat, (∀ l : Nat, l < n → who l < 8) → 0 ≤ aol set who n ∧ aol set who n < 256
  | 0, _ => by simp [aol]
  | n + 1, h => by
    have h1 := aol_r2 (set := set) n (fun l q => h l (by omega))
    simp only [aol]
    split
    · next q =>
      have h2 := p2_r (b := who n) ⟨q.2, h n (by omega)⟩
      exact bor_r h1 (by omega)
    · exact h1
set_option maxRecDepth 20000 in
theorem c_X1_appendLoop (e : qR) (l : Launch) (σ : qSt) (x : Int) (hc : 0 ≤ σ 10 0 4 ∧ σ 10 0 4 < 7) : CM (ED e) l yX1_appendLoop cX1_appendLoop 2 none 2 [qr 10 0, qi x] σ (Rv fun σ' => σ' = qUp (qUp σ 14 0 (σ 10 0 4) x) 10 0 4 (σ 10 0 4 + 1)) := by
  refine CM.mk tD_ok (by decide +kernel) (Nat.le_of_ble_eq_true rfl) (fun G C => ?_)
  show G σ 0 [some (qr 10 0), some (qi x)] []
  refine r_aload_n C dX1_appendLoop_0 rfl ?_
  refine r_get_r (c := 1) C dX1_appendLoop_1 fl_X1_21 rfl rfl rfl (by decide) rfl ?_
  refine r_aload_n C dX1_appendLoop_4 rfl ?_
  refine r_get_i (c := 1) 4 C dX1_appendLoop_5 fl_X1_24 rfl rfl rfl rfl (by decide) ?_
  refine r_iload_n C dX1_appendLoop_8 rfl ?_
  refine r_iast (c := 1) (N := 7) C dX1_appendLoop_9 rfl rfl (by decide) (by omega) ?_
  refine r_aload_n C dX1_appendLoop_10 rfl ?_
  refine r_dup C dX1_appendLoop_11 ?_
  refine r_get_i (c := 1) 4 C dX1_appendLoop_12 fl_X1_24 rfl rfl rfl rfl (by decide) ?_
  refine r_v (b := (σ 10 0 4)) (by simp [qUp, qCpy]) ?_
  refine r_iconst C dX1_appendLoop_15 ?_
  refine r_iadd C dX1_appendLoop_16 ?_
  refine r_put_i (c := 1) 4 C dX1_appendLoop_17 fw_X1_24 rfl rfl rfl rfl (by decide) rfl rfl ?_
  refine r_vret C dX1_appendLoop_20 ?_
  exact ⟨rfl, rfl⟩
set_option maxRecDepth 20000 in
theorem lp_X1_actorsOfLoop {G : qSt → Nat → List (Option qV) → List qV → Prop} {Ret : Option qV → qSt → Prop} (e : qR) (l : Launch) (σ : qSt) (x : Int) (hb : Bd σ) (hx : 0 ≤ x ∧ x < 7) (hpt : ∀ l, 0 ≤ l → l < 12 → 0 ≤ σ 81 l 1 ∧ σ 81 l 1 < 6) (hac : ∀ l, 0 ≤ l → l < 6 → -1 ≤ σ 11 0 l ∧ σ 11 0 l < 8) (C : Cx (ED e) l RX1 cX1_actorsOfLoop 6 (some .int) 2 Ret G) (hR : Ret (some (qi (aol (σ 14 0 x) (fun l => σ 11 0 (σ 81 l 1)) 12))) σ) : ∀ (k : Nat) (m : Nat) (a : Int) (o5 : Option qV), a = aol (σ 14 0 x) (fun l => σ 11 0 (σ 81 l 1)) m → m + k = 12 → G σ 5 [some (qr 10 0), some (qi x), some (qr 1 0), some (qi a), some (qi (m : Int)), o5] [] := by
  intro k
  induction k with
  | zero =>
    intro m a o5 hf hm
    have har := aol_r2 (set := σ 14 0 x) (who := (fun l => σ 11 0 (σ 81 l 1))) m (fun l q => by have h1 := hpt l (by omega) (by omega); have h2 := hac _ h1.1 h1.2; exact h2.2)
    rw [← hf] at har
    refine r_iload C dX1_actorsOfLoop_5 rfl ?_
    refine r_bipush C dX1_actorsOfLoop_7 ?_
    refine r_ic_ge 59 C dX1_actorsOfLoop_9 (by decide) (by omega) (by omega) (fun h9 => ?_) (fun h9 => ?_)
    · refine r_iload_n C dX1_actorsOfLoop_59 rfl ?_
      refine r_iret C dX1_actorsOfLoop_60 ?_
      rw [show m = 12 by omega] at hf
      rw [hf]
      exact hR
    · exfalso; omega
  | succ k ih =>
    intro m a o5 hf hm
    have har := aol_r2 (set := σ 14 0 x) (who := (fun l => σ 11 0 (σ 81 l 1))) m (fun l q => by have h1 := hpt l (by omega) (by omega); have h2 := hac _ h1.1 h1.2; exact h2.2)
    rw [← hf] at har
    refine r_iload C dX1_actorsOfLoop_5 rfl ?_
    refine r_bipush C dX1_actorsOfLoop_7 ?_
    refine r_ic_ge 59 C dX1_actorsOfLoop_9 (by decide) (by omega) (by omega) (fun h9 => ?_) (fun h9 => ?_)
    · exfalso; omega
    · refine r_aload_n C dX1_actorsOfLoop_12 rfl ?_
      refine r_get_r (c := 1) C dX1_actorsOfLoop_13 fl_X1_9 rfl rfl rfl (by decide) rfl ?_
      refine r_aload_n C dX1_actorsOfLoop_16 rfl ?_
      refine r_iload C dX1_actorsOfLoop_17 rfl ?_
      refine r_aald (c := 1) (N := 12) C dX1_actorsOfLoop_19 rfl (by decide) rfl (by decide) (by omega) rfl ?_
      have q1 := hpt (m : Int) (by omega) (by omega)
      have q2 := hac _ q1.1 q1.2
      refine r_get_i (c := 12) 1 C dX1_actorsOfLoop_20 fl_X1_28 rfl rfl rfl rfl (by omega) ?_
      have b20 := hb 81 (m : Int) 1 (by omega) (by omega)
      refine r_iald (c := 1) (N := 6) C dX1_actorsOfLoop_23 rfl rfl (by decide) (by omega) ?_
      have b23 := hb 11 0 (σ 81 (m : Int) 1) (by omega) (by omega)
      refine r_istore C dX1_actorsOfLoop_24 rfl rfl (by decide) ?_
      refine r_aload_n C dX1_actorsOfLoop_26 rfl ?_
      refine r_get_r (c := 1) C dX1_actorsOfLoop_27 fl_X1_21 rfl rfl rfl (by decide) rfl ?_
      refine r_iload_n C dX1_actorsOfLoop_30 rfl ?_
      refine r_iald (c := 1) (N := 7) C dX1_actorsOfLoop_31 rfl rfl (by decide) (by omega) ?_
      have b31 := hb 14 0 x (by omega) (by omega)
      refine r_iload C dX1_actorsOfLoop_32 rfl ?_
      refine r_ishr _ C dX1_actorsOfLoop_34 (z_shr (by omega) (by omega)) ?_
      refine r_iconst C dX1_actorsOfLoop_35 ?_
      refine r_iand _ C dX1_actorsOfLoop_36 z_bit ?_
      refine r_iconst C dX1_actorsOfLoop_37 ?_
      refine r_ic_ne 53 C dX1_actorsOfLoop_38 (by decide) (by omega) (by omega) (fun h38 => ?_) (fun h38 => ?_)
      · simp only [Int.toNat_natCast] at h38
        refine r_iinc C dX1_actorsOfLoop_53 rfl rfl rfl (by decide) ?_
        refine r_goto 5 C dX1_actorsOfLoop_56 (by decide) ?_
        exact ih (m + 1) _ _ (by simp only [aol]; rw [← hf]; first | rw [if_pos (by omega)] | rw [if_neg (by omega)]) (by omega)
      · simp only [Int.toNat_natCast] at h38
        refine r_iload C dX1_actorsOfLoop_41 rfl ?_
        refine r_if_lt 53 C dX1_actorsOfLoop_43 (by decide) (by omega) (fun h43 => ?_) (fun h43 => ?_)
        · refine r_iinc C dX1_actorsOfLoop_53 rfl rfl rfl (by decide) ?_
          refine r_goto 5 C dX1_actorsOfLoop_56 (by decide) ?_
          exact ih (m + 1) _ _ (by simp only [aol]; rw [← hf]; first | rw [if_pos (by omega)] | rw [if_neg (by omega)]) (by omega)
        · have q3 := p2_r (b := σ 11 0 (σ 81 (m : Int) 1)) (by omega)
          refine r_iload_n C dX1_actorsOfLoop_46 rfl ?_
          refine r_iconst C dX1_actorsOfLoop_47 ?_
          refine r_iload C dX1_actorsOfLoop_48 rfl ?_
          refine r_ishl _ C dX1_actorsOfLoop_50 (z_shl1 (by omega)) ?_
          refine r_ior _ C dX1_actorsOfLoop_51 (bor_v har (by omega)) ?_
          refine r_istore_n C dX1_actorsOfLoop_52 rfl rfl (by decide) ?_
          refine r_iinc C dX1_actorsOfLoop_53 rfl rfl rfl (by decide) ?_
          refine r_goto 5 C dX1_actorsOfLoop_56 (by decide) ?_
          exact ih (m + 1) _ _ (by simp only [aol]; rw [← hf]; first | rw [if_pos (by omega)] | rw [if_neg (by omega)]) (by omega)
set_option maxRecDepth 20000 in
theorem c_X1_actorsOfLoop (e : qR) (l : Launch) (σ : qSt) (x : Int) (hb : Bd σ) (hx : 0 ≤ x ∧ x < 7) (hpt : ∀ l, 0 ≤ l → l < 12 → 0 ≤ σ 81 l 1 ∧ σ 81 l 1 < 6) (hac : ∀ l, 0 ≤ l → l < 6 → -1 ≤ σ 11 0 l ∧ σ 11 0 l < 8) : CM (ED e) l yX1_actorsOfLoop cX1_actorsOfLoop 6 (some .int) 2 [qr 10 0, qi x, qr 1 0] σ (Ri fun z σ' => z = aol (σ 14 0 x) (fun l => σ 11 0 (σ 81 l 1)) 12 ∧ σ = σ') := by
  refine CM.mk tD_ok (by decide +kernel) (Nat.le_of_ble_eq_true rfl) (fun G C => ?_)
  show G σ 0 [some (qr 10 0), some (qi x), some (qr 1 0), none, none, none] []
  refine r_iconst C dX1_actorsOfLoop_0 ?_
  refine r_istore_n C dX1_actorsOfLoop_1 rfl rfl (by decide) ?_
  refine r_iconst C dX1_actorsOfLoop_2 ?_
  refine r_istore C dX1_actorsOfLoop_3 rfl rfl (by decide) ?_
  exact lp_X1_actorsOfLoop e l σ x hb hx hpt hac C ⟨_, rfl, rfl, rfl⟩ 12 0 _ _ rfl (by omega)
set_option maxRecDepth 20000 in
theorem lp_X1_daysOfActors {G : qSt → Nat → List (Option qV) → List qV → Prop} {Ret : Option qV → qSt → Prop} (e : qR) (l : Launch) (σ : qSt) (x : Int) (hx : 0 ≤ x ∧ x < 256) (hfr : ∀ w, 0 ≤ w → w < 8 → 0 ≤ σ 12 0 w ∧ σ 12 0 w < 16) (C : Cx (ED e) l RX1 cX1_daysOfActors 4 (some .int) 2 Ret G) (hR : Ret (some (qi (doa x (σ 12 0) 8))) σ) : ∀ (k : Nat) (m : Nat) (a : Int), a = doa x (σ 12 0) m → m + k = 8 → G σ 5 [some (qr 10 0), some (qi x), some (qi a), some (qi (m : Int))] [] := by
  intro k
  induction k with
  | zero =>
    intro m a hf hm
    have har := doa_r (acts := x) (fr := σ 12 0) m (fun w q => hfr w (by omega) (by omega))
    rw [← hf] at har
    refine r_iload_n C dX1_daysOfActors_5 rfl ?_
    refine r_bipush C dX1_daysOfActors_6 ?_
    refine r_ic_ge 35 C dX1_daysOfActors_8 (by decide) (by omega) (by omega) (fun h8 => ?_) (fun h8 => ?_)
    · refine r_iload_n C dX1_daysOfActors_35 rfl ?_
      refine r_iret C dX1_daysOfActors_36 ?_
      rw [show m = 8 by omega] at hf
      rw [hf]
      exact hR
    · exfalso; omega
  | succ k ih =>
    intro m a hf hm
    have har := doa_r (acts := x) (fr := σ 12 0) m (fun w q => hfr w (by omega) (by omega))
    rw [← hf] at har
    refine r_iload_n C dX1_daysOfActors_5 rfl ?_
    refine r_bipush C dX1_daysOfActors_6 ?_
    refine r_ic_ge 35 C dX1_daysOfActors_8 (by decide) (by omega) (by omega) (fun h8 => ?_) (fun h8 => ?_)
    · exfalso; omega
    · refine r_iload_n C dX1_daysOfActors_11 rfl ?_
      refine r_iload_n C dX1_daysOfActors_12 rfl ?_
      refine r_ishr _ C dX1_daysOfActors_13 (z_shr (by omega) (by omega)) ?_
      refine r_iconst C dX1_daysOfActors_14 ?_
      refine r_iand _ C dX1_daysOfActors_15 z_bit ?_
      refine r_iconst C dX1_daysOfActors_16 ?_
      refine r_ic_ne 29 C dX1_daysOfActors_17 (by decide) (by omega) (by omega) (fun h17 => ?_) (fun h17 => ?_)
      · simp only [Int.toNat_natCast] at h17
        refine r_iinc C dX1_daysOfActors_29 rfl rfl rfl (by decide) ?_
        refine r_goto 5 C dX1_daysOfActors_32 (by decide) ?_
        exact ih (m + 1) _ (by simp only [doa]; rw [← hf]; first | rw [if_pos (by omega)] | rw [if_neg (by omega)]) (by omega)
      · simp only [Int.toNat_natCast] at h17
        refine r_iload_n C dX1_daysOfActors_20 rfl ?_
        refine r_aload_n C dX1_daysOfActors_21 rfl ?_
        refine r_get_r (c := 1) C dX1_daysOfActors_22 fl_X1_15 rfl rfl rfl (by decide) rfl ?_
        refine r_iload_n C dX1_daysOfActors_25 rfl ?_
        refine r_iald (c := 1) (N := 8) C dX1_daysOfActors_26 rfl rfl (by decide) (by omega) ?_
        refine r_iand _ C dX1_daysOfActors_27 (band_v har (hfr _ (by omega) (by omega))) ?_
        refine r_istore_n C dX1_daysOfActors_28 rfl rfl (by decide) ?_
        refine r_iinc C dX1_daysOfActors_29 rfl rfl rfl (by decide) ?_
        refine r_goto 5 C dX1_daysOfActors_32 (by decide) ?_
        exact ih (m + 1) _ (by simp only [doa]; rw [← hf]; first | rw [if_pos (by omega)] | rw [if_neg (by omega)]) (by omega)
set_option maxRecDepth 20000 in
theorem c_X1_daysOfActors (e : qR) (l : Launch) (σ : qSt) (x : Int) (hx : 0 ≤ x ∧ x < 256) (hfr : ∀ w, 0 ≤ w → w < 8 → 0 ≤ σ 12 0 w ∧ σ 12 0 w < 16) : CM (ED e) l yX1_daysOfActors cX1_daysOfActors 4 (some .int) 2 [qr 10 0, qi x] σ (Ri fun z σ' => z = doa x (σ 12 0) 8 ∧ σ = σ') := by
  refine CM.mk tD_ok (by decide +kernel) (Nat.le_of_ble_eq_true rfl) (fun G C => ?_)
  show G σ 0 [some (qr 10 0), some (qi x), none, none] []
  refine r_bipush C dX1_daysOfActors_0 ?_
  refine r_istore_n C dX1_daysOfActors_2 rfl rfl (by decide) ?_
  refine r_iconst C dX1_daysOfActors_3 ?_
  refine r_istore_n C dX1_daysOfActors_4 rfl rfl (by decide) ?_
  exact lp_X1_daysOfActors e l σ x hx hfr C ⟨_, rfl, rfl, rfl⟩ 8 0 _ rfl (by omega)
end
section
/-! THE PLAN, as the class seeks it -/
def updF (f : Int → Int) (d v : Int) : Int → Int := fun j => if j = d then v else f j
abbrev plS : Type := Int × Int × (Int → Int)
def takeP (n c : Int) (dd : Int → Int) (S : plS) : plS := if c < S.1 then (c, 1, fun j => if 0 ≤ j ∧ j < n then dd j else S.2.2 j) else (S.1, S.2.1 + 1, S.2.2)
def gdD (rc : (Int → Int) → (Int → Int) → Int → (Int → Int) → plS → plS) (a o m : Int) (ca le : Int → Int) (c lp : Int) (dd : Int → Int) (S : plS) : Nat → plS
  | 0 => S
  | d + 1 => if o / 2 ^ d % 2 = 0 ∨ le d < m then gdD rc a o m ca le c lp dd S d else rc (updF ca d (bor (ca d) a)) (updF le d (le d - m)) (c + pop12 (bdf a (ca d))) (updF dd lp d) (gdD rc a o m ca le c lp dd S d)
def gd (A O M : Int → Int) (n : Int) : Nat → (Int → Int) → (Int → Int) → Int → (Int → Int) → plS → plS
  | 0 => fun _ _ c dd S => if S.1 < c then S else takeP n c dd S
  | r + 1 => fun ca le c dd S => if S.1 < c then S else gdD (gd A O M n r) (A (n - (r + 1))) (O (n - (r + 1))) (M (n - (r + 1))) ca le c (n - (r + 1)) dd S 4
def plR (S S' : plS) (k : Int) : Prop := 0 ≤ S'.1 ∧ S'.1 ≤ S.1 ∧ 0 ≤ S'.2.1 ∧ S'.2.1 ≤ S.2.1 + k
theorem gd_rng (A O M : Int → Int) (n : Int) : ∀ (r : Nat) (ca le : Int → Int) (c : Int) (dd : Int → Int) (S : plS), 0 ≤ c → 0 ≤ S.1 → 0 ≤ S.2.1 → plR S (gd A O M n r ca le c dd S) (4 ^ r) := by
  intro r
  induction r with
  | zero =>
    intro ca le c dd S hc h1 h2
    unfold plR
    simp only [gd, takeP]
    split
    · simp; omega
    · split
      · simp; omega
      · simp; omega
  | succ r ih =>
    intro ca le c dd S hc h1 h2
    have hp : (0 : Int) ≤ 4 ^ r := Int.pow_nonneg (by decide)
    have key : ∀ d : Nat, plR S (gdD (gd A O M n r) (A (n - (r + 1))) (O (n - (r + 1))) (M (n - (r + 1))) ca le c (n - (r + 1)) dd S d) (d * 4 ^ r) := by
      intro d
      induction d with
      | zero => unfold plR; simp [gdD]; omega
      | succ d ihd =>
        unfold plR at ihd ⊢
        have e : ((d + 1 : Nat) : Int) * 4 ^ r = (d : Int) * 4 ^ r + 4 ^ r := by rw [Int.natCast_add, Int.add_mul]; simp
        simp only [gdD]
        split
        · omega
        · have h3 := ih (updF ca d (bor (ca d) (A (n - (r + 1))))) (updF le d (le d - M (n - (r + 1)))) (c + pop12 (bdf (A (n - (r + 1))) (ca d))) (updF dd (n - (r + 1)) d) (gdD (gd A O M n r) (A (n - (r + 1))) (O (n - (r + 1))) (M (n - (r + 1))) ca le c (n - (r + 1)) dd S d) (by have := pop12_r (z := bdf (A (n - (r + 1))) (ca d)) (by unfold bdf; omega); omega) (by omega) (by omega)
          unfold plR at h3
          omega
    simp only [gd]
    have e4 : (4 : Int) ^ (r + 1) = 4 * 4 ^ r := by rw [Int.pow_succ]; omega
    split
    · unfold plR; rw [e4]; omega
    · have := key 4
      unfold plR at this ⊢
      rw [e4]
      exact this
def pS (σ : qSt) : plS := (σ 15 0 7, σ 15 0 8, σ 22 0)
theorem Bd.cpy {σ : qSt} (h : Bd σ) {k1 k2 : Nat} {i1 sp i2 dp m : Int} (hk : k1 ≠ 206) (hk0 : k1 ≠ 0) : Bd (qCpy σ k1 i1 sp k2 i2 dp m) := by
  intro a b c h1 h2
  simp only [qCpy]
  split
  · exact h _ _ _ hk (by omega)
  · exact h a b c h1 h2
abbrev gAg (σ σ1 : qSt) : Prop := ∀ (a : Nat) (b c : Int), a ≠ 19 → a ≠ 22 → ¬ (a = 15 ∧ (c = 7 ∨ c = 8)) → σ1 a b c = σ a b c
def tkQ (σ : qSt) (c : Int) (σ1 : qSt) : Prop := (∀ (a : Nat) (b d : Int), a ≠ 22 → ¬ (a = 15 ∧ (d = 7 ∨ d = 8)) → σ1 a b d = σ a b d) ∧ Bd σ1 ∧ pS σ1 = takeP (σ 15 0 10) c (σ 19 0) (pS σ)
theorem tk_yes {σ : qSt} {c : Int} (hb : Bd σ) (h : c < σ 15 0 7) (hc : -2000000 ≤ c ∧ c ≤ 2000000) : tkQ σ c (qUp (qCpy (qUp (qUp σ 15 0 7 c) 15 0 8 0) 19 0 0 22 0 0 (σ 15 0 10)) 15 0 8 (0 + 1)) := by
  refine ⟨fun a b d h1 h2 => ?_, (Bd.cpy ((hb.up hc).up (by omega)) (by decide) (by decide)).up (by omega), ?_⟩
  · simp only [qUp, qCpy]
    rw [if_neg (by omega), if_neg (by omega), if_neg (by omega), if_neg (by omega)]
  · rw [takeP, if_pos (show c < (pS σ).1 from h)]
    refine Prod.ext ?_ (Prod.ext ?_ ?_)
    · simp [pS, qUp, qCpy]
    · simp [pS, qUp]
    · funext j
      simp [pS, qUp, qCpy]
theorem tk_no {σ : qSt} {c : Int} (hb : Bd σ) (h : ¬ c < σ 15 0 7) (hc : σ 15 0 8 ≤ 1000000) : tkQ σ c (qUp σ 15 0 8 (σ 15 0 8 + 1)) := by
  refine ⟨fun a b d h1 h2 => ?_, hb.up (by have := hb 15 0 8 (by decide) (by omega); omega), ?_⟩
  · simp only [qUp]
    rw [if_neg (by omega)]
  · rw [takeP, if_neg (show ¬ c < (pS σ).1 from h)]
    refine Prod.ext ?_ (Prod.ext ?_ ?_)
    · simp [pS, qUp]
    · simp [pS, qUp]
    · funext j
      simp [pS, qUp]
set_option maxRecDepth 20000 in
theorem c_X7_takePlan (e : qR) (l : Launch) (σ : qSt) (c : Int) (hb : Bd σ) (hn : 0 ≤ σ 15 0 10 ∧ σ 15 0 10 ≤ 7) (hc : -2000000 ≤ c ∧ c ≤ 2000000) (hq : σ 15 0 8 ≤ 1000000) : CM (ED e) l yX7_takePlan cX7_takePlan 2 none 2 [qr 15 0, qi c] σ (Rv fun σ' => tkQ σ c σ') := by
  refine CM.mk tD_ok (by decide +kernel) (Nat.le_of_ble_eq_true rfl) (fun G C => ?_)
  show G σ 0 [some (qr 15 0), some (qi c)] []
  refine r_iload_n C dX7_takePlan_0 rfl ?_
  refine r_aload_n C dX7_takePlan_1 rfl ?_
  refine r_get_i (c := 1) 7 C dX7_takePlan_2 fl_X7_33 rfl rfl rfl rfl (by decide) ?_
  have b2 := hb 15 0 7 (by omega) (by omega)
  refine r_ic_ge 35 C dX7_takePlan_5 (by decide) (by omega) (by omega) (fun h5 => ?_) (fun h5 => ?_)
  · refine r_aload_n C dX7_takePlan_35 rfl ?_
    refine r_dup C dX7_takePlan_36 ?_
    refine r_get_i (c := 1) 8 C dX7_takePlan_37 fl_X7_37 rfl rfl rfl rfl (by decide) ?_
    have b37 := hb 15 0 8 (by omega) (by omega)
    refine r_iconst C dX7_takePlan_40 ?_
    refine r_iadd C dX7_takePlan_41 ?_
    refine r_put_i (c := 1) 8 C dX7_takePlan_42 fw_X7_37 rfl rfl rfl rfl (by decide) rfl rfl ?_
    refine r_vret C dX7_takePlan_45 ?_
    first | exact ⟨rfl, tk_yes hb (by omega) hc⟩ | exact ⟨rfl, tk_no hb (by omega) hq⟩
  · refine r_aload_n C dX7_takePlan_8 rfl ?_
    refine r_iload_n C dX7_takePlan_9 rfl ?_
    refine r_put_i (c := 1) 7 C dX7_takePlan_10 fw_X7_33 rfl rfl rfl rfl (by decide) rfl rfl ?_
    refine r_aload_n C dX7_takePlan_13 rfl ?_
    refine r_iconst C dX7_takePlan_14 ?_
    refine r_put_i (c := 1) 8 C dX7_takePlan_15 fw_X7_37 rfl rfl rfl rfl (by decide) rfl rfl ?_
    refine r_aload_n C dX7_takePlan_18 rfl ?_
    refine r_get_r (c := 1) C dX7_takePlan_19 fl_X7_21 rfl rfl rfl (by decide) rfl ?_
    refine r_iconst C dX7_takePlan_22 ?_
    refine r_aload_n C dX7_takePlan_23 rfl ?_
    refine r_get_r (c := 1) C dX7_takePlan_24 fl_X7_30 rfl rfl rfl (by decide) rfl ?_
    refine r_iconst C dX7_takePlan_27 ?_
    refine r_aload_n C dX7_takePlan_28 rfl ?_
    refine r_get_i (c := 1) 10 C dX7_takePlan_29 fl_X7_44 rfl rfl rfl rfl (by decide) ?_
    refine r_v (b := (σ 15 0 10)) (by simp [qUp, qCpy]) ?_
    have b29 := hb 15 0 10 (by omega) (by omega)
    refine r_acopy (c1 := 1) (N1 := 7) (c2 := 1) (N2 := 7) C dX7_takePlan_32 ac_X7_82 rfl rfl (by decide) rfl rfl (by decide) (by omega) (by omega) (by omega) (by omega) (by omega) (by decide) (Nat.le_of_ble_eq_true rfl) ?_ (hnat := ac_nat) (hst := ac_st) (hini := ac_ini)
    refine r_aload_n C dX7_takePlan_35 rfl ?_
    refine r_dup C dX7_takePlan_36 ?_
    refine r_get_i (c := 1) 8 C dX7_takePlan_37 fl_X7_37 rfl rfl rfl rfl (by decide) ?_
    refine r_v (b := 0) (by simp [qUp, qCpy]) ?_
    refine r_iconst C dX7_takePlan_40 ?_
    refine r_iadd C dX7_takePlan_41 ?_
    refine r_put_i (c := 1) 8 C dX7_takePlan_42 fw_X7_37 rfl rfl rfl rfl (by decide) rfl rfl ?_
    refine r_vret C dX7_takePlan_45 ?_
    first | exact ⟨rfl, tk_yes hb (by omega) hc⟩ | exact ⟨rfl, tk_no hb (by omega) hq⟩
def gPre (σ : qSt) (r : Nat) (lp c : Int) (dd : Int → Int) : Prop := Bd σ ∧ 0 ≤ σ 15 0 10 ∧ σ 15 0 10 ≤ 7 ∧ lp = σ 15 0 10 - r ∧ 0 ≤ lp ∧ (∀ j, 0 ≤ j → j < 7 → 0 ≤ σ 16 0 j ∧ σ 16 0 j < 256 ∧ 0 ≤ σ 17 0 j ∧ σ 17 0 j < 16 ∧ 0 ≤ σ 18 0 j ∧ σ 18 0 j ≤ 60) ∧ (∀ d, 0 ≤ d → d < 4 → 0 ≤ σ 20 0 d ∧ σ 20 0 d < 256 ∧ 0 ≤ σ 21 0 d ∧ σ 21 0 d ≤ 100) ∧ 0 ≤ c ∧ c ≤ 12 * lp ∧ 0 ≤ σ 15 0 7 ∧ σ 15 0 7 ≤ 1000000 ∧ 0 ≤ σ 15 0 8 ∧ σ 15 0 8 + 4 ^ r ≤ 100000 ∧ ∀ j, 0 ≤ j → j < lp → σ 19 0 j = dd j
def gPost (σ : qSt) (r : Nat) (lp c : Int) (dd : Int → Int) (σ1 : qSt) : Prop := gAg σ σ1 ∧ Bd σ1 ∧ (∀ j, 0 ≤ j → j < lp → σ1 19 0 j = dd j) ∧ pS σ1 = gd (σ 16 0) (σ 17 0) (σ 18 0) (σ 15 0 10) r (σ 20 0) (σ 21 0) c dd (pS σ)
theorem g_cut {σ : qSt} {r : Nat} {lp c : Int} {dd : Int → Int} (h : gPre σ r lp c dd) (hc : σ 15 0 7 < c) : gPost σ r lp c dd σ := by
  refine ⟨fun _ _ _ _ _ _ => rfl, h.1, h.2.2.2.2.2.2.2.2.2.2.2.2.2, ?_⟩
  cases r with
  | zero => simp only [gd]; rw [if_pos (by exact hc)]
  | succ r => simp only [gd]; rw [if_pos (by exact hc)]
theorem g_leaf {σ σ1 : qSt} {lp c : Int} {dd : Int → Int} (h : gPre σ 0 lp c dd) (hc : ¬ σ 15 0 7 < c) (ht : tkQ σ c σ1) : gPost σ 0 lp c dd σ1 := by
  obtain ⟨t1, t2, t3⟩ := ht
  obtain ⟨p1, p2, p3, p4, p5, p6, p7, p8, p9, p10, p11, p12, p13, p14⟩ := h
  refine ⟨fun a b d q1 q2 q3 => t1 a b d q2 q3, t2, fun j q1 q2 => by rw [t1 19 0 j (by decide) (by omega)]; exact p14 j q1 q2, ?_⟩
  simp only [gd]
  rw [if_neg (by exact hc), t3]
  unfold takeP
  split
  · congr 2
    funext j
    split
    · next q => exact p14 j q.1 (by omega)
    · rfl
  · rfl
def gLI (σ : qSt) (r : Nat) (lp c : Int) (dd : Int → Int) (d : Nat) (σ1 : qSt) : Prop := gAg σ σ1 ∧ Bd σ1 ∧ (∀ j, 0 ≤ j → j < lp → σ1 19 0 j = dd j) ∧ pS σ1 = gdD (gd (σ 16 0) (σ 17 0) (σ 18 0) (σ 15 0 10) r) (σ 16 0 lp) (σ 17 0 lp) (σ 18 0 lp) (σ 20 0) (σ 21 0) c lp dd (pS σ) d
theorem g_end {σ σ1 : qSt} {r : Nat} {lp c : Int} {dd : Int → Int} (h : gPre σ (r + 1) lp c dd) (hc : ¬ σ 15 0 7 < c) (hI : gLI σ r lp c dd 4 σ1) : gPost σ (r + 1) lp c dd σ1 := by
  obtain ⟨i1, i2, i3, i4⟩ := hI
  refine ⟨i1, i2, i3, ?_⟩
  have e : lp = σ 15 0 10 - ((r : Int) + 1) := by have := h.2.2.2.1; push_cast at this; exact this
  simp only [gd]
  rw [if_neg (by exact hc), i4, e]
theorem g_skip {σ σ1 : qSt} {r : Nat} {lp c : Int} {dd : Int → Int} {d : Nat} (hI : gLI σ r lp c dd d σ1) (h : σ 17 0 lp / 2 ^ d % 2 = 0 ∨ σ 21 0 d < σ 18 0 lp) : gLI σ r lp c dd (d + 1) σ1 := by
  obtain ⟨i1, i2, i3, i4⟩ := hI
  refine ⟨i1, i2, i3, ?_⟩
  simp only [gdD]
  rw [if_pos h, i4]
def g2 (σ1 : qSt) (lp : Int) (d : Int) : qSt := qUp (qUp (qUp σ1 20 0 d (bor (σ1 20 0 d) (σ1 16 0 lp))) 21 0 d (σ1 21 0 d - σ1 18 0 lp)) 19 0 lp d
theorem gl_rng {σ σ1 : qSt} {r : Nat} {lp c : Int} {dd : Int → Int} {d : Nat} (h : gPre σ (r + 1) lp c dd) (hI : gLI σ r lp c dd d σ1) (hd : d ≤ 4) : 0 ≤ σ1 15 0 7 ∧ σ1 15 0 7 ≤ 1000000 ∧ 0 ≤ σ1 15 0 8 ∧ σ1 15 0 8 + (4 - (d : Int)) * 4 ^ r ≤ 100000 := by
  obtain ⟨p1, p2, p3, p4, p5, p6, p7, p8, p9, p10, p11, p12, p13, p14⟩ := h
  obtain ⟨i1, i2, i3, i4⟩ := hI
  have hp : (0 : Int) ≤ 4 ^ r := Int.pow_nonneg (by decide)
  have e4 : (4 : Int) ^ (r + 1) = 4 * 4 ^ r := by rw [Int.pow_succ]; omega
  rw [e4] at p13
  have key : ∀ d : Nat, plR (pS σ) (gdD (gd (σ 16 0) (σ 17 0) (σ 18 0) (σ 15 0 10) r) (σ 16 0 lp) (σ 17 0 lp) (σ 18 0 lp) (σ 20 0) (σ 21 0) c lp dd (pS σ) d) (d * 4 ^ r) := by
    intro d
    induction d with
    | zero => unfold plR; simp [gdD, pS]; omega
    | succ d ihd =>
      unfold plR at ihd ⊢
      have e : ((d + 1 : Nat) : Int) * 4 ^ r = (d : Int) * 4 ^ r + 4 ^ r := by rw [Int.natCast_add, Int.add_mul]; simp
      simp only [gdD]
      split
      · omega
      · have h3 := gd_rng (σ 16 0) (σ 17 0) (σ 18 0) (σ 15 0 10) r (updF (σ 20 0) d (bor (σ 20 0 d) (σ 16 0 lp))) (updF (σ 21 0) d (σ 21 0 d - σ 18 0 lp)) (c + pop12 (bdf (σ 16 0 lp) (σ 20 0 d))) (updF dd lp d) (gdD (gd (σ 16 0) (σ 17 0) (σ 18 0) (σ 15 0 10) r) (σ 16 0 lp) (σ 17 0 lp) (σ 18 0 lp) (σ 20 0) (σ 21 0) c lp dd (pS σ) d) (by have := pop12_r (z := bdf (σ 16 0 lp) (σ 20 0 d)) (by unfold bdf; omega); omega) (by omega) (by omega)
        unfold plR at h3
        omega
  have k := key d
  rw [← i4] at k
  unfold plR pS at k
  simp only at k
  have e5 : (4 - (d : Int)) * 4 ^ r = 4 * 4 ^ r - (d : Int) * 4 ^ r := by rw [Int.sub_mul]
  rw [e5]
  omega
theorem gl_pre {σ σ1 : qSt} {r : Nat} {lp c c' : Int} {dd : Int → Int} {d : Nat} (h : gPre σ (r + 1) lp c dd) (hI : gLI σ r lp c dd d σ1) (hd : d < 4) (hm : ¬ σ 21 0 d < σ 18 0 lp) (hc' : c' = c + pop12 (bdf (σ 16 0 lp) (σ 20 0 d))) : gPre (g2 σ1 lp d) r (lp + 1) c' (updF dd lp d) := by
  have hr := gl_rng h hI (by omega)
  obtain ⟨p1, p2, p3, p4, p5, p6, p7, p8, p9, p10, p11, p12, p13, p14⟩ := h
  obtain ⟨i1, i2, i3, i4⟩ := hI
  have hlp : lp < 7 := by omega
  have q6 := p6 lp p5 hlp
  have q7 := p7 d (by omega) (by omega)
  have hbo := bor_r (a := σ 20 0 d) (b := σ 16 0 lp) ⟨q7.1, q7.2.1⟩ ⟨q6.1, q6.2.1⟩
  have hpp := pop12_r (z := bdf (σ 16 0 lp) (σ 20 0 d)) (by unfold bdf; omega)
  have e16 : ∀ j, σ1 16 0 j = σ 16 0 j := fun j => i1 16 0 j (by decide) (by decide) (by omega)
  have e17 : ∀ j, σ1 17 0 j = σ 17 0 j := fun j => i1 17 0 j (by decide) (by decide) (by omega)
  have e18 : ∀ j, σ1 18 0 j = σ 18 0 j := fun j => i1 18 0 j (by decide) (by decide) (by omega)
  have e20 : ∀ j, σ1 20 0 j = σ 20 0 j := fun j => i1 20 0 j (by decide) (by decide) (by omega)
  have e21 : ∀ j, σ1 21 0 j = σ 21 0 j := fun j => i1 21 0 j (by decide) (by decide) (by omega)
  have e10 := i1 15 0 10 (by decide) (by decide) (by omega)
  have hp : (0 : Int) < 4 ^ r := Int.pow_pos (by decide)
  have e5 : (4 : Int) ^ r ≤ (4 - (d : Int)) * 4 ^ r := by
    have := Int.mul_le_mul_of_nonneg_right (show (1 : Int) ≤ 4 - (d : Int) by omega) (Int.le_of_lt hp)
    omega
  refine ⟨((i2.up (by rw [e20, e16]; omega)).up (by rw [e21, e18]; omega)).up (by omega), ?_, ?_, ?_, by omega, fun j z1 z2 => ?_, fun j z1 z2 => ?_, by omega, by omega, ?_, ?_, ?_, ?_, fun j z1 z2 => ?_⟩
  · simp [g2, qUp, e10]; omega
  · simp [g2, qUp, e10]; omega
  · simp [g2, qUp, e10]; omega
  · simp [g2, qUp, e16, e17, e18]; exact p6 j z1 z2
  · simp only [g2]
    by_cases q : j = d
    · subst q
      simp [qUp, e16, e18, e20, e21]
      omega
    · simp [qUp, q, e20, e21]
      exact p7 j z1 z2
  · simp [g2, qUp]; omega
  · simp [g2, qUp]; omega
  · simp [g2, qUp]; omega
  · simp [g2, qUp]; omega
  · simp only [g2, updF]
    by_cases q : j = lp
    · simp [qUp, q]
    · simp [qUp, q]
      exact i3 j z1 (by omega)
theorem gl_step {σ σ1 σ3 : qSt} {r : Nat} {lp c c' v : Int} {dd : Int → Int} {d : Nat} (h : gPre σ (r + 1) lp c dd) (hI : gLI σ r lp c dd d σ1) (hd : d < 4) (ho : ¬ σ 17 0 lp / 2 ^ d % 2 = 0) (hm : ¬ σ 21 0 d < σ 18 0 lp) (hc' : c' = c + pop12 (bdf (σ 16 0 lp) (σ 20 0 d))) (hQ : gPost (g2 σ1 lp d) r (lp + 1) c' (updF dd lp d) σ3) (hv : v = σ3 21 0 d + σ3 18 0 lp) : gLI σ r lp c dd (d + 1) (qUp (qUp σ3 20 0 d (σ1 20 0 d)) 21 0 d v) := by
  obtain ⟨p1, p2, p3, p4, p5, p6, p7, p8, p9, p10, p11, p12, p13, p14⟩ := h
  obtain ⟨i1, i2, i3, i4⟩ := hI
  obtain ⟨t1, t2, t3, t4⟩ := hQ
  have q7 := p7 d (by omega) (by omega)
  have e16 : ∀ j, σ1 16 0 j = σ 16 0 j := fun j => i1 16 0 j (by decide) (by decide) (by omega)
  have e17 : ∀ j, σ1 17 0 j = σ 17 0 j := fun j => i1 17 0 j (by decide) (by decide) (by omega)
  have e18 : ∀ j, σ1 18 0 j = σ 18 0 j := fun j => i1 18 0 j (by decide) (by decide) (by omega)
  have e20 : ∀ j, σ1 20 0 j = σ 20 0 j := fun j => i1 20 0 j (by decide) (by decide) (by omega)
  have e21 : ∀ j, σ1 21 0 j = σ 21 0 j := fun j => i1 21 0 j (by decide) (by decide) (by omega)
  have e10 := i1 15 0 10 (by decide) (by decide) (by omega)
  have f21 : σ3 21 0 d = σ 21 0 d - σ 18 0 lp := by rw [t1 21 0 d (by decide) (by decide) (by omega)]; simp [g2, qUp, e21, e18]
  have f18 : σ3 18 0 lp = σ 18 0 lp := by rw [t1 18 0 lp (by decide) (by decide) (by omega)]; simp [g2, qUp, e18]
  have hv2 : v = σ 21 0 d := by omega
  refine ⟨fun a b x z1 z2 z3 => ?_, (t2.up (by rw [e20]; omega)).up (by omega), fun j z1 z2 => ?_, ?_⟩
  · by_cases k1 : a = 21 ∧ b = 0 ∧ x = d
    · obtain ⟨rfl, rfl, rfl⟩ := k1
      rw [qUp_eq, hv2]
    · rw [qUp_ne k1]
      by_cases k2 : a = 20 ∧ b = 0 ∧ x = d
      · obtain ⟨rfl, rfl, rfl⟩ := k2
        rw [qUp_eq, e20]
      · rw [qUp_ne k2, t1 a b x z1 z2 z3]
        unfold g2
        rw [qUp_ne (by omega), qUp_ne k1, qUp_ne k2]
        exact i1 a b x z1 z2 z3
  · rw [qUp_ne (by omega), qUp_ne (by omega), t3 j z1 (by omega)]
    simp only [updF]
    rw [if_neg (by omega)]
  · have s1 : pS (qUp (qUp σ3 20 0 d (σ1 20 0 d)) 21 0 d v) = pS σ3 := by
      unfold pS
      refine Prod.ext (by simp [qUp]) (Prod.ext (by simp [qUp]) ?_)
      funext j
      simp [qUp]
    have s2 : pS (g2 σ1 lp d) = pS σ1 := by
      unfold pS g2
      refine Prod.ext (by simp [qUp]) (Prod.ext (by simp [qUp]) ?_)
      funext j
      simp [qUp]
    have a16 : (g2 σ1 lp d) 16 0 = σ 16 0 := by funext j; simp [g2, qUp, e16]
    have a17 : (g2 σ1 lp d) 17 0 = σ 17 0 := by funext j; simp [g2, qUp, e17]
    have a18 : (g2 σ1 lp d) 18 0 = σ 18 0 := by funext j; simp [g2, qUp, e18]
    have a10 : (g2 σ1 lp d) 15 0 10 = σ 15 0 10 := by simp [g2, qUp, e10]
    have a20 : (g2 σ1 lp d) 20 0 = updF (σ 20 0) d (bor (σ 20 0 d) (σ 16 0 lp)) := by
      funext j
      simp only [g2, updF]
      by_cases q : j = d
      · simp [qUp, q, e20, e16]
      · simp [qUp, q, e20]
    have a21 : (g2 σ1 lp d) 21 0 = updF (σ 21 0) d (σ 21 0 d - σ 18 0 lp) := by
      funext j
      simp only [g2, updF]
      by_cases q : j = d
      · simp [qUp, q, e21, e18]
      · simp [qUp, q, e21]
    rw [s1, t4, s2, a16, a17, a18, a10, a20, a21, i4]
    simp only [gdD]
    rw [if_neg (by omega), hc']
set_option maxRecDepth 20000 in
theorem c_giveDays_0 (e : qR) (l : Launch) (σ : qSt) (lp c : Int) (dd : Int → Int) (hP : gPre σ 0 lp c dd) : CM (ED e) l yX7_giveDays cX7_giveDays 5 none (4 + 0) [qr 15 0, qi lp, qi c] σ (Rv fun σ' => gPost σ 0 lp c dd σ') := by
  refine CM.mk tD_ok (by decide +kernel) (Nat.le_of_ble_eq_true rfl) (fun G C => ?_)
  show G σ 0 [some (qr 15 0), some (qi lp), some (qi c), none, none] []
  obtain ⟨hb, p2, p3, p4, p5, p6, p7, p8, p9, p10, p11, p12, p13, p14⟩ := id hP
  have hp4 : (4 : Int) ^ 0 = 1 := rfl
  rw [hp4] at p13
  refine r_iload_n C dX7_giveDays_0 rfl ?_
  refine r_aload_n C dX7_giveDays_1 rfl ?_
  refine r_get_i (c := 1) 7 C dX7_giveDays_2 fl_X7_33 rfl rfl rfl rfl (by decide) ?_
  have b2 := hb 15 0 7 (by omega) (by omega)
  refine r_ic_le 9 C dX7_giveDays_5 (by decide) (by omega) (by omega) (fun h5 => ?_) (fun h5 => ?_)
  · refine r_iload_n C dX7_giveDays_9 rfl ?_
    refine r_aload_n C dX7_giveDays_10 rfl ?_
    refine r_get_i (c := 1) 10 C dX7_giveDays_11 fl_X7_44 rfl rfl rfl rfl (by decide) ?_
    have b11 := hb 15 0 10 (by omega) (by omega)
    refine r_ic_ge 23 C dX7_giveDays_14 (by decide) (by omega) (by omega) (fun h14 => ?_) (fun h14 => ?_)
    · refine r_aload_n C dX7_giveDays_23 rfl ?_
      refine r_iload_n C dX7_giveDays_24 rfl ?_
      refine r_cvv (c := 1) C dX7_giveDays_25 mv_X7_78 (c_X7_takePlan e l _ _ hP.1 (by omega) (by omega) (by omega)) (by decide) rfl rfl rfl rfl (by decide) rfl rfl (Nat.le_of_ble_eq_true rfl) (fun σ25 h25 => ?_)
      refine r_vret C dX7_giveDays_28 ?_
      exact ⟨rfl, g_leaf hP (by omega) h25⟩
    · exfalso; omega
  · refine r_vret C dX7_giveDays_8 ?_
    exact ⟨rfl, g_cut hP (by omega)⟩
set_option maxRecDepth 20000 in
theorem lp_giveDays {G : qSt → Nat → List (Option qV) → List qV → Prop} {Ret : Option qV → qSt → Prop} (e : qR) (l : Launch) (σ : qSt) (r : Nat) (lp c : Int) (dd : Int → Int) (hrec : ∀ (σ : qSt) (lp c : Int) (dd : Int → Int), gPre σ r lp c dd → CM (ED e) l yX7_giveDays cX7_giveDays 5 none (4 + r) [qr 15 0, qi lp, qi c] σ (Rv fun σ' => gPost σ r lp c dd σ')) (hP : gPre σ (r + 1) lp c dd) (hlt : lp < 7) (hc : ¬ σ 15 0 7 < c) (C : Cx (ED e) l RX7 cX7_giveDays 5 none (4 + (r + 1)) Ret G) (hR : ∀ σ', gPost σ (r + 1) lp c dd σ' → Ret none σ') : ∀ (k : Nat) (d : Nat) (o4 : Option qV) (σ1 : qSt), d + k = 4 → gLI σ r lp c dd d σ1 → G σ1 31 [some (qr 15 0), some (qi lp), some (qi c), some (qi (d : Int)), o4] [] := by
  intro k
  induction k with
  | zero =>
    intro d o4 σ1 hd hI
    obtain ⟨p1, p2, p3, p4, p5, p6, p7, p8, p9, p10, p11, p12, p13, p14⟩ := id hP
    have hb1 := hI.2.1
    have e16 := hI.1 16 0 lp (by decide) (by decide) (by omega)
    have e17 := hI.1 17 0 lp (by decide) (by decide) (by omega)
    have e18 := hI.1 18 0 lp (by decide) (by decide) (by omega)
    have e20 := hI.1 20 0 d (by decide) (by decide) (by omega)
    have e21 := hI.1 21 0 d (by decide) (by decide) (by omega)
    refine r_iload_n C dX7_giveDays_31 rfl ?_
    refine r_iconst C dX7_giveDays_32 ?_
    refine r_ic_ge 164 C dX7_giveDays_33 (by decide) (by omega) (by omega) (fun h33 => ?_) (fun h33 => ?_)
    · refine r_vret C dX7_giveDays_164 ?_
      rw [show d = 4 by omega] at hI
      exact hR _ (g_end hP hc hI)
    · exfalso; omega
  | succ k ih =>
    intro d o4 σ1 hd hI
    obtain ⟨p1, p2, p3, p4, p5, p6, p7, p8, p9, p10, p11, p12, p13, p14⟩ := id hP
    have hb1 := hI.2.1
    have e16 := hI.1 16 0 lp (by decide) (by decide) (by omega)
    have e17 := hI.1 17 0 lp (by decide) (by decide) (by omega)
    have e18 := hI.1 18 0 lp (by decide) (by decide) (by omega)
    have e20 := hI.1 20 0 d (by decide) (by decide) (by omega)
    have e21 := hI.1 21 0 d (by decide) (by decide) (by omega)
    refine r_iload_n C dX7_giveDays_31 rfl ?_
    refine r_iconst C dX7_giveDays_32 ?_
    refine r_ic_ge 164 C dX7_giveDays_33 (by decide) (by omega) (by omega) (fun h33 => ?_) (fun h33 => ?_)
    · exfalso; omega
    · refine r_aload_n C dX7_giveDays_36 rfl ?_
      have q61 := p6 lp (by omega) (by omega)
      refine r_get_r (c := 1) C dX7_giveDays_37 fl_X7_15 rfl rfl rfl (by decide) rfl ?_
      refine r_iload_n C dX7_giveDays_40 rfl ?_
      refine r_iald (c := 1) (N := 7) C dX7_giveDays_41 rfl rfl (by decide) (by omega) ?_
      have b41 := hb1 17 0 lp (by omega) (by omega)
      refine r_iload_n C dX7_giveDays_42 rfl ?_
      refine r_ishr _ C dX7_giveDays_43 (z_shr (by omega) (by omega)) ?_
      refine r_iconst C dX7_giveDays_44 ?_
      refine r_iand _ C dX7_giveDays_45 z_bit ?_
      refine r_if_eq 158 C dX7_giveDays_46 (by decide) (by omega) (fun h46 => ?_) (fun h46 => ?_)
      · simp only [Int.toNat_natCast, e17] at h46
        refine r_iinc C dX7_giveDays_158 rfl rfl rfl (by decide) ?_
        refine r_goto 31 C dX7_giveDays_161 (by decide) ?_
        exact ih (d + 1) _ _ (by omega) (g_skip hI (by omega))
      · simp only [Int.toNat_natCast, e17] at h46
        refine r_aload_n C dX7_giveDays_49 rfl ?_
        refine r_get_r (c := 1) C dX7_giveDays_50 fl_X7_18 rfl rfl rfl (by decide) rfl ?_
        refine r_iload_n C dX7_giveDays_53 rfl ?_
        refine r_iald (c := 1) (N := 7) C dX7_giveDays_54 rfl rfl (by decide) (by omega) ?_
        have b54 := hb1 18 0 lp (by omega) (by omega)
        refine r_aload_n C dX7_giveDays_55 rfl ?_
        refine r_get_r (c := 1) C dX7_giveDays_56 fl_X7_27 rfl rfl rfl (by decide) rfl ?_
        refine r_iload_n C dX7_giveDays_59 rfl ?_
        refine r_iald (c := 1) (N := 4) C dX7_giveDays_60 rfl rfl (by decide) (by omega) ?_
        have b60 := hb1 21 0 (d : Int) (by omega) (by omega)
        refine r_ic_le 67 C dX7_giveDays_61 (by decide) (by omega) (by omega) (fun h61 => ?_) (fun h61 => ?_)
        · have q6 := p6 lp (by omega) (by omega)
          have q7 := p7 (d : Int) (by omega) (by omega)
          have hbd := bdf_r (a := σ1 16 0 lp) (b := σ1 20 0 (d : Int)) (by omega) (by omega)
          obtain ⟨wn, hwn⟩ := w_ex (Int32.ofInt (σ1 20 0 (d : Int)) ^^^ Int32.ofInt (-1))
          refine r_aload_n C dX7_giveDays_67 rfl ?_
          refine r_get_r (c := 1) C dX7_giveDays_68 fl_X7_24 rfl rfl rfl (by decide) rfl ?_
          refine r_iload_n C dX7_giveDays_71 rfl ?_
          refine r_iald (c := 1) (N := 4) C dX7_giveDays_72 rfl rfl (by decide) (by omega) ?_
          have b72 := hb1 20 0 (d : Int) (by omega) (by omega)
          refine r_istore C dX7_giveDays_73 rfl rfl (by decide) ?_
          refine r_aload_n C dX7_giveDays_75 rfl ?_
          refine r_get_r (c := 1) C dX7_giveDays_76 fl_X7_24 rfl rfl rfl (by decide) rfl ?_
          refine r_iload_n C dX7_giveDays_79 rfl ?_
          refine r_iload C dX7_giveDays_80 rfl ?_
          refine r_aload_n C dX7_giveDays_82 rfl ?_
          refine r_get_r (c := 1) C dX7_giveDays_83 fl_X7_9 rfl rfl rfl (by decide) rfl ?_
          refine r_iload_n C dX7_giveDays_86 rfl ?_
          refine r_iald (c := 1) (N := 7) C dX7_giveDays_87 rfl rfl (by decide) (by omega) ?_
          have b87 := hb1 16 0 lp (by omega) (by omega)
          refine r_ior _ C dX7_giveDays_88 (bor_v (by omega) (by omega)) ?_
          refine r_iast (c := 1) (N := 4) C dX7_giveDays_89 rfl rfl (by decide) (by omega) ?_
          refine r_aload_n C dX7_giveDays_90 rfl ?_
          refine r_get_r (c := 1) C dX7_giveDays_91 fl_X7_27 rfl rfl rfl (by decide) rfl ?_
          refine r_iload_n C dX7_giveDays_94 rfl ?_
          refine r_dup2 C dX7_giveDays_95 ?_
          refine r_iald (c := 1) (N := 4) C dX7_giveDays_96 rfl rfl (by decide) (by omega) ?_
          refine r_v (b := (σ1 21 0 (d : Int))) (by simp [qUp, qCpy]) ?_
          have b96 := hb1 21 0 (d : Int) (by omega) (by omega)
          refine r_aload_n C dX7_giveDays_97 rfl ?_
          refine r_get_r (c := 1) C dX7_giveDays_98 fl_X7_18 rfl rfl rfl (by decide) rfl ?_
          refine r_iload_n C dX7_giveDays_101 rfl ?_
          refine r_iald (c := 1) (N := 7) C dX7_giveDays_102 rfl rfl (by decide) (by omega) ?_
          refine r_v (b := (σ1 18 0 lp)) (by simp [qUp, qCpy]) ?_
          have b102 := hb1 18 0 lp (by omega) (by omega)
          refine r_isub C dX7_giveDays_103 ?_
          refine r_iast (c := 1) (N := 4) C dX7_giveDays_104 rfl rfl (by decide) (by omega) ?_
          refine r_aload_n C dX7_giveDays_105 rfl ?_
          refine r_get_r (c := 1) C dX7_giveDays_106 fl_X7_21 rfl rfl rfl (by decide) rfl ?_
          refine r_iload_n C dX7_giveDays_109 rfl ?_
          refine r_iload_n C dX7_giveDays_110 rfl ?_
          refine r_iast (c := 1) (N := 7) C dX7_giveDays_111 rfl rfl (by decide) (by omega) ?_
          refine r_aload_n C dX7_giveDays_112 rfl ?_
          refine r_iload_n C dX7_giveDays_113 rfl ?_
          refine r_iconst C dX7_giveDays_114 ?_
          refine r_iadd C dX7_giveDays_115 ?_
          refine r_iload_n C dX7_giveDays_116 rfl ?_
          refine r_aload_n C dX7_giveDays_117 rfl ?_
          refine r_get_r (c := 1) C dX7_giveDays_118 fl_X7_9 rfl rfl rfl (by decide) rfl ?_
          refine r_iload_n C dX7_giveDays_121 rfl ?_
          refine r_iald (c := 1) (N := 7) C dX7_giveDays_122 rfl rfl (by decide) (by omega) ?_
          refine r_v (b := (σ1 16 0 lp)) (by simp [qUp, qCpy]) ?_
          have b122 := hb1 16 0 lp (by omega) (by omega)
          refine r_iload C dX7_giveDays_123 rfl ?_
          refine r_iconst C dX7_giveDays_125 ?_
          refine r_ixor wn C dX7_giveDays_126 hwn ?_
          refine r_iand _ C dX7_giveDays_127 (bdf_v (by omega) (by omega) hwn) ?_
          refine r_csi C dX7_giveDays_128 ms_X7_69 (c_bitCount (ED e) tD_ok l _ _ (by omega)) (by omega) rfl rfl (Nat.le_of_ble_eq_true rfl) (fun z128 σ128 h128 => ?_)
          obtain ⟨rfl, rfl⟩ := h128
          refine r_iadd C dX7_giveDays_131 ?_
          refine r_cvv (c := 1) C dX7_giveDays_132 mv_X7_51 (hrec _ _ _ (updF dd lp (d : Int)) (gl_pre hP hI (by omega) (by omega) (by rw [e16, e20]))) (by omega) rfl rfl rfl rfl (by decide) rfl rfl (Nat.le_of_ble_eq_true rfl) (fun σ132 h132 => ?_)
          refine r_aload_n C dX7_giveDays_135 rfl ?_
          refine r_get_r (c := 1) C dX7_giveDays_136 fl_X7_24 rfl rfl rfl (by decide) rfl ?_
          refine r_iload_n C dX7_giveDays_139 rfl ?_
          refine r_iload C dX7_giveDays_140 rfl ?_
          refine r_iast (c := 1) (N := 4) C dX7_giveDays_142 rfl rfl (by decide) (by omega) ?_
          refine r_aload_n C dX7_giveDays_143 rfl ?_
          refine r_get_r (c := 1) C dX7_giveDays_144 fl_X7_27 rfl rfl rfl (by decide) rfl ?_
          refine r_iload_n C dX7_giveDays_147 rfl ?_
          refine r_dup2 C dX7_giveDays_148 ?_
          refine r_iald (c := 1) (N := 4) C dX7_giveDays_149 rfl rfl (by decide) (by omega) ?_
          refine r_v (b := (σ132 21 0 (d : Int))) (by simp [qUp, qCpy]) ?_
          refine r_aload_n C dX7_giveDays_150 rfl ?_
          refine r_get_r (c := 1) C dX7_giveDays_151 fl_X7_18 rfl rfl rfl (by decide) rfl ?_
          refine r_iload_n C dX7_giveDays_154 rfl ?_
          refine r_iald (c := 1) (N := 7) C dX7_giveDays_155 rfl rfl (by decide) (by omega) ?_
          refine r_v (b := (σ132 18 0 lp)) (by simp [qUp, qCpy]) ?_
          refine r_iadd C dX7_giveDays_156 ?_
          refine r_iast (c := 1) (N := 4) C dX7_giveDays_157 rfl rfl (by decide) (by omega) ?_
          refine r_iinc C dX7_giveDays_158 rfl rfl rfl (by decide) ?_
          refine r_goto 31 C dX7_giveDays_161 (by decide) ?_
          exact ih (d + 1) _ _ (by omega) (gl_step hP hI (by omega) (by omega) (by omega) (by rw [e16, e20]) h132 rfl)
        · refine r_goto 158 C dX7_giveDays_64 (by decide) ?_
          refine r_iinc C dX7_giveDays_158 rfl rfl rfl (by decide) ?_
          refine r_goto 31 C dX7_giveDays_161 (by decide) ?_
          exact ih (d + 1) _ _ (by omega) (g_skip hI (by omega))
set_option maxRecDepth 20000 in
theorem c_giveDays_s (e : qR) (l : Launch) (σ : qSt) (lp c : Int) (r : Nat) (dd : Int → Int) (hrec : ∀ (σ : qSt) (lp c : Int) (dd : Int → Int), gPre σ r lp c dd → CM (ED e) l yX7_giveDays cX7_giveDays 5 none (4 + r) [qr 15 0, qi lp, qi c] σ (Rv fun σ' => gPost σ r lp c dd σ')) (hP : gPre σ (r + 1) lp c dd) : CM (ED e) l yX7_giveDays cX7_giveDays 5 none (4 + (r + 1)) [qr 15 0, qi lp, qi c] σ (Rv fun σ' => gPost σ (r + 1) lp c dd σ') := by
  refine CM.mk tD_ok (by decide +kernel) (Nat.le_of_ble_eq_true rfl) (fun G C => ?_)
  show G σ 0 [some (qr 15 0), some (qi lp), some (qi c), none, none] []
  obtain ⟨hb, p2, p3, p4, p5, p6, p7, p8, p9, p10, p11, p12, p13, p14⟩ := id hP
  push_cast at p4
  refine r_iload_n C dX7_giveDays_0 rfl ?_
  refine r_aload_n C dX7_giveDays_1 rfl ?_
  refine r_get_i (c := 1) 7 C dX7_giveDays_2 fl_X7_33 rfl rfl rfl rfl (by decide) ?_
  have b2 := hb 15 0 7 (by omega) (by omega)
  refine r_ic_le 9 C dX7_giveDays_5 (by decide) (by omega) (by omega) (fun h5 => ?_) (fun h5 => ?_)
  · refine r_iload_n C dX7_giveDays_9 rfl ?_
    refine r_aload_n C dX7_giveDays_10 rfl ?_
    refine r_get_i (c := 1) 10 C dX7_giveDays_11 fl_X7_44 rfl rfl rfl rfl (by decide) ?_
    have b11 := hb 15 0 10 (by omega) (by omega)
    refine r_ic_ge 23 C dX7_giveDays_14 (by decide) (by omega) (by omega) (fun h14 => ?_) (fun h14 => ?_)
    · exfalso; omega
    · refine r_iload_n C dX7_giveDays_17 rfl ?_
      refine r_bipush C dX7_giveDays_18 ?_
      refine r_ic_lt 29 C dX7_giveDays_20 (by decide) (by omega) (by omega) (fun h20 => ?_) (fun h20 => ?_)
      · refine r_iconst C dX7_giveDays_29 ?_
        refine r_istore_n C dX7_giveDays_30 rfl rfl (by decide) ?_
        exact lp_giveDays e l σ r lp c dd hrec hP (by omega) (by omega) C (fun σ' h => ⟨rfl, h⟩) 4 0 _ _ (by omega) ⟨fun _ _ _ _ _ _ => rfl, hb, p14, rfl⟩
      · exfalso; omega
  · refine r_vret C dX7_giveDays_8 ?_
    exact ⟨rfl, g_cut hP (by omega)⟩
theorem c_giveDays (e : qR) (l : Launch) : ∀ (r : Nat) (σ : qSt) (lp c : Int) (dd : Int → Int), gPre σ r lp c dd → CM (ED e) l yX7_giveDays cX7_giveDays 5 none (4 + r) [qr 15 0, qi lp, qi c] σ (Rv fun σ' => gPost σ r lp c dd σ')
  | 0, σ, lp, c, dd, h => c_giveDays_0 e l σ lp c dd h
  | r + 1, σ, lp, c, dd, h => c_giveDays_s e l σ lp c r dd (c_giveDays e l r) h
end
section
/-! THE PLAN: what is prepared, and what is found -/
/-- two findings are as good as one another: the same number of calls, as many plans, and the same first days where there is a plan below the start's mark -/
def plE (n : Int) (S S' : plS) : Prop := S.1 = S'.1 ∧ S.2.1 = S'.2.1 ∧ (S.1 < 1000000 → ∀ j, 0 ≤ j → j < n → S.2.2 j = S'.2.2 j)
theorem gdD_cg {n a o m c lp : Int} {rc rc' : (Int → Int) → (Int → Int) → Int → (Int → Int) → plS → plS} {ca le ca' le' dd dd' : Int → Int} {S S' : plS} (hc0 : 0 ≤ c) (hlp : 0 ≤ lp ∧ lp < n)
    (hca : ∀ d, 0 ≤ d → d < 4 → ca d = ca' d ∧ le d = le' d) (hd : ∀ j, 0 ≤ j → j < lp → dd j = dd' j) (hS : plE n S S')
    (hrc : ∀ (ca le ca' le' : Int → Int) (c : Int) (dd dd' : Int → Int) (S S' : plS), 0 ≤ c → (∀ d, 0 ≤ d → d < 4 → ca d = ca' d ∧ le d = le' d) → (∀ j, 0 ≤ j → j < lp + 1 → dd j = dd' j) → plE n S S' → plE n (rc ca le c dd S) (rc' ca' le' c dd' S')) :
    ∀ d : Nat, d ≤ 4 → plE n (gdD rc a o m ca le c lp dd S d) (gdD rc' a o m ca' le' c lp dd' S' d)
  | 0, _ => hS
  | d + 1, h4 => by
    have ih := gdD_cg (a := a) (o := o) (m := m) hc0 hlp hca hd hS hrc d (by omega)
    have hd1 := hca d (by omega) (by omega)
    simp only [gdD]
    rw [← hd1.1, ← hd1.2]
    split
    · exact ih
    · refine hrc _ _ _ _ _ _ _ _ _ (by have := pop12_r (z := bdf a (ca d)) (by unfold bdf; omega); omega) (fun x q1 q2 => ?_) (fun j q1 q2 => ?_) ih
      · have := hca x q1 q2
        unfold updF
        rw [this.1, this.2]
        exact ⟨rfl, rfl⟩
      · unfold updF
        split
        · rfl
        · exact hd j q1 (by omega)
theorem gd_cg {A O M A' O' M' : Int → Int} {n : Int} (hA : ∀ j, 0 ≤ j → j < n → A j = A' j ∧ O j = O' j ∧ M j = M' j) : ∀ (r : Nat) (ca le ca' le' : Int → Int) (c : Int) (dd dd' : Int → Int) (S S' : plS), (r : Int) ≤ n → 0 ≤ c → (∀ d, 0 ≤ d → d < 4 → ca d = ca' d ∧ le d = le' d) → (∀ j, 0 ≤ j → j < n - r → dd j = dd' j) → plE n S S' → plE n (gd A O M n r ca le c dd S) (gd A' O' M' n r ca' le' c dd' S') := by
  intro r
  induction r with
  | zero =>
    intro ca le ca' le' c dd dd' S S' hr hc0 hc hd hS
    obtain ⟨s1, s2, s3⟩ := hS
    simp only [gd]
    rw [← s1]
    split
    · exact ⟨s1, s2, s3⟩
    · unfold takeP
      rw [← s1]
      split
      · refine ⟨rfl, rfl, fun _ j q1 q2 => ?_⟩
        show (if 0 ≤ j ∧ j < n then dd j else S.2.2 j) = (if 0 ≤ j ∧ j < n then dd' j else S'.2.2 j)
        rw [if_pos ⟨q1, q2⟩, if_pos ⟨q1, q2⟩]
        exact hd j q1 (by simp; exact q2)
      · exact ⟨rfl, by show S.2.1 + 1 = S'.2.1 + 1; rw [s2], fun q => s3 q⟩
  | succ r ih =>
    intro ca le ca' le' c dd dd' S S' hr hc0 hc hd hS
    have s1 := hS.1
    have hr' : (r : Int) + 1 ≤ n := by push_cast at hr; exact hr
    obtain ⟨a1, a2, a3⟩ := hA (n - (r + 1)) (by omega) (by omega)
    simp only [gd]
    rw [← s1, ← a1, ← a2, ← a3]
    split
    · exact hS
    · refine gdD_cg hc0 (by omega) hc (fun j q1 q2 => hd j q1 (by push_cast; omega)) hS (fun ca le ca' le' c dd dd' S S' g1 g2 g3 g4 => ih ca le ca' le' c dd dd' S S' (by omega) g1 g2 (fun j q1 q2 => g3 j q1 (by omega)) g4) 4 (by omega)
def plA (σ : qSt) : Int → Int := fun k => aol (σ 14 0 k) (fun l => σ 11 0 (σ 81 l 1)) 12
def plO (σ : qSt) : Int → Int := fun k => doa (plA σ k) (σ 12 0) 8
def plM (σ : qSt) : Int → Int := fun k => 5 * pop12 (σ 14 0 k)
def plRes (σ : qSt) : plS := gd (plA σ) (plO σ) (plM σ) (σ 10 0 4) (σ 10 0 4).toNat (fun _ => 0) (σ 13 0) 0 (fun _ => 0) (1000000, 0, fun _ => 0)
/-- the planner's own rows hold small numbers -/
def PlR (σ : qSt) : Prop := ∀ j, 0 ≤ j → j < 7 → 0 ≤ σ 16 0 j ∧ σ 16 0 j < 256 ∧ 0 ≤ σ 17 0 j ∧ σ 17 0 j < 16 ∧ 0 ≤ σ 18 0 j ∧ σ 18 0 j ≤ 60
abbrev pAg (σ σ1 : qSt) : Prop := ∀ (a : Nat) (b c : Int), a ≠ 15 → a ≠ 16 → a ≠ 17 → a ≠ 18 → a ≠ 19 → a ≠ 20 → a ≠ 21 → a ≠ 22 → σ1 a b c = σ a b c
def ppI (σ : qSt) (m : Int) (σ1 : qSt) : Prop := pAg σ σ1 ∧ Bd σ1 ∧ PlR σ1 ∧ σ1 15 0 10 = σ 10 0 4 ∧ σ1 15 0 9 = σ 15 0 9 ∧ ∀ k, 0 ≤ k → k < m → σ1 16 0 k = plA σ k ∧ σ1 17 0 k = plO σ k ∧ σ1 18 0 k = plM σ k
theorem pp_step {σ σ1 : qSt} {m : Int} {a o n : Int} (hI : ppI σ m σ1) (hm : 0 ≤ m ∧ m < 7) (ha : a = plA σ m) (ho : o = plO σ m) (hn : n = plM σ m) (ra : 0 ≤ a ∧ a < 256) (ro : 0 ≤ o ∧ o < 16) (rn : 0 ≤ n ∧ n ≤ 60) : ppI σ (m + 1) (qUp (qUp (qUp σ1 16 0 m a) 17 0 m o) 18 0 m n) := by
  obtain ⟨i1, i2, i3, i4, i5, i6⟩ := hI
  refine ⟨fun x y z h0 h1 h2 h3 h4 h5 h6 h7 => ?_, ((i2.up (by omega)).up (by omega)).up (by omega), fun j q1 q2 => ?_, by simp [qUp, i4], by simp [qUp, i5], fun k q1 q2 => ?_⟩
  · rw [qUp_ne (by omega), qUp_ne (by omega), qUp_ne (by omega)]
    exact i1 x y z h0 h1 h2 h3 h4 h5 h6 h7
  · by_cases e : j = m
    · subst e
      simp [qUp]
      omega
    · simp [qUp, e]
      exact i3 j q1 q2
  · by_cases e : k = m
    · subst e
      simp [qUp, ha, ho, hn]
    · simp [qUp, e]
      exact i6 k q1 (by omega)
def pqI (σ : qSt) (m : Int) (σ1 : qSt) : Prop := ppI σ (σ 10 0 4) σ1 ∧ ∀ d, 0 ≤ d → d < m → σ1 20 0 d = 0 ∧ σ1 21 0 d = σ 13 0 d
theorem pq_step {σ σ1 : qSt} {m v : Int} (hI : pqI σ m σ1) (hv : v = σ 13 0 m) (rv : -2000000 ≤ v ∧ v ≤ 2000000) : pqI σ (m + 1) (qUp (qUp σ1 20 0 m 0) 21 0 m v) := by
  obtain ⟨⟨i1, i2, i3, i4, i5, i6⟩, i7⟩ := hI
  refine ⟨⟨fun x y z h0 h1 h2 h3 h4 h5 h6 h7 => ?_, (i2.up (by omega)).up rv, fun j q1 q2 => by simp [qUp]; exact i3 j q1 q2, by simp [qUp, i4], by simp [qUp, i5], fun k q1 q2 => by simp [qUp]; exact i6 k q1 q2⟩, fun d q1 q2 => ?_⟩
  · rw [qUp_ne (by omega), qUp_ne (by omega)]
    exact i1 x y z h0 h1 h2 h3 h4 h5 h6 h7
  · by_cases e : d = m
    · subst e
      simp [qUp, hv]
    · simp [qUp, e]
      exact i7 d q1 (by omega)
def prQ (σ : qSt) (σ1 : qSt) : Prop := pqI σ 4 σ1 ∧ σ1 15 0 7 = 1000000 ∧ σ1 15 0 8 = 0
theorem pr_end {σ σ1 : qSt} (hI : pqI σ 4 σ1) : prQ σ (qUp (qUp σ1 15 0 7 1000000) 15 0 8 0) := by
  obtain ⟨⟨i1, i2, i3, i4, i5, i6⟩, i7⟩ := hI
  refine ⟨⟨⟨fun x y z h0 h1 h2 h3 h4 h5 h6 h7 => ?_, (i2.up (by omega)).up (by omega), fun j q1 q2 => by simp [qUp]; exact i3 j q1 q2, by simp [qUp, i4], by simp [qUp, i5], fun k q1 q2 => by simp [qUp]; exact i6 k q1 q2⟩, fun d q1 q2 => by simp [qUp]; exact i7 d q1 q2⟩, by simp [qUp], by simp [qUp]⟩
  rw [qUp_ne (by omega), qUp_ne (by omega)]
  exact i1 x y z h0 h1 h2 h3 h4 h5 h6 h7
set_option maxRecDepth 20000 in
theorem lp_X7_prep1 {G : qSt → Nat → List (Option qV) → List qV → Prop} {Ret : Option qV → qSt → Prop} (e : qR) (l : Launch) (σ : qSt) (hb : Bd σ) (hPl : PlR σ) (hlc : 0 ≤ σ 10 0 4 ∧ σ 10 0 4 ≤ 7) (hpt : ∀ l, 0 ≤ l → l < 12 → 0 ≤ σ 81 l 1 ∧ σ 81 l 1 < 6) (hac : ∀ l, 0 ≤ l → l < 6 → -1 ≤ σ 11 0 l ∧ σ 11 0 l < 8) (hfr : ∀ w, 0 ≤ w → w < 8 → 0 ≤ σ 12 0 w ∧ σ 12 0 w < 16) (hlp : ∀ k, 0 ≤ k → k < 7 → 0 ≤ σ 14 0 k ∧ σ 14 0 k < 4096) (C : Cx (ED e) l RX7 cX7_prepare 4 none 4 Ret G) (hN : ∀ x σ2, ppI σ (σ 10 0 4) σ2 → G σ2 69 [some (qr 15 0), some (qr 10 0), some (qr 1 0), some (qi x)] []) : ∀ (k : Nat) (m : Int) (σ1 : qSt), m + (k : Int) = σ 10 0 4 → 0 ≤ m → ppI σ m σ1 → G σ1 10 [some (qr 15 0), some (qr 10 0), some (qr 1 0), some (qi m)] [] := by
  intro k
  induction k with
  | zero =>
    intro m σ1 hm hm0 hI
    have hb1 := hI.2.1
    have a81 : ∀ l, σ1 81 l 1 = σ 81 l 1 := fun l => hI.1 81 l 1 (by decide) (by decide) (by decide) (by decide) (by decide) (by decide) (by decide) (by decide)
    have a11 : ∀ j, σ1 11 0 j = σ 11 0 j := fun j => hI.1 11 0 j (by decide) (by decide) (by decide) (by decide) (by decide) (by decide) (by decide) (by decide)
    have a12 : ∀ j, σ1 12 0 j = σ 12 0 j := fun j => hI.1 12 0 j (by decide) (by decide) (by decide) (by decide) (by decide) (by decide) (by decide) (by decide)
    have a14 : ∀ j, σ1 14 0 j = σ 14 0 j := fun j => hI.1 14 0 j (by decide) (by decide) (by decide) (by decide) (by decide) (by decide) (by decide) (by decide)
    have e10 := hI.2.2.2.1
    have b10 := hb 10 0 4 (by decide) (by omega)
    refine r_iload_n C dX7_prepare_10 rfl ?_
    refine r_aload_n C dX7_prepare_11 rfl ?_
    refine r_get_i (c := 1) 10 C dX7_prepare_12 fl_X7_44 rfl rfl rfl rfl (by decide) ?_
    have b12 := hb1 15 0 10 (by omega) (by omega)
    refine r_ic_ge 69 C dX7_prepare_15 (by decide) (by omega) (by omega) (fun h15 => ?_) (fun h15 => ?_)
    · rw [show m = σ 10 0 4 by omega] at hI
      exact hN _ _ hI
    · exfalso; omega
  | succ k ih =>
    intro m σ1 hm hm0 hI
    have hb1 := hI.2.1
    have a81 : ∀ l, σ1 81 l 1 = σ 81 l 1 := fun l => hI.1 81 l 1 (by decide) (by decide) (by decide) (by decide) (by decide) (by decide) (by decide) (by decide)
    have a11 : ∀ j, σ1 11 0 j = σ 11 0 j := fun j => hI.1 11 0 j (by decide) (by decide) (by decide) (by decide) (by decide) (by decide) (by decide) (by decide)
    have a12 : ∀ j, σ1 12 0 j = σ 12 0 j := fun j => hI.1 12 0 j (by decide) (by decide) (by decide) (by decide) (by decide) (by decide) (by decide) (by decide)
    have a14 : ∀ j, σ1 14 0 j = σ 14 0 j := fun j => hI.1 14 0 j (by decide) (by decide) (by decide) (by decide) (by decide) (by decide) (by decide) (by decide)
    have e10 := hI.2.2.2.1
    have b10 := hb 10 0 4 (by decide) (by omega)
    refine r_iload_n C dX7_prepare_10 rfl ?_
    refine r_aload_n C dX7_prepare_11 rfl ?_
    refine r_get_i (c := 1) 10 C dX7_prepare_12 fl_X7_44 rfl rfl rfl rfl (by decide) ?_
    have b12 := hb1 15 0 10 (by omega) (by omega)
    refine r_ic_ge 69 C dX7_prepare_15 (by decide) (by omega) (by omega) (fun h15 => ?_) (fun h15 => ?_)
    · exfalso; omega
    · refine r_aload_n C dX7_prepare_18 rfl ?_
      refine r_get_r (c := 1) C dX7_prepare_19 fl_X7_9 rfl rfl rfl (by decide) rfl ?_
      refine r_iload_n C dX7_prepare_22 rfl ?_
      refine r_aload_n C dX7_prepare_23 rfl ?_
      refine r_iload_n C dX7_prepare_24 rfl ?_
      refine r_aload_n C dX7_prepare_25 rfl ?_
      refine r_cvi (c := 1) C dX7_prepare_26 mv_X7_58 (c_X1_actorsOfLoop e l σ1 m hb1 (by omega) (fun l q1 q2 => by rw [a81]; exact hpt l q1 q2) (fun l q1 q2 => by rw [a11]; exact hac l q1 q2)) (by decide) rfl rfl rfl rfl (by decide) rfl rfl (Nat.le_of_ble_eq_true rfl) (fun z26 σ26 h26 => ?_)
      obtain ⟨hz26, rfl⟩ := h26
      obtain ⟨aa, haa⟩ : ∃ aa, aa = z26 := ⟨_, rfl⟩
      rw [← haa] at hz26 ⊢
      have eaa : aa = plA σ m := by rw [hz26]; simp only [plA, a14, a11, a81]
      have raa : 0 ≤ aa ∧ aa < 256 := by rw [eaa]; exact aol_r2 12 (fun l q => by have h1 := hpt l (by omega) (by omega); have h2 := hac _ h1.1 h1.2; exact h2.2)
      refine r_iast (c := 1) (N := 7) C dX7_prepare_29 rfl rfl (by decide) (by omega) ?_
      refine r_aload_n C dX7_prepare_30 rfl ?_
      refine r_get_r (c := 1) C dX7_prepare_31 fl_X7_15 rfl rfl rfl (by decide) rfl ?_
      refine r_iload_n C dX7_prepare_34 rfl ?_
      refine r_aload_n C dX7_prepare_35 rfl ?_
      refine r_aload_n C dX7_prepare_36 rfl ?_
      refine r_get_r (c := 1) C dX7_prepare_37 fl_X7_9 rfl rfl rfl (by decide) rfl ?_
      refine r_iload_n C dX7_prepare_40 rfl ?_
      refine r_iald (c := 1) (N := 7) C dX7_prepare_41 rfl rfl (by decide) (by omega) ?_
      refine r_v (b := aa) (by simp [qUp, qCpy]) ?_
      refine r_cvi (c := 1) C dX7_prepare_42 mv_X7_62 (c_X1_daysOfActors e l _ aa (by omega) (fun w q1 q2 => by have := a12 w; simp [qUp, this]; exact hfr w q1 q2)) (by decide) rfl rfl rfl rfl (by decide) rfl rfl (Nat.le_of_ble_eq_true rfl) (fun z42 σ42 h42 => ?_)
      obtain ⟨hz42, rfl⟩ := h42
      obtain ⟨oo, hoo⟩ : ∃ oo, oo = z42 := ⟨_, rfl⟩
      rw [← hoo] at hz42 ⊢
      have eoo : oo = plO σ m := by
        rw [hz42]
        have e12 : (qUp σ1 16 0 m aa) 12 0 = σ 12 0 := by funext j; simp [qUp, a12]
        simp only [plO]
        rw [e12, eaa]
      have roo : 0 ≤ oo ∧ oo < 16 := by rw [eoo]; exact doa_r 8 (fun w q => hfr w (by omega) (by omega))
      refine r_iast (c := 1) (N := 7) C dX7_prepare_45 rfl rfl (by decide) (by omega) ?_
      refine r_aload_n C dX7_prepare_46 rfl ?_
      refine r_get_r (c := 1) C dX7_prepare_47 fl_X7_18 rfl rfl rfl (by decide) rfl ?_
      refine r_iload_n C dX7_prepare_50 rfl ?_
      refine r_iconst C dX7_prepare_51 ?_
      refine r_aload_n C dX7_prepare_52 rfl ?_
      refine r_get_r (c := 1) C dX7_prepare_53 fl_X7_66 rfl rfl rfl (by decide) rfl ?_
      refine r_iload_n C dX7_prepare_56 rfl ?_
      refine r_iald (c := 1) (N := 7) C dX7_prepare_57 rfl rfl (by decide) (by omega) ?_
      refine r_v (b := (σ1 14 0 m)) (by simp [qUp, qCpy]) ?_
      have b57 := hb1 14 0 m (by omega) (by omega)
      refine r_csi C dX7_prepare_58 ms_X7_69 (c_bitCount (ED e) tD_ok l _ _ (by have := hlp m (by omega) (by omega); rw [a14]; exact this)) (by decide) rfl rfl (Nat.le_of_ble_eq_true rfl) (fun z58 σ58 h58 => ?_)
      obtain ⟨rfl, rfl⟩ := h58
      refine r_imul C dX7_prepare_61 ?_
      refine r_iast (c := 1) (N := 7) C dX7_prepare_62 rfl rfl (by decide) (by omega) ?_
      refine r_iinc C dX7_prepare_63 rfl rfl rfl (by decide) ?_
      refine r_goto 10 C dX7_prepare_66 (by decide) ?_
      exact ih _ _ (by omega) (by omega) (pp_step hI (by omega) eaa eoo (by simp only [plM]; rw [a14]) raa roo (by have := pop12_r (z := σ1 14 0 m) (by rw [a14]; exact (hlp m (by omega) (by omega)).1); omega))
set_option maxRecDepth 20000 in
theorem lp_X7_prep2 {G : qSt → Nat → List (Option qV) → List qV → Prop} {Ret : Option qV → qSt → Prop} (e : qR) (l : Launch) (σ : qSt) (hb : Bd σ) (hPl : PlR σ) (hlc : 0 ≤ σ 10 0 4 ∧ σ 10 0 4 ≤ 7) (hpt : ∀ l, 0 ≤ l → l < 12 → 0 ≤ σ 81 l 1 ∧ σ 81 l 1 < 6) (hac : ∀ l, 0 ≤ l → l < 6 → -1 ≤ σ 11 0 l ∧ σ 11 0 l < 8) (hfr : ∀ w, 0 ≤ w → w < 8 → 0 ≤ σ 12 0 w ∧ σ 12 0 w < 16) (hlp : ∀ k, 0 ≤ k → k < 7 → 0 ≤ σ 14 0 k ∧ σ 14 0 k < 4096) (hrm : ∀ d, 0 ≤ d → d < 4 → 0 ≤ σ 13 0 d ∧ σ 13 0 d ≤ 100) (C : Cx (ED e) l RX7 cX7_prepare 4 none 4 Ret G) (hR : ∀ σ2, prQ σ σ2 → Ret none σ2) : ∀ (k : Nat) (m : Int) (σ1 : qSt), m + (k : Int) = 4 → 0 ≤ m → pqI σ m σ1 → G σ1 71 [some (qr 15 0), some (qr 10 0), some (qr 1 0), some (qi m)] [] := by
  intro k
  induction k with
  | zero =>
    intro m σ1 hm hm0 hI
    have hb1 := hI.1.2.1
    have a13 := hI.1.1 13 0 m (by decide) (by decide) (by decide) (by decide) (by decide) (by decide) (by decide) (by decide)
    refine r_iload_n C dX7_prepare_71 rfl ?_
    refine r_iconst C dX7_prepare_72 ?_
    refine r_ic_ge 101 C dX7_prepare_73 (by decide) (by omega) (by omega) (fun h73 => ?_) (fun h73 => ?_)
    · refine r_aload_n C dX7_prepare_101 rfl ?_
      refine r_ldc C dX7_prepare_102 kc_X7_77 ?_
      refine r_put_i (c := 1) 7 C dX7_prepare_104 fw_X7_33 rfl rfl rfl rfl (by decide) rfl rfl ?_
      refine r_aload_n C dX7_prepare_107 rfl ?_
      refine r_iconst C dX7_prepare_108 ?_
      refine r_put_i (c := 1) 8 C dX7_prepare_109 fw_X7_37 rfl rfl rfl rfl (by decide) rfl rfl ?_
      refine r_vret C dX7_prepare_112 ?_
      rw [show m = 4 by omega] at hI
      exact hR _ (pr_end hI)
    · exfalso; omega
  | succ k ih =>
    intro m σ1 hm hm0 hI
    have hb1 := hI.1.2.1
    have a13 := hI.1.1 13 0 m (by decide) (by decide) (by decide) (by decide) (by decide) (by decide) (by decide) (by decide)
    refine r_iload_n C dX7_prepare_71 rfl ?_
    refine r_iconst C dX7_prepare_72 ?_
    refine r_ic_ge 101 C dX7_prepare_73 (by decide) (by omega) (by omega) (fun h73 => ?_) (fun h73 => ?_)
    · exfalso; omega
    · refine r_aload_n C dX7_prepare_76 rfl ?_
      refine r_get_r (c := 1) C dX7_prepare_77 fl_X7_24 rfl rfl rfl (by decide) rfl ?_
      refine r_iload_n C dX7_prepare_80 rfl ?_
      refine r_iconst C dX7_prepare_81 ?_
      refine r_iast (c := 1) (N := 4) C dX7_prepare_82 rfl rfl (by decide) (by omega) ?_
      refine r_aload_n C dX7_prepare_83 rfl ?_
      refine r_get_r (c := 1) C dX7_prepare_84 fl_X7_27 rfl rfl rfl (by decide) rfl ?_
      refine r_iload_n C dX7_prepare_87 rfl ?_
      refine r_aload_n C dX7_prepare_88 rfl ?_
      refine r_get_r (c := 1) C dX7_prepare_89 fl_X7_74 rfl rfl rfl (by decide) rfl ?_
      refine r_iload_n C dX7_prepare_92 rfl ?_
      refine r_iald (c := 1) (N := 4) C dX7_prepare_93 rfl rfl (by decide) (by omega) ?_
      refine r_v (b := (σ1 13 0 m)) (by simp [qUp, qCpy]) ?_
      refine r_iast (c := 1) (N := 4) C dX7_prepare_94 rfl rfl (by decide) (by omega) ?_
      refine r_iinc C dX7_prepare_95 rfl rfl rfl (by decide) ?_
      refine r_goto 71 C dX7_prepare_98 (by decide) ?_
      exact ih _ _ (by omega) (by omega) (pq_step hI a13 (by have := hrm m (by omega) (by omega); omega))
set_option maxRecDepth 20000 in
theorem c_X7_prepare (e : qR) (l : Launch) (σ : qSt) (hb : Bd σ) (hPl : PlR σ) (hlc : 0 ≤ σ 10 0 4 ∧ σ 10 0 4 ≤ 7) (hpt : ∀ l, 0 ≤ l → l < 12 → 0 ≤ σ 81 l 1 ∧ σ 81 l 1 < 6) (hac : ∀ l, 0 ≤ l → l < 6 → -1 ≤ σ 11 0 l ∧ σ 11 0 l < 8) (hfr : ∀ w, 0 ≤ w → w < 8 → 0 ≤ σ 12 0 w ∧ σ 12 0 w < 16) (hlp : ∀ k, 0 ≤ k → k < 7 → 0 ≤ σ 14 0 k ∧ σ 14 0 k < 4096) (hrm : ∀ d, 0 ≤ d → d < 4 → 0 ≤ σ 13 0 d ∧ σ 13 0 d ≤ 100) : CM (ED e) l yX7_prepare cX7_prepare 4 none 4 [qr 15 0, qr 10 0, qr 1 0] σ (Rv fun σ' => prQ σ σ') := by
  refine CM.mk tD_ok (by decide +kernel) (Nat.le_of_ble_eq_true rfl) (fun G C => ?_)
  show G σ 0 [some (qr 15 0), some (qr 10 0), some (qr 1 0), none] []
  refine r_aload_n C dX7_prepare_0 rfl ?_
  refine r_aload_n C dX7_prepare_1 rfl ?_
  refine r_get_i (c := 1) 4 C dX7_prepare_2 fl_X7_55 rfl rfl rfl rfl (by decide) ?_
  have b2 := hb 10 0 4 (by omega) (by omega)
  refine r_put_i (c := 1) 10 C dX7_prepare_5 fw_X7_44 rfl rfl rfl rfl (by decide) rfl rfl ?_
  refine r_iconst C dX7_prepare_8 ?_
  refine r_istore_n C dX7_prepare_9 rfl rfl (by decide) ?_
  refine lp_X7_prep1 e l σ hb hPl hlc hpt hac hfr hlp C (fun x σ2 hI2 => ?_) (σ 10 0 4).toNat _ _ (by omega) (by omega) ⟨fun x y z h0 h1 h2 h3 h4 h5 h6 h7 => qUp_ne (by omega), hb.up (by omega), fun j q1 q2 => by simp [qUp]; exact hPl j q1 q2, by simp [qUp], by simp [qUp], fun k q1 q2 => by omega⟩
  refine r_iconst C dX7_prepare_69 ?_
  refine r_istore_n C dX7_prepare_70 rfl rfl (by decide) ?_
  exact lp_X7_prep2 e l σ hb hPl hlc hpt hac hfr hlp hrm C (fun σ' h => ⟨rfl, h⟩) 4 _ _ (by omega) (by omega) ⟨hI2, fun d q1 q2 => by omega⟩
/-- the planner's memory: unknown, or as good as a new search -/
def plKn (σ σ0 : qSt) : Prop := σ 15 0 9 = 0 ∨ (σ 15 0 9 = 1 ∧ plE (σ0 10 0 4) (pS σ) (plRes σ0))
def skp (σ σ1 : qSt) : Prop := pAg σ σ1 ∧ Bd σ1 ∧ PlR σ1 ∧ σ1 15 0 9 = 1 ∧ plE (σ 10 0 4) (pS σ1) (plRes σ)
theorem sp_pre {σ σ1 : qSt} (h : prQ σ σ1) (hlc : 0 ≤ σ 10 0 4 ∧ σ 10 0 4 ≤ 7) (hrm : ∀ d, 0 ≤ d → d < 4 → 0 ≤ σ 13 0 d ∧ σ 13 0 d ≤ 100) : gPre σ1 (σ 10 0 4).toNat 0 0 (fun _ => 0) := by
  obtain ⟨⟨⟨i1, i2, i3, i4, i5, i6⟩, i7⟩, e7, e8⟩ := h
  have hp : ∀ r, r ≤ 7 → (4 : Int) ^ r ≤ 16384 := by decide
  have := hp (σ 10 0 4).toNat (by omega)
  refine ⟨i2, by omega, by omega, by omega, by omega, i3, fun d q1 q2 => ?_, by omega, by omega, by omega, by omega, by omega, by omega, fun j q1 q2 => by omega⟩
  have h1 := i7 d q1 q2
  have h2 := hrm d q1 q2
  omega
theorem sp_post {σ σ1 σ2 : qSt} (h : prQ σ σ1) (hlc : 0 ≤ σ 10 0 4 ∧ σ 10 0 4 ≤ 7) (hg : gPost σ1 (σ 10 0 4).toNat 0 0 (fun _ => 0) σ2) : skp σ (qUp σ2 15 0 9 1) := by
  obtain ⟨⟨⟨i1, i2, i3, i4, i5, i6⟩, i7⟩, e7, e8⟩ := h
  obtain ⟨g1, g2, g3, g4⟩ := hg
  refine ⟨fun x y z h0 h1 h2 h3 h4 h5 h6 h7 => ?_, g2.up (by omega), fun j q1 q2 => ?_, by simp [qUp], ?_⟩
  · rw [qUp_ne (by omega), g1 x y z h4 h7 (by omega)]
    exact i1 x y z h0 h1 h2 h3 h4 h5 h6 h7
  · have := i3 j q1 q2
    rw [qUp_ne (by omega), qUp_ne (by omega), qUp_ne (by omega), g1 16 0 j (by decide) (by decide) (by omega), g1 17 0 j (by decide) (by decide) (by omega), g1 18 0 j (by decide) (by decide) (by omega)]
    exact this
  · have e : pS (qUp σ2 15 0 9 1) = pS σ2 := by
      unfold pS
      refine Prod.ext (by simp [qUp]) (Prod.ext (by simp [qUp]) ?_)
      funext j
      simp [qUp]
    rw [e, g4, i4]
    unfold plRes
    refine gd_cg (fun j q1 q2 => i6 j q1 q2) _ _ _ _ _ _ _ _ _ _ (by omega) (by omega) (fun d q1 q2 => i7 d q1 q2) (fun j q1 q2 => rfl) ⟨e7, e8, fun q => ?_⟩
    have : (pS σ1).1 = 1000000 := e7
    omega
set_option maxRecDepth 20000 in
theorem c_X7_seekPlans (e : qR) (l : Launch) (σ : qSt) (hb : Bd σ) (hPl : PlR σ) (hlc : 0 ≤ σ 10 0 4 ∧ σ 10 0 4 ≤ 7) (hpt : ∀ l, 0 ≤ l → l < 12 → 0 ≤ σ 81 l 1 ∧ σ 81 l 1 < 6) (hac : ∀ l, 0 ≤ l → l < 6 → -1 ≤ σ 11 0 l ∧ σ 11 0 l < 8) (hfr : ∀ w, 0 ≤ w → w < 8 → 0 ≤ σ 12 0 w ∧ σ 12 0 w < 16) (hlp : ∀ k, 0 ≤ k → k < 7 → 0 ≤ σ 14 0 k ∧ σ 14 0 k < 4096) (hrm : ∀ d, 0 ≤ d → d < 4 → 0 ≤ σ 13 0 d ∧ σ 13 0 d ≤ 100) (hk : plKn σ σ) : CM (ED e) l yX7_seekPlans cX7_seekPlans 3 none 12 [qr 15 0, qr 10 0, qr 1 0] σ (Rv fun σ' => skp σ σ') := by
  refine CM.mk tD_ok (by decide +kernel) (Nat.le_of_ble_eq_true rfl) (fun G C => ?_)
  show G σ 0 [some (qr 15 0), some (qr 10 0), some (qr 1 0)] []
  refine r_aload_n C dX7_seekPlans_0 rfl ?_
  refine r_get_i (c := 1) 9 C dX7_seekPlans_1 fl_X7_40 rfl rfl rfl rfl (by decide) ?_
  have b1 := hb 15 0 9 (by omega) (by omega)
  refine r_if_eq 8 C dX7_seekPlans_4 (by decide) (by omega) (fun h4 => ?_) (fun h4 => ?_)
  · refine r_aload_n C dX7_seekPlans_8 rfl ?_
    refine r_aload_n C dX7_seekPlans_9 rfl ?_
    refine r_aload_n C dX7_seekPlans_10 rfl ?_
    refine r_cvv (c := 1) C dX7_seekPlans_11 mv_X7_47 (c_X7_prepare e l _ hb hPl hlc hpt hac hfr hlp hrm) (by decide) rfl rfl rfl rfl (by decide) rfl rfl (Nat.le_of_ble_eq_true rfl) (fun σ11 h11 => ?_)
    refine r_aload_n C dX7_seekPlans_14 rfl ?_
    refine r_iconst C dX7_seekPlans_15 ?_
    refine r_iconst C dX7_seekPlans_16 ?_
    refine r_cvv (c := 1) C dX7_seekPlans_17 mv_X7_51 (c_giveDays e l _ _ 0 0 (fun _ => 0) (sp_pre h11 hlc hrm)) (by omega) rfl rfl rfl rfl (by decide) rfl rfl (Nat.le_of_ble_eq_true rfl) (fun σ17 h17 => ?_)
    refine r_aload_n C dX7_seekPlans_20 rfl ?_
    refine r_iconst C dX7_seekPlans_21 ?_
    refine r_put_i (c := 1) 9 C dX7_seekPlans_22 fw_X7_40 rfl rfl rfl rfl (by decide) rfl rfl ?_
    refine r_vret C dX7_seekPlans_25 ?_
    exact ⟨rfl, sp_post h11 hlc h17⟩
  · refine r_vret C dX7_seekPlans_7 ?_
    rcases hk with q | q
    · exfalso; omega
    · exact ⟨rfl, fun _ _ _ _ _ _ _ _ _ _ _ => rfl, hb, hPl, q.1, q.2⟩
end
