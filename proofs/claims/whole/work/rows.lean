section
-- ===== PART A: goes FIRST, ahead of the names: the tables' words, and 'selects' of the private methods out of them =====
/-- a private method of a class that the tables say can be made, by its rows of tables_1 -/
def lw_okq (q : MethodName × Nat) : Prop := (q.1.cls ≠ "java/lang/invoke/MethodHandle" ∧ q.1.cls ≠ "java/lang/invoke/VarHandle") ∧ Cond.instantiable q.1.cls q.2 ∈ tables_1 ∧ Cond.privateMethod q.1 ∈ tables_1 ∧ Cond.instanceMethod q.1 ∈ tables_1
theorem lw_p0 : lw_okq (⟨"DubDesk", "finding", "(I)I"⟩, 13) := ⟨⟨by decide +kernel, by decide +kernel⟩, List.mem_of_getElem? (i := 17) (by decide +kernel), List.mem_of_getElem? (i := 350) (by decide +kernel), List.mem_of_getElem? (i := 351) (by decide +kernel)⟩
theorem lw_p1 : lw_okq (⟨"DubDesk", "remember", "(III)LDubDesk$Act;"⟩, 13) := ⟨⟨by decide +kernel, by decide +kernel⟩, List.mem_of_getElem? (i := 17) (by decide +kernel), List.mem_of_getElem? (i := 359) (by decide +kernel), List.mem_of_getElem? (i := 360) (by decide +kernel)⟩
theorem lw_p2 : lw_okq (⟨"DubDesk", "isLine", "(I)Z"⟩, 13) := ⟨⟨by decide +kernel, by decide +kernel⟩, List.mem_of_getElem? (i := 17) (by decide +kernel), List.mem_of_getElem? (i := 374) (by decide +kernel), List.mem_of_getElem? (i := 375) (by decide +kernel)⟩
theorem lw_p3 : lw_okq (⟨"DubDesk", "isWording", "(I)Z"⟩, 13) := ⟨⟨by decide +kernel, by decide +kernel⟩, List.mem_of_getElem? (i := 17) (by decide +kernel), List.mem_of_getElem? (i := 390) (by decide +kernel), List.mem_of_getElem? (i := 391) (by decide +kernel)⟩
theorem lw_p4 : lw_okq (⟨"DubDesk", "countWordings", "(I)I"⟩, 13) := ⟨⟨by decide +kernel, by decide +kernel⟩, List.mem_of_getElem? (i := 17) (by decide +kernel), List.mem_of_getElem? (i := 430) (by decide +kernel), List.mem_of_getElem? (i := 431) (by decide +kernel)⟩
theorem lw_p5 : lw_okq (⟨"DubDesk", "findFit", "(I)Z"⟩, 13) := ⟨⟨by decide +kernel, by decide +kernel⟩, List.mem_of_getElem? (i := 17) (by decide +kernel), List.mem_of_getElem? (i := 442) (by decide +kernel), List.mem_of_getElem? (i := 443) (by decide +kernel)⟩
theorem lw_p6 : lw_okq (⟨"DubDesk$Fit", "fillPauses", "(LDubDesk$Line;)V"⟩, 5) := ⟨⟨by decide +kernel, by decide +kernel⟩, List.mem_of_getElem? (i := 133) (by decide +kernel), List.mem_of_getElem? (i := 450) (by decide +kernel), List.mem_of_getElem? (i := 451) (by decide +kernel)⟩
theorem lw_p7 : lw_okq (⟨"DubDesk$Fit", "fillSyllable", "(LDubDesk$Wording;LDubDesk$Line;I)V"⟩, 5) := ⟨⟨by decide +kernel, by decide +kernel⟩, List.mem_of_getElem? (i := 133) (by decide +kernel), List.mem_of_getElem? (i := 457) (by decide +kernel), List.mem_of_getElem? (i := 458) (by decide +kernel)⟩
theorem lw_p8 : lw_okq (⟨"DubDesk$Fit", "leastFrom", "(LDubDesk$Wording;LDubDesk$Line;II)I"⟩, 5) := ⟨⟨by decide +kernel, by decide +kernel⟩, List.mem_of_getElem? (i := 133) (by decide +kernel), List.mem_of_getElem? (i := 462) (by decide +kernel), List.mem_of_getElem? (i := 463) (by decide +kernel)⟩
theorem lw_p9 : lw_okq (⟨"DubDesk$Fit", "trace", "(LDubDesk$Wording;LDubDesk$Line;)V"⟩, 5) := ⟨⟨by decide +kernel, by decide +kernel⟩, List.mem_of_getElem? (i := 133) (by decide +kernel), List.mem_of_getElem? (i := 475) (by decide +kernel), List.mem_of_getElem? (i := 476) (by decide +kernel)⟩
theorem lw_p10 : lw_okq (⟨"DubDesk$Fit", "shortestFrom", "(LDubDesk$Wording;LDubDesk$Line;II)I"⟩, 5) := ⟨⟨by decide +kernel, by decide +kernel⟩, List.mem_of_getElem? (i := 133) (by decide +kernel), List.mem_of_getElem? (i := 479) (by decide +kernel), List.mem_of_getElem? (i := 480) (by decide +kernel)⟩
theorem lw_p11 : lw_okq (⟨"DubDesk$LawBook", "overrules", "(IIII)Z"⟩, 6) := ⟨⟨by decide +kernel, by decide +kernel⟩, List.mem_of_getElem? (i := 31) (by decide +kernel), List.mem_of_getElem? (i := 518) (by decide +kernel), List.mem_of_getElem? (i := 519) (by decide +kernel)⟩
theorem lw_p12 : lw_okq (⟨"DubDesk$LawBook", "allowsWord", "(III)Z"⟩, 6) := ⟨⟨by decide +kernel, by decide +kernel⟩, List.mem_of_getElem? (i := 31) (by decide +kernel), List.mem_of_getElem? (i := 538) (by decide +kernel), List.mem_of_getElem? (i := 539) (by decide +kernel)⟩
theorem lw_p13 : lw_okq (⟨"DubDesk", "findBest", "(III)I"⟩, 13) := ⟨⟨by decide +kernel, by decide +kernel⟩, List.mem_of_getElem? (i := 17) (by decide +kernel), List.mem_of_getElem? (i := 548) (by decide +kernel), List.mem_of_getElem? (i := 549) (by decide +kernel)⟩
theorem lw_p14 : lw_okq (⟨"DubDesk", "worthOfFit", "(I)I"⟩, 13) := ⟨⟨by decide +kernel, by decide +kernel⟩, List.mem_of_getElem? (i := 17) (by decide +kernel), List.mem_of_getElem? (i := 552) (by decide +kernel), List.mem_of_getElem? (i := 553) (by decide +kernel)⟩
theorem lw_p15 : lw_okq (⟨"DubDesk$Planner", "prepare", "(LDubDesk$Crew;[LDubDesk$Line;)V"⟩, 11) := ⟨⟨by decide +kernel, by decide +kernel⟩, List.mem_of_getElem? (i := 89) (by decide +kernel), List.mem_of_getElem? (i := 592) (by decide +kernel), List.mem_of_getElem? (i := 593) (by decide +kernel)⟩
def lw_privs_1 : List (MethodName × Nat) := [(⟨"DubDesk", "finding", "(I)I"⟩, 13), (⟨"DubDesk", "remember", "(III)LDubDesk$Act;"⟩, 13), (⟨"DubDesk", "isLine", "(I)Z"⟩, 13), (⟨"DubDesk", "isWording", "(I)Z"⟩, 13), (⟨"DubDesk", "countWordings", "(I)I"⟩, 13), (⟨"DubDesk", "findFit", "(I)Z"⟩, 13), (⟨"DubDesk$Fit", "fillPauses", "(LDubDesk$Line;)V"⟩, 5), (⟨"DubDesk$Fit", "fillSyllable", "(LDubDesk$Wording;LDubDesk$Line;I)V"⟩, 5), (⟨"DubDesk$Fit", "leastFrom", "(LDubDesk$Wording;LDubDesk$Line;II)I"⟩, 5), (⟨"DubDesk$Fit", "trace", "(LDubDesk$Wording;LDubDesk$Line;)V"⟩, 5), (⟨"DubDesk$Fit", "shortestFrom", "(LDubDesk$Wording;LDubDesk$Line;II)I"⟩, 5), (⟨"DubDesk$LawBook", "overrules", "(IIII)Z"⟩, 6), (⟨"DubDesk$LawBook", "allowsWord", "(III)Z"⟩, 6), (⟨"DubDesk", "findBest", "(III)I"⟩, 13), (⟨"DubDesk", "worthOfFit", "(I)I"⟩, 13), (⟨"DubDesk$Planner", "prepare", "(LDubDesk$Crew;[LDubDesk$Line;)V"⟩, 11)]
theorem lw_r1 : ∀ q ∈ lw_privs_1, lw_okq q := List.forall_mem_cons.mpr ⟨lw_p0, List.forall_mem_cons.mpr ⟨lw_p1, List.forall_mem_cons.mpr ⟨lw_p2, List.forall_mem_cons.mpr ⟨lw_p3, List.forall_mem_cons.mpr ⟨lw_p4, List.forall_mem_cons.mpr ⟨lw_p5, List.forall_mem_cons.mpr ⟨lw_p6, List.forall_mem_cons.mpr ⟨lw_p7, List.forall_mem_cons.mpr ⟨lw_p8, List.forall_mem_cons.mpr ⟨lw_p9, List.forall_mem_cons.mpr ⟨lw_p10, List.forall_mem_cons.mpr ⟨lw_p11, List.forall_mem_cons.mpr ⟨lw_p12, List.forall_mem_cons.mpr ⟨lw_p13, List.forall_mem_cons.mpr ⟨lw_p14, List.forall_mem_cons.mpr ⟨lw_p15, fun _ h => absurd h List.not_mem_nil⟩⟩⟩⟩⟩⟩⟩⟩⟩⟩⟩⟩⟩⟩⟩⟩
theorem lw_p16 : lw_okq (⟨"DubDesk$Planner", "giveDays", "(II)V"⟩, 11) := ⟨⟨by decide +kernel, by decide +kernel⟩, List.mem_of_getElem? (i := 89) (by decide +kernel), List.mem_of_getElem? (i := 611) (by decide +kernel), List.mem_of_getElem? (i := 612) (by decide +kernel)⟩
theorem lw_p17 : lw_okq (⟨"DubDesk$Planner", "takePlan", "(I)V"⟩, 11) := ⟨⟨by decide +kernel, by decide +kernel⟩, List.mem_of_getElem? (i := 89) (by decide +kernel), List.mem_of_getElem? (i := 615) (by decide +kernel), List.mem_of_getElem? (i := 616) (by decide +kernel)⟩
theorem lw_p18 : lw_okq (⟨"DubDesk", "takeBackOfLines", "(LDubDesk$Act;)V"⟩, 13) := ⟨⟨by decide +kernel, by decide +kernel⟩, List.mem_of_getElem? (i := 17) (by decide +kernel), List.mem_of_getElem? (i := 693) (by decide +kernel), List.mem_of_getElem? (i := 694) (by decide +kernel)⟩
theorem lw_p19 : lw_okq (⟨"DubDesk", "takeBackOfOthers", "(LDubDesk$Act;)V"⟩, 13) := ⟨⟨by decide +kernel, by decide +kernel⟩, List.mem_of_getElem? (i := 17) (by decide +kernel), List.mem_of_getElem? (i := 702) (by decide +kernel), List.mem_of_getElem? (i := 703) (by decide +kernel)⟩
theorem lw_p20 : lw_okq (⟨"DubDeskModel", "finding", "(I)I"⟩, 21) := ⟨⟨by decide +kernel, by decide +kernel⟩, List.mem_of_getElem? (i := 710) (by decide +kernel), List.mem_of_getElem? (i := 786) (by decide +kernel), List.mem_of_getElem? (i := 787) (by decide +kernel)⟩
theorem lw_p21 : lw_okq (⟨"DubDeskModel", "keep", "()V"⟩, 21) := ⟨⟨by decide +kernel, by decide +kernel⟩, List.mem_of_getElem? (i := 710) (by decide +kernel), List.mem_of_getElem? (i := 799) (by decide +kernel), List.mem_of_getElem? (i := 800) (by decide +kernel)⟩
theorem lw_p22 : lw_okq (⟨"DubDeskModel", "isLine", "(I)Z"⟩, 21) := ⟨⟨by decide +kernel, by decide +kernel⟩, List.mem_of_getElem? (i := 710) (by decide +kernel), List.mem_of_getElem? (i := 807) (by decide +kernel), List.mem_of_getElem? (i := 808) (by decide +kernel)⟩
theorem lw_p23 : lw_okq (⟨"DubDeskModel", "isWording", "(I)Z"⟩, 21) := ⟨⟨by decide +kernel, by decide +kernel⟩, List.mem_of_getElem? (i := 710) (by decide +kernel), List.mem_of_getElem? (i := 821) (by decide +kernel), List.mem_of_getElem? (i := 822) (by decide +kernel)⟩
theorem lw_p24 : lw_okq (⟨"DubDeskModel", "shapeOf", "(II)I"⟩, 21) := ⟨⟨by decide +kernel, by decide +kernel⟩, List.mem_of_getElem? (i := 710) (by decide +kernel), List.mem_of_getElem? (i := 850) (by decide +kernel), List.mem_of_getElem? (i := 851) (by decide +kernel)⟩
theorem lw_p25 : lw_okq (⟨"DubDeskModel", "fit", "(I)I"⟩, 21) := ⟨⟨by decide +kernel, by decide +kernel⟩, List.mem_of_getElem? (i := 710) (by decide +kernel), List.mem_of_getElem? (i := 858) (by decide +kernel), List.mem_of_getElem? (i := 859) (by decide +kernel)⟩
theorem lw_p26 : lw_okq (⟨"DubDeskModel", "pauseOf", "(II)I"⟩, 21) := ⟨⟨by decide +kernel, by decide +kernel⟩, List.mem_of_getElem? (i := 710) (by decide +kernel), List.mem_of_getElem? (i := 862) (by decide +kernel), List.mem_of_getElem? (i := 863) (by decide +kernel)⟩
theorem lw_p27 : lw_okq (⟨"DubDeskModel", "leastAt", "(II)I"⟩, 21) := ⟨⟨by decide +kernel, by decide +kernel⟩, List.mem_of_getElem? (i := 710) (by decide +kernel), List.mem_of_getElem? (i := 866) (by decide +kernel), List.mem_of_getElem? (i := 867) (by decide +kernel)⟩
theorem lw_p28 : lw_okq (⟨"DubDeskModel", "leastOf", "(II)I"⟩, 21) := ⟨⟨by decide +kernel, by decide +kernel⟩, List.mem_of_getElem? (i := 710) (by decide +kernel), List.mem_of_getElem? (i := 871) (by decide +kernel), List.mem_of_getElem? (i := 872) (by decide +kernel)⟩
theorem lw_p29 : lw_okq (⟨"DubDeskModel", "syllableOf", "(II)I"⟩, 21) := ⟨⟨by decide +kernel, by decide +kernel⟩, List.mem_of_getElem? (i := 710) (by decide +kernel), List.mem_of_getElem? (i := 875) (by decide +kernel), List.mem_of_getElem? (i := 876) (by decide +kernel)⟩
theorem lw_p30 : lw_okq (⟨"DubDeskModel", "mostOf", "(II)I"⟩, 21) := ⟨⟨by decide +kernel, by decide +kernel⟩, List.mem_of_getElem? (i := 710) (by decide +kernel), List.mem_of_getElem? (i := 879) (by decide +kernel), List.mem_of_getElem? (i := 880) (by decide +kernel)⟩
theorem lw_p31 : lw_okq (⟨"DubDeskModel", "laid", "(IIII)I"⟩, 21) := ⟨⟨by decide +kernel, by decide +kernel⟩, List.mem_of_getElem? (i := 710) (by decide +kernel), List.mem_of_getElem? (i := 883) (by decide +kernel), List.mem_of_getElem? (i := 884) (by decide +kernel)⟩
def lw_privs_2 : List (MethodName × Nat) := [(⟨"DubDesk$Planner", "giveDays", "(II)V"⟩, 11), (⟨"DubDesk$Planner", "takePlan", "(I)V"⟩, 11), (⟨"DubDesk", "takeBackOfLines", "(LDubDesk$Act;)V"⟩, 13), (⟨"DubDesk", "takeBackOfOthers", "(LDubDesk$Act;)V"⟩, 13), (⟨"DubDeskModel", "finding", "(I)I"⟩, 21), (⟨"DubDeskModel", "keep", "()V"⟩, 21), (⟨"DubDeskModel", "isLine", "(I)Z"⟩, 21), (⟨"DubDeskModel", "isWording", "(I)Z"⟩, 21), (⟨"DubDeskModel", "shapeOf", "(II)I"⟩, 21), (⟨"DubDeskModel", "fit", "(I)I"⟩, 21), (⟨"DubDeskModel", "pauseOf", "(II)I"⟩, 21), (⟨"DubDeskModel", "leastAt", "(II)I"⟩, 21), (⟨"DubDeskModel", "leastOf", "(II)I"⟩, 21), (⟨"DubDeskModel", "syllableOf", "(II)I"⟩, 21), (⟨"DubDeskModel", "mostOf", "(II)I"⟩, 21), (⟨"DubDeskModel", "laid", "(IIII)I"⟩, 21)]
theorem lw_r2 : ∀ q ∈ lw_privs_2, lw_okq q := List.forall_mem_cons.mpr ⟨lw_p16, List.forall_mem_cons.mpr ⟨lw_p17, List.forall_mem_cons.mpr ⟨lw_p18, List.forall_mem_cons.mpr ⟨lw_p19, List.forall_mem_cons.mpr ⟨lw_p20, List.forall_mem_cons.mpr ⟨lw_p21, List.forall_mem_cons.mpr ⟨lw_p22, List.forall_mem_cons.mpr ⟨lw_p23, List.forall_mem_cons.mpr ⟨lw_p24, List.forall_mem_cons.mpr ⟨lw_p25, List.forall_mem_cons.mpr ⟨lw_p26, List.forall_mem_cons.mpr ⟨lw_p27, List.forall_mem_cons.mpr ⟨lw_p28, List.forall_mem_cons.mpr ⟨lw_p29, List.forall_mem_cons.mpr ⟨lw_p30, List.forall_mem_cons.mpr ⟨lw_p31, fun _ h => absurd h List.not_mem_nil⟩⟩⟩⟩⟩⟩⟩⟩⟩⟩⟩⟩⟩⟩⟩⟩
theorem lw_p32 : lw_okq (⟨"DubDeskModel", "offOf", "(III)I"⟩, 21) := ⟨⟨by decide +kernel, by decide +kernel⟩, List.mem_of_getElem? (i := 710) (by decide +kernel), List.mem_of_getElem? (i := 887) (by decide +kernel), List.mem_of_getElem? (i := 888) (by decide +kernel)⟩
theorem lw_p33 : lw_okq (⟨"DubDeskModel", "lengthAt", "(III)I"⟩, 21) := ⟨⟨by decide +kernel, by decide +kernel⟩, List.mem_of_getElem? (i := 710) (by decide +kernel), List.mem_of_getElem? (i := 892) (by decide +kernel), List.mem_of_getElem? (i := 893) (by decide +kernel)⟩
theorem lw_p34 : lw_okq (⟨"DubDeskModel", "isBarred", "(III)Z"⟩, 21) := ⟨⟨by decide +kernel, by decide +kernel⟩, List.mem_of_getElem? (i := 710) (by decide +kernel), List.mem_of_getElem? (i := 922) (by decide +kernel), List.mem_of_getElem? (i := 923) (by decide +kernel)⟩
theorem lw_p35 : lw_okq (⟨"DubDeskModel", "isOf", "(III)Z"⟩, 21) := ⟨⟨by decide +kernel, by decide +kernel⟩, List.mem_of_getElem? (i := 710) (by decide +kernel), List.mem_of_getElem? (i := 926) (by decide +kernel), List.mem_of_getElem? (i := 927) (by decide +kernel)⟩
theorem lw_p36 : lw_okq (⟨"DubDeskModel", "chosenOf", "(III)I"⟩, 21) := ⟨⟨by decide +kernel, by decide +kernel⟩, List.mem_of_getElem? (i := 710) (by decide +kernel), List.mem_of_getElem? (i := 934) (by decide +kernel), List.mem_of_getElem? (i := 935) (by decide +kernel)⟩
theorem lw_p37 : lw_okq (⟨"DubDeskModel", "isLawful", "(III)Z"⟩, 21) := ⟨⟨by decide +kernel, by decide +kernel⟩, List.mem_of_getElem? (i := 710) (by decide +kernel), List.mem_of_getElem? (i := 942) (by decide +kernel), List.mem_of_getElem? (i := 943) (by decide +kernel)⟩
theorem lw_p38 : lw_okq (⟨"DubDeskModel", "bestOf", "(III)I"⟩, 21) := ⟨⟨by decide +kernel, by decide +kernel⟩, List.mem_of_getElem? (i := 710) (by decide +kernel), List.mem_of_getElem? (i := 950) (by decide +kernel), List.mem_of_getElem? (i := 951) (by decide +kernel)⟩
theorem lw_p39 : lw_okq (⟨"DubDeskModel", "findPlan", "()V"⟩, 21) := ⟨⟨by decide +kernel, by decide +kernel⟩, List.mem_of_getElem? (i := 710) (by decide +kernel), List.mem_of_getElem? (i := 982) (by decide +kernel), List.mem_of_getElem? (i := 983) (by decide +kernel)⟩
theorem lw_p40 : lw_okq (⟨"DubDeskModel", "findLoops", "()V"⟩, 21) := ⟨⟨by decide +kernel, by decide +kernel⟩, List.mem_of_getElem? (i := 710) (by decide +kernel), List.mem_of_getElem? (i := 986) (by decide +kernel), List.mem_of_getElem? (i := 987) (by decide +kernel)⟩
theorem lw_p41 : lw_okq (⟨"DubDeskModel", "callsOf", "(I)I"⟩, 21) := ⟨⟨by decide +kernel, by decide +kernel⟩, List.mem_of_getElem? (i := 710) (by decide +kernel), List.mem_of_getElem? (i := 993) (by decide +kernel), List.mem_of_getElem? (i := 994) (by decide +kernel)⟩
theorem lw_p42 : lw_okq (⟨"DubDeskModel", "keptOf", "(JIJI)I"⟩, 21) := ⟨⟨by decide +kernel, by decide +kernel⟩, List.mem_of_getElem? (i := 710) (by decide +kernel), List.mem_of_getElem? (i := 1013) (by decide +kernel), List.mem_of_getElem? (i := 1014) (by decide +kernel)⟩
def lw_privs_3 : List (MethodName × Nat) := [(⟨"DubDeskModel", "offOf", "(III)I"⟩, 21), (⟨"DubDeskModel", "lengthAt", "(III)I"⟩, 21), (⟨"DubDeskModel", "isBarred", "(III)Z"⟩, 21), (⟨"DubDeskModel", "isOf", "(III)Z"⟩, 21), (⟨"DubDeskModel", "chosenOf", "(III)I"⟩, 21), (⟨"DubDeskModel", "isLawful", "(III)Z"⟩, 21), (⟨"DubDeskModel", "bestOf", "(III)I"⟩, 21), (⟨"DubDeskModel", "findPlan", "()V"⟩, 21), (⟨"DubDeskModel", "findLoops", "()V"⟩, 21), (⟨"DubDeskModel", "callsOf", "(I)I"⟩, 21), (⟨"DubDeskModel", "keptOf", "(JIJI)I"⟩, 21)]
theorem lw_r3 : ∀ q ∈ lw_privs_3, lw_okq q := List.forall_mem_cons.mpr ⟨lw_p32, List.forall_mem_cons.mpr ⟨lw_p33, List.forall_mem_cons.mpr ⟨lw_p34, List.forall_mem_cons.mpr ⟨lw_p35, List.forall_mem_cons.mpr ⟨lw_p36, List.forall_mem_cons.mpr ⟨lw_p37, List.forall_mem_cons.mpr ⟨lw_p38, List.forall_mem_cons.mpr ⟨lw_p39, List.forall_mem_cons.mpr ⟨lw_p40, List.forall_mem_cons.mpr ⟨lw_p41, List.forall_mem_cons.mpr ⟨lw_p42, fun _ h => absurd h List.not_mem_nil⟩⟩⟩⟩⟩⟩⟩⟩⟩⟩⟩
def lw_privs : List (MethodName × Nat) := lw_privs_1 ++ (lw_privs_2 ++ (lw_privs_3))
def lw_tbl : List Cond := k2_sels lw_privs ++ tables_1
theorem lw_privs_ok : ∀ q ∈ lw_privs, lw_okq q := by
  show ∀ q ∈ lw_privs_1 ++ (lw_privs_2 ++ (lw_privs_3)), lw_okq q
  exact List.forall_mem_append.mpr ⟨lw_r1, List.forall_mem_append.mpr ⟨lw_r2, lw_r3⟩⟩
end
section
def RX0 : String := "DubDesk$Act"
def TX0 : u_T := fun k => match k with
  | 0 => ("DubDesk$Act", "row", "[I", true)
  | 1 => ("DubDesk$Act", "rowSize", "I", false)
  | 2 => ("DubDesk$Act", "deed", "I", false)
  | 3 => ("DubDesk$Act", "which", "I", false)
  | _ => ("DubDesk$Act", "was", "I", false)
def tyX0 : Nat → FieldType := fun k => match k with
  | 0 => .array .int
  | 1 => .int
  | 2 => .int
  | 3 => .int
  | _ => .int
theorem nmX0 : ∀ a, a < 5 → ∀ b, b < 5 → a ≠ b → (TX0 a).2.1 ≠ (TX0 b).2.1 := by decide +kernel
theorem tyX0_ok : ∀ k, k < 5 → parseFieldDescriptor (TX0 k).2.2.1 = some (tyX0 k) := by decide +kernel
abbrev cX0_init : ByteArray := prog_2_method_1_code
def yX0_init : MethodName := ⟨RX0, "<init>", "()V"⟩
abbrev cX0_keepFrames : ByteArray := prog_2_method_2_code
def yX0_keepFrames : MethodName := ⟨RX0, "keepFrames", "(LDubDesk$Line;)V"⟩
abbrev cX0_keepSyllable : ByteArray := prog_2_method_3_code
def yX0_keepSyllable : MethodName := ⟨RX0, "keepSyllable", "(LDubDesk$Wording;)V"⟩
abbrev cX0_giveSyllableBack : ByteArray := prog_2_method_4_code
def yX0_giveSyllableBack : MethodName := ⟨RX0, "giveSyllableBack", "(LDubDesk$Wording;)V"⟩
def RX1 : String := "DubDesk$Crew"
def TX1 : u_T := fun k => match k with
  | 0 => ("DubDesk$Crew", "actorOf", "[I", true)
  | 1 => ("DubDesk$Crew", "freeDays", "[I", true)
  | 2 => ("DubDesk$Crew", "rooms", "[I", true)
  | 3 => ("DubDesk$Crew", "loops", "[I", true)
  | _ => ("DubDesk$Crew", "loopCount", "I", false)
def tyX1 : Nat → FieldType := fun k => match k with
  | 0 => .array .int
  | 1 => .array .int
  | 2 => .array .int
  | 3 => .array .int
  | _ => .int
theorem nmX1 : ∀ a, a < 5 → ∀ b, b < 5 → a ≠ b → (TX1 a).2.1 ≠ (TX1 b).2.1 := by decide +kernel
theorem tyX1_ok : ∀ k, k < 5 → parseFieldDescriptor (TX1 k).2.2.1 = some (tyX1 k) := by decide +kernel
abbrev cX1_init : ByteArray := prog_3_method_1_code
def yX1_init : MethodName := ⟨RX1, "<init>", "()V"⟩
abbrev cX1_appendLoop : ByteArray := prog_3_method_2_code
def yX1_appendLoop : MethodName := ⟨RX1, "appendLoop", "(I)V"⟩
abbrev cX1_actorsOfLoop : ByteArray := prog_3_method_3_code
def yX1_actorsOfLoop : MethodName := ⟨RX1, "actorsOfLoop", "(I[LDubDesk$Line;)I"⟩
abbrev cX1_daysOfActors : ByteArray := prog_3_method_4_code
def yX1_daysOfActors : MethodName := ⟨RX1, "daysOfActors", "(I)I"⟩
def RX2 : String := "DubDesk$Fit"
def TX2 : u_T := fun k => match k with
  | 0 => ("DubDesk$Fit", "rest", "[[I", true)
  | 1 => ("DubDesk$Fit", "begins", "[I", true)
  | 2 => ("DubDesk$Fit", "lengths", "[I", true)
  | 3 => ("DubDesk$Fit", "leastCost", "I", false)
  | _ => ("DubDesk$Fit", "syllableCount", "I", false)
def tyX2 : Nat → FieldType := fun k => match k with
  | 0 => .array (.array .int)
  | 1 => .array .int
  | 2 => .array .int
  | 3 => .int
  | _ => .int
theorem nmX2 : ∀ a, a < 5 → ∀ b, b < 5 → a ≠ b → (TX2 a).2.1 ≠ (TX2 b).2.1 := by decide +kernel
theorem tyX2_ok : ∀ k, k < 5 → parseFieldDescriptor (TX2 k).2.2.1 = some (tyX2 k) := by decide +kernel
abbrev cX2_init : ByteArray := prog_4_method_1_code
def yX2_init : MethodName := ⟨RX2, "<init>", "()V"⟩
abbrev cX2_seek : ByteArray := prog_4_method_2_code
def yX2_seek : MethodName := ⟨RX2, "seek", "(LDubDesk$Wording;LDubDesk$Line;)Z"⟩
abbrev cX2_syllableOn : ByteArray := prog_4_method_3_code
def yX2_syllableOn : MethodName := ⟨RX2, "syllableOn", "(I)I"⟩
abbrev cX2_pauseCost : ByteArray := prog_4_method_4_code
def yX2_pauseCost : MethodName := ⟨RX2, "pauseCost", "(I)I"⟩
abbrev cX2_fillPauses : ByteArray := prog_4_method_5_code
def yX2_fillPauses : MethodName := ⟨RX2, "fillPauses", "(LDubDesk$Line;)V"⟩
abbrev cX2_fillSyllable : ByteArray := prog_4_method_6_code
def yX2_fillSyllable : MethodName := ⟨RX2, "fillSyllable", "(LDubDesk$Wording;LDubDesk$Line;I)V"⟩
abbrev cX2_leastFrom : ByteArray := prog_4_method_7_code
def yX2_leastFrom : MethodName := ⟨RX2, "leastFrom", "(LDubDesk$Wording;LDubDesk$Line;II)I"⟩
abbrev cX2_trace : ByteArray := prog_4_method_8_code
def yX2_trace : MethodName := ⟨RX2, "trace", "(LDubDesk$Wording;LDubDesk$Line;)V"⟩
abbrev cX2_shortestFrom : ByteArray := prog_4_method_9_code
def yX2_shortestFrom : MethodName := ⟨RX2, "shortestFrom", "(LDubDesk$Wording;LDubDesk$Line;II)I"⟩
def RX3 : String := "DubDesk$History"
def TX3 : u_T := fun k => match k with
  | 0 => ("DubDesk$History", "acts", "[LDubDesk$Act;", true)
  | 1 => ("DubDesk$History", "next", "I", false)
  | _ => ("DubDesk$History", "count", "I", false)
def tyX3 : Nat → FieldType := fun k => match k with
  | 0 => .array (.object "DubDesk$Act")
  | 1 => .int
  | _ => .int
theorem nmX3 : ∀ a, a < 3 → ∀ b, b < 3 → a ≠ b → (TX3 a).2.1 ≠ (TX3 b).2.1 := by decide +kernel
theorem tyX3_ok : ∀ k, k < 3 → parseFieldDescriptor (TX3 k).2.2.1 = some (tyX3 k) := by decide +kernel
abbrev cX3_init : ByteArray := prog_5_method_1_code
def yX3_init : MethodName := ⟨RX3, "<init>", "()V"⟩
abbrev cX3_append : ByteArray := prog_5_method_2_code
def yX3_append : MethodName := ⟨RX3, "append", "(III)LDubDesk$Act;"⟩
abbrev cX3_takeLatest : ByteArray := prog_5_method_3_code
def yX3_takeLatest : MethodName := ⟨RX3, "takeLatest", "()LDubDesk$Act;"⟩
def RX4 : String := "DubDesk$LawBook"
def TX4 : u_T := fun k => match k with
  | 0 => ("DubDesk$LawBook", "names", "[I", true)
  | 1 => ("DubDesk$LawBook", "lands", "[I", true)
  | 2 => ("DubDesk$LawBook", "sorts", "[I", true)
  | 3 => ("DubDesk$LawBook", "words", "[I", true)
  | 4 => ("DubDesk$LawBook", "days", "[I", true)
  | _ => ("DubDesk$LawBook", "textCount", "I", false)
def tyX4 : Nat → FieldType := fun k => match k with
  | 0 => .array .int
  | 1 => .array .int
  | 2 => .array .int
  | 3 => .array .int
  | 4 => .array .int
  | _ => .int
theorem nmX4 : ∀ a, a < 6 → ∀ b, b < 6 → a ≠ b → (TX4 a).2.1 ≠ (TX4 b).2.1 := by decide +kernel
theorem tyX4_ok : ∀ k, k < 6 → parseFieldDescriptor (TX4 k).2.2.1 = some (tyX4 k) := by decide +kernel
abbrev cX4_init : ByteArray := prog_6_method_1_code
def yX4_init : MethodName := ⟨RX4, "<init>", "()V"⟩
abbrev cX4_append : ByteArray := prog_6_method_2_code
def yX4_append : MethodName := ⟨RX4, "append", "(IIII)V"⟩
abbrev cX4_isBarred : ByteArray := prog_6_method_3_code
def yX4_isBarred : MethodName := ⟨RX4, "isBarred", "(III)Z"⟩
abbrev cX4_choiceFor : ByteArray := prog_6_method_4_code
def yX4_choiceFor : MethodName := ⟨RX4, "choiceFor", "(III)I"⟩
abbrev cX4_allows : ByteArray := prog_6_method_5_code
def yX4_allows : MethodName := ⟨RX4, "allows", "(LDubDesk$Wording;II)Z"⟩
abbrev cX4_allowsWord : ByteArray := prog_6_method_6_code
def yX4_allowsWord : MethodName := ⟨RX4, "allowsWord", "(III)Z"⟩
abbrev cX4_overrules : ByteArray := prog_6_method_7_code
def yX4_overrules : MethodName := ⟨RX4, "overrules", "(IIII)Z"⟩
def RX5 : String := "DubDesk$Line"
def TX5 : u_T := fun k => match k with
  | 0 => ("DubDesk$Line", "shapes", "[I", true)
  | 1 => ("DubDesk$Line", "part", "I", false)
  | _ => ("DubDesk$Line", "frameCount", "I", false)
def tyX5 : Nat → FieldType := fun k => match k with
  | 0 => .array .int
  | 1 => .int
  | _ => .int
theorem nmX5 : ∀ a, a < 3 → ∀ b, b < 3 → a ≠ b → (TX5 a).2.1 ≠ (TX5 b).2.1 := by decide +kernel
theorem tyX5_ok : ∀ k, k < 3 → parseFieldDescriptor (TX5 k).2.2.1 = some (tyX5 k) := by decide +kernel
abbrev cX5_init : ByteArray := prog_7_method_1_code
def yX5_init : MethodName := ⟨RX5, "<init>", "()V"⟩
abbrev cX5_begin : ByteArray := prog_7_method_2_code
def yX5_begin : MethodName := ⟨RX5, "begin", "(I)V"⟩
abbrev cX5_takeFrames : ByteArray := prog_7_method_3_code
def yX5_takeFrames : MethodName := ⟨RX5, "takeFrames", "([II)V"⟩
def RX6 : String := "DubDesk$Match"
def TX6 : u_T := fun k => match k with
  | _ => ("DubDesk$Match", "most", "[I", true)
def tyX6 : Nat → FieldType := fun k => match k with
  | _ => .array .int
theorem nmX6 : ∀ a, a < 1 → ∀ b, b < 1 → a ≠ b → (TX6 a).2.1 ≠ (TX6 b).2.1 := by decide +kernel
theorem tyX6_ok : ∀ k, k < 1 → parseFieldDescriptor (TX6 k).2.2.1 = some (tyX6 k) := by decide +kernel
abbrev cX6_init : ByteArray := prog_8_method_1_code
def yX6_init : MethodName := ⟨RX6, "<init>", "()V"⟩
abbrev cX6_countKept : ByteArray := prog_8_method_2_code
def yX6_countKept : MethodName := ⟨RX6, "countKept", "([II[II)I"⟩
def RX7 : String := "DubDesk$Planner"
def TX7 : u_T := fun k => match k with
  | 0 => ("DubDesk$Planner", "actors", "[I", true)
  | 1 => ("DubDesk$Planner", "openDays", "[I", true)
  | 2 => ("DubDesk$Planner", "minutes", "[I", true)
  | 3 => ("DubDesk$Planner", "days", "[I", true)
  | 4 => ("DubDesk$Planner", "called", "[I", true)
  | 5 => ("DubDesk$Planner", "left", "[I", true)
  | 6 => ("DubDesk$Planner", "firstDays", "[I", true)
  | 7 => ("DubDesk$Planner", "fewestCalls", "I", false)
  | 8 => ("DubDesk$Planner", "planCount", "I", false)
  | 9 => ("DubDesk$Planner", "known", "Z", false)
  | _ => ("DubDesk$Planner", "loopCount", "I", false)
def tyX7 : Nat → FieldType := fun k => match k with
  | 0 => .array .int
  | 1 => .array .int
  | 2 => .array .int
  | 3 => .array .int
  | 4 => .array .int
  | 5 => .array .int
  | 6 => .array .int
  | 7 => .int
  | 8 => .int
  | 9 => .boolean
  | _ => .int
theorem nmX7 : ∀ a, a < 11 → ∀ b, b < 11 → a ≠ b → (TX7 a).2.1 ≠ (TX7 b).2.1 := by decide +kernel
theorem tyX7_ok : ∀ k, k < 11 → parseFieldDescriptor (TX7 k).2.2.1 = some (tyX7 k) := by decide +kernel
abbrev cX7_init : ByteArray := prog_9_method_1_code
def yX7_init : MethodName := ⟨RX7, "<init>", "()V"⟩
abbrev cX7_seekPlans : ByteArray := prog_9_method_2_code
def yX7_seekPlans : MethodName := ⟨RX7, "seekPlans", "(LDubDesk$Crew;[LDubDesk$Line;)V"⟩
abbrev cX7_prepare : ByteArray := prog_9_method_3_code
def yX7_prepare : MethodName := ⟨RX7, "prepare", "(LDubDesk$Crew;[LDubDesk$Line;)V"⟩
abbrev cX7_giveDays : ByteArray := prog_9_method_4_code
def yX7_giveDays : MethodName := ⟨RX7, "giveDays", "(II)V"⟩
abbrev cX7_takePlan : ByteArray := prog_9_method_5_code
def yX7_takePlan : MethodName := ⟨RX7, "takePlan", "(I)V"⟩
def RX8 : String := "DubDesk$Sheet"
def TX8 : u_T := fun k => match k with
  | 0 => ("DubDesk$Sheet", "numbers", "[I", true)
  | 1 => ("DubDesk$Sheet", "bits", "I", false)
  | _ => ("DubDesk$Sheet", "size", "I", false)
def tyX8 : Nat → FieldType := fun k => match k with
  | 0 => .array .int
  | 1 => .int
  | _ => .int
theorem nmX8 : ∀ a, a < 3 → ∀ b, b < 3 → a ≠ b → (TX8 a).2.1 ≠ (TX8 b).2.1 := by decide +kernel
theorem tyX8_ok : ∀ k, k < 3 → parseFieldDescriptor (TX8 k).2.2.1 = some (tyX8 k) := by decide +kernel
abbrev cX8_init : ByteArray := prog_10_method_1_code
def yX8_init : MethodName := ⟨RX8, "<init>", "()V"⟩
abbrev cX8_isMissing : ByteArray := prog_10_method_2_code
def yX8_isMissing : MethodName := ⟨RX8, "isMissing", "()Z"⟩
abbrev cX8_begin : ByteArray := prog_10_method_3_code
def yX8_begin : MethodName := ⟨RX8, "begin", "(II)V"⟩
abbrev cX8_write : ByteArray := prog_10_method_4_code
def yX8_write : MethodName := ⟨RX8, "write", "(II)V"⟩
abbrev cX8_hasStretch : ByteArray := prog_10_method_5_code
def yX8_hasStretch : MethodName := ⟨RX8, "hasStretch", "(II)Z"⟩
def RX9 : String := "DubDesk$Wording"
def TX9 : u_T := fun k => match k with
  | 0 => ("DubDesk$Wording", "shapes", "[I", true)
  | 1 => ("DubDesk$Wording", "leasts", "[I", true)
  | 2 => ("DubDesk$Wording", "mosts", "[I", true)
  | 3 => ("DubDesk$Wording", "words", "[I", true)
  | 4 => ("DubDesk$Wording", "line", "I", false)
  | 5 => ("DubDesk$Wording", "kind", "I", false)
  | 6 => ("DubDesk$Wording", "sense", "I", false)
  | _ => ("DubDesk$Wording", "syllableCount", "I", false)
def tyX9 : Nat → FieldType := fun k => match k with
  | 0 => .array .int
  | 1 => .array .int
  | 2 => .array .int
  | 3 => .array .int
  | 4 => .int
  | 5 => .int
  | 6 => .int
  | _ => .int
theorem nmX9 : ∀ a, a < 8 → ∀ b, b < 8 → a ≠ b → (TX9 a).2.1 ≠ (TX9 b).2.1 := by decide +kernel
theorem tyX9_ok : ∀ k, k < 8 → parseFieldDescriptor (TX9 k).2.2.1 = some (tyX9 k) := by decide +kernel
abbrev cX9_init : ByteArray := prog_11_method_1_code
def yX9_init : MethodName := ⟨RX9, "<init>", "()V"⟩
abbrev cX9_begin : ByteArray := prog_11_method_2_code
def yX9_begin : MethodName := ⟨RX9, "begin", "(III)V"⟩
abbrev cX9_append : ByteArray := prog_11_method_3_code
def yX9_append : MethodName := ⟨RX9, "append", "(IIII)V"⟩
abbrev cX9_isOfKind : ByteArray := prog_11_method_4_code
def yX9_isOfKind : MethodName := ⟨RX9, "isOfKind", "(I)Z"⟩
abbrev cX9_longest : ByteArray := prog_11_method_5_code
def yX9_longest : MethodName := ⟨RX9, "longest", "(I)I"⟩
abbrev cX9_costOver : ByteArray := prog_11_method_6_code
def yX9_costOver : MethodName := ⟨RX9, "costOver", "(II)I"⟩
def RX10 : String := "DubDesk"
def TX10 : u_T := fun k => match k with
  | 0 => ("DubDesk", "lines", "[LDubDesk$Line;", true)
  | 1 => ("DubDesk", "wordings", "[LDubDesk$Wording;", true)
  | 2 => ("DubDesk", "sheets", "[LDubDesk$Sheet;", true)
  | 3 => ("DubDesk", "laws", "LDubDesk$LawBook;", true)
  | 4 => ("DubDesk", "crew", "LDubDesk$Crew;", true)
  | 5 => ("DubDesk", "planner", "LDubDesk$Planner;", true)
  | 6 => ("DubDesk", "fit", "LDubDesk$Fit;", true)
  | 7 => ("DubDesk", "match", "LDubDesk$Match;", true)
  | 8 => ("DubDesk", "history", "LDubDesk$History;", true)
  | 9 => ("DubDesk", "newShapes", "[I", true)
  | 10 => ("DubDesk", "lineCount", "I", false)
  | 11 => ("DubDesk", "wordingCount", "I", false)
  | _ => ("DubDesk", "findings", "I", false)
def tyX10 : Nat → FieldType := fun k => match k with
  | 0 => .array (.object "DubDesk$Line")
  | 1 => .array (.object "DubDesk$Wording")
  | 2 => .array (.object "DubDesk$Sheet")
  | 3 => .object "DubDesk$LawBook"
  | 4 => .object "DubDesk$Crew"
  | 5 => .object "DubDesk$Planner"
  | 6 => .object "DubDesk$Fit"
  | 7 => .object "DubDesk$Match"
  | 8 => .object "DubDesk$History"
  | 9 => .array .int
  | 10 => .int
  | 11 => .int
  | _ => .int
theorem nmX10 : ∀ a, a < 13 → ∀ b, b < 13 → a ≠ b → (TX10 a).2.1 ≠ (TX10 b).2.1 := by decide +kernel
theorem tyX10_ok : ∀ k, k < 13 → parseFieldDescriptor (TX10 k).2.2.1 = some (tyX10 k) := by decide +kernel
abbrev cX10_init : ByteArray := prog_1_method_1_code
def yX10_init : MethodName := ⟨RX10, "<init>", "()V"⟩
abbrev cX10_line : ByteArray := prog_1_method_2_code
def yX10_line : MethodName := ⟨RX10, "line", "(I)I"⟩
abbrev cX10_frame : ByteArray := prog_1_method_3_code
def yX10_frame : MethodName := ⟨RX10, "frame", "(II)I"⟩
abbrev cX10_wording : ByteArray := prog_1_method_4_code
def yX10_wording : MethodName := ⟨RX10, "wording", "(III)I"⟩
abbrev cX10_as : ByteArray := prog_1_method_5_code
def yX10_as : MethodName := ⟨RX10, "as", "(II)I"⟩
abbrev cX10_syllable : ByteArray := prog_1_method_6_code
def yX10_syllable : MethodName := ⟨RX10, "syllable", "(IIIII)I"⟩
abbrev cX10_cut : ByteArray := prog_1_method_7_code
def yX10_cut : MethodName := ⟨RX10, "cut", "(I)I"⟩
abbrev cX10_of : ByteArray := prog_1_method_8_code
def yX10_of : MethodName := ⟨RX10, "of", "(II)I"⟩
abbrev cX10_told : ByteArray := prog_1_method_9_code
def yX10_told : MethodName := ⟨RX10, "told", "(II)I"⟩
abbrev cX10_shape : ByteArray := prog_1_method_10_code
def yX10_shape : MethodName := ⟨RX10, "shape", "(II)I"⟩
abbrev cX10_cost : ByteArray := prog_1_method_11_code
def yX10_cost : MethodName := ⟨RX10, "cost", "(I)I"⟩
abbrev cX10_place : ByteArray := prog_1_method_12_code
def yX10_place : MethodName := ⟨RX10, "place", "(IIZ)I"⟩
abbrev cX10_on : ByteArray := prog_1_method_13_code
def yX10_on : MethodName := ⟨RX10, "on", "(II)I"⟩
abbrev cX10_name : ByteArray := prog_1_method_14_code
def yX10_name : MethodName := ⟨RX10, "name", "(II)I"⟩
abbrev cX10_text : ByteArray := prog_1_method_15_code
def yX10_text : MethodName := ⟨RX10, "text", "(IIII)I"⟩
abbrev cX10_barred : ByteArray := prog_1_method_16_code
def yX10_barred : MethodName := ⟨RX10, "barred", "(III)I"⟩
abbrev cX10_chosen : ByteArray := prog_1_method_17_code
def yX10_chosen : MethodName := ⟨RX10, "chosen", "(III)I"⟩
abbrev cX10_lawful : ByteArray := prog_1_method_18_code
def yX10_lawful : MethodName := ⟨RX10, "lawful", "(III)I"⟩
abbrev cX10_best : ByteArray := prog_1_method_19_code
def yX10_best : MethodName := ⟨RX10, "best", "(III)I"⟩
abbrev cX10_worth : ByteArray := prog_1_method_20_code
def yX10_worth : MethodName := ⟨RX10, "worth", "(II)I"⟩
abbrev cX10_actor : ByteArray := prog_1_method_21_code
def yX10_actor : MethodName := ⟨RX10, "actor", "(II)I"⟩
abbrev cX10_free : ByteArray := prog_1_method_22_code
def yX10_free : MethodName := ⟨RX10, "free", "(II)I"⟩
abbrev cX10_room : ByteArray := prog_1_method_23_code
def yX10_room : MethodName := ⟨RX10, "room", "(II)I"⟩
abbrev cX10_loop : ByteArray := prog_1_method_24_code
def yX10_loop : MethodName := ⟨RX10, "loop", "(I)I"⟩
abbrev cX10_unloop : ByteArray := prog_1_method_25_code
def yX10_unloop : MethodName := ⟨RX10, "unloop", "()I"⟩
abbrev cX10_plan : ByteArray := prog_1_method_26_code
def yX10_plan : MethodName := ⟨RX10, "plan", "()I"⟩
abbrev cX10_planned : ByteArray := prog_1_method_27_code
def yX10_planned : MethodName := ⟨RX10, "planned", "(I)I"⟩
abbrev cX10_plans : ByteArray := prog_1_method_28_code
def yX10_plans : MethodName := ⟨RX10, "plans", "()I"⟩
abbrev cX10_change : ByteArray := prog_1_method_29_code
def yX10_change : MethodName := ⟨RX10, "change", "(II)I"⟩
abbrev cX10_kept : ByteArray := prog_1_method_30_code
def yX10_kept : MethodName := ⟨RX10, "kept", "(II)I"⟩
abbrev cX10_sheet : ByteArray := prog_1_method_31_code
def yX10_sheet : MethodName := ⟨RX10, "sheet", "(III)I"⟩
abbrev cX10_put : ByteArray := prog_1_method_32_code
def yX10_put : MethodName := ⟨RX10, "put", "(III)I"⟩
abbrev cX10_copy : ByteArray := prog_1_method_33_code
def yX10_copy : MethodName := ⟨RX10, "copy", "(IIIII)I"⟩
abbrev cX10_undo : ByteArray := prog_1_method_34_code
def yX10_undo : MethodName := ⟨RX10, "undo", "()I"⟩
abbrev cX10_all : ByteArray := prog_1_method_35_code
def yX10_all : MethodName := ⟨RX10, "all", "(I)I"⟩
abbrev cX10_finding : ByteArray := prog_1_method_36_code
def yX10_finding : MethodName := ⟨RX10, "finding", "(I)I"⟩
abbrev cX10_within : ByteArray := prog_1_method_37_code
def yX10_within : MethodName := ⟨RX10, "within", "(II)Z"⟩
abbrev cX10_isNoneOrWithin : ByteArray := prog_1_method_38_code
def yX10_isNoneOrWithin : MethodName := ⟨RX10, "isNoneOrWithin", "(II)Z"⟩
abbrev cX10_isLength : ByteArray := prog_1_method_39_code
def yX10_isLength : MethodName := ⟨RX10, "isLength", "(I)Z"⟩
abbrev cX10_isLine : ByteArray := prog_1_method_40_code
def yX10_isLine : MethodName := ⟨RX10, "isLine", "(I)Z"⟩
abbrev cX10_isWording : ByteArray := prog_1_method_41_code
def yX10_isWording : MethodName := ⟨RX10, "isWording", "(I)Z"⟩
abbrev cX10_remember : ByteArray := prog_1_method_42_code
def yX10_remember : MethodName := ⟨RX10, "remember", "(III)LDubDesk$Act;"⟩
abbrev cX10_countWordings : ByteArray := prog_1_method_43_code
def yX10_countWordings : MethodName := ⟨RX10, "countWordings", "(I)I"⟩
abbrev cX10_findFit : ByteArray := prog_1_method_44_code
def yX10_findFit : MethodName := ⟨RX10, "findFit", "(I)Z"⟩
abbrev cX10_worthOfFit : ByteArray := prog_1_method_45_code
def yX10_worthOfFit : MethodName := ⟨RX10, "worthOfFit", "(I)I"⟩
abbrev cX10_findBest : ByteArray := prog_1_method_46_code
def yX10_findBest : MethodName := ⟨RX10, "findBest", "(III)I"⟩
abbrev cX10_takeBackOfLines : ByteArray := prog_1_method_47_code
def yX10_takeBackOfLines : MethodName := ⟨RX10, "takeBackOfLines", "(LDubDesk$Act;)V"⟩
abbrev cX10_takeBackOfOthers : ByteArray := prog_1_method_48_code
def yX10_takeBackOfOthers : MethodName := ⟨RX10, "takeBackOfOthers", "(LDubDesk$Act;)V"⟩
def RX11 : String := "DubDeskModel"
def TX11 : u_T := fun k => match k with
  | 0 => ("DubDeskModel", "now", "[I", true)
  | 1 => ("DubDeskModel", "shapes", "[J", true)
  | 2 => ("DubDeskModel", "past", "[I", true)
  | 3 => ("DubDeskModel", "pastShapes", "[J", true)
  | 4 => ("DubDeskModel", "kept", "I", false)
  | 5 => ("DubDeskModel", "findings", "I", false)
  | 6 => ("DubDeskModel", "bits", "[I", true)
  | 7 => ("DubDeskModel", "sizes", "[I", true)
  | 8 => ("DubDeskModel", "sheets", "[I", true)
  | 9 => ("DubDeskModel", "least", "[I", true)
  | 10 => ("DubDeskModel", "begins", "[I", true)
  | 11 => ("DubDeskModel", "lies", "[I", true)
  | 12 => ("DubDeskModel", "bestWorth", "I", false)
  | 13 => ("DubDeskModel", "needs", "[I", true)
  | 14 => ("DubDeskModel", "may", "[I", true)
  | 15 => ("DubDeskModel", "takes", "[I", true)
  | 16 => ("DubDeskModel", "fewest", "I", false)
  | 17 => ("DubDeskModel", "plans", "I", false)
  | 18 => ("DubDeskModel", "firstPlan", "I", false)
  | 19 => ("DubDeskModel", "common", "[I", true)
  | _ => ("DubDeskModel", "carried", "[I", true)
def tyX11 : Nat → FieldType := fun k => match k with
  | 0 => .array .int
  | 1 => .array .long
  | 2 => .array .int
  | 3 => .array .long
  | 4 => .int
  | 5 => .int
  | 6 => .array .int
  | 7 => .array .int
  | 8 => .array .int
  | 9 => .array .int
  | 10 => .array .int
  | 11 => .array .int
  | 12 => .int
  | 13 => .array .int
  | 14 => .array .int
  | 15 => .array .int
  | 16 => .int
  | 17 => .int
  | 18 => .int
  | 19 => .array .int
  | _ => .array .int
theorem nmX11 : ∀ a, a < 21 → ∀ b, b < 21 → a ≠ b → (TX11 a).2.1 ≠ (TX11 b).2.1 := by decide +kernel
theorem tyX11_ok : ∀ k, k < 21 → parseFieldDescriptor (TX11 k).2.2.1 = some (tyX11 k) := by decide +kernel
abbrev cX11_init : ByteArray := prog_13_method_1_code
def yX11_init : MethodName := ⟨RX11, "<init>", "()V"⟩
abbrev cX11_finding : ByteArray := prog_13_method_2_code
def yX11_finding : MethodName := ⟨RX11, "finding", "(I)I"⟩
abbrev cX11_within : ByteArray := prog_13_method_3_code
def yX11_within : MethodName := ⟨RX11, "within", "(III)Z"⟩
abbrev cX11_isLine : ByteArray := prog_13_method_4_code
def yX11_isLine : MethodName := ⟨RX11, "isLine", "(I)Z"⟩
abbrev cX11_isWording : ByteArray := prog_13_method_5_code
def yX11_isWording : MethodName := ⟨RX11, "isWording", "(I)Z"⟩
abbrev cX11_isLand : ByteArray := prog_13_method_6_code
def yX11_isLand : MethodName := ⟨RX11, "isLand", "(I)Z"⟩
abbrev cX11_isDay : ByteArray := prog_13_method_7_code
def yX11_isDay : MethodName := ⟨RX11, "isDay", "(I)Z"⟩
abbrev cX11_isWord : ByteArray := prog_13_method_8_code
def yX11_isWord : MethodName := ⟨RX11, "isWord", "(I)Z"⟩
abbrev cX11_keep : ByteArray := prog_13_method_9_code
def yX11_keep : MethodName := ⟨RX11, "keep", "()V"⟩
abbrev cX11_undo : ByteArray := prog_13_method_10_code
def yX11_undo : MethodName := ⟨RX11, "undo", "()I"⟩
abbrev cX11_line : ByteArray := prog_13_method_11_code
def yX11_line : MethodName := ⟨RX11, "line", "(I)I"⟩
abbrev cX11_frame : ByteArray := prog_13_method_12_code
def yX11_frame : MethodName := ⟨RX11, "frame", "(II)I"⟩
abbrev cX11_wording : ByteArray := prog_13_method_13_code
def yX11_wording : MethodName := ⟨RX11, "wording", "(III)I"⟩
abbrev cX11_as : ByteArray := prog_13_method_14_code
def yX11_as : MethodName := ⟨RX11, "as", "(II)I"⟩
abbrev cX11_syllable : ByteArray := prog_13_method_15_code
def yX11_syllable : MethodName := ⟨RX11, "syllable", "(IIIII)I"⟩
abbrev cX11_cut : ByteArray := prog_13_method_16_code
def yX11_cut : MethodName := ⟨RX11, "cut", "(I)I"⟩
abbrev cX11_of : ByteArray := prog_13_method_17_code
def yX11_of : MethodName := ⟨RX11, "of", "(II)I"⟩
abbrev cX11_told : ByteArray := prog_13_method_18_code
def yX11_told : MethodName := ⟨RX11, "told", "(II)I"⟩
abbrev cX11_shapeOf : ByteArray := prog_13_method_19_code
def yX11_shapeOf : MethodName := ⟨RX11, "shapeOf", "(II)I"⟩
abbrev cX11_shape : ByteArray := prog_13_method_20_code
def yX11_shape : MethodName := ⟨RX11, "shape", "(II)I"⟩
abbrev cX11_syllableOf : ByteArray := prog_13_method_21_code
def yX11_syllableOf : MethodName := ⟨RX11, "syllableOf", "(II)I"⟩
abbrev cX11_leastOf : ByteArray := prog_13_method_22_code
def yX11_leastOf : MethodName := ⟨RX11, "leastOf", "(II)I"⟩
abbrev cX11_mostOf : ByteArray := prog_13_method_23_code
def yX11_mostOf : MethodName := ⟨RX11, "mostOf", "(II)I"⟩
abbrev cX11_offOf : ByteArray := prog_13_method_24_code
def yX11_offOf : MethodName := ⟨RX11, "offOf", "(III)I"⟩
abbrev cX11_pauseOf : ByteArray := prog_13_method_25_code
def yX11_pauseOf : MethodName := ⟨RX11, "pauseOf", "(II)I"⟩
abbrev cX11_leastAt : ByteArray := prog_13_method_26_code
def yX11_leastAt : MethodName := ⟨RX11, "leastAt", "(II)I"⟩
abbrev cX11_laid : ByteArray := prog_13_method_27_code
def yX11_laid : MethodName := ⟨RX11, "laid", "(IIII)I"⟩
abbrev cX11_fit : ByteArray := prog_13_method_28_code
def yX11_fit : MethodName := ⟨RX11, "fit", "(I)I"⟩
abbrev cX11_lengthAt : ByteArray := prog_13_method_29_code
def yX11_lengthAt : MethodName := ⟨RX11, "lengthAt", "(III)I"⟩
abbrev cX11_cost : ByteArray := prog_13_method_30_code
def yX11_cost : MethodName := ⟨RX11, "cost", "(I)I"⟩
abbrev cX11_place : ByteArray := prog_13_method_31_code
def yX11_place : MethodName := ⟨RX11, "place", "(IIZ)I"⟩
abbrev cX11_on : ByteArray := prog_13_method_32_code
def yX11_on : MethodName := ⟨RX11, "on", "(II)I"⟩
abbrev cX11_name : ByteArray := prog_13_method_33_code
def yX11_name : MethodName := ⟨RX11, "name", "(II)I"⟩
abbrev cX11_text : ByteArray := prog_13_method_34_code
def yX11_text : MethodName := ⟨RX11, "text", "(IIII)I"⟩
abbrev cX11_isOf : ByteArray := prog_13_method_35_code
def yX11_isOf : MethodName := ⟨RX11, "isOf", "(III)Z"⟩
abbrev cX11_isBarred : ByteArray := prog_13_method_36_code
def yX11_isBarred : MethodName := ⟨RX11, "isBarred", "(III)Z"⟩
abbrev cX11_chosenOf : ByteArray := prog_13_method_37_code
def yX11_chosenOf : MethodName := ⟨RX11, "chosenOf", "(III)I"⟩
abbrev cX11_barred : ByteArray := prog_13_method_38_code
def yX11_barred : MethodName := ⟨RX11, "barred", "(III)I"⟩
abbrev cX11_chosen : ByteArray := prog_13_method_39_code
def yX11_chosen : MethodName := ⟨RX11, "chosen", "(III)I"⟩
abbrev cX11_isLawful : ByteArray := prog_13_method_40_code
def yX11_isLawful : MethodName := ⟨RX11, "isLawful", "(III)Z"⟩
abbrev cX11_lawful : ByteArray := prog_13_method_41_code
def yX11_lawful : MethodName := ⟨RX11, "lawful", "(III)I"⟩
abbrev cX11_bestOf : ByteArray := prog_13_method_42_code
def yX11_bestOf : MethodName := ⟨RX11, "bestOf", "(III)I"⟩
abbrev cX11_best : ByteArray := prog_13_method_43_code
def yX11_best : MethodName := ⟨RX11, "best", "(III)I"⟩
abbrev cX11_worth : ByteArray := prog_13_method_44_code
def yX11_worth : MethodName := ⟨RX11, "worth", "(II)I"⟩
abbrev cX11_actor : ByteArray := prog_13_method_45_code
def yX11_actor : MethodName := ⟨RX11, "actor", "(II)I"⟩
abbrev cX11_free : ByteArray := prog_13_method_46_code
def yX11_free : MethodName := ⟨RX11, "free", "(II)I"⟩
abbrev cX11_room : ByteArray := prog_13_method_47_code
def yX11_room : MethodName := ⟨RX11, "room", "(II)I"⟩
abbrev cX11_loop : ByteArray := prog_13_method_48_code
def yX11_loop : MethodName := ⟨RX11, "loop", "(I)I"⟩
abbrev cX11_unloop : ByteArray := prog_13_method_49_code
def yX11_unloop : MethodName := ⟨RX11, "unloop", "()I"⟩
abbrev cX11_many : ByteArray := prog_13_method_50_code
def yX11_many : MethodName := ⟨RX11, "many", "(I)I"⟩
abbrev cX11_findLoops : ByteArray := prog_13_method_51_code
def yX11_findLoops : MethodName := ⟨RX11, "findLoops", "()V"⟩
abbrev cX11_callsOf : ByteArray := prog_13_method_52_code
def yX11_callsOf : MethodName := ⟨RX11, "callsOf", "(I)I"⟩
abbrev cX11_findPlan : ByteArray := prog_13_method_53_code
def yX11_findPlan : MethodName := ⟨RX11, "findPlan", "()V"⟩
abbrev cX11_plan : ByteArray := prog_13_method_54_code
def yX11_plan : MethodName := ⟨RX11, "plan", "()I"⟩
abbrev cX11_planned : ByteArray := prog_13_method_55_code
def yX11_planned : MethodName := ⟨RX11, "planned", "(I)I"⟩
abbrev cX11_plans : ByteArray := prog_13_method_56_code
def yX11_plans : MethodName := ⟨RX11, "plans", "()I"⟩
abbrev cX11_shapeIn : ByteArray := prog_13_method_57_code
def yX11_shapeIn : MethodName := ⟨RX11, "shapeIn", "(JI)I"⟩
abbrev cX11_keptOf : ByteArray := prog_13_method_58_code
def yX11_keptOf : MethodName := ⟨RX11, "keptOf", "(JIJI)I"⟩
abbrev cX11_change : ByteArray := prog_13_method_59_code
def yX11_change : MethodName := ⟨RX11, "change", "(II)I"⟩
abbrev cX11_kept : ByteArray := prog_13_method_60_code
def yX11_kept : MethodName := ⟨RX11, "kept", "(II)I"⟩
abbrev cX11_isSheet : ByteArray := prog_13_method_61_code
def yX11_isSheet : MethodName := ⟨RX11, "isSheet", "(I)Z"⟩
abbrev cX11_sheet : ByteArray := prog_13_method_62_code
def yX11_sheet : MethodName := ⟨RX11, "sheet", "(III)I"⟩
abbrev cX11_put : ByteArray := prog_13_method_63_code
def yX11_put : MethodName := ⟨RX11, "put", "(III)I"⟩
abbrev cX11_copy : ByteArray := prog_13_method_64_code
def yX11_copy : MethodName := ⟨RX11, "copy", "(IIIII)I"⟩
abbrev cX11_all : ByteArray := prog_13_method_65_code
def yX11_all : MethodName := ⟨RX11, "all", "(I)I"⟩
def RJ6 : String := "java/lang/Integer"
def TJ6 : u_T := fun k => match k with
  | _ => ("", "", "", false)
def tyJ6 : Nat → FieldType := fun k => match k with
  | _ => .int
theorem nmJ6 : ∀ a, a < 0 → ∀ b, b < 0 → a ≠ b → (TJ6 a).2.1 ≠ (TJ6 b).2.1 := by decide +kernel
theorem tyJ6_ok : ∀ k, k < 0 → parseFieldDescriptor (TJ6 k).2.2.1 = some (tyJ6 k) := by decide +kernel
abbrev cJ6_bitCount_0f7a4 : ByteArray := prog_14_method_49_code
def yJ6_bitCount_0f7a4 : MethodName := ⟨RJ6, "bitCount", "(I)I"⟩
def RJ9 : String := "java/lang/Math"
def TJ9 : u_T := fun k => match k with
  | _ => ("", "", "", false)
def tyJ9 : Nat → FieldType := fun k => match k with
  | _ => .int
theorem nmJ9 : ∀ a, a < 0 → ∀ b, b < 0 → a ≠ b → (TJ9 a).2.1 ≠ (TJ9 b).2.1 := by decide +kernel
theorem tyJ9_ok : ∀ k, k < 0 → parseFieldDescriptor (TJ9 k).2.2.1 = some (tyJ9 k) := by decide +kernel
abbrev cJ9_max_7cf53 : ByteArray := prog_15_method_65_code
def yJ9_max_7cf53 : MethodName := ⟨RJ9, "max", "(II)I"⟩
abbrev cJ9_min_7cf53 : ByteArray := prog_15_method_69_code
def yJ9_min_7cf53 : MethodName := ⟨RJ9, "min", "(II)I"⟩
def RJ10 : String := "java/lang/System"
def TJ10 : u_T := fun k => match k with
  | _ => ("", "", "", false)
def tyJ10 : Nat → FieldType := fun k => match k with
  | _ => .int
theorem nmJ10 : ∀ a, a < 0 → ∀ b, b < 0 → a ≠ b → (TJ10 a).2.1 ≠ (TJ10 b).2.1 := by decide +kernel
theorem tyJ10_ok : ∀ k, k < 0 → parseFieldDescriptor (TJ10 k).2.2.1 = some (tyJ10 k) := by decide +kernel
def RL : String := "DubDeskLaw"
abbrev cL_law : ByteArray := code
def yL_law : MethodName := ⟨RL, "law", "([I)Z"⟩
end
section
/-! a layer over the kit: states of whole numbers, references by kind and number, one world a block -/
abbrev qSt : Type := Nat → Int → Int → Int
abbrev qV : Type := Int ⊕ (Int ⊕ (Nat × Int))
abbrev qi (z : Int) : qV := Sum.inl z
abbrev ql (z : Int) : qV := Sum.inr (Sum.inl z)
abbrev qr (k : Nat) (i : Int) : qV := Sum.inr (Sum.inr (k, i))
/-- the shape of a kind: an object (class, its slots: none a number, some k a reference to the one of kind k with the same number), or an array (length; 0 ints, 1 longs, else references; kind of its targets) -/
abbrev qShp : Type := (Nat × List (Option Nat)) ⊕ (Nat × Nat × Nat)
/-- cells, kind and number of a cell, cell of a kind and number, how many of a kind, shape of a kind -/
abbrev qT : Type := Nat × (Nat → Nat × Nat) × (Nat → Nat → Nat) × (Nat → Nat) × (Nat → qShp)
abbrev qE : Type := qT × Nat × Nat × va_G × (Nat → ClassId)
def qN (T : qT) : Nat := T.1
def qkd (T : qT) : Nat → Nat × Nat := T.2.1
def qad (T : qT) : Nat → Nat → Nat := T.2.2.1
def qcn (T : qT) : Nat → Nat := T.2.2.2.1
def qsh (T : qT) : Nat → qShp := T.2.2.2.2
def eT (E : qE) : qT := E.1
def eo (E : qE) : Nat := E.2.1
def eu (E : qE) : Nat := E.2.2.1
def eD (E : qE) : va_G := E.2.2.2.1
def eca (E : qE) : Nat → ClassId := E.2.2.2.2
def eA (E : qE) : Nat → Prop := fun q => eo E ≤ q ∧ q < eo E + qN (eT E)
def clz : List vw_C := [(RX0, TX0, 5), (RX1, TX1, 5), (RX2, TX2, 5), (RX3, TX3, 3), (RX4, TX4, 6), (RX5, TX5, 3), (RX6, TX6, 1), (RX7, TX7, 11), (RX8, TX8, 3), (RX9, TX9, 8), (RX10, TX10, 13), (RX11, TX11, 21)]
def qTys (ca : Nat → ClassId) : List (ClassId × FieldType) := [(ca 0, .int), (ca 1, .long), (ca 2, .object RX5), (ca 3, .object RX9), (ca 4, .object RX8), (ca 5, .object RX0), (ca 6, .array .int)]
def qUp (σ : qSt) (k : Nat) (i j z : Int) : qSt := fun a b c => if a = k ∧ b = i ∧ c = j then z else σ a b c
def qv (E : qE) : qV → Value
  | .inl z => .int (Int32.ofInt z)
  | .inr (.inl z) => .long (Int64.ofInt z)
  | .inr (.inr (k, i)) => if k = 99 then .ref (eu E) else .ref (eo E + qad (eT E) k i.toNat)
def qFld (E : qE) (f : Int → Int) (i : Nat) : List (Option Nat) → Nat → List Value
  | [], _ => []
  | none :: r, j => .int (Int32.ofInt (f j)) :: qFld E f i r (j + 1)
  | some t :: r, j => .ref (eo E + qad (eT E) t i) :: qFld E f i r (j + 1)
def qCellS (E : qE) (f : Int → Int) (i : Nat) : qShp → va_E
  | .inl (ci, fl) => .inr (ci, qFld E f i fl 0)
  | .inr (n, 0, _) => .inl (eca E 0, n, .inl fun j => Int32.ofInt (f j))
  | .inr (n, 1, _) => .inl (eca E 1, n, .inr (.inl fun j => Int64.ofInt (f j)))
  | .inr (n, ek + 2, tk) => .inl (eca E (ek + 2), n, .inr (.inr (.inr (.inr fun j => some (eo E + qad (eT E) tk j)))))
def qCell (E : qE) (σ : qSt) (k i : Nat) : va_E := qCellS E (σ k i) i (qsh (eT E) k)
def qBlk (E : qE) (σ : qSt) : va_W := (List.range (qN (eT E))).map fun q => (eo E + q, qCell E σ (qkd (eT E) q).1 (qkd (eT E) q).2)
def qTok (T : qT) : Prop := qcn T 99 = 0 ∧ (∀ k i, i < qcn T k → qad T k i < qN T ∧ qkd T (qad T k i) = (k, i)) ∧ ∀ q, q < qN T → qad T (qkd T q).1 (qkd T q).2 = q
def qUnd : Nat → Value := fun j => match j with
  | 0 => .int (-1)
  | 1 => .int 0
  | 2 => .int 0
  | _ => .int 1
def qWok (E : qE) (U : State) (H : Heap) : Prop := va_K (eD E) clz (qTys (eca E)) U ∧ va_Z RX10 "UNDER" "[I" (.ref (eu E)) (eA E) U H ∧ va_T .int (eu E) 4 qUnd (eA E) U H
/-! cells and blocks -/
theorem qUp_eq (σ : qSt) (k : Nat) (i j z : Int) : qUp σ k i j z k i j = z := by simp [qUp]
theorem qUp_ne {σ : qSt} {k a : Nat} {i j z b c : Int} (h : ¬ (a = k ∧ b = i ∧ c = j)) : qUp σ k i j z a b c = σ a b c := by simp [qUp, h]
theorem qFld_len (E : qE) (f : Int → Int) (i : Nat) : ∀ (fl : List (Option Nat)) (j : Nat), (qFld E f i fl j).length = fl.length
  | [], _ => rfl
  | none :: r, j => by simp [qFld, qFld_len E f i r]
  | some t :: r, j => by simp [qFld, qFld_len E f i r]
theorem qFld_i (E : qE) (f : Int → Int) (i : Nat) : ∀ (fl : List (Option Nat)) (b j : Nat), fl[j]? = some none → (qFld E f i fl b)[j]? = some (.int (Int32.ofInt (f ((b + j : Nat) : Int))))
  | [], _, _, h => by simp at h
  | none :: r, b, 0, h => by simp [qFld]
  | some t :: r, b, 0, h => by simp at h
  | none :: r, b, j + 1, h => by
    have := qFld_i E f i r (b + 1) j (by simpa using h)
    simp only [qFld, List.getElem?_cons_succ, this]
    congr 4
    omega
  | some t :: r, b, j + 1, h => by
    have := qFld_i E f i r (b + 1) j (by simpa using h)
    simp only [qFld, List.getElem?_cons_succ, this]
    congr 4
    omega
theorem qFld_r (E : qE) (f : Int → Int) (i : Nat) {t : Nat} : ∀ (fl : List (Option Nat)) (b j : Nat), fl[j]? = some (some t) → (qFld E f i fl b)[j]? = some (.ref (eo E + qad (eT E) t i))
  | [], _, _, h => by simp at h
  | none :: r, b, 0, h => by simp at h
  | some t' :: r, b, 0, h => by
    simp at h
    subst h
    simp [qFld]
  | none :: r, b, j + 1, h => by
    simp only [qFld, List.getElem?_cons_succ]
    exact qFld_r E f i r (b + 1) j (by simpa using h)
  | some t' :: r, b, j + 1, h => by
    simp only [qFld, List.getElem?_cons_succ]
    exact qFld_r E f i r (b + 1) j (by simpa using h)
theorem qFld_set (E : qE) (f g : Int → Int) (i : Nat) (z : Int) (x : Nat) (hx : g x = z) (hg : ∀ c, c ≠ (x : Int) → g c = f c) : ∀ (fl : List (Option Nat)) (b j : Nat), b + j = x → fl[j]? = some none → (qFld E f i fl b).set j (.int (Int32.ofInt z)) = qFld E g i fl b
  | [], _, _, _, h => by simp at h
  | none :: r, b, 0, e, h => by
    have hr : ∀ (r : List (Option Nat)) (b : Nat), x < b → qFld E f i r b = qFld E g i r b := by
      intro r
      induction r with
      | nil => intro b _; rfl
      | cons a r ih =>
        intro b hb
        cases a with
        | none => simp only [qFld]; rw [ih (b + 1) (by omega), hg b (by omega)]
        | some t => simp only [qFld]; rw [ih (b + 1) (by omega)]
    simp only [qFld, List.set_cons_zero]
    rw [hr r (b + 1) (by omega), show ((b : Nat) : Int) = (x : Int) by omega, hx]
  | some t :: r, b, 0, _, h => by simp at h
  | none :: r, b, j + 1, e, h => by
    simp only [qFld, List.set_cons_succ]
    rw [qFld_set E f g i z x hx hg r (b + 1) j (by omega) (by simpa using h), hg b (by omega)]
  | some t :: r, b, j + 1, e, h => by
    simp only [qFld, List.set_cons_succ]
    rw [qFld_set E f g i z x hx hg r (b + 1) j (by omega) (by simpa using h)]
theorem qBlk_get {E : qE} {σ : qSt} (hT : qTok (eT E)) {k i : Nat} (hi : i < qcn (eT E) k) : (qBlk E σ)[qad (eT E) k i]? = some (eo E + qad (eT E) k i, qCell E σ k i) := by
  obtain ⟨h1, h2⟩ := hT.2.1 k i hi
  simp [qBlk, List.getElem?_range h1, h2]
theorem qBlk_set {E : qE} {σ σ' : qSt} (hT : qTok (eT E)) {k i : Nat} (hi : i < qcn (eT E) k) (ho : ∀ (a b : Nat), ¬ (a = k ∧ b = i) → ∀ c, σ' a b c = σ a b c) : (qBlk E σ).set (qad (eT E) k i) (eo E + qad (eT E) k i, qCell E σ' k i) = qBlk E σ' := by
  obtain ⟨h1, h2⟩ := hT.2.1 k i hi
  apply List.ext_getElem?
  intro q
  by_cases hq : q = qad (eT E) k i
  · subst hq
    rw [List.getElem?_set_self (by simp [qBlk]; exact h1), qBlk_get hT hi]
  · rw [List.getElem?_set_ne (fun h => hq h.symm)]
    by_cases hl : q < qN (eT E)
    · simp only [qBlk, List.getElem?_map, List.getElem?_range hl, Option.map_some]
      congr 2
      unfold qCell
      congr 1
      funext c
      refine (ho _ _ ?_ c).symm
      rintro ⟨e1, e2⟩
      have := hT.2.2 q hl
      rw [e1, e2] at this
      exact hq this.symm
    · rw [List.getElem?_eq_none (by simp [qBlk]; omega), List.getElem?_eq_none (by simp [qBlk]; omega)]
theorem qBlk_D (E : qE) (σ : qSt) : va_D (eA E) (qBlk E σ) := by
  have key : ∀ (k : Nat) (x : Nat × va_E), (qBlk E σ)[k]? = some x → k < qN (eT E) ∧ x.1 = eo E + k := by
    intro k x hx
    have hl : k < qN (eT E) := by
      have := (List.getElem?_eq_some_iff.mp hx).1
      simpa [qBlk] using this
    simp only [qBlk, List.getElem?_map, List.getElem?_range hl, Option.map_some] at hx
    cases hx
    exact ⟨hl, rfl⟩
  refine ⟨fun i j p q hi hj e => ?_, fun k q hk => ?_⟩
  · have a := key i p hi
    have b := key j q hj
    omega
  · have a := key k q hk
    exact ⟨by omega, by omega⟩
theorem qWok.moved {E : qE} {u U : State} {H : Heap} (hvm : u.vm.Alike U.vm) (h : qWok E u H) : qWok E U H := ⟨va_K.moved hvm h.1, va_Z.moved hvm h.2.1, va_T.moved hvm h.2.2⟩
theorem qWok.kept {E : qE} {U : State} {H H1 : Heap} (h : qWok E U H) (hq : ∀ a : Nat, a < H.size → ¬ eA E a → H1[a]? = H[a]?) : qWok E U H1 := ⟨h.1, va_Z.kept h.2.1 hq, va_T.kept h.2.2 hq⟩
/-! locals -/
def qAs (E : qE) : List (Option qV) → Nat → List (Nat × Value)
  | [], _ => []
  | none :: r, i => qAs E r (i + 1)
  | some v :: r, i => (i, qv E v) :: qAs E r (i + 1)
theorem qAs_mem (E : qE) : ∀ (lv : List (Option qV)) (b : Nat) (x : Nat × Value), x ∈ qAs E lv b ↔ ∃ j v, lv[j]? = some (some v) ∧ x = (b + j, qv E v)
  | [], b, x => by simp [qAs]
  | none :: r, b, x => by
    simp only [qAs, qAs_mem E r]
    constructor
    · rintro ⟨j, v, h, rfl⟩
      exact ⟨j + 1, v, by simpa using h, by congr 1; omega⟩
    · rintro ⟨j, v, h, rfl⟩
      cases j with
      | zero => simp at h
      | succ j => exact ⟨j, v, by simpa using h, by congr 1; omega⟩
  | some w :: r, b, x => by
    simp only [qAs, List.mem_cons, qAs_mem E r]
    constructor
    · rintro (rfl | ⟨j, v, h, rfl⟩)
      · exact ⟨0, w, by simp, by simp⟩
      · exact ⟨j + 1, v, by simpa using h, by congr 1; omega⟩
    · rintro ⟨j, v, h, rfl⟩
      cases j with
      | zero =>
        simp at h
        left
        rw [h]
        rfl
      | succ j => exact Or.inr ⟨j, v, by simpa using h, by congr 1; omega⟩
def qLs (E : qE) (ls : Array Slot) (nL : Nat) (lv : List (Option qV)) : Prop := lv_has ls nL (qAs E lv 0)
theorem qLs.at {E : qE} {ls : Array Slot} {nL : Nat} {lv : List (Option qV)} (h : qLs E ls nL lv) {k : Nat} {v : qV} (hk : lv[k]? = some (some v)) : ls[k]? = some (.val (qv E v)) := h.2.2 (k, qv E v) ((qAs_mem E lv 0 _).mpr ⟨k, v, hk, by simp⟩)
def qSet : List (Option qV) → Nat → Option qV → Option (List (Option qV))
  | [], _, _ => none
  | _ :: r, 0, v => some (v :: r)
  | x :: r, k + 1, v => match qSet r k v with
    | some r' => some (x :: r')
    | none => none
theorem qSet_get : ∀ (lv : List (Option qV)) (k : Nat) (v : Option qV) (lv' : List (Option qV)), qSet lv k v = some lv' → ∀ j : Nat, lv'[j]? = if j = k then some v else lv[j]?
  | [], _, _, _, h => by simp [qSet] at h
  | x :: r, 0, v, lv', h => by
    simp only [qSet, Option.some.injEq] at h
    subst h
    intro j
    cases j <;> simp
  | x :: r, k + 1, v, lv', h => by
    simp only [qSet] at h
    split at h
    · next r' hr =>
      simp only [Option.some.injEq] at h
      subst h
      intro j
      cases j with
      | zero => simp
      | succ j =>
        have := qSet_get r k v r' hr j
        simpa using this
    · cases h
def qOk (lv : List (Option qV)) (k : Nat) : Bool := match k with
  | 0 => true
  | j + 1 => match lv[j]? with
    | some (some (.inr (.inl _))) => false
    | _ => true
theorem qv_cat (E : qE) (v : qV) (h : ∀ z, v ≠ ql z) : (qv E v).category = 1 := by
  match v, h with
  | .inl z, _ => rfl
  | .inr (.inl z), h => exact absurd rfl (h z)
  | .inr (.inr (k, i)), _ =>
    simp only [qv]
    split <;> rfl
theorem qLs.set1 {E : qE} {ls' : Array Slot} {nL k : Nat} {lv lv' : List (Option qV)} {v : qV} (hs : qSet lv k (some v) = some lv') (ho : qOk lv k = true) (h : lv_has ls' nL ((k, qv E v) :: (qAs E lv 0).filter (fun q => !(q.1 == k) && !(q.1 + 1 == k && q.2.category == 2)))) : qLs E ls' nL lv' := by
  refine ⟨h.1, h.2.1, fun x hx => h.2.2 x ?_⟩
  obtain ⟨j, w, hj, rfl⟩ := (qAs_mem E lv' 0 x).mp hx
  rw [qSet_get lv k _ lv' hs j] at hj
  simp only [Nat.zero_add]
  by_cases e : j = k
  · subst e
    simp at hj
    subst hj
    exact List.mem_cons_self
  · rw [if_neg e] at hj
    refine List.mem_cons_of_mem _ (List.mem_filter.mpr ⟨(qAs_mem E lv 0 _).mpr ⟨j, w, hj, by simp⟩, ?_⟩)
    simp only [Bool.and_eq_true, Bool.not_eq_true', beq_eq_false_iff_ne, ne_eq, Bool.and_eq_false_iff]
    refine ⟨e, ?_⟩
    by_cases e2 : j + 1 = k
    · right
      subst e2
      have h1 : (qv E w).category = 1 := qv_cat E w (fun z hz => by
        subst hz
        simp [qOk, hj] at ho)
      omega
    · exact Or.inl e2
theorem qLs.set2 {E : qE} {ls' : Array Slot} {nL k : Nat} {lv lv1 lv' : List (Option qV)} {v : qV} (hs : qSet lv k (some v) = some lv1) (hs2 : qSet lv1 (k + 1) none = some lv') (ho : qOk lv k = true) (h : lv_has ls' nL ((k, qv E v) :: (qAs E lv 0).filter (fun q => !(q.1 == k) && (!(q.1 == k + 1) && !(q.1 + 1 == k && q.2.category == 2))))) : qLs E ls' nL lv' := by
  refine ⟨h.1, h.2.1, fun x hx => h.2.2 x ?_⟩
  obtain ⟨j, w, hj, rfl⟩ := (qAs_mem E lv' 0 x).mp hx
  rw [qSet_get lv1 (k + 1) _ lv' hs2 j] at hj
  by_cases e1 : j = k + 1
  · rw [if_pos e1] at hj
    cases hj
  rw [if_neg e1, qSet_get lv k _ lv1 hs j] at hj
  simp only [Nat.zero_add]
  by_cases e : j = k
  · subst e
    simp at hj
    subst hj
    exact List.mem_cons_self
  · rw [if_neg e] at hj
    refine List.mem_cons_of_mem _ (List.mem_filter.mpr ⟨(qAs_mem E lv 0 _).mpr ⟨j, w, hj, by simp⟩, ?_⟩)
    simp only [Bool.and_eq_true, Bool.not_eq_true', beq_eq_false_iff_ne, ne_eq, Bool.and_eq_false_iff]
    refine ⟨e, e1, ?_⟩
    by_cases e2 : j + 1 = k
    · right
      subst e2
      have h1 : (qv E w).category = 1 := qv_cat E w (fun z hz => by
        subst hz
        simp [qOk, hj] at ho)
      omega
    · exact Or.inl e2
end
section
/-! the tables' words that stay good at every call -/
def qTbl : List Cond := lw_tbl.filter goodWord
theorem qin {w : Cond} (i : Nat) (h : lw_tbl[i]? = some w) (hg : goodWord w = true) : w ∈ qTbl := List.mem_filter.mpr ⟨List.mem_of_getElem? h, hg⟩
/-! numbers -/
theorem z_add (a b : Int) : Int32.ofInt a + Int32.ofInt b = Int32.ofInt (a + b) := (Int32.ofInt_add a b).symm
theorem z_mul (a b : Int) : Int32.ofInt a * Int32.ofInt b = Int32.ofInt (a * b) := (Int32.ofInt_mul a b).symm
theorem z_sub (a b : Int) : Int32.ofInt a - Int32.ofInt b = Int32.ofInt (a - b) := (Int32.ofInt_sub a b).symm
theorem zl_add (a b : Int) : Int64.ofInt a + Int64.ofInt b = Int64.ofInt (a + b) := (Int64.ofInt_add a b).symm
abbrev InI (z : Int) : Prop := -2147483648 ≤ z ∧ z < 2147483648
abbrev InL (z : Int) : Prop := -9223372036854775808 ≤ z ∧ z < 9223372036854775808
theorem z_toInt {z : Int} (h : InI z) : (Int32.ofInt z).toInt = z := by
  rw [Int32.toInt_ofInt]
  exact Int.bmod_eq_of_le (by simp [Int32.size]; omega) (by simp [Int32.size]; omega)
theorem zl_toInt {z : Int} (h : InL z) : (Int64.ofInt z).toInt = z := by
  rw [Int64.toInt_ofInt]
  exact Int.bmod_eq_of_le (by simp [Int64.size]; omega) (by simp [Int64.size]; omega)
theorem z_lt {a b : Int} (ha : InI a) (hb : InI b) : Int32.ofInt a < Int32.ofInt b ↔ a < b := by
  rw [Int32.lt_iff_toInt_lt, z_toInt ha, z_toInt hb]
theorem z_le {a b : Int} (ha : InI a) (hb : InI b) : Int32.ofInt a ≤ Int32.ofInt b ↔ a ≤ b := by
  rw [Int32.le_iff_toInt_le, z_toInt ha, z_toInt hb]
theorem z_eq {a b : Int} (ha : InI a) (hb : InI b) : Int32.ofInt a = Int32.ofInt b ↔ a = b := by
  rw [← Int32.toInt_inj, z_toInt ha, z_toInt hb]
theorem z_0 : (0 : Int32) = Int32.ofInt 0 := rfl
theorem z_nat {z : Int} (h0 : 0 ≤ z) (h : z < 2147483648) : (Int32.ofInt z).toNatClampNeg = z.toNat := by
  show (Int32.ofInt z).toInt.toNat = z.toNat
  rw [z_toInt ⟨by omega, h⟩]
theorem z_in {z : Int} {N : Nat} (h0 : 0 ≤ z) (h : z < N) (hN : N < 2147483648) : vp_in (Int32.ofInt z) N := by
  unfold vp_in
  rw [z_nat h0 (by omega), z_0, z_lt ⟨by omega, by omega⟩ (by decide)]
  omega
/-! the judgement -/
def qRm (n : Nat) : Room := { frames := n, cells := 0, slots := 0, locals := 40 * n }
def qPc (E : qE) (av : List qV) (σ : qSt) : Array Value → State → Prop := va_Pc (av.map (qv E)) (fun U => qWok E U U.heap ∧ va_P (eD E) clz (qBlk E σ) U.heap)
def qQc (E : qE) (Ret : Option qV → qSt → Prop) : Array Value → State → Outcome → State → Prop := fun _ s o t => (∃ (r : Option qV) (σ' : qSt), o = .returned (r.map (qv E)) ∧ Ret r σ' ∧ va_P (eD E) clz (qBlk E σ') t.heap) ∧ va_F (eA E) s t
/-- called with av in the state σ, y returns, and Ret holds of the answer and the state behind it -/
def CM (E : qE) (l : Launch) (y : MethodName) (b : ByteArray) (nL : Nat) (rt : Option FieldType) (n : Nat) (av : List qV) (σ : qSt) (Ret : Option qV → qSt → Prop) : Prop := Met l y (.code y b nL rt :: qTbl) (qRm n) (qPc E av σ) (qQc E Ret) 0 0 (eA E)
def Cx (E : qE) (l : Launch) (own : String) (cc : ByteArray) (nL : Nat) (rt : Option FieldType) (n : Nat) (Ret : Option qV → qSt → Prop) (G : qSt → Nat → List (Option qV) → List qV → Prop) : Prop :=
  ∃ (p : Program) (e : Env) (s : State) (m : MethodId) (args : Array Value) (below : List Frame) (meth : Method) (c : Code) (ws : List Cond),
    (p.tables.exec = Jvm.exec ∧ c.code = cc ∧ c.maxLocals = nL ∧ s.vm.findClass own = some m.cls ∧ ∀ w ∈ ws, w.before args s = true) ∧ (∀ w ∈ qTbl, w ∈ ws) ∧ meth.locks = false ∧ meth.sig.returnType = rt ∧ qTok (eT E) ∧ qWok E s s.heap ∧
    G = fun σ pc lv st => ∀ (H : Heap) (locs : List Loc) (ls : Array Slot), va_P (eD E) clz (qBlk E σ) H → va_S (eA E) s.heap H locs → qLs E ls nL lv → W p l e (qRm n) s m args below meth c H locs 0 0 (MQ below (qQc E Ret) args s 0 0 (eA E)) (F0 m pc ls (st.map (qv E)))
section
variable {E : qE} {l : Launch} {own : String} {cc : ByteArray} {nL : Nat} {rt : Option FieldType} {n : Nat} {Ret : Option qV → qSt → Prop} {G : qSt → Nat → List (Option qV) → List qV → Prop} {σ : qSt} {pc : Nat} {lv : List (Option qV)} {st : List qV}
theorem Cx.go {st2 : List qV} {pc2 : Nat} (C : Cx E l own cc nL rt n Ret G) (h : ∀ (p : Program) (e : Env) (R : Room) (s : State) (m : MethodId) (args : Array Value) (below : List Frame) (meth : Method) (c : Code) (H : Heap) (locs : List Loc) (Q : State → Prop) (ls : Array Slot), p.tables.exec = Jvm.exec → c.code = cc → qLs E ls nL lv → s.vm.findClass own = some m.cls → (∀ w ∈ qTbl, w.before args s = true) → W p l e R s m args below meth c H locs 0 0 Q (F0 m pc2 ls (st2.map (qv E))) → W p l e R s m args below meth c H locs 0 0 Q (F0 m pc ls (st.map (qv E)))) (k : G σ pc2 lv st2) : G σ pc lv st := by
  obtain ⟨p, e, s, m, args, below, meth, c, ws, ⟨hx, hb, hml, ho, hw⟩, hin, hlk, hrt, hT, hK, rfl⟩ := C
  intro H locs ls hP hS hl
  exact h _ _ _ _ _ _ _ _ _ _ _ _ _ hx hb hl ho (fun w h => hw w (hin w h)) (k H locs ls hP hS hl)
theorem Cx.br {st2 : List qV} {pc2 pc3 : Nat} {a b : Prop} (C : Cx E l own cc nL rt n Ret G) (h : ∀ (p : Program) (e : Env) (R : Room) (s : State) (m : MethodId) (args : Array Value) (below : List Frame) (meth : Method) (c : Code) (H : Heap) (locs : List Loc) (Q : State → Prop) (ls : Array Slot), p.tables.exec = Jvm.exec → c.code = cc → (a → W p l e R s m args below meth c H locs 0 0 Q (F0 m pc2 ls (st2.map (qv E)))) → (b → W p l e R s m args below meth c H locs 0 0 Q (F0 m pc3 ls (st2.map (qv E)))) → W p l e R s m args below meth c H locs 0 0 Q (F0 m pc ls (st.map (qv E)))) (kt : a → G σ pc2 lv st2) (kf : b → G σ pc3 lv st2) : G σ pc lv st := by
  obtain ⟨p, e, s, m, args, below, meth, c, ws, ⟨hx, hb, hml, ho, hw⟩, hin, hlk, hrt, hT, hK, rfl⟩ := C
  intro H locs ls hP hS hl
  exact h _ _ _ _ _ _ _ _ _ _ _ _ _ hx hb (fun q => kt q H locs ls hP hS hl) (fun q => kf q H locs ls hP hS hl)
theorem r_iconst {z : Int} (C : Cx E l own cc nL rt n Ret G) (hd : decode cc pc = .ok (.iconst z, 1)) (k : G σ (pc + 1) lv (qi z :: st)) : G σ pc lv st := C.go (fun _ _ _ _ _ _ _ _ _ _ _ _ _ hx hb _ _ _ k => lv_iconst hx hb hd rfl k) k
theorem r_bipush {z : Int} (C : Cx E l own cc nL rt n Ret G) (hd : decode cc pc = .ok (.bipush z, 2)) (k : G σ (pc + 2) lv (qi z :: st)) (hv : (Int8.ofInt z).toInt32 = Int32.ofInt z := by decide) : G σ pc lv st := C.go (fun _ _ _ _ _ _ _ _ _ _ _ _ _ hx hb _ _ _ k => lv_bipush hx hb hd hv k) k
theorem r_sipush {z : Int} (C : Cx E l own cc nL rt n Ret G) (hd : decode cc pc = .ok (.sipush z, 3)) (k : G σ (pc + 3) lv (qi z :: st)) (hv : (Int16.ofInt z).toInt32 = Int32.ofInt z := by decide) : G σ pc lv st := C.go (fun _ _ _ _ _ _ _ _ _ _ _ _ _ hx hb _ _ _ k => lv_sipush hx hb hd hv k) k
theorem r_ldc {z : Int} {ix : Nat} (C : Cx E l own cc nL rt n Ret G) (hd : decode cc pc = .ok (.ldc ix, 2)) (hc : Cond.constant own ix (Int32.ofInt z) ∈ qTbl) (k : G σ (pc + 2) lv (qi z :: st)) : G σ pc lv st := C.go (fun _ _ _ _ _ _ _ _ _ _ _ _ _ hx hb _ ho ht k => lv_ldc hx hb ho (ht _ hc) hd k) k
theorem r_ldcw {z : Int} {ix : Nat} (C : Cx E l own cc nL rt n Ret G) (hd : decode cc pc = .ok (.ldc_w ix, 3)) (hc : Cond.constant own ix (Int32.ofInt z) ∈ qTbl) (k : G σ (pc + 3) lv (qi z :: st)) : G σ pc lv st := C.go (fun _ _ _ _ _ _ _ _ _ _ _ _ _ hx hb _ ho ht k => lv_ldcw hx hb ho (ht _ hc) hd k) k
theorem r_ldc2 {z : Int} {ix : Nat} (C : Cx E l own cc nL rt n Ret G) (hd : decode cc pc = .ok (.ldc2_w ix, 3)) (hc : Cond.constantLong own ix (Int64.ofInt z) ∈ qTbl) (k : G σ (pc + 3) lv (ql z :: st)) : G σ pc lv st := C.go (fun _ _ _ _ _ _ _ _ _ _ _ _ _ hx hb _ ho ht k => lv_ldc2 hx hb ho (ht _ hc) hd k) k
theorem r_lconst0 (C : Cx E l own cc nL rt n Ret G) (hd : decode cc pc = .ok (.lconst 0, 1)) (k : G σ (pc + 1) lv (ql 0 :: st)) : G σ pc lv st := C.go (fun _ _ _ _ _ _ _ _ _ _ _ _ _ hx hb _ _ _ k => lv_lconst hx hb hd rfl k) k
theorem r_iload_n {i : Fin 4} {z : Int} (C : Cx E l own cc nL rt n Ret G) (hd : decode cc pc = .ok (.iload_n i, 1)) (hl : lv[(i : Nat)]? = some (some (qi z))) (k : G σ (pc + 1) lv (qi z :: st)) : G σ pc lv st := C.go (fun _ _ _ _ _ _ _ _ _ _ _ _ _ hx hb h _ _ k => lv_iload_n hx hb hd rfl (h.at hl) k) k
theorem r_iload {i : Nat} {z : Int} (C : Cx E l own cc nL rt n Ret G) (hd : decode cc pc = .ok (.iload i, 2)) (hl : lv[i]? = some (some (qi z))) (k : G σ (pc + 2) lv (qi z :: st)) : G σ pc lv st := C.go (fun _ _ _ _ _ _ _ _ _ _ _ _ _ hx hb h _ _ k => lv_iload hx hb hd (h.at hl) k) k
theorem r_lload_n {i : Fin 4} {z : Int} (C : Cx E l own cc nL rt n Ret G) (hd : decode cc pc = .ok (.lload_n i, 1)) (hl : lv[(i : Nat)]? = some (some (ql z))) (k : G σ (pc + 1) lv (ql z :: st)) : G σ pc lv st := C.go (fun _ _ _ _ _ _ _ _ _ _ _ _ _ hx hb h _ _ k => lv_lload_n hx hb hd rfl (h.at hl) k) k
theorem r_lload {i : Nat} {z : Int} (C : Cx E l own cc nL rt n Ret G) (hd : decode cc pc = .ok (.lload i, 2)) (hl : lv[i]? = some (some (ql z))) (k : G σ (pc + 2) lv (ql z :: st)) : G σ pc lv st := C.go (fun _ _ _ _ _ _ _ _ _ _ _ _ _ hx hb h _ _ k => lv_lload hx hb hd (h.at hl) k) k
theorem qv_ref (E : qE) (q : Nat) (i : Int) : ∃ x, qv E (qr q i) = .ref x := by
  simp only [qv]
  split
  · exact ⟨_, rfl⟩
  · exact ⟨_, rfl⟩
theorem r_aload_n {i : Fin 4} {q : Nat} {z : Int} (C : Cx E l own cc nL rt n Ret G) (hd : decode cc pc = .ok (.aload_n i, 1)) (hl : lv[(i : Nat)]? = some (some (qr q z))) (k : G σ (pc + 1) lv (qr q z :: st)) : G σ pc lv st := C.go (fun _ _ _ _ _ _ _ _ _ _ _ _ _ hx hb h _ _ k => by
  obtain ⟨x, hx2⟩ := qv_ref E q z
  have h2 := h.at hl
  simp only [List.map_cons] at k
  rw [hx2] at h2 k
  exact lv_aload_n hx hb hd rfl h2 k) k
theorem r_aload {i : Nat} {q : Nat} {z : Int} (C : Cx E l own cc nL rt n Ret G) (hd : decode cc pc = .ok (.aload i, 2)) (hl : lv[i]? = some (some (qr q z))) (k : G σ (pc + 2) lv (qr q z :: st)) : G σ pc lv st := C.go (fun _ _ _ _ _ _ _ _ _ _ _ _ _ hx hb h _ _ k => by
  obtain ⟨x, hx2⟩ := qv_ref E q z
  have h2 := h.at hl
  simp only [List.map_cons] at k
  rw [hx2] at h2 k
  exact lv_aload hx hb hd h2 k) k
theorem Cx.sto {lv2 : List (Option qV)} {st2 : List qV} {pc2 : Nat} (C : Cx E l own cc nL rt n Ret G) (h : ∀ (p : Program) (e : Env) (R : Room) (s : State) (m : MethodId) (args : Array Value) (below : List Frame) (meth : Method) (c : Code) (H : Heap) (locs : List Loc) (Q : State → Prop) (ls : Array Slot), p.tables.exec = Jvm.exec → c.code = cc → qLs E ls nL lv → (∀ ls, qLs E ls nL lv2 → W p l e R s m args below meth c H locs 0 0 Q (F0 m pc2 ls (st2.map (qv E)))) → W p l e R s m args below meth c H locs 0 0 Q (F0 m pc ls (st.map (qv E)))) (k : G σ pc2 lv2 st2) : G σ pc lv st := by
  obtain ⟨p, e, s, m, args, below, meth, c, ws, ⟨hx, hb, hml, ho, hw⟩, hin, hlk, hrt, hT, hK, rfl⟩ := C
  intro H locs ls hP hS hl
  exact h _ _ _ _ _ _ _ _ _ _ _ _ _ hx hb hl (fun ls hl => k H locs ls hP hS hl)
theorem r_istore_n {i : Fin 4} {z : Int} {lv2 : List (Option qV)} (C : Cx E l own cc nL rt n Ret G) (hd : decode cc pc = .ok (.istore_n i, 1)) (hl : qSet lv i (some (qi z)) = some lv2) (ho : qOk lv i = true) (hn : (i : Nat) < nL) (k : G σ (pc + 1) lv2 st) : G σ pc lv (qi z :: st) := C.sto (fun _ _ _ _ _ _ _ _ _ _ _ _ _ hx hb h k => lv_istore_n hx hb hd rfl h hn rfl (fun ls h2 => k ls (qLs.set1 (v := qi z) hl ho h2))) k
theorem r_istore {i : Nat} {z : Int} {lv2 : List (Option qV)} (C : Cx E l own cc nL rt n Ret G) (hd : decode cc pc = .ok (.istore i, 2)) (hl : qSet lv i (some (qi z)) = some lv2) (ho : qOk lv i = true) (hn : i < nL) (k : G σ (pc + 2) lv2 st) : G σ pc lv (qi z :: st) := C.sto (fun _ _ _ _ _ _ _ _ _ _ _ _ _ hx hb h k => lv_istore hx hb hd h hn rfl (fun ls h2 => k ls (qLs.set1 (v := qi z) hl ho h2))) k
theorem r_lstore_n {i : Fin 4} {z : Int} {lv1 lv2 : List (Option qV)} (C : Cx E l own cc nL rt n Ret G) (hd : decode cc pc = .ok (.lstore_n i, 1)) (hl1 : qSet lv i (some (ql z)) = some lv1) (hl : qSet lv1 ((i : Nat) + 1) none = some lv2) (ho : qOk lv i = true) (hn : (i : Nat) + 1 < nL) (k : G σ (pc + 1) lv2 st) : G σ pc lv (ql z :: st) := C.sto (fun _ _ _ _ _ _ _ _ _ _ _ _ _ hx hb h k => lv_lstore_n hx hb hd rfl h hn rfl (fun ls h2 => k ls (qLs.set2 (v := ql z) hl1 hl ho h2))) k
theorem r_astore_n {i : Fin 4} {q : Nat} {z : Int} {lv2 : List (Option qV)} (C : Cx E l own cc nL rt n Ret G) (hd : decode cc pc = .ok (.astore_n i, 1)) (hl : qSet lv i (some (qr q z)) = some lv2) (ho : qOk lv i = true) (hn : (i : Nat) < nL) (k : G σ (pc + 1) lv2 st) : G σ pc lv (qr q z :: st) := C.sto (fun _ _ _ _ _ _ _ _ _ _ _ _ _ hx hb h k => by
  obtain ⟨x, hx2⟩ := qv_ref E q z
  simp only [List.map_cons]
  rw [hx2]
  refine lv_astore_n hx hb hd rfl h hn rfl (fun ls h2 => k ls (qLs.set1 (v := qr q z) hl ho ?_))
  rw [hx2]
  exact h2) k
theorem r_astore {i : Nat} {q : Nat} {z : Int} {lv2 : List (Option qV)} (C : Cx E l own cc nL rt n Ret G) (hd : decode cc pc = .ok (.astore i, 2)) (hl : qSet lv i (some (qr q z)) = some lv2) (ho : qOk lv i = true) (hn : i < nL) (k : G σ (pc + 2) lv2 st) : G σ pc lv (qr q z :: st) := C.sto (fun _ _ _ _ _ _ _ _ _ _ _ _ _ hx hb h k => by
  obtain ⟨x, hx2⟩ := qv_ref E q z
  simp only [List.map_cons]
  rw [hx2]
  refine lv_astore hx hb hd h hn rfl (fun ls h2 => k ls (qLs.set1 (v := qr q z) hl ho ?_))
  rw [hx2]
  exact h2) k
theorem qAs_at {lv : List (Option qV)} {i : Nat} {v : qV} (h : lv[i]? = some (some v)) : ∃ k : Nat, (qAs E lv 0)[k]? = some (i, qv E v) := by
  have := (qAs_mem E lv 0 (i, qv E v)).mpr ⟨i, v, h, by simp⟩
  exact List.getElem?_of_mem this
theorem r_iinc {i : Nat} {d z : Int} {lv2 : List (Option qV)} (C : Cx E l own cc nL rt n Ret G) (hd : decode cc pc = .ok (.iinc i d, 3)) (h0 : lv[i]? = some (some (qi z))) (hl : qSet lv i (some (qi (z + d))) = some lv2) (ho : qOk lv i = true) (hn : i < nL) (k : G σ (pc + 3) lv2 st) : G σ pc lv st := C.sto (fun _ _ _ _ _ _ _ _ _ _ _ _ _ hx hb h k => by
  obtain ⟨j, hj⟩ := qAs_at (E := E) h0
  exact lv_iinc hx hb hd h hj (z_add z d) hn rfl (fun ls h2 => k ls (qLs.set1 (v := qi (z + d)) hl ho h2))) k
theorem r_iadd {a b : Int} (C : Cx E l own cc nL rt n Ret G) (hd : decode cc pc = .ok (.iadd, 1)) (k : G σ (pc + 1) lv (qi (a + b) :: st)) : G σ pc lv (qi b :: qi a :: st) := C.go (fun _ _ _ _ _ _ _ _ _ _ _ _ _ hx hb _ _ _ k => lv_iadd hx hb hd (by rw [z_add]; exact k)) k
theorem r_isub {a b : Int} (C : Cx E l own cc nL rt n Ret G) (hd : decode cc pc = .ok (.isub, 1)) (k : G σ (pc + 1) lv (qi (a - b) :: st)) : G σ pc lv (qi b :: qi a :: st) := C.go (fun _ _ _ _ _ _ _ _ _ _ _ _ _ hx hb _ _ _ k => lv_isub hx hb hd (by rw [z_sub]; exact k)) k
theorem r_imul {a b : Int} (C : Cx E l own cc nL rt n Ret G) (hd : decode cc pc = .ok (.imul, 1)) (k : G σ (pc + 1) lv (qi (a * b) :: st)) : G σ pc lv (qi b :: qi a :: st) := C.go (fun _ _ _ _ _ _ _ _ _ _ _ _ _ hx hb _ _ _ k => lv_imul hx hb hd (by rw [z_mul]; exact k)) k
theorem r_ladd {a b : Int} (C : Cx E l own cc nL rt n Ret G) (hd : decode cc pc = .ok (.ladd, 1)) (k : G σ (pc + 1) lv (ql (a + b) :: st)) : G σ pc lv (ql b :: ql a :: st) := C.go (fun _ _ _ _ _ _ _ _ _ _ _ _ _ hx hb _ _ _ k => lv_ladd hx hb hd (by rw [zl_add]; exact k)) k
theorem r_iand {a b : Int} (w : Int) (C : Cx E l own cc nL rt n Ret G) (hd : decode cc pc = .ok (.iand, 1)) (hw : Int32.ofInt a &&& Int32.ofInt b = Int32.ofInt w) (k : G σ (pc + 1) lv (qi w :: st)) : G σ pc lv (qi b :: qi a :: st) := C.go (fun _ _ _ _ _ _ _ _ _ _ _ _ _ hx hb _ _ _ k => lv_iand hx hb hd (by rw [hw]; exact k)) k
theorem r_ior {a b : Int} (w : Int) (C : Cx E l own cc nL rt n Ret G) (hd : decode cc pc = .ok (.ior, 1)) (hw : Int32.ofInt a ||| Int32.ofInt b = Int32.ofInt w) (k : G σ (pc + 1) lv (qi w :: st)) : G σ pc lv (qi b :: qi a :: st) := C.go (fun _ _ _ _ _ _ _ _ _ _ _ _ _ hx hb _ _ _ k => lv_ior hx hb hd (by rw [hw]; exact k)) k
theorem r_ixor {a b : Int} (w : Int) (C : Cx E l own cc nL rt n Ret G) (hd : decode cc pc = .ok (.ixor, 1)) (hw : Int32.ofInt a ^^^ Int32.ofInt b = Int32.ofInt w) (k : G σ (pc + 1) lv (qi w :: st)) : G σ pc lv (qi b :: qi a :: st) := C.go (fun _ _ _ _ _ _ _ _ _ _ _ _ _ hx hb _ _ _ k => lv_ixor hx hb hd (by rw [hw]; exact k)) k
theorem r_ishl {a b : Int} (w : Int) (C : Cx E l own cc nL rt n Ret G) (hd : decode cc pc = .ok (.ishl, 1)) (hw : Int32.ofInt a <<< (Int32.ofInt b &&& 31) = Int32.ofInt w) (k : G σ (pc + 1) lv (qi w :: st)) : G σ pc lv (qi b :: qi a :: st) := C.go (fun _ _ _ _ _ _ _ _ _ _ _ _ _ hx hb _ _ _ k => lv_ishl hx hb hd (by rw [hw]; exact k)) k
theorem r_ishr {a b : Int} (w : Int) (C : Cx E l own cc nL rt n Ret G) (hd : decode cc pc = .ok (.ishr, 1)) (hw : Int32.ofInt a >>> (Int32.ofInt b &&& 31) = Int32.ofInt w) (k : G σ (pc + 1) lv (qi w :: st)) : G σ pc lv (qi b :: qi a :: st) := C.go (fun _ _ _ _ _ _ _ _ _ _ _ _ _ hx hb _ _ _ k => lv_ishr hx hb hd (by rw [hw]; exact k)) k
theorem r_iushr {a b : Int} (w : Int) (C : Cx E l own cc nL rt n Ret G) (hd : decode cc pc = .ok (.iushr, 1)) (hw : ((Int32.ofInt a).toUInt32 >>> ((Int32.ofInt b).toUInt32 &&& Int32.toUInt32 31)).toInt32 = Int32.ofInt w) (k : G σ (pc + 1) lv (qi w :: st)) : G σ pc lv (qi b :: qi a :: st) := C.go (fun _ _ _ _ _ _ _ _ _ _ _ _ _ hx hb _ _ _ k => lv_iushr hx hb hd hw k) k
theorem r_land {a b : Int} (w : Int) (C : Cx E l own cc nL rt n Ret G) (hd : decode cc pc = .ok (.land, 1)) (hw : Int64.ofInt a &&& Int64.ofInt b = Int64.ofInt w) (k : G σ (pc + 1) lv (ql w :: st)) : G σ pc lv (ql b :: ql a :: st) := C.go (fun _ _ _ _ _ _ _ _ _ _ _ _ _ hx hb _ _ _ k => lv_land hx hb hd (by rw [hw]; exact k)) k
theorem r_lor {a b : Int} (w : Int) (C : Cx E l own cc nL rt n Ret G) (hd : decode cc pc = .ok (.lor, 1)) (hw : Int64.ofInt a ||| Int64.ofInt b = Int64.ofInt w) (k : G σ (pc + 1) lv (ql w :: st)) : G σ pc lv (ql b :: ql a :: st) := C.go (fun _ _ _ _ _ _ _ _ _ _ _ _ _ hx hb _ _ _ k => lv_lor hx hb hd (by rw [hw]; exact k)) k
theorem r_lxor {a b : Int} (w : Int) (C : Cx E l own cc nL rt n Ret G) (hd : decode cc pc = .ok (.lxor, 1)) (hw : Int64.ofInt a ^^^ Int64.ofInt b = Int64.ofInt w) (k : G σ (pc + 1) lv (ql w :: st)) : G σ pc lv (ql b :: ql a :: st) := C.go (fun _ _ _ _ _ _ _ _ _ _ _ _ _ hx hb _ _ _ k => lv_lxor hx hb hd (by rw [hw]; exact k)) k
theorem r_lshl {a b : Int} (w : Int) (C : Cx E l own cc nL rt n Ret G) (hd : decode cc pc = .ok (.lshl, 1)) (hw : Int64.ofInt a <<< ((Int32.ofInt b).toInt64 &&& 63) = Int64.ofInt w) (k : G σ (pc + 1) lv (ql w :: st)) : G σ pc lv (qi b :: ql a :: st) := C.go (fun _ _ _ _ _ _ _ _ _ _ _ _ _ hx hb _ _ _ k => lv_lshl hx hb hd hw k) k
theorem r_lshr {a b : Int} (w : Int) (C : Cx E l own cc nL rt n Ret G) (hd : decode cc pc = .ok (.lshr, 1)) (hw : Int64.ofInt a >>> ((Int32.ofInt b).toInt64 &&& 63) = Int64.ofInt w) (k : G σ (pc + 1) lv (ql w :: st)) : G σ pc lv (qi b :: ql a :: st) := C.go (fun _ _ _ _ _ _ _ _ _ _ _ _ _ hx hb _ _ _ k => lv_lshr hx hb hd hw k) k
theorem r_i2l {a : Int} (C : Cx E l own cc nL rt n Ret G) (hd : decode cc pc = .ok (.i2l, 1)) (ha : InI a) (k : G σ (pc + 1) lv (ql a :: st)) : G σ pc lv (qi a :: st) := C.go (fun _ _ _ _ _ _ _ _ _ _ _ _ _ hx hb _ _ _ k => lv_i2l hx hb hd (by
  apply Int64.toInt_inj.mp
  rw [Int32.toInt_toInt64, z_toInt ha, zl_toInt (by omega)]) k) k
theorem r_l2i {a : Int} (w : Int) (C : Cx E l own cc nL rt n Ret G) (hd : decode cc pc = .ok (.l2i, 1)) (hw : (Int64.ofInt a).toInt32 = Int32.ofInt w) (k : G σ (pc + 1) lv (qi w :: st)) : G σ pc lv (ql a :: st) := C.go (fun _ _ _ _ _ _ _ _ _ _ _ _ _ hx hb _ _ _ k => lv_l2i hx hb hd hw k) k
theorem r_dup {v : qV} (C : Cx E l own cc nL rt n Ret G) (hd : decode cc pc = .ok (.dup, 1)) (k : G σ (pc + 1) lv (v :: v :: st)) (hv : ∀ z, v ≠ ql z := by intro z h; cases h) : G σ pc lv (v :: st) := C.go (fun _ _ _ _ _ _ _ _ _ _ _ _ _ hx hb _ _ _ k => lv_dup hx hb hd (qv_cat E v hv) k) k
theorem r_pop {v : qV} (C : Cx E l own cc nL rt n Ret G) (hd : decode cc pc = .ok (.pop, 1)) (k : G σ (pc + 1) lv st) (hv : ∀ z, v ≠ ql z := by intro z h; cases h) : G σ pc lv (v :: st) := C.go (fun _ _ _ _ _ _ _ _ _ _ _ _ _ hx hb _ _ _ k => lv_pop hx hb hd (qv_cat E v hv) k) k
theorem r_goto {off : Int} (tgt : Nat) (C : Cx E l own cc nL rt n Ret G) (hd : decode cc pc = .ok (.goto off, 3)) (ht : (pc : Int) + off = (tgt : Int)) (k : G σ tgt lv st) : G σ pc lv st := C.go (fun _ _ _ _ _ _ _ _ _ _ _ _ _ hx hb _ _ _ k => lv_goto hx hb hd ht k) k
theorem r_if_eq {a off : Int} (tgt : Nat) (C : Cx E l own cc nL rt n Ret G) (hd : decode cc pc = .ok (.ifCond .eq off, 3)) (ht : (pc : Int) + off = (tgt : Int)) (ha : InI a) (kt : a = 0 → G σ tgt lv st) (kf : ¬ a = 0 → G σ (pc + 3) lv st) : G σ pc lv (qi a :: st) := C.br (fun _ _ _ _ _ _ _ _ _ _ _ _ _ hx hb kt kf => lv_if_eq hx hb hd ht (fun h => kt ((z_eq ha (by decide : InI 0)).mp h)) (fun h => kf (fun q => h ((z_eq ha (by decide : InI 0)).mpr q)))) kt kf
theorem r_if_ne {a off : Int} (tgt : Nat) (C : Cx E l own cc nL rt n Ret G) (hd : decode cc pc = .ok (.ifCond .ne off, 3)) (ht : (pc : Int) + off = (tgt : Int)) (ha : InI a) (kt : ¬ a = 0 → G σ tgt lv st) (kf : a = 0 → G σ (pc + 3) lv st) : G σ pc lv (qi a :: st) := C.br (fun _ _ _ _ _ _ _ _ _ _ _ _ _ hx hb kt kf => lv_if_ne hx hb hd ht (fun h => kt (fun q => h ((z_eq ha (by decide : InI 0)).mpr q))) (fun h => kf ((z_eq ha (by decide : InI 0)).mp h))) kt kf
theorem r_if_lt {a off : Int} (tgt : Nat) (C : Cx E l own cc nL rt n Ret G) (hd : decode cc pc = .ok (.ifCond .lt off, 3)) (ht : (pc : Int) + off = (tgt : Int)) (ha : InI a) (kt : a < 0 → G σ tgt lv st) (kf : ¬ a < 0 → G σ (pc + 3) lv st) : G σ pc lv (qi a :: st) := C.br (fun _ _ _ _ _ _ _ _ _ _ _ _ _ hx hb kt kf => lv_if_lt hx hb hd ht (fun h => kt ((z_lt ha (by decide : InI 0)).mp h)) (fun h => kf (fun q => h ((z_lt ha (by decide : InI 0)).mpr q)))) kt kf
theorem r_if_ge {a off : Int} (tgt : Nat) (C : Cx E l own cc nL rt n Ret G) (hd : decode cc pc = .ok (.ifCond .ge off, 3)) (ht : (pc : Int) + off = (tgt : Int)) (ha : InI a) (kt : ¬ a < 0 → G σ tgt lv st) (kf : a < 0 → G σ (pc + 3) lv st) : G σ pc lv (qi a :: st) := C.br (fun _ _ _ _ _ _ _ _ _ _ _ _ _ hx hb kt kf => lv_if_ge hx hb hd ht (fun h => kt (by have := (z_le (by decide : InI 0) ha).mp h; omega)) (fun h => kf (by have : ¬ (0 ≤ a) := fun q => h ((z_le (by decide : InI 0) ha).mpr q); omega))) kt kf
theorem r_if_gt {a off : Int} (tgt : Nat) (C : Cx E l own cc nL rt n Ret G) (hd : decode cc pc = .ok (.ifCond .gt off, 3)) (ht : (pc : Int) + off = (tgt : Int)) (ha : InI a) (kt : 0 < a → G σ tgt lv st) (kf : ¬ 0 < a → G σ (pc + 3) lv st) : G σ pc lv (qi a :: st) := C.br (fun _ _ _ _ _ _ _ _ _ _ _ _ _ hx hb kt kf => lv_if_gt hx hb hd ht (fun h => kt ((z_lt (by decide : InI 0) ha).mp h)) (fun h => kf (fun q => h ((z_lt (by decide : InI 0) ha).mpr q)))) kt kf
theorem r_if_le {a off : Int} (tgt : Nat) (C : Cx E l own cc nL rt n Ret G) (hd : decode cc pc = .ok (.ifCond .le off, 3)) (ht : (pc : Int) + off = (tgt : Int)) (ha : InI a) (kt : a ≤ 0 → G σ tgt lv st) (kf : ¬ a ≤ 0 → G σ (pc + 3) lv st) : G σ pc lv (qi a :: st) := C.br (fun _ _ _ _ _ _ _ _ _ _ _ _ _ hx hb kt kf => lv_if_le hx hb hd ht (fun h => kt ((z_le ha (by decide : InI 0)).mp h)) (fun h => kf (fun q => h ((z_le ha (by decide : InI 0)).mpr q)))) kt kf
theorem r_ic_eq {a b off : Int} (tgt : Nat) (C : Cx E l own cc nL rt n Ret G) (hd : decode cc pc = .ok (.if_icmp .eq off, 3)) (ht : (pc : Int) + off = (tgt : Int)) (ha : InI a) (hb' : InI b) (kt : a = b → G σ tgt lv st) (kf : ¬ a = b → G σ (pc + 3) lv st) : G σ pc lv (qi b :: qi a :: st) := C.br (fun _ _ _ _ _ _ _ _ _ _ _ _ _ hx hb kt kf => lv_icmp_eq hx hb hd ht (fun h => kt ((z_eq ha hb').mp h)) (fun h => kf (fun q => h ((z_eq ha hb').mpr q)))) kt kf
theorem r_ic_ne {a b off : Int} (tgt : Nat) (C : Cx E l own cc nL rt n Ret G) (hd : decode cc pc = .ok (.if_icmp .ne off, 3)) (ht : (pc : Int) + off = (tgt : Int)) (ha : InI a) (hb' : InI b) (kt : ¬ a = b → G σ tgt lv st) (kf : a = b → G σ (pc + 3) lv st) : G σ pc lv (qi b :: qi a :: st) := C.br (fun _ _ _ _ _ _ _ _ _ _ _ _ _ hx hb kt kf => lv_icmp_ne hx hb hd ht (fun h => kt (fun q => h ((z_eq ha hb').mpr q))) (fun h => kf ((z_eq ha hb').mp h))) kt kf
theorem r_ic_lt {a b off : Int} (tgt : Nat) (C : Cx E l own cc nL rt n Ret G) (hd : decode cc pc = .ok (.if_icmp .lt off, 3)) (ht : (pc : Int) + off = (tgt : Int)) (ha : InI a) (hb' : InI b) (kt : a < b → G σ tgt lv st) (kf : ¬ a < b → G σ (pc + 3) lv st) : G σ pc lv (qi b :: qi a :: st) := C.br (fun _ _ _ _ _ _ _ _ _ _ _ _ _ hx hb kt kf => lv_icmp_lt hx hb hd ht (fun h => kt ((z_lt ha hb').mp h)) (fun h => kf (fun q => h ((z_lt ha hb').mpr q)))) kt kf
theorem r_ic_ge {a b off : Int} (tgt : Nat) (C : Cx E l own cc nL rt n Ret G) (hd : decode cc pc = .ok (.if_icmp .ge off, 3)) (ht : (pc : Int) + off = (tgt : Int)) (ha : InI a) (hb' : InI b) (kt : ¬ a < b → G σ tgt lv st) (kf : a < b → G σ (pc + 3) lv st) : G σ pc lv (qi b :: qi a :: st) := C.br (fun _ _ _ _ _ _ _ _ _ _ _ _ _ hx hb kt kf => lv_icmp_ge hx hb hd ht (fun h => kt (by have := (z_le hb' ha).mp h; omega)) (fun h => kf (by have : ¬ (b ≤ a) := fun q => h ((z_le hb' ha).mpr q); omega))) kt kf
theorem r_ic_gt {a b off : Int} (tgt : Nat) (C : Cx E l own cc nL rt n Ret G) (hd : decode cc pc = .ok (.if_icmp .gt off, 3)) (ht : (pc : Int) + off = (tgt : Int)) (ha : InI a) (hb' : InI b) (kt : b < a → G σ tgt lv st) (kf : ¬ b < a → G σ (pc + 3) lv st) : G σ pc lv (qi b :: qi a :: st) := C.br (fun _ _ _ _ _ _ _ _ _ _ _ _ _ hx hb kt kf => lv_icmp_gt hx hb hd ht (fun h => kt ((z_lt hb' ha).mp h)) (fun h => kf (fun q => h ((z_lt hb' ha).mpr q)))) kt kf
theorem r_ic_le {a b off : Int} (tgt : Nat) (C : Cx E l own cc nL rt n Ret G) (hd : decode cc pc = .ok (.if_icmp .le off, 3)) (ht : (pc : Int) + off = (tgt : Int)) (ha : InI a) (hb' : InI b) (kt : a ≤ b → G σ tgt lv st) (kf : ¬ a ≤ b → G σ (pc + 3) lv st) : G σ pc lv (qi b :: qi a :: st) := C.br (fun _ _ _ _ _ _ _ _ _ _ _ _ _ hx hb kt kf => lv_icmp_le hx hb hd ht (fun h => kt ((z_le ha hb').mp h)) (fun h => kf (fun q => h ((z_le ha hb').mpr q)))) kt kf
theorem r_tabOut {a dflt lo hi : Int} {offs : Array Int} {len : Nat} (tgt : Nat) (C : Cx E l own cc nL rt n Ret G) (hd : decode cc pc = .ok (.tableswitch dflt lo hi offs, len)) (ht : (pc : Int) + dflt = (tgt : Int)) (ha : InI a) (h : a < lo ∨ hi < a) (k : G σ tgt lv st) : G σ pc lv (qi a :: st) := C.go (fun _ _ _ _ _ _ _ _ _ _ _ _ _ hx hb _ _ _ k => lv_tableOut hx hb hd (by rw [z_toInt ha]; exact h) ht k) k
theorem r_tabIn {a dflt lo hi : Int} {offs : Array Int} {len : Nat} {off : Int} (tgt : Nat) (C : Cx E l own cc nL rt n Ret G) (hd : decode cc pc = .ok (.tableswitch dflt lo hi offs, len)) (ha : InI a) (h1 : ¬ a < lo) (h2 : ¬ hi < a) (ho : offs[(a - lo).toNat]? = some off) (ht : (pc : Int) + off = (tgt : Int)) (k : G σ tgt lv st) : G σ pc lv (qi a :: st) := C.go (fun _ _ _ _ _ _ _ _ _ _ _ _ _ hx hb _ _ _ k => lv_tableIn hx hb hd (by rw [z_toInt ha]; exact h1) (by rw [z_toInt ha]; exact h2) (by rw [z_toInt ha]; exact ho) ht k) k
end
end
section
/-! heap rows -/
def qCls (ci : Nat) (C : String) (T : u_T) (N : Nat) : Prop := clz[ci]? = some (C, T, N) ∧ (∀ w ∈ u_ws C T N, w ∈ qTbl) ∧ (∃ ty0 : Nat → FieldType, ∀ k, k < N → parseFieldDescriptor (T k).2.2.1 = some (ty0 k)) ∧ ∀ a, a < N → ∀ b, b < N → a ≠ b → (T a).2.1 ≠ (T b).2.1
def qFl (own : String) (ix ci j : Nat) : Prop := ∃ (C : String) (T : u_T) (N : Nat), qCls ci C T N ∧ j < N ∧ (T j).1 = C ∧ Cond.fieldLink own ix C (T j).2.1 (T j).2.2.1 ∈ qTbl
def qFw (own : String) (ix ci j : Nat) (ty : FieldType) : Prop := ∃ (C : String) (T : u_T) (N : Nat), qCls ci C T N ∧ j < N ∧ (T j).1 = C ∧ Cond.fieldLink own ix C (T j).2.1 (T j).2.2.1 ∈ qTbl ∧ (T j).2.2.2 = false ∧ parseFieldDescriptor (T j).2.2.1 = some ty
theorem qv_r {E : qE} {k m : Nat} (h : k ≠ 99) : qv E (qr k (m : Int)) = .ref (eo E + qad (eT E) k m) := by simp [qv, h]
theorem q_n99 {E : qE} (hT : qTok (eT E)) {k m : Nat} (h : m < qcn (eT E) k) : k ≠ 99 := by
  rintro rfl
  rw [hT.1] at h
  omega
section
variable {E : qE} {l : Launch} {own : String} {cc : ByteArray} {nL : Nat} {rt : Option FieldType} {n : Nat} {Ret : Option qV → qSt → Prop} {G : qSt → Nat → List (Option qV) → List qV → Prop} {σ : qSt} {pc : Nat} {lv : List (Option qV)} {st : List qV}
theorem r_get_i {ix ci j k c : Nat} {fl : List (Option Nat)} {i : Int} (jz : Int) (C : Cx E l own cc nL rt n Ret G) (hd : decode cc pc = .ok (.getfield ix, 3)) (hf : qFl own ix ci j) (hs : qsh (eT E) k = .inl (ci, fl)) (hj : fl[j]? = some none) (hz : (j : Int) = jz) (hc : qcn (eT E) k = c) (hi : 0 ≤ i ∧ i < c) (kk : G σ (pc + 3) lv (qi (σ k i jz) :: st)) : G σ pc lv (qr k i :: st) := by
  obtain ⟨p, e, s, m, args, below, meth, cd, ws, ⟨hx, hb, hml, ho, hw⟩, hin, hlk, hrt, hT, hK, rfl⟩ := C
  intro H locs ls hP hS hl
  obtain ⟨q, rfl⟩ : ∃ q : Nat, i = q := ⟨i.toNat, by omega⟩
  subst hz
  have hlt : q < qcn (eT E) k := by omega
  have hg := qBlk_get (σ := σ) hT hlt
  have hcell : qCell E σ k q = .inr (ci, qFld E (σ k q) q fl 0) := by unfold qCell; rw [hs]; rfl
  rw [hcell] at hg
  have hv := qFld_i E (σ k q) q fl 0 j hj
  obtain ⟨CC, T, N, ⟨h1, h2, h3, h4⟩, h5, h6, h7⟩ := hf
  simp only [List.map_cons, qv_r (q_n99 hT hlt)]
  refine va_get (D := eD E) (cl := clz) (ci := ci) (C := CC) (T := T) (N := N) (ref := CC) hx hb (fun w h => hw w (hin w h)) h2 ho hK.1 hP _ hg h1 j h5 (hw _ (hin _ h7)) (fun x h => by rw [h6] at h; exact h) hv hd ?_
  have := kk H locs ls hP hS hl
  simpa [qv] using this
theorem r_get_r {ix ci j k c k2 : Nat} {fl : List (Option Nat)} {i : Int} (C : Cx E l own cc nL rt n Ret G) (hd : decode cc pc = .ok (.getfield ix, 3)) (hf : qFl own ix ci j) (hs : qsh (eT E) k = .inl (ci, fl)) (hj : fl[j]? = some (some k2)) (hc : qcn (eT E) k = c) (hi : 0 ≤ i ∧ i < c) (h9 : (k2 == 99) = false) (kk : G σ (pc + 3) lv (qr k2 i :: st)) : G σ pc lv (qr k i :: st) := by
  obtain ⟨p, e, s, m, args, below, meth, cd, ws, ⟨hx, hb, hml, ho, hw⟩, hin, hlk, hrt, hT, hK, rfl⟩ := C
  intro H locs ls hP hS hl
  obtain ⟨q, rfl⟩ : ∃ q : Nat, i = q := ⟨i.toNat, by omega⟩
  have hlt : q < qcn (eT E) k := by omega
  have hg := qBlk_get (σ := σ) hT hlt
  have hcell : qCell E σ k q = .inr (ci, qFld E (σ k q) q fl 0) := by unfold qCell; rw [hs]; rfl
  rw [hcell] at hg
  have hv := qFld_r E (σ k q) q fl 0 j hj
  obtain ⟨CC, T, N, ⟨h1, h2, h3, h4⟩, h5, h6, h7⟩ := hf
  simp only [List.map_cons, qv_r (q_n99 hT hlt)]
  refine va_get (D := eD E) (cl := clz) (ci := ci) (C := CC) (T := T) (N := N) (ref := CC) hx hb (fun w h => hw w (hin w h)) h2 ho hK.1 hP _ hg h1 j h5 (hw _ (hin _ h7)) (fun x h => by rw [h6] at h; exact h) hv hd ?_
  have := kk H locs ls hP hS hl
  simp only [List.map_cons, qv_r (E := E) (k := k2) (m := q) (by simpa using h9)] at this
  exact this
theorem r_put_i {ix ci j k c : Nat} {fl : List (Option Nat)} {i z : Int} {ty : FieldType} (jz : Int) (C : Cx E l own cc nL rt n Ret G) (hd : decode cc pc = .ok (.putfield ix, 3)) (hf : qFw own ix ci j ty) (hs : qsh (eT E) k = .inl (ci, fl)) (hj : fl[j]? = some none) (hz : (j : Int) = jz) (hc : qcn (eT E) k = c) (hi : 0 ≤ i ∧ i < c) (hn : narrow ty (.int (Int32.ofInt z)) = .int (Int32.ofInt z)) (hft : fits ty (.int (Int32.ofInt z)) = true) (kk : G (qUp σ k i jz z) (pc + 3) lv st) : G σ pc lv (qi z :: qr k i :: st) := by
  obtain ⟨p, e, s, m, args, below, meth, cd, ws, ⟨hx, hb, hml, ho, hw⟩, hin, hlk, hrt, hT, hK, rfl⟩ := C
  intro H locs ls hP hS hl
  obtain ⟨q, rfl⟩ : ∃ q : Nat, i = q := ⟨i.toNat, by omega⟩
  subst hz
  have hlt : q < qcn (eT E) k := by omega
  have hg := qBlk_get (σ := σ) hT hlt
  have hcell : ∀ σ : qSt, qCell E σ k q = .inr (ci, qFld E (σ k q) q fl 0) := fun σ => by unfold qCell; rw [hs]; rfl
  rw [hcell] at hg
  obtain ⟨CC, T, N, ⟨h1, h2, ⟨ty0, h3⟩, h4⟩, h5, h6, h7, h8, h9⟩ := hf
  have hjl : j < fl.length := (List.getElem?_eq_some_iff.mp hj).1
  simp only [List.map_cons, qv_r (q_n99 hT hlt)]
  refine va_put (D := eD E) (cl := clz) (ci := ci) (C := CC) (T := T) (N := N) (ref := CC) (A := eA E) hx hb (fun w h => hw w (hin w h)) h2 ty0 h3 h4 ho hK.1 hP (qBlk_D E σ) hS _ hg h1 j h5 (hw _ (hin _ h7)) (fun x h => by rw [h6] at h; exact h) h8 h9 hn hft (by rw [qFld_len]; exact hjl) hd (fun H1 locs1 hP1 _ hS1 => ?_)
  refine kk H1 locs1 ls ?_ hS1 hl
  rw [show qv E (qi z) = Value.int (Int32.ofInt z) from rfl, qFld_set E (σ k q) (qUp σ k q j z k q) q z j (by simp [qUp]) (fun c hc => by simp [qUp, hc]) fl 0 j (by omega) hj, ← hcell (qUp σ k q j z)] at hP1
  rwa [qBlk_set hT hlt (fun a b hab c => by simp only [qUp]; rw [if_neg]; rintro ⟨e1, e2, -⟩; exact hab ⟨e1, by exact_mod_cast e2⟩)] at hP1
theorem r_iald {k c N x : Nat} {i z : Int} (C : Cx E l own cc nL rt n Ret G) (hd : decode cc pc = .ok (.iaload, 1)) (hs : qsh (eT E) k = .inr (N, 0, x)) (hc : qcn (eT E) k = c) (hi : 0 ≤ i ∧ i < c) (hz : 0 ≤ z ∧ z < N) (kk : G σ (pc + 1) lv (qi (σ k i z) :: st)) (hN : N < 2147483648 := by decide) : G σ pc lv (qi z :: qr k i :: st) := by
  obtain ⟨p, e, s, m, args, below, meth, cd, ws, ⟨hx, hb, hml, ho, hw⟩, hin, hlk, hrt, hT, hK, rfl⟩ := C
  intro H locs ls hP hS hl
  obtain ⟨q, rfl⟩ : ∃ q : Nat, i = q := ⟨i.toNat, by omega⟩
  have hlt : q < qcn (eT E) k := by omega
  have hg := qBlk_get (σ := σ) hT hlt
  have hcell : qCell E σ k q = .inl (eca E 0, N, .inl fun j => Int32.ofInt (σ k q j)) := by unfold qCell; rw [hs]; rfl
  rw [hcell] at hg
  simp only [List.map_cons, qv_r (q_n99 hT hlt)]
  refine va_iald (D := eD E) (cl := clz) hx hb hK.1 hP _ 0 hg rfl (z_in hz.1 hz.2 hN) hd ?_
  have := kk H locs ls hP hS hl
  rw [z_nat hz.1 (by omega), Int.toNat_of_nonneg hz.1]
  exact this
theorem r_iast {k c N x : Nat} {i z w : Int} (C : Cx E l own cc nL rt n Ret G) (hd : decode cc pc = .ok (.iastore, 1)) (hs : qsh (eT E) k = .inr (N, 0, x)) (hc : qcn (eT E) k = c) (hi : 0 ≤ i ∧ i < c) (hz : 0 ≤ z ∧ z < N) (kk : G (qUp σ k i z w) (pc + 1) lv st) (hN : N < 2147483648 := by decide) : G σ pc lv (qi w :: qi z :: qr k i :: st) := by
  obtain ⟨p, e, s, m, args, below, meth, cd, ws, ⟨hx, hb, hml, ho, hw⟩, hin, hlk, hrt, hT, hK, rfl⟩ := C
  intro H locs ls hP hS hl
  obtain ⟨q, rfl⟩ : ∃ q : Nat, i = q := ⟨i.toNat, by omega⟩
  have hlt : q < qcn (eT E) k := by omega
  have hg := qBlk_get (σ := σ) hT hlt
  have hcell : ∀ σ : qSt, qCell E σ k q = .inl (eca E 0, N, .inl fun j => Int32.ofInt (σ k q j)) := fun σ => by unfold qCell; rw [hs]; rfl
  rw [hcell] at hg
  simp only [List.map_cons, qv_r (q_n99 hT hlt)]
  refine va_iast (D := eD E) (cl := clz) (A := eA E) hx hb hK.1 hP (qBlk_D E σ) hS _ 0 hg rfl (z_in hz.1 hz.2 hN) hd (fun H1 locs1 hP1 _ hS1 => ?_)
  refine kk H1 locs1 ls ?_ hS1 hl
  have e1 : upd (fun j : Nat => Int32.ofInt (σ k q j)) (Int32.ofInt z).toNatClampNeg (Int32.ofInt w) = fun j : Nat => Int32.ofInt (qUp σ k q z w k q j) := by
    funext j
    rw [z_nat hz.1 (by omega)]
    by_cases hj : j = z.toNat
    · have h2 : (j : Int) = z := by omega
      simp [upd, hj, qUp, Int.toNat_of_nonneg hz.1]
    · have h2 : ¬ (j : Int) = z := by omega
      simp [upd, hj, qUp, h2]
  rw [e1, ← hcell (qUp σ k q z w)] at hP1
  rwa [qBlk_set hT hlt (fun a b hab c => by simp only [qUp]; rw [if_neg]; rintro ⟨e1, e2, -⟩; exact hab ⟨e1, by exact_mod_cast e2⟩)] at hP1
theorem r_lald {k c N x : Nat} {i z : Int} (C : Cx E l own cc nL rt n Ret G) (hd : decode cc pc = .ok (.laload, 1)) (hs : qsh (eT E) k = .inr (N, 1, x)) (hc : qcn (eT E) k = c) (hi : 0 ≤ i ∧ i < c) (hz : 0 ≤ z ∧ z < N) (kk : G σ (pc + 1) lv (ql (σ k i z) :: st)) (hN : N < 2147483648 := by decide) : G σ pc lv (qi z :: qr k i :: st) := by
  obtain ⟨p, e, s, m, args, below, meth, cd, ws, ⟨hx, hb, hml, ho, hw⟩, hin, hlk, hrt, hT, hK, rfl⟩ := C
  intro H locs ls hP hS hl
  obtain ⟨q, rfl⟩ : ∃ q : Nat, i = q := ⟨i.toNat, by omega⟩
  have hlt : q < qcn (eT E) k := by omega
  have hg := qBlk_get (σ := σ) hT hlt
  have hcell : qCell E σ k q = .inl (eca E 1, N, .inr (.inl fun j => Int64.ofInt (σ k q j))) := by unfold qCell; rw [hs]; rfl
  rw [hcell] at hg
  simp only [List.map_cons, qv_r (q_n99 hT hlt)]
  refine va_lald (D := eD E) (cl := clz) hx hb hK.1 hP _ 1 hg rfl (z_in hz.1 hz.2 hN) hd ?_
  have := kk H locs ls hP hS hl
  rw [z_nat hz.1 (by omega), Int.toNat_of_nonneg hz.1]
  exact this
theorem r_last {k c N x : Nat} {i z w : Int} (C : Cx E l own cc nL rt n Ret G) (hd : decode cc pc = .ok (.lastore, 1)) (hs : qsh (eT E) k = .inr (N, 1, x)) (hc : qcn (eT E) k = c) (hi : 0 ≤ i ∧ i < c) (hz : 0 ≤ z ∧ z < N) (kk : G (qUp σ k i z w) (pc + 1) lv st) (hN : N < 2147483648 := by decide) : G σ pc lv (ql w :: qi z :: qr k i :: st) := by
  obtain ⟨p, e, s, m, args, below, meth, cd, ws, ⟨hx, hb, hml, ho, hw⟩, hin, hlk, hrt, hT, hK, rfl⟩ := C
  intro H locs ls hP hS hl
  obtain ⟨q, rfl⟩ : ∃ q : Nat, i = q := ⟨i.toNat, by omega⟩
  have hlt : q < qcn (eT E) k := by omega
  have hg := qBlk_get (σ := σ) hT hlt
  have hcell : ∀ σ : qSt, qCell E σ k q = .inl (eca E 1, N, .inr (.inl fun j => Int64.ofInt (σ k q j))) := fun σ => by unfold qCell; rw [hs]; rfl
  rw [hcell] at hg
  simp only [List.map_cons, qv_r (q_n99 hT hlt)]
  refine va_last (D := eD E) (cl := clz) (A := eA E) hx hb hK.1 hP (qBlk_D E σ) hS _ 1 hg rfl (z_in hz.1 hz.2 hN) hd (fun H1 locs1 hP1 _ hS1 => ?_)
  refine kk H1 locs1 ls ?_ hS1 hl
  have e1 : vp_updL (fun j : Nat => Int64.ofInt (σ k q j)) (Int32.ofInt z).toNatClampNeg (Int64.ofInt w) = fun j : Nat => Int64.ofInt (qUp σ k q z w k q j) := by
    funext j
    rw [z_nat hz.1 (by omega)]
    by_cases hj : j = z.toNat
    · have h2 : (j : Int) = z := by omega
      simp [vp_updL, hj, qUp, Int.toNat_of_nonneg hz.1]
    · have h2 : ¬ (j : Int) = z := by omega
      simp [vp_updL, hj, qUp, h2]
  rw [e1, ← hcell (qUp σ k q z w)] at hP1
  rwa [qBlk_set hT hlt (fun a b hab c => by simp only [qUp]; rw [if_neg]; rintro ⟨e1, e2, -⟩; exact hab ⟨e1, by exact_mod_cast e2⟩)] at hP1
theorem q_ty {ca : Nat → ClassId} {ek : Nat} (h : ek < 5) : ∃ ty, (qTys ca)[ek + 2]? = some (ca (ek + 2), ty) ∧ refKind ty = true := by
  rcases (by omega : ek = 0 ∨ ek = 1 ∨ ek = 2 ∨ ek = 3 ∨ ek = 4) with rfl | rfl | rfl | rfl | rfl
  · exact ⟨_, rfl, rfl⟩
  · exact ⟨_, rfl, rfl⟩
  · exact ⟨_, rfl, rfl⟩
  · exact ⟨_, rfl, rfl⟩
  · exact ⟨_, rfl, rfl⟩
theorem r_aald {k c N ek tk : Nat} {i z : Int} (C : Cx E l own cc nL rt n Ret G) (hd : decode cc pc = .ok (.aaload, 1)) (hs : qsh (eT E) k = .inr (N, ek + 2, tk)) (hek : ek < 5) (hc : qcn (eT E) k = c) (hi : 0 ≤ i ∧ i < c) (hz : 0 ≤ z ∧ z < N) (h9 : (tk == 99) = false) (kk : G σ (pc + 1) lv (qr tk z :: st)) (hN : N < 2147483648 := by decide) : G σ pc lv (qi z :: qr k i :: st) := by
  obtain ⟨p, e, s, m, args, below, meth, cd, ws, ⟨hx, hb, hml, ho, hw⟩, hin, hlk, hrt, hT, hK, rfl⟩ := C
  intro H locs ls hP hS hl
  obtain ⟨q, rfl⟩ : ∃ q : Nat, i = q := ⟨i.toNat, by omega⟩
  have hlt : q < qcn (eT E) k := by omega
  have hg := qBlk_get (σ := σ) hT hlt
  have hcell : qCell E σ k q = .inl (eca E (ek + 2), N, .inr (.inr (.inr (.inr fun j => some (eo E + qad (eT E) tk j))))) := by unfold qCell; rw [hs]; rfl
  rw [hcell] at hg
  obtain ⟨ty, ht, hrk⟩ := q_ty (ca := eca E) hek
  simp only [List.map_cons, qv_r (q_n99 hT hlt)]
  have hzn : (Int32.ofInt z).toNatClampNeg = z.toNat := z_nat hz.1 (by omega)
  refine W.aald (v := .ref (eo E + qad (eT E) tk z.toNat)) (ty := ty) hx hb (hP _ _ hg) ((hK.1.2 _ _ ht).1 N (fun j => va_rf (some (eo E + qad (eT E) tk j)))) hrk (fun q => by cases q) (by show ¬ (Int32.ofInt z < 0 ∨ (arrV _ _ _).slots.size ≤ _); rw [arrV_size]; exact z_in hz.1 hz.2 hN) (by show (arrV _ _ _).slots[_]? = _; rw [arrV_read _ _ (show (Int32.ofInt z).toNatClampNeg < N by rw [hzn]; omega), hzn]; rfl) rfl rfl hd ?_
  have := kk H locs ls hP hS hl
  obtain ⟨q2, rfl⟩ : ∃ q : Nat, z = q := ⟨z.toNat, by omega⟩
  simp only [List.map_cons, qv_r (E := E) (k := tk) (m := q2) (by simpa using h9)] at this
  exact this
theorem r_getst {ix : Nat} (C : Cx E l own cc nL rt n Ret G) (hd : decode cc pc = .ok (.getstatic ix, 3)) (hf : Cond.fieldLink own ix RX10 "UNDER" "[I" ∈ qTbl) (kk : G σ (pc + 3) lv (qr 99 0 :: st)) : G σ pc lv st := by
  obtain ⟨p, e, s, m, args, below, meth, cd, ws, ⟨hx, hb, hml, ho, hw⟩, hin, hlk, hrt, hT, hK, rfl⟩ := C
  intro H locs ls hP hS hl
  refine va_gets hx hb hK.2.1 hS ho (hw _ (hin _ hf)) (fun x h => h) hd ?_
  exact kk H locs ls hP hS hl
theorem r_uald {z v : Int} (C : Cx E l own cc nL rt n Ret G) (hd : decode cc pc = .ok (.iaload, 1)) (hz : 0 ≤ z ∧ z < 4) (hv : v = if z = 0 then -1 else if z = 3 then 1 else 0) (kk : G σ (pc + 1) lv (qi v :: st)) : G σ pc lv (qi z :: qr 99 0 :: st) := by
  obtain ⟨p, e, s, m, args, below, meth, cd, ws, ⟨hx, hb, hml, ho, hw⟩, hin, hlk, hrt, hT, hK, rfl⟩ := C
  intro H locs ls hP hS hl
  subst hv
  refine va_ti hx hb hK.2.2 hS (z_in hz.1 (by omega) (by decide)) (v := qv E (qi (if z = 0 then -1 else if z = 3 then 1 else 0))) ?_ hd (kk H locs ls hP hS hl)
  rw [z_nat hz.1 (by omega)]
  rcases (by omega : z = 0 ∨ z = 1 ∨ z = 2 ∨ z = 3) with rfl | rfl | rfl | rfl <;> rfl
/-! ends -/
theorem r_iret {z : Int} (C : Cx E l own cc nL (some .int) n Ret G) (hd : decode cc pc = .ok (.ireturn, 1)) (h : Ret (some (qi z)) σ) : G σ pc lv [qi z] := by
  obtain ⟨p, e, s, m, args, below, meth, cd, ws, ⟨hx, hb, hml, ho, hw⟩, hin, hlk, hrt, hT, hK, rfl⟩ := C
  intro H locs ls hP hS hl
  exact W.iret hx hb hrt (fun t ht hW => ⟨⟨some (qi z), σ, rfl, h, by rw [ht]; exact hP⟩, hS.F ht⟩) hS.2.2 hd
theorem r_zret {z : Int} (C : Cx E l own cc nL (some .boolean) n Ret G) (hd : decode cc pc = .ok (.ireturn, 1)) (hz : z = 0 ∨ z = 1) (h : Ret (some (qi z)) σ) : G σ pc lv [qi z] := by
  obtain ⟨p, e, s, m, args, below, meth, cd, ws, ⟨hx, hb, hml, ho, hw⟩, hin, hlk, hrt, hT, hK, rfl⟩ := C
  intro H locs ls hP hS hl
  exact W.zret hx hb hrt (by rcases hz with rfl | rfl <;> rfl) (fun t ht hW => ⟨⟨some (qi z), σ, rfl, h, by rw [ht]; exact hP⟩, hS.F ht⟩) hS.2.2 hd
theorem r_vret (C : Cx E l own cc nL none n Ret G) (hd : decode cc pc = .ok (.return_, 1)) (h : Ret none σ) : G σ pc lv [] := by
  obtain ⟨p, e, s, m, args, below, meth, cd, ws, ⟨hx, hb, hml, ho, hw⟩, hin, hlk, hrt, hT, hK, rfl⟩ := C
  intro H locs ls hP hS hl
  exact W.vret hx hb hrt (fun t ht hW => ⟨⟨none, σ, rfl, h, by rw [ht]; exact hP⟩, hS.F ht⟩) hS.2.2 hd
theorem r_aret {D : String} {k : Nat} {i : Int} (C : Cx E l own cc nL (some (.object D)) n Ret G) (hd : decode cc pc = .ok (.areturn, 1)) (h : Ret (some (qr k i)) σ) : G σ pc lv [qr k i] := by
  obtain ⟨p, e, s, m, args, below, meth, cd, ws, ⟨hx, hb, hml, ho, hw⟩, hin, hlk, hrt, hT, hK, rfl⟩ := C
  intro H locs ls hP hS hl
  exact W.aret hx hb hrt (Or.inl ⟨_, rfl⟩) (Or.inr (qv_ref E k i)) (fun t ht hW => ⟨⟨some (qr k i), σ, rfl, h, by rw [ht]; exact hP⟩, hS.F ht⟩) hS.2.2 hd
end
end
section
/-! calls -/
theorem q_goodIn {ws ws2 : List Cond} (hin : ∀ w ∈ qTbl, w ∈ ws) (h2 : ∀ w ∈ ws2, w ∈ qTbl) : GoodIn ws ws2 := fun w hw => ⟨hin w (h2 w hw), good_of_word (List.mem_filter.mp (h2 w hw)).2⟩
/-- a call of y from own by the pool's entry ix: an instance method, chosen by its own class -/
def qMv (own : String) (ix : Nat) (y : MethodName) (b : ByteArray) (nL : Nat) (rt : Option FieldType) (ar : Nat) : Prop := Cond.methodLink own ix y ∈ qTbl ∧ Cond.instanceMethod y ∈ qTbl ∧ Cond.selects y.cls y y ∈ qTbl ∧ Cond.initialized y.cls ∈ qTbl ∧ Cond.code y b nL rt ∈ qTbl ∧ y.cls ≠ "java/lang/invoke/MethodHandle" ∧ y.cls ≠ "java/lang/invoke/VarHandle" ∧ (parseMethodDescriptor y.desc).map (fun d => d.parameters.length) = some ar ∧ nL ≤ 21
def qMs (own : String) (ix : Nat) (y : MethodName) (b : ByteArray) (nL : Nat) (rt : Option FieldType) (ar : Nat) : Prop := Cond.methodLink own ix y ∈ qTbl ∧ Cond.static y ∈ qTbl ∧ Cond.initialized y.cls ∈ qTbl ∧ Cond.code y b nL rt ∈ qTbl ∧ y.cls ≠ "java/lang/invoke/MethodHandle" ∧ y.cls ≠ "java/lang/invoke/VarHandle" ∧ (parseMethodDescriptor y.desc).map (fun d => d.parameters.length) = some ar ∧ nL ≤ 21
theorem qPc_blind (E : qE) (av : List qV) (σ : qSt) : FrameBlind (qPc E av σ) := fun a U g mk h => ⟨h.1, qWok.moved (u := U) (U := U.calling g mk a) (Vm.Alike.refl U.vm) h.2.1, h.2.2⟩
theorem qWok.at {E : qE} {s U : State} {H : Heap} {locs : List Loc} (h : qWok E s s.heap) (hS : va_S (eA E) s.heap H locs) (hU : U.heap = H) (hW : s.WarmedH U.vm) : qWok E U U.heap := by
  rw [hU]
  exact (h.kept (fun a h1 h2 => hS.2.1 a h1 h2)).moved hW.alike
theorem q_map_toList (E : qE) (r : Option qV) : (r.map (qv E)).toList = r.toList.map (qv E) := by cases r <;> rfl
section
variable {p : Program} {l : Launch} {e : Env} {R : Room} {s : State} {m : MethodId} {args : Array Value} {below : List Frame} {meth : Method} {c : Code} {H : Heap} {locs : List Loc} {Q : State → Prop} {pc : Nat} {ls : Array Slot} {rest st0 : List Value} {a : Array Value}
theorem q_call {E : qE} {Ret : Option qV → qSt → Prop} (hr : va_Run p l e R s m args below meth c H locs 0 0 0 0 (F0 m pc ls st0) rest (qQc E Ret a) (eA E)) (hS : va_S (eA E) s.heap H locs)
    (kk : ∀ (r : Option qV) (σ' : qSt) (H1 : Heap) (locs1 : List Loc), Ret r σ' → va_P (eD E) clz (qBlk E σ') H1 → va_S (eA E) s.heap H1 locs1 → W p l e R s m args below meth c H1 locs1 0 0 Q (F0 m (pc + 3) ls ((r.map (qv E)).toList ++ rest))) : W p l e R s m args below meth c H locs 0 0 Q (F0 m pc ls st0) := by
  intro T hT X
  obtain ⟨v, st₀, t, T', L, h0, X', hL, e1, e2, ⟨⟨r, σ', hv, hp, hb⟩, hz, hk⟩, st⟩ := hr T hT X
  cases hv
  rw [h0] at hz hk
  obtain ⟨t2, a1, b1⟩ := kk r σ' T'.heap (locs ++ L) hp (by rw [e1]; exact hb)
    ⟨Nat.le_trans hS.1 (by rw [e1]; exact hz), fun q h1 h2 => by rw [e1, hk q (Nat.lt_of_lt_of_le h1 hS.1) h2]; exact hS.2.1 q h1 h2, fun q hq => by
      rcases List.mem_append.mp hq with h | h
      · exact hS.2.2 q h
      · exact hL q h⟩ T' rfl X'
  exact ⟨t2, st t2 a1, b1⟩
end
section
variable {E : qE} {l : Launch} {own : String} {cc : ByteArray} {nL : Nat} {rt : Option FieldType} {n : Nat} {Ret : Option qV → qSt → Prop} {G : qSt → Nat → List (Option qV) → List qV → Prop} {σ : qSt} {pc : Nat} {lv : List (Option qV)} {st : List qV}
theorem r_callV {ix ar k c ci N2 nL2 n2 : Nat} {fl : List (Option Nat)} {i : Int} {y : MethodName} {b : ByteArray} {rt2 : Option FieldType} {As stv : List qV} {Ret2 : Option qV → qSt → Prop} {C2 : String} {T2 : u_T} (C : Cx E l own cc nL rt n Ret G) (hd : decode cc pc = .ok (.invokevirtual ix, 3)) (hm : qMv own ix y b nL2 rt2 ar) (M : CM E l y b nL2 rt2 n2 (qr k i :: As) σ Ret2) (hn : n2 < n) (hs : qsh (eT E) k = .inl (ci, fl)) (hcl : clz[ci]? = some (C2, T2, N2)) (hy : C2 = y.cls) (hc : qcn (eT E) k = c) (hi : 0 ≤ i ∧ i < c) (hst : stv = As.reverse ++ qr k i :: st) (har : As.length = ar) (hW : ((st.map (qv E)).map fun v => v.category).sum ≤ 8) (kk : ∀ (r : Option qV) (σ' : qSt), Ret2 r σ' → G σ' (pc + 3) lv (r.toList ++ st)) : G σ pc lv stv := by
  obtain ⟨p, e, s, m, args, below, meth, cd, ws, ⟨hx, hb, hml, ho, hw⟩, hin, hlk, hrt, hT, hK, rfl⟩ := C
  intro H locs ls hP hS hl
  subst hst
  subst hy
  obtain ⟨q, rfl⟩ : ∃ q : Nat, i = q := ⟨i.toNat, by omega⟩
  have hlt : q < qcn (eT E) k := by omega
  have hg := qBlk_get (σ := σ) hT hlt
  have hcell : qCell E σ k q = .inr (ci, qFld E (σ k q) q fl 0) := by unfold qCell; rw [hs]; rfl
  rw [hcell] at hg
  obtain ⟨m1, m2, m3, m4, m5, m6, m7, m8, m9⟩ := hm
  have hts : ∀ w ∈ qTbl, w.before args s = true := fun w h => hw w (hin w h)
  have hR : (qRm n2).frames + 1 ≤ (qRm n).frames ∧ 8 + (nL2 + 11) + (qRm n2).locals ≤ (qRm n).locals := by simp only [qRm]; omega
  have hws : ∀ w ∈ (Cond.code y b nL2 rt2 :: qTbl), w ∈ qTbl := fun w h => by
    rcases List.mem_cons.mp h with rfl | h
    · exact m5
    · exact h
  have hrun := va_runV (p := p) (e := e) (m := m) (args := args) (below := below) (meth := meth) (c := cd) (locs := locs) (R := qRm n) (cells := 0) (slots := 0) (As := As.map (qv E)) (rest := st.map (qv E)) (g := F0 m pc ls ((As.reverse ++ qr k q :: st).map (qv E))) (b := eo E + qad (eT E) k q) (C := y.cls) (n := ar) (H := H) (s := s) ⟨hx, hb, hml, ho, hw⟩ M
    ⟨callB_of ar hw (q_goodIn hin hws) rfl rfl rfl (hts _ m4) (hts _ m1) ⟨m6, m7, m8⟩ hR, hts _ m2, hts _ m3⟩
    ⟨qPc_blind E _ σ, va_recv hK.1 hP hcl hg, fun U hU hWU => ⟨by simp [qv_r (q_n99 hT hlt)], hK.at hS hU hWU, by rw [hU]; exact hP⟩⟩
    rfl (by simpa using har) hl.1 (by simp [qv_r (q_n99 hT hlt)]) (lv_room hW) hd ⟨Nat.zero_le _, Nat.zero_le _⟩
  refine q_call hrun hS (fun r σ' H1 locs1 h1 h2 h3 => ?_)
  have := kk r σ' h1 H1 locs1 ls h2 h3 hl
  rw [q_map_toList, ← List.map_append]
  exact this
theorem r_callS {ix ar nL2 n2 : Nat} {y : MethodName} {b : ByteArray} {rt2 : Option FieldType} {As stv : List qV} {Ret2 : Option qV → qSt → Prop} (C : Cx E l own cc nL rt n Ret G) (hd : decode cc pc = .ok (.invokestatic ix, 3)) (hm : qMs own ix y b nL2 rt2 ar) (M : CM E l y b nL2 rt2 n2 As σ Ret2) (hn : n2 < n) (hst : stv = As.reverse ++ st) (har : As.length = ar) (hW : ((st.map (qv E)).map fun v => v.category).sum ≤ 8) (kk : ∀ (r : Option qV) (σ' : qSt), Ret2 r σ' → G σ' (pc + 3) lv (r.toList ++ st)) : G σ pc lv stv := by
  obtain ⟨p, e, s, m, args, below, meth, cd, ws, ⟨hx, hb, hml, ho, hw⟩, hin, hlk, hrt, hT, hK, rfl⟩ := C
  intro H locs ls hP hS hl
  subst hst
  obtain ⟨m1, m2, m4, m5, m6, m7, m8, m9⟩ := hm
  have hts : ∀ w ∈ qTbl, w.before args s = true := fun w h => hw w (hin w h)
  have hR : (qRm n2).frames + 1 ≤ (qRm n).frames ∧ 8 + (nL2 + 11) + (qRm n2).locals ≤ (qRm n).locals := by simp only [qRm]; omega
  have hws : ∀ w ∈ (Cond.code y b nL2 rt2 :: qTbl), w ∈ qTbl := fun w h => by
    rcases List.mem_cons.mp h with rfl | h
    · exact m5
    · exact h
  have hrun := va_runS (p := p) (e := e) (m := m) (args := args) (below := below) (meth := meth) (c := cd) (locs := locs) (R := qRm n) (cells := 0) (slots := 0) (As := As.map (qv E)) (rest := st.map (qv E)) (g := F0 m pc ls ((As.reverse ++ st).map (qv E))) (n := ar) (H := H) (s := s) ⟨hx, hb, hml, ho, hw⟩ M
    ⟨callB_of ar hw (q_goodIn hin hws) rfl rfl rfl (hts _ m4) (hts _ m1) ⟨m6, m7, m8⟩ hR, hts _ m2⟩
    ⟨qPc_blind E _ σ, fun U hU hWU => ⟨rfl, hK.at hS hU hWU, by rw [hU]; exact hP⟩⟩
    rfl (by simpa using har) hl.1 (by simp) (lv_room hW) hd ⟨Nat.zero_le _, Nat.zero_le _⟩
  refine q_call hrun hS (fun r σ' H1 locs1 h1 h2 h3 => ?_)
  have := kk r σ' h1 H1 locs1 ls h2 h3 hl
  rw [q_map_toList, ← List.map_append]
  exact this
/-- locals at the entry -/
def qEnt : List qV → List (Option qV)
  | [] => []
  | .inr (.inl z) :: r => some (ql z) :: none :: qEnt r
  | v :: r => some v :: qEnt r
theorem qEnt_as (E : qE) : ∀ (av : List qV) (b k : Nat), qAs E (qEnt av ++ List.replicate k none) b = lv_args b (av.map (qv E))
  | [], b, k => by
    have : ∀ (k b : Nat), qAs E (List.replicate k none) b = [] := by
      intro k
      induction k with
      | zero => intro b; rfl
      | succ k ih => intro b; simp [List.replicate_succ, qAs, ih]
    simp [qEnt, lv_args, this]
  | .inl z :: r, b, k => by
    simp only [qEnt, List.cons_append, qAs, List.map_cons, lv_args]
    rw [qEnt_as E r, if_neg (by simp [qv, Value.category])]
  | .inr (.inl z) :: r, b, k => by
    simp only [qEnt, List.cons_append, qAs, List.map_cons, lv_args]
    rw [qEnt_as E r, if_pos (by simp [qv, Value.category])]
  | .inr (.inr (q, i)) :: r, b, k => by
    simp only [qEnt, List.cons_append, qAs, List.map_cons, lv_args]
    rw [qEnt_as E r, if_neg (by rw [qv_cat E (qr q i) (by intro z h; cases h)]; omega)]
theorem qEnt_len (E : qE) : ∀ av : List qV, (lg_sl (av.map (qv E))).length = (qEnt av).length
  | [] => rfl
  | .inl z :: r => by
    have := qEnt_len E r
    simp [lg_sl, qEnt, qv, Value.category] at this ⊢
    omega
  | .inr (.inl z) :: r => by
    have := qEnt_len E r
    simp [lg_sl, qEnt, qv, Value.category] at this ⊢
    omega
  | .inr (.inr (q, i)) :: r => by
    have := qEnt_len E r
    obtain ⟨x, hx⟩ := qv_ref E q i
    simp only [lg_sl] at this
    simp only [lg_sl, qEnt, List.map_cons, List.flatMap_cons, hx, List.length_append, List.length_cons, this]
    simp [Value.category]
    omega
theorem CM.mk {y : MethodName} {b : ByteArray} {av : List qV} (hT : qTok (eT E)) (hy : plainName y.cls = true) (hl : (qEnt av).length ≤ nL) (h : ∀ G, Cx E l y.cls b nL rt n Ret G → G σ 0 (qEnt av ++ List.replicate (nL - (qEnt av).length) none) []) : CM E l y b nL rt n av σ Ret := by
  refine Met.ofW (cc := b) (maxL := nL) (ret := rt) hy rfl ?_
  intro p e s m args below meth c s₁ B hml hv
  obtain ⟨rfl, hwok, hP⟩ := hv
  rw [lg_entry_eq, qEnt_len]
  refine h _ ⟨p, e, s, m, _, below, meth, c, _, ⟨B.exec, B.bytes, hml, findClass_of_methodNamed B.named, atoms_spec B.pre⟩, fun w hw => List.mem_cons_of_mem _ hw, B.notSynchronized, B.returns, hT, hwok, rfl⟩ s.heap [] _ hP va_S.rf ?_
  unfold qLs
  rw [qEnt_as]
  have := lv_entry (av.map (qv E)) (n := nL) (by rw [qEnt_len]; exact hl)
  rw [qEnt_len] at this
  exact this
theorem CM.weaken {y : MethodName} {b : ByteArray} {av : List qV} {Ret2 : Option qV → qSt → Prop} (h : CM E l y b nL rt n av σ Ret) (hR : ∀ r σ', Ret r σ' → Ret2 r σ') : CM E l y b nL rt n av σ Ret2 := by
  have key : ∀ (a : Array Value) (st : State) (o : Outcome) (t : State), qQc E Ret a st o t → qQc E Ret2 a st o t := by
    rintro a st o t ⟨⟨r, σ', h1, h2, h3⟩, h4⟩
    exact ⟨⟨r, σ', h1, hR r σ' h2, h3⟩, h4⟩
  unfold CM Met at h ⊢
  intro p e a1 a2 a3 s m args below a4 a5 a6 a7
  obtain ⟨k, o, b1, b2, b3, b4, b5⟩ := h p e a1 a2 a3 s m args below a4 a5 a6 a7
  exact ⟨k, o, b1, b2, b3, key _ _ _ _ b4, b5⟩
end
end
