section
-- ===== PART A: goes FIRST, ahead of the names: the tables' words, and 'selects' of the private methods out of them =====
/-- a private method of a class that the tables say can be made, by its rows of tables_1 -/
def lw_okq (q : MethodName × Nat) : Prop := (q.1.cls ≠ "java/lang/invoke/MethodHandle" ∧ q.1.cls ≠ "java/lang/invoke/VarHandle") ∧ Cond.instantiable q.1.cls q.2 ∈ tables_1 ∧ Cond.privateMethod q.1 ∈ tables_1 ∧ Cond.instanceMethod q.1 ∈ tables_1
theorem lw_p0 : lw_okq (⟨"TornLayers", "refuse", "(I)I"⟩, 7) := ⟨⟨by decide +kernel, by decide +kernel⟩, List.mem_of_getElem? (i := 16) (by decide +kernel), List.mem_of_getElem? (i := 173) (by decide +kernel), List.mem_of_getElem? (i := 174) (by decide +kernel)⟩
theorem lw_p1 : lw_okq (⟨"TornLayers", "rewritingCost", "(I)I"⟩, 7) := ⟨⟨by decide +kernel, by decide +kernel⟩, List.mem_of_getElem? (i := 16) (by decide +kernel), List.mem_of_getElem? (i := 202) (by decide +kernel), List.mem_of_getElem? (i := 203) (by decide +kernel)⟩
theorem lw_p2 : lw_okq (⟨"TornLayers", "foresee", "(IIII)I"⟩, 7) := ⟨⟨by decide +kernel, by decide +kernel⟩, List.mem_of_getElem? (i := 16) (by decide +kernel), List.mem_of_getElem? (i := 306) (by decide +kernel), List.mem_of_getElem? (i := 307) (by decide +kernel)⟩
theorem lw_p3 : lw_okq (⟨"TornLayers", "fits", "(IIII)Z"⟩, 7) := ⟨⟨by decide +kernel, by decide +kernel⟩, List.mem_of_getElem? (i := 16) (by decide +kernel), List.mem_of_getElem? (i := 310) (by decide +kernel), List.mem_of_getElem? (i := 311) (by decide +kernel)⟩
theorem lw_p4 : lw_okq (⟨"TornLayers", "isHindered", "(II)Z"⟩, 7) := ⟨⟨by decide +kernel, by decide +kernel⟩, List.mem_of_getElem? (i := 16) (by decide +kernel), List.mem_of_getElem? (i := 314) (by decide +kernel), List.mem_of_getElem? (i := 315) (by decide +kernel)⟩
theorem lw_p5 : lw_okq (⟨"TornLayers", "settle", "(I)I"⟩, 7) := ⟨⟨by decide +kernel, by decide +kernel⟩, List.mem_of_getElem? (i := 16) (by decide +kernel), List.mem_of_getElem? (i := 401) (by decide +kernel), List.mem_of_getElem? (i := 402) (by decide +kernel)⟩
theorem lw_p6 : lw_okq (⟨"TornLayers", "freedByDrop", "(I)I"⟩, 7) := ⟨⟨by decide +kernel, by decide +kernel⟩, List.mem_of_getElem? (i := 16) (by decide +kernel), List.mem_of_getElem? (i := 498) (by decide +kernel), List.mem_of_getElem? (i := 499) (by decide +kernel)⟩
theorem lw_p7 : lw_okq (⟨"TornLayersModel", "isLayer", "(I)Z"⟩, 18) := ⟨⟨by decide +kernel, by decide +kernel⟩, List.mem_of_getElem? (i := 687) (by decide +kernel), List.mem_of_getElem? (i := 752) (by decide +kernel), List.mem_of_getElem? (i := 753) (by decide +kernel)⟩
theorem lw_p8 : lw_okq (⟨"TornLayersModel", "refuse", "(I)I"⟩, 18) := ⟨⟨by decide +kernel, by decide +kernel⟩, List.mem_of_getElem? (i := 687) (by decide +kernel), List.mem_of_getElem? (i := 759) (by decide +kernel), List.mem_of_getElem? (i := 760) (by decide +kernel)⟩
theorem lw_p9 : lw_okq (⟨"TornLayersModel", "readOf", "(II)I"⟩, 18) := ⟨⟨by decide +kernel, by decide +kernel⟩, List.mem_of_getElem? (i := 687) (by decide +kernel), List.mem_of_getElem? (i := 770) (by decide +kernel), List.mem_of_getElem? (i := 771) (by decide +kernel)⟩
theorem lw_p10 : lw_okq (⟨"TornLayersModel", "readBy", "(III)I"⟩, 18) := ⟨⟨by decide +kernel, by decide +kernel⟩, List.mem_of_getElem? (i := 687) (by decide +kernel), List.mem_of_getElem? (i := 774) (by decide +kernel), List.mem_of_getElem? (i := 775) (by decide +kernel)⟩
theorem lw_p11 : lw_okq (⟨"TornLayersModel", "dataOf", "(II)I"⟩, 18) := ⟨⟨by decide +kernel, by decide +kernel⟩, List.mem_of_getElem? (i := 687) (by decide +kernel), List.mem_of_getElem? (i := 778) (by decide +kernel), List.mem_of_getElem? (i := 779) (by decide +kernel)⟩
theorem lw_p12 : lw_okq (⟨"TornLayersModel", "isSnap", "(I)Z"⟩, 18) := ⟨⟨by decide +kernel, by decide +kernel⟩, List.mem_of_getElem? (i := 687) (by decide +kernel), List.mem_of_getElem? (i := 789) (by decide +kernel), List.mem_of_getElem? (i := 790) (by decide +kernel)⟩
theorem lw_p13 : lw_okq (⟨"TornLayersModel", "hasLack", "()Z"⟩, 18) := ⟨⟨by decide +kernel, by decide +kernel⟩, List.mem_of_getElem? (i := 687) (by decide +kernel), List.mem_of_getElem? (i := 808) (by decide +kernel), List.mem_of_getElem? (i := 809) (by decide +kernel)⟩
theorem lw_p14 : lw_okq (⟨"TornLayersModel", "reckons", "()V"⟩, 18) := ⟨⟨by decide +kernel, by decide +kernel⟩, List.mem_of_getElem? (i := 687) (by decide +kernel), List.mem_of_getElem? (i := 812) (by decide +kernel), List.mem_of_getElem? (i := 813) (by decide +kernel)⟩
theorem lw_p15 : lw_okq (⟨"TornLayersModel", "isNamedBy", "(I)Z"⟩, 18) := ⟨⟨by decide +kernel, by decide +kernel⟩, List.mem_of_getElem? (i := 687) (by decide +kernel), List.mem_of_getElem? (i := 816) (by decide +kernel), List.mem_of_getElem? (i := 817) (by decide +kernel)⟩
def lw_privs_1 : List (MethodName × Nat) := [(⟨"TornLayers", "refuse", "(I)I"⟩, 7), (⟨"TornLayers", "rewritingCost", "(I)I"⟩, 7), (⟨"TornLayers", "foresee", "(IIII)I"⟩, 7), (⟨"TornLayers", "fits", "(IIII)Z"⟩, 7), (⟨"TornLayers", "isHindered", "(II)Z"⟩, 7), (⟨"TornLayers", "settle", "(I)I"⟩, 7), (⟨"TornLayers", "freedByDrop", "(I)I"⟩, 7), (⟨"TornLayersModel", "isLayer", "(I)Z"⟩, 18), (⟨"TornLayersModel", "refuse", "(I)I"⟩, 18), (⟨"TornLayersModel", "readOf", "(II)I"⟩, 18), (⟨"TornLayersModel", "readBy", "(III)I"⟩, 18), (⟨"TornLayersModel", "dataOf", "(II)I"⟩, 18), (⟨"TornLayersModel", "isSnap", "(I)Z"⟩, 18), (⟨"TornLayersModel", "hasLack", "()Z"⟩, 18), (⟨"TornLayersModel", "reckons", "()V"⟩, 18), (⟨"TornLayersModel", "isNamedBy", "(I)Z"⟩, 18)]
theorem lw_r1 : ∀ q ∈ lw_privs_1, lw_okq q := List.forall_mem_cons.mpr ⟨lw_p0, List.forall_mem_cons.mpr ⟨lw_p1, List.forall_mem_cons.mpr ⟨lw_p2, List.forall_mem_cons.mpr ⟨lw_p3, List.forall_mem_cons.mpr ⟨lw_p4, List.forall_mem_cons.mpr ⟨lw_p5, List.forall_mem_cons.mpr ⟨lw_p6, List.forall_mem_cons.mpr ⟨lw_p7, List.forall_mem_cons.mpr ⟨lw_p8, List.forall_mem_cons.mpr ⟨lw_p9, List.forall_mem_cons.mpr ⟨lw_p10, List.forall_mem_cons.mpr ⟨lw_p11, List.forall_mem_cons.mpr ⟨lw_p12, List.forall_mem_cons.mpr ⟨lw_p13, List.forall_mem_cons.mpr ⟨lw_p14, List.forall_mem_cons.mpr ⟨lw_p15, fun _ h => absurd h List.not_mem_nil⟩⟩⟩⟩⟩⟩⟩⟩⟩⟩⟩⟩⟩⟩⟩⟩
theorem lw_p16 : lw_okq (⟨"TornLayersModel", "isTable", "(I)Z"⟩, 18) := ⟨⟨by decide +kernel, by decide +kernel⟩, List.mem_of_getElem? (i := 687) (by decide +kernel), List.mem_of_getElem? (i := 820) (by decide +kernel), List.mem_of_getElem? (i := 821) (by decide +kernel)⟩
theorem lw_p17 : lw_okq (⟨"TornLayersModel", "deed", "(IIII)I"⟩, 18) := ⟨⟨by decide +kernel, by decide +kernel⟩, List.mem_of_getElem? (i := 687) (by decide +kernel), List.mem_of_getElem? (i := 824) (by decide +kernel), List.mem_of_getElem? (i := 825) (by decide +kernel)⟩
theorem lw_p18 : lw_okq (⟨"TornLayersModel", "isTooMuch", "(IIII)Z"⟩, 18) := ⟨⟨by decide +kernel, by decide +kernel⟩, List.mem_of_getElem? (i := 687) (by decide +kernel), List.mem_of_getElem? (i := 828) (by decide +kernel), List.mem_of_getElem? (i := 829) (by decide +kernel)⟩
theorem lw_p19 : lw_okq (⟨"TornLayersModel", "performs", "(IIIII)V"⟩, 18) := ⟨⟨by decide +kernel, by decide +kernel⟩, List.mem_of_getElem? (i := 687) (by decide +kernel), List.mem_of_getElem? (i := 835) (by decide +kernel), List.mem_of_getElem? (i := 836) (by decide +kernel)⟩
theorem lw_p20 : lw_okq (⟨"TornLayersModel", "writes", "(III)V"⟩, 18) := ⟨⟨by decide +kernel, by decide +kernel⟩, List.mem_of_getElem? (i := 687) (by decide +kernel), List.mem_of_getElem? (i := 839) (by decide +kernel), List.mem_of_getElem? (i := 840) (by decide +kernel)⟩
theorem lw_p21 : lw_okq (⟨"TornLayersModel", "owns", "(II)V"⟩, 18) := ⟨⟨by decide +kernel, by decide +kernel⟩, List.mem_of_getElem? (i := 687) (by decide +kernel), List.mem_of_getElem? (i := 843) (by decide +kernel), List.mem_of_getElem? (i := 844) (by decide +kernel)⟩
theorem lw_p22 : lw_okq (⟨"TornLayersModel", "anew", "()I"⟩, 18) := ⟨⟨by decide +kernel, by decide +kernel⟩, List.mem_of_getElem? (i := 687) (by decide +kernel), List.mem_of_getElem? (i := 847) (by decide +kernel), List.mem_of_getElem? (i := 848) (by decide +kernel)⟩
theorem lw_p23 : lw_okq (⟨"TornLayersModel", "sets", "(II)V"⟩, 18) := ⟨⟨by decide +kernel, by decide +kernel⟩, List.mem_of_getElem? (i := 687) (by decide +kernel), List.mem_of_getElem? (i := 851) (by decide +kernel), List.mem_of_getElem? (i := 852) (by decide +kernel)⟩
theorem lw_p24 : lw_okq (⟨"TornLayersModel", "may", "()Z"⟩, 18) := ⟨⟨by decide +kernel, by decide +kernel⟩, List.mem_of_getElem? (i := 687) (by decide +kernel), List.mem_of_getElem? (i := 855) (by decide +kernel), List.mem_of_getElem? (i := 856) (by decide +kernel)⟩
theorem lw_p25 : lw_okq (⟨"TornLayersModel", "setsFour", "(IIIII)V"⟩, 18) := ⟨⟨by decide +kernel, by decide +kernel⟩, List.mem_of_getElem? (i := 687) (by decide +kernel), List.mem_of_getElem? (i := 859) (by decide +kernel), List.mem_of_getElem? (i := 860) (by decide +kernel)⟩
theorem lw_p26 : lw_okq (⟨"TornLayersModel", "copiesCells", "(II)V"⟩, 18) := ⟨⟨by decide +kernel, by decide +kernel⟩, List.mem_of_getElem? (i := 687) (by decide +kernel), List.mem_of_getElem? (i := 863) (by decide +kernel), List.mem_of_getElem? (i := 864) (by decide +kernel)⟩
theorem lw_p27 : lw_okq (⟨"TornLayersModel", "counts", "(II)V"⟩, 18) := ⟨⟨by decide +kernel, by decide +kernel⟩, List.mem_of_getElem? (i := 687) (by decide +kernel), List.mem_of_getElem? (i := 867) (by decide +kernel), List.mem_of_getElem? (i := 868) (by decide +kernel)⟩
theorem lw_p28 : lw_okq (⟨"TornLayersModel", "snaps", "(II)V"⟩, 18) := ⟨⟨by decide +kernel, by decide +kernel⟩, List.mem_of_getElem? (i := 687) (by decide +kernel), List.mem_of_getElem? (i := 871) (by decide +kernel), List.mem_of_getElem? (i := 872) (by decide +kernel)⟩
theorem lw_p29 : lw_okq (⟨"TornLayersModel", "countsTables", "(I)V"⟩, 18) := ⟨⟨by decide +kernel, by decide +kernel⟩, List.mem_of_getElem? (i := 687) (by decide +kernel), List.mem_of_getElem? (i := 875) (by decide +kernel), List.mem_of_getElem? (i := 876) (by decide +kernel)⟩
theorem lw_p30 : lw_okq (⟨"TornLayersModel", "drops", "(I)V"⟩, 18) := ⟨⟨by decide +kernel, by decide +kernel⟩, List.mem_of_getElem? (i := 687) (by decide +kernel), List.mem_of_getElem? (i := 879) (by decide +kernel), List.mem_of_getElem? (i := 880) (by decide +kernel)⟩
theorem lw_p31 : lw_okq (⟨"TornLayersModel", "remembers", "(I)V"⟩, 18) := ⟨⟨by decide +kernel, by decide +kernel⟩, List.mem_of_getElem? (i := 687) (by decide +kernel), List.mem_of_getElem? (i := 883) (by decide +kernel), List.mem_of_getElem? (i := 884) (by decide +kernel)⟩
def lw_privs_2 : List (MethodName × Nat) := [(⟨"TornLayersModel", "isTable", "(I)Z"⟩, 18), (⟨"TornLayersModel", "deed", "(IIII)I"⟩, 18), (⟨"TornLayersModel", "isTooMuch", "(IIII)Z"⟩, 18), (⟨"TornLayersModel", "performs", "(IIIII)V"⟩, 18), (⟨"TornLayersModel", "writes", "(III)V"⟩, 18), (⟨"TornLayersModel", "owns", "(II)V"⟩, 18), (⟨"TornLayersModel", "anew", "()I"⟩, 18), (⟨"TornLayersModel", "sets", "(II)V"⟩, 18), (⟨"TornLayersModel", "may", "()Z"⟩, 18), (⟨"TornLayersModel", "setsFour", "(IIIII)V"⟩, 18), (⟨"TornLayersModel", "copiesCells", "(II)V"⟩, 18), (⟨"TornLayersModel", "counts", "(II)V"⟩, 18), (⟨"TornLayersModel", "snaps", "(II)V"⟩, 18), (⟨"TornLayersModel", "countsTables", "(I)V"⟩, 18), (⟨"TornLayersModel", "drops", "(I)V"⟩, 18), (⟨"TornLayersModel", "remembers", "(I)V"⟩, 18)]
theorem lw_r2 : ∀ q ∈ lw_privs_2, lw_okq q := List.forall_mem_cons.mpr ⟨lw_p16, List.forall_mem_cons.mpr ⟨lw_p17, List.forall_mem_cons.mpr ⟨lw_p18, List.forall_mem_cons.mpr ⟨lw_p19, List.forall_mem_cons.mpr ⟨lw_p20, List.forall_mem_cons.mpr ⟨lw_p21, List.forall_mem_cons.mpr ⟨lw_p22, List.forall_mem_cons.mpr ⟨lw_p23, List.forall_mem_cons.mpr ⟨lw_p24, List.forall_mem_cons.mpr ⟨lw_p25, List.forall_mem_cons.mpr ⟨lw_p26, List.forall_mem_cons.mpr ⟨lw_p27, List.forall_mem_cons.mpr ⟨lw_p28, List.forall_mem_cons.mpr ⟨lw_p29, List.forall_mem_cons.mpr ⟨lw_p30, List.forall_mem_cons.mpr ⟨lw_p31, fun _ h => absurd h List.not_mem_nil⟩⟩⟩⟩⟩⟩⟩⟩⟩⟩⟩⟩⟩⟩⟩⟩
theorem lw_p32 : lw_okq (⟨"TornLayersModel", "releasesHad", "()V"⟩, 18) := ⟨⟨by decide +kernel, by decide +kernel⟩, List.mem_of_getElem? (i := 687) (by decide +kernel), List.mem_of_getElem? (i := 887) (by decide +kernel), List.mem_of_getElem? (i := 888) (by decide +kernel)⟩
theorem lw_p33 : lw_okq (⟨"TornLayersModel", "releases", "(I)V"⟩, 18) := ⟨⟨by decide +kernel, by decide +kernel⟩, List.mem_of_getElem? (i := 687) (by decide +kernel), List.mem_of_getElem? (i := 891) (by decide +kernel), List.mem_of_getElem? (i := 892) (by decide +kernel)⟩
theorem lw_p34 : lw_okq (⟨"TornLayersModel", "reverts", "(I)V"⟩, 18) := ⟨⟨by decide +kernel, by decide +kernel⟩, List.mem_of_getElem? (i := 687) (by decide +kernel), List.mem_of_getElem? (i := 895) (by decide +kernel), List.mem_of_getElem? (i := 896) (by decide +kernel)⟩
theorem lw_p35 : lw_okq (⟨"TornLayersModel", "setsDirectory", "(II)V"⟩, 18) := ⟨⟨by decide +kernel, by decide +kernel⟩, List.mem_of_getElem? (i := 687) (by decide +kernel), List.mem_of_getElem? (i := 899) (by decide +kernel), List.mem_of_getElem? (i := 900) (by decide +kernel)⟩
theorem lw_p36 : lw_okq (⟨"TornLayersModel", "givesUp", "(II)V"⟩, 18) := ⟨⟨by decide +kernel, by decide +kernel⟩, List.mem_of_getElem? (i := 687) (by decide +kernel), List.mem_of_getElem? (i := 903) (by decide +kernel), List.mem_of_getElem? (i := 904) (by decide +kernel)⟩
theorem lw_p37 : lw_okq (⟨"TornLayersModel", "merges", "(I)V"⟩, 18) := ⟨⟨by decide +kernel, by decide +kernel⟩, List.mem_of_getElem? (i := 687) (by decide +kernel), List.mem_of_getElem? (i := 907) (by decide +kernel), List.mem_of_getElem? (i := 908) (by decide +kernel)⟩
theorem lw_p38 : lw_okq (⟨"TornLayersModel", "moves", "(III)V"⟩, 18) := ⟨⟨by decide +kernel, by decide +kernel⟩, List.mem_of_getElem? (i := 687) (by decide +kernel), List.mem_of_getElem? (i := 911) (by decide +kernel), List.mem_of_getElem? (i := 912) (by decide +kernel)⟩
theorem lw_p39 : lw_okq (⟨"TornLayersModel", "isSame", "(III)Z"⟩, 18) := ⟨⟨by decide +kernel, by decide +kernel⟩, List.mem_of_getElem? (i := 687) (by decide +kernel), List.mem_of_getElem? (i := 915) (by decide +kernel), List.mem_of_getElem? (i := 916) (by decide +kernel)⟩
theorem lw_p40 : lw_okq (⟨"TornLayersModel", "folds", "()V"⟩, 18) := ⟨⟨by decide +kernel, by decide +kernel⟩, List.mem_of_getElem? (i := 687) (by decide +kernel), List.mem_of_getElem? (i := 919) (by decide +kernel), List.mem_of_getElem? (i := 920) (by decide +kernel)⟩
theorem lw_p41 : lw_okq (⟨"TornLayersModel", "likeOf", "(I)I"⟩, 18) := ⟨⟨by decide +kernel, by decide +kernel⟩, List.mem_of_getElem? (i := 687) (by decide +kernel), List.mem_of_getElem? (i := 923) (by decide +kernel), List.mem_of_getElem? (i := 924) (by decide +kernel)⟩
theorem lw_p42 : lw_okq (⟨"TornLayersModel", "areAlike", "(II)Z"⟩, 18) := ⟨⟨by decide +kernel, by decide +kernel⟩, List.mem_of_getElem? (i := 687) (by decide +kernel), List.mem_of_getElem? (i := 927) (by decide +kernel), List.mem_of_getElem? (i := 928) (by decide +kernel)⟩
theorem lw_p43 : lw_okq (⟨"TornLayersModel", "standsOn", "(II)Z"⟩, 18) := ⟨⟨by decide +kernel, by decide +kernel⟩, List.mem_of_getElem? (i := 687) (by decide +kernel), List.mem_of_getElem? (i := 958) (by decide +kernel), List.mem_of_getElem? (i := 959) (by decide +kernel)⟩
theorem lw_p44 : lw_okq (⟨"TornLayersModel", "directoryOf", "(I)I"⟩, 18) := ⟨⟨by decide +kernel, by decide +kernel⟩, List.mem_of_getElem? (i := 687) (by decide +kernel), List.mem_of_getElem? (i := 993) (by decide +kernel), List.mem_of_getElem? (i := 994) (by decide +kernel)⟩
theorem lw_p45 : lw_okq (⟨"TornLayersModel", "heldBy", "(I)J"⟩, 18) := ⟨⟨by decide +kernel, by decide +kernel⟩, List.mem_of_getElem? (i := 687) (by decide +kernel), List.mem_of_getElem? (i := 997) (by decide +kernel), List.mem_of_getElem? (i := 998) (by decide +kernel)⟩
theorem lw_p46 : lw_okq (⟨"TornLayersModel", "free", "()I"⟩, 18) := ⟨⟨by decide +kernel, by decide +kernel⟩, List.mem_of_getElem? (i := 687) (by decide +kernel), List.mem_of_getElem? (i := 1015) (by decide +kernel), List.mem_of_getElem? (i := 1016) (by decide +kernel)⟩
theorem lw_p47 : lw_okq (⟨"TornLayersModel", "wrong", "(IIZ)I"⟩, 18) := ⟨⟨by decide +kernel, by decide +kernel⟩, List.mem_of_getElem? (i := 687) (by decide +kernel), List.mem_of_getElem? (i := 1027) (by decide +kernel), List.mem_of_getElem? (i := 1028) (by decide +kernel)⟩
def lw_privs_3 : List (MethodName × Nat) := [(⟨"TornLayersModel", "releasesHad", "()V"⟩, 18), (⟨"TornLayersModel", "releases", "(I)V"⟩, 18), (⟨"TornLayersModel", "reverts", "(I)V"⟩, 18), (⟨"TornLayersModel", "setsDirectory", "(II)V"⟩, 18), (⟨"TornLayersModel", "givesUp", "(II)V"⟩, 18), (⟨"TornLayersModel", "merges", "(I)V"⟩, 18), (⟨"TornLayersModel", "moves", "(III)V"⟩, 18), (⟨"TornLayersModel", "isSame", "(III)Z"⟩, 18), (⟨"TornLayersModel", "folds", "()V"⟩, 18), (⟨"TornLayersModel", "likeOf", "(I)I"⟩, 18), (⟨"TornLayersModel", "areAlike", "(II)Z"⟩, 18), (⟨"TornLayersModel", "standsOn", "(II)Z"⟩, 18), (⟨"TornLayersModel", "directoryOf", "(I)I"⟩, 18), (⟨"TornLayersModel", "heldBy", "(I)J"⟩, 18), (⟨"TornLayersModel", "free", "()I"⟩, 18), (⟨"TornLayersModel", "wrong", "(IIZ)I"⟩, 18)]
theorem lw_r3 : ∀ q ∈ lw_privs_3, lw_okq q := List.forall_mem_cons.mpr ⟨lw_p32, List.forall_mem_cons.mpr ⟨lw_p33, List.forall_mem_cons.mpr ⟨lw_p34, List.forall_mem_cons.mpr ⟨lw_p35, List.forall_mem_cons.mpr ⟨lw_p36, List.forall_mem_cons.mpr ⟨lw_p37, List.forall_mem_cons.mpr ⟨lw_p38, List.forall_mem_cons.mpr ⟨lw_p39, List.forall_mem_cons.mpr ⟨lw_p40, List.forall_mem_cons.mpr ⟨lw_p41, List.forall_mem_cons.mpr ⟨lw_p42, List.forall_mem_cons.mpr ⟨lw_p43, List.forall_mem_cons.mpr ⟨lw_p44, List.forall_mem_cons.mpr ⟨lw_p45, List.forall_mem_cons.mpr ⟨lw_p46, List.forall_mem_cons.mpr ⟨lw_p47, fun _ h => absurd h List.not_mem_nil⟩⟩⟩⟩⟩⟩⟩⟩⟩⟩⟩⟩⟩⟩⟩⟩
theorem lw_p48 : lw_okq (⟨"TornLayersModel", "thought", "(IIIII)I"⟩, 18) := ⟨⟨by decide +kernel, by decide +kernel⟩, List.mem_of_getElem? (i := 687) (by decide +kernel), List.mem_of_getElem? (i := 1035) (by decide +kernel), List.mem_of_getElem? (i := 1036) (by decide +kernel)⟩
theorem lw_p49 : lw_okq (⟨"TornLayersModel", "through", "(II)I"⟩, 18) := ⟨⟨by decide +kernel, by decide +kernel⟩, List.mem_of_getElem? (i := 687) (by decide +kernel), List.mem_of_getElem? (i := 1051) (by decide +kernel), List.mem_of_getElem? (i := 1052) (by decide +kernel)⟩
theorem lw_p50 : lw_okq (⟨"TornLayersModel", "areDeeds", "()Z"⟩, 18) := ⟨⟨by decide +kernel, by decide +kernel⟩, List.mem_of_getElem? (i := 687) (by decide +kernel), List.mem_of_getElem? (i := 1071) (by decide +kernel), List.mem_of_getElem? (i := 1072) (by decide +kernel)⟩
theorem lw_p51 : lw_okq (⟨"TornLayersModel", "isDeed", "()Z"⟩, 18) := ⟨⟨by decide +kernel, by decide +kernel⟩, List.mem_of_getElem? (i := 687) (by decide +kernel), List.mem_of_getElem? (i := 1075) (by decide +kernel), List.mem_of_getElem? (i := 1076) (by decide +kernel)⟩
theorem lw_p52 : lw_okq (⟨"TornLayersModel", "isDigit", "(I)Z"⟩, 18) := ⟨⟨by decide +kernel, by decide +kernel⟩, List.mem_of_getElem? (i := 687) (by decide +kernel), List.mem_of_getElem? (i := 1082) (by decide +kernel), List.mem_of_getElem? (i := 1083) (by decide +kernel)⟩
theorem lw_p53 : lw_okq (⟨"TornLayersModel", "does", "(I)I"⟩, 18) := ⟨⟨by decide +kernel, by decide +kernel⟩, List.mem_of_getElem? (i := 687) (by decide +kernel), List.mem_of_getElem? (i := 1086) (by decide +kernel), List.mem_of_getElem? (i := 1087) (by decide +kernel)⟩
def lw_privs_4 : List (MethodName × Nat) := [(⟨"TornLayersModel", "thought", "(IIIII)I"⟩, 18), (⟨"TornLayersModel", "through", "(II)I"⟩, 18), (⟨"TornLayersModel", "areDeeds", "()Z"⟩, 18), (⟨"TornLayersModel", "isDeed", "()Z"⟩, 18), (⟨"TornLayersModel", "isDigit", "(I)Z"⟩, 18), (⟨"TornLayersModel", "does", "(I)I"⟩, 18)]
theorem lw_r4 : ∀ q ∈ lw_privs_4, lw_okq q := List.forall_mem_cons.mpr ⟨lw_p48, List.forall_mem_cons.mpr ⟨lw_p49, List.forall_mem_cons.mpr ⟨lw_p50, List.forall_mem_cons.mpr ⟨lw_p51, List.forall_mem_cons.mpr ⟨lw_p52, List.forall_mem_cons.mpr ⟨lw_p53, fun _ h => absurd h List.not_mem_nil⟩⟩⟩⟩⟩⟩
def lw_privs : List (MethodName × Nat) := lw_privs_1 ++ (lw_privs_2 ++ (lw_privs_3 ++ (lw_privs_4)))
def lw_tbl : List Cond := k2_sels lw_privs ++ tables_1
theorem lw_privs_ok : ∀ q ∈ lw_privs, lw_okq q := by
  show ∀ q ∈ lw_privs_1 ++ (lw_privs_2 ++ (lw_privs_3 ++ (lw_privs_4))), lw_okq q
  exact List.forall_mem_append.mpr ⟨lw_r1, List.forall_mem_append.mpr ⟨lw_r2, List.forall_mem_append.mpr ⟨lw_r3, lw_r4⟩⟩⟩
end
section
/-! ===== BEGIN words of one list among another's, by their places ===== -/
theorem goodIn_r {big : List Cond} (ws : List Cond) (ps : List Nat) (hp : ws = ps.filterMap (fun i => big[i]?)) (h : ws.all goodWord = true) : GoodIn big ws := by
  intro w hw
  have h1 := List.all_eq_true.mp h w hw
  rw [hp] at hw
  obtain ⟨i, -, hi⟩ := List.mem_filterMap.mp hw
  have hm : w ∈ big := by first | exact List.mem_of_getElem? hi | exact List.getElem?_mem hi
  exact ⟨hm, good_of_word h1⟩
theorem goodIn_app {big a b : List Cond} (ha : GoodIn big a) (hb : GoodIn big b) : GoodIn big (a ++ b) := fun w h => (List.mem_append.mp h).elim (ha w) (hb w)
theorem goodIn_ca {big a b : List Cond} {c : Cond} (ha : GoodIn big (c :: a)) (hb : GoodIn big b) : GoodIn big (c :: (a ++ b)) := fun w h => (List.mem_cons.mp h).elim (fun e => ha w (List.mem_cons.mpr (Or.inl e))) (fun h => (List.mem_append.mp h).elim (fun h => ha w (List.mem_cons.mpr (Or.inr h))) (hb w))
theorem goodIn_sub {big ws : List Cond} (hm : ∀ w ∈ ws, w ∈ big) (h : ws.all goodWord = true) : GoodIn big ws := fun w hw => ⟨hm w hw, good_of_word (List.all_eq_true.mp h w hw)⟩
/-! ===== END ===== -/

/-! ===== BEGIN printed: names, fields, word lists, decode rows ===== -/
def RX0 : String := "TornLayers$Image"
def TX0 : u_T := fun k => match k with
  | 0 => ("TornLayers$Image", "cells", "[I", true)
  | 1 => ("TornLayers$Image", "counts", "[I", true)
  | 2 => ("TornLayers$Image", "directories", "[I", true)
  | 3 => ("TornLayers$Image", "backings", "[I", true)
  | 4 => ("TornLayers$Image", "snapLayers", "[I", true)
  | 5 => ("TornLayers$Image", "layers", "I", false)
  | 6 => ("TornLayers$Image", "tearBehind", "I", false)
  | _ => ("TornLayers$Image", "trueCounts", "[I", true)
def tyX0 : Nat → FieldType := fun k => match k with
  | 0 => .array .int
  | 1 => .array .int
  | 2 => .array .int
  | 3 => .array .int
  | 4 => .array .int
  | 5 => .int
  | 6 => .int
  | _ => .array .int
abbrev wsX00 : List Cond := u_ws RX0 TX0 8
theorem nmX0 : ∀ a, a < 8 → ∀ b, b < 8 → a ≠ b → (TX0 a).2.1 ≠ (TX0 b).2.1 := by decide +kernel
theorem tyX0_ok : ∀ k, k < 8 → parseFieldDescriptor (TX0 k).2.2.1 = some (tyX0 k) := by decide +kernel
abbrev cX0_init : ByteArray := prog_2_method_1_code
def yX0_init : MethodName := ⟨RX0, "<init>", "()V"⟩
abbrev cX0_copyFrom : ByteArray := prog_2_method_2_code
def yX0_copyFrom : MethodName := ⟨RX0, "copyFrom", "(LTornLayers$Image;)V"⟩
abbrev cX0_hasLayer : ByteArray := prog_2_method_3_code
def yX0_hasLayer : MethodName := ⟨RX0, "hasLayer", "(I)Z"⟩
abbrev cX0_hasBacking : ByteArray := prog_2_method_4_code
def yX0_hasBacking : MethodName := ⟨RX0, "hasBacking", "(I)Z"⟩
abbrev cX0_hasSnapshot : ByteArray := prog_2_method_5_code
def yX0_hasSnapshot : MethodName := ⟨RX0, "hasSnapshot", "(I)Z"⟩
abbrev cX0_addLayer : ByteArray := prog_2_method_6_code
def yX0_addLayer : MethodName := ⟨RX0, "addLayer", "(I)I"⟩
abbrev cX0_snapshotSet : ByteArray := prog_2_method_7_code
def yX0_snapshotSet : MethodName := ⟨RX0, "snapshotSet", "()I"⟩
abbrev cX0_leastMissingSnapshot : ByteArray := prog_2_method_8_code
def yX0_leastMissingSnapshot : MethodName := ⟨RX0, "leastMissingSnapshot", "()I"⟩
abbrev cX0_layersBelow : ByteArray := prog_2_method_9_code
def yX0_layersBelow : MethodName := ⟨RX0, "layersBelow", "(I)I"⟩
abbrev cX0_standsOn : ByteArray := prog_2_method_10_code
def yX0_standsOn : MethodName := ⟨RX0, "standsOn", "(II)Z"⟩
abbrev cX0_tableAt : ByteArray := prog_2_method_11_code
def yX0_tableAt : MethodName := ⟨RX0, "tableAt", "(II)I"⟩
abbrev cX0_dataAt : ByteArray := prog_2_method_12_code
def yX0_dataAt : MethodName := ⟨RX0, "dataAt", "(II)I"⟩
abbrev cX0_dataOf : ByteArray := prog_2_method_13_code
def yX0_dataOf : MethodName := ⟨RX0, "dataOf", "(II)I"⟩
abbrev cX0_ownBlocks : ByteArray := prog_2_method_14_code
def yX0_ownBlocks : MethodName := ⟨RX0, "ownBlocks", "(I)I"⟩
abbrev cX0_at : ByteArray := prog_2_method_15_code
def yX0_at : MethodName := ⟨RX0, "at", "(II)I"⟩
abbrev cX0_atOld : ByteArray := prog_2_method_16_code
def yX0_atOld : MethodName := ⟨RX0, "atOld", "(II)I"⟩
abbrev cX0_sameBlock : ByteArray := prog_2_method_17_code
def yX0_sameBlock : MethodName := ⟨RX0, "sameBlock", "(III)Z"⟩
abbrev cX0_alike : ByteArray := prog_2_method_18_code
def yX0_alike : MethodName := ⟨RX0, "alike", "(II)Z"⟩
abbrev cX0_leastAlike : ByteArray := prog_2_method_19_code
def yX0_leastAlike : MethodName := ⟨RX0, "leastAlike", "(JI)I"⟩
abbrev cX0_tablesOf : ByteArray := prog_2_method_20_code
def yX0_tablesOf : MethodName := ⟨RX0, "tablesOf", "(II)J"⟩
abbrev cX0_dataNamedBy : ByteArray := prog_2_method_21_code
def yX0_dataNamedBy : MethodName := ⟨RX0, "dataNamedBy", "(J)J"⟩
abbrev cX0_heldBy : ByteArray := prog_2_method_22_code
def yX0_heldBy : MethodName := ⟨RX0, "heldBy", "(I)J"⟩
abbrev cX0_countCells : ByteArray := prog_2_method_23_code
def yX0_countCells : MethodName := ⟨RX0, "countCells", "()V"⟩
abbrev cX0_countTrue : ByteArray := prog_2_method_24_code
def yX0_countTrue : MethodName := ⟨RX0, "countTrue", "()V"⟩
abbrev cX0_leakSet : ByteArray := prog_2_method_25_code
def yX0_leakSet : MethodName := ⟨RX0, "leakSet", "()J"⟩
abbrev cX0_lackSet : ByteArray := prog_2_method_26_code
def yX0_lackSet : MethodName := ⟨RX0, "lackSet", "()J"⟩
abbrev cX0_freeSet : ByteArray := prog_2_method_27_code
def yX0_freeSet : MethodName := ⟨RX0, "freeSet", "()J"⟩
abbrev cX0_sharedData : ByteArray := prog_2_method_28_code
def yX0_sharedData : MethodName := ⟨RX0, "sharedData", "()J"⟩
abbrev cX0_mendCounts : ByteArray := prog_2_method_29_code
def yX0_mendCounts : MethodName := ⟨RX0, "mendCounts", "()I"⟩
def RX1 : String := "TornLayers$Tape"
def TX1 : u_T := fun k => match k with
  | 0 => ("TornLayers$Tape", "bytes", "[I", true)
  | 1 => ("TornLayers$Tape", "numbers", "[I", true)
  | 2 => ("TornLayers$Tape", "length", "I", false)
  | 3 => ("TornLayers$Tape", "at", "I", false)
  | 4 => ("TornLayers$Tape", "kind", "I", false)
  | _ => ("TornLayers$Tape", "deeds", "I", false)
def tyX1 : Nat → FieldType := fun k => match k with
  | 0 => .array .int
  | 1 => .array .int
  | 2 => .int
  | 3 => .int
  | 4 => .int
  | _ => .int
abbrev wsX10 : List Cond := u_ws RX1 TX1 6
theorem nmX1 : ∀ a, a < 6 → ∀ b, b < 6 → a ≠ b → (TX1 a).2.1 ≠ (TX1 b).2.1 := by decide +kernel
theorem tyX1_ok : ∀ k, k < 6 → parseFieldDescriptor (TX1 k).2.2.1 = some (tyX1 k) := by decide +kernel
abbrev cX1_init : ByteArray := prog_3_method_1_code
def yX1_init : MethodName := ⟨RX1, "<init>", "()V"⟩
abbrev cX1_append : ByteArray := prog_3_method_2_code
def yX1_append : MethodName := ⟨RX1, "append", "(I)V"⟩
abbrev cX1_ahead : ByteArray := prog_3_method_3_code
def yX1_ahead : MethodName := ⟨RX1, "ahead", "()I"⟩
abbrev cX1_faultPlace : ByteArray := prog_3_method_4_code
def yX1_faultPlace : MethodName := ⟨RX1, "faultPlace", "()I"⟩
abbrev cX1_takeParting : ByteArray := prog_3_method_5_code
def yX1_takeParting : MethodName := ⟨RX1, "takeParting", "()Z"⟩
abbrev cX1_takeDeed : ByteArray := prog_3_method_6_code
def yX1_takeDeed : MethodName := ⟨RX1, "takeDeed", "()Z"⟩
abbrev cX1_takeNumber : ByteArray := prog_3_method_7_code
def yX1_takeNumber : MethodName := ⟨RX1, "takeNumber", "(I)Z"⟩
def RX2 : String := "TornLayers$Thought"
def TX2 : u_T := fun k => match k with
  | 0 => ("TornLayers$Thought", "image", "LTornLayers$Image;", true)
  | 1 => ("TornLayers$Thought", "kind", "I", false)
  | 2 => ("TornLayers$Thought", "a", "I", false)
  | 3 => ("TornLayers$Thought", "b", "I", false)
  | 4 => ("TornLayers$Thought", "c", "I", false)
  | 5 => ("TornLayers$Thought", "limit", "I", false)
  | 6 => ("TornLayers$Thought", "done", "I", false)
  | 7 => ("TornLayers$Thought", "halt", "I", false)
  | _ => ("TornLayers$Thought", "had", "[I", true)
def tyX2 : Nat → FieldType := fun k => match k with
  | 0 => .object "TornLayers$Image"
  | 1 => .int
  | 2 => .int
  | 3 => .int
  | 4 => .int
  | 5 => .int
  | 6 => .int
  | 7 => .int
  | _ => .array .int
abbrev wsX20 : List Cond := u_ws RX2 TX2 9
theorem nmX2 : ∀ a, a < 9 → ∀ b, b < 9 → a ≠ b → (TX2 a).2.1 ≠ (TX2 b).2.1 := by decide +kernel
theorem tyX2_ok : ∀ k, k < 9 → parseFieldDescriptor (TX2 k).2.2.1 = some (tyX2 k) := by decide +kernel
abbrev cX2_init : ByteArray := prog_4_method_1_code
def yX2_init : MethodName := ⟨RX2, "<init>", "()V"⟩
abbrev cX2_set : ByteArray := prog_4_method_2_code
def yX2_set : MethodName := ⟨RX2, "set", "(IIII)V"⟩
abbrev cX2_start : ByteArray := prog_4_method_3_code
def yX2_start : MethodName := ⟨RX2, "start", "(LTornLayers$Image;I)V"⟩
abbrev cX2_step : ByteArray := prog_4_method_4_code
def yX2_step : MethodName := ⟨RX2, "step", "()Z"⟩
abbrev cX2_addToCount : ByteArray := prog_4_method_5_code
def yX2_addToCount : MethodName := ⟨RX2, "addToCount", "(II)V"⟩
abbrev cX2_newCluster : ByteArray := prog_4_method_6_code
def yX2_newCluster : MethodName := ⟨RX2, "newCluster", "()I"⟩
abbrev cX2_go : ByteArray := prog_4_method_7_code
def yX2_go : MethodName := ⟨RX2, "go", "(LTornLayers$Image;I)V"⟩
abbrev cX2_ownTable : ByteArray := prog_4_method_8_code
def yX2_ownTable : MethodName := ⟨RX2, "ownTable", "(II)I"⟩
abbrev cX2_noteTables : ByteArray := prog_4_method_9_code
def yX2_noteTables : MethodName := ⟨RX2, "noteTables", "(I)V"⟩
abbrev cX2_releaseNoted : ByteArray := prog_4_method_10_code
def yX2_releaseNoted : MethodName := ⟨RX2, "releaseNoted", "()V"⟩
abbrev cX2_rewriteAll : ByteArray := prog_4_method_11_code
def yX2_rewriteAll : MethodName := ⟨RX2, "rewriteAll", "(LTornLayers$Image;I)I"⟩
abbrev cX2_writePlace : ByteArray := prog_4_method_12_code
def yX2_writePlace : MethodName := ⟨RX2, "writePlace", "(III)V"⟩
abbrev cX2_takeSnapshot : ByteArray := prog_4_method_13_code
def yX2_takeSnapshot : MethodName := ⟨RX2, "takeSnapshot", "(II)V"⟩
abbrev cX2_dropSnapshot : ByteArray := prog_4_method_14_code
def yX2_dropSnapshot : MethodName := ⟨RX2, "dropSnapshot", "(I)V"⟩
abbrev cX2_revertTo : ByteArray := prog_4_method_15_code
def yX2_revertTo : MethodName := ⟨RX2, "revertTo", "(I)V"⟩
abbrev cX2_giveUpBlock : ByteArray := prog_4_method_16_code
def yX2_giveUpBlock : MethodName := ⟨RX2, "giveUpBlock", "(II)V"⟩
abbrev cX2_mergeDown : ByteArray := prog_4_method_17_code
def yX2_mergeDown : MethodName := ⟨RX2, "mergeDown", "(I)V"⟩
abbrev cX2_moveOnto : ByteArray := prog_4_method_18_code
def yX2_moveOnto : MethodName := ⟨RX2, "moveOnto", "(III)V"⟩
abbrev cX2_foldAlike : ByteArray := prog_4_method_19_code
def yX2_foldAlike : MethodName := ⟨RX2, "foldAlike", "()V"⟩
def RX3 : String := "TornLayers"
def TX3 : u_T := fun k => match k with
  | 0 => ("TornLayers", "now", "LTornLayers$Image;", true)
  | 1 => ("TornLayers", "kept", "LTornLayers$Image;", true)
  | 2 => ("TornLayers", "thought", "LTornLayers$Thought;", true)
  | 3 => ("TornLayers", "tape", "LTornLayers$Tape;", true)
  | 4 => ("TornLayers", "refusals", "[I", true)
  | 5 => ("TornLayers", "somethingKept", "Z", false)
  | _ => ("TornLayers", "writesEver", "I", false)
def tyX3 : Nat → FieldType := fun k => match k with
  | 0 => .object "TornLayers$Image"
  | 1 => .object "TornLayers$Image"
  | 2 => .object "TornLayers$Thought"
  | 3 => .object "TornLayers$Tape"
  | 4 => .array .int
  | 5 => .boolean
  | _ => .int
abbrev wsX30 : List Cond := u_ws RX3 TX3 7
theorem nmX3 : ∀ a, a < 7 → ∀ b, b < 7 → a ≠ b → (TX3 a).2.1 ≠ (TX3 b).2.1 := by decide +kernel
theorem tyX3_ok : ∀ k, k < 7 → parseFieldDescriptor (TX3 k).2.2.1 = some (tyX3 k) := by decide +kernel
abbrev cX3_init : ByteArray := prog_1_method_1_code
def yX3_init : MethodName := ⟨RX3, "<init>", "()V"⟩
abbrev cX3_layer : ByteArray := prog_1_method_2_code
def yX3_layer : MethodName := ⟨RX3, "layer", "(I)I"⟩
abbrev cX3_of : ByteArray := prog_1_method_3_code
def yX3_of : MethodName := ⟨RX3, "of", "(II)I"⟩
abbrev cX3_read : ByteArray := prog_1_method_4_code
def yX3_read : MethodName := ⟨RX3, "read", "(II)I"⟩
abbrev cX3_readOld : ByteArray := prog_1_method_5_code
def yX3_readOld : MethodName := ⟨RX3, "readOld", "(II)I"⟩
abbrev cX3_unlike : ByteArray := prog_1_method_6_code
def yX3_unlike : MethodName := ⟨RX3, "unlike", "(II)I"⟩
abbrev cX3_sum : ByteArray := prog_1_method_7_code
def yX3_sum : MethodName := ⟨RX3, "sum", "(I)I"⟩
abbrev cX3_write : ByteArray := prog_1_method_8_code
def yX3_write : MethodName := ⟨RX3, "write", "(III)I"⟩
abbrev cX3_snap : ByteArray := prog_1_method_9_code
def yX3_snap : MethodName := ⟨RX3, "snap", "(I)I"⟩
abbrev cX3_drop : ByteArray := prog_1_method_10_code
def yX3_drop : MethodName := ⟨RX3, "drop", "(I)I"⟩
abbrev cX3_revert : ByteArray := prog_1_method_11_code
def yX3_revert : MethodName := ⟨RX3, "revert", "(I)I"⟩
abbrev cX3_giveUp : ByteArray := prog_1_method_12_code
def yX3_giveUp : MethodName := ⟨RX3, "giveUp", "(II)I"⟩
abbrev cX3_merge : ByteArray := prog_1_method_13_code
def yX3_merge : MethodName := ⟨RX3, "merge", "(I)I"⟩
abbrev cX3_move : ByteArray := prog_1_method_14_code
def yX3_move : MethodName := ⟨RX3, "move", "(III)I"⟩
abbrev cX3_fold : ByteArray := prog_1_method_15_code
def yX3_fold : MethodName := ⟨RX3, "fold", "()I"⟩
abbrev cX3_tear : ByteArray := prog_1_method_16_code
def yX3_tear : MethodName := ⟨RX3, "tear", "(I)I"⟩
abbrev cX3_cluster : ByteArray := prog_1_method_17_code
def yX3_cluster : MethodName := ⟨RX3, "cluster", "(II)I"⟩
abbrev cX3_spoil : ByteArray := prog_1_method_18_code
def yX3_spoil : MethodName := ⟨RX3, "spoil", "(II)I"⟩
abbrev cX3_all : ByteArray := prog_1_method_19_code
def yX3_all : MethodName := ⟨RX3, "all", "(I)J"⟩
abbrev cX3_repair : ByteArray := prog_1_method_20_code
def yX3_repair : MethodName := ⟨RX3, "repair", "()I"⟩
abbrev cX3_holds : ByteArray := prog_1_method_21_code
def yX3_holds : MethodName := ⟨RX3, "holds", "(I)J"⟩
abbrev cX3_alone : ByteArray := prog_1_method_22_code
def yX3_alone : MethodName := ⟨RX3, "alone", "(I)J"⟩
abbrev cX3_holders : ByteArray := prog_1_method_23_code
def yX3_holders : MethodName := ⟨RX3, "holders", "(I)I"⟩
abbrev cX3_best : ByteArray := prog_1_method_24_code
def yX3_best : MethodName := ⟨RX3, "best", "(I)I"⟩
abbrev cX3_twins : ByteArray := prog_1_method_25_code
def yX3_twins : MethodName := ⟨RX3, "twins", "()I"⟩
abbrev cX3_cost : ByteArray := prog_1_method_26_code
def yX3_cost : MethodName := ⟨RX3, "cost", "(II)I"⟩
abbrev cX3_torn : ByteArray := prog_1_method_27_code
def yX3_torn : MethodName := ⟨RX3, "torn", "(IIII)I"⟩
abbrev cX3_leaks : ByteArray := prog_1_method_28_code
def yX3_leaks : MethodName := ⟨RX3, "leaks", "(III)I"⟩
abbrev cX3_behind : ByteArray := prog_1_method_29_code
def yX3_behind : MethodName := ⟨RX3, "behind", "(III)I"⟩
abbrev cX3_room : ByteArray := prog_1_method_30_code
def yX3_room : MethodName := ⟨RX3, "room", "(I)I"⟩
abbrev cX3_feed : ByteArray := prog_1_method_31_code
def yX3_feed : MethodName := ⟨RX3, "feed", "(JI)I"⟩
abbrev cX3_wipe : ByteArray := prog_1_method_32_code
def yX3_wipe : MethodName := ⟨RX3, "wipe", "()I"⟩
abbrev cX3_run : ByteArray := prog_1_method_33_code
def yX3_run : MethodName := ⟨RX3, "run", "()I"⟩
abbrev cX3_keep : ByteArray := prog_1_method_34_code
def yX3_keep : MethodName := ⟨RX3, "keep", "()I"⟩
abbrev cX3_again : ByteArray := prog_1_method_35_code
def yX3_again : MethodName := ⟨RX3, "again", "()I"⟩
abbrev cX3_count : ByteArray := prog_1_method_36_code
def yX3_count : MethodName := ⟨RX3, "count", "(I)I"⟩
abbrev cX3_refused : ByteArray := prog_1_method_37_code
def yX3_refused : MethodName := ⟨RX3, "refused", "(I)I"⟩
abbrev cX3_refuse : ByteArray := prog_1_method_38_code
def yX3_refuse : MethodName := ⟨RX3, "refuse", "(I)I"⟩
abbrev cX3_foresee : ByteArray := prog_1_method_39_code
def yX3_foresee : MethodName := ⟨RX3, "foresee", "(IIII)I"⟩
abbrev cX3_settle : ByteArray := prog_1_method_40_code
def yX3_settle : MethodName := ⟨RX3, "settle", "(I)I"⟩
abbrev cX3_fits : ByteArray := prog_1_method_41_code
def yX3_fits : MethodName := ⟨RX3, "fits", "(IIII)Z"⟩
abbrev cX3_isHindered : ByteArray := prog_1_method_42_code
def yX3_isHindered : MethodName := ⟨RX3, "isHindered", "(II)Z"⟩
abbrev cX3_rewritingCost : ByteArray := prog_1_method_43_code
def yX3_rewritingCost : MethodName := ⟨RX3, "rewritingCost", "(I)I"⟩
abbrev cX3_freedByDrop : ByteArray := prog_1_method_44_code
def yX3_freedByDrop : MethodName := ⟨RX3, "freedByDrop", "(I)I"⟩
abbrev cX3_isTornBehind : ByteArray := prog_1_method_45_code
def yX3_isTornBehind : MethodName := ⟨RX3, "isTornBehind", "(I)Z"⟩
abbrev cX3_isPlace : ByteArray := prog_1_method_46_code
def yX3_isPlace : MethodName := ⟨RX3, "isPlace", "(I)Z"⟩
abbrev cX3_isCluster : ByteArray := prog_1_method_47_code
def yX3_isCluster : MethodName := ⟨RX3, "isCluster", "(I)Z"⟩
abbrev cX3_isIn : ByteArray := prog_1_method_48_code
def yX3_isIn : MethodName := ⟨RX3, "isIn", "(JI)Z"⟩
abbrev cX3_holderOf : ByteArray := prog_1_method_49_code
def yX3_holderOf : MethodName := ⟨RX3, "holderOf", "(I)I"⟩
def RX4 : String := "TornLayersModel"
def TX4 : u_T := fun k => match k with
  | 0 => ("TornLayersModel", "now", "[I", true)
  | 1 => ("TornLayersModel", "aside", "[I", true)
  | 2 => ("TornLayersModel", "kept", "[I", true)
  | 3 => ("TornLayersModel", "hasKept", "Z", false)
  | 4 => ("TornLayersModel", "refusals", "[I", true)
  | 5 => ("TornLayersModel", "truly", "[I", true)
  | 6 => ("TornLayersModel", "named", "[I", true)
  | 7 => ("TornLayersModel", "done", "I", false)
  | 8 => ("TornLayersModel", "limit", "I", false)
  | 9 => ("TornLayersModel", "isTorn", "Z", false)
  | 10 => ("TornLayersModel", "isFull", "Z", false)
  | 11 => ("TornLayersModel", "ever", "I", false)
  | 12 => ("TornLayersModel", "had", "[I", true)
  | 13 => ("TornLayersModel", "tape", "[I", true)
  | 14 => ("TornLayersModel", "told", "[I", true)
  | 15 => ("TornLayersModel", "taped", "I", false)
  | 16 => ("TornLayersModel", "deeds", "I", false)
  | _ => ("TornLayersModel", "at", "I", false)
def tyX4 : Nat → FieldType := fun k => match k with
  | 0 => .array .int
  | 1 => .array .int
  | 2 => .array .int
  | 3 => .boolean
  | 4 => .array .int
  | 5 => .array .int
  | 6 => .array .int
  | 7 => .int
  | 8 => .int
  | 9 => .boolean
  | 10 => .boolean
  | 11 => .int
  | 12 => .array .int
  | 13 => .array .int
  | 14 => .array .int
  | 15 => .int
  | 16 => .int
  | _ => .int
abbrev wsX40 : List Cond := u_ws RX4 TX4 18
theorem nmX4 : ∀ a, a < 18 → ∀ b, b < 18 → a ≠ b → (TX4 a).2.1 ≠ (TX4 b).2.1 := by decide +kernel
theorem tyX4_ok : ∀ k, k < 18 → parseFieldDescriptor (TX4 k).2.2.1 = some (tyX4 k) := by decide +kernel
abbrev cX4_init : ByteArray := prog_6_method_1_code
def yX4_init : MethodName := ⟨RX4, "<init>", "()V"⟩
abbrev cX4_in : ByteArray := prog_6_method_2_code
def yX4_in : MethodName := ⟨RX4, "in", "(III)Z"⟩
abbrev cX4_refuse : ByteArray := prog_6_method_3_code
def yX4_refuse : MethodName := ⟨RX4, "refuse", "(I)I"⟩
abbrev cX4_copies : ByteArray := prog_6_method_4_code
def yX4_copies : MethodName := ⟨RX4, "copies", "([I[I)V"⟩
abbrev cX4_isLayer : ByteArray := prog_6_method_5_code
def yX4_isLayer : MethodName := ⟨RX4, "isLayer", "(I)Z"⟩
abbrev cX4_isSnap : ByteArray := prog_6_method_6_code
def yX4_isSnap : MethodName := ⟨RX4, "isSnap", "(I)Z"⟩
abbrev cX4_isPlace : ByteArray := prog_6_method_7_code
def yX4_isPlace : MethodName := ⟨RX4, "isPlace", "(I)Z"⟩
abbrev cX4_isBlock : ByteArray := prog_6_method_8_code
def yX4_isBlock : MethodName := ⟨RX4, "isBlock", "(I)Z"⟩
abbrev cX4_isCluster : ByteArray := prog_6_method_9_code
def yX4_isCluster : MethodName := ⟨RX4, "isCluster", "(I)Z"⟩
abbrev cX4_dir : ByteArray := prog_6_method_10_code
def yX4_dir : MethodName := ⟨RX4, "dir", "(II)I"⟩
abbrev cX4_dataOf : ByteArray := prog_6_method_11_code
def yX4_dataOf : MethodName := ⟨RX4, "dataOf", "(II)I"⟩
abbrev cX4_readBy : ByteArray := prog_6_method_12_code
def yX4_readBy : MethodName := ⟨RX4, "readBy", "(III)I"⟩
abbrev cX4_readOf : ByteArray := prog_6_method_13_code
def yX4_readOf : MethodName := ⟨RX4, "readOf", "(II)I"⟩
abbrev cX4_layer : ByteArray := prog_6_method_14_code
def yX4_layer : MethodName := ⟨RX4, "layer", "(I)I"⟩
abbrev cX4_read : ByteArray := prog_6_method_15_code
def yX4_read : MethodName := ⟨RX4, "read", "(II)I"⟩
abbrev cX4_readOld : ByteArray := prog_6_method_16_code
def yX4_readOld : MethodName := ⟨RX4, "readOld", "(II)I"⟩
abbrev cX4_unlike : ByteArray := prog_6_method_17_code
def yX4_unlike : MethodName := ⟨RX4, "unlike", "(II)I"⟩
abbrev cX4_sum : ByteArray := prog_6_method_18_code
def yX4_sum : MethodName := ⟨RX4, "sum", "(I)I"⟩
abbrev cX4_standsOn : ByteArray := prog_6_method_19_code
def yX4_standsOn : MethodName := ⟨RX4, "standsOn", "(II)Z"⟩
abbrev cX4_isNamedBy : ByteArray := prog_6_method_20_code
def yX4_isNamedBy : MethodName := ⟨RX4, "isNamedBy", "(I)Z"⟩
abbrev cX4_reckons : ByteArray := prog_6_method_21_code
def yX4_reckons : MethodName := ⟨RX4, "reckons", "()V"⟩
abbrev cX4_isTable : ByteArray := prog_6_method_22_code
def yX4_isTable : MethodName := ⟨RX4, "isTable", "(I)Z"⟩
abbrev cX4_hasLack : ByteArray := prog_6_method_23_code
def yX4_hasLack : MethodName := ⟨RX4, "hasLack", "()Z"⟩
abbrev cX4_may : ByteArray := prog_6_method_24_code
def yX4_may : MethodName := ⟨RX4, "may", "()Z"⟩
abbrev cX4_sets : ByteArray := prog_6_method_25_code
def yX4_sets : MethodName := ⟨RX4, "sets", "(II)V"⟩
abbrev cX4_counts : ByteArray := prog_6_method_26_code
def yX4_counts : MethodName := ⟨RX4, "counts", "(II)V"⟩
abbrev cX4_setsFour : ByteArray := prog_6_method_27_code
def yX4_setsFour : MethodName := ⟨RX4, "setsFour", "(IIIII)V"⟩
abbrev cX4_copiesCells : ByteArray := prog_6_method_28_code
def yX4_copiesCells : MethodName := ⟨RX4, "copiesCells", "(II)V"⟩
abbrev cX4_anew : ByteArray := prog_6_method_29_code
def yX4_anew : MethodName := ⟨RX4, "anew", "()I"⟩
abbrev cX4_owns : ByteArray := prog_6_method_30_code
def yX4_owns : MethodName := ⟨RX4, "owns", "(II)V"⟩
abbrev cX4_releases : ByteArray := prog_6_method_31_code
def yX4_releases : MethodName := ⟨RX4, "releases", "(I)V"⟩
abbrev cX4_writes : ByteArray := prog_6_method_32_code
def yX4_writes : MethodName := ⟨RX4, "writes", "(III)V"⟩
abbrev cX4_remembers : ByteArray := prog_6_method_33_code
def yX4_remembers : MethodName := ⟨RX4, "remembers", "(I)V"⟩
abbrev cX4_releasesHad : ByteArray := prog_6_method_34_code
def yX4_releasesHad : MethodName := ⟨RX4, "releasesHad", "()V"⟩
abbrev cX4_countsTables : ByteArray := prog_6_method_35_code
def yX4_countsTables : MethodName := ⟨RX4, "countsTables", "(I)V"⟩
abbrev cX4_setsDirectory : ByteArray := prog_6_method_36_code
def yX4_setsDirectory : MethodName := ⟨RX4, "setsDirectory", "(II)V"⟩
abbrev cX4_snaps : ByteArray := prog_6_method_37_code
def yX4_snaps : MethodName := ⟨RX4, "snaps", "(II)V"⟩
abbrev cX4_drops : ByteArray := prog_6_method_38_code
def yX4_drops : MethodName := ⟨RX4, "drops", "(I)V"⟩
abbrev cX4_reverts : ByteArray := prog_6_method_39_code
def yX4_reverts : MethodName := ⟨RX4, "reverts", "(I)V"⟩
abbrev cX4_givesUp : ByteArray := prog_6_method_40_code
def yX4_givesUp : MethodName := ⟨RX4, "givesUp", "(II)V"⟩
abbrev cX4_merges : ByteArray := prog_6_method_41_code
def yX4_merges : MethodName := ⟨RX4, "merges", "(I)V"⟩
abbrev cX4_isSame : ByteArray := prog_6_method_42_code
def yX4_isSame : MethodName := ⟨RX4, "isSame", "(III)Z"⟩
abbrev cX4_moves : ByteArray := prog_6_method_43_code
def yX4_moves : MethodName := ⟨RX4, "moves", "(III)V"⟩
abbrev cX4_areAlike : ByteArray := prog_6_method_44_code
def yX4_areAlike : MethodName := ⟨RX4, "areAlike", "(II)Z"⟩
abbrev cX4_likeOf : ByteArray := prog_6_method_45_code
def yX4_likeOf : MethodName := ⟨RX4, "likeOf", "(I)I"⟩
abbrev cX4_folds : ByteArray := prog_6_method_46_code
def yX4_folds : MethodName := ⟨RX4, "folds", "()V"⟩
abbrev cX4_performs : ByteArray := prog_6_method_47_code
def yX4_performs : MethodName := ⟨RX4, "performs", "(IIIII)V"⟩
abbrev cX4_isTooMuch : ByteArray := prog_6_method_48_code
def yX4_isTooMuch : MethodName := ⟨RX4, "isTooMuch", "(IIII)Z"⟩
abbrev cX4_deed : ByteArray := prog_6_method_49_code
def yX4_deed : MethodName := ⟨RX4, "deed", "(IIII)I"⟩
abbrev cX4_isByte : ByteArray := prog_6_method_50_code
def yX4_isByte : MethodName := ⟨RX4, "isByte", "(I)Z"⟩
abbrev cX4_write : ByteArray := prog_6_method_51_code
def yX4_write : MethodName := ⟨RX4, "write", "(III)I"⟩
abbrev cX4_snap : ByteArray := prog_6_method_52_code
def yX4_snap : MethodName := ⟨RX4, "snap", "(I)I"⟩
abbrev cX4_drop : ByteArray := prog_6_method_53_code
def yX4_drop : MethodName := ⟨RX4, "drop", "(I)I"⟩
abbrev cX4_revert : ByteArray := prog_6_method_54_code
def yX4_revert : MethodName := ⟨RX4, "revert", "(I)I"⟩
abbrev cX4_giveUp : ByteArray := prog_6_method_55_code
def yX4_giveUp : MethodName := ⟨RX4, "giveUp", "(II)I"⟩
abbrev cX4_merge : ByteArray := prog_6_method_56_code
def yX4_merge : MethodName := ⟨RX4, "merge", "(I)I"⟩
abbrev cX4_move : ByteArray := prog_6_method_57_code
def yX4_move : MethodName := ⟨RX4, "move", "(III)I"⟩
abbrev cX4_fold : ByteArray := prog_6_method_58_code
def yX4_fold : MethodName := ⟨RX4, "fold", "()I"⟩
abbrev cX4_tear : ByteArray := prog_6_method_59_code
def yX4_tear : MethodName := ⟨RX4, "tear", "(I)I"⟩
abbrev cX4_cluster : ByteArray := prog_6_method_60_code
def yX4_cluster : MethodName := ⟨RX4, "cluster", "(II)I"⟩
abbrev cX4_spoil : ByteArray := prog_6_method_61_code
def yX4_spoil : MethodName := ⟨RX4, "spoil", "(II)I"⟩
abbrev cX4_all : ByteArray := prog_6_method_62_code
def yX4_all : MethodName := ⟨RX4, "all", "(I)J"⟩
abbrev cX4_repair : ByteArray := prog_6_method_63_code
def yX4_repair : MethodName := ⟨RX4, "repair", "()I"⟩
abbrev cX4_directoryOf : ByteArray := prog_6_method_64_code
def yX4_directoryOf : MethodName := ⟨RX4, "directoryOf", "(I)I"⟩
abbrev cX4_heldBy : ByteArray := prog_6_method_65_code
def yX4_heldBy : MethodName := ⟨RX4, "heldBy", "(I)J"⟩
abbrev cX4_holds : ByteArray := prog_6_method_66_code
def yX4_holds : MethodName := ⟨RX4, "holds", "(I)J"⟩
abbrev cX4_alone : ByteArray := prog_6_method_67_code
def yX4_alone : MethodName := ⟨RX4, "alone", "(I)J"⟩
abbrev cX4_holders : ByteArray := prog_6_method_68_code
def yX4_holders : MethodName := ⟨RX4, "holders", "(I)I"⟩
abbrev cX4_free : ByteArray := prog_6_method_69_code
def yX4_free : MethodName := ⟨RX4, "free", "()I"⟩
abbrev cX4_best : ByteArray := prog_6_method_70_code
def yX4_best : MethodName := ⟨RX4, "best", "(I)I"⟩
abbrev cX4_twins : ByteArray := prog_6_method_71_code
def yX4_twins : MethodName := ⟨RX4, "twins", "()I"⟩
abbrev cX4_wrong : ByteArray := prog_6_method_72_code
def yX4_wrong : MethodName := ⟨RX4, "wrong", "(IIZ)I"⟩
abbrev cX4_cost : ByteArray := prog_6_method_73_code
def yX4_cost : MethodName := ⟨RX4, "cost", "(II)I"⟩
abbrev cX4_thought : ByteArray := prog_6_method_74_code
def yX4_thought : MethodName := ⟨RX4, "thought", "(IIIII)I"⟩
abbrev cX4_torn : ByteArray := prog_6_method_75_code
def yX4_torn : MethodName := ⟨RX4, "torn", "(IIII)I"⟩
abbrev cX4_leaks : ByteArray := prog_6_method_76_code
def yX4_leaks : MethodName := ⟨RX4, "leaks", "(III)I"⟩
abbrev cX4_behind : ByteArray := prog_6_method_77_code
def yX4_behind : MethodName := ⟨RX4, "behind", "(III)I"⟩
abbrev cX4_through : ByteArray := prog_6_method_78_code
def yX4_through : MethodName := ⟨RX4, "through", "(II)I"⟩
abbrev cX4_room : ByteArray := prog_6_method_79_code
def yX4_room : MethodName := ⟨RX4, "room", "(I)I"⟩
abbrev cX4_of : ByteArray := prog_6_method_80_code
def yX4_of : MethodName := ⟨RX4, "of", "(II)I"⟩
abbrev cX4_feed : ByteArray := prog_6_method_81_code
def yX4_feed : MethodName := ⟨RX4, "feed", "(JI)I"⟩
abbrev cX4_wipe : ByteArray := prog_6_method_82_code
def yX4_wipe : MethodName := ⟨RX4, "wipe", "()I"⟩
abbrev cX4_numbersOf : ByteArray := prog_6_method_83_code
def yX4_numbersOf : MethodName := ⟨RX4, "numbersOf", "(I)I"⟩
abbrev cX4_isDigit : ByteArray := prog_6_method_84_code
def yX4_isDigit : MethodName := ⟨RX4, "isDigit", "(I)Z"⟩
abbrev cX4_isDeed : ByteArray := prog_6_method_85_code
def yX4_isDeed : MethodName := ⟨RX4, "isDeed", "()Z"⟩
abbrev cX4_areDeeds : ByteArray := prog_6_method_86_code
def yX4_areDeeds : MethodName := ⟨RX4, "areDeeds", "()Z"⟩
abbrev cX4_does : ByteArray := prog_6_method_87_code
def yX4_does : MethodName := ⟨RX4, "does", "(I)I"⟩
abbrev cX4_run : ByteArray := prog_6_method_88_code
def yX4_run : MethodName := ⟨RX4, "run", "()I"⟩
abbrev cX4_keep : ByteArray := prog_6_method_89_code
def yX4_keep : MethodName := ⟨RX4, "keep", "()I"⟩
abbrev cX4_again : ByteArray := prog_6_method_90_code
def yX4_again : MethodName := ⟨RX4, "again", "()I"⟩
abbrev cX4_count : ByteArray := prog_6_method_91_code
def yX4_count : MethodName := ⟨RX4, "count", "(I)I"⟩
abbrev cX4_refused : ByteArray := prog_6_method_92_code
def yX4_refused : MethodName := ⟨RX4, "refused", "(I)I"⟩
def RJx145de : String := "java/io/Serializable"
def TJx145de : u_T := fun k => match k with
  | _ => ("", "", "", false)
def tyJx145de : Nat → FieldType := fun k => match k with
  | _ => .int
abbrev wsJx145de0 : List Cond := u_ws RJx145de TJx145de 0
theorem nmJx145de : ∀ a, a < 0 → ∀ b, b < 0 → a ≠ b → (TJx145de a).2.1 ≠ (TJx145de b).2.1 := by decide +kernel
theorem tyJx145de_ok : ∀ k, k < 0 → parseFieldDescriptor (TJx145de k).2.2.1 = some (tyJx145de k) := by decide +kernel
def RJx9f9b0 : String := "java/lang/CharSequence"
def TJx9f9b0 : u_T := fun k => match k with
  | _ => ("", "", "", false)
def tyJx9f9b0 : Nat → FieldType := fun k => match k with
  | _ => .int
abbrev wsJx9f9b00 : List Cond := u_ws RJx9f9b0 TJx9f9b0 0
theorem nmJx9f9b0 : ∀ a, a < 0 → ∀ b, b < 0 → a ≠ b → (TJx9f9b0 a).2.1 ≠ (TJx9f9b0 b).2.1 := by decide +kernel
theorem tyJx9f9b0_ok : ∀ k, k < 0 → parseFieldDescriptor (TJx9f9b0 k).2.2.1 = some (tyJx9f9b0 k) := by decide +kernel
def RJ11 : String := "java/lang/Character"
def TJ11 : u_T := fun k => match k with
  | _ => ("", "", "", false)
def tyJ11 : Nat → FieldType := fun k => match k with
  | _ => .int
abbrev wsJ110 : List Cond := u_ws RJ11 TJ11 0
theorem nmJ11 : ∀ a, a < 0 → ∀ b, b < 0 → a ≠ b → (TJ11 a).2.1 ≠ (TJ11 b).2.1 := by decide +kernel
theorem tyJ11_ok : ∀ k, k < 0 → parseFieldDescriptor (TJ11 k).2.2.1 = some (tyJ11 k) := by decide +kernel
abbrev cJ11_isValidCodePoint_9a6ad : ByteArray := prog_7_method_11_code
def yJ11_isValidCodePoint_9a6ad : MethodName := ⟨RJ11, "isValidCodePoint", "(I)Z"⟩
abbrev cJ11_highSurrogate_5068e : ByteArray := prog_7_method_28_code
def yJ11_highSurrogate_5068e : MethodName := ⟨RJ11, "highSurrogate", "(I)C"⟩
abbrev cJ11_lowSurrogate_5068e : ByteArray := prog_7_method_29_code
def yJ11_lowSurrogate_5068e : MethodName := ⟨RJ11, "lowSurrogate", "(I)C"⟩
def RJxb160c : String := "java/lang/Comparable"
def TJxb160c : u_T := fun k => match k with
  | _ => ("", "", "", false)
def tyJxb160c : Nat → FieldType := fun k => match k with
  | _ => .int
abbrev wsJxb160c0 : List Cond := u_ws RJxb160c TJxb160c 0
theorem nmJxb160c : ∀ a, a < 0 → ∀ b, b < 0 → a ≠ b → (TJxb160c a).2.1 ≠ (TJxb160c b).2.1 := by decide +kernel
theorem tyJxb160c_ok : ∀ k, k < 0 → parseFieldDescriptor (TJxb160c k).2.2.1 = some (tyJxb160c k) := by decide +kernel
def RJ13 : String := "java/lang/Long"
def TJ13 : u_T := fun k => match k with
  | _ => ("", "", "", false)
def tyJ13 : Nat → FieldType := fun k => match k with
  | _ => .int
abbrev wsJ130 : List Cond := u_ws RJ13 TJ13 0
theorem nmJ13 : ∀ a, a < 0 → ∀ b, b < 0 → a ≠ b → (TJ13 a).2.1 ≠ (TJ13 b).2.1 := by decide +kernel
theorem tyJ13_ok : ∀ k, k < 0 → parseFieldDescriptor (TJ13 k).2.2.1 = some (tyJ13 k) := by decide +kernel
abbrev cJ13_bitCount_95d88 : ByteArray := prog_8_method_50_code
def yJ13_bitCount_95d88 : MethodName := ⟨RJ13, "bitCount", "(J)I"⟩
def RJ9 : String := "java/lang/Math"
def TJ9 : u_T := fun k => match k with
  | _ => ("", "", "", false)
def tyJ9 : Nat → FieldType := fun k => match k with
  | _ => .int
abbrev wsJ90 : List Cond := u_ws RJ9 TJ9 0
theorem nmJ9 : ∀ a, a < 0 → ∀ b, b < 0 → a ≠ b → (TJ9 a).2.1 ≠ (TJ9 b).2.1 := by decide +kernel
theorem tyJ9_ok : ∀ k, k < 0 → parseFieldDescriptor (TJ9 k).2.2.1 = some (tyJ9 k) := by decide +kernel
abbrev cJ9_max_7cf53 : ByteArray := prog_9_method_65_code
def yJ9_max_7cf53 : MethodName := ⟨RJ9, "max", "(II)I"⟩
abbrev cJ9_min_7cf53 : ByteArray := prog_9_method_69_code
def yJ9_min_7cf53 : MethodName := ⟨RJ9, "min", "(II)I"⟩
def RJ0 : String := "java/lang/String"
def TJ0 : u_T := fun k => match k with
  | _ => ("", "", "", false)
def tyJ0 : Nat → FieldType := fun k => match k with
  | _ => .int
abbrev wsJ00 : List Cond := u_ws RJ0 TJ0 0
theorem nmJ0 : ∀ a, a < 0 → ∀ b, b < 0 → a ≠ b → (TJ0 a).2.1 ≠ (TJ0 b).2.1 := by decide +kernel
theorem tyJ0_ok : ∀ k, k < 0 → parseFieldDescriptor (TJ0 k).2.2.1 = some (tyJ0 k) := by decide +kernel
abbrev cJ0_length_8abf5 : ByteArray := prog_10_method_54_code
def yJ0_length_8abf5 : MethodName := ⟨RJ0, "length", "()I"⟩
abbrev cJ0_indexOf_0f7a4 : ByteArray := prog_10_method_79_code
def yJ0_indexOf_0f7a4 : MethodName := ⟨RJ0, "indexOf", "(I)I"⟩
abbrev cJ0_indexOf_7cf53 : ByteArray := prog_10_method_80_code
def yJ0_indexOf_7cf53 : MethodName := ⟨RJ0, "indexOf", "(II)I"⟩
abbrev cJ0_coder_7d493 : ByteArray := prog_10_method_152_code
def yJ0_coder_7d493 : MethodName := ⟨RJ0, "coder", "()B"⟩
abbrev cJ0_isLatin1_aae02 : ByteArray := prog_10_method_154_code
def yJ0_isLatin1_aae02 : MethodName := ⟨RJ0, "isLatin1", "()Z"⟩
abbrev cJ0_checkBoundsBeginEnd_23922 : ByteArray := prog_10_method_158_code
def yJ0_checkBoundsBeginEnd_23922 : MethodName := ⟨RJ0, "checkBoundsBeginEnd", "(III)V"⟩
def RJ1 : String := "java/lang/StringLatin1"
def TJ1 : u_T := fun k => match k with
  | _ => ("", "", "", false)
def tyJ1 : Nat → FieldType := fun k => match k with
  | _ => .int
abbrev wsJ10 : List Cond := u_ws RJ1 TJ1 0
theorem nmJ1 : ∀ a, a < 0 → ∀ b, b < 0 → a ≠ b → (TJ1 a).2.1 ≠ (TJ1 b).2.1 := by decide +kernel
theorem tyJ1_ok : ∀ k, k < 0 → parseFieldDescriptor (TJ1 k).2.2.1 = some (tyJ1 k) := by decide +kernel
abbrev cJ1_canEncode_9a6ad : ByteArray := prog_11_method_4_code
def yJ1_canEncode_9a6ad : MethodName := ⟨RJ1, "canEncode", "(I)Z"⟩
abbrev cJ1_indexOf_4cfef : ByteArray := prog_11_method_22_code
def yJ1_indexOf_4cfef : MethodName := ⟨RJ1, "indexOf", "([BIII)I"⟩
abbrev cJ1_indexOfChar_4cfef : ByteArray := prog_11_method_23_code
def yJ1_indexOfChar_4cfef : MethodName := ⟨RJ1, "indexOfChar", "([BIII)I"⟩
def RJ2 : String := "java/lang/StringUTF16"
def TJ2 : u_T := fun k => match k with
  | _ => ("", "", "", false)
def tyJ2 : Nat → FieldType := fun k => match k with
  | _ => .int
abbrev wsJ20 : List Cond := u_ws RJ2 TJ2 0
theorem nmJ2 : ∀ a, a < 0 → ∀ b, b < 0 → a ≠ b → (TJ2 a).2.1 ≠ (TJ2 b).2.1 := by decide +kernel
theorem tyJ2_ok : ∀ k, k < 0 → parseFieldDescriptor (TJ2 k).2.2.1 = some (tyJ2 k) := by decide +kernel
abbrev cJ2_getChar_3b067 : ByteArray := prog_12_method_5_code
def yJ2_getChar_3b067 : MethodName := ⟨RJ2, "getChar", "([BI)C"⟩
abbrev cJ2_length_9d52b : ByteArray := prog_12_method_6_code
def yJ2_length_9d52b : MethodName := ⟨RJ2, "length", "([B)I"⟩
abbrev cJ2_indexOf_4cfef : ByteArray := prog_12_method_40_code
def yJ2_indexOf_4cfef : MethodName := ⟨RJ2, "indexOf", "([BIII)I"⟩
abbrev cJ2_indexOfChar_4cfef : ByteArray := prog_12_method_47_code
def yJ2_indexOfChar_4cfef : MethodName := ⟨RJ2, "indexOfChar", "([BIII)I"⟩
abbrev cJ2_indexOfCharUnsafe_4cfef : ByteArray := prog_12_method_48_code
def yJ2_indexOfCharUnsafe_4cfef : MethodName := ⟨RJ2, "indexOfCharUnsafe", "([BIII)I"⟩
abbrev cJ2_indexOfSupplementary_4cfef : ByteArray := prog_12_method_49_code
def yJ2_indexOfSupplementary_4cfef : MethodName := ⟨RJ2, "indexOfSupplementary", "([BIII)I"⟩
abbrev cJ2_checkBoundsBeginEnd_d044e : ByteArray := prog_12_method_93_code
def yJ2_checkBoundsBeginEnd_d044e : MethodName := ⟨RJ2, "checkBoundsBeginEnd", "(II[B)V"⟩
def RJ10 : String := "java/lang/System"
def TJ10 : u_T := fun k => match k with
  | _ => ("", "", "", false)
def tyJ10 : Nat → FieldType := fun k => match k with
  | _ => .int
abbrev wsJ100 : List Cond := u_ws RJ10 TJ10 0
theorem nmJ10 : ∀ a, a < 0 → ∀ b, b < 0 → a ≠ b → (TJ10 a).2.1 ≠ (TJ10 b).2.1 := by decide +kernel
theorem tyJ10_ok : ∀ k, k < 0 → parseFieldDescriptor (TJ10 k).2.2.1 = some (tyJ10 k) := by decide +kernel
def RJxfd54e : String := "java/lang/constant/Constable"
def TJxfd54e : u_T := fun k => match k with
  | _ => ("", "", "", false)
def tyJxfd54e : Nat → FieldType := fun k => match k with
  | _ => .int
abbrev wsJxfd54e0 : List Cond := u_ws RJxfd54e TJxfd54e 0
theorem nmJxfd54e : ∀ a, a < 0 → ∀ b, b < 0 → a ≠ b → (TJxfd54e a).2.1 ≠ (TJxfd54e b).2.1 := by decide +kernel
theorem tyJxfd54e_ok : ∀ k, k < 0 → parseFieldDescriptor (TJxfd54e k).2.2.1 = some (tyJxfd54e k) := by decide +kernel
def RJx3cf43 : String := "java/lang/constant/ConstantDesc"
def TJx3cf43 : u_T := fun k => match k with
  | _ => ("", "", "", false)
def tyJx3cf43 : Nat → FieldType := fun k => match k with
  | _ => .int
abbrev wsJx3cf430 : List Cond := u_ws RJx3cf43 TJx3cf43 0
theorem nmJx3cf43 : ∀ a, a < 0 → ∀ b, b < 0 → a ≠ b → (TJx3cf43 a).2.1 ≠ (TJx3cf43 b).2.1 := by decide +kernel
theorem tyJx3cf43_ok : ∀ k, k < 0 → parseFieldDescriptor (TJx3cf43 k).2.2.1 = some (tyJx3cf43 k) := by decide +kernel
def RJ7 : String := "java/util/Arrays"
def TJ7 : u_T := fun k => match k with
  | _ => ("", "", "", false)
def tyJ7 : Nat → FieldType := fun k => match k with
  | _ => .int
abbrev wsJ70 : List Cond := u_ws RJ7 TJ7 0
theorem nmJ7 : ∀ a, a < 0 → ∀ b, b < 0 → a ≠ b → (TJ7 a).2.1 ≠ (TJ7 b).2.1 := by decide +kernel
theorem tyJ7_ok : ∀ k, k < 0 → parseFieldDescriptor (TJ7 k).2.2.1 = some (tyJ7 k) := by decide +kernel
abbrev cJ7_rangeCheck_23922 : ByteArray := prog_14_method_30_code
def yJ7_rangeCheck_23922 : MethodName := ⟨RJ7, "rangeCheck", "(III)V"⟩
abbrev cJ7_fill_53178 : ByteArray := prog_14_method_103_code
def yJ7_fill_53178 : MethodName := ⟨RJ7, "fill", "([II)V"⟩
abbrev cJ7_fill_fda19 : ByteArray := prog_14_method_104_code
def yJ7_fill_fda19 : MethodName := ⟨RJ7, "fill", "([IIII)V"⟩
def RJ3 : String := "jdk/internal/util/Preconditions"
def TJ3 : u_T := fun k => match k with
  | _ => ("", "", "", false)
def tyJ3 : Nat → FieldType := fun k => match k with
  | _ => .int
abbrev wsJ30 : List Cond := u_ws RJ3 TJ3 0
theorem nmJ3 : ∀ a, a < 0 → ∀ b, b < 0 → a ≠ b → (TJ3 a).2.1 ≠ (TJ3 b).2.1 := by decide +kernel
theorem tyJ3_ok : ∀ k, k < 0 → parseFieldDescriptor (TJ3 k).2.2.1 = some (tyJ3 k) := by decide +kernel
abbrev cJ3_checkFromToIndex_8c36e : ByteArray := prog_15_method_12_code
def yJ3_checkFromToIndex_8c36e : MethodName := ⟨RJ3, "checkFromToIndex", "(IIILjava/util/function/BiFunction;)I"⟩
def RL : String := "TornLayersLaw"
abbrev cL_law : ByteArray := code
def yL_law : MethodName := ⟨RL, "law", "([I)Z"⟩
abbrev vwCl : List vw_C := [(RX0, TX0, 8), (RX1, TX1, 6), (RX2, TX2, 9), (RX3, TX3, 7), (RX4, TX4, 18)]
end
section
/-! ===== a small semantics of the bytecode over one fixed world: values, heap, one instruction, a block, a method ===== -/
/-- a cell: of an image (which, which part), or another by its number -/
abbrev mRef : Type := (Fin 3 × Nat) ⊕ Nat
abbrev mV : Type := Int32 ⊕ (Int64 ⊕ mRef)
abbrev mH : Type := mRef → Nat → Int32
abbrev mL : Type := List (Option mV)
abbrev mC : Type := mL → List mV → mH → Prop
abbrev mP : Type := Option mV → mH → Prop
abbrev mK : Type := Nat → List mV → mH → mP → Prop
/-- an instruction: its pc, itself, its length, what its operand means here -/
abbrev mE : Type := Nat × Instr × Nat × List Nat
abbrev mB : Type := Bool × List mE
def hup (h : mH) (r : mRef) (k : Nat) (v : Int32) : mH := fun r' k' => if r' = r ∧ k' = k then v else h r' k'
def hcp (h : mH) (a : mRef) (sp : Nat) (d : mRef) (dp n : Nat) : mH := fun r' k' => if r' = d ∧ dp ≤ k' ∧ k' < dp + n then h a (sp + (k' - dp)) else h r' k'
/-- an object's class and fields (none: a number) -/
def obj (r : mRef) : Nat × List (Option mRef) := match r with
  | .inl (i, 0) => (0, [some (.inl (i, 1)), some (.inl (i, 2)), some (.inl (i, 3)), some (.inl (i, 4)), some (.inl (i, 5)), none, none, some (.inl (i, 6))])
  | .inr 0 => (3, [some (.inl (0, 0)), some (.inl (1, 0)), some (.inr 2), some (.inr 4), some (.inr 1), none, none])
  | .inr 2 => (2, [some (.inl (2, 0)), none, none, none, none, none, none, none, some (.inr 3)])
  | .inr 4 => (1, [some (.inr 5), some (.inr 6), none, none, none, none])
  | .inr 7 => (4, [some (.inr 8), some (.inr 9), some (.inr 10), none, some (.inr 11), some (.inr 12), some (.inr 13), none, none, none, none, none, some (.inr 14), some (.inr 15), some (.inr 16), none, none, none])
  | _ => (99, [])
/-- an array's length; of the script: sL -/
def arr (sL : Nat) (r : mRef) : Option Nat := match r with
  | .inl (_, 1) => some 256
  | .inl (_, 2) => some 64
  | .inl (_, 3) => some 56
  | .inl (_, 4) => some 6
  | .inl (_, 5) => some 8
  | .inl (_, 6) => some 64
  | .inr 1 => some 4
  | .inr 3 => some 4
  | .inr 5 => some 120
  | .inr 6 => some 3
  | .inr 8 => some 400
  | .inr 9 => some 400
  | .inr 10 => some 400
  | .inr 11 => some 4
  | .inr 12 => some 64
  | .inr 13 => some 64
  | .inr 14 => some 4
  | .inr 15 => some 120
  | .inr 16 => some 480
  | .inr 20 => some 7
  | .inr 22 => some sL
  | _ => none
/-- the same, of those that may be written -/
def arw (r : mRef) : Option Nat := match r with
  | .inl (_, 1) => some 256
  | .inl (_, 2) => some 64
  | .inl (_, 3) => some 56
  | .inl (_, 4) => some 6
  | .inl (_, 5) => some 8
  | .inl (_, 6) => some 64
  | .inr 1 => some 4
  | .inr 3 => some 4
  | .inr 5 => some 120
  | .inr 6 => some 3
  | .inr 8 => some 400
  | .inr 9 => some 400
  | .inr 10 => some 400
  | .inr 11 => some 4
  | .inr 12 => some 64
  | .inr 13 => some 64
  | .inr 14 => some 4
  | .inr 15 => some 120
  | .inr 16 => some 480
  | _ => none
def lst (ls : mL) (k : Nat) (v : mV) : mL := ls.set k (some v)
/-- a long takes two: behind it stands none -/
def ls2 (ls : mL) (k : Nat) (v : mV) : mL := (ls.set k (some v)).set (k + 1) none
/-- what is known of a local: a long only if what is behind it is none -/
def lcl (ls : mL) (k : Nat) : Option mV := match ls.getD k none with
  | some (.inr (.inl x)) => match ls.getD (k + 1) none with
    | none => some (.inr (.inl x))
    | some _ => none
  | o => o
def bz (x : Int32) : Prop := x = 0 ∨ x = 1
/-- what an instruction without heap does to locals and stack -/
def pop1 (i : Instr) (t : List Nat) (ls : mL) (st : List mV) : Option (mL × List mV) := match i with
  | .iconst n => some (ls, .inl (Int32.ofInt n) :: st)
  | .bipush n => some (ls, .inl (Int8.ofInt n).toInt32 :: st)
  | .sipush n => some (ls, .inl (Int16.ofInt n).toInt32 :: st)
  | .lconst n => some (ls, .inr (.inl (Int64.ofNat (n : Nat))) :: st)
  | .ldc _ => match t with
    | [0, v] => some (ls, .inl (Int32.ofNat v) :: st)
    | [1] => some (ls, .inr (.inr (.inr 21)) :: st)
    | _ => none
  | .ldc2_w _ => match t with
    | [v] => some (ls, .inr (.inl (Int64.ofNat v)) :: st)
    | _ => none
  | .getstatic _ => some (ls, .inr (.inr (.inr 20)) :: st)
  | .iload k => match lcl ls k with
    | some (.inl x) => some (ls, .inl x :: st)
    | _ => none
  | .iload_n k => match lcl ls k.val with
    | some (.inl x) => some (ls, .inl x :: st)
    | _ => none
  | .lload k => match lcl ls k with
    | some (.inr (.inl x)) => some (ls, .inr (.inl x) :: st)
    | _ => none
  | .lload_n k => match lcl ls k.val with
    | some (.inr (.inl x)) => some (ls, .inr (.inl x) :: st)
    | _ => none
  | .aload k => match lcl ls k with
    | some (.inr (.inr r)) => some (ls, .inr (.inr r) :: st)
    | _ => none
  | .aload_n k => match lcl ls k.val with
    | some (.inr (.inr r)) => some (ls, .inr (.inr r) :: st)
    | _ => none
  | .istore k => match st with
    | .inl x :: s => some (lst ls k (.inl x), s)
    | _ => none
  | .istore_n k => match st with
    | .inl x :: s => some (lst ls k.val (.inl x), s)
    | _ => none
  | .astore k => match st with
    | .inr (.inr r) :: s => some (lst ls k (.inr (.inr r)), s)
    | _ => none
  | .astore_n k => match st with
    | .inr (.inr r) :: s => some (lst ls k.val (.inr (.inr r)), s)
    | _ => none
  | .lstore k => match st with
    | .inr (.inl x) :: s => some (ls2 ls k (.inr (.inl x)), s)
    | _ => none
  | .lstore_n k => match st with
    | .inr (.inl x) :: s => some (ls2 ls k.val (.inr (.inl x)), s)
    | _ => none
  | .iinc k n => match lcl ls k with
    | some (.inl x) => some (lst ls k (.inl (x + Int32.ofInt n)), st)
    | _ => none
  | .iadd => match st with
    | .inl y :: .inl x :: s => some (ls, .inl (x + y) :: s)
    | _ => none
  | .isub => match st with
    | .inl y :: .inl x :: s => some (ls, .inl (x - y) :: s)
    | _ => none
  | .imul => match st with
    | .inl y :: .inl x :: s => some (ls, .inl (x * y) :: s)
    | _ => none
  | .iand => match st with
    | .inl y :: .inl x :: s => some (ls, .inl (x &&& y) :: s)
    | _ => none
  | .ior => match st with
    | .inl y :: .inl x :: s => some (ls, .inl (x ||| y) :: s)
    | _ => none
  | .ishl => match st with
    | .inl y :: .inl x :: s => some (ls, .inl (x <<< (y &&& 31)) :: s)
    | _ => none
  | .ladd => match st with
    | .inr (.inl y) :: .inr (.inl x) :: s => some (ls, .inr (.inl (x + y)) :: s)
    | _ => none
  | .lsub => match st with
    | .inr (.inl y) :: .inr (.inl x) :: s => some (ls, .inr (.inl (x - y)) :: s)
    | _ => none
  | .land => match st with
    | .inr (.inl y) :: .inr (.inl x) :: s => some (ls, .inr (.inl (x &&& y)) :: s)
    | _ => none
  | .lor => match st with
    | .inr (.inl y) :: .inr (.inl x) :: s => some (ls, .inr (.inl (x ||| y)) :: s)
    | _ => none
  | .lxor => match st with
    | .inr (.inl y) :: .inr (.inl x) :: s => some (ls, .inr (.inl (x ^^^ y)) :: s)
    | _ => none
  | .lshl => match st with
    | .inl y :: .inr (.inl x) :: s => some (ls, .inr (.inl (x <<< (y.toInt64 &&& 63))) :: s)
    | _ => none
  | .lushr => match st with
    | .inl y :: .inr (.inl x) :: s => some (ls, .inr (.inl (x.toUInt64 >>> (y.toInt64.toUInt64 &&& Int64.toUInt64 63)).toInt64) :: s)
    | _ => none
  | .lcmp => match st with
    | .inr (.inl y) :: .inr (.inl x) :: s => some (ls, .inl (lg_cmp x y) :: s)
    | _ => none
  | .i2l => match st with
    | .inl x :: s => some (ls, .inr (.inl x.toInt64) :: s)
    | _ => none
  | .l2i => match st with
    | .inr (.inl x) :: s => some (ls, .inl x.toInt32 :: s)
    | _ => none
  | .i2c => match st with
    | .inl x :: s => some (ls, .inl (x.toUInt32 % 65536).toInt32 :: s)
    | _ => none
  | .dup => match st with
    | .inl x :: s => some (ls, .inl x :: .inl x :: s)
    | .inr (.inr r) :: s => some (ls, .inr (.inr r) :: .inr (.inr r) :: s)
    | _ => none
  | .dup2 => match st with
    | .inl x :: .inr (.inr r) :: s => some (ls, .inl x :: .inr (.inr r) :: .inl x :: .inr (.inr r) :: s)
    | _ => none
  | .pop => match st with
    | .inl _ :: s => some (ls, s)
    | _ => none
  | _ => none
def brc (c : ClassFile.Cond) (x y : Int32) (A B : Prop) : Prop := match c with
  | .eq => (x = y → A) ∧ (¬ x = y → B)
  | .ne => (¬ x = y → A) ∧ (x = y → B)
  | .lt => (x < y → A) ∧ (¬ x < y → B)
  | .ge => (y ≤ x → A) ∧ (¬ y ≤ x → B)
  | .gt => (y < x → A) ∧ (¬ y < x → B)
  | .le => (x ≤ y → A) ∧ (¬ x ≤ y → B)
def swt (x : Int32) (L : Nat → Prop) (D : Prop) : Int → List Nat → Prop
  | _, [] => D
  | lo, k :: ts => (x = Int32.ofInt lo → L k) ∧ (¬ x = Int32.ofInt lo → swt x L D (lo + 1) ts)
/-- calls: of an int, of a long, of no answer -/
def pI (p : Int32 → mH → Prop) : mP := fun v h => match v with
  | some (.inl x) => p x h
  | _ => False
def pG (p : Int64 → mH → Prop) : mP := fun v h => match v with
  | some (.inr (.inl x)) => p x h
  | _ => False
def pU (p : mH → Prop) : mP := fun v h => match v with
  | none => p h
  | _ => False
def mI (M : mK) (y : Nat) (as : List mV) (h : mH) (p : Int32 → mH → Prop) : Prop := M y as h (pI p)
def mG (M : mK) (y : Nat) (as : List mV) (h : mH) (p : Int64 → mH → Prop) : Prop := M y as h (pG p)
def mU (M : mK) (y : Nat) (as : List mV) (h : mH) (p : mH → Prop) : Prop := M y as h (pU p)
theorem pI_mono {p q : Int32 → mH → Prop} (h : ∀ x h', p x h' → q x h') : ∀ v h', pI p v h' → pI q v h'
  | some (.inl x), h', k => h x h' k
  | none, _, k => k
  | some (.inr _), _, k => k
theorem pG_mono {p q : Int64 → mH → Prop} (h : ∀ x h', p x h' → q x h') : ∀ v h', pG p v h' → pG q v h'
  | some (.inr (.inl x)), h', k => h x h' k
  | none, _, k => k
  | some (.inl _), _, k => k
  | some (.inr (.inr _)), _, k => k
theorem pU_mono {p q : mH → Prop} (h : ∀ h', p h' → q h') : ∀ v h', pU p v h' → pU q v h'
  | none, h', k => h h' k
  | some _, _, k => k
def cal (M : mK) (t : List Nat) (nx : mC) (ls : mL) (st : List mV) (h : mH) : Prop := match t with
  | [_, y, n, 0] => if n ≤ st.length ∧ st.length ≤ n + 4 then mU M y (st.take n).reverse h (fun h' => nx ls (st.drop n) h') else False
  | [_, y, n, 1] => if n ≤ st.length ∧ st.length ≤ n + 4 then mI M y (st.take n).reverse h (fun x h' => nx ls (.inl x :: st.drop n) h') else False
  | [_, y, n, 2] => if n ≤ st.length ∧ st.length ≤ n + 4 then mG M y (st.take n).reverse h (fun x h' => nx ls (.inr (.inl x) :: st.drop n) h') else False
  | [9] => match st with
    | .inl n :: .inl dp :: .inr (.inr d) :: .inl sp :: .inr (.inr a) :: s => ∃ na nd, arw a = some na ∧ arw d = some nd ∧ 0 ≤ sp ∧ 0 ≤ dp ∧ 0 ≤ n ∧ sp.toNatClampNeg + n.toNatClampNeg ≤ na ∧ dp.toNatClampNeg + n.toNatClampNeg ≤ nd ∧ s.length ≤ 4 ∧ nx ls s (hcp h a sp.toNatClampNeg d dp.toNatClampNeg n.toNatClampNeg)
    | _ => False
  | _ => False
def den1 (M : mK) (sL : Nat) (post : mP) (L : Nat → mC) (b : Nat) (it : mE) (nx : mC) : mC := fun ls st h =>
  match it.2.1 with
  | .ireturn => match st with
    | [.inl x] => match it.2.2.2 with
      | [] => post (some (.inl x)) h
      | _ => bz x ∧ post (some (.inl x)) h
    | _ => False
  | .lreturn => match st with
    | [.inr (.inl x)] => post (some (.inr (.inl x))) h
    | _ => False
  | .return_ => match st with
    | [] => post none h
    | _ => False
  | .goto _ => match it.2.2.2 with
    | [k] => L k ls st h
    | _ => False
  | .ifCond c _ => match it.2.2.2, st with
    | [k], .inl x :: s => brc c x 0 (L k ls s h) (L (b + 1) ls s h)
    | _, _ => False
  | .if_icmp c _ => match it.2.2.2, st with
    | [k], .inl y :: .inl x :: s => brc c x y (L k ls s h) (L (b + 1) ls s h)
    | _, _ => False
  | .tableswitch _ lo _ _ => match it.2.2.2, st with
    | k :: ts, .inl x :: s => swt x (fun j => L j ls s h) (L k ls s h) lo ts
    | _, _ => False
  | .getfield _ => match it.2.2.2, st with
    | [ci, k], .inr (.inr r) :: s => if (obj r).1 = ci then match (obj r).2[k]? with
        | some (some r') => nx ls (.inr (.inr r') :: s) h
        | some none => nx ls (.inl (h r k) :: s) h
        | none => False else False
    | _, _ => False
  | .putfield _ => match it.2.2.2, st with
    | [ci, k], .inl v :: .inr (.inr r) :: s => if (obj r).1 = ci then match (obj r).2[k]? with
        | some none => nx ls s (hup h r k v)
        | _ => False else False
    | [ci, k, _], .inl v :: .inr (.inr r) :: s => if (obj r).1 = ci then match (obj r).2[k]? with
        | some none => bz v ∧ nx ls s (hup h r k v)
        | _ => False else False
    | _, _ => False
  | .iaload => match st with
    | .inl j :: .inr (.inr r) :: s => match arr sL r with
      | some n => vp_in j n ∧ nx ls (.inl (h r j.toNatClampNeg) :: s) h
      | none => False
    | _ => False
  | .iastore => match st with
    | .inl v :: .inl j :: .inr (.inr r) :: s => match arw r with
      | some n => vp_in j n ∧ nx ls s (hup h r j.toNatClampNeg v)
      | none => False
    | _ => False
  | .arraylength => match st with
    | .inr (.inr r) :: s => match arr sL r with
      | some n => nx ls (.inl (nI n) :: s) h
      | none => False
    | _ => False
  | .idiv => match st with
    | .inl y :: .inl x :: s => ¬ y = 0 ∧ nx ls (.inl (x / y) :: s) h
    | _ => False
  | .irem => match st with
    | .inl y :: .inl x :: s => ¬ y = 0 ∧ nx ls (.inl (x - x / y * y) :: s) h
    | _ => False
  | .invokevirtual _ => cal M it.2.2.2 nx ls st h
  | .invokestatic _ => cal M it.2.2.2 nx ls st h
  | i => match pop1 i it.2.2.2 ls st with
    | some q => nx q.1 q.2 h
    | none => False
/-- a block from an instruction on; behind its last the next block -/
def denB (M : mK) (sL : Nat) (post : mP) (L : Nat → mC) (b : Nat) (c : List mE) : mC := c.foldr (den1 M sL post L b) (L (b + 1))
def blk (code : List mB) (b : Nat) : mB := code.getD b (false, [])
/-- from block b on the method comes to its end, with post: the least such -/
def EX (M : mK) (sL : Nat) (code : List mB) (post : mP) (b : Nat) : mC := fun ls st h => ∀ X : Nat → mC, (∀ b ls st h, denB M sL post X b (blk code b).2 ls st h → X b ls st h) → X b ls st h
/-- the same gone through from block to block, but for those that are cut -/
def wsl (M : mK) (sL : Nat) (code : List mB) (post : mP) (L : Nat → mC) (b : Nat) (q : Bool) (c : List mE) : mC := match q with
  | true => EX M sL code post b
  | false => denB M sL post L b c
def wpc (M : mK) (sL : Nat) (code : List mB) (post : mP) (cut : List Bool) : Nat → Nat → mC
  | 0, b => EX M sL code post b
  | k + 1, b => wsl M sL code post (wpc M sL code post cut k) b (cut.getD b false) (blk code b).2
/-! ===== it is monotone ===== -/
def mMono (M : mK) : Prop := ∀ (y : Nat) (as : List mV) (h : mH) (p q : mP), (∀ v h', p v h' → q v h') → M y as h p → M y as h q
theorem brc_mono {c : ClassFile.Cond} {x y : Int32} {A A' B B' : Prop} (ha : A → A') (hb : B → B') : brc c x y A B → brc c x y A' B' := by
  cases c <;> exact fun h => ⟨fun q => ha (h.1 q), fun q => hb (h.2 q)⟩
theorem swt_mono {x : Int32} {L L' : Nat → Prop} {D D' : Prop} (hl : ∀ k, L k → L' k) (hd : D → D') : ∀ (ts : List Nat) (lo : Int), swt x L D lo ts → swt x L' D' lo ts
  | [], _, h => hd h
  | k :: ts, lo, h => ⟨fun q => hl k (h.1 q), fun q => swt_mono hl hd ts (lo + 1) (h.2 q)⟩
theorem cal_mono {M : mK} (hM : mMono M) {t : List Nat} {nx nx' : mC} (hn : ∀ ls st h, nx ls st h → nx' ls st h) {ls : mL} {st : List mV} {h : mH} : cal M t nx ls st h → cal M t nx' ls st h := by
  unfold cal
  split
  · split
    · exact hM _ _ _ _ _ (pU_mono fun h' q => hn _ _ _ q)
    · exact id
  · split
    · exact hM _ _ _ _ _ (pI_mono fun x h' q => hn _ _ _ q)
    · exact id
  · split
    · exact hM _ _ _ _ _ (pG_mono fun x h' q => hn _ _ _ q)
    · exact id
  · split
    · intro ⟨na, nd, h1, h2, h3, h4, h5, h6, h7, h8, h9⟩
      exact ⟨na, nd, h1, h2, h3, h4, h5, h6, h7, h8, hn _ _ _ h9⟩
    · exact id
  · exact id
set_option maxHeartbeats 4000000 in
theorem den1_mono {M : mK} (hM : mMono M) {sL : Nat} {post post' : mP} {L L' : Nat → mC} {b : Nat} {it : mE} {nx nx' : mC} (hp : ∀ v h, post v h → post' v h) (hL : ∀ k ls st h, L k ls st h → L' k ls st h) (hn : ∀ ls st h, nx ls st h → nx' ls st h) {ls : mL} {st : List mV} {h : mH} : den1 M sL post L b it nx ls st h → den1 M sL post' L' b it nx' ls st h := by
  unfold den1
  split
  · split
    · split
      · exact hp _ _
      · exact fun q => ⟨q.1, hp _ _ q.2⟩
    · exact id
  · split
    · exact hp _ _
    · exact id
  · split
    · exact hp _ _
    · exact id
  · split
    · exact hL _ _ _ _
    · exact id
  · split
    · exact brc_mono (hL _ _ _ _) (hL _ _ _ _)
    · exact id
  · split
    · exact brc_mono (hL _ _ _ _) (hL _ _ _ _)
    · exact id
  · split
    · exact swt_mono (fun k => hL _ _ _ _) (hL _ _ _ _) _ _
    · exact id
  · split
    · split
      · split
        · exact hn _ _ _
        · exact hn _ _ _
        · exact id
      · exact id
    · exact id
  · split
    · split
      · split
        · exact hn _ _ _
        · exact id
      · exact id
    · split
      · split
        · exact fun q => ⟨q.1, hn _ _ _ q.2⟩
        · exact id
      · exact id
    · exact id
  · split
    · split
      · exact fun q => ⟨q.1, hn _ _ _ q.2⟩
      · exact id
    · exact id
  · split
    · split
      · exact fun q => ⟨q.1, hn _ _ _ q.2⟩
      · exact id
    · exact id
  · split
    · split
      · exact hn _ _ _
      · exact id
    · exact id
  · split
    · exact fun q => ⟨q.1, hn _ _ _ q.2⟩
    · exact id
  · split
    · exact fun q => ⟨q.1, hn _ _ _ q.2⟩
    · exact id
  · exact cal_mono hM hn
  · exact cal_mono hM hn
  · split
    · exact hn _ _ _
    · exact id
theorem denB_mono {M : mK} (hM : mMono M) {sL : Nat} {post post' : mP} {L L' : Nat → mC} {b : Nat} (hp : ∀ v h, post v h → post' v h) (hL : ∀ k ls st h, L k ls st h → L' k ls st h) : ∀ (c : List mE) {ls : mL} {st : List mV} {h : mH}, denB M sL post L b c ls st h → denB M sL post' L' b c ls st h
  | [], _, _, _, h => hL _ _ _ _ h
  | it :: c, ls, st, hh, h => den1_mono (sL := sL) (b := b) (it := it) (nx := denB M sL post L b c) (nx' := denB M sL post' L' b c) hM hp hL (fun _ _ _ q => denB_mono hM hp hL c q) h
theorem EX.u {M : mK} (hM : mMono M) {sL : Nat} {code : List mB} {post : mP} {b : Nat} {ls : mL} {st : List mV} {h : mH} (H : denB M sL post (EX M sL code post) b (blk code b).2 ls st h) : EX M sL code post b ls st h :=
  fun X hX => hX _ _ _ _ (denB_mono hM (fun _ _ q => q) (fun _ _ _ _ q => q X hX) _ H)
theorem EX.mono {M : mK} (hM : mMono M) {sL : Nat} {code : List mB} {post post' : mP} (hp : ∀ v h, post v h → post' v h) {b : Nat} {ls : mL} {st : List mV} {h : mH} (H : EX M sL code post b ls st h) : EX M sL code post' b ls st h :=
  fun X hX => H X (fun _ _ _ _ q => hX _ _ _ _ (denB_mono hM hp (fun _ _ _ _ q => q) _ q))
theorem EX.gb {M : mK} (hM : mMono M) {sL : Nat} {code : List mB} {post : mP} (cut : List Bool) : ∀ (k b : Nat) {ls : mL} {st : List mV} {h : mH}, wpc M sL code post cut k b ls st h → EX M sL code post b ls st h
  | 0, _, _, _, _, H => H
  | k + 1, b, ls, st, h, H => by
    unfold wpc at H
    cases hf : cut.getD b false with
    | true => rw [hf] at H; exact H
    | false => rw [hf] at H; exact EX.u hM (denB_mono hM (fun _ _ q => q) (fun b' _ _ _ q => EX.gb hM cut k b' q) _ H)
/-- go: block b, and those behind it that are not cut -/
theorem EX.go {M : mK} (hM : mMono M) {sL : Nat} {code : List mB} {post : mP} (cut : List Bool) (k b : Nat) {ls : mL} {st : List mV} {h : mH} (H : wsl M sL code post (wpc M sL code post cut k) b false (blk code b).2 ls st h) : EX M sL code post b ls st h :=
  EX.u hM (denB_mono hM (fun _ _ q => q) (fun b' _ _ _ q => EX.gb hM cut k b' q) _ H)
end
section
/-! ===== the methods, as blocks ===== -/
def md_X0_copyFrom : List mB := [
  (false, [(0, .aload_n 1, 1, []), (1, .getfield 9, 3, [0, 0]), (4, .iconst 0, 1, []), (5, .aload_n 0, 1, []), (6, .getfield 9, 3, [0, 0]), (9, .iconst 0, 1, []), (10, .aload_n 0, 1, []), (11, .getfield 9, 3, [0, 0]), (14, .arraylength, 1, []), (15, .invokestatic 43, 3, [9]), (18, .aload_n 1, 1, []), (19, .getfield 15, 3, [0, 1]), (22, .iconst 0, 1, []), (23, .aload_n 0, 1, []), (24, .getfield 15, 3, [0, 1]), (27, .iconst 0, 1, []), (28, .aload_n 0, 1, []), (29, .getfield 15, 3, [0, 1]), (32, .arraylength, 1, []), (33, .invokestatic 43, 3, [9]), (36, .aload_n 1, 1, []), (37, .getfield 18, 3, [0, 2]), (40, .iconst 0, 1, []), (41, .aload_n 0, 1, []), (42, .getfield 18, 3, [0, 2]), (45, .iconst 0, 1, []), (46, .aload_n 0, 1, []), (47, .getfield 18, 3, [0, 2]), (50, .arraylength, 1, []), (51, .invokestatic 43, 3, [9]), (54, .aload_n 1, 1, []), (55, .getfield 21, 3, [0, 3]), (58, .iconst 0, 1, []), (59, .aload_n 0, 1, []), (60, .getfield 21, 3, [0, 3]), (63, .iconst 0, 1, []), (64, .aload_n 0, 1, []), (65, .getfield 21, 3, [0, 3]), (68, .arraylength, 1, []), (69, .invokestatic 43, 3, [9]), (72, .aload_n 1, 1, []), (73, .getfield 24, 3, [0, 4]), (76, .iconst 0, 1, []), (77, .aload_n 0, 1, []), (78, .getfield 24, 3, [0, 4]), (81, .iconst 0, 1, []), (82, .aload_n 0, 1, []), (83, .getfield 24, 3, [0, 4]), (86, .arraylength, 1, []), (87, .invokestatic 43, 3, [9]), (90, .aload_n 0, 1, []), (91, .aload_n 1, 1, []), (92, .getfield 27, 3, [0, 5]), (95, .putfield 27, 3, [0, 5]), (98, .aload_n 0, 1, []), (99, .aload_n 1, 1, []), (100, .getfield 31, 3, [0, 6]), (103, .putfield 31, 3, [0, 6]), (106, .return_, 1, [])])]
theorem cb_X0_copyFrom_0 : (blk md_X0_copyFrom 0).2 = [(0, .aload_n 1, 1, []), (1, .getfield 9, 3, [0, 0]), (4, .iconst 0, 1, []), (5, .aload_n 0, 1, []), (6, .getfield 9, 3, [0, 0]), (9, .iconst 0, 1, []), (10, .aload_n 0, 1, []), (11, .getfield 9, 3, [0, 0]), (14, .arraylength, 1, []), (15, .invokestatic 43, 3, [9]), (18, .aload_n 1, 1, []), (19, .getfield 15, 3, [0, 1]), (22, .iconst 0, 1, []), (23, .aload_n 0, 1, []), (24, .getfield 15, 3, [0, 1]), (27, .iconst 0, 1, []), (28, .aload_n 0, 1, []), (29, .getfield 15, 3, [0, 1]), (32, .arraylength, 1, []), (33, .invokestatic 43, 3, [9]), (36, .aload_n 1, 1, []), (37, .getfield 18, 3, [0, 2]), (40, .iconst 0, 1, []), (41, .aload_n 0, 1, []), (42, .getfield 18, 3, [0, 2]), (45, .iconst 0, 1, []), (46, .aload_n 0, 1, []), (47, .getfield 18, 3, [0, 2]), (50, .arraylength, 1, []), (51, .invokestatic 43, 3, [9]), (54, .aload_n 1, 1, []), (55, .getfield 21, 3, [0, 3]), (58, .iconst 0, 1, []), (59, .aload_n 0, 1, []), (60, .getfield 21, 3, [0, 3]), (63, .iconst 0, 1, []), (64, .aload_n 0, 1, []), (65, .getfield 21, 3, [0, 3]), (68, .arraylength, 1, []), (69, .invokestatic 43, 3, [9]), (72, .aload_n 1, 1, []), (73, .getfield 24, 3, [0, 4]), (76, .iconst 0, 1, []), (77, .aload_n 0, 1, []), (78, .getfield 24, 3, [0, 4]), (81, .iconst 0, 1, []), (82, .aload_n 0, 1, []), (83, .getfield 24, 3, [0, 4]), (86, .arraylength, 1, []), (87, .invokestatic 43, 3, [9]), (90, .aload_n 0, 1, []), (91, .aload_n 1, 1, []), (92, .getfield 27, 3, [0, 5]), (95, .putfield 27, 3, [0, 5]), (98, .aload_n 0, 1, []), (99, .aload_n 1, 1, []), (100, .getfield 31, 3, [0, 6]), (103, .putfield 31, 3, [0, 6]), (106, .return_, 1, [])] := rfl
def md_X0_hasLayer : List mB := [
  (false, [(0, .iload_n 1, 1, []), (1, .ifCond .lt 21, 3, [4])]),
  (false, [(4, .iload_n 1, 1, []), (5, .aload_n 0, 1, []), (6, .getfield 27, 3, [0, 5]), (9, .if_icmp .ge 13, 3, [4])]),
  (false, [(12, .iload_n 1, 1, []), (13, .bipush 6, 2, []), (15, .if_icmp .ge 7, 3, [4])]),
  (false, [(18, .iconst 1, 1, []), (19, .goto 4, 3, [5])]),
  (false, [(22, .iconst 0, 1, [])]),
  (false, [(23, .ireturn, 1, [1])])]
theorem cb_X0_hasLayer_0 : (blk md_X0_hasLayer 0).2 = [(0, .iload_n 1, 1, []), (1, .ifCond .lt 21, 3, [4])] := rfl
theorem cb_X0_hasLayer_1 : (blk md_X0_hasLayer 1).2 = [(4, .iload_n 1, 1, []), (5, .aload_n 0, 1, []), (6, .getfield 27, 3, [0, 5]), (9, .if_icmp .ge 13, 3, [4])] := rfl
theorem cb_X0_hasLayer_2 : (blk md_X0_hasLayer 2).2 = [(12, .iload_n 1, 1, []), (13, .bipush 6, 2, []), (15, .if_icmp .ge 7, 3, [4])] := rfl
theorem cb_X0_hasLayer_3 : (blk md_X0_hasLayer 3).2 = [(18, .iconst 1, 1, []), (19, .goto 4, 3, [5])] := rfl
theorem cb_X0_hasLayer_4 : (blk md_X0_hasLayer 4).2 = [(22, .iconst 0, 1, [])] := rfl
theorem cb_X0_hasLayer_5 : (blk md_X0_hasLayer 5).2 = [(23, .ireturn, 1, [1])] := rfl
def md_X0_hasBacking : List mB := [
  (false, [(0, .iload_n 1, 1, []), (1, .iconst (-1), 1, []), (2, .if_icmp .eq 11, 3, [2])]),
  (false, [(5, .aload_n 0, 1, []), (6, .iload_n 1, 1, []), (7, .invokevirtual 49, 3, [0, 1, 2, 1]), (10, .ifCond .eq 7, 3, [3])]),
  (false, [(13, .iconst 1, 1, []), (14, .goto 4, 3, [4])]),
  (false, [(17, .iconst 0, 1, [])]),
  (false, [(18, .ireturn, 1, [1])])]
theorem cb_X0_hasBacking_0 : (blk md_X0_hasBacking 0).2 = [(0, .iload_n 1, 1, []), (1, .iconst (-1), 1, []), (2, .if_icmp .eq 11, 3, [2])] := rfl
theorem cb_X0_hasBacking_1 : (blk md_X0_hasBacking 1).2 = [(5, .aload_n 0, 1, []), (6, .iload_n 1, 1, []), (7, .invokevirtual 49, 3, [0, 1, 2, 1]), (10, .ifCond .eq 7, 3, [3])] := rfl
theorem cb_X0_hasBacking_2 : (blk md_X0_hasBacking 2).2 = [(13, .iconst 1, 1, []), (14, .goto 4, 3, [4])] := rfl
theorem cb_X0_hasBacking_3 : (blk md_X0_hasBacking 3).2 = [(17, .iconst 0, 1, [])] := rfl
theorem cb_X0_hasBacking_4 : (blk md_X0_hasBacking 4).2 = [(18, .ireturn, 1, [1])] := rfl
def md_X0_hasSnapshot : List mB := [
  (false, [(0, .iload_n 1, 1, []), (1, .ifCond .lt 23, 3, [4])]),
  (false, [(4, .iload_n 1, 1, []), (5, .bipush 8, 2, []), (7, .if_icmp .ge 17, 3, [4])]),
  (false, [(10, .aload_n 0, 1, []), (11, .getfield 24, 3, [0, 4]), (14, .iload_n 1, 1, []), (15, .iaload, 1, []), (16, .iconst (-1), 1, []), (17, .if_icmp .eq 7, 3, [4])]),
  (false, [(20, .iconst 1, 1, []), (21, .goto 4, 3, [5])]),
  (false, [(24, .iconst 0, 1, [])]),
  (false, [(25, .ireturn, 1, [1])])]
theorem cb_X0_hasSnapshot_0 : (blk md_X0_hasSnapshot 0).2 = [(0, .iload_n 1, 1, []), (1, .ifCond .lt 23, 3, [4])] := rfl
theorem cb_X0_hasSnapshot_1 : (blk md_X0_hasSnapshot 1).2 = [(4, .iload_n 1, 1, []), (5, .bipush 8, 2, []), (7, .if_icmp .ge 17, 3, [4])] := rfl
theorem cb_X0_hasSnapshot_2 : (blk md_X0_hasSnapshot 2).2 = [(10, .aload_n 0, 1, []), (11, .getfield 24, 3, [0, 4]), (14, .iload_n 1, 1, []), (15, .iaload, 1, []), (16, .iconst (-1), 1, []), (17, .if_icmp .eq 7, 3, [4])] := rfl
theorem cb_X0_hasSnapshot_3 : (blk md_X0_hasSnapshot 3).2 = [(20, .iconst 1, 1, []), (21, .goto 4, 3, [5])] := rfl
theorem cb_X0_hasSnapshot_4 : (blk md_X0_hasSnapshot 4).2 = [(24, .iconst 0, 1, [])] := rfl
theorem cb_X0_hasSnapshot_5 : (blk md_X0_hasSnapshot 5).2 = [(25, .ireturn, 1, [1])] := rfl
def md_X0_addLayer : List mB := [
  (false, [(0, .aload_n 0, 1, []), (1, .getfield 27, 3, [0, 5]), (4, .istore_n 2, 1, []), (5, .iload_n 2, 1, []), (6, .bipush 6, 2, []), (8, .if_icmp .lt 5, 3, [2])]),
  (false, [(11, .iconst (-1), 1, []), (12, .ireturn, 1, [])]),
  (false, [(13, .aload_n 0, 1, []), (14, .getfield 21, 3, [0, 3]), (17, .iload_n 2, 1, []), (18, .iload_n 1, 1, []), (19, .iastore, 1, []), (20, .aload_n 0, 1, []), (21, .dup, 1, []), (22, .getfield 27, 3, [0, 5]), (25, .iconst 1, 1, []), (26, .iadd, 1, []), (27, .putfield 27, 3, [0, 5]), (30, .iload_n 2, 1, []), (31, .ireturn, 1, [])])]
theorem cb_X0_addLayer_0 : (blk md_X0_addLayer 0).2 = [(0, .aload_n 0, 1, []), (1, .getfield 27, 3, [0, 5]), (4, .istore_n 2, 1, []), (5, .iload_n 2, 1, []), (6, .bipush 6, 2, []), (8, .if_icmp .lt 5, 3, [2])] := rfl
theorem cb_X0_addLayer_1 : (blk md_X0_addLayer 1).2 = [(11, .iconst (-1), 1, []), (12, .ireturn, 1, [])] := rfl
theorem cb_X0_addLayer_2 : (blk md_X0_addLayer 2).2 = [(13, .aload_n 0, 1, []), (14, .getfield 21, 3, [0, 3]), (17, .iload_n 2, 1, []), (18, .iload_n 1, 1, []), (19, .iastore, 1, []), (20, .aload_n 0, 1, []), (21, .dup, 1, []), (22, .getfield 27, 3, [0, 5]), (25, .iconst 1, 1, []), (26, .iadd, 1, []), (27, .putfield 27, 3, [0, 5]), (30, .iload_n 2, 1, []), (31, .ireturn, 1, [])] := rfl
def md_X0_snapshotSet : List mB := [
  (false, [(0, .iconst 0, 1, []), (1, .istore_n 1, 1, []), (2, .iconst 0, 1, []), (3, .istore_n 2, 1, [])]),
  (false, [(4, .iload_n 2, 1, []), (5, .bipush 8, 2, []), (7, .if_icmp .ge 25, 3, [5])]),
  (false, [(10, .aload_n 0, 1, []), (11, .getfield 24, 3, [0, 4]), (14, .iload_n 2, 1, []), (15, .iaload, 1, []), (16, .iconst (-1), 1, []), (17, .if_icmp .eq 9, 3, [4])]),
  (false, [(20, .iload_n 1, 1, []), (21, .iconst 1, 1, []), (22, .iload_n 2, 1, []), (23, .ishl, 1, []), (24, .ior, 1, []), (25, .istore_n 1, 1, [])]),
  (false, [(26, .iinc 2 1, 3, []), (29, .goto (-25), 3, [1])]),
  (false, [(32, .iload_n 1, 1, []), (33, .ireturn, 1, [])])]
theorem cb_X0_snapshotSet_0 : (blk md_X0_snapshotSet 0).2 = [(0, .iconst 0, 1, []), (1, .istore_n 1, 1, []), (2, .iconst 0, 1, []), (3, .istore_n 2, 1, [])] := rfl
theorem cb_X0_snapshotSet_1 : (blk md_X0_snapshotSet 1).2 = [(4, .iload_n 2, 1, []), (5, .bipush 8, 2, []), (7, .if_icmp .ge 25, 3, [5])] := rfl
theorem cb_X0_snapshotSet_2 : (blk md_X0_snapshotSet 2).2 = [(10, .aload_n 0, 1, []), (11, .getfield 24, 3, [0, 4]), (14, .iload_n 2, 1, []), (15, .iaload, 1, []), (16, .iconst (-1), 1, []), (17, .if_icmp .eq 9, 3, [4])] := rfl
theorem cb_X0_snapshotSet_3 : (blk md_X0_snapshotSet 3).2 = [(20, .iload_n 1, 1, []), (21, .iconst 1, 1, []), (22, .iload_n 2, 1, []), (23, .ishl, 1, []), (24, .ior, 1, []), (25, .istore_n 1, 1, [])] := rfl
theorem cb_X0_snapshotSet_4 : (blk md_X0_snapshotSet 4).2 = [(26, .iinc 2 1, 3, []), (29, .goto (-25), 3, [1])] := rfl
theorem cb_X0_snapshotSet_5 : (blk md_X0_snapshotSet 5).2 = [(32, .iload_n 1, 1, []), (33, .ireturn, 1, [])] := rfl
def md_X0_leastMissingSnapshot : List mB := [
  (false, [(0, .iconst 0, 1, []), (1, .istore_n 1, 1, [])]),
  (false, [(2, .iload_n 1, 1, []), (3, .bipush 8, 2, []), (5, .if_icmp .ge 21, 3, [5])]),
  (false, [(8, .aload_n 0, 1, []), (9, .getfield 24, 3, [0, 4]), (12, .iload_n 1, 1, []), (13, .iaload, 1, []), (14, .iconst (-1), 1, []), (15, .if_icmp .ne 5, 3, [4])]),
  (false, [(18, .iload_n 1, 1, []), (19, .ireturn, 1, [])]),
  (false, [(20, .iinc 1 1, 3, []), (23, .goto (-21), 3, [1])]),
  (false, [(26, .iconst (-1), 1, []), (27, .ireturn, 1, [])])]
theorem cb_X0_leastMissingSnapshot_0 : (blk md_X0_leastMissingSnapshot 0).2 = [(0, .iconst 0, 1, []), (1, .istore_n 1, 1, [])] := rfl
theorem cb_X0_leastMissingSnapshot_1 : (blk md_X0_leastMissingSnapshot 1).2 = [(2, .iload_n 1, 1, []), (3, .bipush 8, 2, []), (5, .if_icmp .ge 21, 3, [5])] := rfl
theorem cb_X0_leastMissingSnapshot_2 : (blk md_X0_leastMissingSnapshot 2).2 = [(8, .aload_n 0, 1, []), (9, .getfield 24, 3, [0, 4]), (12, .iload_n 1, 1, []), (13, .iaload, 1, []), (14, .iconst (-1), 1, []), (15, .if_icmp .ne 5, 3, [4])] := rfl
theorem cb_X0_leastMissingSnapshot_3 : (blk md_X0_leastMissingSnapshot 3).2 = [(18, .iload_n 1, 1, []), (19, .ireturn, 1, [])] := rfl
theorem cb_X0_leastMissingSnapshot_4 : (blk md_X0_leastMissingSnapshot 4).2 = [(20, .iinc 1 1, 3, []), (23, .goto (-21), 3, [1])] := rfl
theorem cb_X0_leastMissingSnapshot_5 : (blk md_X0_leastMissingSnapshot 5).2 = [(26, .iconst (-1), 1, []), (27, .ireturn, 1, [])] := rfl
def md_X0_layersBelow : List mB := [
  (false, [(0, .iconst 0, 1, []), (1, .istore_n 2, 1, []), (2, .aload_n 0, 1, []), (3, .getfield 21, 3, [0, 3]), (6, .iload_n 1, 1, []), (7, .iaload, 1, []), (8, .istore_n 3, 1, [])]),
  (false, [(9, .iload_n 3, 1, []), (10, .ifCond .lt 28, 3, [5])]),
  (false, [(13, .iload_n 3, 1, []), (14, .bipush 6, 2, []), (16, .if_icmp .ge 22, 3, [5])]),
  (false, [(19, .iload_n 2, 1, []), (20, .bipush 6, 2, []), (22, .if_icmp .ge 16, 3, [5])]),
  (false, [(25, .iinc 2 1, 3, []), (28, .aload_n 0, 1, []), (29, .getfield 21, 3, [0, 3]), (32, .iload_n 3, 1, []), (33, .iaload, 1, []), (34, .istore_n 3, 1, []), (35, .goto (-26), 3, [1])]),
  (false, [(38, .iload_n 2, 1, []), (39, .ireturn, 1, [])])]
theorem cb_X0_layersBelow_0 : (blk md_X0_layersBelow 0).2 = [(0, .iconst 0, 1, []), (1, .istore_n 2, 1, []), (2, .aload_n 0, 1, []), (3, .getfield 21, 3, [0, 3]), (6, .iload_n 1, 1, []), (7, .iaload, 1, []), (8, .istore_n 3, 1, [])] := rfl
theorem cb_X0_layersBelow_1 : (blk md_X0_layersBelow 1).2 = [(9, .iload_n 3, 1, []), (10, .ifCond .lt 28, 3, [5])] := rfl
theorem cb_X0_layersBelow_2 : (blk md_X0_layersBelow 2).2 = [(13, .iload_n 3, 1, []), (14, .bipush 6, 2, []), (16, .if_icmp .ge 22, 3, [5])] := rfl
theorem cb_X0_layersBelow_3 : (blk md_X0_layersBelow 3).2 = [(19, .iload_n 2, 1, []), (20, .bipush 6, 2, []), (22, .if_icmp .ge 16, 3, [5])] := rfl
theorem cb_X0_layersBelow_4 : (blk md_X0_layersBelow 4).2 = [(25, .iinc 2 1, 3, []), (28, .aload_n 0, 1, []), (29, .getfield 21, 3, [0, 3]), (32, .iload_n 3, 1, []), (33, .iaload, 1, []), (34, .istore_n 3, 1, []), (35, .goto (-26), 3, [1])] := rfl
theorem cb_X0_layersBelow_5 : (blk md_X0_layersBelow 5).2 = [(38, .iload_n 2, 1, []), (39, .ireturn, 1, [])] := rfl
def md_X0_standsOn : List mB := [
  (false, [(0, .iload_n 1, 1, []), (1, .istore_n 3, 1, []), (2, .iconst 0, 1, []), (3, .istore 4, 2, [])]),
  (false, [(5, .iload 4, 2, []), (7, .bipush 6, 2, []), (9, .if_icmp .ge 33, 3, [7])]),
  (false, [(12, .iload_n 3, 1, []), (13, .ifCond .lt 29, 3, [7])]),
  (false, [(16, .iload_n 3, 1, []), (17, .bipush 6, 2, []), (19, .if_icmp .ge 23, 3, [7])]),
  (false, [(22, .iload_n 3, 1, []), (23, .iload_n 2, 1, []), (24, .if_icmp .ne 5, 3, [6])]),
  (false, [(27, .iconst 1, 1, []), (28, .ireturn, 1, [1])]),
  (false, [(29, .aload_n 0, 1, []), (30, .getfield 21, 3, [0, 3]), (33, .iload_n 3, 1, []), (34, .iaload, 1, []), (35, .istore_n 3, 1, []), (36, .iinc 4 1, 3, []), (39, .goto (-34), 3, [1])]),
  (false, [(42, .iconst 0, 1, []), (43, .ireturn, 1, [1])])]
theorem cb_X0_standsOn_0 : (blk md_X0_standsOn 0).2 = [(0, .iload_n 1, 1, []), (1, .istore_n 3, 1, []), (2, .iconst 0, 1, []), (3, .istore 4, 2, [])] := rfl
theorem cb_X0_standsOn_1 : (blk md_X0_standsOn 1).2 = [(5, .iload 4, 2, []), (7, .bipush 6, 2, []), (9, .if_icmp .ge 33, 3, [7])] := rfl
theorem cb_X0_standsOn_2 : (blk md_X0_standsOn 2).2 = [(12, .iload_n 3, 1, []), (13, .ifCond .lt 29, 3, [7])] := rfl
theorem cb_X0_standsOn_3 : (blk md_X0_standsOn 3).2 = [(16, .iload_n 3, 1, []), (17, .bipush 6, 2, []), (19, .if_icmp .ge 23, 3, [7])] := rfl
theorem cb_X0_standsOn_4 : (blk md_X0_standsOn 4).2 = [(22, .iload_n 3, 1, []), (23, .iload_n 2, 1, []), (24, .if_icmp .ne 5, 3, [6])] := rfl
theorem cb_X0_standsOn_5 : (blk md_X0_standsOn 5).2 = [(27, .iconst 1, 1, []), (28, .ireturn, 1, [1])] := rfl
theorem cb_X0_standsOn_6 : (blk md_X0_standsOn 6).2 = [(29, .aload_n 0, 1, []), (30, .getfield 21, 3, [0, 3]), (33, .iload_n 3, 1, []), (34, .iaload, 1, []), (35, .istore_n 3, 1, []), (36, .iinc 4 1, 3, []), (39, .goto (-34), 3, [1])] := rfl
theorem cb_X0_standsOn_7 : (blk md_X0_standsOn 7).2 = [(42, .iconst 0, 1, []), (43, .ireturn, 1, [1])] := rfl
def md_X0_tableAt : List mB := [
  (false, [(0, .iload_n 1, 1, []), (1, .iconst 4, 1, []), (2, .imul, 1, []), (3, .iload_n 2, 1, []), (4, .iadd, 1, []), (5, .istore_n 3, 1, []), (6, .iload_n 3, 1, []), (7, .ifCond .lt 21, 3, [3])]),
  (false, [(10, .iload_n 3, 1, []), (11, .aload_n 0, 1, []), (12, .getfield 18, 3, [0, 2]), (15, .arraylength, 1, []), (16, .if_icmp .ge 12, 3, [3])]),
  (false, [(19, .aload_n 0, 1, []), (20, .getfield 18, 3, [0, 2]), (23, .iload_n 3, 1, []), (24, .iaload, 1, []), (25, .goto 4, 3, [4])]),
  (false, [(28, .iconst 0, 1, [])]),
  (false, [(29, .istore 4, 2, []), (31, .iload 4, 2, []), (33, .ifCond .le 15, 3, [7])]),
  (false, [(36, .iload 4, 2, []), (38, .bipush 64, 2, []), (40, .if_icmp .ge 8, 3, [7])]),
  (false, [(43, .iload 4, 2, []), (45, .goto 4, 3, [8])]),
  (false, [(48, .iconst 0, 1, [])]),
  (false, [(49, .ireturn, 1, [])])]
theorem cb_X0_tableAt_0 : (blk md_X0_tableAt 0).2 = [(0, .iload_n 1, 1, []), (1, .iconst 4, 1, []), (2, .imul, 1, []), (3, .iload_n 2, 1, []), (4, .iadd, 1, []), (5, .istore_n 3, 1, []), (6, .iload_n 3, 1, []), (7, .ifCond .lt 21, 3, [3])] := rfl
theorem cb_X0_tableAt_1 : (blk md_X0_tableAt 1).2 = [(10, .iload_n 3, 1, []), (11, .aload_n 0, 1, []), (12, .getfield 18, 3, [0, 2]), (15, .arraylength, 1, []), (16, .if_icmp .ge 12, 3, [3])] := rfl
theorem cb_X0_tableAt_2 : (blk md_X0_tableAt 2).2 = [(19, .aload_n 0, 1, []), (20, .getfield 18, 3, [0, 2]), (23, .iload_n 3, 1, []), (24, .iaload, 1, []), (25, .goto 4, 3, [4])] := rfl
theorem cb_X0_tableAt_3 : (blk md_X0_tableAt 3).2 = [(28, .iconst 0, 1, [])] := rfl
theorem cb_X0_tableAt_4 : (blk md_X0_tableAt 4).2 = [(29, .istore 4, 2, []), (31, .iload 4, 2, []), (33, .ifCond .le 15, 3, [7])] := rfl
theorem cb_X0_tableAt_5 : (blk md_X0_tableAt 5).2 = [(36, .iload 4, 2, []), (38, .bipush 64, 2, []), (40, .if_icmp .ge 8, 3, [7])] := rfl
theorem cb_X0_tableAt_6 : (blk md_X0_tableAt 6).2 = [(43, .iload 4, 2, []), (45, .goto 4, 3, [8])] := rfl
theorem cb_X0_tableAt_7 : (blk md_X0_tableAt 7).2 = [(48, .iconst 0, 1, [])] := rfl
theorem cb_X0_tableAt_8 : (blk md_X0_tableAt 8).2 = [(49, .ireturn, 1, [])] := rfl
def md_X0_dataAt : List mB := [
  (false, [(0, .iload_n 1, 1, []), (1, .iconst 4, 1, []), (2, .imul, 1, []), (3, .iload_n 2, 1, []), (4, .iadd, 1, []), (5, .istore_n 3, 1, []), (6, .iload_n 3, 1, []), (7, .iconst 4, 1, []), (8, .if_icmp .lt 21, 3, [3])]),
  (false, [(11, .iload_n 3, 1, []), (12, .aload_n 0, 1, []), (13, .getfield 9, 3, [0, 0]), (16, .arraylength, 1, []), (17, .if_icmp .ge 12, 3, [3])]),
  (false, [(20, .aload_n 0, 1, []), (21, .getfield 9, 3, [0, 0]), (24, .iload_n 3, 1, []), (25, .iaload, 1, []), (26, .goto 4, 3, [4])]),
  (false, [(29, .iconst 0, 1, [])]),
  (false, [(30, .istore 4, 2, []), (32, .iload 4, 2, []), (34, .ifCond .le 15, 3, [7])]),
  (false, [(37, .iload 4, 2, []), (39, .bipush 64, 2, []), (41, .if_icmp .ge 8, 3, [7])]),
  (false, [(44, .iload 4, 2, []), (46, .goto 4, 3, [8])]),
  (false, [(49, .iconst 0, 1, [])]),
  (false, [(50, .ireturn, 1, [])])]
theorem cb_X0_dataAt_0 : (blk md_X0_dataAt 0).2 = [(0, .iload_n 1, 1, []), (1, .iconst 4, 1, []), (2, .imul, 1, []), (3, .iload_n 2, 1, []), (4, .iadd, 1, []), (5, .istore_n 3, 1, []), (6, .iload_n 3, 1, []), (7, .iconst 4, 1, []), (8, .if_icmp .lt 21, 3, [3])] := rfl
theorem cb_X0_dataAt_1 : (blk md_X0_dataAt 1).2 = [(11, .iload_n 3, 1, []), (12, .aload_n 0, 1, []), (13, .getfield 9, 3, [0, 0]), (16, .arraylength, 1, []), (17, .if_icmp .ge 12, 3, [3])] := rfl
theorem cb_X0_dataAt_2 : (blk md_X0_dataAt 2).2 = [(20, .aload_n 0, 1, []), (21, .getfield 9, 3, [0, 0]), (24, .iload_n 3, 1, []), (25, .iaload, 1, []), (26, .goto 4, 3, [4])] := rfl
theorem cb_X0_dataAt_3 : (blk md_X0_dataAt 3).2 = [(29, .iconst 0, 1, [])] := rfl
theorem cb_X0_dataAt_4 : (blk md_X0_dataAt 4).2 = [(30, .istore 4, 2, []), (32, .iload 4, 2, []), (34, .ifCond .le 15, 3, [7])] := rfl
theorem cb_X0_dataAt_5 : (blk md_X0_dataAt 5).2 = [(37, .iload 4, 2, []), (39, .bipush 64, 2, []), (41, .if_icmp .ge 8, 3, [7])] := rfl
theorem cb_X0_dataAt_6 : (blk md_X0_dataAt 6).2 = [(44, .iload 4, 2, []), (46, .goto 4, 3, [8])] := rfl
theorem cb_X0_dataAt_7 : (blk md_X0_dataAt 7).2 = [(49, .iconst 0, 1, [])] := rfl
theorem cb_X0_dataAt_8 : (blk md_X0_dataAt 8).2 = [(50, .ireturn, 1, [])] := rfl
def md_X0_dataOf : List mB := [
  (false, [(0, .aload_n 0, 1, []), (1, .aload_n 0, 1, []), (2, .iload_n 1, 1, []), (3, .iload_n 2, 1, []), (4, .iconst 4, 1, []), (5, .idiv, 1, []), (6, .invokevirtual 53, 3, [0, 9, 3, 1]), (9, .iload_n 2, 1, []), (10, .iconst 4, 1, []), (11, .irem, 1, []), (12, .invokevirtual 57, 3, [0, 10, 3, 1]), (15, .ireturn, 1, [])])]
theorem cb_X0_dataOf_0 : (blk md_X0_dataOf 0).2 = [(0, .aload_n 0, 1, []), (1, .aload_n 0, 1, []), (2, .iload_n 1, 1, []), (3, .iload_n 2, 1, []), (4, .iconst 4, 1, []), (5, .idiv, 1, []), (6, .invokevirtual 53, 3, [0, 9, 3, 1]), (9, .iload_n 2, 1, []), (10, .iconst 4, 1, []), (11, .irem, 1, []), (12, .invokevirtual 57, 3, [0, 10, 3, 1]), (15, .ireturn, 1, [])] := rfl
def md_X0_ownBlocks : List mB := [
  (false, [(0, .iconst 0, 1, []), (1, .istore_n 2, 1, []), (2, .iconst 0, 1, []), (3, .istore_n 3, 1, [])]),
  (false, [(4, .iload_n 3, 1, []), (5, .bipush 16, 2, []), (7, .if_icmp .ge 24, 3, [5])]),
  (false, [(10, .aload_n 0, 1, []), (11, .iload_n 1, 1, []), (12, .iload_n 3, 1, []), (13, .invokevirtual 60, 3, [0, 11, 3, 1]), (16, .ifCond .eq 9, 3, [4])]),
  (false, [(19, .iload_n 2, 1, []), (20, .iconst 1, 1, []), (21, .iload_n 3, 1, []), (22, .ishl, 1, []), (23, .ior, 1, []), (24, .istore_n 2, 1, [])]),
  (false, [(25, .iinc 3 1, 3, []), (28, .goto (-24), 3, [1])]),
  (false, [(31, .iload_n 2, 1, []), (32, .ireturn, 1, [])])]
theorem cb_X0_ownBlocks_0 : (blk md_X0_ownBlocks 0).2 = [(0, .iconst 0, 1, []), (1, .istore_n 2, 1, []), (2, .iconst 0, 1, []), (3, .istore_n 3, 1, [])] := rfl
theorem cb_X0_ownBlocks_1 : (blk md_X0_ownBlocks 1).2 = [(4, .iload_n 3, 1, []), (5, .bipush 16, 2, []), (7, .if_icmp .ge 24, 3, [5])] := rfl
theorem cb_X0_ownBlocks_2 : (blk md_X0_ownBlocks 2).2 = [(10, .aload_n 0, 1, []), (11, .iload_n 1, 1, []), (12, .iload_n 3, 1, []), (13, .invokevirtual 60, 3, [0, 11, 3, 1]), (16, .ifCond .eq 9, 3, [4])] := rfl
theorem cb_X0_ownBlocks_3 : (blk md_X0_ownBlocks 3).2 = [(19, .iload_n 2, 1, []), (20, .iconst 1, 1, []), (21, .iload_n 3, 1, []), (22, .ishl, 1, []), (23, .ior, 1, []), (24, .istore_n 2, 1, [])] := rfl
theorem cb_X0_ownBlocks_4 : (blk md_X0_ownBlocks 4).2 = [(25, .iinc 3 1, 3, []), (28, .goto (-24), 3, [1])] := rfl
theorem cb_X0_ownBlocks_5 : (blk md_X0_ownBlocks 5).2 = [(31, .iload_n 2, 1, []), (32, .ireturn, 1, [])] := rfl
def md_X0_at : List mB := [
  (false, [(0, .iload_n 1, 1, []), (1, .istore_n 3, 1, []), (2, .iconst 0, 1, []), (3, .istore 4, 2, [])]),
  (false, [(5, .iload 4, 2, []), (7, .bipush 6, 2, []), (9, .if_icmp .ge 65, 3, [7])]),
  (false, [(12, .iload_n 3, 1, []), (13, .ifCond .lt 61, 3, [7])]),
  (false, [(16, .iload_n 3, 1, []), (17, .bipush 6, 2, []), (19, .if_icmp .ge 55, 3, [7])]),
  (false, [(22, .aload_n 0, 1, []), (23, .aload_n 0, 1, []), (24, .iload_n 3, 1, []), (25, .iload_n 2, 1, []), (26, .bipush 16, 2, []), (28, .idiv, 1, []), (29, .invokevirtual 53, 3, [0, 9, 3, 1]), (32, .iload_n 2, 1, []), (33, .iconst 4, 1, []), (34, .idiv, 1, []), (35, .iconst 4, 1, []), (36, .irem, 1, []), (37, .invokevirtual 57, 3, [0, 10, 3, 1]), (40, .istore 5, 2, []), (42, .iload 5, 2, []), (44, .ifCond .eq 17, 3, [6])]),
  (false, [(47, .aload_n 0, 1, []), (48, .getfield 9, 3, [0, 0]), (51, .iload 5, 2, []), (53, .iconst 4, 1, []), (54, .imul, 1, []), (55, .iload_n 2, 1, []), (56, .iconst 4, 1, []), (57, .irem, 1, []), (58, .iadd, 1, []), (59, .iaload, 1, []), (60, .ireturn, 1, [])]),
  (false, [(61, .aload_n 0, 1, []), (62, .getfield 21, 3, [0, 3]), (65, .iload_n 3, 1, []), (66, .iaload, 1, []), (67, .istore_n 3, 1, []), (68, .iinc 4 1, 3, []), (71, .goto (-66), 3, [1])]),
  (false, [(74, .iconst 0, 1, []), (75, .ireturn, 1, [])])]
theorem cb_X0_at_0 : (blk md_X0_at 0).2 = [(0, .iload_n 1, 1, []), (1, .istore_n 3, 1, []), (2, .iconst 0, 1, []), (3, .istore 4, 2, [])] := rfl
theorem cb_X0_at_1 : (blk md_X0_at 1).2 = [(5, .iload 4, 2, []), (7, .bipush 6, 2, []), (9, .if_icmp .ge 65, 3, [7])] := rfl
theorem cb_X0_at_2 : (blk md_X0_at 2).2 = [(12, .iload_n 3, 1, []), (13, .ifCond .lt 61, 3, [7])] := rfl
theorem cb_X0_at_3 : (blk md_X0_at 3).2 = [(16, .iload_n 3, 1, []), (17, .bipush 6, 2, []), (19, .if_icmp .ge 55, 3, [7])] := rfl
theorem cb_X0_at_4 : (blk md_X0_at 4).2 = [(22, .aload_n 0, 1, []), (23, .aload_n 0, 1, []), (24, .iload_n 3, 1, []), (25, .iload_n 2, 1, []), (26, .bipush 16, 2, []), (28, .idiv, 1, []), (29, .invokevirtual 53, 3, [0, 9, 3, 1]), (32, .iload_n 2, 1, []), (33, .iconst 4, 1, []), (34, .idiv, 1, []), (35, .iconst 4, 1, []), (36, .irem, 1, []), (37, .invokevirtual 57, 3, [0, 10, 3, 1]), (40, .istore 5, 2, []), (42, .iload 5, 2, []), (44, .ifCond .eq 17, 3, [6])] := rfl
theorem cb_X0_at_5 : (blk md_X0_at 5).2 = [(47, .aload_n 0, 1, []), (48, .getfield 9, 3, [0, 0]), (51, .iload 5, 2, []), (53, .iconst 4, 1, []), (54, .imul, 1, []), (55, .iload_n 2, 1, []), (56, .iconst 4, 1, []), (57, .irem, 1, []), (58, .iadd, 1, []), (59, .iaload, 1, []), (60, .ireturn, 1, [])] := rfl
theorem cb_X0_at_6 : (blk md_X0_at 6).2 = [(61, .aload_n 0, 1, []), (62, .getfield 21, 3, [0, 3]), (65, .iload_n 3, 1, []), (66, .iaload, 1, []), (67, .istore_n 3, 1, []), (68, .iinc 4 1, 3, []), (71, .goto (-66), 3, [1])] := rfl
theorem cb_X0_at_7 : (blk md_X0_at 7).2 = [(74, .iconst 0, 1, []), (75, .ireturn, 1, [])] := rfl
def md_X0_atOld : List mB := [
  (false, [(0, .aload_n 0, 1, []), (1, .bipush 6, 2, []), (3, .iload_n 1, 1, []), (4, .iadd, 1, []), (5, .iload_n 2, 1, []), (6, .iconst 4, 1, []), (7, .idiv, 1, []), (8, .invokevirtual 60, 3, [0, 11, 3, 1]), (11, .istore_n 3, 1, []), (12, .iload_n 3, 1, []), (13, .ifCond .eq 16, 3, [2])]),
  (false, [(16, .aload_n 0, 1, []), (17, .getfield 9, 3, [0, 0]), (20, .iload_n 3, 1, []), (21, .iconst 4, 1, []), (22, .imul, 1, []), (23, .iload_n 2, 1, []), (24, .iconst 4, 1, []), (25, .irem, 1, []), (26, .iadd, 1, []), (27, .iaload, 1, []), (28, .ireturn, 1, [])]),
  (false, [(29, .aload_n 0, 1, []), (30, .getfield 24, 3, [0, 4]), (33, .iload_n 1, 1, []), (34, .iaload, 1, []), (35, .istore 4, 2, []), (37, .aload_n 0, 1, []), (38, .iload 4, 2, []), (40, .invokevirtual 49, 3, [0, 1, 2, 1]), (43, .ifCond .eq 18, 3, [4])]),
  (false, [(46, .aload_n 0, 1, []), (47, .aload_n 0, 1, []), (48, .getfield 21, 3, [0, 3]), (51, .iload 4, 2, []), (53, .iaload, 1, []), (54, .iload_n 2, 1, []), (55, .invokevirtual 63, 3, [0, 13, 3, 1]), (58, .goto 4, 3, [5])]),
  (false, [(61, .iconst 0, 1, [])]),
  (false, [(62, .ireturn, 1, [])])]
theorem cb_X0_atOld_0 : (blk md_X0_atOld 0).2 = [(0, .aload_n 0, 1, []), (1, .bipush 6, 2, []), (3, .iload_n 1, 1, []), (4, .iadd, 1, []), (5, .iload_n 2, 1, []), (6, .iconst 4, 1, []), (7, .idiv, 1, []), (8, .invokevirtual 60, 3, [0, 11, 3, 1]), (11, .istore_n 3, 1, []), (12, .iload_n 3, 1, []), (13, .ifCond .eq 16, 3, [2])] := rfl
theorem cb_X0_atOld_1 : (blk md_X0_atOld 1).2 = [(16, .aload_n 0, 1, []), (17, .getfield 9, 3, [0, 0]), (20, .iload_n 3, 1, []), (21, .iconst 4, 1, []), (22, .imul, 1, []), (23, .iload_n 2, 1, []), (24, .iconst 4, 1, []), (25, .irem, 1, []), (26, .iadd, 1, []), (27, .iaload, 1, []), (28, .ireturn, 1, [])] := rfl
theorem cb_X0_atOld_2 : (blk md_X0_atOld 2).2 = [(29, .aload_n 0, 1, []), (30, .getfield 24, 3, [0, 4]), (33, .iload_n 1, 1, []), (34, .iaload, 1, []), (35, .istore 4, 2, []), (37, .aload_n 0, 1, []), (38, .iload 4, 2, []), (40, .invokevirtual 49, 3, [0, 1, 2, 1]), (43, .ifCond .eq 18, 3, [4])] := rfl
theorem cb_X0_atOld_3 : (blk md_X0_atOld 3).2 = [(46, .aload_n 0, 1, []), (47, .aload_n 0, 1, []), (48, .getfield 21, 3, [0, 3]), (51, .iload 4, 2, []), (53, .iaload, 1, []), (54, .iload_n 2, 1, []), (55, .invokevirtual 63, 3, [0, 13, 3, 1]), (58, .goto 4, 3, [5])] := rfl
theorem cb_X0_atOld_4 : (blk md_X0_atOld 4).2 = [(61, .iconst 0, 1, [])] := rfl
theorem cb_X0_atOld_5 : (blk md_X0_atOld 5).2 = [(62, .ireturn, 1, [])] := rfl
def md_X0_sameBlock : List mB := [
  (false, [(0, .iload_n 3, 1, []), (1, .iconst 4, 1, []), (2, .imul, 1, []), (3, .istore 4, 2, [])]),
  (false, [(5, .iload 4, 2, []), (7, .iload_n 3, 1, []), (8, .iconst 1, 1, []), (9, .iadd, 1, []), (10, .iconst 4, 1, []), (11, .imul, 1, []), (12, .if_icmp .ge 28, 3, [5])]),
  (false, [(15, .aload_n 0, 1, []), (16, .iload_n 1, 1, []), (17, .iload 4, 2, []), (19, .invokevirtual 63, 3, [0, 13, 3, 1]), (22, .aload_n 0, 1, []), (23, .iload_n 2, 1, []), (24, .iload 4, 2, []), (26, .invokevirtual 63, 3, [0, 13, 3, 1]), (29, .if_icmp .eq 5, 3, [4])]),
  (false, [(32, .iconst 0, 1, []), (33, .ireturn, 1, [1])]),
  (false, [(34, .iinc 4 1, 3, []), (37, .goto (-32), 3, [1])]),
  (false, [(40, .iconst 1, 1, []), (41, .ireturn, 1, [1])])]
theorem cb_X0_sameBlock_0 : (blk md_X0_sameBlock 0).2 = [(0, .iload_n 3, 1, []), (1, .iconst 4, 1, []), (2, .imul, 1, []), (3, .istore 4, 2, [])] := rfl
theorem cb_X0_sameBlock_1 : (blk md_X0_sameBlock 1).2 = [(5, .iload 4, 2, []), (7, .iload_n 3, 1, []), (8, .iconst 1, 1, []), (9, .iadd, 1, []), (10, .iconst 4, 1, []), (11, .imul, 1, []), (12, .if_icmp .ge 28, 3, [5])] := rfl
theorem cb_X0_sameBlock_2 : (blk md_X0_sameBlock 2).2 = [(15, .aload_n 0, 1, []), (16, .iload_n 1, 1, []), (17, .iload 4, 2, []), (19, .invokevirtual 63, 3, [0, 13, 3, 1]), (22, .aload_n 0, 1, []), (23, .iload_n 2, 1, []), (24, .iload 4, 2, []), (26, .invokevirtual 63, 3, [0, 13, 3, 1]), (29, .if_icmp .eq 5, 3, [4])] := rfl
theorem cb_X0_sameBlock_3 : (blk md_X0_sameBlock 3).2 = [(32, .iconst 0, 1, []), (33, .ireturn, 1, [1])] := rfl
theorem cb_X0_sameBlock_4 : (blk md_X0_sameBlock 4).2 = [(34, .iinc 4 1, 3, []), (37, .goto (-32), 3, [1])] := rfl
theorem cb_X0_sameBlock_5 : (blk md_X0_sameBlock 5).2 = [(40, .iconst 1, 1, []), (41, .ireturn, 1, [1])] := rfl
def md_X0_alike : List mB := [
  (false, [(0, .iconst 0, 1, []), (1, .istore_n 3, 1, [])]),
  (false, [(2, .iload_n 3, 1, []), (3, .iconst 4, 1, []), (4, .if_icmp .ge 34, 3, [5])]),
  (false, [(7, .aload_n 0, 1, []), (8, .getfield 9, 3, [0, 0]), (11, .iload_n 1, 1, []), (12, .iconst 4, 1, []), (13, .imul, 1, []), (14, .iload_n 3, 1, []), (15, .iadd, 1, []), (16, .iaload, 1, []), (17, .aload_n 0, 1, []), (18, .getfield 9, 3, [0, 0]), (21, .iload_n 2, 1, []), (22, .iconst 4, 1, []), (23, .imul, 1, []), (24, .iload_n 3, 1, []), (25, .iadd, 1, []), (26, .iaload, 1, []), (27, .if_icmp .eq 5, 3, [4])]),
  (false, [(30, .iconst 0, 1, []), (31, .ireturn, 1, [1])]),
  (false, [(32, .iinc 3 1, 3, []), (35, .goto (-33), 3, [1])]),
  (false, [(38, .iconst 1, 1, []), (39, .ireturn, 1, [1])])]
theorem cb_X0_alike_0 : (blk md_X0_alike 0).2 = [(0, .iconst 0, 1, []), (1, .istore_n 3, 1, [])] := rfl
theorem cb_X0_alike_1 : (blk md_X0_alike 1).2 = [(2, .iload_n 3, 1, []), (3, .iconst 4, 1, []), (4, .if_icmp .ge 34, 3, [5])] := rfl
theorem cb_X0_alike_2 : (blk md_X0_alike 2).2 = [(7, .aload_n 0, 1, []), (8, .getfield 9, 3, [0, 0]), (11, .iload_n 1, 1, []), (12, .iconst 4, 1, []), (13, .imul, 1, []), (14, .iload_n 3, 1, []), (15, .iadd, 1, []), (16, .iaload, 1, []), (17, .aload_n 0, 1, []), (18, .getfield 9, 3, [0, 0]), (21, .iload_n 2, 1, []), (22, .iconst 4, 1, []), (23, .imul, 1, []), (24, .iload_n 3, 1, []), (25, .iadd, 1, []), (26, .iaload, 1, []), (27, .if_icmp .eq 5, 3, [4])] := rfl
theorem cb_X0_alike_3 : (blk md_X0_alike 3).2 = [(30, .iconst 0, 1, []), (31, .ireturn, 1, [1])] := rfl
theorem cb_X0_alike_4 : (blk md_X0_alike 4).2 = [(32, .iinc 3 1, 3, []), (35, .goto (-33), 3, [1])] := rfl
theorem cb_X0_alike_5 : (blk md_X0_alike 5).2 = [(38, .iconst 1, 1, []), (39, .ireturn, 1, [1])] := rfl
def md_X0_leastAlike : List mB := [
  (false, [(0, .iconst 1, 1, []), (1, .istore 4, 2, [])]),
  (false, [(3, .iload 4, 2, []), (5, .iload_n 3, 1, []), (6, .if_icmp .ge 31, 3, [6])]),
  (false, [(9, .lload_n 1, 1, []), (10, .iload 4, 2, []), (12, .invokestatic 66, 3, [2, 98, 2, 1]), (15, .ifCond .eq 16, 3, [5])]),
  (false, [(18, .aload_n 0, 1, []), (19, .iload 4, 2, []), (21, .iload_n 3, 1, []), (22, .invokevirtual 70, 3, [0, 16, 3, 1]), (25, .ifCond .eq 6, 3, [5])]),
  (false, [(28, .iload 4, 2, []), (30, .ireturn, 1, [])]),
  (false, [(31, .iinc 4 1, 3, []), (34, .goto (-31), 3, [1])]),
  (false, [(37, .iload_n 3, 1, []), (38, .ireturn, 1, [])])]
theorem cb_X0_leastAlike_0 : (blk md_X0_leastAlike 0).2 = [(0, .iconst 1, 1, []), (1, .istore 4, 2, [])] := rfl
theorem cb_X0_leastAlike_1 : (blk md_X0_leastAlike 1).2 = [(3, .iload 4, 2, []), (5, .iload_n 3, 1, []), (6, .if_icmp .ge 31, 3, [6])] := rfl
theorem cb_X0_leastAlike_2 : (blk md_X0_leastAlike 2).2 = [(9, .lload_n 1, 1, []), (10, .iload 4, 2, []), (12, .invokestatic 66, 3, [2, 98, 2, 1]), (15, .ifCond .eq 16, 3, [5])] := rfl
theorem cb_X0_leastAlike_3 : (blk md_X0_leastAlike 3).2 = [(18, .aload_n 0, 1, []), (19, .iload 4, 2, []), (21, .iload_n 3, 1, []), (22, .invokevirtual 70, 3, [0, 16, 3, 1]), (25, .ifCond .eq 6, 3, [5])] := rfl
theorem cb_X0_leastAlike_4 : (blk md_X0_leastAlike 4).2 = [(28, .iload 4, 2, []), (30, .ireturn, 1, [])] := rfl
theorem cb_X0_leastAlike_5 : (blk md_X0_leastAlike 5).2 = [(31, .iinc 4 1, 3, []), (34, .goto (-31), 3, [1])] := rfl
theorem cb_X0_leastAlike_6 : (blk md_X0_leastAlike 6).2 = [(37, .iload_n 3, 1, []), (38, .ireturn, 1, [])] := rfl
def md_X0_tablesOf : List mB := [
  (false, [(0, .lconst 0, 1, []), (1, .lstore_n 3, 1, []), (2, .iload_n 1, 1, []), (3, .istore 5, 2, [])]),
  (false, [(5, .iload 5, 2, []), (7, .iload_n 2, 1, []), (8, .if_icmp .ge 37, 3, [6])]),
  (false, [(11, .iconst 0, 1, []), (12, .istore 6, 2, [])]),
  (false, [(14, .iload 6, 2, []), (16, .iconst 4, 1, []), (17, .if_icmp .ge 22, 3, [5])]),
  (false, [(20, .lload_n 3, 1, []), (21, .lconst 1, 1, []), (22, .aload_n 0, 1, []), (23, .iload 5, 2, []), (25, .iload 6, 2, []), (27, .invokevirtual 53, 3, [0, 9, 3, 1]), (30, .lshl, 1, []), (31, .lor, 1, []), (32, .lstore_n 3, 1, []), (33, .iinc 6 1, 3, []), (36, .goto (-22), 3, [3])]),
  (false, [(39, .iinc 5 1, 3, []), (42, .goto (-37), 3, [1])]),
  (false, [(45, .lload_n 3, 1, []), (46, .ldc2_w 74, 3, [18446744073709551614]), (49, .land, 1, []), (50, .lreturn, 1, [])])]
theorem cb_X0_tablesOf_0 : (blk md_X0_tablesOf 0).2 = [(0, .lconst 0, 1, []), (1, .lstore_n 3, 1, []), (2, .iload_n 1, 1, []), (3, .istore 5, 2, [])] := rfl
theorem cb_X0_tablesOf_1 : (blk md_X0_tablesOf 1).2 = [(5, .iload 5, 2, []), (7, .iload_n 2, 1, []), (8, .if_icmp .ge 37, 3, [6])] := rfl
theorem cb_X0_tablesOf_2 : (blk md_X0_tablesOf 2).2 = [(11, .iconst 0, 1, []), (12, .istore 6, 2, [])] := rfl
theorem cb_X0_tablesOf_3 : (blk md_X0_tablesOf 3).2 = [(14, .iload 6, 2, []), (16, .iconst 4, 1, []), (17, .if_icmp .ge 22, 3, [5])] := rfl
theorem cb_X0_tablesOf_4 : (blk md_X0_tablesOf 4).2 = [(20, .lload_n 3, 1, []), (21, .lconst 1, 1, []), (22, .aload_n 0, 1, []), (23, .iload 5, 2, []), (25, .iload 6, 2, []), (27, .invokevirtual 53, 3, [0, 9, 3, 1]), (30, .lshl, 1, []), (31, .lor, 1, []), (32, .lstore_n 3, 1, []), (33, .iinc 6 1, 3, []), (36, .goto (-22), 3, [3])] := rfl
theorem cb_X0_tablesOf_5 : (blk md_X0_tablesOf 5).2 = [(39, .iinc 5 1, 3, []), (42, .goto (-37), 3, [1])] := rfl
theorem cb_X0_tablesOf_6 : (blk md_X0_tablesOf 6).2 = [(45, .lload_n 3, 1, []), (46, .ldc2_w 74, 3, [18446744073709551614]), (49, .land, 1, []), (50, .lreturn, 1, [])] := rfl
def md_X0_dataNamedBy : List mB := [
  (false, [(0, .lconst 0, 1, []), (1, .lstore_n 3, 1, []), (2, .iconst 1, 1, []), (3, .istore 5, 2, [])]),
  (false, [(5, .iload 5, 2, []), (7, .bipush 64, 2, []), (9, .if_icmp .ge 46, 3, [7])]),
  (false, [(12, .iconst 0, 1, []), (13, .istore 6, 2, [])]),
  (false, [(15, .iload 6, 2, []), (17, .iconst 4, 1, []), (18, .if_icmp .ge 31, 3, [6])]),
  (false, [(21, .lload_n 1, 1, []), (22, .iload 5, 2, []), (24, .invokestatic 66, 3, [2, 98, 2, 1]), (27, .ifCond .eq 22, 3, [6])]),
  (false, [(30, .lload_n 3, 1, []), (31, .lconst 1, 1, []), (32, .aload_n 0, 1, []), (33, .iload 5, 2, []), (35, .iload 6, 2, []), (37, .invokevirtual 57, 3, [0, 10, 3, 1]), (40, .lshl, 1, []), (41, .lor, 1, []), (42, .lstore_n 3, 1, []), (43, .iinc 6 1, 3, []), (46, .goto (-31), 3, [3])]),
  (false, [(49, .iinc 5 1, 3, []), (52, .goto (-47), 3, [1])]),
  (false, [(55, .lload_n 3, 1, []), (56, .ldc2_w 74, 3, [18446744073709551614]), (59, .land, 1, []), (60, .lreturn, 1, [])])]
theorem cb_X0_dataNamedBy_0 : (blk md_X0_dataNamedBy 0).2 = [(0, .lconst 0, 1, []), (1, .lstore_n 3, 1, []), (2, .iconst 1, 1, []), (3, .istore 5, 2, [])] := rfl
theorem cb_X0_dataNamedBy_1 : (blk md_X0_dataNamedBy 1).2 = [(5, .iload 5, 2, []), (7, .bipush 64, 2, []), (9, .if_icmp .ge 46, 3, [7])] := rfl
theorem cb_X0_dataNamedBy_2 : (blk md_X0_dataNamedBy 2).2 = [(12, .iconst 0, 1, []), (13, .istore 6, 2, [])] := rfl
theorem cb_X0_dataNamedBy_3 : (blk md_X0_dataNamedBy 3).2 = [(15, .iload 6, 2, []), (17, .iconst 4, 1, []), (18, .if_icmp .ge 31, 3, [6])] := rfl
theorem cb_X0_dataNamedBy_4 : (blk md_X0_dataNamedBy 4).2 = [(21, .lload_n 1, 1, []), (22, .iload 5, 2, []), (24, .invokestatic 66, 3, [2, 98, 2, 1]), (27, .ifCond .eq 22, 3, [6])] := rfl
theorem cb_X0_dataNamedBy_5 : (blk md_X0_dataNamedBy 5).2 = [(30, .lload_n 3, 1, []), (31, .lconst 1, 1, []), (32, .aload_n 0, 1, []), (33, .iload 5, 2, []), (35, .iload 6, 2, []), (37, .invokevirtual 57, 3, [0, 10, 3, 1]), (40, .lshl, 1, []), (41, .lor, 1, []), (42, .lstore_n 3, 1, []), (43, .iinc 6 1, 3, []), (46, .goto (-31), 3, [3])] := rfl
theorem cb_X0_dataNamedBy_6 : (blk md_X0_dataNamedBy 6).2 = [(49, .iinc 5 1, 3, []), (52, .goto (-47), 3, [1])] := rfl
theorem cb_X0_dataNamedBy_7 : (blk md_X0_dataNamedBy 7).2 = [(55, .lload_n 3, 1, []), (56, .ldc2_w 74, 3, [18446744073709551614]), (59, .land, 1, []), (60, .lreturn, 1, [])] := rfl
def md_X0_heldBy : List mB := [
  (false, [(0, .iload_n 1, 1, []), (1, .ifCond .ge 7, 3, [2])]),
  (false, [(4, .lconst 0, 1, []), (5, .goto 11, 3, [3])]),
  (false, [(8, .aload_n 0, 1, []), (9, .iload_n 1, 1, []), (10, .iload_n 1, 1, []), (11, .iconst 1, 1, []), (12, .iadd, 1, []), (13, .invokevirtual 76, 3, [0, 18, 3, 2])]),
  (false, [(16, .lstore_n 2, 1, []), (17, .lload_n 2, 1, []), (18, .aload_n 0, 1, []), (19, .lload_n 2, 1, []), (20, .invokevirtual 80, 3, [0, 19, 2, 2]), (23, .lor, 1, []), (24, .lreturn, 1, [])])]
theorem cb_X0_heldBy_0 : (blk md_X0_heldBy 0).2 = [(0, .iload_n 1, 1, []), (1, .ifCond .ge 7, 3, [2])] := rfl
theorem cb_X0_heldBy_1 : (blk md_X0_heldBy 1).2 = [(4, .lconst 0, 1, []), (5, .goto 11, 3, [3])] := rfl
theorem cb_X0_heldBy_2 : (blk md_X0_heldBy 2).2 = [(8, .aload_n 0, 1, []), (9, .iload_n 1, 1, []), (10, .iload_n 1, 1, []), (11, .iconst 1, 1, []), (12, .iadd, 1, []), (13, .invokevirtual 76, 3, [0, 18, 3, 2])] := rfl
theorem cb_X0_heldBy_3 : (blk md_X0_heldBy 3).2 = [(16, .lstore_n 2, 1, []), (17, .lload_n 2, 1, []), (18, .aload_n 0, 1, []), (19, .lload_n 2, 1, []), (20, .invokevirtual 80, 3, [0, 19, 2, 2]), (23, .lor, 1, []), (24, .lreturn, 1, [])] := rfl
def md_X0_countCells : List mB := [
  (false, [(0, .aload_n 0, 1, []), (1, .getfield 34, 3, [0, 7]), (4, .iconst 0, 1, []), (5, .invokestatic 37, 3, [1, 193, 2, 0]), (8, .aload_n 0, 1, []), (9, .iconst 0, 1, []), (10, .bipush 14, 2, []), (12, .invokevirtual 76, 3, [0, 18, 3, 2]), (15, .lstore_n 1, 1, []), (16, .iconst 1, 1, []), (17, .istore_n 3, 1, [])]),
  (false, [(18, .iload_n 3, 1, []), (19, .bipush 64, 2, []), (21, .if_icmp .ge 48, 3, [7])]),
  (false, [(24, .iconst 0, 1, []), (25, .istore 4, 2, [])]),
  (false, [(27, .iload 4, 2, []), (29, .iconst 4, 1, []), (30, .if_icmp .ge 33, 3, [6])]),
  (false, [(33, .lload_n 1, 1, []), (34, .iload_n 3, 1, []), (35, .invokestatic 66, 3, [2, 98, 2, 1]), (38, .ifCond .eq 25, 3, [6])]),
  (false, [(41, .aload_n 0, 1, []), (42, .getfield 34, 3, [0, 7]), (45, .aload_n 0, 1, []), (46, .iload_n 3, 1, []), (47, .iload 4, 2, []), (49, .invokevirtual 57, 3, [0, 10, 3, 1]), (52, .dup2, 1, []), (53, .iaload, 1, []), (54, .iconst 1, 1, []), (55, .iadd, 1, []), (56, .iastore, 1, []), (57, .iinc 4 1, 3, []), (60, .goto (-33), 3, [3])]),
  (false, [(63, .iinc 3 1, 3, []), (66, .goto (-48), 3, [1])]),
  (false, [(69, .aload_n 0, 1, []), (70, .getfield 34, 3, [0, 7]), (73, .iconst 0, 1, []), (74, .iconst 0, 1, []), (75, .iastore, 1, []), (76, .return_, 1, [])])]
theorem cb_X0_countCells_0 : (blk md_X0_countCells 0).2 = [(0, .aload_n 0, 1, []), (1, .getfield 34, 3, [0, 7]), (4, .iconst 0, 1, []), (5, .invokestatic 37, 3, [1, 193, 2, 0]), (8, .aload_n 0, 1, []), (9, .iconst 0, 1, []), (10, .bipush 14, 2, []), (12, .invokevirtual 76, 3, [0, 18, 3, 2]), (15, .lstore_n 1, 1, []), (16, .iconst 1, 1, []), (17, .istore_n 3, 1, [])] := rfl
theorem cb_X0_countCells_1 : (blk md_X0_countCells 1).2 = [(18, .iload_n 3, 1, []), (19, .bipush 64, 2, []), (21, .if_icmp .ge 48, 3, [7])] := rfl
theorem cb_X0_countCells_2 : (blk md_X0_countCells 2).2 = [(24, .iconst 0, 1, []), (25, .istore 4, 2, [])] := rfl
theorem cb_X0_countCells_3 : (blk md_X0_countCells 3).2 = [(27, .iload 4, 2, []), (29, .iconst 4, 1, []), (30, .if_icmp .ge 33, 3, [6])] := rfl
theorem cb_X0_countCells_4 : (blk md_X0_countCells 4).2 = [(33, .lload_n 1, 1, []), (34, .iload_n 3, 1, []), (35, .invokestatic 66, 3, [2, 98, 2, 1]), (38, .ifCond .eq 25, 3, [6])] := rfl
theorem cb_X0_countCells_5 : (blk md_X0_countCells 5).2 = [(41, .aload_n 0, 1, []), (42, .getfield 34, 3, [0, 7]), (45, .aload_n 0, 1, []), (46, .iload_n 3, 1, []), (47, .iload 4, 2, []), (49, .invokevirtual 57, 3, [0, 10, 3, 1]), (52, .dup2, 1, []), (53, .iaload, 1, []), (54, .iconst 1, 1, []), (55, .iadd, 1, []), (56, .iastore, 1, []), (57, .iinc 4 1, 3, []), (60, .goto (-33), 3, [3])] := rfl
theorem cb_X0_countCells_6 : (blk md_X0_countCells 6).2 = [(63, .iinc 3 1, 3, []), (66, .goto (-48), 3, [1])] := rfl
theorem cb_X0_countCells_7 : (blk md_X0_countCells 7).2 = [(69, .aload_n 0, 1, []), (70, .getfield 34, 3, [0, 7]), (73, .iconst 0, 1, []), (74, .iconst 0, 1, []), (75, .iastore, 1, []), (76, .return_, 1, [])] := rfl
def md_X0_countTrue : List mB := [
  (false, [(0, .aload_n 0, 1, []), (1, .invokevirtual 84, 3, [0, 21, 1, 0]), (4, .iconst 0, 1, []), (5, .istore_n 1, 1, [])]),
  (false, [(6, .iload_n 1, 1, []), (7, .bipush 14, 2, []), (9, .if_icmp .ge 37, 3, [6])]),
  (false, [(12, .iconst 0, 1, []), (13, .istore_n 2, 1, [])]),
  (false, [(14, .iload_n 2, 1, []), (15, .iconst 4, 1, []), (16, .if_icmp .ge 24, 3, [5])]),
  (false, [(19, .aload_n 0, 1, []), (20, .getfield 34, 3, [0, 7]), (23, .aload_n 0, 1, []), (24, .iload_n 1, 1, []), (25, .iload_n 2, 1, []), (26, .invokevirtual 53, 3, [0, 9, 3, 1]), (29, .dup2, 1, []), (30, .iaload, 1, []), (31, .iconst 1, 1, []), (32, .iadd, 1, []), (33, .iastore, 1, []), (34, .iinc 2 1, 3, []), (37, .goto (-23), 3, [3])]),
  (false, [(40, .iinc 1 1, 3, []), (43, .goto (-37), 3, [1])]),
  (false, [(46, .aload_n 0, 1, []), (47, .getfield 34, 3, [0, 7]), (50, .iconst 0, 1, []), (51, .iconst 0, 1, []), (52, .iastore, 1, []), (53, .return_, 1, [])])]
theorem cb_X0_countTrue_0 : (blk md_X0_countTrue 0).2 = [(0, .aload_n 0, 1, []), (1, .invokevirtual 84, 3, [0, 21, 1, 0]), (4, .iconst 0, 1, []), (5, .istore_n 1, 1, [])] := rfl
theorem cb_X0_countTrue_1 : (blk md_X0_countTrue 1).2 = [(6, .iload_n 1, 1, []), (7, .bipush 14, 2, []), (9, .if_icmp .ge 37, 3, [6])] := rfl
theorem cb_X0_countTrue_2 : (blk md_X0_countTrue 2).2 = [(12, .iconst 0, 1, []), (13, .istore_n 2, 1, [])] := rfl
theorem cb_X0_countTrue_3 : (blk md_X0_countTrue 3).2 = [(14, .iload_n 2, 1, []), (15, .iconst 4, 1, []), (16, .if_icmp .ge 24, 3, [5])] := rfl
theorem cb_X0_countTrue_4 : (blk md_X0_countTrue 4).2 = [(19, .aload_n 0, 1, []), (20, .getfield 34, 3, [0, 7]), (23, .aload_n 0, 1, []), (24, .iload_n 1, 1, []), (25, .iload_n 2, 1, []), (26, .invokevirtual 53, 3, [0, 9, 3, 1]), (29, .dup2, 1, []), (30, .iaload, 1, []), (31, .iconst 1, 1, []), (32, .iadd, 1, []), (33, .iastore, 1, []), (34, .iinc 2 1, 3, []), (37, .goto (-23), 3, [3])] := rfl
theorem cb_X0_countTrue_5 : (blk md_X0_countTrue 5).2 = [(40, .iinc 1 1, 3, []), (43, .goto (-37), 3, [1])] := rfl
theorem cb_X0_countTrue_6 : (blk md_X0_countTrue 6).2 = [(46, .aload_n 0, 1, []), (47, .getfield 34, 3, [0, 7]), (50, .iconst 0, 1, []), (51, .iconst 0, 1, []), (52, .iastore, 1, []), (53, .return_, 1, [])] := rfl
def md_X0_leakSet : List mB := [
  (false, [(0, .aload_n 0, 1, []), (1, .invokevirtual 87, 3, [0, 22, 1, 0]), (4, .lconst 0, 1, []), (5, .lstore_n 1, 1, []), (6, .iconst 1, 1, []), (7, .istore_n 3, 1, [])]),
  (false, [(8, .iload_n 3, 1, []), (9, .bipush 64, 2, []), (11, .if_icmp .ge 30, 3, [5])]),
  (false, [(14, .aload_n 0, 1, []), (15, .getfield 15, 3, [0, 1]), (18, .iload_n 3, 1, []), (19, .iaload, 1, []), (20, .aload_n 0, 1, []), (21, .getfield 34, 3, [0, 7]), (24, .iload_n 3, 1, []), (25, .iaload, 1, []), (26, .if_icmp .le 9, 3, [4])]),
  (false, [(29, .lload_n 1, 1, []), (30, .lconst 1, 1, []), (31, .iload_n 3, 1, []), (32, .lshl, 1, []), (33, .lor, 1, []), (34, .lstore_n 1, 1, [])]),
  (false, [(35, .iinc 3 1, 3, []), (38, .goto (-30), 3, [1])]),
  (false, [(41, .lload_n 1, 1, []), (42, .lreturn, 1, [])])]
theorem cb_X0_leakSet_0 : (blk md_X0_leakSet 0).2 = [(0, .aload_n 0, 1, []), (1, .invokevirtual 87, 3, [0, 22, 1, 0]), (4, .lconst 0, 1, []), (5, .lstore_n 1, 1, []), (6, .iconst 1, 1, []), (7, .istore_n 3, 1, [])] := rfl
theorem cb_X0_leakSet_1 : (blk md_X0_leakSet 1).2 = [(8, .iload_n 3, 1, []), (9, .bipush 64, 2, []), (11, .if_icmp .ge 30, 3, [5])] := rfl
theorem cb_X0_leakSet_2 : (blk md_X0_leakSet 2).2 = [(14, .aload_n 0, 1, []), (15, .getfield 15, 3, [0, 1]), (18, .iload_n 3, 1, []), (19, .iaload, 1, []), (20, .aload_n 0, 1, []), (21, .getfield 34, 3, [0, 7]), (24, .iload_n 3, 1, []), (25, .iaload, 1, []), (26, .if_icmp .le 9, 3, [4])] := rfl
theorem cb_X0_leakSet_3 : (blk md_X0_leakSet 3).2 = [(29, .lload_n 1, 1, []), (30, .lconst 1, 1, []), (31, .iload_n 3, 1, []), (32, .lshl, 1, []), (33, .lor, 1, []), (34, .lstore_n 1, 1, [])] := rfl
theorem cb_X0_leakSet_4 : (blk md_X0_leakSet 4).2 = [(35, .iinc 3 1, 3, []), (38, .goto (-30), 3, [1])] := rfl
theorem cb_X0_leakSet_5 : (blk md_X0_leakSet 5).2 = [(41, .lload_n 1, 1, []), (42, .lreturn, 1, [])] := rfl
def md_X0_lackSet : List mB := [
  (false, [(0, .aload_n 0, 1, []), (1, .invokevirtual 87, 3, [0, 22, 1, 0]), (4, .lconst 0, 1, []), (5, .lstore_n 1, 1, []), (6, .iconst 1, 1, []), (7, .istore_n 3, 1, [])]),
  (false, [(8, .iload_n 3, 1, []), (9, .bipush 64, 2, []), (11, .if_icmp .ge 30, 3, [5])]),
  (false, [(14, .aload_n 0, 1, []), (15, .getfield 15, 3, [0, 1]), (18, .iload_n 3, 1, []), (19, .iaload, 1, []), (20, .aload_n 0, 1, []), (21, .getfield 34, 3, [0, 7]), (24, .iload_n 3, 1, []), (25, .iaload, 1, []), (26, .if_icmp .ge 9, 3, [4])]),
  (false, [(29, .lload_n 1, 1, []), (30, .lconst 1, 1, []), (31, .iload_n 3, 1, []), (32, .lshl, 1, []), (33, .lor, 1, []), (34, .lstore_n 1, 1, [])]),
  (false, [(35, .iinc 3 1, 3, []), (38, .goto (-30), 3, [1])]),
  (false, [(41, .lload_n 1, 1, []), (42, .lreturn, 1, [])])]
theorem cb_X0_lackSet_0 : (blk md_X0_lackSet 0).2 = [(0, .aload_n 0, 1, []), (1, .invokevirtual 87, 3, [0, 22, 1, 0]), (4, .lconst 0, 1, []), (5, .lstore_n 1, 1, []), (6, .iconst 1, 1, []), (7, .istore_n 3, 1, [])] := rfl
theorem cb_X0_lackSet_1 : (blk md_X0_lackSet 1).2 = [(8, .iload_n 3, 1, []), (9, .bipush 64, 2, []), (11, .if_icmp .ge 30, 3, [5])] := rfl
theorem cb_X0_lackSet_2 : (blk md_X0_lackSet 2).2 = [(14, .aload_n 0, 1, []), (15, .getfield 15, 3, [0, 1]), (18, .iload_n 3, 1, []), (19, .iaload, 1, []), (20, .aload_n 0, 1, []), (21, .getfield 34, 3, [0, 7]), (24, .iload_n 3, 1, []), (25, .iaload, 1, []), (26, .if_icmp .ge 9, 3, [4])] := rfl
theorem cb_X0_lackSet_3 : (blk md_X0_lackSet 3).2 = [(29, .lload_n 1, 1, []), (30, .lconst 1, 1, []), (31, .iload_n 3, 1, []), (32, .lshl, 1, []), (33, .lor, 1, []), (34, .lstore_n 1, 1, [])] := rfl
theorem cb_X0_lackSet_4 : (blk md_X0_lackSet 4).2 = [(35, .iinc 3 1, 3, []), (38, .goto (-30), 3, [1])] := rfl
theorem cb_X0_lackSet_5 : (blk md_X0_lackSet 5).2 = [(41, .lload_n 1, 1, []), (42, .lreturn, 1, [])] := rfl
def md_X0_freeSet : List mB := [
  (false, [(0, .lconst 0, 1, []), (1, .lstore_n 1, 1, []), (2, .iconst 1, 1, []), (3, .istore_n 3, 1, [])]),
  (false, [(4, .iload_n 3, 1, []), (5, .bipush 64, 2, []), (7, .if_icmp .ge 24, 3, [5])]),
  (false, [(10, .aload_n 0, 1, []), (11, .getfield 15, 3, [0, 1]), (14, .iload_n 3, 1, []), (15, .iaload, 1, []), (16, .ifCond .ne 9, 3, [4])]),
  (false, [(19, .lload_n 1, 1, []), (20, .lconst 1, 1, []), (21, .iload_n 3, 1, []), (22, .lshl, 1, []), (23, .lor, 1, []), (24, .lstore_n 1, 1, [])]),
  (false, [(25, .iinc 3 1, 3, []), (28, .goto (-24), 3, [1])]),
  (false, [(31, .lload_n 1, 1, []), (32, .lreturn, 1, [])])]
theorem cb_X0_freeSet_0 : (blk md_X0_freeSet 0).2 = [(0, .lconst 0, 1, []), (1, .lstore_n 1, 1, []), (2, .iconst 1, 1, []), (3, .istore_n 3, 1, [])] := rfl
theorem cb_X0_freeSet_1 : (blk md_X0_freeSet 1).2 = [(4, .iload_n 3, 1, []), (5, .bipush 64, 2, []), (7, .if_icmp .ge 24, 3, [5])] := rfl
theorem cb_X0_freeSet_2 : (blk md_X0_freeSet 2).2 = [(10, .aload_n 0, 1, []), (11, .getfield 15, 3, [0, 1]), (14, .iload_n 3, 1, []), (15, .iaload, 1, []), (16, .ifCond .ne 9, 3, [4])] := rfl
theorem cb_X0_freeSet_3 : (blk md_X0_freeSet 3).2 = [(19, .lload_n 1, 1, []), (20, .lconst 1, 1, []), (21, .iload_n 3, 1, []), (22, .lshl, 1, []), (23, .lor, 1, []), (24, .lstore_n 1, 1, [])] := rfl
theorem cb_X0_freeSet_4 : (blk md_X0_freeSet 4).2 = [(25, .iinc 3 1, 3, []), (28, .goto (-24), 3, [1])] := rfl
theorem cb_X0_freeSet_5 : (blk md_X0_freeSet 5).2 = [(31, .lload_n 1, 1, []), (32, .lreturn, 1, [])] := rfl
def md_X0_sharedData : List mB := [
  (false, [(0, .aload_n 0, 1, []), (1, .invokevirtual 84, 3, [0, 21, 1, 0]), (4, .lconst 0, 1, []), (5, .lstore_n 1, 1, []), (6, .iconst 1, 1, []), (7, .istore_n 3, 1, [])]),
  (false, [(8, .iload_n 3, 1, []), (9, .bipush 64, 2, []), (11, .if_icmp .ge 25, 3, [5])]),
  (false, [(14, .aload_n 0, 1, []), (15, .getfield 34, 3, [0, 7]), (18, .iload_n 3, 1, []), (19, .iaload, 1, []), (20, .iconst 1, 1, []), (21, .if_icmp .le 9, 3, [4])]),
  (false, [(24, .lload_n 1, 1, []), (25, .lconst 1, 1, []), (26, .iload_n 3, 1, []), (27, .lshl, 1, []), (28, .lor, 1, []), (29, .lstore_n 1, 1, [])]),
  (false, [(30, .iinc 3 1, 3, []), (33, .goto (-25), 3, [1])]),
  (false, [(36, .lload_n 1, 1, []), (37, .lreturn, 1, [])])]
theorem cb_X0_sharedData_0 : (blk md_X0_sharedData 0).2 = [(0, .aload_n 0, 1, []), (1, .invokevirtual 84, 3, [0, 21, 1, 0]), (4, .lconst 0, 1, []), (5, .lstore_n 1, 1, []), (6, .iconst 1, 1, []), (7, .istore_n 3, 1, [])] := rfl
theorem cb_X0_sharedData_1 : (blk md_X0_sharedData 1).2 = [(8, .iload_n 3, 1, []), (9, .bipush 64, 2, []), (11, .if_icmp .ge 25, 3, [5])] := rfl
theorem cb_X0_sharedData_2 : (blk md_X0_sharedData 2).2 = [(14, .aload_n 0, 1, []), (15, .getfield 34, 3, [0, 7]), (18, .iload_n 3, 1, []), (19, .iaload, 1, []), (20, .iconst 1, 1, []), (21, .if_icmp .le 9, 3, [4])] := rfl
theorem cb_X0_sharedData_3 : (blk md_X0_sharedData 3).2 = [(24, .lload_n 1, 1, []), (25, .lconst 1, 1, []), (26, .iload_n 3, 1, []), (27, .lshl, 1, []), (28, .lor, 1, []), (29, .lstore_n 1, 1, [])] := rfl
theorem cb_X0_sharedData_4 : (blk md_X0_sharedData 4).2 = [(30, .iinc 3 1, 3, []), (33, .goto (-25), 3, [1])] := rfl
theorem cb_X0_sharedData_5 : (blk md_X0_sharedData 5).2 = [(36, .lload_n 1, 1, []), (37, .lreturn, 1, [])] := rfl
def md_X0_mendCounts : List mB := [
  (false, [(0, .aload_n 0, 1, []), (1, .invokevirtual 87, 3, [0, 22, 1, 0]), (4, .iconst 0, 1, []), (5, .istore_n 1, 1, []), (6, .iconst 1, 1, []), (7, .istore_n 2, 1, [])]),
  (false, [(8, .iload_n 2, 1, []), (9, .bipush 64, 2, []), (11, .if_icmp .ge 39, 3, [5])]),
  (false, [(14, .aload_n 0, 1, []), (15, .getfield 15, 3, [0, 1]), (18, .iload_n 2, 1, []), (19, .iaload, 1, []), (20, .aload_n 0, 1, []), (21, .getfield 34, 3, [0, 7]), (24, .iload_n 2, 1, []), (25, .iaload, 1, []), (26, .if_icmp .eq 18, 3, [4])]),
  (false, [(29, .aload_n 0, 1, []), (30, .getfield 15, 3, [0, 1]), (33, .iload_n 2, 1, []), (34, .aload_n 0, 1, []), (35, .getfield 34, 3, [0, 7]), (38, .iload_n 2, 1, []), (39, .iaload, 1, []), (40, .iastore, 1, []), (41, .iinc 1 1, 3, [])]),
  (false, [(44, .iinc 2 1, 3, []), (47, .goto (-39), 3, [1])]),
  (false, [(50, .iload_n 1, 1, []), (51, .ireturn, 1, [])])]
theorem cb_X0_mendCounts_0 : (blk md_X0_mendCounts 0).2 = [(0, .aload_n 0, 1, []), (1, .invokevirtual 87, 3, [0, 22, 1, 0]), (4, .iconst 0, 1, []), (5, .istore_n 1, 1, []), (6, .iconst 1, 1, []), (7, .istore_n 2, 1, [])] := rfl
theorem cb_X0_mendCounts_1 : (blk md_X0_mendCounts 1).2 = [(8, .iload_n 2, 1, []), (9, .bipush 64, 2, []), (11, .if_icmp .ge 39, 3, [5])] := rfl
theorem cb_X0_mendCounts_2 : (blk md_X0_mendCounts 2).2 = [(14, .aload_n 0, 1, []), (15, .getfield 15, 3, [0, 1]), (18, .iload_n 2, 1, []), (19, .iaload, 1, []), (20, .aload_n 0, 1, []), (21, .getfield 34, 3, [0, 7]), (24, .iload_n 2, 1, []), (25, .iaload, 1, []), (26, .if_icmp .eq 18, 3, [4])] := rfl
theorem cb_X0_mendCounts_3 : (blk md_X0_mendCounts 3).2 = [(29, .aload_n 0, 1, []), (30, .getfield 15, 3, [0, 1]), (33, .iload_n 2, 1, []), (34, .aload_n 0, 1, []), (35, .getfield 34, 3, [0, 7]), (38, .iload_n 2, 1, []), (39, .iaload, 1, []), (40, .iastore, 1, []), (41, .iinc 1 1, 3, [])] := rfl
theorem cb_X0_mendCounts_4 : (blk md_X0_mendCounts 4).2 = [(44, .iinc 2 1, 3, []), (47, .goto (-39), 3, [1])] := rfl
theorem cb_X0_mendCounts_5 : (blk md_X0_mendCounts 5).2 = [(50, .iload_n 1, 1, []), (51, .ireturn, 1, [])] := rfl
def md_X1_append : List mB := [
  (false, [(0, .aload_n 0, 1, []), (1, .getfield 18, 3, [1, 2]), (4, .bipush 120, 2, []), (6, .if_icmp .ge 23, 3, [2])]),
  (false, [(9, .aload_n 0, 1, []), (10, .getfield 9, 3, [1, 0]), (13, .aload_n 0, 1, []), (14, .getfield 18, 3, [1, 2]), (17, .iload_n 1, 1, []), (18, .iastore, 1, []), (19, .aload_n 0, 1, []), (20, .dup, 1, []), (21, .getfield 18, 3, [1, 2]), (24, .iconst 1, 1, []), (25, .iadd, 1, []), (26, .putfield 18, 3, [1, 2])]),
  (false, [(29, .return_, 1, [])])]
theorem cb_X1_append_0 : (blk md_X1_append 0).2 = [(0, .aload_n 0, 1, []), (1, .getfield 18, 3, [1, 2]), (4, .bipush 120, 2, []), (6, .if_icmp .ge 23, 3, [2])] := rfl
theorem cb_X1_append_1 : (blk md_X1_append 1).2 = [(9, .aload_n 0, 1, []), (10, .getfield 9, 3, [1, 0]), (13, .aload_n 0, 1, []), (14, .getfield 18, 3, [1, 2]), (17, .iload_n 1, 1, []), (18, .iastore, 1, []), (19, .aload_n 0, 1, []), (20, .dup, 1, []), (21, .getfield 18, 3, [1, 2]), (24, .iconst 1, 1, []), (25, .iadd, 1, []), (26, .putfield 18, 3, [1, 2])] := rfl
theorem cb_X1_append_2 : (blk md_X1_append 2).2 = [(29, .return_, 1, [])] := rfl
def md_X1_ahead : List mB := [
  (false, [(0, .aload_n 0, 1, []), (1, .getfield 22, 3, [1, 3]), (4, .ifCond .lt 35, 3, [4])]),
  (false, [(7, .aload_n 0, 1, []), (8, .getfield 22, 3, [1, 3]), (11, .aload_n 0, 1, []), (12, .getfield 18, 3, [1, 2]), (15, .if_icmp .ge 24, 3, [4])]),
  (false, [(18, .aload_n 0, 1, []), (19, .getfield 22, 3, [1, 3]), (22, .bipush 120, 2, []), (24, .if_icmp .ge 15, 3, [4])]),
  (false, [(27, .aload_n 0, 1, []), (28, .getfield 9, 3, [1, 0]), (31, .aload_n 0, 1, []), (32, .getfield 22, 3, [1, 3]), (35, .iaload, 1, []), (36, .goto 4, 3, [5])]),
  (false, [(39, .iconst (-1), 1, [])]),
  (false, [(40, .ireturn, 1, [])])]
theorem cb_X1_ahead_0 : (blk md_X1_ahead 0).2 = [(0, .aload_n 0, 1, []), (1, .getfield 22, 3, [1, 3]), (4, .ifCond .lt 35, 3, [4])] := rfl
theorem cb_X1_ahead_1 : (blk md_X1_ahead 1).2 = [(7, .aload_n 0, 1, []), (8, .getfield 22, 3, [1, 3]), (11, .aload_n 0, 1, []), (12, .getfield 18, 3, [1, 2]), (15, .if_icmp .ge 24, 3, [4])] := rfl
theorem cb_X1_ahead_2 : (blk md_X1_ahead 2).2 = [(18, .aload_n 0, 1, []), (19, .getfield 22, 3, [1, 3]), (22, .bipush 120, 2, []), (24, .if_icmp .ge 15, 3, [4])] := rfl
theorem cb_X1_ahead_3 : (blk md_X1_ahead 3).2 = [(27, .aload_n 0, 1, []), (28, .getfield 9, 3, [1, 0]), (31, .aload_n 0, 1, []), (32, .getfield 22, 3, [1, 3]), (35, .iaload, 1, []), (36, .goto 4, 3, [5])] := rfl
theorem cb_X1_ahead_4 : (blk md_X1_ahead 4).2 = [(39, .iconst (-1), 1, [])] := rfl
theorem cb_X1_ahead_5 : (blk md_X1_ahead 5).2 = [(40, .ireturn, 1, [])] := rfl
def md_X1_faultPlace : List mB := [
  (false, [(0, .aload_n 0, 1, []), (1, .iconst 0, 1, []), (2, .putfield 22, 3, [1, 3]), (5, .aload_n 0, 1, []), (6, .iconst 1, 1, []), (7, .putfield 28, 3, [1, 5])]),
  (false, [(10, .aload_n 0, 1, []), (11, .getfield 28, 3, [1, 5]), (14, .bipush 120, 2, []), (16, .if_icmp .gt 55, 3, [10])]),
  (false, [(19, .aload_n 0, 1, []), (20, .invokevirtual 31, 3, [0, 32, 1, 1]), (23, .ifCond .ne 8, 3, [4])]),
  (false, [(26, .aload_n 0, 1, []), (27, .getfield 22, 3, [1, 3]), (30, .ireturn, 1, [])]),
  (false, [(31, .aload_n 0, 1, []), (32, .invokevirtual 35, 3, [0, 31, 1, 1]), (35, .ifCond .ne 23, 3, [9])]),
  (false, [(38, .aload_n 0, 1, []), (39, .getfield 22, 3, [1, 3]), (42, .aload_n 0, 1, []), (43, .getfield 18, 3, [1, 2]), (46, .if_icmp .ge 10, 3, [7])]),
  (false, [(49, .aload_n 0, 1, []), (50, .getfield 22, 3, [1, 3]), (53, .goto 4, 3, [8])]),
  (false, [(56, .iconst (-1), 1, [])]),
  (false, [(57, .ireturn, 1, [])]),
  (false, [(58, .aload_n 0, 1, []), (59, .dup, 1, []), (60, .getfield 28, 3, [1, 5]), (63, .iconst 1, 1, []), (64, .iadd, 1, []), (65, .putfield 28, 3, [1, 5]), (68, .goto (-58), 3, [1])]),
  (false, [(71, .aload_n 0, 1, []), (72, .getfield 22, 3, [1, 3]), (75, .ireturn, 1, [])])]
theorem cb_X1_faultPlace_0 : (blk md_X1_faultPlace 0).2 = [(0, .aload_n 0, 1, []), (1, .iconst 0, 1, []), (2, .putfield 22, 3, [1, 3]), (5, .aload_n 0, 1, []), (6, .iconst 1, 1, []), (7, .putfield 28, 3, [1, 5])] := rfl
theorem cb_X1_faultPlace_1 : (blk md_X1_faultPlace 1).2 = [(10, .aload_n 0, 1, []), (11, .getfield 28, 3, [1, 5]), (14, .bipush 120, 2, []), (16, .if_icmp .gt 55, 3, [10])] := rfl
theorem cb_X1_faultPlace_2 : (blk md_X1_faultPlace 2).2 = [(19, .aload_n 0, 1, []), (20, .invokevirtual 31, 3, [0, 32, 1, 1]), (23, .ifCond .ne 8, 3, [4])] := rfl
theorem cb_X1_faultPlace_3 : (blk md_X1_faultPlace 3).2 = [(26, .aload_n 0, 1, []), (27, .getfield 22, 3, [1, 3]), (30, .ireturn, 1, [])] := rfl
theorem cb_X1_faultPlace_4 : (blk md_X1_faultPlace 4).2 = [(31, .aload_n 0, 1, []), (32, .invokevirtual 35, 3, [0, 31, 1, 1]), (35, .ifCond .ne 23, 3, [9])] := rfl
theorem cb_X1_faultPlace_5 : (blk md_X1_faultPlace 5).2 = [(38, .aload_n 0, 1, []), (39, .getfield 22, 3, [1, 3]), (42, .aload_n 0, 1, []), (43, .getfield 18, 3, [1, 2]), (46, .if_icmp .ge 10, 3, [7])] := rfl
theorem cb_X1_faultPlace_6 : (blk md_X1_faultPlace 6).2 = [(49, .aload_n 0, 1, []), (50, .getfield 22, 3, [1, 3]), (53, .goto 4, 3, [8])] := rfl
theorem cb_X1_faultPlace_7 : (blk md_X1_faultPlace 7).2 = [(56, .iconst (-1), 1, [])] := rfl
theorem cb_X1_faultPlace_8 : (blk md_X1_faultPlace 8).2 = [(57, .ireturn, 1, [])] := rfl
theorem cb_X1_faultPlace_9 : (blk md_X1_faultPlace 9).2 = [(58, .aload_n 0, 1, []), (59, .dup, 1, []), (60, .getfield 28, 3, [1, 5]), (63, .iconst 1, 1, []), (64, .iadd, 1, []), (65, .putfield 28, 3, [1, 5]), (68, .goto (-58), 3, [1])] := rfl
theorem cb_X1_faultPlace_10 : (blk md_X1_faultPlace 10).2 = [(71, .aload_n 0, 1, []), (72, .getfield 22, 3, [1, 3]), (75, .ireturn, 1, [])] := rfl
def md_X1_takeParting : List mB := [
  (false, [(0, .aload_n 0, 1, []), (1, .invokevirtual 38, 3, [0, 29, 1, 1]), (4, .bipush 59, 2, []), (6, .if_icmp .eq 5, 3, [2])]),
  (false, [(9, .iconst 0, 1, []), (10, .ireturn, 1, [1])]),
  (false, [(11, .aload_n 0, 1, []), (12, .dup, 1, []), (13, .getfield 22, 3, [1, 3]), (16, .iconst 1, 1, []), (17, .iadd, 1, []), (18, .putfield 22, 3, [1, 3]), (21, .iconst 1, 1, []), (22, .ireturn, 1, [1])])]
theorem cb_X1_takeParting_0 : (blk md_X1_takeParting 0).2 = [(0, .aload_n 0, 1, []), (1, .invokevirtual 38, 3, [0, 29, 1, 1]), (4, .bipush 59, 2, []), (6, .if_icmp .eq 5, 3, [2])] := rfl
theorem cb_X1_takeParting_1 : (blk md_X1_takeParting 1).2 = [(9, .iconst 0, 1, []), (10, .ireturn, 1, [1])] := rfl
theorem cb_X1_takeParting_2 : (blk md_X1_takeParting 2).2 = [(11, .aload_n 0, 1, []), (12, .dup, 1, []), (13, .getfield 22, 3, [1, 3]), (16, .iconst 1, 1, []), (17, .iadd, 1, []), (18, .putfield 22, 3, [1, 3]), (21, .iconst 1, 1, []), (22, .ireturn, 1, [1])] := rfl
def md_X1_takeDeed : List mB := [
  (false, [(0, .aload_n 0, 1, []), (1, .invokevirtual 38, 3, [0, 29, 1, 1]), (4, .istore_n 1, 1, []), (5, .aload_n 0, 1, []), (6, .iload_n 1, 1, []), (7, .ifCond .ge 7, 3, [2])]),
  (false, [(10, .iconst (-1), 1, []), (11, .goto 10, 3, [3])]),
  (false, [(14, .ldc 42, 2, [1]), (16, .iload_n 1, 1, []), (17, .i2c, 1, []), (18, .invokevirtual 44, 3, [4, 900, 2, 1])]),
  (false, [(21, .putfield 25, 3, [1, 4]), (24, .aload_n 0, 1, []), (25, .getfield 25, 3, [1, 4]), (28, .ifCond .lt 14, 3, [5])]),
  (false, [(31, .aload_n 0, 1, []), (32, .getfield 25, 3, [1, 4]), (35, .getstatic 50, 3, []), (38, .arraylength, 1, []), (39, .if_icmp .lt 5, 3, [6])]),
  (false, [(42, .iconst 0, 1, []), (43, .ireturn, 1, [1])]),
  (false, [(44, .aload_n 0, 1, []), (45, .dup, 1, []), (46, .getfield 22, 3, [1, 3]), (49, .iconst 1, 1, []), (50, .iadd, 1, []), (51, .putfield 22, 3, [1, 3]), (54, .aload_n 0, 1, []), (55, .getfield 15, 3, [1, 1]), (58, .iconst 0, 1, []), (59, .invokestatic 53, 3, [1, 193, 2, 0]), (62, .iconst 0, 1, []), (63, .istore_n 2, 1, [])]),
  (false, [(64, .iload_n 2, 1, []), (65, .getstatic 50, 3, []), (68, .aload_n 0, 1, []), (69, .getfield 25, 3, [1, 4]), (72, .iaload, 1, []), (73, .if_icmp .ge 24, 3, [12])]),
  (false, [(76, .iload_n 2, 1, []), (77, .iconst 3, 1, []), (78, .if_icmp .ge 19, 3, [12])]),
  (false, [(81, .aload_n 0, 1, []), (82, .iload_n 2, 1, []), (83, .invokevirtual 59, 3, [0, 33, 2, 1]), (86, .ifCond .ne 5, 3, [11])]),
  (false, [(89, .iconst 0, 1, []), (90, .ireturn, 1, [1])]),
  (false, [(91, .iinc 2 1, 3, []), (94, .goto (-30), 3, [7])]),
  (false, [(97, .iconst 1, 1, []), (98, .ireturn, 1, [1])])]
theorem cb_X1_takeDeed_0 : (blk md_X1_takeDeed 0).2 = [(0, .aload_n 0, 1, []), (1, .invokevirtual 38, 3, [0, 29, 1, 1]), (4, .istore_n 1, 1, []), (5, .aload_n 0, 1, []), (6, .iload_n 1, 1, []), (7, .ifCond .ge 7, 3, [2])] := rfl
theorem cb_X1_takeDeed_1 : (blk md_X1_takeDeed 1).2 = [(10, .iconst (-1), 1, []), (11, .goto 10, 3, [3])] := rfl
theorem cb_X1_takeDeed_2 : (blk md_X1_takeDeed 2).2 = [(14, .ldc 42, 2, [1]), (16, .iload_n 1, 1, []), (17, .i2c, 1, []), (18, .invokevirtual 44, 3, [4, 900, 2, 1])] := rfl
theorem cb_X1_takeDeed_3 : (blk md_X1_takeDeed 3).2 = [(21, .putfield 25, 3, [1, 4]), (24, .aload_n 0, 1, []), (25, .getfield 25, 3, [1, 4]), (28, .ifCond .lt 14, 3, [5])] := rfl
theorem cb_X1_takeDeed_4 : (blk md_X1_takeDeed 4).2 = [(31, .aload_n 0, 1, []), (32, .getfield 25, 3, [1, 4]), (35, .getstatic 50, 3, []), (38, .arraylength, 1, []), (39, .if_icmp .lt 5, 3, [6])] := rfl
theorem cb_X1_takeDeed_5 : (blk md_X1_takeDeed 5).2 = [(42, .iconst 0, 1, []), (43, .ireturn, 1, [1])] := rfl
theorem cb_X1_takeDeed_6 : (blk md_X1_takeDeed 6).2 = [(44, .aload_n 0, 1, []), (45, .dup, 1, []), (46, .getfield 22, 3, [1, 3]), (49, .iconst 1, 1, []), (50, .iadd, 1, []), (51, .putfield 22, 3, [1, 3]), (54, .aload_n 0, 1, []), (55, .getfield 15, 3, [1, 1]), (58, .iconst 0, 1, []), (59, .invokestatic 53, 3, [1, 193, 2, 0]), (62, .iconst 0, 1, []), (63, .istore_n 2, 1, [])] := rfl
theorem cb_X1_takeDeed_7 : (blk md_X1_takeDeed 7).2 = [(64, .iload_n 2, 1, []), (65, .getstatic 50, 3, []), (68, .aload_n 0, 1, []), (69, .getfield 25, 3, [1, 4]), (72, .iaload, 1, []), (73, .if_icmp .ge 24, 3, [12])] := rfl
theorem cb_X1_takeDeed_8 : (blk md_X1_takeDeed 8).2 = [(76, .iload_n 2, 1, []), (77, .iconst 3, 1, []), (78, .if_icmp .ge 19, 3, [12])] := rfl
theorem cb_X1_takeDeed_9 : (blk md_X1_takeDeed 9).2 = [(81, .aload_n 0, 1, []), (82, .iload_n 2, 1, []), (83, .invokevirtual 59, 3, [0, 33, 2, 1]), (86, .ifCond .ne 5, 3, [11])] := rfl
theorem cb_X1_takeDeed_10 : (blk md_X1_takeDeed 10).2 = [(89, .iconst 0, 1, []), (90, .ireturn, 1, [1])] := rfl
theorem cb_X1_takeDeed_11 : (blk md_X1_takeDeed 11).2 = [(91, .iinc 2 1, 3, []), (94, .goto (-30), 3, [7])] := rfl
theorem cb_X1_takeDeed_12 : (blk md_X1_takeDeed 12).2 = [(97, .iconst 1, 1, []), (98, .ireturn, 1, [1])] := rfl
def md_X1_takeNumber : List mB := [
  (false, [(0, .aload_n 0, 1, []), (1, .invokevirtual 38, 3, [0, 29, 1, 1]), (4, .bipush 32, 2, []), (6, .if_icmp .eq 5, 3, [2])]),
  (false, [(9, .iconst 0, 1, []), (10, .ireturn, 1, [1])]),
  (false, [(11, .aload_n 0, 1, []), (12, .dup, 1, []), (13, .getfield 22, 3, [1, 3]), (16, .iconst 1, 1, []), (17, .iadd, 1, []), (18, .putfield 22, 3, [1, 3]), (21, .iconst 0, 1, []), (22, .istore_n 2, 1, [])]),
  (false, [(23, .iload_n 2, 1, []), (24, .iconst 3, 1, []), (25, .if_icmp .ge 60, 3, [7])]),
  (false, [(28, .aload_n 0, 1, []), (29, .invokevirtual 38, 3, [0, 29, 1, 1]), (32, .bipush 48, 2, []), (34, .if_icmp .lt 51, 3, [7])]),
  (false, [(37, .aload_n 0, 1, []), (38, .invokevirtual 38, 3, [0, 29, 1, 1]), (41, .bipush 57, 2, []), (43, .if_icmp .gt 42, 3, [7])]),
  (false, [(46, .aload_n 0, 1, []), (47, .getfield 15, 3, [1, 1]), (50, .iload_n 1, 1, []), (51, .aload_n 0, 1, []), (52, .getfield 15, 3, [1, 1]), (55, .iload_n 1, 1, []), (56, .iaload, 1, []), (57, .bipush 10, 2, []), (59, .imul, 1, []), (60, .aload_n 0, 1, []), (61, .invokevirtual 38, 3, [0, 29, 1, 1]), (64, .iadd, 1, []), (65, .bipush 48, 2, []), (67, .isub, 1, []), (68, .iastore, 1, []), (69, .iinc 2 1, 3, []), (72, .aload_n 0, 1, []), (73, .dup, 1, []), (74, .getfield 22, 3, [1, 3]), (77, .iconst 1, 1, []), (78, .iadd, 1, []), (79, .putfield 22, 3, [1, 3]), (82, .goto (-59), 3, [3])]),
  (false, [(85, .iload_n 2, 1, []), (86, .ifCond .le 7, 3, [9])]),
  (false, [(89, .iconst 1, 1, []), (90, .goto 4, 3, [10])]),
  (false, [(93, .iconst 0, 1, [])]),
  (false, [(94, .ireturn, 1, [1])])]
theorem cb_X1_takeNumber_0 : (blk md_X1_takeNumber 0).2 = [(0, .aload_n 0, 1, []), (1, .invokevirtual 38, 3, [0, 29, 1, 1]), (4, .bipush 32, 2, []), (6, .if_icmp .eq 5, 3, [2])] := rfl
theorem cb_X1_takeNumber_1 : (blk md_X1_takeNumber 1).2 = [(9, .iconst 0, 1, []), (10, .ireturn, 1, [1])] := rfl
theorem cb_X1_takeNumber_2 : (blk md_X1_takeNumber 2).2 = [(11, .aload_n 0, 1, []), (12, .dup, 1, []), (13, .getfield 22, 3, [1, 3]), (16, .iconst 1, 1, []), (17, .iadd, 1, []), (18, .putfield 22, 3, [1, 3]), (21, .iconst 0, 1, []), (22, .istore_n 2, 1, [])] := rfl
theorem cb_X1_takeNumber_3 : (blk md_X1_takeNumber 3).2 = [(23, .iload_n 2, 1, []), (24, .iconst 3, 1, []), (25, .if_icmp .ge 60, 3, [7])] := rfl
theorem cb_X1_takeNumber_4 : (blk md_X1_takeNumber 4).2 = [(28, .aload_n 0, 1, []), (29, .invokevirtual 38, 3, [0, 29, 1, 1]), (32, .bipush 48, 2, []), (34, .if_icmp .lt 51, 3, [7])] := rfl
theorem cb_X1_takeNumber_5 : (blk md_X1_takeNumber 5).2 = [(37, .aload_n 0, 1, []), (38, .invokevirtual 38, 3, [0, 29, 1, 1]), (41, .bipush 57, 2, []), (43, .if_icmp .gt 42, 3, [7])] := rfl
theorem cb_X1_takeNumber_6 : (blk md_X1_takeNumber 6).2 = [(46, .aload_n 0, 1, []), (47, .getfield 15, 3, [1, 1]), (50, .iload_n 1, 1, []), (51, .aload_n 0, 1, []), (52, .getfield 15, 3, [1, 1]), (55, .iload_n 1, 1, []), (56, .iaload, 1, []), (57, .bipush 10, 2, []), (59, .imul, 1, []), (60, .aload_n 0, 1, []), (61, .invokevirtual 38, 3, [0, 29, 1, 1]), (64, .iadd, 1, []), (65, .bipush 48, 2, []), (67, .isub, 1, []), (68, .iastore, 1, []), (69, .iinc 2 1, 3, []), (72, .aload_n 0, 1, []), (73, .dup, 1, []), (74, .getfield 22, 3, [1, 3]), (77, .iconst 1, 1, []), (78, .iadd, 1, []), (79, .putfield 22, 3, [1, 3]), (82, .goto (-59), 3, [3])] := rfl
theorem cb_X1_takeNumber_7 : (blk md_X1_takeNumber 7).2 = [(85, .iload_n 2, 1, []), (86, .ifCond .le 7, 3, [9])] := rfl
theorem cb_X1_takeNumber_8 : (blk md_X1_takeNumber 8).2 = [(89, .iconst 1, 1, []), (90, .goto 4, 3, [10])] := rfl
theorem cb_X1_takeNumber_9 : (blk md_X1_takeNumber 9).2 = [(93, .iconst 0, 1, [])] := rfl
theorem cb_X1_takeNumber_10 : (blk md_X1_takeNumber 10).2 = [(94, .ireturn, 1, [1])] := rfl
def md_X2_set : List mB := [
  (false, [(0, .aload_n 0, 1, []), (1, .iload_n 1, 1, []), (2, .putfield 18, 3, [2, 1]), (5, .aload_n 0, 1, []), (6, .iload_n 2, 1, []), (7, .putfield 22, 3, [2, 2]), (10, .aload_n 0, 1, []), (11, .iload_n 3, 1, []), (12, .putfield 25, 3, [2, 3]), (15, .aload_n 0, 1, []), (16, .iload 4, 2, []), (18, .putfield 28, 3, [2, 4]), (21, .return_, 1, [])])]
theorem cb_X2_set_0 : (blk md_X2_set 0).2 = [(0, .aload_n 0, 1, []), (1, .iload_n 1, 1, []), (2, .putfield 18, 3, [2, 1]), (5, .aload_n 0, 1, []), (6, .iload_n 2, 1, []), (7, .putfield 22, 3, [2, 2]), (10, .aload_n 0, 1, []), (11, .iload_n 3, 1, []), (12, .putfield 25, 3, [2, 3]), (15, .aload_n 0, 1, []), (16, .iload 4, 2, []), (18, .putfield 28, 3, [2, 4]), (21, .return_, 1, [])] := rfl
def md_X2_start : List mB := [
  (false, [(0, .aload_n 0, 1, []), (1, .getfield 12, 3, [2, 0]), (4, .aload_n 1, 1, []), (5, .invokevirtual 44, 3, [0, 0, 2, 0]), (8, .aload_n 0, 1, []), (9, .iload_n 2, 1, []), (10, .putfield 31, 3, [2, 5]), (13, .aload_n 0, 1, []), (14, .iconst 0, 1, []), (15, .putfield 34, 3, [2, 6]), (18, .aload_n 0, 1, []), (19, .iconst 0, 1, []), (20, .putfield 37, 3, [2, 7]), (23, .return_, 1, [])])]
theorem cb_X2_start_0 : (blk md_X2_start 0).2 = [(0, .aload_n 0, 1, []), (1, .getfield 12, 3, [2, 0]), (4, .aload_n 1, 1, []), (5, .invokevirtual 44, 3, [0, 0, 2, 0]), (8, .aload_n 0, 1, []), (9, .iload_n 2, 1, []), (10, .putfield 31, 3, [2, 5]), (13, .aload_n 0, 1, []), (14, .iconst 0, 1, []), (15, .putfield 34, 3, [2, 6]), (18, .aload_n 0, 1, []), (19, .iconst 0, 1, []), (20, .putfield 37, 3, [2, 7]), (23, .return_, 1, [])] := rfl
def md_X2_step : List mB := [
  (false, [(0, .aload_n 0, 1, []), (1, .getfield 37, 3, [2, 7]), (4, .ifCond .ne 21, 3, [3])]),
  (false, [(7, .aload_n 0, 1, []), (8, .getfield 34, 3, [2, 6]), (11, .aload_n 0, 1, []), (12, .getfield 31, 3, [2, 5]), (15, .if_icmp .lt 10, 3, [3])]),
  (false, [(18, .aload_n 0, 1, []), (19, .sipush (-1005), 3, []), (22, .putfield 37, 3, [2, 7])]),
  (false, [(25, .aload_n 0, 1, []), (26, .getfield 37, 3, [2, 7]), (29, .ifCond .eq 5, 3, [5])]),
  (false, [(32, .iconst 0, 1, []), (33, .ireturn, 1, [1])]),
  (false, [(34, .aload_n 0, 1, []), (35, .dup, 1, []), (36, .getfield 34, 3, [2, 6]), (39, .iconst 1, 1, []), (40, .iadd, 1, []), (41, .putfield 34, 3, [2, 6]), (44, .iconst 1, 1, []), (45, .ireturn, 1, [1])])]
theorem cb_X2_step_0 : (blk md_X2_step 0).2 = [(0, .aload_n 0, 1, []), (1, .getfield 37, 3, [2, 7]), (4, .ifCond .ne 21, 3, [3])] := rfl
theorem cb_X2_step_1 : (blk md_X2_step 1).2 = [(7, .aload_n 0, 1, []), (8, .getfield 34, 3, [2, 6]), (11, .aload_n 0, 1, []), (12, .getfield 31, 3, [2, 5]), (15, .if_icmp .lt 10, 3, [3])] := rfl
theorem cb_X2_step_2 : (blk md_X2_step 2).2 = [(18, .aload_n 0, 1, []), (19, .sipush (-1005), 3, []), (22, .putfield 37, 3, [2, 7])] := rfl
theorem cb_X2_step_3 : (blk md_X2_step 3).2 = [(25, .aload_n 0, 1, []), (26, .getfield 37, 3, [2, 7]), (29, .ifCond .eq 5, 3, [5])] := rfl
theorem cb_X2_step_4 : (blk md_X2_step 4).2 = [(32, .iconst 0, 1, []), (33, .ireturn, 1, [1])] := rfl
theorem cb_X2_step_5 : (blk md_X2_step 5).2 = [(34, .aload_n 0, 1, []), (35, .dup, 1, []), (36, .getfield 34, 3, [2, 6]), (39, .iconst 1, 1, []), (40, .iadd, 1, []), (41, .putfield 34, 3, [2, 6]), (44, .iconst 1, 1, []), (45, .ireturn, 1, [1])] := rfl
def md_X2_addToCount : List mB := [
  (false, [(0, .iload_n 1, 1, []), (1, .ifCond .eq 23, 3, [3])]),
  (false, [(4, .aload_n 0, 1, []), (5, .invokevirtual 48, 3, [0, 36, 1, 1]), (8, .ifCond .eq 16, 3, [3])]),
  (false, [(11, .aload_n 0, 1, []), (12, .getfield 12, 3, [2, 0]), (15, .getfield 52, 3, [0, 1]), (18, .iload_n 1, 1, []), (19, .dup2, 1, []), (20, .iaload, 1, []), (21, .iload_n 2, 1, []), (22, .iadd, 1, []), (23, .iastore, 1, [])]),
  (false, [(24, .return_, 1, [])])]
theorem cb_X2_addToCount_0 : (blk md_X2_addToCount 0).2 = [(0, .iload_n 1, 1, []), (1, .ifCond .eq 23, 3, [3])] := rfl
theorem cb_X2_addToCount_1 : (blk md_X2_addToCount 1).2 = [(4, .aload_n 0, 1, []), (5, .invokevirtual 48, 3, [0, 36, 1, 1]), (8, .ifCond .eq 16, 3, [3])] := rfl
theorem cb_X2_addToCount_2 : (blk md_X2_addToCount 2).2 = [(11, .aload_n 0, 1, []), (12, .getfield 12, 3, [2, 0]), (15, .getfield 52, 3, [0, 1]), (18, .iload_n 1, 1, []), (19, .dup2, 1, []), (20, .iaload, 1, []), (21, .iload_n 2, 1, []), (22, .iadd, 1, []), (23, .iastore, 1, [])] := rfl
theorem cb_X2_addToCount_3 : (blk md_X2_addToCount 3).2 = [(24, .return_, 1, [])] := rfl
def md_X2_newCluster : List mB := [
  (false, [(0, .aload_n 0, 1, []), (1, .getfield 37, 3, [2, 7]), (4, .ifCond .eq 5, 3, [2])]),
  (false, [(7, .iconst 0, 1, []), (8, .ireturn, 1, [])]),
  (false, [(9, .iconst 1, 1, []), (10, .istore_n 1, 1, [])]),
  (false, [(11, .iload_n 1, 1, []), (12, .bipush 64, 2, []), (14, .if_icmp .ge 23, 3, [7])]),
  (false, [(17, .aload_n 0, 1, []), (18, .getfield 12, 3, [2, 0]), (21, .getfield 52, 3, [0, 1]), (24, .iload_n 1, 1, []), (25, .iaload, 1, []), (26, .ifCond .ne 5, 3, [6])]),
  (false, [(29, .iload_n 1, 1, []), (30, .ireturn, 1, [])]),
  (false, [(31, .iinc 1 1, 3, []), (34, .goto (-23), 3, [3])]),
  (false, [(37, .aload_n 0, 1, []), (38, .sipush (-1002), 3, []), (41, .putfield 37, 3, [2, 7]), (44, .iconst 0, 1, []), (45, .ireturn, 1, [])])]
theorem cb_X2_newCluster_0 : (blk md_X2_newCluster 0).2 = [(0, .aload_n 0, 1, []), (1, .getfield 37, 3, [2, 7]), (4, .ifCond .eq 5, 3, [2])] := rfl
theorem cb_X2_newCluster_1 : (blk md_X2_newCluster 1).2 = [(7, .iconst 0, 1, []), (8, .ireturn, 1, [])] := rfl
theorem cb_X2_newCluster_2 : (blk md_X2_newCluster 2).2 = [(9, .iconst 1, 1, []), (10, .istore_n 1, 1, [])] := rfl
theorem cb_X2_newCluster_3 : (blk md_X2_newCluster 3).2 = [(11, .iload_n 1, 1, []), (12, .bipush 64, 2, []), (14, .if_icmp .ge 23, 3, [7])] := rfl
theorem cb_X2_newCluster_4 : (blk md_X2_newCluster 4).2 = [(17, .aload_n 0, 1, []), (18, .getfield 12, 3, [2, 0]), (21, .getfield 52, 3, [0, 1]), (24, .iload_n 1, 1, []), (25, .iaload, 1, []), (26, .ifCond .ne 5, 3, [6])] := rfl
theorem cb_X2_newCluster_5 : (blk md_X2_newCluster 5).2 = [(29, .iload_n 1, 1, []), (30, .ireturn, 1, [])] := rfl
theorem cb_X2_newCluster_6 : (blk md_X2_newCluster 6).2 = [(31, .iinc 1 1, 3, []), (34, .goto (-23), 3, [3])] := rfl
theorem cb_X2_newCluster_7 : (blk md_X2_newCluster 7).2 = [(37, .aload_n 0, 1, []), (38, .sipush (-1002), 3, []), (41, .putfield 37, 3, [2, 7]), (44, .iconst 0, 1, []), (45, .ireturn, 1, [])] := rfl
def md_X2_go : List mB := [
  (false, [(0, .aload_n 0, 1, []), (1, .aload_n 1, 1, []), (2, .iload_n 2, 1, []), (3, .invokevirtual 55, 3, [0, 35, 3, 0]), (6, .aload_n 0, 1, []), (7, .getfield 18, 3, [2, 1]), (10, .tableswitch 150 0 7 #[46, 65, 83, 94, 105, 120, 150, 131], 46, [8, 1, 2, 3, 4, 5, 6, 8, 7])]),
  (false, [(56, .aload_n 0, 1, []), (57, .aload_n 0, 1, []), (58, .getfield 22, 3, [2, 2]), (61, .aload_n 0, 1, []), (62, .getfield 25, 3, [2, 3]), (65, .aload_n 0, 1, []), (66, .getfield 28, 3, [2, 4]), (69, .invokevirtual 59, 3, [0, 44, 4, 0]), (72, .goto 92, 3, [9])]),
  (false, [(75, .aload_n 0, 1, []), (76, .aload_n 0, 1, []), (77, .getfield 22, 3, [2, 2]), (80, .aload_n 0, 1, []), (81, .getfield 12, 3, [2, 0]), (84, .invokevirtual 63, 3, [0, 6, 1, 1]), (87, .invokevirtual 67, 3, [0, 45, 3, 0]), (90, .goto 74, 3, [9])]),
  (false, [(93, .aload_n 0, 1, []), (94, .aload_n 0, 1, []), (95, .getfield 22, 3, [2, 2]), (98, .invokevirtual 71, 3, [0, 46, 2, 0]), (101, .goto 63, 3, [9])]),
  (false, [(104, .aload_n 0, 1, []), (105, .aload_n 0, 1, []), (106, .getfield 22, 3, [2, 2]), (109, .invokevirtual 75, 3, [0, 47, 2, 0]), (112, .goto 52, 3, [9])]),
  (false, [(115, .aload_n 0, 1, []), (116, .aload_n 0, 1, []), (117, .getfield 22, 3, [2, 2]), (120, .aload_n 0, 1, []), (121, .getfield 25, 3, [2, 3]), (124, .invokevirtual 78, 3, [0, 48, 3, 0]), (127, .goto 37, 3, [9])]),
  (false, [(130, .aload_n 0, 1, []), (131, .aload_n 0, 1, []), (132, .getfield 22, 3, [2, 2]), (135, .invokevirtual 81, 3, [0, 49, 2, 0]), (138, .goto 26, 3, [9])]),
  (false, [(141, .aload_n 0, 1, []), (142, .aload_n 0, 1, []), (143, .getfield 22, 3, [2, 2]), (146, .aload_n 0, 1, []), (147, .getfield 25, 3, [2, 3]), (150, .aload_n 0, 1, []), (151, .getfield 28, 3, [2, 4]), (154, .invokevirtual 84, 3, [0, 50, 4, 0]), (157, .goto 7, 3, [9])]),
  (false, [(160, .aload_n 0, 1, []), (161, .invokevirtual 87, 3, [0, 51, 1, 0])]),
  (false, [(164, .return_, 1, [])])]
theorem cb_X2_go_0 : (blk md_X2_go 0).2 = [(0, .aload_n 0, 1, []), (1, .aload_n 1, 1, []), (2, .iload_n 2, 1, []), (3, .invokevirtual 55, 3, [0, 35, 3, 0]), (6, .aload_n 0, 1, []), (7, .getfield 18, 3, [2, 1]), (10, .tableswitch 150 0 7 #[46, 65, 83, 94, 105, 120, 150, 131], 46, [8, 1, 2, 3, 4, 5, 6, 8, 7])] := rfl
theorem cb_X2_go_1 : (blk md_X2_go 1).2 = [(56, .aload_n 0, 1, []), (57, .aload_n 0, 1, []), (58, .getfield 22, 3, [2, 2]), (61, .aload_n 0, 1, []), (62, .getfield 25, 3, [2, 3]), (65, .aload_n 0, 1, []), (66, .getfield 28, 3, [2, 4]), (69, .invokevirtual 59, 3, [0, 44, 4, 0]), (72, .goto 92, 3, [9])] := rfl
theorem cb_X2_go_2 : (blk md_X2_go 2).2 = [(75, .aload_n 0, 1, []), (76, .aload_n 0, 1, []), (77, .getfield 22, 3, [2, 2]), (80, .aload_n 0, 1, []), (81, .getfield 12, 3, [2, 0]), (84, .invokevirtual 63, 3, [0, 6, 1, 1]), (87, .invokevirtual 67, 3, [0, 45, 3, 0]), (90, .goto 74, 3, [9])] := rfl
theorem cb_X2_go_3 : (blk md_X2_go 3).2 = [(93, .aload_n 0, 1, []), (94, .aload_n 0, 1, []), (95, .getfield 22, 3, [2, 2]), (98, .invokevirtual 71, 3, [0, 46, 2, 0]), (101, .goto 63, 3, [9])] := rfl
theorem cb_X2_go_4 : (blk md_X2_go 4).2 = [(104, .aload_n 0, 1, []), (105, .aload_n 0, 1, []), (106, .getfield 22, 3, [2, 2]), (109, .invokevirtual 75, 3, [0, 47, 2, 0]), (112, .goto 52, 3, [9])] := rfl
theorem cb_X2_go_5 : (blk md_X2_go 5).2 = [(115, .aload_n 0, 1, []), (116, .aload_n 0, 1, []), (117, .getfield 22, 3, [2, 2]), (120, .aload_n 0, 1, []), (121, .getfield 25, 3, [2, 3]), (124, .invokevirtual 78, 3, [0, 48, 3, 0]), (127, .goto 37, 3, [9])] := rfl
theorem cb_X2_go_6 : (blk md_X2_go 6).2 = [(130, .aload_n 0, 1, []), (131, .aload_n 0, 1, []), (132, .getfield 22, 3, [2, 2]), (135, .invokevirtual 81, 3, [0, 49, 2, 0]), (138, .goto 26, 3, [9])] := rfl
theorem cb_X2_go_7 : (blk md_X2_go 7).2 = [(141, .aload_n 0, 1, []), (142, .aload_n 0, 1, []), (143, .getfield 22, 3, [2, 2]), (146, .aload_n 0, 1, []), (147, .getfield 25, 3, [2, 3]), (150, .aload_n 0, 1, []), (151, .getfield 28, 3, [2, 4]), (154, .invokevirtual 84, 3, [0, 50, 4, 0]), (157, .goto 7, 3, [9])] := rfl
theorem cb_X2_go_8 : (blk md_X2_go 8).2 = [(160, .aload_n 0, 1, []), (161, .invokevirtual 87, 3, [0, 51, 1, 0])] := rfl
theorem cb_X2_go_9 : (blk md_X2_go 9).2 = [(164, .return_, 1, [])] := rfl
def md_X2_ownTable : List mB := [
  (false, [(0, .aload_n 0, 1, []), (1, .getfield 12, 3, [2, 0]), (4, .iload_n 1, 1, []), (5, .iload_n 2, 1, []), (6, .invokevirtual 90, 3, [0, 9, 3, 1]), (9, .istore_n 3, 1, []), (10, .iload_n 3, 1, []), (11, .ifCond .eq 18, 3, [3])]),
  (false, [(14, .aload_n 0, 1, []), (15, .getfield 12, 3, [2, 0]), (18, .getfield 52, 3, [0, 1]), (21, .iload_n 3, 1, []), (22, .iaload, 1, []), (23, .iconst 1, 1, []), (24, .if_icmp .gt 5, 3, [3])]),
  (false, [(27, .iload_n 3, 1, []), (28, .ireturn, 1, [])]),
  (false, [(29, .aload_n 0, 1, []), (30, .invokevirtual 94, 3, [0, 38, 1, 1]), (33, .istore 4, 2, []), (35, .aload_n 0, 1, []), (36, .invokevirtual 48, 3, [0, 36, 1, 1]), (39, .ifCond .eq 14, 3, [5])]),
  (false, [(42, .aload_n 0, 1, []), (43, .getfield 12, 3, [2, 0]), (46, .getfield 52, 3, [0, 1]), (49, .iload 4, 2, []), (51, .iconst 1, 1, []), (52, .iastore, 1, [])]),
  (false, [(53, .aload_n 0, 1, []), (54, .invokevirtual 48, 3, [0, 36, 1, 1]), (57, .ifCond .eq 28, 3, [7])]),
  (false, [(60, .aload_n 0, 1, []), (61, .getfield 12, 3, [2, 0]), (64, .getfield 97, 3, [0, 0]), (67, .iload_n 3, 1, []), (68, .iconst 4, 1, []), (69, .imul, 1, []), (70, .aload_n 0, 1, []), (71, .getfield 12, 3, [2, 0]), (74, .getfield 97, 3, [0, 0]), (77, .iload 4, 2, []), (79, .iconst 4, 1, []), (80, .imul, 1, []), (81, .iconst 4, 1, []), (82, .invokestatic 100, 3, [9])]),
  (false, [(85, .iconst 0, 1, []), (86, .istore 5, 2, [])]),
  (false, [(88, .iload 5, 2, []), (90, .iconst 4, 1, []), (91, .if_icmp .ge 47, 3, [13])]),
  (false, [(94, .aload_n 0, 1, []), (95, .getfield 12, 3, [2, 0]), (98, .iload_n 3, 1, []), (99, .iload 5, 2, []), (101, .invokevirtual 106, 3, [0, 10, 3, 1]), (104, .istore 6, 2, []), (106, .iload 6, 2, []), (108, .ifCond .eq 24, 3, [12])]),
  (false, [(111, .aload_n 0, 1, []), (112, .invokevirtual 48, 3, [0, 36, 1, 1]), (115, .ifCond .eq 17, 3, [12])]),
  (false, [(118, .aload_n 0, 1, []), (119, .getfield 12, 3, [2, 0]), (122, .getfield 52, 3, [0, 1]), (125, .iload 6, 2, []), (127, .dup2, 1, []), (128, .iaload, 1, []), (129, .iconst 1, 1, []), (130, .iadd, 1, []), (131, .iastore, 1, [])]),
  (false, [(132, .iinc 5 1, 3, []), (135, .goto (-47), 3, [8])]),
  (false, [(138, .aload_n 0, 1, []), (139, .invokevirtual 48, 3, [0, 36, 1, 1]), (142, .ifCond .eq 18, 3, [15])]),
  (false, [(145, .aload_n 0, 1, []), (146, .getfield 12, 3, [2, 0]), (149, .getfield 109, 3, [0, 2]), (152, .iload_n 1, 1, []), (153, .iconst 4, 1, []), (154, .imul, 1, []), (155, .iload_n 2, 1, []), (156, .iadd, 1, []), (157, .iload 4, 2, []), (159, .iastore, 1, [])]),
  (false, [(160, .iload_n 3, 1, []), (161, .ifCond .eq 23, 3, [18])]),
  (false, [(164, .aload_n 0, 1, []), (165, .invokevirtual 48, 3, [0, 36, 1, 1]), (168, .ifCond .eq 16, 3, [18])]),
  (false, [(171, .aload_n 0, 1, []), (172, .getfield 12, 3, [2, 0]), (175, .getfield 52, 3, [0, 1]), (178, .iload_n 3, 1, []), (179, .dup2, 1, []), (180, .iaload, 1, []), (181, .iconst 1, 1, []), (182, .isub, 1, []), (183, .iastore, 1, [])]),
  (false, [(184, .iload 4, 2, []), (186, .ireturn, 1, [])])]
theorem cb_X2_ownTable_0 : (blk md_X2_ownTable 0).2 = [(0, .aload_n 0, 1, []), (1, .getfield 12, 3, [2, 0]), (4, .iload_n 1, 1, []), (5, .iload_n 2, 1, []), (6, .invokevirtual 90, 3, [0, 9, 3, 1]), (9, .istore_n 3, 1, []), (10, .iload_n 3, 1, []), (11, .ifCond .eq 18, 3, [3])] := rfl
theorem cb_X2_ownTable_1 : (blk md_X2_ownTable 1).2 = [(14, .aload_n 0, 1, []), (15, .getfield 12, 3, [2, 0]), (18, .getfield 52, 3, [0, 1]), (21, .iload_n 3, 1, []), (22, .iaload, 1, []), (23, .iconst 1, 1, []), (24, .if_icmp .gt 5, 3, [3])] := rfl
theorem cb_X2_ownTable_2 : (blk md_X2_ownTable 2).2 = [(27, .iload_n 3, 1, []), (28, .ireturn, 1, [])] := rfl
theorem cb_X2_ownTable_3 : (blk md_X2_ownTable 3).2 = [(29, .aload_n 0, 1, []), (30, .invokevirtual 94, 3, [0, 38, 1, 1]), (33, .istore 4, 2, []), (35, .aload_n 0, 1, []), (36, .invokevirtual 48, 3, [0, 36, 1, 1]), (39, .ifCond .eq 14, 3, [5])] := rfl
theorem cb_X2_ownTable_4 : (blk md_X2_ownTable 4).2 = [(42, .aload_n 0, 1, []), (43, .getfield 12, 3, [2, 0]), (46, .getfield 52, 3, [0, 1]), (49, .iload 4, 2, []), (51, .iconst 1, 1, []), (52, .iastore, 1, [])] := rfl
theorem cb_X2_ownTable_5 : (blk md_X2_ownTable 5).2 = [(53, .aload_n 0, 1, []), (54, .invokevirtual 48, 3, [0, 36, 1, 1]), (57, .ifCond .eq 28, 3, [7])] := rfl
theorem cb_X2_ownTable_6 : (blk md_X2_ownTable 6).2 = [(60, .aload_n 0, 1, []), (61, .getfield 12, 3, [2, 0]), (64, .getfield 97, 3, [0, 0]), (67, .iload_n 3, 1, []), (68, .iconst 4, 1, []), (69, .imul, 1, []), (70, .aload_n 0, 1, []), (71, .getfield 12, 3, [2, 0]), (74, .getfield 97, 3, [0, 0]), (77, .iload 4, 2, []), (79, .iconst 4, 1, []), (80, .imul, 1, []), (81, .iconst 4, 1, []), (82, .invokestatic 100, 3, [9])] := rfl
theorem cb_X2_ownTable_7 : (blk md_X2_ownTable 7).2 = [(85, .iconst 0, 1, []), (86, .istore 5, 2, [])] := rfl
theorem cb_X2_ownTable_8 : (blk md_X2_ownTable 8).2 = [(88, .iload 5, 2, []), (90, .iconst 4, 1, []), (91, .if_icmp .ge 47, 3, [13])] := rfl
theorem cb_X2_ownTable_9 : (blk md_X2_ownTable 9).2 = [(94, .aload_n 0, 1, []), (95, .getfield 12, 3, [2, 0]), (98, .iload_n 3, 1, []), (99, .iload 5, 2, []), (101, .invokevirtual 106, 3, [0, 10, 3, 1]), (104, .istore 6, 2, []), (106, .iload 6, 2, []), (108, .ifCond .eq 24, 3, [12])] := rfl
theorem cb_X2_ownTable_10 : (blk md_X2_ownTable 10).2 = [(111, .aload_n 0, 1, []), (112, .invokevirtual 48, 3, [0, 36, 1, 1]), (115, .ifCond .eq 17, 3, [12])] := rfl
theorem cb_X2_ownTable_11 : (blk md_X2_ownTable 11).2 = [(118, .aload_n 0, 1, []), (119, .getfield 12, 3, [2, 0]), (122, .getfield 52, 3, [0, 1]), (125, .iload 6, 2, []), (127, .dup2, 1, []), (128, .iaload, 1, []), (129, .iconst 1, 1, []), (130, .iadd, 1, []), (131, .iastore, 1, [])] := rfl
theorem cb_X2_ownTable_12 : (blk md_X2_ownTable 12).2 = [(132, .iinc 5 1, 3, []), (135, .goto (-47), 3, [8])] := rfl
theorem cb_X2_ownTable_13 : (blk md_X2_ownTable 13).2 = [(138, .aload_n 0, 1, []), (139, .invokevirtual 48, 3, [0, 36, 1, 1]), (142, .ifCond .eq 18, 3, [15])] := rfl
theorem cb_X2_ownTable_14 : (blk md_X2_ownTable 14).2 = [(145, .aload_n 0, 1, []), (146, .getfield 12, 3, [2, 0]), (149, .getfield 109, 3, [0, 2]), (152, .iload_n 1, 1, []), (153, .iconst 4, 1, []), (154, .imul, 1, []), (155, .iload_n 2, 1, []), (156, .iadd, 1, []), (157, .iload 4, 2, []), (159, .iastore, 1, [])] := rfl
theorem cb_X2_ownTable_15 : (blk md_X2_ownTable 15).2 = [(160, .iload_n 3, 1, []), (161, .ifCond .eq 23, 3, [18])] := rfl
theorem cb_X2_ownTable_16 : (blk md_X2_ownTable 16).2 = [(164, .aload_n 0, 1, []), (165, .invokevirtual 48, 3, [0, 36, 1, 1]), (168, .ifCond .eq 16, 3, [18])] := rfl
theorem cb_X2_ownTable_17 : (blk md_X2_ownTable 17).2 = [(171, .aload_n 0, 1, []), (172, .getfield 12, 3, [2, 0]), (175, .getfield 52, 3, [0, 1]), (178, .iload_n 3, 1, []), (179, .dup2, 1, []), (180, .iaload, 1, []), (181, .iconst 1, 1, []), (182, .isub, 1, []), (183, .iastore, 1, [])] := rfl
theorem cb_X2_ownTable_18 : (blk md_X2_ownTable 18).2 = [(184, .iload 4, 2, []), (186, .ireturn, 1, [])] := rfl
def md_X2_noteTables : List mB := [
  (false, [(0, .aload_n 0, 1, []), (1, .getfield 12, 3, [2, 0]), (4, .getfield 109, 3, [0, 2]), (7, .iload_n 1, 1, []), (8, .iconst 4, 1, []), (9, .imul, 1, []), (10, .aload_n 0, 1, []), (11, .getfield 40, 3, [2, 8]), (14, .iconst 0, 1, []), (15, .iconst 4, 1, []), (16, .invokestatic 100, 3, [9]), (19, .return_, 1, [])])]
theorem cb_X2_noteTables_0 : (blk md_X2_noteTables 0).2 = [(0, .aload_n 0, 1, []), (1, .getfield 12, 3, [2, 0]), (4, .getfield 109, 3, [0, 2]), (7, .iload_n 1, 1, []), (8, .iconst 4, 1, []), (9, .imul, 1, []), (10, .aload_n 0, 1, []), (11, .getfield 40, 3, [2, 8]), (14, .iconst 0, 1, []), (15, .iconst 4, 1, []), (16, .invokestatic 100, 3, [9]), (19, .return_, 1, [])] := rfl
def md_X2_releaseNoted : List mB := [
  (false, [(0, .iconst 0, 1, []), (1, .istore_n 1, 1, [])]),
  (false, [(2, .iload_n 1, 1, []), (3, .iconst 4, 1, []), (4, .if_icmp .ge 68, 3, [8])]),
  (false, [(7, .aload_n 0, 1, []), (8, .getfield 40, 3, [2, 8]), (11, .iload_n 1, 1, []), (12, .iaload, 1, []), (13, .istore_n 2, 1, []), (14, .iload_n 2, 1, []), (15, .invokestatic 112, 3, [2, 97, 1, 1]), (18, .ifCond .eq 48, 3, [7])]),
  (false, [(21, .aload_n 0, 1, []), (22, .iload_n 2, 1, []), (23, .iconst (-1), 1, []), (24, .invokevirtual 116, 3, [0, 37, 3, 0]), (27, .iconst 0, 1, []), (28, .istore_n 3, 1, [])]),
  (false, [(29, .iload_n 3, 1, []), (30, .iconst 4, 1, []), (31, .if_icmp .ge 35, 3, [7])]),
  (false, [(34, .aload_n 0, 1, []), (35, .getfield 12, 3, [2, 0]), (38, .getfield 52, 3, [0, 1]), (41, .iload_n 2, 1, []), (42, .iaload, 1, []), (43, .ifCond .ne 23, 3, [7])]),
  (false, [(46, .aload_n 0, 1, []), (47, .aload_n 0, 1, []), (48, .getfield 12, 3, [2, 0]), (51, .iload_n 2, 1, []), (52, .iload_n 3, 1, []), (53, .invokevirtual 106, 3, [0, 10, 3, 1]), (56, .iconst (-1), 1, []), (57, .invokevirtual 116, 3, [0, 37, 3, 0]), (60, .iinc 3 1, 3, []), (63, .goto (-34), 3, [4])]),
  (false, [(66, .iinc 1 1, 3, []), (69, .goto (-67), 3, [1])]),
  (false, [(72, .return_, 1, [])])]
theorem cb_X2_releaseNoted_0 : (blk md_X2_releaseNoted 0).2 = [(0, .iconst 0, 1, []), (1, .istore_n 1, 1, [])] := rfl
theorem cb_X2_releaseNoted_1 : (blk md_X2_releaseNoted 1).2 = [(2, .iload_n 1, 1, []), (3, .iconst 4, 1, []), (4, .if_icmp .ge 68, 3, [8])] := rfl
theorem cb_X2_releaseNoted_2 : (blk md_X2_releaseNoted 2).2 = [(7, .aload_n 0, 1, []), (8, .getfield 40, 3, [2, 8]), (11, .iload_n 1, 1, []), (12, .iaload, 1, []), (13, .istore_n 2, 1, []), (14, .iload_n 2, 1, []), (15, .invokestatic 112, 3, [2, 97, 1, 1]), (18, .ifCond .eq 48, 3, [7])] := rfl
theorem cb_X2_releaseNoted_3 : (blk md_X2_releaseNoted 3).2 = [(21, .aload_n 0, 1, []), (22, .iload_n 2, 1, []), (23, .iconst (-1), 1, []), (24, .invokevirtual 116, 3, [0, 37, 3, 0]), (27, .iconst 0, 1, []), (28, .istore_n 3, 1, [])] := rfl
theorem cb_X2_releaseNoted_4 : (blk md_X2_releaseNoted 4).2 = [(29, .iload_n 3, 1, []), (30, .iconst 4, 1, []), (31, .if_icmp .ge 35, 3, [7])] := rfl
theorem cb_X2_releaseNoted_5 : (blk md_X2_releaseNoted 5).2 = [(34, .aload_n 0, 1, []), (35, .getfield 12, 3, [2, 0]), (38, .getfield 52, 3, [0, 1]), (41, .iload_n 2, 1, []), (42, .iaload, 1, []), (43, .ifCond .ne 23, 3, [7])] := rfl
theorem cb_X2_releaseNoted_6 : (blk md_X2_releaseNoted 6).2 = [(46, .aload_n 0, 1, []), (47, .aload_n 0, 1, []), (48, .getfield 12, 3, [2, 0]), (51, .iload_n 2, 1, []), (52, .iload_n 3, 1, []), (53, .invokevirtual 106, 3, [0, 10, 3, 1]), (56, .iconst (-1), 1, []), (57, .invokevirtual 116, 3, [0, 37, 3, 0]), (60, .iinc 3 1, 3, []), (63, .goto (-34), 3, [4])] := rfl
theorem cb_X2_releaseNoted_7 : (blk md_X2_releaseNoted 7).2 = [(66, .iinc 1 1, 3, []), (69, .goto (-67), 3, [1])] := rfl
theorem cb_X2_releaseNoted_8 : (blk md_X2_releaseNoted 8).2 = [(72, .return_, 1, [])] := rfl
def md_X2_rewriteAll : List mB := [
  (false, [(0, .aload_n 0, 1, []), (1, .aload_n 1, 1, []), (2, .ldc 119, 2, [0, 1000000]), (4, .invokevirtual 55, 3, [0, 35, 3, 0]), (7, .iconst 0, 1, []), (8, .istore_n 3, 1, [])]),
  (false, [(9, .iload_n 3, 1, []), (10, .bipush 64, 2, []), (12, .if_icmp .ge 36, 3, [5])]),
  (false, [(15, .aload_n 0, 1, []), (16, .iload_n 2, 1, []), (17, .iload_n 3, 1, []), (18, .aload_n 0, 1, []), (19, .getfield 12, 3, [2, 0]), (22, .iload_n 2, 1, []), (23, .iload_n 3, 1, []), (24, .invokevirtual 120, 3, [0, 13, 3, 1]), (27, .invokevirtual 59, 3, [0, 44, 4, 0]), (30, .aload_n 0, 1, []), (31, .getfield 37, 3, [2, 7]), (34, .sipush (-1002), 3, []), (37, .if_icmp .ne 5, 3, [4])]),
  (false, [(40, .iload_n 3, 1, []), (41, .ireturn, 1, [])]),
  (false, [(42, .iinc 3 1, 3, []), (45, .goto (-36), 3, [1])]),
  (false, [(48, .bipush 64, 2, []), (50, .ireturn, 1, [])])]
theorem cb_X2_rewriteAll_0 : (blk md_X2_rewriteAll 0).2 = [(0, .aload_n 0, 1, []), (1, .aload_n 1, 1, []), (2, .ldc 119, 2, [0, 1000000]), (4, .invokevirtual 55, 3, [0, 35, 3, 0]), (7, .iconst 0, 1, []), (8, .istore_n 3, 1, [])] := rfl
theorem cb_X2_rewriteAll_1 : (blk md_X2_rewriteAll 1).2 = [(9, .iload_n 3, 1, []), (10, .bipush 64, 2, []), (12, .if_icmp .ge 36, 3, [5])] := rfl
theorem cb_X2_rewriteAll_2 : (blk md_X2_rewriteAll 2).2 = [(15, .aload_n 0, 1, []), (16, .iload_n 2, 1, []), (17, .iload_n 3, 1, []), (18, .aload_n 0, 1, []), (19, .getfield 12, 3, [2, 0]), (22, .iload_n 2, 1, []), (23, .iload_n 3, 1, []), (24, .invokevirtual 120, 3, [0, 13, 3, 1]), (27, .invokevirtual 59, 3, [0, 44, 4, 0]), (30, .aload_n 0, 1, []), (31, .getfield 37, 3, [2, 7]), (34, .sipush (-1002), 3, []), (37, .if_icmp .ne 5, 3, [4])] := rfl
theorem cb_X2_rewriteAll_3 : (blk md_X2_rewriteAll 3).2 = [(40, .iload_n 3, 1, []), (41, .ireturn, 1, [])] := rfl
theorem cb_X2_rewriteAll_4 : (blk md_X2_rewriteAll 4).2 = [(42, .iinc 3 1, 3, []), (45, .goto (-36), 3, [1])] := rfl
theorem cb_X2_rewriteAll_5 : (blk md_X2_rewriteAll 5).2 = [(48, .bipush 64, 2, []), (50, .ireturn, 1, [])] := rfl
def md_X2_writePlace : List mB := [
  (false, [(0, .iload_n 2, 1, []), (1, .iconst 4, 1, []), (2, .idiv, 1, []), (3, .istore 4, 2, []), (5, .aload_n 0, 1, []), (6, .iload_n 1, 1, []), (7, .iload 4, 2, []), (9, .iconst 4, 1, []), (10, .idiv, 1, []), (11, .invokevirtual 123, 3, [0, 40, 3, 1]), (14, .istore 5, 2, []), (16, .aload_n 0, 1, []), (17, .getfield 12, 3, [2, 0]), (20, .iload 5, 2, []), (22, .iload 4, 2, []), (24, .iconst 4, 1, []), (25, .irem, 1, []), (26, .invokevirtual 106, 3, [0, 10, 3, 1]), (29, .istore 6, 2, []), (31, .iload 6, 2, []), (33, .ifCond .eq 17, 3, [2])]),
  (false, [(36, .aload_n 0, 1, []), (37, .getfield 12, 3, [2, 0]), (40, .getfield 52, 3, [0, 1]), (43, .iload 6, 2, []), (45, .iaload, 1, []), (46, .iconst 1, 1, []), (47, .if_icmp .le 120, 3, [11])]),
  (false, [(50, .iload 6, 2, []), (52, .istore 7, 2, []), (54, .aload_n 0, 1, []), (55, .invokevirtual 94, 3, [0, 38, 1, 1]), (58, .istore 6, 2, []), (60, .aload_n 0, 1, []), (61, .invokevirtual 48, 3, [0, 36, 1, 1]), (64, .ifCond .eq 14, 3, [4])]),
  (false, [(67, .aload_n 0, 1, []), (68, .getfield 12, 3, [2, 0]), (71, .getfield 52, 3, [0, 1]), (74, .iload 6, 2, []), (76, .iconst 1, 1, []), (77, .iastore, 1, [])]),
  (false, [(78, .aload_n 0, 1, []), (79, .invokevirtual 48, 3, [0, 36, 1, 1]), (82, .istore 8, 2, []), (84, .iconst 0, 1, []), (85, .istore 9, 2, [])]),
  (false, [(87, .iload 9, 2, []), (89, .iconst 4, 1, []), (90, .if_icmp .ge 44, 3, [8])]),
  (false, [(93, .iload 8, 2, []), (95, .ifCond .eq 39, 3, [8])]),
  (false, [(98, .aload_n 0, 1, []), (99, .getfield 12, 3, [2, 0]), (102, .getfield 97, 3, [0, 0]), (105, .iload 6, 2, []), (107, .iconst 4, 1, []), (108, .imul, 1, []), (109, .iload 9, 2, []), (111, .iadd, 1, []), (112, .aload_n 0, 1, []), (113, .getfield 12, 3, [2, 0]), (116, .iload_n 1, 1, []), (117, .iload 4, 2, []), (119, .iconst 4, 1, []), (120, .imul, 1, []), (121, .iload 9, 2, []), (123, .iadd, 1, []), (124, .invokevirtual 120, 3, [0, 13, 3, 1]), (127, .iastore, 1, []), (128, .iinc 9 1, 3, []), (131, .goto (-44), 3, [5])]),
  (false, [(134, .aload_n 0, 1, []), (135, .invokevirtual 48, 3, [0, 36, 1, 1]), (138, .ifCond .eq 22, 3, [10])]),
  (false, [(141, .aload_n 0, 1, []), (142, .getfield 12, 3, [2, 0]), (145, .getfield 97, 3, [0, 0]), (148, .iload 5, 2, []), (150, .iconst 4, 1, []), (151, .imul, 1, []), (152, .iload 4, 2, []), (154, .iconst 4, 1, []), (155, .irem, 1, []), (156, .iadd, 1, []), (157, .iload 6, 2, []), (159, .iastore, 1, [])]),
  (false, [(160, .aload_n 0, 1, []), (161, .iload 7, 2, []), (163, .iconst (-1), 1, []), (164, .invokevirtual 116, 3, [0, 37, 3, 0])]),
  (false, [(167, .aload_n 0, 1, []), (168, .invokevirtual 48, 3, [0, 36, 1, 1]), (171, .ifCond .eq 20, 3, [13])]),
  (false, [(174, .aload_n 0, 1, []), (175, .getfield 12, 3, [2, 0]), (178, .getfield 97, 3, [0, 0]), (181, .iload 6, 2, []), (183, .iconst 4, 1, []), (184, .imul, 1, []), (185, .iload_n 2, 1, []), (186, .iconst 4, 1, []), (187, .irem, 1, []), (188, .iadd, 1, []), (189, .iload_n 3, 1, []), (190, .iastore, 1, [])]),
  (false, [(191, .return_, 1, [])])]
theorem cb_X2_writePlace_0 : (blk md_X2_writePlace 0).2 = [(0, .iload_n 2, 1, []), (1, .iconst 4, 1, []), (2, .idiv, 1, []), (3, .istore 4, 2, []), (5, .aload_n 0, 1, []), (6, .iload_n 1, 1, []), (7, .iload 4, 2, []), (9, .iconst 4, 1, []), (10, .idiv, 1, []), (11, .invokevirtual 123, 3, [0, 40, 3, 1]), (14, .istore 5, 2, []), (16, .aload_n 0, 1, []), (17, .getfield 12, 3, [2, 0]), (20, .iload 5, 2, []), (22, .iload 4, 2, []), (24, .iconst 4, 1, []), (25, .irem, 1, []), (26, .invokevirtual 106, 3, [0, 10, 3, 1]), (29, .istore 6, 2, []), (31, .iload 6, 2, []), (33, .ifCond .eq 17, 3, [2])] := rfl
theorem cb_X2_writePlace_1 : (blk md_X2_writePlace 1).2 = [(36, .aload_n 0, 1, []), (37, .getfield 12, 3, [2, 0]), (40, .getfield 52, 3, [0, 1]), (43, .iload 6, 2, []), (45, .iaload, 1, []), (46, .iconst 1, 1, []), (47, .if_icmp .le 120, 3, [11])] := rfl
theorem cb_X2_writePlace_2 : (blk md_X2_writePlace 2).2 = [(50, .iload 6, 2, []), (52, .istore 7, 2, []), (54, .aload_n 0, 1, []), (55, .invokevirtual 94, 3, [0, 38, 1, 1]), (58, .istore 6, 2, []), (60, .aload_n 0, 1, []), (61, .invokevirtual 48, 3, [0, 36, 1, 1]), (64, .ifCond .eq 14, 3, [4])] := rfl
theorem cb_X2_writePlace_3 : (blk md_X2_writePlace 3).2 = [(67, .aload_n 0, 1, []), (68, .getfield 12, 3, [2, 0]), (71, .getfield 52, 3, [0, 1]), (74, .iload 6, 2, []), (76, .iconst 1, 1, []), (77, .iastore, 1, [])] := rfl
theorem cb_X2_writePlace_4 : (blk md_X2_writePlace 4).2 = [(78, .aload_n 0, 1, []), (79, .invokevirtual 48, 3, [0, 36, 1, 1]), (82, .istore 8, 2, []), (84, .iconst 0, 1, []), (85, .istore 9, 2, [])] := rfl
theorem cb_X2_writePlace_5 : (blk md_X2_writePlace 5).2 = [(87, .iload 9, 2, []), (89, .iconst 4, 1, []), (90, .if_icmp .ge 44, 3, [8])] := rfl
theorem cb_X2_writePlace_6 : (blk md_X2_writePlace 6).2 = [(93, .iload 8, 2, []), (95, .ifCond .eq 39, 3, [8])] := rfl
theorem cb_X2_writePlace_7 : (blk md_X2_writePlace 7).2 = [(98, .aload_n 0, 1, []), (99, .getfield 12, 3, [2, 0]), (102, .getfield 97, 3, [0, 0]), (105, .iload 6, 2, []), (107, .iconst 4, 1, []), (108, .imul, 1, []), (109, .iload 9, 2, []), (111, .iadd, 1, []), (112, .aload_n 0, 1, []), (113, .getfield 12, 3, [2, 0]), (116, .iload_n 1, 1, []), (117, .iload 4, 2, []), (119, .iconst 4, 1, []), (120, .imul, 1, []), (121, .iload 9, 2, []), (123, .iadd, 1, []), (124, .invokevirtual 120, 3, [0, 13, 3, 1]), (127, .iastore, 1, []), (128, .iinc 9 1, 3, []), (131, .goto (-44), 3, [5])] := rfl
theorem cb_X2_writePlace_8 : (blk md_X2_writePlace 8).2 = [(134, .aload_n 0, 1, []), (135, .invokevirtual 48, 3, [0, 36, 1, 1]), (138, .ifCond .eq 22, 3, [10])] := rfl
theorem cb_X2_writePlace_9 : (blk md_X2_writePlace 9).2 = [(141, .aload_n 0, 1, []), (142, .getfield 12, 3, [2, 0]), (145, .getfield 97, 3, [0, 0]), (148, .iload 5, 2, []), (150, .iconst 4, 1, []), (151, .imul, 1, []), (152, .iload 4, 2, []), (154, .iconst 4, 1, []), (155, .irem, 1, []), (156, .iadd, 1, []), (157, .iload 6, 2, []), (159, .iastore, 1, [])] := rfl
theorem cb_X2_writePlace_10 : (blk md_X2_writePlace 10).2 = [(160, .aload_n 0, 1, []), (161, .iload 7, 2, []), (163, .iconst (-1), 1, []), (164, .invokevirtual 116, 3, [0, 37, 3, 0])] := rfl
theorem cb_X2_writePlace_11 : (blk md_X2_writePlace 11).2 = [(167, .aload_n 0, 1, []), (168, .invokevirtual 48, 3, [0, 36, 1, 1]), (171, .ifCond .eq 20, 3, [13])] := rfl
theorem cb_X2_writePlace_12 : (blk md_X2_writePlace 12).2 = [(174, .aload_n 0, 1, []), (175, .getfield 12, 3, [2, 0]), (178, .getfield 97, 3, [0, 0]), (181, .iload 6, 2, []), (183, .iconst 4, 1, []), (184, .imul, 1, []), (185, .iload_n 2, 1, []), (186, .iconst 4, 1, []), (187, .irem, 1, []), (188, .iadd, 1, []), (189, .iload_n 3, 1, []), (190, .iastore, 1, [])] := rfl
theorem cb_X2_writePlace_13 : (blk md_X2_writePlace 13).2 = [(191, .return_, 1, [])] := rfl
def md_X2_takeSnapshot : List mB := [
  (false, [(0, .iload_n 2, 1, []), (1, .ifCond .lt 9, 3, [2])]),
  (false, [(4, .iload_n 2, 1, []), (5, .bipush 8, 2, []), (7, .if_icmp .lt 4, 3, [3])]),
  (false, [(10, .return_, 1, [])]),
  (false, [(11, .iconst 0, 1, []), (12, .istore_n 3, 1, [])]),
  (false, [(13, .iload_n 3, 1, []), (14, .iconst 4, 1, []), (15, .if_icmp .ge 23, 3, [6])]),
  (false, [(18, .aload_n 0, 1, []), (19, .aload_n 0, 1, []), (20, .getfield 12, 3, [2, 0]), (23, .iload_n 1, 1, []), (24, .iload_n 3, 1, []), (25, .invokevirtual 90, 3, [0, 9, 3, 1]), (28, .iconst 1, 1, []), (29, .invokevirtual 116, 3, [0, 37, 3, 0]), (32, .iinc 3 1, 3, []), (35, .goto (-22), 3, [4])]),
  (false, [(38, .aload_n 0, 1, []), (39, .invokevirtual 48, 3, [0, 36, 1, 1]), (42, .ifCond .eq 40, 3, [8])]),
  (false, [(45, .aload_n 0, 1, []), (46, .getfield 12, 3, [2, 0]), (49, .getfield 126, 3, [0, 4]), (52, .iload_n 2, 1, []), (53, .iload_n 1, 1, []), (54, .iastore, 1, []), (55, .aload_n 0, 1, []), (56, .getfield 12, 3, [2, 0]), (59, .getfield 109, 3, [0, 2]), (62, .iload_n 1, 1, []), (63, .iconst 4, 1, []), (64, .imul, 1, []), (65, .aload_n 0, 1, []), (66, .getfield 12, 3, [2, 0]), (69, .getfield 109, 3, [0, 2]), (72, .bipush 6, 2, []), (74, .iload_n 2, 1, []), (75, .iadd, 1, []), (76, .iconst 4, 1, []), (77, .imul, 1, []), (78, .iconst 4, 1, []), (79, .invokestatic 100, 3, [9])]),
  (false, [(82, .return_, 1, [])])]
theorem cb_X2_takeSnapshot_0 : (blk md_X2_takeSnapshot 0).2 = [(0, .iload_n 2, 1, []), (1, .ifCond .lt 9, 3, [2])] := rfl
theorem cb_X2_takeSnapshot_1 : (blk md_X2_takeSnapshot 1).2 = [(4, .iload_n 2, 1, []), (5, .bipush 8, 2, []), (7, .if_icmp .lt 4, 3, [3])] := rfl
theorem cb_X2_takeSnapshot_2 : (blk md_X2_takeSnapshot 2).2 = [(10, .return_, 1, [])] := rfl
theorem cb_X2_takeSnapshot_3 : (blk md_X2_takeSnapshot 3).2 = [(11, .iconst 0, 1, []), (12, .istore_n 3, 1, [])] := rfl
theorem cb_X2_takeSnapshot_4 : (blk md_X2_takeSnapshot 4).2 = [(13, .iload_n 3, 1, []), (14, .iconst 4, 1, []), (15, .if_icmp .ge 23, 3, [6])] := rfl
theorem cb_X2_takeSnapshot_5 : (blk md_X2_takeSnapshot 5).2 = [(18, .aload_n 0, 1, []), (19, .aload_n 0, 1, []), (20, .getfield 12, 3, [2, 0]), (23, .iload_n 1, 1, []), (24, .iload_n 3, 1, []), (25, .invokevirtual 90, 3, [0, 9, 3, 1]), (28, .iconst 1, 1, []), (29, .invokevirtual 116, 3, [0, 37, 3, 0]), (32, .iinc 3 1, 3, []), (35, .goto (-22), 3, [4])] := rfl
theorem cb_X2_takeSnapshot_6 : (blk md_X2_takeSnapshot 6).2 = [(38, .aload_n 0, 1, []), (39, .invokevirtual 48, 3, [0, 36, 1, 1]), (42, .ifCond .eq 40, 3, [8])] := rfl
theorem cb_X2_takeSnapshot_7 : (blk md_X2_takeSnapshot 7).2 = [(45, .aload_n 0, 1, []), (46, .getfield 12, 3, [2, 0]), (49, .getfield 126, 3, [0, 4]), (52, .iload_n 2, 1, []), (53, .iload_n 1, 1, []), (54, .iastore, 1, []), (55, .aload_n 0, 1, []), (56, .getfield 12, 3, [2, 0]), (59, .getfield 109, 3, [0, 2]), (62, .iload_n 1, 1, []), (63, .iconst 4, 1, []), (64, .imul, 1, []), (65, .aload_n 0, 1, []), (66, .getfield 12, 3, [2, 0]), (69, .getfield 109, 3, [0, 2]), (72, .bipush 6, 2, []), (74, .iload_n 2, 1, []), (75, .iadd, 1, []), (76, .iconst 4, 1, []), (77, .imul, 1, []), (78, .iconst 4, 1, []), (79, .invokestatic 100, 3, [9])] := rfl
theorem cb_X2_takeSnapshot_8 : (blk md_X2_takeSnapshot 8).2 = [(82, .return_, 1, [])] := rfl
def md_X2_dropSnapshot : List mB := [
  (false, [(0, .bipush 6, 2, []), (2, .iload_n 1, 1, []), (3, .iadd, 1, []), (4, .istore_n 2, 1, []), (5, .aload_n 0, 1, []), (6, .iload_n 2, 1, []), (7, .invokevirtual 129, 3, [0, 41, 2, 0]), (10, .aload_n 0, 1, []), (11, .invokevirtual 48, 3, [0, 36, 1, 1]), (14, .ifCond .eq 32, 3, [2])]),
  (false, [(17, .aload_n 0, 1, []), (18, .getfield 12, 3, [2, 0]), (21, .getfield 126, 3, [0, 4]), (24, .iload_n 1, 1, []), (25, .iconst (-1), 1, []), (26, .iastore, 1, []), (27, .aload_n 0, 1, []), (28, .getfield 12, 3, [2, 0]), (31, .getfield 109, 3, [0, 2]), (34, .iload_n 2, 1, []), (35, .iconst 4, 1, []), (36, .imul, 1, []), (37, .iload_n 2, 1, []), (38, .iconst 1, 1, []), (39, .iadd, 1, []), (40, .iconst 4, 1, []), (41, .imul, 1, []), (42, .iconst 0, 1, []), (43, .invokestatic 132, 3, [1, 194, 4, 0])]),
  (false, [(46, .aload_n 0, 1, []), (47, .invokevirtual 138, 3, [0, 42, 1, 0]), (50, .return_, 1, [])])]
theorem cb_X2_dropSnapshot_0 : (blk md_X2_dropSnapshot 0).2 = [(0, .bipush 6, 2, []), (2, .iload_n 1, 1, []), (3, .iadd, 1, []), (4, .istore_n 2, 1, []), (5, .aload_n 0, 1, []), (6, .iload_n 2, 1, []), (7, .invokevirtual 129, 3, [0, 41, 2, 0]), (10, .aload_n 0, 1, []), (11, .invokevirtual 48, 3, [0, 36, 1, 1]), (14, .ifCond .eq 32, 3, [2])] := rfl
theorem cb_X2_dropSnapshot_1 : (blk md_X2_dropSnapshot 1).2 = [(17, .aload_n 0, 1, []), (18, .getfield 12, 3, [2, 0]), (21, .getfield 126, 3, [0, 4]), (24, .iload_n 1, 1, []), (25, .iconst (-1), 1, []), (26, .iastore, 1, []), (27, .aload_n 0, 1, []), (28, .getfield 12, 3, [2, 0]), (31, .getfield 109, 3, [0, 2]), (34, .iload_n 2, 1, []), (35, .iconst 4, 1, []), (36, .imul, 1, []), (37, .iload_n 2, 1, []), (38, .iconst 1, 1, []), (39, .iadd, 1, []), (40, .iconst 4, 1, []), (41, .imul, 1, []), (42, .iconst 0, 1, []), (43, .invokestatic 132, 3, [1, 194, 4, 0])] := rfl
theorem cb_X2_dropSnapshot_2 : (blk md_X2_dropSnapshot 2).2 = [(46, .aload_n 0, 1, []), (47, .invokevirtual 138, 3, [0, 42, 1, 0]), (50, .return_, 1, [])] := rfl
def md_X2_revertTo : List mB := [
  (false, [(0, .bipush 6, 2, []), (2, .iload_n 1, 1, []), (3, .iadd, 1, []), (4, .istore_n 2, 1, []), (5, .aload_n 0, 1, []), (6, .getfield 12, 3, [2, 0]), (9, .getfield 126, 3, [0, 4]), (12, .iload_n 1, 1, []), (13, .iaload, 1, []), (14, .istore_n 3, 1, []), (15, .aload_n 0, 1, []), (16, .getfield 12, 3, [2, 0]), (19, .iload_n 3, 1, []), (20, .invokevirtual 141, 3, [0, 1, 2, 1]), (23, .ifCond .ne 4, 3, [2])]),
  (false, [(26, .return_, 1, [])]),
  (false, [(27, .aload_n 0, 1, []), (28, .iload_n 3, 1, []), (29, .invokevirtual 129, 3, [0, 41, 2, 0]), (32, .iconst 0, 1, []), (33, .istore 4, 2, [])]),
  (false, [(35, .iload 4, 2, []), (37, .iconst 4, 1, []), (38, .if_icmp .ge 24, 3, [5])]),
  (false, [(41, .aload_n 0, 1, []), (42, .aload_n 0, 1, []), (43, .getfield 12, 3, [2, 0]), (46, .iload_n 2, 1, []), (47, .iload 4, 2, []), (49, .invokevirtual 90, 3, [0, 9, 3, 1]), (52, .iconst 1, 1, []), (53, .invokevirtual 116, 3, [0, 37, 3, 0]), (56, .iinc 4 1, 3, []), (59, .goto (-24), 3, [3])]),
  (false, [(62, .aload_n 0, 1, []), (63, .invokevirtual 48, 3, [0, 36, 1, 1]), (66, .ifCond .eq 27, 3, [7])]),
  (false, [(69, .aload_n 0, 1, []), (70, .getfield 12, 3, [2, 0]), (73, .getfield 109, 3, [0, 2]), (76, .iload_n 2, 1, []), (77, .iconst 4, 1, []), (78, .imul, 1, []), (79, .aload_n 0, 1, []), (80, .getfield 12, 3, [2, 0]), (83, .getfield 109, 3, [0, 2]), (86, .iload_n 3, 1, []), (87, .iconst 4, 1, []), (88, .imul, 1, []), (89, .iconst 4, 1, []), (90, .invokestatic 100, 3, [9])]),
  (false, [(93, .aload_n 0, 1, []), (94, .invokevirtual 138, 3, [0, 42, 1, 0]), (97, .return_, 1, [])])]
theorem cb_X2_revertTo_0 : (blk md_X2_revertTo 0).2 = [(0, .bipush 6, 2, []), (2, .iload_n 1, 1, []), (3, .iadd, 1, []), (4, .istore_n 2, 1, []), (5, .aload_n 0, 1, []), (6, .getfield 12, 3, [2, 0]), (9, .getfield 126, 3, [0, 4]), (12, .iload_n 1, 1, []), (13, .iaload, 1, []), (14, .istore_n 3, 1, []), (15, .aload_n 0, 1, []), (16, .getfield 12, 3, [2, 0]), (19, .iload_n 3, 1, []), (20, .invokevirtual 141, 3, [0, 1, 2, 1]), (23, .ifCond .ne 4, 3, [2])] := rfl
theorem cb_X2_revertTo_1 : (blk md_X2_revertTo 1).2 = [(26, .return_, 1, [])] := rfl
theorem cb_X2_revertTo_2 : (blk md_X2_revertTo 2).2 = [(27, .aload_n 0, 1, []), (28, .iload_n 3, 1, []), (29, .invokevirtual 129, 3, [0, 41, 2, 0]), (32, .iconst 0, 1, []), (33, .istore 4, 2, [])] := rfl
theorem cb_X2_revertTo_3 : (blk md_X2_revertTo 3).2 = [(35, .iload 4, 2, []), (37, .iconst 4, 1, []), (38, .if_icmp .ge 24, 3, [5])] := rfl
theorem cb_X2_revertTo_4 : (blk md_X2_revertTo 4).2 = [(41, .aload_n 0, 1, []), (42, .aload_n 0, 1, []), (43, .getfield 12, 3, [2, 0]), (46, .iload_n 2, 1, []), (47, .iload 4, 2, []), (49, .invokevirtual 90, 3, [0, 9, 3, 1]), (52, .iconst 1, 1, []), (53, .invokevirtual 116, 3, [0, 37, 3, 0]), (56, .iinc 4 1, 3, []), (59, .goto (-24), 3, [3])] := rfl
theorem cb_X2_revertTo_5 : (blk md_X2_revertTo 5).2 = [(62, .aload_n 0, 1, []), (63, .invokevirtual 48, 3, [0, 36, 1, 1]), (66, .ifCond .eq 27, 3, [7])] := rfl
theorem cb_X2_revertTo_6 : (blk md_X2_revertTo 6).2 = [(69, .aload_n 0, 1, []), (70, .getfield 12, 3, [2, 0]), (73, .getfield 109, 3, [0, 2]), (76, .iload_n 2, 1, []), (77, .iconst 4, 1, []), (78, .imul, 1, []), (79, .aload_n 0, 1, []), (80, .getfield 12, 3, [2, 0]), (83, .getfield 109, 3, [0, 2]), (86, .iload_n 3, 1, []), (87, .iconst 4, 1, []), (88, .imul, 1, []), (89, .iconst 4, 1, []), (90, .invokestatic 100, 3, [9])] := rfl
theorem cb_X2_revertTo_7 : (blk md_X2_revertTo 7).2 = [(93, .aload_n 0, 1, []), (94, .invokevirtual 138, 3, [0, 42, 1, 0]), (97, .return_, 1, [])] := rfl
def md_X2_giveUpBlock : List mB := [
  (false, [(0, .aload_n 0, 1, []), (1, .getfield 12, 3, [2, 0]), (4, .iload_n 1, 1, []), (5, .iload_n 2, 1, []), (6, .invokevirtual 144, 3, [0, 11, 3, 1]), (9, .istore_n 3, 1, []), (10, .iload_n 3, 1, []), (11, .ifCond .ne 4, 3, [2])]),
  (false, [(14, .return_, 1, [])]),
  (false, [(15, .aload_n 0, 1, []), (16, .iload_n 1, 1, []), (17, .iload_n 2, 1, []), (18, .iconst 4, 1, []), (19, .idiv, 1, []), (20, .invokevirtual 123, 3, [0, 40, 3, 1]), (23, .istore 4, 2, []), (25, .aload_n 0, 1, []), (26, .invokevirtual 48, 3, [0, 36, 1, 1]), (29, .ifCond .eq 20, 3, [4])]),
  (false, [(32, .aload_n 0, 1, []), (33, .getfield 12, 3, [2, 0]), (36, .getfield 97, 3, [0, 0]), (39, .iload 4, 2, []), (41, .iconst 4, 1, []), (42, .imul, 1, []), (43, .iload_n 2, 1, []), (44, .iconst 4, 1, []), (45, .irem, 1, []), (46, .iadd, 1, []), (47, .iconst 0, 1, []), (48, .iastore, 1, [])]),
  (false, [(49, .aload_n 0, 1, []), (50, .iload_n 3, 1, []), (51, .iconst (-1), 1, []), (52, .invokevirtual 116, 3, [0, 37, 3, 0]), (55, .return_, 1, [])])]
theorem cb_X2_giveUpBlock_0 : (blk md_X2_giveUpBlock 0).2 = [(0, .aload_n 0, 1, []), (1, .getfield 12, 3, [2, 0]), (4, .iload_n 1, 1, []), (5, .iload_n 2, 1, []), (6, .invokevirtual 144, 3, [0, 11, 3, 1]), (9, .istore_n 3, 1, []), (10, .iload_n 3, 1, []), (11, .ifCond .ne 4, 3, [2])] := rfl
theorem cb_X2_giveUpBlock_1 : (blk md_X2_giveUpBlock 1).2 = [(14, .return_, 1, [])] := rfl
theorem cb_X2_giveUpBlock_2 : (blk md_X2_giveUpBlock 2).2 = [(15, .aload_n 0, 1, []), (16, .iload_n 1, 1, []), (17, .iload_n 2, 1, []), (18, .iconst 4, 1, []), (19, .idiv, 1, []), (20, .invokevirtual 123, 3, [0, 40, 3, 1]), (23, .istore 4, 2, []), (25, .aload_n 0, 1, []), (26, .invokevirtual 48, 3, [0, 36, 1, 1]), (29, .ifCond .eq 20, 3, [4])] := rfl
theorem cb_X2_giveUpBlock_3 : (blk md_X2_giveUpBlock 3).2 = [(32, .aload_n 0, 1, []), (33, .getfield 12, 3, [2, 0]), (36, .getfield 97, 3, [0, 0]), (39, .iload 4, 2, []), (41, .iconst 4, 1, []), (42, .imul, 1, []), (43, .iload_n 2, 1, []), (44, .iconst 4, 1, []), (45, .irem, 1, []), (46, .iadd, 1, []), (47, .iconst 0, 1, []), (48, .iastore, 1, [])] := rfl
theorem cb_X2_giveUpBlock_4 : (blk md_X2_giveUpBlock 4).2 = [(49, .aload_n 0, 1, []), (50, .iload_n 3, 1, []), (51, .iconst (-1), 1, []), (52, .invokevirtual 116, 3, [0, 37, 3, 0]), (55, .return_, 1, [])] := rfl
def md_X2_mergeDown : List mB := [
  (false, [(0, .aload_n 0, 1, []), (1, .getfield 12, 3, [2, 0]), (4, .getfield 147, 3, [0, 3]), (7, .iload_n 1, 1, []), (8, .iaload, 1, []), (9, .istore_n 2, 1, []), (10, .aload_n 0, 1, []), (11, .getfield 12, 3, [2, 0]), (14, .iload_n 2, 1, []), (15, .invokevirtual 141, 3, [0, 1, 2, 1]), (18, .ifCond .ne 4, 3, [2])]),
  (false, [(21, .return_, 1, [])]),
  (false, [(22, .iconst 0, 1, []), (23, .istore_n 3, 1, [])]),
  (false, [(24, .iload_n 3, 1, []), (25, .bipush 64, 2, []), (27, .if_icmp .ge 38, 3, [7])]),
  (false, [(30, .aload_n 0, 1, []), (31, .getfield 12, 3, [2, 0]), (34, .iload_n 1, 1, []), (35, .iload_n 3, 1, []), (36, .iconst 4, 1, []), (37, .idiv, 1, []), (38, .invokevirtual 144, 3, [0, 11, 3, 1]), (41, .ifCond .eq 18, 3, [6])]),
  (false, [(44, .aload_n 0, 1, []), (45, .iload_n 2, 1, []), (46, .iload_n 3, 1, []), (47, .aload_n 0, 1, []), (48, .getfield 12, 3, [2, 0]), (51, .iload_n 1, 1, []), (52, .iload_n 3, 1, []), (53, .invokevirtual 120, 3, [0, 13, 3, 1]), (56, .invokevirtual 59, 3, [0, 44, 4, 0])]),
  (false, [(59, .iinc 3 1, 3, []), (62, .goto (-38), 3, [3])]),
  (false, [(65, .aload_n 0, 1, []), (66, .iload_n 1, 1, []), (67, .invokevirtual 129, 3, [0, 41, 2, 0]), (70, .aload_n 0, 1, []), (71, .invokevirtual 48, 3, [0, 36, 1, 1]), (74, .ifCond .eq 22, 3, [9])]),
  (false, [(77, .aload_n 0, 1, []), (78, .getfield 12, 3, [2, 0]), (81, .getfield 109, 3, [0, 2]), (84, .iload_n 1, 1, []), (85, .iconst 4, 1, []), (86, .imul, 1, []), (87, .iload_n 1, 1, []), (88, .iconst 1, 1, []), (89, .iadd, 1, []), (90, .iconst 4, 1, []), (91, .imul, 1, []), (92, .iconst 0, 1, []), (93, .invokestatic 132, 3, [1, 194, 4, 0])]),
  (false, [(96, .aload_n 0, 1, []), (97, .invokevirtual 138, 3, [0, 42, 1, 0]), (100, .return_, 1, [])])]
theorem cb_X2_mergeDown_0 : (blk md_X2_mergeDown 0).2 = [(0, .aload_n 0, 1, []), (1, .getfield 12, 3, [2, 0]), (4, .getfield 147, 3, [0, 3]), (7, .iload_n 1, 1, []), (8, .iaload, 1, []), (9, .istore_n 2, 1, []), (10, .aload_n 0, 1, []), (11, .getfield 12, 3, [2, 0]), (14, .iload_n 2, 1, []), (15, .invokevirtual 141, 3, [0, 1, 2, 1]), (18, .ifCond .ne 4, 3, [2])] := rfl
theorem cb_X2_mergeDown_1 : (blk md_X2_mergeDown 1).2 = [(21, .return_, 1, [])] := rfl
theorem cb_X2_mergeDown_2 : (blk md_X2_mergeDown 2).2 = [(22, .iconst 0, 1, []), (23, .istore_n 3, 1, [])] := rfl
theorem cb_X2_mergeDown_3 : (blk md_X2_mergeDown 3).2 = [(24, .iload_n 3, 1, []), (25, .bipush 64, 2, []), (27, .if_icmp .ge 38, 3, [7])] := rfl
theorem cb_X2_mergeDown_4 : (blk md_X2_mergeDown 4).2 = [(30, .aload_n 0, 1, []), (31, .getfield 12, 3, [2, 0]), (34, .iload_n 1, 1, []), (35, .iload_n 3, 1, []), (36, .iconst 4, 1, []), (37, .idiv, 1, []), (38, .invokevirtual 144, 3, [0, 11, 3, 1]), (41, .ifCond .eq 18, 3, [6])] := rfl
theorem cb_X2_mergeDown_5 : (blk md_X2_mergeDown 5).2 = [(44, .aload_n 0, 1, []), (45, .iload_n 2, 1, []), (46, .iload_n 3, 1, []), (47, .aload_n 0, 1, []), (48, .getfield 12, 3, [2, 0]), (51, .iload_n 1, 1, []), (52, .iload_n 3, 1, []), (53, .invokevirtual 120, 3, [0, 13, 3, 1]), (56, .invokevirtual 59, 3, [0, 44, 4, 0])] := rfl
theorem cb_X2_mergeDown_6 : (blk md_X2_mergeDown 6).2 = [(59, .iinc 3 1, 3, []), (62, .goto (-38), 3, [3])] := rfl
theorem cb_X2_mergeDown_7 : (blk md_X2_mergeDown 7).2 = [(65, .aload_n 0, 1, []), (66, .iload_n 1, 1, []), (67, .invokevirtual 129, 3, [0, 41, 2, 0]), (70, .aload_n 0, 1, []), (71, .invokevirtual 48, 3, [0, 36, 1, 1]), (74, .ifCond .eq 22, 3, [9])] := rfl
theorem cb_X2_mergeDown_8 : (blk md_X2_mergeDown 8).2 = [(77, .aload_n 0, 1, []), (78, .getfield 12, 3, [2, 0]), (81, .getfield 109, 3, [0, 2]), (84, .iload_n 1, 1, []), (85, .iconst 4, 1, []), (86, .imul, 1, []), (87, .iload_n 1, 1, []), (88, .iconst 1, 1, []), (89, .iadd, 1, []), (90, .iconst 4, 1, []), (91, .imul, 1, []), (92, .iconst 0, 1, []), (93, .invokestatic 132, 3, [1, 194, 4, 0])] := rfl
theorem cb_X2_mergeDown_9 : (blk md_X2_mergeDown 9).2 = [(96, .aload_n 0, 1, []), (97, .invokevirtual 138, 3, [0, 42, 1, 0]), (100, .return_, 1, [])] := rfl
def md_X2_moveOnto : List mB := [
  (false, [(0, .iconst 0, 1, []), (1, .istore 4, 2, [])]),
  (false, [(3, .iload 4, 2, []), (5, .bipush 16, 2, []), (7, .if_icmp .ge 82, 3, [9])]),
  (false, [(10, .iload_n 3, 1, []), (11, .iconst 1, 1, []), (12, .if_icmp .ne 77, 3, [9])]),
  (false, [(15, .aload_n 0, 1, []), (16, .getfield 12, 3, [2, 0]), (19, .iload_n 1, 1, []), (20, .iload 4, 2, []), (22, .invokevirtual 144, 3, [0, 11, 3, 1]), (25, .ifCond .ne 58, 3, [8])]),
  (false, [(28, .aload_n 0, 1, []), (29, .getfield 12, 3, [2, 0]), (32, .iload_n 1, 1, []), (33, .iload_n 2, 1, []), (34, .iload 4, 2, []), (36, .invokevirtual 150, 3, [0, 15, 4, 1]), (39, .ifCond .ne 44, 3, [8])]),
  (false, [(42, .iconst 0, 1, []), (43, .istore 5, 2, [])]),
  (false, [(45, .iload 5, 2, []), (47, .iconst 4, 1, []), (48, .if_icmp .ge 35, 3, [8])]),
  (false, [(51, .iload 4, 2, []), (53, .iconst 4, 1, []), (54, .imul, 1, []), (55, .iload 5, 2, []), (57, .iadd, 1, []), (58, .istore 6, 2, []), (60, .aload_n 0, 1, []), (61, .iload_n 1, 1, []), (62, .iload 6, 2, []), (64, .aload_n 0, 1, []), (65, .getfield 12, 3, [2, 0]), (68, .iload_n 1, 1, []), (69, .iload 6, 2, []), (71, .invokevirtual 120, 3, [0, 13, 3, 1]), (74, .invokevirtual 59, 3, [0, 44, 4, 0]), (77, .iinc 5 1, 3, []), (80, .goto (-35), 3, [6])]),
  (false, [(83, .iinc 4 1, 3, []), (86, .goto (-83), 3, [1])]),
  (false, [(89, .aload_n 0, 1, []), (90, .invokevirtual 48, 3, [0, 36, 1, 1]), (93, .ifCond .eq 13, 3, [11])]),
  (false, [(96, .aload_n 0, 1, []), (97, .getfield 12, 3, [2, 0]), (100, .getfield 147, 3, [0, 3]), (103, .iload_n 1, 1, []), (104, .iload_n 2, 1, []), (105, .iastore, 1, [])]),
  (false, [(106, .return_, 1, [])])]
theorem cb_X2_moveOnto_0 : (blk md_X2_moveOnto 0).2 = [(0, .iconst 0, 1, []), (1, .istore 4, 2, [])] := rfl
theorem cb_X2_moveOnto_1 : (blk md_X2_moveOnto 1).2 = [(3, .iload 4, 2, []), (5, .bipush 16, 2, []), (7, .if_icmp .ge 82, 3, [9])] := rfl
theorem cb_X2_moveOnto_2 : (blk md_X2_moveOnto 2).2 = [(10, .iload_n 3, 1, []), (11, .iconst 1, 1, []), (12, .if_icmp .ne 77, 3, [9])] := rfl
theorem cb_X2_moveOnto_3 : (blk md_X2_moveOnto 3).2 = [(15, .aload_n 0, 1, []), (16, .getfield 12, 3, [2, 0]), (19, .iload_n 1, 1, []), (20, .iload 4, 2, []), (22, .invokevirtual 144, 3, [0, 11, 3, 1]), (25, .ifCond .ne 58, 3, [8])] := rfl
theorem cb_X2_moveOnto_4 : (blk md_X2_moveOnto 4).2 = [(28, .aload_n 0, 1, []), (29, .getfield 12, 3, [2, 0]), (32, .iload_n 1, 1, []), (33, .iload_n 2, 1, []), (34, .iload 4, 2, []), (36, .invokevirtual 150, 3, [0, 15, 4, 1]), (39, .ifCond .ne 44, 3, [8])] := rfl
theorem cb_X2_moveOnto_5 : (blk md_X2_moveOnto 5).2 = [(42, .iconst 0, 1, []), (43, .istore 5, 2, [])] := rfl
theorem cb_X2_moveOnto_6 : (blk md_X2_moveOnto 6).2 = [(45, .iload 5, 2, []), (47, .iconst 4, 1, []), (48, .if_icmp .ge 35, 3, [8])] := rfl
theorem cb_X2_moveOnto_7 : (blk md_X2_moveOnto 7).2 = [(51, .iload 4, 2, []), (53, .iconst 4, 1, []), (54, .imul, 1, []), (55, .iload 5, 2, []), (57, .iadd, 1, []), (58, .istore 6, 2, []), (60, .aload_n 0, 1, []), (61, .iload_n 1, 1, []), (62, .iload 6, 2, []), (64, .aload_n 0, 1, []), (65, .getfield 12, 3, [2, 0]), (68, .iload_n 1, 1, []), (69, .iload 6, 2, []), (71, .invokevirtual 120, 3, [0, 13, 3, 1]), (74, .invokevirtual 59, 3, [0, 44, 4, 0]), (77, .iinc 5 1, 3, []), (80, .goto (-35), 3, [6])] := rfl
theorem cb_X2_moveOnto_8 : (blk md_X2_moveOnto 8).2 = [(83, .iinc 4 1, 3, []), (86, .goto (-83), 3, [1])] := rfl
theorem cb_X2_moveOnto_9 : (blk md_X2_moveOnto 9).2 = [(89, .aload_n 0, 1, []), (90, .invokevirtual 48, 3, [0, 36, 1, 1]), (93, .ifCond .eq 13, 3, [11])] := rfl
theorem cb_X2_moveOnto_10 : (blk md_X2_moveOnto 10).2 = [(96, .aload_n 0, 1, []), (97, .getfield 12, 3, [2, 0]), (100, .getfield 147, 3, [0, 3]), (103, .iload_n 1, 1, []), (104, .iload_n 2, 1, []), (105, .iastore, 1, [])] := rfl
theorem cb_X2_moveOnto_11 : (blk md_X2_moveOnto 11).2 = [(106, .return_, 1, [])] := rfl
def md_X2_foldAlike : List mB := [
  (false, [(0, .aload_n 0, 1, []), (1, .getfield 12, 3, [2, 0]), (4, .iconst 0, 1, []), (5, .bipush 14, 2, []), (7, .invokevirtual 154, 3, [0, 18, 3, 2]), (10, .lstore_n 1, 1, []), (11, .aload_n 0, 1, []), (12, .getfield 12, 3, [2, 0]), (15, .lload_n 1, 1, []), (16, .invokevirtual 158, 3, [0, 19, 2, 2]), (19, .lstore_n 3, 1, []), (20, .iconst 1, 1, []), (21, .istore 5, 2, [])]),
  (false, [(23, .iload 5, 2, []), (25, .bipush 64, 2, []), (27, .if_icmp .ge 103, 3, [11])]),
  (false, [(30, .iconst 0, 1, []), (31, .istore 6, 2, [])]),
  (false, [(33, .iload 6, 2, []), (35, .iconst 4, 1, []), (36, .if_icmp .ge 88, 3, [10])]),
  (false, [(39, .lload_n 1, 1, []), (40, .iload 5, 2, []), (42, .invokestatic 162, 3, [2, 98, 2, 1]), (45, .ifCond .eq 79, 3, [10])]),
  (false, [(48, .aload_n 0, 1, []), (49, .getfield 12, 3, [2, 0]), (52, .iload 5, 2, []), (54, .iload 6, 2, []), (56, .invokevirtual 106, 3, [0, 10, 3, 1]), (59, .istore 7, 2, []), (61, .aload_n 0, 1, []), (62, .getfield 12, 3, [2, 0]), (65, .lload_n 3, 1, []), (66, .iload 7, 2, []), (68, .invokevirtual 166, 3, [0, 17, 3, 1]), (71, .istore 8, 2, []), (73, .iload 8, 2, []), (75, .iload 7, 2, []), (77, .if_icmp .ge 41, 3, [9])]),
  (false, [(80, .aload_n 0, 1, []), (81, .iload 8, 2, []), (83, .iconst 1, 1, []), (84, .invokevirtual 116, 3, [0, 37, 3, 0]), (87, .aload_n 0, 1, []), (88, .invokevirtual 48, 3, [0, 36, 1, 1]), (91, .ifCond .eq 20, 3, [8])]),
  (false, [(94, .aload_n 0, 1, []), (95, .getfield 12, 3, [2, 0]), (98, .getfield 97, 3, [0, 0]), (101, .iload 5, 2, []), (103, .iconst 4, 1, []), (104, .imul, 1, []), (105, .iload 6, 2, []), (107, .iadd, 1, []), (108, .iload 8, 2, []), (110, .iastore, 1, [])]),
  (false, [(111, .aload_n 0, 1, []), (112, .iload 7, 2, []), (114, .iconst (-1), 1, []), (115, .invokevirtual 116, 3, [0, 37, 3, 0])]),
  (false, [(118, .iinc 6 1, 3, []), (121, .goto (-88), 3, [3])]),
  (false, [(124, .iinc 5 1, 3, []), (127, .goto (-104), 3, [1])]),
  (false, [(130, .return_, 1, [])])]
theorem cb_X2_foldAlike_0 : (blk md_X2_foldAlike 0).2 = [(0, .aload_n 0, 1, []), (1, .getfield 12, 3, [2, 0]), (4, .iconst 0, 1, []), (5, .bipush 14, 2, []), (7, .invokevirtual 154, 3, [0, 18, 3, 2]), (10, .lstore_n 1, 1, []), (11, .aload_n 0, 1, []), (12, .getfield 12, 3, [2, 0]), (15, .lload_n 1, 1, []), (16, .invokevirtual 158, 3, [0, 19, 2, 2]), (19, .lstore_n 3, 1, []), (20, .iconst 1, 1, []), (21, .istore 5, 2, [])] := rfl
theorem cb_X2_foldAlike_1 : (blk md_X2_foldAlike 1).2 = [(23, .iload 5, 2, []), (25, .bipush 64, 2, []), (27, .if_icmp .ge 103, 3, [11])] := rfl
theorem cb_X2_foldAlike_2 : (blk md_X2_foldAlike 2).2 = [(30, .iconst 0, 1, []), (31, .istore 6, 2, [])] := rfl
theorem cb_X2_foldAlike_3 : (blk md_X2_foldAlike 3).2 = [(33, .iload 6, 2, []), (35, .iconst 4, 1, []), (36, .if_icmp .ge 88, 3, [10])] := rfl
theorem cb_X2_foldAlike_4 : (blk md_X2_foldAlike 4).2 = [(39, .lload_n 1, 1, []), (40, .iload 5, 2, []), (42, .invokestatic 162, 3, [2, 98, 2, 1]), (45, .ifCond .eq 79, 3, [10])] := rfl
theorem cb_X2_foldAlike_5 : (blk md_X2_foldAlike 5).2 = [(48, .aload_n 0, 1, []), (49, .getfield 12, 3, [2, 0]), (52, .iload 5, 2, []), (54, .iload 6, 2, []), (56, .invokevirtual 106, 3, [0, 10, 3, 1]), (59, .istore 7, 2, []), (61, .aload_n 0, 1, []), (62, .getfield 12, 3, [2, 0]), (65, .lload_n 3, 1, []), (66, .iload 7, 2, []), (68, .invokevirtual 166, 3, [0, 17, 3, 1]), (71, .istore 8, 2, []), (73, .iload 8, 2, []), (75, .iload 7, 2, []), (77, .if_icmp .ge 41, 3, [9])] := rfl
theorem cb_X2_foldAlike_6 : (blk md_X2_foldAlike 6).2 = [(80, .aload_n 0, 1, []), (81, .iload 8, 2, []), (83, .iconst 1, 1, []), (84, .invokevirtual 116, 3, [0, 37, 3, 0]), (87, .aload_n 0, 1, []), (88, .invokevirtual 48, 3, [0, 36, 1, 1]), (91, .ifCond .eq 20, 3, [8])] := rfl
theorem cb_X2_foldAlike_7 : (blk md_X2_foldAlike 7).2 = [(94, .aload_n 0, 1, []), (95, .getfield 12, 3, [2, 0]), (98, .getfield 97, 3, [0, 0]), (101, .iload 5, 2, []), (103, .iconst 4, 1, []), (104, .imul, 1, []), (105, .iload 6, 2, []), (107, .iadd, 1, []), (108, .iload 8, 2, []), (110, .iastore, 1, [])] := rfl
theorem cb_X2_foldAlike_8 : (blk md_X2_foldAlike 8).2 = [(111, .aload_n 0, 1, []), (112, .iload 7, 2, []), (114, .iconst (-1), 1, []), (115, .invokevirtual 116, 3, [0, 37, 3, 0])] := rfl
theorem cb_X2_foldAlike_9 : (blk md_X2_foldAlike 9).2 = [(118, .iinc 6 1, 3, []), (121, .goto (-88), 3, [3])] := rfl
theorem cb_X2_foldAlike_10 : (blk md_X2_foldAlike 10).2 = [(124, .iinc 5 1, 3, []), (127, .goto (-104), 3, [1])] := rfl
theorem cb_X2_foldAlike_11 : (blk md_X2_foldAlike 11).2 = [(130, .return_, 1, [])] := rfl
def md_X3_layer : List mB := [
  (false, [(0, .aload_n 0, 1, []), (1, .getfield 12, 3, [3, 0]), (4, .iload_n 1, 1, []), (5, .invokevirtual 45, 3, [0, 2, 2, 1]), (8, .ifCond .ne 11, 3, [2])]),
  (false, [(11, .aload_n 0, 1, []), (12, .sipush (-1001), 3, []), (15, .invokevirtual 49, 3, [0, 88, 2, 1]), (18, .ireturn, 1, [])]),
  (false, [(19, .aload_n 0, 1, []), (20, .getfield 12, 3, [3, 0]), (23, .getfield 53, 3, [0, 5]), (26, .bipush 6, 2, []), (28, .if_icmp .lt 11, 3, [4])]),
  (false, [(31, .aload_n 0, 1, []), (32, .sipush (-1002), 3, []), (35, .invokevirtual 49, 3, [0, 88, 2, 1]), (38, .ireturn, 1, [])]),
  (false, [(39, .aload_n 0, 1, []), (40, .getfield 12, 3, [3, 0]), (43, .iload_n 1, 1, []), (44, .invokevirtual 56, 3, [0, 4, 2, 1]), (47, .ireturn, 1, [])])]
theorem cb_X3_layer_0 : (blk md_X3_layer 0).2 = [(0, .aload_n 0, 1, []), (1, .getfield 12, 3, [3, 0]), (4, .iload_n 1, 1, []), (5, .invokevirtual 45, 3, [0, 2, 2, 1]), (8, .ifCond .ne 11, 3, [2])] := rfl
theorem cb_X3_layer_1 : (blk md_X3_layer 1).2 = [(11, .aload_n 0, 1, []), (12, .sipush (-1001), 3, []), (15, .invokevirtual 49, 3, [0, 88, 2, 1]), (18, .ireturn, 1, [])] := rfl
theorem cb_X3_layer_2 : (blk md_X3_layer 2).2 = [(19, .aload_n 0, 1, []), (20, .getfield 12, 3, [3, 0]), (23, .getfield 53, 3, [0, 5]), (26, .bipush 6, 2, []), (28, .if_icmp .lt 11, 3, [4])] := rfl
theorem cb_X3_layer_3 : (blk md_X3_layer 3).2 = [(31, .aload_n 0, 1, []), (32, .sipush (-1002), 3, []), (35, .invokevirtual 49, 3, [0, 88, 2, 1]), (38, .ireturn, 1, [])] := rfl
theorem cb_X3_layer_4 : (blk md_X3_layer 4).2 = [(39, .aload_n 0, 1, []), (40, .getfield 12, 3, [3, 0]), (43, .iload_n 1, 1, []), (44, .invokevirtual 56, 3, [0, 4, 2, 1]), (47, .ireturn, 1, [])] := rfl
def md_X3_of : List mB := [
  (false, [(0, .aload_n 0, 1, []), (1, .getfield 12, 3, [3, 0]), (4, .iload_n 1, 1, []), (5, .invokevirtual 59, 3, [0, 1, 2, 1]), (8, .ifCond .ne 11, 3, [2])]),
  (false, [(11, .aload_n 0, 1, []), (12, .sipush (-1001), 3, []), (15, .invokevirtual 49, 3, [0, 88, 2, 1]), (18, .ireturn, 1, [])]),
  (false, [(19, .iload_n 2, 1, []), (20, .tableswitch 66 0 3 #[32, 42, 51, 57], 32, [7, 3, 4, 5, 6])]),
  (false, [(52, .aload_n 0, 1, []), (53, .getfield 12, 3, [3, 0]), (56, .getfield 62, 3, [0, 3]), (59, .iload_n 1, 1, []), (60, .iaload, 1, []), (61, .ireturn, 1, [])]),
  (false, [(62, .aload_n 0, 1, []), (63, .getfield 12, 3, [3, 0]), (66, .iload_n 1, 1, []), (67, .invokevirtual 65, 3, [0, 12, 2, 1]), (70, .ireturn, 1, [])]),
  (false, [(71, .aload_n 0, 1, []), (72, .iload_n 1, 1, []), (73, .invokevirtual 68, 3, [0, 93, 2, 1]), (76, .ireturn, 1, [])]),
  (false, [(77, .aload_n 0, 1, []), (78, .getfield 12, 3, [3, 0]), (81, .iload_n 1, 1, []), (82, .invokevirtual 71, 3, [0, 7, 2, 1]), (85, .ireturn, 1, [])]),
  (false, [(86, .aload_n 0, 1, []), (87, .sipush (-1001), 3, []), (90, .invokevirtual 49, 3, [0, 88, 2, 1]), (93, .ireturn, 1, [])])]
theorem cb_X3_of_0 : (blk md_X3_of 0).2 = [(0, .aload_n 0, 1, []), (1, .getfield 12, 3, [3, 0]), (4, .iload_n 1, 1, []), (5, .invokevirtual 59, 3, [0, 1, 2, 1]), (8, .ifCond .ne 11, 3, [2])] := rfl
theorem cb_X3_of_1 : (blk md_X3_of 1).2 = [(11, .aload_n 0, 1, []), (12, .sipush (-1001), 3, []), (15, .invokevirtual 49, 3, [0, 88, 2, 1]), (18, .ireturn, 1, [])] := rfl
theorem cb_X3_of_2 : (blk md_X3_of 2).2 = [(19, .iload_n 2, 1, []), (20, .tableswitch 66 0 3 #[32, 42, 51, 57], 32, [7, 3, 4, 5, 6])] := rfl
theorem cb_X3_of_3 : (blk md_X3_of 3).2 = [(52, .aload_n 0, 1, []), (53, .getfield 12, 3, [3, 0]), (56, .getfield 62, 3, [0, 3]), (59, .iload_n 1, 1, []), (60, .iaload, 1, []), (61, .ireturn, 1, [])] := rfl
theorem cb_X3_of_4 : (blk md_X3_of 4).2 = [(62, .aload_n 0, 1, []), (63, .getfield 12, 3, [3, 0]), (66, .iload_n 1, 1, []), (67, .invokevirtual 65, 3, [0, 12, 2, 1]), (70, .ireturn, 1, [])] := rfl
theorem cb_X3_of_5 : (blk md_X3_of 5).2 = [(71, .aload_n 0, 1, []), (72, .iload_n 1, 1, []), (73, .invokevirtual 68, 3, [0, 93, 2, 1]), (76, .ireturn, 1, [])] := rfl
theorem cb_X3_of_6 : (blk md_X3_of 6).2 = [(77, .aload_n 0, 1, []), (78, .getfield 12, 3, [3, 0]), (81, .iload_n 1, 1, []), (82, .invokevirtual 71, 3, [0, 7, 2, 1]), (85, .ireturn, 1, [])] := rfl
theorem cb_X3_of_7 : (blk md_X3_of 7).2 = [(86, .aload_n 0, 1, []), (87, .sipush (-1001), 3, []), (90, .invokevirtual 49, 3, [0, 88, 2, 1]), (93, .ireturn, 1, [])] := rfl
def md_X3_read : List mB := [
  (false, [(0, .aload_n 0, 1, []), (1, .getfield 12, 3, [3, 0]), (4, .iload_n 1, 1, []), (5, .invokevirtual 59, 3, [0, 1, 2, 1]), (8, .ifCond .eq 10, 3, [2])]),
  (false, [(11, .iload_n 2, 1, []), (12, .invokestatic 74, 3, [1, 96, 1, 1]), (15, .ifCond .ne 11, 3, [3])]),
  (false, [(18, .aload_n 0, 1, []), (19, .sipush (-1001), 3, []), (22, .invokevirtual 49, 3, [0, 88, 2, 1]), (25, .ireturn, 1, [])]),
  (false, [(26, .aload_n 0, 1, []), (27, .getfield 12, 3, [3, 0]), (30, .iload_n 1, 1, []), (31, .iload_n 2, 1, []), (32, .invokevirtual 77, 3, [0, 13, 3, 1]), (35, .ireturn, 1, [])])]
theorem cb_X3_read_0 : (blk md_X3_read 0).2 = [(0, .aload_n 0, 1, []), (1, .getfield 12, 3, [3, 0]), (4, .iload_n 1, 1, []), (5, .invokevirtual 59, 3, [0, 1, 2, 1]), (8, .ifCond .eq 10, 3, [2])] := rfl
theorem cb_X3_read_1 : (blk md_X3_read 1).2 = [(11, .iload_n 2, 1, []), (12, .invokestatic 74, 3, [1, 96, 1, 1]), (15, .ifCond .ne 11, 3, [3])] := rfl
theorem cb_X3_read_2 : (blk md_X3_read 2).2 = [(18, .aload_n 0, 1, []), (19, .sipush (-1001), 3, []), (22, .invokevirtual 49, 3, [0, 88, 2, 1]), (25, .ireturn, 1, [])] := rfl
theorem cb_X3_read_3 : (blk md_X3_read 3).2 = [(26, .aload_n 0, 1, []), (27, .getfield 12, 3, [3, 0]), (30, .iload_n 1, 1, []), (31, .iload_n 2, 1, []), (32, .invokevirtual 77, 3, [0, 13, 3, 1]), (35, .ireturn, 1, [])] := rfl
def md_X3_readOld : List mB := [
  (false, [(0, .aload_n 0, 1, []), (1, .getfield 12, 3, [3, 0]), (4, .iload_n 1, 1, []), (5, .invokevirtual 81, 3, [0, 3, 2, 1]), (8, .ifCond .eq 10, 3, [2])]),
  (false, [(11, .iload_n 2, 1, []), (12, .invokestatic 74, 3, [1, 96, 1, 1]), (15, .ifCond .ne 11, 3, [3])]),
  (false, [(18, .aload_n 0, 1, []), (19, .sipush (-1001), 3, []), (22, .invokevirtual 49, 3, [0, 88, 2, 1]), (25, .ireturn, 1, [])]),
  (false, [(26, .aload_n 0, 1, []), (27, .getfield 12, 3, [3, 0]), (30, .iload_n 1, 1, []), (31, .iload_n 2, 1, []), (32, .invokevirtual 84, 3, [0, 14, 3, 1]), (35, .ireturn, 1, [])])]
theorem cb_X3_readOld_0 : (blk md_X3_readOld 0).2 = [(0, .aload_n 0, 1, []), (1, .getfield 12, 3, [3, 0]), (4, .iload_n 1, 1, []), (5, .invokevirtual 81, 3, [0, 3, 2, 1]), (8, .ifCond .eq 10, 3, [2])] := rfl
theorem cb_X3_readOld_1 : (blk md_X3_readOld 1).2 = [(11, .iload_n 2, 1, []), (12, .invokestatic 74, 3, [1, 96, 1, 1]), (15, .ifCond .ne 11, 3, [3])] := rfl
theorem cb_X3_readOld_2 : (blk md_X3_readOld 2).2 = [(18, .aload_n 0, 1, []), (19, .sipush (-1001), 3, []), (22, .invokevirtual 49, 3, [0, 88, 2, 1]), (25, .ireturn, 1, [])] := rfl
theorem cb_X3_readOld_3 : (blk md_X3_readOld 3).2 = [(26, .aload_n 0, 1, []), (27, .getfield 12, 3, [3, 0]), (30, .iload_n 1, 1, []), (31, .iload_n 2, 1, []), (32, .invokevirtual 84, 3, [0, 14, 3, 1]), (35, .ireturn, 1, [])] := rfl
def md_X3_unlike : List mB := [
  (false, [(0, .aload_n 0, 1, []), (1, .getfield 12, 3, [3, 0]), (4, .iload_n 1, 1, []), (5, .invokevirtual 59, 3, [0, 1, 2, 1]), (8, .ifCond .eq 14, 3, [2])]),
  (false, [(11, .aload_n 0, 1, []), (12, .getfield 12, 3, [3, 0]), (15, .iload_n 2, 1, []), (16, .invokevirtual 59, 3, [0, 1, 2, 1]), (19, .ifCond .ne 11, 3, [3])]),
  (false, [(22, .aload_n 0, 1, []), (23, .sipush (-1001), 3, []), (26, .invokevirtual 49, 3, [0, 88, 2, 1]), (29, .ireturn, 1, [])]),
  (false, [(30, .iconst 0, 1, []), (31, .istore_n 3, 1, [])]),
  (false, [(32, .iload_n 3, 1, []), (33, .bipush 64, 2, []), (35, .if_icmp .ge 32, 3, [8])]),
  (false, [(38, .aload_n 0, 1, []), (39, .getfield 12, 3, [3, 0]), (42, .iload_n 1, 1, []), (43, .iload_n 3, 1, []), (44, .invokevirtual 77, 3, [0, 13, 3, 1]), (47, .aload_n 0, 1, []), (48, .getfield 12, 3, [3, 0]), (51, .iload_n 2, 1, []), (52, .iload_n 3, 1, []), (53, .invokevirtual 77, 3, [0, 13, 3, 1]), (56, .if_icmp .eq 5, 3, [7])]),
  (false, [(59, .iload_n 3, 1, []), (60, .ireturn, 1, [])]),
  (false, [(61, .iinc 3 1, 3, []), (64, .goto (-32), 3, [4])]),
  (false, [(67, .iconst (-1), 1, []), (68, .ireturn, 1, [])])]
theorem cb_X3_unlike_0 : (blk md_X3_unlike 0).2 = [(0, .aload_n 0, 1, []), (1, .getfield 12, 3, [3, 0]), (4, .iload_n 1, 1, []), (5, .invokevirtual 59, 3, [0, 1, 2, 1]), (8, .ifCond .eq 14, 3, [2])] := rfl
theorem cb_X3_unlike_1 : (blk md_X3_unlike 1).2 = [(11, .aload_n 0, 1, []), (12, .getfield 12, 3, [3, 0]), (15, .iload_n 2, 1, []), (16, .invokevirtual 59, 3, [0, 1, 2, 1]), (19, .ifCond .ne 11, 3, [3])] := rfl
theorem cb_X3_unlike_2 : (blk md_X3_unlike 2).2 = [(22, .aload_n 0, 1, []), (23, .sipush (-1001), 3, []), (26, .invokevirtual 49, 3, [0, 88, 2, 1]), (29, .ireturn, 1, [])] := rfl
theorem cb_X3_unlike_3 : (blk md_X3_unlike 3).2 = [(30, .iconst 0, 1, []), (31, .istore_n 3, 1, [])] := rfl
theorem cb_X3_unlike_4 : (blk md_X3_unlike 4).2 = [(32, .iload_n 3, 1, []), (33, .bipush 64, 2, []), (35, .if_icmp .ge 32, 3, [8])] := rfl
theorem cb_X3_unlike_5 : (blk md_X3_unlike 5).2 = [(38, .aload_n 0, 1, []), (39, .getfield 12, 3, [3, 0]), (42, .iload_n 1, 1, []), (43, .iload_n 3, 1, []), (44, .invokevirtual 77, 3, [0, 13, 3, 1]), (47, .aload_n 0, 1, []), (48, .getfield 12, 3, [3, 0]), (51, .iload_n 2, 1, []), (52, .iload_n 3, 1, []), (53, .invokevirtual 77, 3, [0, 13, 3, 1]), (56, .if_icmp .eq 5, 3, [7])] := rfl
theorem cb_X3_unlike_6 : (blk md_X3_unlike 6).2 = [(59, .iload_n 3, 1, []), (60, .ireturn, 1, [])] := rfl
theorem cb_X3_unlike_7 : (blk md_X3_unlike 7).2 = [(61, .iinc 3 1, 3, []), (64, .goto (-32), 3, [4])] := rfl
theorem cb_X3_unlike_8 : (blk md_X3_unlike 8).2 = [(67, .iconst (-1), 1, []), (68, .ireturn, 1, [])] := rfl
def md_X3_sum : List mB := [
  (false, [(0, .aload_n 0, 1, []), (1, .getfield 12, 3, [3, 0]), (4, .iload_n 1, 1, []), (5, .invokevirtual 59, 3, [0, 1, 2, 1]), (8, .ifCond .ne 11, 3, [2])]),
  (false, [(11, .aload_n 0, 1, []), (12, .sipush (-1001), 3, []), (15, .invokevirtual 49, 3, [0, 88, 2, 1]), (18, .ireturn, 1, [])]),
  (false, [(19, .iconst 1, 1, []), (20, .istore_n 2, 1, []), (21, .iconst 0, 1, []), (22, .istore_n 3, 1, [])]),
  (false, [(23, .iload_n 3, 1, []), (24, .bipush 64, 2, []), (26, .if_icmp .ge 24, 3, [5])]),
  (false, [(29, .bipush 31, 2, []), (31, .iload_n 2, 1, []), (32, .imul, 1, []), (33, .aload_n 0, 1, []), (34, .getfield 12, 3, [3, 0]), (37, .iload_n 1, 1, []), (38, .iload_n 3, 1, []), (39, .invokevirtual 77, 3, [0, 13, 3, 1]), (42, .iadd, 1, []), (43, .istore_n 2, 1, []), (44, .iinc 3 1, 3, []), (47, .goto (-24), 3, [3])]),
  (false, [(50, .iload_n 2, 1, []), (51, .ireturn, 1, [])])]
theorem cb_X3_sum_0 : (blk md_X3_sum 0).2 = [(0, .aload_n 0, 1, []), (1, .getfield 12, 3, [3, 0]), (4, .iload_n 1, 1, []), (5, .invokevirtual 59, 3, [0, 1, 2, 1]), (8, .ifCond .ne 11, 3, [2])] := rfl
theorem cb_X3_sum_1 : (blk md_X3_sum 1).2 = [(11, .aload_n 0, 1, []), (12, .sipush (-1001), 3, []), (15, .invokevirtual 49, 3, [0, 88, 2, 1]), (18, .ireturn, 1, [])] := rfl
theorem cb_X3_sum_2 : (blk md_X3_sum 2).2 = [(19, .iconst 1, 1, []), (20, .istore_n 2, 1, []), (21, .iconst 0, 1, []), (22, .istore_n 3, 1, [])] := rfl
theorem cb_X3_sum_3 : (blk md_X3_sum 3).2 = [(23, .iload_n 3, 1, []), (24, .bipush 64, 2, []), (26, .if_icmp .ge 24, 3, [5])] := rfl
theorem cb_X3_sum_4 : (blk md_X3_sum 4).2 = [(29, .bipush 31, 2, []), (31, .iload_n 2, 1, []), (32, .imul, 1, []), (33, .aload_n 0, 1, []), (34, .getfield 12, 3, [3, 0]), (37, .iload_n 1, 1, []), (38, .iload_n 3, 1, []), (39, .invokevirtual 77, 3, [0, 13, 3, 1]), (42, .iadd, 1, []), (43, .istore_n 2, 1, []), (44, .iinc 3 1, 3, []), (47, .goto (-24), 3, [3])] := rfl
theorem cb_X3_sum_5 : (blk md_X3_sum 5).2 = [(50, .iload_n 2, 1, []), (51, .ireturn, 1, [])] := rfl
def md_X3_write : List mB := [
  (false, [(0, .aload_n 0, 1, []), (1, .aload_n 0, 1, []), (2, .iconst 0, 1, []), (3, .iload_n 1, 1, []), (4, .iload_n 2, 1, []), (5, .iload_n 3, 1, []), (6, .invokevirtual 87, 3, [0, 89, 5, 1]), (9, .invokevirtual 91, 3, [0, 90, 2, 1]), (12, .ireturn, 1, [])])]
theorem cb_X3_write_0 : (blk md_X3_write 0).2 = [(0, .aload_n 0, 1, []), (1, .aload_n 0, 1, []), (2, .iconst 0, 1, []), (3, .iload_n 1, 1, []), (4, .iload_n 2, 1, []), (5, .iload_n 3, 1, []), (6, .invokevirtual 87, 3, [0, 89, 5, 1]), (9, .invokevirtual 91, 3, [0, 90, 2, 1]), (12, .ireturn, 1, [])] := rfl
def md_X3_snap : List mB := [
  (false, [(0, .aload_n 0, 1, []), (1, .aload_n 0, 1, []), (2, .iconst 1, 1, []), (3, .iload_n 1, 1, []), (4, .iconst 0, 1, []), (5, .iconst 0, 1, []), (6, .invokevirtual 87, 3, [0, 89, 5, 1]), (9, .invokevirtual 91, 3, [0, 90, 2, 1]), (12, .ireturn, 1, [])])]
theorem cb_X3_snap_0 : (blk md_X3_snap 0).2 = [(0, .aload_n 0, 1, []), (1, .aload_n 0, 1, []), (2, .iconst 1, 1, []), (3, .iload_n 1, 1, []), (4, .iconst 0, 1, []), (5, .iconst 0, 1, []), (6, .invokevirtual 87, 3, [0, 89, 5, 1]), (9, .invokevirtual 91, 3, [0, 90, 2, 1]), (12, .ireturn, 1, [])] := rfl
def md_X3_drop : List mB := [
  (false, [(0, .aload_n 0, 1, []), (1, .aload_n 0, 1, []), (2, .iconst 2, 1, []), (3, .iload_n 1, 1, []), (4, .iconst 0, 1, []), (5, .iconst 0, 1, []), (6, .invokevirtual 87, 3, [0, 89, 5, 1]), (9, .invokevirtual 91, 3, [0, 90, 2, 1]), (12, .ireturn, 1, [])])]
theorem cb_X3_drop_0 : (blk md_X3_drop 0).2 = [(0, .aload_n 0, 1, []), (1, .aload_n 0, 1, []), (2, .iconst 2, 1, []), (3, .iload_n 1, 1, []), (4, .iconst 0, 1, []), (5, .iconst 0, 1, []), (6, .invokevirtual 87, 3, [0, 89, 5, 1]), (9, .invokevirtual 91, 3, [0, 90, 2, 1]), (12, .ireturn, 1, [])] := rfl
def md_X3_revert : List mB := [
  (false, [(0, .aload_n 0, 1, []), (1, .aload_n 0, 1, []), (2, .iconst 3, 1, []), (3, .iload_n 1, 1, []), (4, .iconst 0, 1, []), (5, .iconst 0, 1, []), (6, .invokevirtual 87, 3, [0, 89, 5, 1]), (9, .invokevirtual 91, 3, [0, 90, 2, 1]), (12, .ireturn, 1, [])])]
theorem cb_X3_revert_0 : (blk md_X3_revert 0).2 = [(0, .aload_n 0, 1, []), (1, .aload_n 0, 1, []), (2, .iconst 3, 1, []), (3, .iload_n 1, 1, []), (4, .iconst 0, 1, []), (5, .iconst 0, 1, []), (6, .invokevirtual 87, 3, [0, 89, 5, 1]), (9, .invokevirtual 91, 3, [0, 90, 2, 1]), (12, .ireturn, 1, [])] := rfl
def md_X3_giveUp : List mB := [
  (false, [(0, .aload_n 0, 1, []), (1, .aload_n 0, 1, []), (2, .iconst 4, 1, []), (3, .iload_n 1, 1, []), (4, .iload_n 2, 1, []), (5, .iconst 0, 1, []), (6, .invokevirtual 87, 3, [0, 89, 5, 1]), (9, .invokevirtual 91, 3, [0, 90, 2, 1]), (12, .ireturn, 1, [])])]
theorem cb_X3_giveUp_0 : (blk md_X3_giveUp 0).2 = [(0, .aload_n 0, 1, []), (1, .aload_n 0, 1, []), (2, .iconst 4, 1, []), (3, .iload_n 1, 1, []), (4, .iload_n 2, 1, []), (5, .iconst 0, 1, []), (6, .invokevirtual 87, 3, [0, 89, 5, 1]), (9, .invokevirtual 91, 3, [0, 90, 2, 1]), (12, .ireturn, 1, [])] := rfl
def md_X3_merge : List mB := [
  (false, [(0, .aload_n 0, 1, []), (1, .aload_n 0, 1, []), (2, .iconst 5, 1, []), (3, .iload_n 1, 1, []), (4, .iconst 0, 1, []), (5, .iconst 0, 1, []), (6, .invokevirtual 87, 3, [0, 89, 5, 1]), (9, .invokevirtual 91, 3, [0, 90, 2, 1]), (12, .ireturn, 1, [])])]
theorem cb_X3_merge_0 : (blk md_X3_merge 0).2 = [(0, .aload_n 0, 1, []), (1, .aload_n 0, 1, []), (2, .iconst 5, 1, []), (3, .iload_n 1, 1, []), (4, .iconst 0, 1, []), (5, .iconst 0, 1, []), (6, .invokevirtual 87, 3, [0, 89, 5, 1]), (9, .invokevirtual 91, 3, [0, 90, 2, 1]), (12, .ireturn, 1, [])] := rfl
def md_X3_move : List mB := [
  (false, [(0, .aload_n 0, 1, []), (1, .aload_n 0, 1, []), (2, .bipush 7, 2, []), (4, .iload_n 1, 1, []), (5, .iload_n 2, 1, []), (6, .iload_n 3, 1, []), (7, .invokevirtual 87, 3, [0, 89, 5, 1]), (10, .invokevirtual 91, 3, [0, 90, 2, 1]), (13, .ireturn, 1, [])])]
theorem cb_X3_move_0 : (blk md_X3_move 0).2 = [(0, .aload_n 0, 1, []), (1, .aload_n 0, 1, []), (2, .bipush 7, 2, []), (4, .iload_n 1, 1, []), (5, .iload_n 2, 1, []), (6, .iload_n 3, 1, []), (7, .invokevirtual 87, 3, [0, 89, 5, 1]), (10, .invokevirtual 91, 3, [0, 90, 2, 1]), (13, .ireturn, 1, [])] := rfl
def md_X3_fold : List mB := [
  (false, [(0, .aload_n 0, 1, []), (1, .aload_n 0, 1, []), (2, .bipush 6, 2, []), (4, .iconst 0, 1, []), (5, .iconst 0, 1, []), (6, .iconst 0, 1, []), (7, .invokevirtual 87, 3, [0, 89, 5, 1]), (10, .invokevirtual 91, 3, [0, 90, 2, 1]), (13, .ireturn, 1, [])])]
theorem cb_X3_fold_0 : (blk md_X3_fold 0).2 = [(0, .aload_n 0, 1, []), (1, .aload_n 0, 1, []), (2, .bipush 6, 2, []), (4, .iconst 0, 1, []), (5, .iconst 0, 1, []), (6, .iconst 0, 1, []), (7, .invokevirtual 87, 3, [0, 89, 5, 1]), (10, .invokevirtual 91, 3, [0, 90, 2, 1]), (13, .ireturn, 1, [])] := rfl
def md_X3_tear : List mB := [
  (false, [(0, .iload_n 1, 1, []), (1, .iconst (-1), 1, []), (2, .if_icmp .lt 10, 3, [2])]),
  (false, [(5, .iload_n 1, 1, []), (6, .sipush 999, 3, []), (9, .if_icmp .le 11, 3, [3])]),
  (false, [(12, .aload_n 0, 1, []), (13, .sipush (-1001), 3, []), (16, .invokevirtual 49, 3, [0, 88, 2, 1]), (19, .ireturn, 1, [])]),
  (false, [(20, .aload_n 0, 1, []), (21, .getfield 12, 3, [3, 0]), (24, .getfield 94, 3, [0, 6]), (27, .istore_n 2, 1, []), (28, .aload_n 0, 1, []), (29, .getfield 12, 3, [3, 0]), (32, .iload_n 1, 1, []), (33, .putfield 94, 3, [0, 6]), (36, .iload_n 2, 1, []), (37, .ireturn, 1, [])])]
theorem cb_X3_tear_0 : (blk md_X3_tear 0).2 = [(0, .iload_n 1, 1, []), (1, .iconst (-1), 1, []), (2, .if_icmp .lt 10, 3, [2])] := rfl
theorem cb_X3_tear_1 : (blk md_X3_tear 1).2 = [(5, .iload_n 1, 1, []), (6, .sipush 999, 3, []), (9, .if_icmp .le 11, 3, [3])] := rfl
theorem cb_X3_tear_2 : (blk md_X3_tear 2).2 = [(12, .aload_n 0, 1, []), (13, .sipush (-1001), 3, []), (16, .invokevirtual 49, 3, [0, 88, 2, 1]), (19, .ireturn, 1, [])] := rfl
theorem cb_X3_tear_3 : (blk md_X3_tear 3).2 = [(20, .aload_n 0, 1, []), (21, .getfield 12, 3, [3, 0]), (24, .getfield 94, 3, [0, 6]), (27, .istore_n 2, 1, []), (28, .aload_n 0, 1, []), (29, .getfield 12, 3, [3, 0]), (32, .iload_n 1, 1, []), (33, .putfield 94, 3, [0, 6]), (36, .iload_n 2, 1, []), (37, .ireturn, 1, [])] := rfl
def md_X3_cluster : List mB := [
  (false, [(0, .iload_n 1, 1, []), (1, .invokestatic 97, 3, [1, 97, 1, 1]), (4, .ifCond .ne 11, 3, [2])]),
  (false, [(7, .aload_n 0, 1, []), (8, .sipush (-1001), 3, []), (11, .invokevirtual 49, 3, [0, 88, 2, 1]), (14, .ireturn, 1, [])]),
  (false, [(15, .iload_n 2, 1, []), (16, .tableswitch 83 0 5 #[40, 50, 67, 67, 67, 67], 40, [6, 3, 4, 5, 5, 5, 5])]),
  (false, [(56, .aload_n 0, 1, []), (57, .getfield 12, 3, [3, 0]), (60, .getfield 100, 3, [0, 1]), (63, .iload_n 1, 1, []), (64, .iaload, 1, []), (65, .ireturn, 1, [])]),
  (false, [(66, .aload_n 0, 1, []), (67, .getfield 12, 3, [3, 0]), (70, .invokevirtual 103, 3, [0, 22, 1, 0]), (73, .aload_n 0, 1, []), (74, .getfield 12, 3, [3, 0]), (77, .getfield 106, 3, [0, 7]), (80, .iload_n 1, 1, []), (81, .iaload, 1, []), (82, .ireturn, 1, [])]),
  (false, [(83, .aload_n 0, 1, []), (84, .getfield 12, 3, [3, 0]), (87, .getfield 109, 3, [0, 0]), (90, .iload_n 1, 1, []), (91, .iconst 4, 1, []), (92, .imul, 1, []), (93, .iload_n 2, 1, []), (94, .iadd, 1, []), (95, .iconst 2, 1, []), (96, .isub, 1, []), (97, .iaload, 1, []), (98, .ireturn, 1, [])]),
  (false, [(99, .aload_n 0, 1, []), (100, .sipush (-1001), 3, []), (103, .invokevirtual 49, 3, [0, 88, 2, 1]), (106, .ireturn, 1, [])])]
theorem cb_X3_cluster_0 : (blk md_X3_cluster 0).2 = [(0, .iload_n 1, 1, []), (1, .invokestatic 97, 3, [1, 97, 1, 1]), (4, .ifCond .ne 11, 3, [2])] := rfl
theorem cb_X3_cluster_1 : (blk md_X3_cluster 1).2 = [(7, .aload_n 0, 1, []), (8, .sipush (-1001), 3, []), (11, .invokevirtual 49, 3, [0, 88, 2, 1]), (14, .ireturn, 1, [])] := rfl
theorem cb_X3_cluster_2 : (blk md_X3_cluster 2).2 = [(15, .iload_n 2, 1, []), (16, .tableswitch 83 0 5 #[40, 50, 67, 67, 67, 67], 40, [6, 3, 4, 5, 5, 5, 5])] := rfl
theorem cb_X3_cluster_3 : (blk md_X3_cluster 3).2 = [(56, .aload_n 0, 1, []), (57, .getfield 12, 3, [3, 0]), (60, .getfield 100, 3, [0, 1]), (63, .iload_n 1, 1, []), (64, .iaload, 1, []), (65, .ireturn, 1, [])] := rfl
theorem cb_X3_cluster_4 : (blk md_X3_cluster 4).2 = [(66, .aload_n 0, 1, []), (67, .getfield 12, 3, [3, 0]), (70, .invokevirtual 103, 3, [0, 22, 1, 0]), (73, .aload_n 0, 1, []), (74, .getfield 12, 3, [3, 0]), (77, .getfield 106, 3, [0, 7]), (80, .iload_n 1, 1, []), (81, .iaload, 1, []), (82, .ireturn, 1, [])] := rfl
theorem cb_X3_cluster_5 : (blk md_X3_cluster 5).2 = [(83, .aload_n 0, 1, []), (84, .getfield 12, 3, [3, 0]), (87, .getfield 109, 3, [0, 0]), (90, .iload_n 1, 1, []), (91, .iconst 4, 1, []), (92, .imul, 1, []), (93, .iload_n 2, 1, []), (94, .iadd, 1, []), (95, .iconst 2, 1, []), (96, .isub, 1, []), (97, .iaload, 1, []), (98, .ireturn, 1, [])] := rfl
theorem cb_X3_cluster_6 : (blk md_X3_cluster 6).2 = [(99, .aload_n 0, 1, []), (100, .sipush (-1001), 3, []), (103, .invokevirtual 49, 3, [0, 88, 2, 1]), (106, .ireturn, 1, [])] := rfl
def md_X3_spoil : List mB := [
  (false, [(0, .iload_n 1, 1, []), (1, .invokestatic 97, 3, [1, 97, 1, 1]), (4, .ifCond .eq 13, 3, [3])]),
  (false, [(7, .iload_n 2, 1, []), (8, .ifCond .lt 9, 3, [3])]),
  (false, [(11, .iload_n 2, 1, []), (12, .bipush 99, 2, []), (14, .if_icmp .le 11, 3, [4])]),
  (false, [(17, .aload_n 0, 1, []), (18, .sipush (-1001), 3, []), (21, .invokevirtual 49, 3, [0, 88, 2, 1]), (24, .ireturn, 1, [])]),
  (false, [(25, .aload_n 0, 1, []), (26, .getfield 12, 3, [3, 0]), (29, .getfield 100, 3, [0, 1]), (32, .iload_n 1, 1, []), (33, .iaload, 1, []), (34, .istore_n 3, 1, []), (35, .aload_n 0, 1, []), (36, .getfield 12, 3, [3, 0]), (39, .getfield 100, 3, [0, 1]), (42, .iload_n 1, 1, []), (43, .iload_n 2, 1, []), (44, .iastore, 1, []), (45, .iload_n 3, 1, []), (46, .ireturn, 1, [])])]
theorem cb_X3_spoil_0 : (blk md_X3_spoil 0).2 = [(0, .iload_n 1, 1, []), (1, .invokestatic 97, 3, [1, 97, 1, 1]), (4, .ifCond .eq 13, 3, [3])] := rfl
theorem cb_X3_spoil_1 : (blk md_X3_spoil 1).2 = [(7, .iload_n 2, 1, []), (8, .ifCond .lt 9, 3, [3])] := rfl
theorem cb_X3_spoil_2 : (blk md_X3_spoil 2).2 = [(11, .iload_n 2, 1, []), (12, .bipush 99, 2, []), (14, .if_icmp .le 11, 3, [4])] := rfl
theorem cb_X3_spoil_3 : (blk md_X3_spoil 3).2 = [(17, .aload_n 0, 1, []), (18, .sipush (-1001), 3, []), (21, .invokevirtual 49, 3, [0, 88, 2, 1]), (24, .ireturn, 1, [])] := rfl
theorem cb_X3_spoil_4 : (blk md_X3_spoil 4).2 = [(25, .aload_n 0, 1, []), (26, .getfield 12, 3, [3, 0]), (29, .getfield 100, 3, [0, 1]), (32, .iload_n 1, 1, []), (33, .iaload, 1, []), (34, .istore_n 3, 1, []), (35, .aload_n 0, 1, []), (36, .getfield 12, 3, [3, 0]), (39, .getfield 100, 3, [0, 1]), (42, .iload_n 1, 1, []), (43, .iload_n 2, 1, []), (44, .iastore, 1, []), (45, .iload_n 3, 1, []), (46, .ireturn, 1, [])] := rfl
def md_X3_all : List mB := [
  (false, [(0, .iload_n 1, 1, []), (1, .tableswitch 63 0 3 #[31, 39, 47, 55], 31, [5, 1, 2, 3, 4])]),
  (false, [(32, .aload_n 0, 1, []), (33, .getfield 12, 3, [3, 0]), (36, .invokevirtual 112, 3, [0, 23, 1, 2]), (39, .lreturn, 1, [])]),
  (false, [(40, .aload_n 0, 1, []), (41, .getfield 12, 3, [3, 0]), (44, .invokevirtual 116, 3, [0, 24, 1, 2]), (47, .lreturn, 1, [])]),
  (false, [(48, .aload_n 0, 1, []), (49, .getfield 12, 3, [3, 0]), (52, .invokevirtual 119, 3, [0, 25, 1, 2]), (55, .lreturn, 1, [])]),
  (false, [(56, .aload_n 0, 1, []), (57, .getfield 12, 3, [3, 0]), (60, .invokevirtual 122, 3, [0, 26, 1, 2]), (63, .lreturn, 1, [])]),
  (false, [(64, .lconst 0, 1, []), (65, .lreturn, 1, [])])]
theorem cb_X3_all_0 : (blk md_X3_all 0).2 = [(0, .iload_n 1, 1, []), (1, .tableswitch 63 0 3 #[31, 39, 47, 55], 31, [5, 1, 2, 3, 4])] := rfl
theorem cb_X3_all_1 : (blk md_X3_all 1).2 = [(32, .aload_n 0, 1, []), (33, .getfield 12, 3, [3, 0]), (36, .invokevirtual 112, 3, [0, 23, 1, 2]), (39, .lreturn, 1, [])] := rfl
theorem cb_X3_all_2 : (blk md_X3_all 2).2 = [(40, .aload_n 0, 1, []), (41, .getfield 12, 3, [3, 0]), (44, .invokevirtual 116, 3, [0, 24, 1, 2]), (47, .lreturn, 1, [])] := rfl
theorem cb_X3_all_3 : (blk md_X3_all 3).2 = [(48, .aload_n 0, 1, []), (49, .getfield 12, 3, [3, 0]), (52, .invokevirtual 119, 3, [0, 25, 1, 2]), (55, .lreturn, 1, [])] := rfl
theorem cb_X3_all_4 : (blk md_X3_all 4).2 = [(56, .aload_n 0, 1, []), (57, .getfield 12, 3, [3, 0]), (60, .invokevirtual 122, 3, [0, 26, 1, 2]), (63, .lreturn, 1, [])] := rfl
theorem cb_X3_all_5 : (blk md_X3_all 5).2 = [(64, .lconst 0, 1, []), (65, .lreturn, 1, [])] := rfl
def md_X3_repair : List mB := [
  (false, [(0, .aload_n 0, 1, []), (1, .getfield 12, 3, [3, 0]), (4, .invokevirtual 125, 3, [0, 27, 1, 1]), (7, .ireturn, 1, [])])]
theorem cb_X3_repair_0 : (blk md_X3_repair 0).2 = [(0, .aload_n 0, 1, []), (1, .getfield 12, 3, [3, 0]), (4, .invokevirtual 125, 3, [0, 27, 1, 1]), (7, .ireturn, 1, [])] := rfl
def md_X3_holds : List mB := [
  (false, [(0, .aload_n 0, 1, []), (1, .getfield 12, 3, [3, 0]), (4, .iload_n 1, 1, []), (5, .invokestatic 129, 3, [1, 99, 1, 1]), (8, .invokevirtual 132, 3, [0, 20, 2, 2]), (11, .lreturn, 1, [])])]
theorem cb_X3_holds_0 : (blk md_X3_holds 0).2 = [(0, .aload_n 0, 1, []), (1, .getfield 12, 3, [3, 0]), (4, .iload_n 1, 1, []), (5, .invokestatic 129, 3, [1, 99, 1, 1]), (8, .invokevirtual 132, 3, [0, 20, 2, 2]), (11, .lreturn, 1, [])] := rfl
def md_X3_alone : List mB := [
  (false, [(0, .iload_n 1, 1, []), (1, .invokestatic 129, 3, [1, 99, 1, 1]), (4, .istore_n 2, 1, []), (5, .lconst 0, 1, []), (6, .lstore_n 3, 1, []), (7, .iconst 0, 1, []), (8, .istore 5, 2, [])]),
  (false, [(10, .iload 5, 2, []), (12, .bipush 14, 2, []), (14, .if_icmp .ge 27, 3, [5])]),
  (false, [(17, .iload 5, 2, []), (19, .iload_n 2, 1, []), (20, .if_icmp .eq 15, 3, [4])]),
  (false, [(23, .lload_n 3, 1, []), (24, .aload_n 0, 1, []), (25, .getfield 12, 3, [3, 0]), (28, .iload 5, 2, []), (30, .invokevirtual 132, 3, [0, 20, 2, 2]), (33, .lor, 1, []), (34, .lstore_n 3, 1, [])]),
  (false, [(35, .iinc 5 1, 3, []), (38, .goto (-28), 3, [1])]),
  (false, [(41, .aload_n 0, 1, []), (42, .getfield 12, 3, [3, 0]), (45, .iload_n 2, 1, []), (46, .invokevirtual 132, 3, [0, 20, 2, 2]), (49, .lload_n 3, 1, []), (50, .ldc2_w 136, 3, [18446744073709551615]), (53, .lxor, 1, []), (54, .land, 1, []), (55, .lreturn, 1, [])])]
theorem cb_X3_alone_0 : (blk md_X3_alone 0).2 = [(0, .iload_n 1, 1, []), (1, .invokestatic 129, 3, [1, 99, 1, 1]), (4, .istore_n 2, 1, []), (5, .lconst 0, 1, []), (6, .lstore_n 3, 1, []), (7, .iconst 0, 1, []), (8, .istore 5, 2, [])] := rfl
theorem cb_X3_alone_1 : (blk md_X3_alone 1).2 = [(10, .iload 5, 2, []), (12, .bipush 14, 2, []), (14, .if_icmp .ge 27, 3, [5])] := rfl
theorem cb_X3_alone_2 : (blk md_X3_alone 2).2 = [(17, .iload 5, 2, []), (19, .iload_n 2, 1, []), (20, .if_icmp .eq 15, 3, [4])] := rfl
theorem cb_X3_alone_3 : (blk md_X3_alone 3).2 = [(23, .lload_n 3, 1, []), (24, .aload_n 0, 1, []), (25, .getfield 12, 3, [3, 0]), (28, .iload 5, 2, []), (30, .invokevirtual 132, 3, [0, 20, 2, 2]), (33, .lor, 1, []), (34, .lstore_n 3, 1, [])] := rfl
theorem cb_X3_alone_4 : (blk md_X3_alone 4).2 = [(35, .iinc 5 1, 3, []), (38, .goto (-28), 3, [1])] := rfl
theorem cb_X3_alone_5 : (blk md_X3_alone 5).2 = [(41, .aload_n 0, 1, []), (42, .getfield 12, 3, [3, 0]), (45, .iload_n 2, 1, []), (46, .invokevirtual 132, 3, [0, 20, 2, 2]), (49, .lload_n 3, 1, []), (50, .ldc2_w 136, 3, [18446744073709551615]), (53, .lxor, 1, []), (54, .land, 1, []), (55, .lreturn, 1, [])] := rfl
def md_X3_holders : List mB := [
  (false, [(0, .iload_n 1, 1, []), (1, .invokestatic 97, 3, [1, 97, 1, 1]), (4, .ifCond .ne 11, 3, [2])]),
  (false, [(7, .aload_n 0, 1, []), (8, .sipush (-1001), 3, []), (11, .invokevirtual 49, 3, [0, 88, 2, 1]), (14, .ireturn, 1, [])]),
  (false, [(15, .iconst 0, 1, []), (16, .istore_n 2, 1, []), (17, .iconst 0, 1, []), (18, .istore_n 3, 1, [])]),
  (false, [(19, .iload_n 3, 1, []), (20, .bipush 14, 2, []), (22, .if_icmp .ge 46, 3, [10])]),
  (false, [(25, .aload_n 0, 1, []), (26, .getfield 12, 3, [3, 0]), (29, .iload_n 3, 1, []), (30, .invokevirtual 132, 3, [0, 20, 2, 2]), (33, .iload_n 1, 1, []), (34, .invokestatic 138, 3, [1, 98, 2, 1]), (37, .ifCond .eq 25, 3, [9])]),
  (false, [(40, .iload_n 2, 1, []), (41, .iconst 1, 1, []), (42, .iload_n 3, 1, []), (43, .bipush 6, 2, []), (45, .if_icmp .ge 7, 3, [7])]),
  (false, [(48, .iload_n 3, 1, []), (49, .goto 10, 3, [8])]),
  (false, [(52, .iload_n 3, 1, []), (53, .bipush 6, 2, []), (55, .isub, 1, []), (56, .bipush 10, 2, []), (58, .iadd, 1, [])]),
  (false, [(59, .ishl, 1, []), (60, .ior, 1, []), (61, .istore_n 2, 1, [])]),
  (false, [(62, .iinc 3 1, 3, []), (65, .goto (-46), 3, [3])]),
  (false, [(68, .iload_n 2, 1, []), (69, .ireturn, 1, [])])]
theorem cb_X3_holders_0 : (blk md_X3_holders 0).2 = [(0, .iload_n 1, 1, []), (1, .invokestatic 97, 3, [1, 97, 1, 1]), (4, .ifCond .ne 11, 3, [2])] := rfl
theorem cb_X3_holders_1 : (blk md_X3_holders 1).2 = [(7, .aload_n 0, 1, []), (8, .sipush (-1001), 3, []), (11, .invokevirtual 49, 3, [0, 88, 2, 1]), (14, .ireturn, 1, [])] := rfl
theorem cb_X3_holders_2 : (blk md_X3_holders 2).2 = [(15, .iconst 0, 1, []), (16, .istore_n 2, 1, []), (17, .iconst 0, 1, []), (18, .istore_n 3, 1, [])] := rfl
theorem cb_X3_holders_3 : (blk md_X3_holders 3).2 = [(19, .iload_n 3, 1, []), (20, .bipush 14, 2, []), (22, .if_icmp .ge 46, 3, [10])] := rfl
theorem cb_X3_holders_4 : (blk md_X3_holders 4).2 = [(25, .aload_n 0, 1, []), (26, .getfield 12, 3, [3, 0]), (29, .iload_n 3, 1, []), (30, .invokevirtual 132, 3, [0, 20, 2, 2]), (33, .iload_n 1, 1, []), (34, .invokestatic 138, 3, [1, 98, 2, 1]), (37, .ifCond .eq 25, 3, [9])] := rfl
theorem cb_X3_holders_5 : (blk md_X3_holders 5).2 = [(40, .iload_n 2, 1, []), (41, .iconst 1, 1, []), (42, .iload_n 3, 1, []), (43, .bipush 6, 2, []), (45, .if_icmp .ge 7, 3, [7])] := rfl
theorem cb_X3_holders_6 : (blk md_X3_holders 6).2 = [(48, .iload_n 3, 1, []), (49, .goto 10, 3, [8])] := rfl
theorem cb_X3_holders_7 : (blk md_X3_holders 7).2 = [(52, .iload_n 3, 1, []), (53, .bipush 6, 2, []), (55, .isub, 1, []), (56, .bipush 10, 2, []), (58, .iadd, 1, [])] := rfl
theorem cb_X3_holders_8 : (blk md_X3_holders 8).2 = [(59, .ishl, 1, []), (60, .ior, 1, []), (61, .istore_n 2, 1, [])] := rfl
theorem cb_X3_holders_9 : (blk md_X3_holders 9).2 = [(62, .iinc 3 1, 3, []), (65, .goto (-46), 3, [3])] := rfl
theorem cb_X3_holders_10 : (blk md_X3_holders 10).2 = [(68, .iload_n 2, 1, []), (69, .ireturn, 1, [])] := rfl
def md_X3_best : List mB := [
  (false, [(0, .iload_n 1, 1, []), (1, .ifCond .eq 16, 3, [3])]),
  (false, [(4, .iload_n 1, 1, []), (5, .iconst 1, 1, []), (6, .if_icmp .eq 11, 3, [3])]),
  (false, [(9, .aload_n 0, 1, []), (10, .sipush (-1001), 3, []), (13, .invokevirtual 49, 3, [0, 88, 2, 1]), (16, .ireturn, 1, [])]),
  (false, [(17, .aload_n 0, 1, []), (18, .getfield 12, 3, [3, 0]), (21, .invokevirtual 116, 3, [0, 24, 1, 2]), (24, .lconst 0, 1, []), (25, .lcmp, 1, []), (26, .ifCond .eq 5, 3, [5])]),
  (false, [(29, .iconst (-1), 1, []), (30, .ireturn, 1, [])]),
  (false, [(31, .iconst (-1), 1, []), (32, .istore_n 2, 1, []), (33, .iconst (-1), 1, []), (34, .istore_n 3, 1, []), (35, .iconst 0, 1, []), (36, .istore 4, 2, [])]),
  (false, [(38, .iload 4, 2, []), (40, .bipush 8, 2, []), (42, .if_icmp .ge 45, 3, [13])]),
  (false, [(45, .aload_n 0, 1, []), (46, .getfield 12, 3, [3, 0]), (49, .iload 4, 2, []), (51, .invokevirtual 81, 3, [0, 3, 2, 1]), (54, .ifCond .eq 12, 3, [9])]),
  (false, [(57, .aload_n 0, 1, []), (58, .iload 4, 2, []), (60, .invokevirtual 142, 3, [0, 94, 2, 1]), (63, .goto 4, 3, [10])]),
  (false, [(66, .iconst (-1), 1, [])]),
  (false, [(67, .istore 5, 2, []), (69, .iload 5, 2, []), (71, .iload_n 3, 1, []), (72, .if_icmp .le 9, 3, [12])]),
  (false, [(75, .iload 5, 2, []), (77, .istore_n 3, 1, []), (78, .iload 4, 2, []), (80, .istore_n 2, 1, [])]),
  (false, [(81, .iinc 4 1, 3, []), (84, .goto (-46), 3, [6])]),
  (false, [(87, .iload_n 1, 1, []), (88, .ifCond .ne 7, 3, [15])]),
  (false, [(91, .iload_n 2, 1, []), (92, .goto 4, 3, [16])]),
  (false, [(95, .iload_n 3, 1, [])]),
  (false, [(96, .ireturn, 1, [])])]
theorem cb_X3_best_0 : (blk md_X3_best 0).2 = [(0, .iload_n 1, 1, []), (1, .ifCond .eq 16, 3, [3])] := rfl
theorem cb_X3_best_1 : (blk md_X3_best 1).2 = [(4, .iload_n 1, 1, []), (5, .iconst 1, 1, []), (6, .if_icmp .eq 11, 3, [3])] := rfl
theorem cb_X3_best_2 : (blk md_X3_best 2).2 = [(9, .aload_n 0, 1, []), (10, .sipush (-1001), 3, []), (13, .invokevirtual 49, 3, [0, 88, 2, 1]), (16, .ireturn, 1, [])] := rfl
theorem cb_X3_best_3 : (blk md_X3_best 3).2 = [(17, .aload_n 0, 1, []), (18, .getfield 12, 3, [3, 0]), (21, .invokevirtual 116, 3, [0, 24, 1, 2]), (24, .lconst 0, 1, []), (25, .lcmp, 1, []), (26, .ifCond .eq 5, 3, [5])] := rfl
theorem cb_X3_best_4 : (blk md_X3_best 4).2 = [(29, .iconst (-1), 1, []), (30, .ireturn, 1, [])] := rfl
theorem cb_X3_best_5 : (blk md_X3_best 5).2 = [(31, .iconst (-1), 1, []), (32, .istore_n 2, 1, []), (33, .iconst (-1), 1, []), (34, .istore_n 3, 1, []), (35, .iconst 0, 1, []), (36, .istore 4, 2, [])] := rfl
theorem cb_X3_best_6 : (blk md_X3_best 6).2 = [(38, .iload 4, 2, []), (40, .bipush 8, 2, []), (42, .if_icmp .ge 45, 3, [13])] := rfl
theorem cb_X3_best_7 : (blk md_X3_best 7).2 = [(45, .aload_n 0, 1, []), (46, .getfield 12, 3, [3, 0]), (49, .iload 4, 2, []), (51, .invokevirtual 81, 3, [0, 3, 2, 1]), (54, .ifCond .eq 12, 3, [9])] := rfl
theorem cb_X3_best_8 : (blk md_X3_best 8).2 = [(57, .aload_n 0, 1, []), (58, .iload 4, 2, []), (60, .invokevirtual 142, 3, [0, 94, 2, 1]), (63, .goto 4, 3, [10])] := rfl
theorem cb_X3_best_9 : (blk md_X3_best 9).2 = [(66, .iconst (-1), 1, [])] := rfl
theorem cb_X3_best_10 : (blk md_X3_best 10).2 = [(67, .istore 5, 2, []), (69, .iload 5, 2, []), (71, .iload_n 3, 1, []), (72, .if_icmp .le 9, 3, [12])] := rfl
theorem cb_X3_best_11 : (blk md_X3_best 11).2 = [(75, .iload 5, 2, []), (77, .istore_n 3, 1, []), (78, .iload 4, 2, []), (80, .istore_n 2, 1, [])] := rfl
theorem cb_X3_best_12 : (blk md_X3_best 12).2 = [(81, .iinc 4 1, 3, []), (84, .goto (-46), 3, [6])] := rfl
theorem cb_X3_best_13 : (blk md_X3_best 13).2 = [(87, .iload_n 1, 1, []), (88, .ifCond .ne 7, 3, [15])] := rfl
theorem cb_X3_best_14 : (blk md_X3_best 14).2 = [(91, .iload_n 2, 1, []), (92, .goto 4, 3, [16])] := rfl
theorem cb_X3_best_15 : (blk md_X3_best 15).2 = [(95, .iload_n 3, 1, [])] := rfl
theorem cb_X3_best_16 : (blk md_X3_best 16).2 = [(96, .ireturn, 1, [])] := rfl
def md_X3_twins : List mB := [
  (false, [(0, .aload_n 0, 1, []), (1, .getfield 12, 3, [3, 0]), (4, .aload_n 0, 1, []), (5, .getfield 12, 3, [3, 0]), (8, .iconst 0, 1, []), (9, .bipush 14, 2, []), (11, .invokevirtual 145, 3, [0, 18, 3, 2]), (14, .invokevirtual 149, 3, [0, 19, 2, 2]), (17, .lstore_n 1, 1, []), (18, .iconst 0, 1, []), (19, .istore_n 3, 1, []), (20, .iconst 1, 1, []), (21, .istore 4, 2, [])]),
  (false, [(23, .iload 4, 2, []), (25, .bipush 64, 2, []), (27, .if_icmp .ge 63, 3, [10])]),
  (false, [(30, .iload 4, 2, []), (32, .iconst 1, 1, []), (33, .iadd, 1, []), (34, .istore 5, 2, [])]),
  (false, [(36, .iload 5, 2, []), (38, .bipush 64, 2, []), (40, .if_icmp .ge 44, 3, [9])]),
  (false, [(43, .lload_n 1, 1, []), (44, .iload 4, 2, []), (46, .invokestatic 138, 3, [1, 98, 2, 1]), (49, .ifCond .eq 29, 3, [8])]),
  (false, [(52, .lload_n 1, 1, []), (53, .iload 5, 2, []), (55, .invokestatic 138, 3, [1, 98, 2, 1]), (58, .ifCond .eq 20, 3, [8])]),
  (false, [(61, .aload_n 0, 1, []), (62, .getfield 12, 3, [3, 0]), (65, .iload 4, 2, []), (67, .iload 5, 2, []), (69, .invokevirtual 153, 3, [0, 16, 3, 1]), (72, .ifCond .eq 6, 3, [8])]),
  (false, [(75, .iinc 3 1, 3, [])]),
  (false, [(78, .iinc 5 1, 3, []), (81, .goto (-45), 3, [3])]),
  (false, [(84, .iinc 4 1, 3, []), (87, .goto (-64), 3, [1])]),
  (false, [(90, .iload_n 3, 1, []), (91, .ireturn, 1, [])])]
theorem cb_X3_twins_0 : (blk md_X3_twins 0).2 = [(0, .aload_n 0, 1, []), (1, .getfield 12, 3, [3, 0]), (4, .aload_n 0, 1, []), (5, .getfield 12, 3, [3, 0]), (8, .iconst 0, 1, []), (9, .bipush 14, 2, []), (11, .invokevirtual 145, 3, [0, 18, 3, 2]), (14, .invokevirtual 149, 3, [0, 19, 2, 2]), (17, .lstore_n 1, 1, []), (18, .iconst 0, 1, []), (19, .istore_n 3, 1, []), (20, .iconst 1, 1, []), (21, .istore 4, 2, [])] := rfl
theorem cb_X3_twins_1 : (blk md_X3_twins 1).2 = [(23, .iload 4, 2, []), (25, .bipush 64, 2, []), (27, .if_icmp .ge 63, 3, [10])] := rfl
theorem cb_X3_twins_2 : (blk md_X3_twins 2).2 = [(30, .iload 4, 2, []), (32, .iconst 1, 1, []), (33, .iadd, 1, []), (34, .istore 5, 2, [])] := rfl
theorem cb_X3_twins_3 : (blk md_X3_twins 3).2 = [(36, .iload 5, 2, []), (38, .bipush 64, 2, []), (40, .if_icmp .ge 44, 3, [9])] := rfl
theorem cb_X3_twins_4 : (blk md_X3_twins 4).2 = [(43, .lload_n 1, 1, []), (44, .iload 4, 2, []), (46, .invokestatic 138, 3, [1, 98, 2, 1]), (49, .ifCond .eq 29, 3, [8])] := rfl
theorem cb_X3_twins_5 : (blk md_X3_twins 5).2 = [(52, .lload_n 1, 1, []), (53, .iload 5, 2, []), (55, .invokestatic 138, 3, [1, 98, 2, 1]), (58, .ifCond .eq 20, 3, [8])] := rfl
theorem cb_X3_twins_6 : (blk md_X3_twins 6).2 = [(61, .aload_n 0, 1, []), (62, .getfield 12, 3, [3, 0]), (65, .iload 4, 2, []), (67, .iload 5, 2, []), (69, .invokevirtual 153, 3, [0, 16, 3, 1]), (72, .ifCond .eq 6, 3, [8])] := rfl
theorem cb_X3_twins_7 : (blk md_X3_twins 7).2 = [(75, .iinc 3 1, 3, [])] := rfl
theorem cb_X3_twins_8 : (blk md_X3_twins 8).2 = [(78, .iinc 5 1, 3, []), (81, .goto (-45), 3, [3])] := rfl
theorem cb_X3_twins_9 : (blk md_X3_twins 9).2 = [(84, .iinc 4 1, 3, []), (87, .goto (-64), 3, [1])] := rfl
theorem cb_X3_twins_10 : (blk md_X3_twins 10).2 = [(90, .iload_n 3, 1, []), (91, .ireturn, 1, [])] := rfl
def md_X3_cost : List mB := [
  (false, [(0, .aload_n 0, 1, []), (1, .iconst 0, 1, []), (2, .iload_n 1, 1, []), (3, .iload_n 2, 1, []), (4, .iconst 0, 1, []), (5, .invokevirtual 87, 3, [0, 89, 5, 1]), (8, .ireturn, 1, [])])]
theorem cb_X3_cost_0 : (blk md_X3_cost 0).2 = [(0, .aload_n 0, 1, []), (1, .iconst 0, 1, []), (2, .iload_n 1, 1, []), (3, .iload_n 2, 1, []), (4, .iconst 0, 1, []), (5, .invokevirtual 87, 3, [0, 89, 5, 1]), (8, .ireturn, 1, [])] := rfl
def md_X3_torn : List mB := [
  (false, [(0, .iload 4, 2, []), (2, .invokestatic 157, 3, [1, 95, 1, 1]), (5, .ifCond .eq 14, 3, [2])]),
  (false, [(8, .aload_n 0, 1, []), (9, .iconst 0, 1, []), (10, .iload_n 1, 1, []), (11, .iload_n 2, 1, []), (12, .iload_n 3, 1, []), (13, .invokevirtual 87, 3, [0, 89, 5, 1]), (16, .goto 10, 3, [3])]),
  (false, [(19, .aload_n 0, 1, []), (20, .sipush (-1001), 3, []), (23, .invokevirtual 49, 3, [0, 88, 2, 1])]),
  (false, [(26, .istore 5, 2, []), (28, .iload 5, 2, []), (30, .ifCond .ge 6, 3, [5])]),
  (false, [(33, .iload 5, 2, []), (35, .ireturn, 1, [])]),
  (false, [(36, .aload_n 0, 1, []), (37, .getfield 22, 3, [3, 2]), (40, .aload_n 0, 1, []), (41, .getfield 12, 3, [3, 0]), (44, .iload 4, 2, []), (46, .invokevirtual 160, 3, [0, 39, 3, 0]), (49, .aload_n 0, 1, []), (50, .getfield 22, 3, [3, 2]), (53, .getfield 164, 3, [2, 0]), (56, .iload_n 1, 1, []), (57, .iload_n 2, 1, []), (58, .invokevirtual 77, 3, [0, 13, 3, 1]), (61, .ireturn, 1, [])])]
theorem cb_X3_torn_0 : (blk md_X3_torn 0).2 = [(0, .iload 4, 2, []), (2, .invokestatic 157, 3, [1, 95, 1, 1]), (5, .ifCond .eq 14, 3, [2])] := rfl
theorem cb_X3_torn_1 : (blk md_X3_torn 1).2 = [(8, .aload_n 0, 1, []), (9, .iconst 0, 1, []), (10, .iload_n 1, 1, []), (11, .iload_n 2, 1, []), (12, .iload_n 3, 1, []), (13, .invokevirtual 87, 3, [0, 89, 5, 1]), (16, .goto 10, 3, [3])] := rfl
theorem cb_X3_torn_2 : (blk md_X3_torn 2).2 = [(19, .aload_n 0, 1, []), (20, .sipush (-1001), 3, []), (23, .invokevirtual 49, 3, [0, 88, 2, 1])] := rfl
theorem cb_X3_torn_3 : (blk md_X3_torn 3).2 = [(26, .istore 5, 2, []), (28, .iload 5, 2, []), (30, .ifCond .ge 6, 3, [5])] := rfl
theorem cb_X3_torn_4 : (blk md_X3_torn 4).2 = [(33, .iload 5, 2, []), (35, .ireturn, 1, [])] := rfl
theorem cb_X3_torn_5 : (blk md_X3_torn 5).2 = [(36, .aload_n 0, 1, []), (37, .getfield 22, 3, [3, 2]), (40, .aload_n 0, 1, []), (41, .getfield 12, 3, [3, 0]), (44, .iload 4, 2, []), (46, .invokevirtual 160, 3, [0, 39, 3, 0]), (49, .aload_n 0, 1, []), (50, .getfield 22, 3, [3, 2]), (53, .getfield 164, 3, [2, 0]), (56, .iload_n 1, 1, []), (57, .iload_n 2, 1, []), (58, .invokevirtual 77, 3, [0, 13, 3, 1]), (61, .ireturn, 1, [])] := rfl
def md_X3_leaks : List mB := [
  (false, [(0, .iload_n 3, 1, []), (1, .invokestatic 157, 3, [1, 95, 1, 1]), (4, .ifCond .eq 14, 3, [2])]),
  (false, [(7, .aload_n 0, 1, []), (8, .iconst 0, 1, []), (9, .iload_n 1, 1, []), (10, .iload_n 2, 1, []), (11, .iconst 0, 1, []), (12, .invokevirtual 87, 3, [0, 89, 5, 1]), (15, .goto 10, 3, [3])]),
  (false, [(18, .aload_n 0, 1, []), (19, .sipush (-1001), 3, []), (22, .invokevirtual 49, 3, [0, 88, 2, 1])]),
  (false, [(25, .istore 4, 2, []), (27, .iload 4, 2, []), (29, .ifCond .ge 6, 3, [5])]),
  (false, [(32, .iload 4, 2, []), (34, .ireturn, 1, [])]),
  (false, [(35, .aload_n 0, 1, []), (36, .getfield 22, 3, [3, 2]), (39, .aload_n 0, 1, []), (40, .getfield 12, 3, [3, 0]), (43, .iload_n 3, 1, []), (44, .invokevirtual 160, 3, [0, 39, 3, 0]), (47, .aload_n 0, 1, []), (48, .getfield 22, 3, [3, 2]), (51, .getfield 164, 3, [2, 0]), (54, .invokevirtual 112, 3, [0, 23, 1, 2]), (57, .invokestatic 167, 3, [1, 191, 1, 1]), (60, .ireturn, 1, [])])]
theorem cb_X3_leaks_0 : (blk md_X3_leaks 0).2 = [(0, .iload_n 3, 1, []), (1, .invokestatic 157, 3, [1, 95, 1, 1]), (4, .ifCond .eq 14, 3, [2])] := rfl
theorem cb_X3_leaks_1 : (blk md_X3_leaks 1).2 = [(7, .aload_n 0, 1, []), (8, .iconst 0, 1, []), (9, .iload_n 1, 1, []), (10, .iload_n 2, 1, []), (11, .iconst 0, 1, []), (12, .invokevirtual 87, 3, [0, 89, 5, 1]), (15, .goto 10, 3, [3])] := rfl
theorem cb_X3_leaks_2 : (blk md_X3_leaks 2).2 = [(18, .aload_n 0, 1, []), (19, .sipush (-1001), 3, []), (22, .invokevirtual 49, 3, [0, 88, 2, 1])] := rfl
theorem cb_X3_leaks_3 : (blk md_X3_leaks 3).2 = [(25, .istore 4, 2, []), (27, .iload 4, 2, []), (29, .ifCond .ge 6, 3, [5])] := rfl
theorem cb_X3_leaks_4 : (blk md_X3_leaks 4).2 = [(32, .iload 4, 2, []), (34, .ireturn, 1, [])] := rfl
theorem cb_X3_leaks_5 : (blk md_X3_leaks 5).2 = [(35, .aload_n 0, 1, []), (36, .getfield 22, 3, [3, 2]), (39, .aload_n 0, 1, []), (40, .getfield 12, 3, [3, 0]), (43, .iload_n 3, 1, []), (44, .invokevirtual 160, 3, [0, 39, 3, 0]), (47, .aload_n 0, 1, []), (48, .getfield 22, 3, [3, 2]), (51, .getfield 164, 3, [2, 0]), (54, .invokevirtual 112, 3, [0, 23, 1, 2]), (57, .invokestatic 167, 3, [1, 191, 1, 1]), (60, .ireturn, 1, [])] := rfl
def md_X3_behind : List mB := [
  (false, [(0, .aload_n 0, 1, []), (1, .iconst 0, 1, []), (2, .iload_n 1, 1, []), (3, .iload_n 2, 1, []), (4, .iload_n 3, 1, []), (5, .invokevirtual 87, 3, [0, 89, 5, 1]), (8, .istore 4, 2, []), (10, .iload 4, 2, []), (12, .ifCond .ge 6, 3, [2])]),
  (false, [(15, .iload 4, 2, []), (17, .ireturn, 1, [])]),
  (false, [(18, .aload_n 0, 1, []), (19, .getfield 12, 3, [3, 0]), (22, .iload_n 1, 1, []), (23, .iload_n 2, 1, []), (24, .invokevirtual 77, 3, [0, 13, 3, 1]), (27, .iload_n 3, 1, []), (28, .if_icmp .ne 5, 3, [4])]),
  (false, [(31, .iconst (-1), 1, []), (32, .ireturn, 1, [])]),
  (false, [(33, .iconst 0, 1, []), (34, .istore 5, 2, [])]),
  (false, [(36, .iload 5, 2, []), (38, .iload 4, 2, []), (40, .if_icmp .ge 41, 3, [9])]),
  (false, [(43, .aload_n 0, 1, []), (44, .getfield 22, 3, [3, 2]), (47, .aload_n 0, 1, []), (48, .getfield 12, 3, [3, 0]), (51, .iload 5, 2, []), (53, .invokevirtual 160, 3, [0, 39, 3, 0]), (56, .aload_n 0, 1, []), (57, .getfield 22, 3, [3, 2]), (60, .getfield 164, 3, [2, 0]), (63, .iload_n 1, 1, []), (64, .iload_n 2, 1, []), (65, .invokevirtual 77, 3, [0, 13, 3, 1]), (68, .iload_n 3, 1, []), (69, .if_icmp .ne 6, 3, [8])]),
  (false, [(72, .iload 5, 2, []), (74, .ireturn, 1, [])]),
  (false, [(75, .iinc 5 1, 3, []), (78, .goto (-42), 3, [5])]),
  (false, [(81, .iload 4, 2, []), (83, .ireturn, 1, [])])]
theorem cb_X3_behind_0 : (blk md_X3_behind 0).2 = [(0, .aload_n 0, 1, []), (1, .iconst 0, 1, []), (2, .iload_n 1, 1, []), (3, .iload_n 2, 1, []), (4, .iload_n 3, 1, []), (5, .invokevirtual 87, 3, [0, 89, 5, 1]), (8, .istore 4, 2, []), (10, .iload 4, 2, []), (12, .ifCond .ge 6, 3, [2])] := rfl
theorem cb_X3_behind_1 : (blk md_X3_behind 1).2 = [(15, .iload 4, 2, []), (17, .ireturn, 1, [])] := rfl
theorem cb_X3_behind_2 : (blk md_X3_behind 2).2 = [(18, .aload_n 0, 1, []), (19, .getfield 12, 3, [3, 0]), (22, .iload_n 1, 1, []), (23, .iload_n 2, 1, []), (24, .invokevirtual 77, 3, [0, 13, 3, 1]), (27, .iload_n 3, 1, []), (28, .if_icmp .ne 5, 3, [4])] := rfl
theorem cb_X3_behind_3 : (blk md_X3_behind 3).2 = [(31, .iconst (-1), 1, []), (32, .ireturn, 1, [])] := rfl
theorem cb_X3_behind_4 : (blk md_X3_behind 4).2 = [(33, .iconst 0, 1, []), (34, .istore 5, 2, [])] := rfl
theorem cb_X3_behind_5 : (blk md_X3_behind 5).2 = [(36, .iload 5, 2, []), (38, .iload 4, 2, []), (40, .if_icmp .ge 41, 3, [9])] := rfl
theorem cb_X3_behind_6 : (blk md_X3_behind 6).2 = [(43, .aload_n 0, 1, []), (44, .getfield 22, 3, [3, 2]), (47, .aload_n 0, 1, []), (48, .getfield 12, 3, [3, 0]), (51, .iload 5, 2, []), (53, .invokevirtual 160, 3, [0, 39, 3, 0]), (56, .aload_n 0, 1, []), (57, .getfield 22, 3, [3, 2]), (60, .getfield 164, 3, [2, 0]), (63, .iload_n 1, 1, []), (64, .iload_n 2, 1, []), (65, .invokevirtual 77, 3, [0, 13, 3, 1]), (68, .iload_n 3, 1, []), (69, .if_icmp .ne 6, 3, [8])] := rfl
theorem cb_X3_behind_7 : (blk md_X3_behind 7).2 = [(72, .iload 5, 2, []), (74, .ireturn, 1, [])] := rfl
theorem cb_X3_behind_8 : (blk md_X3_behind 8).2 = [(75, .iinc 5 1, 3, []), (78, .goto (-42), 3, [5])] := rfl
theorem cb_X3_behind_9 : (blk md_X3_behind 9).2 = [(81, .iload 4, 2, []), (83, .ireturn, 1, [])] := rfl
def md_X3_room : List mB := [
  (false, [(0, .aload_n 0, 1, []), (1, .getfield 12, 3, [3, 0]), (4, .iload_n 1, 1, []), (5, .invokevirtual 59, 3, [0, 1, 2, 1]), (8, .ifCond .ne 11, 3, [2])]),
  (false, [(11, .aload_n 0, 1, []), (12, .sipush (-1001), 3, []), (15, .invokevirtual 49, 3, [0, 88, 2, 1]), (18, .ireturn, 1, [])]),
  (false, [(19, .aload_n 0, 1, []), (20, .getfield 12, 3, [3, 0]), (23, .invokevirtual 116, 3, [0, 24, 1, 2]), (26, .lconst 0, 1, []), (27, .lcmp, 1, []), (28, .ifCond .eq 11, 3, [4])]),
  (false, [(31, .aload_n 0, 1, []), (32, .sipush (-1003), 3, []), (35, .invokevirtual 49, 3, [0, 88, 2, 1]), (38, .ireturn, 1, [])]),
  (false, [(39, .aload_n 0, 1, []), (40, .getfield 22, 3, [3, 2]), (43, .aload_n 0, 1, []), (44, .getfield 12, 3, [3, 0]), (47, .iload_n 1, 1, []), (48, .invokevirtual 173, 3, [0, 43, 3, 1]), (51, .ireturn, 1, [])])]
theorem cb_X3_room_0 : (blk md_X3_room 0).2 = [(0, .aload_n 0, 1, []), (1, .getfield 12, 3, [3, 0]), (4, .iload_n 1, 1, []), (5, .invokevirtual 59, 3, [0, 1, 2, 1]), (8, .ifCond .ne 11, 3, [2])] := rfl
theorem cb_X3_room_1 : (blk md_X3_room 1).2 = [(11, .aload_n 0, 1, []), (12, .sipush (-1001), 3, []), (15, .invokevirtual 49, 3, [0, 88, 2, 1]), (18, .ireturn, 1, [])] := rfl
theorem cb_X3_room_2 : (blk md_X3_room 2).2 = [(19, .aload_n 0, 1, []), (20, .getfield 12, 3, [3, 0]), (23, .invokevirtual 116, 3, [0, 24, 1, 2]), (26, .lconst 0, 1, []), (27, .lcmp, 1, []), (28, .ifCond .eq 11, 3, [4])] := rfl
theorem cb_X3_room_3 : (blk md_X3_room 3).2 = [(31, .aload_n 0, 1, []), (32, .sipush (-1003), 3, []), (35, .invokevirtual 49, 3, [0, 88, 2, 1]), (38, .ireturn, 1, [])] := rfl
theorem cb_X3_room_4 : (blk md_X3_room 4).2 = [(39, .aload_n 0, 1, []), (40, .getfield 22, 3, [3, 2]), (43, .aload_n 0, 1, []), (44, .getfield 12, 3, [3, 0]), (47, .iload_n 1, 1, []), (48, .invokevirtual 173, 3, [0, 43, 3, 1]), (51, .ireturn, 1, [])] := rfl
def md_X3_feed : List mB := [
  (false, [(0, .iload_n 3, 1, []), (1, .iconst 1, 1, []), (2, .if_icmp .lt 9, 3, [2])]),
  (false, [(5, .iload_n 3, 1, []), (6, .bipush 8, 2, []), (8, .if_icmp .le 11, 3, [3])]),
  (false, [(11, .aload_n 0, 1, []), (12, .sipush (-1001), 3, []), (15, .invokevirtual 49, 3, [0, 88, 2, 1]), (18, .ireturn, 1, [])]),
  (false, [(19, .aload_n 0, 1, []), (20, .getfield 29, 3, [3, 3]), (23, .getfield 177, 3, [1, 2]), (26, .iload_n 3, 1, []), (27, .iadd, 1, []), (28, .bipush 120, 2, []), (30, .if_icmp .le 11, 3, [5])]),
  (false, [(33, .aload_n 0, 1, []), (34, .sipush (-1002), 3, []), (37, .invokevirtual 49, 3, [0, 88, 2, 1]), (40, .ireturn, 1, [])]),
  (false, [(41, .iconst 0, 1, []), (42, .istore 4, 2, [])]),
  (false, [(44, .iload 4, 2, []), (46, .iload_n 3, 1, []), (47, .if_icmp .ge 28, 3, [8])]),
  (false, [(50, .aload_n 0, 1, []), (51, .getfield 29, 3, [3, 3]), (54, .lload_n 1, 1, []), (55, .bipush 8, 2, []), (57, .iload 4, 2, []), (59, .imul, 1, []), (60, .lushr, 1, []), (61, .l2i, 1, []), (62, .sipush 255, 3, []), (65, .iand, 1, []), (66, .invokevirtual 180, 3, [0, 28, 2, 0]), (69, .iinc 4 1, 3, []), (72, .goto (-28), 3, [6])]),
  (false, [(75, .aload_n 0, 1, []), (76, .getfield 29, 3, [3, 3]), (79, .getfield 177, 3, [1, 2]), (82, .ireturn, 1, [])])]
theorem cb_X3_feed_0 : (blk md_X3_feed 0).2 = [(0, .iload_n 3, 1, []), (1, .iconst 1, 1, []), (2, .if_icmp .lt 9, 3, [2])] := rfl
theorem cb_X3_feed_1 : (blk md_X3_feed 1).2 = [(5, .iload_n 3, 1, []), (6, .bipush 8, 2, []), (8, .if_icmp .le 11, 3, [3])] := rfl
theorem cb_X3_feed_2 : (blk md_X3_feed 2).2 = [(11, .aload_n 0, 1, []), (12, .sipush (-1001), 3, []), (15, .invokevirtual 49, 3, [0, 88, 2, 1]), (18, .ireturn, 1, [])] := rfl
theorem cb_X3_feed_3 : (blk md_X3_feed 3).2 = [(19, .aload_n 0, 1, []), (20, .getfield 29, 3, [3, 3]), (23, .getfield 177, 3, [1, 2]), (26, .iload_n 3, 1, []), (27, .iadd, 1, []), (28, .bipush 120, 2, []), (30, .if_icmp .le 11, 3, [5])] := rfl
theorem cb_X3_feed_4 : (blk md_X3_feed 4).2 = [(33, .aload_n 0, 1, []), (34, .sipush (-1002), 3, []), (37, .invokevirtual 49, 3, [0, 88, 2, 1]), (40, .ireturn, 1, [])] := rfl
theorem cb_X3_feed_5 : (blk md_X3_feed 5).2 = [(41, .iconst 0, 1, []), (42, .istore 4, 2, [])] := rfl
theorem cb_X3_feed_6 : (blk md_X3_feed 6).2 = [(44, .iload 4, 2, []), (46, .iload_n 3, 1, []), (47, .if_icmp .ge 28, 3, [8])] := rfl
theorem cb_X3_feed_7 : (blk md_X3_feed 7).2 = [(50, .aload_n 0, 1, []), (51, .getfield 29, 3, [3, 3]), (54, .lload_n 1, 1, []), (55, .bipush 8, 2, []), (57, .iload 4, 2, []), (59, .imul, 1, []), (60, .lushr, 1, []), (61, .l2i, 1, []), (62, .sipush 255, 3, []), (65, .iand, 1, []), (66, .invokevirtual 180, 3, [0, 28, 2, 0]), (69, .iinc 4 1, 3, []), (72, .goto (-28), 3, [6])] := rfl
theorem cb_X3_feed_8 : (blk md_X3_feed 8).2 = [(75, .aload_n 0, 1, []), (76, .getfield 29, 3, [3, 3]), (79, .getfield 177, 3, [1, 2]), (82, .ireturn, 1, [])] := rfl
def md_X3_wipe : List mB := [
  (false, [(0, .aload_n 0, 1, []), (1, .getfield 29, 3, [3, 3]), (4, .getfield 177, 3, [1, 2]), (7, .istore_n 1, 1, []), (8, .aload_n 0, 1, []), (9, .getfield 29, 3, [3, 3]), (12, .iconst 0, 1, []), (13, .putfield 177, 3, [1, 2]), (16, .iload_n 1, 1, []), (17, .ireturn, 1, [])])]
theorem cb_X3_wipe_0 : (blk md_X3_wipe 0).2 = [(0, .aload_n 0, 1, []), (1, .getfield 29, 3, [3, 3]), (4, .getfield 177, 3, [1, 2]), (7, .istore_n 1, 1, []), (8, .aload_n 0, 1, []), (9, .getfield 29, 3, [3, 3]), (12, .iconst 0, 1, []), (13, .putfield 177, 3, [1, 2]), (16, .iload_n 1, 1, []), (17, .ireturn, 1, [])] := rfl
def md_X3_run : List mB := [
  (false, [(0, .aload_n 0, 1, []), (1, .getfield 29, 3, [3, 3]), (4, .invokevirtual 184, 3, [0, 30, 1, 1]), (7, .istore_n 1, 1, []), (8, .iload_n 1, 1, []), (9, .iconst (-1), 1, []), (10, .if_icmp .ne 13, 3, [2])]),
  (false, [(13, .aload_n 0, 1, []), (14, .getfield 29, 3, [3, 3]), (17, .getfield 187, 3, [1, 5]), (20, .goto 7, 3, [3])]),
  (false, [(23, .bipush (-10), 2, []), (25, .iload_n 1, 1, []), (26, .isub, 1, [])]),
  (false, [(27, .istore_n 2, 1, []), (28, .aload_n 0, 1, []), (29, .getfield 29, 3, [3, 3]), (32, .getfield 190, 3, [1, 1]), (35, .astore_n 3, 1, []), (36, .aload_n 0, 1, []), (37, .getfield 29, 3, [3, 3]), (40, .iconst 0, 1, []), (41, .putfield 193, 3, [1, 3]), (44, .iconst 0, 1, []), (45, .istore 4, 2, [])]),
  (false, [(47, .iload 4, 2, []), (49, .iload_n 2, 1, []), (50, .if_icmp .ge 59, 3, [8])]),
  (false, [(53, .aload_n 0, 1, []), (54, .getfield 29, 3, [3, 3]), (57, .invokevirtual 195, 3, [0, 32, 1, 1]), (60, .pop, 1, []), (61, .aload_n 0, 1, []), (62, .aload_n 0, 1, []), (63, .aload_n 0, 1, []), (64, .getfield 29, 3, [3, 3]), (67, .getfield 199, 3, [1, 4]), (70, .aload_n 3, 1, []), (71, .iconst 0, 1, []), (72, .iaload, 1, []), (73, .aload_n 3, 1, []), (74, .iconst 1, 1, []), (75, .iaload, 1, []), (76, .aload_n 3, 1, []), (77, .iconst 2, 1, []), (78, .iaload, 1, []), (79, .invokevirtual 87, 3, [0, 89, 5, 1]), (82, .invokevirtual 91, 3, [0, 90, 2, 1]), (85, .ifCond .ge 10, 3, [7])]),
  (false, [(88, .sipush (-300), 3, []), (91, .iload 4, 2, []), (93, .isub, 1, []), (94, .istore_n 2, 1, [])]),
  (false, [(95, .aload_n 0, 1, []), (96, .getfield 29, 3, [3, 3]), (99, .invokevirtual 202, 3, [0, 31, 1, 1]), (102, .pop, 1, []), (103, .iinc 4 1, 3, []), (106, .goto (-59), 3, [4])]),
  (false, [(109, .aload_n 0, 1, []), (110, .getfield 29, 3, [3, 3]), (113, .iconst 0, 1, []), (114, .putfield 177, 3, [1, 2]), (117, .iload_n 2, 1, []), (118, .ireturn, 1, [])])]
theorem cb_X3_run_0 : (blk md_X3_run 0).2 = [(0, .aload_n 0, 1, []), (1, .getfield 29, 3, [3, 3]), (4, .invokevirtual 184, 3, [0, 30, 1, 1]), (7, .istore_n 1, 1, []), (8, .iload_n 1, 1, []), (9, .iconst (-1), 1, []), (10, .if_icmp .ne 13, 3, [2])] := rfl
theorem cb_X3_run_1 : (blk md_X3_run 1).2 = [(13, .aload_n 0, 1, []), (14, .getfield 29, 3, [3, 3]), (17, .getfield 187, 3, [1, 5]), (20, .goto 7, 3, [3])] := rfl
theorem cb_X3_run_2 : (blk md_X3_run 2).2 = [(23, .bipush (-10), 2, []), (25, .iload_n 1, 1, []), (26, .isub, 1, [])] := rfl
theorem cb_X3_run_3 : (blk md_X3_run 3).2 = [(27, .istore_n 2, 1, []), (28, .aload_n 0, 1, []), (29, .getfield 29, 3, [3, 3]), (32, .getfield 190, 3, [1, 1]), (35, .astore_n 3, 1, []), (36, .aload_n 0, 1, []), (37, .getfield 29, 3, [3, 3]), (40, .iconst 0, 1, []), (41, .putfield 193, 3, [1, 3]), (44, .iconst 0, 1, []), (45, .istore 4, 2, [])] := rfl
theorem cb_X3_run_4 : (blk md_X3_run 4).2 = [(47, .iload 4, 2, []), (49, .iload_n 2, 1, []), (50, .if_icmp .ge 59, 3, [8])] := rfl
theorem cb_X3_run_5 : (blk md_X3_run 5).2 = [(53, .aload_n 0, 1, []), (54, .getfield 29, 3, [3, 3]), (57, .invokevirtual 195, 3, [0, 32, 1, 1]), (60, .pop, 1, []), (61, .aload_n 0, 1, []), (62, .aload_n 0, 1, []), (63, .aload_n 0, 1, []), (64, .getfield 29, 3, [3, 3]), (67, .getfield 199, 3, [1, 4]), (70, .aload_n 3, 1, []), (71, .iconst 0, 1, []), (72, .iaload, 1, []), (73, .aload_n 3, 1, []), (74, .iconst 1, 1, []), (75, .iaload, 1, []), (76, .aload_n 3, 1, []), (77, .iconst 2, 1, []), (78, .iaload, 1, []), (79, .invokevirtual 87, 3, [0, 89, 5, 1]), (82, .invokevirtual 91, 3, [0, 90, 2, 1]), (85, .ifCond .ge 10, 3, [7])] := rfl
theorem cb_X3_run_6 : (blk md_X3_run 6).2 = [(88, .sipush (-300), 3, []), (91, .iload 4, 2, []), (93, .isub, 1, []), (94, .istore_n 2, 1, [])] := rfl
theorem cb_X3_run_7 : (blk md_X3_run 7).2 = [(95, .aload_n 0, 1, []), (96, .getfield 29, 3, [3, 3]), (99, .invokevirtual 202, 3, [0, 31, 1, 1]), (102, .pop, 1, []), (103, .iinc 4 1, 3, []), (106, .goto (-59), 3, [4])] := rfl
theorem cb_X3_run_8 : (blk md_X3_run 8).2 = [(109, .aload_n 0, 1, []), (110, .getfield 29, 3, [3, 3]), (113, .iconst 0, 1, []), (114, .putfield 177, 3, [1, 2]), (117, .iload_n 2, 1, []), (118, .ireturn, 1, [])] := rfl
def md_X3_keep : List mB := [
  (false, [(0, .aload_n 0, 1, []), (1, .getfield 16, 3, [3, 1]), (4, .aload_n 0, 1, []), (5, .getfield 12, 3, [3, 0]), (8, .invokevirtual 205, 3, [0, 0, 2, 0]), (11, .aload_n 0, 1, []), (12, .iconst 1, 1, []), (13, .putfield 37, 3, [3, 5, 1]), (16, .aload_n 0, 1, []), (17, .getfield 12, 3, [3, 0]), (20, .invokevirtual 119, 3, [0, 25, 1, 2]), (23, .invokestatic 167, 3, [1, 191, 1, 1]), (26, .ireturn, 1, [])])]
theorem cb_X3_keep_0 : (blk md_X3_keep 0).2 = [(0, .aload_n 0, 1, []), (1, .getfield 16, 3, [3, 1]), (4, .aload_n 0, 1, []), (5, .getfield 12, 3, [3, 0]), (8, .invokevirtual 205, 3, [0, 0, 2, 0]), (11, .aload_n 0, 1, []), (12, .iconst 1, 1, []), (13, .putfield 37, 3, [3, 5, 1]), (16, .aload_n 0, 1, []), (17, .getfield 12, 3, [3, 0]), (20, .invokevirtual 119, 3, [0, 25, 1, 2]), (23, .invokestatic 167, 3, [1, 191, 1, 1]), (26, .ireturn, 1, [])] := rfl
def md_X3_again : List mB := [
  (false, [(0, .aload_n 0, 1, []), (1, .getfield 37, 3, [3, 5]), (4, .ifCond .ne 11, 3, [2])]),
  (false, [(7, .aload_n 0, 1, []), (8, .sipush (-1003), 3, []), (11, .invokevirtual 49, 3, [0, 88, 2, 1]), (14, .ireturn, 1, [])]),
  (false, [(15, .aload_n 0, 1, []), (16, .getfield 12, 3, [3, 0]), (19, .aload_n 0, 1, []), (20, .getfield 16, 3, [3, 1]), (23, .invokevirtual 205, 3, [0, 0, 2, 0]), (26, .aload_n 0, 1, []), (27, .getfield 12, 3, [3, 0]), (30, .invokevirtual 119, 3, [0, 25, 1, 2]), (33, .invokestatic 167, 3, [1, 191, 1, 1]), (36, .ireturn, 1, [])])]
theorem cb_X3_again_0 : (blk md_X3_again 0).2 = [(0, .aload_n 0, 1, []), (1, .getfield 37, 3, [3, 5]), (4, .ifCond .ne 11, 3, [2])] := rfl
theorem cb_X3_again_1 : (blk md_X3_again 1).2 = [(7, .aload_n 0, 1, []), (8, .sipush (-1003), 3, []), (11, .invokevirtual 49, 3, [0, 88, 2, 1]), (14, .ireturn, 1, [])] := rfl
theorem cb_X3_again_2 : (blk md_X3_again 2).2 = [(15, .aload_n 0, 1, []), (16, .getfield 12, 3, [3, 0]), (19, .aload_n 0, 1, []), (20, .getfield 16, 3, [3, 1]), (23, .invokevirtual 205, 3, [0, 0, 2, 0]), (26, .aload_n 0, 1, []), (27, .getfield 12, 3, [3, 0]), (30, .invokevirtual 119, 3, [0, 25, 1, 2]), (33, .invokestatic 167, 3, [1, 191, 1, 1]), (36, .ireturn, 1, [])] := rfl
def md_X3_count : List mB := [
  (false, [(0, .iload_n 1, 1, []), (1, .tableswitch 87 0 5 #[39, 47, 55, 66, 74, 82], 39, [7, 1, 2, 3, 4, 5, 6])]),
  (false, [(40, .aload_n 0, 1, []), (41, .getfield 12, 3, [3, 0]), (44, .getfield 53, 3, [0, 5]), (47, .ireturn, 1, [])]),
  (false, [(48, .aload_n 0, 1, []), (49, .getfield 12, 3, [3, 0]), (52, .invokevirtual 209, 3, [0, 5, 1, 1]), (55, .ireturn, 1, [])]),
  (false, [(56, .aload_n 0, 1, []), (57, .getfield 12, 3, [3, 0]), (60, .invokevirtual 119, 3, [0, 25, 1, 2]), (63, .invokestatic 167, 3, [1, 191, 1, 1]), (66, .ireturn, 1, [])]),
  (false, [(67, .aload_n 0, 1, []), (68, .getfield 12, 3, [3, 0]), (71, .getfield 94, 3, [0, 6]), (74, .ireturn, 1, [])]),
  (false, [(75, .aload_n 0, 1, []), (76, .getfield 29, 3, [3, 3]), (79, .getfield 177, 3, [1, 2]), (82, .ireturn, 1, [])]),
  (false, [(83, .aload_n 0, 1, []), (84, .getfield 41, 3, [3, 6]), (87, .ireturn, 1, [])]),
  (false, [(88, .aload_n 0, 1, []), (89, .sipush (-1001), 3, []), (92, .invokevirtual 49, 3, [0, 88, 2, 1]), (95, .ireturn, 1, [])])]
theorem cb_X3_count_0 : (blk md_X3_count 0).2 = [(0, .iload_n 1, 1, []), (1, .tableswitch 87 0 5 #[39, 47, 55, 66, 74, 82], 39, [7, 1, 2, 3, 4, 5, 6])] := rfl
theorem cb_X3_count_1 : (blk md_X3_count 1).2 = [(40, .aload_n 0, 1, []), (41, .getfield 12, 3, [3, 0]), (44, .getfield 53, 3, [0, 5]), (47, .ireturn, 1, [])] := rfl
theorem cb_X3_count_2 : (blk md_X3_count 2).2 = [(48, .aload_n 0, 1, []), (49, .getfield 12, 3, [3, 0]), (52, .invokevirtual 209, 3, [0, 5, 1, 1]), (55, .ireturn, 1, [])] := rfl
theorem cb_X3_count_3 : (blk md_X3_count 3).2 = [(56, .aload_n 0, 1, []), (57, .getfield 12, 3, [3, 0]), (60, .invokevirtual 119, 3, [0, 25, 1, 2]), (63, .invokestatic 167, 3, [1, 191, 1, 1]), (66, .ireturn, 1, [])] := rfl
theorem cb_X3_count_4 : (blk md_X3_count 4).2 = [(67, .aload_n 0, 1, []), (68, .getfield 12, 3, [3, 0]), (71, .getfield 94, 3, [0, 6]), (74, .ireturn, 1, [])] := rfl
theorem cb_X3_count_5 : (blk md_X3_count 5).2 = [(75, .aload_n 0, 1, []), (76, .getfield 29, 3, [3, 3]), (79, .getfield 177, 3, [1, 2]), (82, .ireturn, 1, [])] := rfl
theorem cb_X3_count_6 : (blk md_X3_count 6).2 = [(83, .aload_n 0, 1, []), (84, .getfield 41, 3, [3, 6]), (87, .ireturn, 1, [])] := rfl
theorem cb_X3_count_7 : (blk md_X3_count 7).2 = [(88, .aload_n 0, 1, []), (89, .sipush (-1001), 3, []), (92, .invokevirtual 49, 3, [0, 88, 2, 1]), (95, .ireturn, 1, [])] := rfl
def md_X3_refused : List mB := [
  (false, [(0, .iload_n 1, 1, []), (1, .ifCond .lt 8, 3, [2])]),
  (false, [(4, .iload_n 1, 1, []), (5, .iconst 4, 1, []), (6, .if_icmp .lt 11, 3, [3])]),
  (false, [(9, .aload_n 0, 1, []), (10, .sipush (-1001), 3, []), (13, .invokevirtual 49, 3, [0, 88, 2, 1]), (16, .ireturn, 1, [])]),
  (false, [(17, .aload_n 0, 1, []), (18, .getfield 33, 3, [3, 4]), (21, .iload_n 1, 1, []), (22, .iaload, 1, []), (23, .ireturn, 1, [])])]
theorem cb_X3_refused_0 : (blk md_X3_refused 0).2 = [(0, .iload_n 1, 1, []), (1, .ifCond .lt 8, 3, [2])] := rfl
theorem cb_X3_refused_1 : (blk md_X3_refused 1).2 = [(4, .iload_n 1, 1, []), (5, .iconst 4, 1, []), (6, .if_icmp .lt 11, 3, [3])] := rfl
theorem cb_X3_refused_2 : (blk md_X3_refused 2).2 = [(9, .aload_n 0, 1, []), (10, .sipush (-1001), 3, []), (13, .invokevirtual 49, 3, [0, 88, 2, 1]), (16, .ireturn, 1, [])] := rfl
theorem cb_X3_refused_3 : (blk md_X3_refused 3).2 = [(17, .aload_n 0, 1, []), (18, .getfield 33, 3, [3, 4]), (21, .iload_n 1, 1, []), (22, .iaload, 1, []), (23, .ireturn, 1, [])] := rfl
def md_X3_refuse : List mB := [
  (false, [(0, .sipush (-1001), 3, []), (3, .iload_n 1, 1, []), (4, .isub, 1, []), (5, .istore_n 2, 1, []), (6, .iload_n 2, 1, []), (7, .ifCond .lt 18, 3, [3])]),
  (false, [(10, .iload_n 2, 1, []), (11, .iconst 4, 1, []), (12, .if_icmp .ge 13, 3, [3])]),
  (false, [(15, .aload_n 0, 1, []), (16, .getfield 33, 3, [3, 4]), (19, .iload_n 2, 1, []), (20, .dup2, 1, []), (21, .iaload, 1, []), (22, .iconst 1, 1, []), (23, .iadd, 1, []), (24, .iastore, 1, [])]),
  (false, [(25, .iload_n 1, 1, []), (26, .ireturn, 1, [])])]
theorem cb_X3_refuse_0 : (blk md_X3_refuse 0).2 = [(0, .sipush (-1001), 3, []), (3, .iload_n 1, 1, []), (4, .isub, 1, []), (5, .istore_n 2, 1, []), (6, .iload_n 2, 1, []), (7, .ifCond .lt 18, 3, [3])] := rfl
theorem cb_X3_refuse_1 : (blk md_X3_refuse 1).2 = [(10, .iload_n 2, 1, []), (11, .iconst 4, 1, []), (12, .if_icmp .ge 13, 3, [3])] := rfl
theorem cb_X3_refuse_2 : (blk md_X3_refuse 2).2 = [(15, .aload_n 0, 1, []), (16, .getfield 33, 3, [3, 4]), (19, .iload_n 2, 1, []), (20, .dup2, 1, []), (21, .iaload, 1, []), (22, .iconst 1, 1, []), (23, .iadd, 1, []), (24, .iastore, 1, [])] := rfl
theorem cb_X3_refuse_3 : (blk md_X3_refuse 3).2 = [(25, .iload_n 1, 1, []), (26, .ireturn, 1, [])] := rfl
def md_X3_foresee : List mB := [
  (false, [(0, .aload_n 0, 1, []), (1, .iload_n 1, 1, []), (2, .iload_n 2, 1, []), (3, .iload_n 3, 1, []), (4, .iload 4, 2, []), (6, .invokevirtual 212, 3, [0, 91, 5, 1]), (9, .ifCond .ne 11, 3, [2])]),
  (false, [(12, .aload_n 0, 1, []), (13, .sipush (-1001), 3, []), (16, .invokevirtual 49, 3, [0, 88, 2, 1]), (19, .ireturn, 1, [])]),
  (false, [(20, .aload_n 0, 1, []), (21, .getfield 12, 3, [3, 0]), (24, .invokevirtual 116, 3, [0, 24, 1, 2]), (27, .lconst 0, 1, []), (28, .lcmp, 1, []), (29, .ifCond .ne 12, 3, [4])]),
  (false, [(32, .aload_n 0, 1, []), (33, .iload_n 1, 1, []), (34, .iload_n 2, 1, []), (35, .invokevirtual 216, 3, [0, 92, 3, 1]), (38, .ifCond .eq 11, 3, [5])]),
  (false, [(41, .aload_n 0, 1, []), (42, .sipush (-1003), 3, []), (45, .invokevirtual 49, 3, [0, 88, 2, 1]), (48, .ireturn, 1, [])]),
  (false, [(49, .iload_n 1, 1, []), (50, .bipush 7, 2, []), (52, .if_icmp .ne 23, 3, [8])]),
  (false, [(55, .aload_n 0, 1, []), (56, .getfield 12, 3, [3, 0]), (59, .iload_n 3, 1, []), (60, .iload_n 2, 1, []), (61, .invokevirtual 219, 3, [0, 8, 3, 1]), (64, .ifCond .eq 11, 3, [8])]),
  (false, [(67, .aload_n 0, 1, []), (68, .sipush (-1004), 3, []), (71, .invokevirtual 49, 3, [0, 88, 2, 1]), (74, .ireturn, 1, [])]),
  (false, [(75, .aload_n 0, 1, []), (76, .getfield 22, 3, [3, 2]), (79, .iload_n 1, 1, []), (80, .iload_n 2, 1, []), (81, .iload_n 3, 1, []), (82, .iload 4, 2, []), (84, .invokevirtual 222, 3, [0, 34, 5, 0]), (87, .aload_n 0, 1, []), (88, .getfield 22, 3, [3, 2]), (91, .aload_n 0, 1, []), (92, .getfield 12, 3, [3, 0]), (95, .ldc 226, 2, [0, 1000000]), (97, .invokevirtual 160, 3, [0, 39, 3, 0]), (100, .aload_n 0, 1, []), (101, .getfield 22, 3, [3, 2]), (104, .getfield 227, 3, [2, 7]), (107, .sipush (-1002), 3, []), (110, .if_icmp .ne 13, 3, [10])]),
  (false, [(113, .aload_n 0, 1, []), (114, .sipush (-1002), 3, []), (117, .invokevirtual 49, 3, [0, 88, 2, 1]), (120, .goto 10, 3, [11])]),
  (false, [(123, .aload_n 0, 1, []), (124, .getfield 22, 3, [3, 2]), (127, .getfield 230, 3, [2, 6])]),
  (false, [(130, .ireturn, 1, [])])]
theorem cb_X3_foresee_0 : (blk md_X3_foresee 0).2 = [(0, .aload_n 0, 1, []), (1, .iload_n 1, 1, []), (2, .iload_n 2, 1, []), (3, .iload_n 3, 1, []), (4, .iload 4, 2, []), (6, .invokevirtual 212, 3, [0, 91, 5, 1]), (9, .ifCond .ne 11, 3, [2])] := rfl
theorem cb_X3_foresee_1 : (blk md_X3_foresee 1).2 = [(12, .aload_n 0, 1, []), (13, .sipush (-1001), 3, []), (16, .invokevirtual 49, 3, [0, 88, 2, 1]), (19, .ireturn, 1, [])] := rfl
theorem cb_X3_foresee_2 : (blk md_X3_foresee 2).2 = [(20, .aload_n 0, 1, []), (21, .getfield 12, 3, [3, 0]), (24, .invokevirtual 116, 3, [0, 24, 1, 2]), (27, .lconst 0, 1, []), (28, .lcmp, 1, []), (29, .ifCond .ne 12, 3, [4])] := rfl
theorem cb_X3_foresee_3 : (blk md_X3_foresee 3).2 = [(32, .aload_n 0, 1, []), (33, .iload_n 1, 1, []), (34, .iload_n 2, 1, []), (35, .invokevirtual 216, 3, [0, 92, 3, 1]), (38, .ifCond .eq 11, 3, [5])] := rfl
theorem cb_X3_foresee_4 : (blk md_X3_foresee 4).2 = [(41, .aload_n 0, 1, []), (42, .sipush (-1003), 3, []), (45, .invokevirtual 49, 3, [0, 88, 2, 1]), (48, .ireturn, 1, [])] := rfl
theorem cb_X3_foresee_5 : (blk md_X3_foresee 5).2 = [(49, .iload_n 1, 1, []), (50, .bipush 7, 2, []), (52, .if_icmp .ne 23, 3, [8])] := rfl
theorem cb_X3_foresee_6 : (blk md_X3_foresee 6).2 = [(55, .aload_n 0, 1, []), (56, .getfield 12, 3, [3, 0]), (59, .iload_n 3, 1, []), (60, .iload_n 2, 1, []), (61, .invokevirtual 219, 3, [0, 8, 3, 1]), (64, .ifCond .eq 11, 3, [8])] := rfl
theorem cb_X3_foresee_7 : (blk md_X3_foresee 7).2 = [(67, .aload_n 0, 1, []), (68, .sipush (-1004), 3, []), (71, .invokevirtual 49, 3, [0, 88, 2, 1]), (74, .ireturn, 1, [])] := rfl
theorem cb_X3_foresee_8 : (blk md_X3_foresee 8).2 = [(75, .aload_n 0, 1, []), (76, .getfield 22, 3, [3, 2]), (79, .iload_n 1, 1, []), (80, .iload_n 2, 1, []), (81, .iload_n 3, 1, []), (82, .iload 4, 2, []), (84, .invokevirtual 222, 3, [0, 34, 5, 0]), (87, .aload_n 0, 1, []), (88, .getfield 22, 3, [3, 2]), (91, .aload_n 0, 1, []), (92, .getfield 12, 3, [3, 0]), (95, .ldc 226, 2, [0, 1000000]), (97, .invokevirtual 160, 3, [0, 39, 3, 0]), (100, .aload_n 0, 1, []), (101, .getfield 22, 3, [3, 2]), (104, .getfield 227, 3, [2, 7]), (107, .sipush (-1002), 3, []), (110, .if_icmp .ne 13, 3, [10])] := rfl
theorem cb_X3_foresee_9 : (blk md_X3_foresee 9).2 = [(113, .aload_n 0, 1, []), (114, .sipush (-1002), 3, []), (117, .invokevirtual 49, 3, [0, 88, 2, 1]), (120, .goto 10, 3, [11])] := rfl
theorem cb_X3_foresee_10 : (blk md_X3_foresee 10).2 = [(123, .aload_n 0, 1, []), (124, .getfield 22, 3, [3, 2]), (127, .getfield 230, 3, [2, 6])] := rfl
theorem cb_X3_foresee_11 : (blk md_X3_foresee 11).2 = [(130, .ireturn, 1, [])] := rfl
def md_X3_settle : List mB := [
  (false, [(0, .iload_n 1, 1, []), (1, .ifCond .ge 5, 3, [2])]),
  (false, [(4, .iload_n 1, 1, []), (5, .ireturn, 1, [])]),
  (false, [(6, .aload_n 0, 1, []), (7, .getfield 12, 3, [3, 0]), (10, .getfield 94, 3, [0, 6]), (13, .iconst (-1), 1, []), (14, .if_icmp .eq 21, 3, [4])]),
  (false, [(17, .aload_n 0, 1, []), (18, .getfield 22, 3, [3, 2]), (21, .aload_n 0, 1, []), (22, .getfield 12, 3, [3, 0]), (25, .aload_n 0, 1, []), (26, .getfield 12, 3, [3, 0]), (29, .getfield 94, 3, [0, 6]), (32, .invokevirtual 160, 3, [0, 39, 3, 0])]),
  (false, [(35, .aload_n 0, 1, []), (36, .getfield 12, 3, [3, 0]), (39, .aload_n 0, 1, []), (40, .getfield 22, 3, [3, 2]), (43, .getfield 164, 3, [2, 0]), (46, .invokevirtual 205, 3, [0, 0, 2, 0]), (49, .aload_n 0, 1, []), (50, .getfield 12, 3, [3, 0]), (53, .iconst (-1), 1, []), (54, .putfield 94, 3, [0, 6]), (57, .aload_n 0, 1, []), (58, .dup, 1, []), (59, .getfield 41, 3, [3, 6]), (62, .aload_n 0, 1, []), (63, .getfield 22, 3, [3, 2]), (66, .getfield 230, 3, [2, 6]), (69, .iadd, 1, []), (70, .putfield 41, 3, [3, 6]), (73, .aload_n 0, 1, []), (74, .getfield 22, 3, [3, 2]), (77, .getfield 227, 3, [2, 7]), (80, .sipush (-1005), 3, []), (83, .if_icmp .ne 9, 3, [6])]),
  (false, [(86, .sipush (-1005), 3, []), (89, .goto 10, 3, [7])]),
  (false, [(92, .aload_n 0, 1, []), (93, .getfield 22, 3, [3, 2]), (96, .getfield 230, 3, [2, 6])]),
  (false, [(99, .ireturn, 1, [])])]
theorem cb_X3_settle_0 : (blk md_X3_settle 0).2 = [(0, .iload_n 1, 1, []), (1, .ifCond .ge 5, 3, [2])] := rfl
theorem cb_X3_settle_1 : (blk md_X3_settle 1).2 = [(4, .iload_n 1, 1, []), (5, .ireturn, 1, [])] := rfl
theorem cb_X3_settle_2 : (blk md_X3_settle 2).2 = [(6, .aload_n 0, 1, []), (7, .getfield 12, 3, [3, 0]), (10, .getfield 94, 3, [0, 6]), (13, .iconst (-1), 1, []), (14, .if_icmp .eq 21, 3, [4])] := rfl
theorem cb_X3_settle_3 : (blk md_X3_settle 3).2 = [(17, .aload_n 0, 1, []), (18, .getfield 22, 3, [3, 2]), (21, .aload_n 0, 1, []), (22, .getfield 12, 3, [3, 0]), (25, .aload_n 0, 1, []), (26, .getfield 12, 3, [3, 0]), (29, .getfield 94, 3, [0, 6]), (32, .invokevirtual 160, 3, [0, 39, 3, 0])] := rfl
theorem cb_X3_settle_4 : (blk md_X3_settle 4).2 = [(35, .aload_n 0, 1, []), (36, .getfield 12, 3, [3, 0]), (39, .aload_n 0, 1, []), (40, .getfield 22, 3, [3, 2]), (43, .getfield 164, 3, [2, 0]), (46, .invokevirtual 205, 3, [0, 0, 2, 0]), (49, .aload_n 0, 1, []), (50, .getfield 12, 3, [3, 0]), (53, .iconst (-1), 1, []), (54, .putfield 94, 3, [0, 6]), (57, .aload_n 0, 1, []), (58, .dup, 1, []), (59, .getfield 41, 3, [3, 6]), (62, .aload_n 0, 1, []), (63, .getfield 22, 3, [3, 2]), (66, .getfield 230, 3, [2, 6]), (69, .iadd, 1, []), (70, .putfield 41, 3, [3, 6]), (73, .aload_n 0, 1, []), (74, .getfield 22, 3, [3, 2]), (77, .getfield 227, 3, [2, 7]), (80, .sipush (-1005), 3, []), (83, .if_icmp .ne 9, 3, [6])] := rfl
theorem cb_X3_settle_5 : (blk md_X3_settle 5).2 = [(86, .sipush (-1005), 3, []), (89, .goto 10, 3, [7])] := rfl
theorem cb_X3_settle_6 : (blk md_X3_settle 6).2 = [(92, .aload_n 0, 1, []), (93, .getfield 22, 3, [3, 2]), (96, .getfield 230, 3, [2, 6])] := rfl
theorem cb_X3_settle_7 : (blk md_X3_settle 7).2 = [(99, .ireturn, 1, [])] := rfl
def md_X3_fits : List mB := [
  (false, [(0, .iload_n 1, 1, []), (1, .tableswitch 168 0 7 #[47, 84, 93, 93, 102, 84, 168, 129], 47, [23, 1, 8, 9, 9, 10, 8, 23, 16])]),
  (false, [(48, .aload_n 0, 1, []), (49, .getfield 12, 3, [3, 0]), (52, .iload_n 2, 1, []), (53, .invokevirtual 59, 3, [0, 1, 2, 1]), (56, .ifCond .eq 27, 3, [6])]),
  (false, [(59, .iload_n 3, 1, []), (60, .invokestatic 74, 3, [1, 96, 1, 1]), (63, .ifCond .eq 20, 3, [6])]),
  (false, [(66, .iload 4, 2, []), (68, .ifCond .lt 15, 3, [6])]),
  (false, [(71, .iload 4, 2, []), (73, .sipush 255, 3, []), (76, .if_icmp .gt 7, 3, [6])]),
  (false, [(79, .iconst 1, 1, []), (80, .goto 4, 3, [7])]),
  (false, [(83, .iconst 0, 1, [])]),
  (false, [(84, .ireturn, 1, [1])]),
  (false, [(85, .aload_n 0, 1, []), (86, .getfield 12, 3, [3, 0]), (89, .iload_n 2, 1, []), (90, .invokevirtual 59, 3, [0, 1, 2, 1]), (93, .ireturn, 1, [1])]),
  (false, [(94, .aload_n 0, 1, []), (95, .getfield 12, 3, [3, 0]), (98, .iload_n 2, 1, []), (99, .invokevirtual 81, 3, [0, 3, 2, 1]), (102, .ireturn, 1, [1])]),
  (false, [(103, .aload_n 0, 1, []), (104, .getfield 12, 3, [3, 0]), (107, .iload_n 2, 1, []), (108, .invokevirtual 59, 3, [0, 1, 2, 1]), (111, .ifCond .eq 17, 3, [14])]),
  (false, [(114, .iload_n 3, 1, []), (115, .ifCond .lt 13, 3, [14])]),
  (false, [(118, .iload_n 3, 1, []), (119, .bipush 16, 2, []), (121, .if_icmp .ge 7, 3, [14])]),
  (false, [(124, .iconst 1, 1, []), (125, .goto 4, 3, [15])]),
  (false, [(128, .iconst 0, 1, [])]),
  (false, [(129, .ireturn, 1, [1])]),
  (false, [(130, .aload_n 0, 1, []), (131, .getfield 12, 3, [3, 0]), (134, .iload_n 2, 1, []), (135, .invokevirtual 59, 3, [0, 1, 2, 1]), (138, .ifCond .eq 29, 3, [21])]),
  (false, [(141, .aload_n 0, 1, []), (142, .getfield 12, 3, [3, 0]), (145, .iload_n 3, 1, []), (146, .invokevirtual 45, 3, [0, 2, 2, 1]), (149, .ifCond .eq 18, 3, [21])]),
  (false, [(152, .iload 4, 2, []), (154, .ifCond .eq 9, 3, [20])]),
  (false, [(157, .iload 4, 2, []), (159, .iconst 1, 1, []), (160, .if_icmp .ne 7, 3, [21])]),
  (false, [(163, .iconst 1, 1, []), (164, .goto 4, 3, [22])]),
  (false, [(167, .iconst 0, 1, [])]),
  (false, [(168, .ireturn, 1, [1])]),
  (false, [(169, .iconst 1, 1, []), (170, .ireturn, 1, [1])])]
theorem cb_X3_fits_0 : (blk md_X3_fits 0).2 = [(0, .iload_n 1, 1, []), (1, .tableswitch 168 0 7 #[47, 84, 93, 93, 102, 84, 168, 129], 47, [23, 1, 8, 9, 9, 10, 8, 23, 16])] := rfl
theorem cb_X3_fits_1 : (blk md_X3_fits 1).2 = [(48, .aload_n 0, 1, []), (49, .getfield 12, 3, [3, 0]), (52, .iload_n 2, 1, []), (53, .invokevirtual 59, 3, [0, 1, 2, 1]), (56, .ifCond .eq 27, 3, [6])] := rfl
theorem cb_X3_fits_2 : (blk md_X3_fits 2).2 = [(59, .iload_n 3, 1, []), (60, .invokestatic 74, 3, [1, 96, 1, 1]), (63, .ifCond .eq 20, 3, [6])] := rfl
theorem cb_X3_fits_3 : (blk md_X3_fits 3).2 = [(66, .iload 4, 2, []), (68, .ifCond .lt 15, 3, [6])] := rfl
theorem cb_X3_fits_4 : (blk md_X3_fits 4).2 = [(71, .iload 4, 2, []), (73, .sipush 255, 3, []), (76, .if_icmp .gt 7, 3, [6])] := rfl
theorem cb_X3_fits_5 : (blk md_X3_fits 5).2 = [(79, .iconst 1, 1, []), (80, .goto 4, 3, [7])] := rfl
theorem cb_X3_fits_6 : (blk md_X3_fits 6).2 = [(83, .iconst 0, 1, [])] := rfl
theorem cb_X3_fits_7 : (blk md_X3_fits 7).2 = [(84, .ireturn, 1, [1])] := rfl
theorem cb_X3_fits_8 : (blk md_X3_fits 8).2 = [(85, .aload_n 0, 1, []), (86, .getfield 12, 3, [3, 0]), (89, .iload_n 2, 1, []), (90, .invokevirtual 59, 3, [0, 1, 2, 1]), (93, .ireturn, 1, [1])] := rfl
theorem cb_X3_fits_9 : (blk md_X3_fits 9).2 = [(94, .aload_n 0, 1, []), (95, .getfield 12, 3, [3, 0]), (98, .iload_n 2, 1, []), (99, .invokevirtual 81, 3, [0, 3, 2, 1]), (102, .ireturn, 1, [1])] := rfl
theorem cb_X3_fits_10 : (blk md_X3_fits 10).2 = [(103, .aload_n 0, 1, []), (104, .getfield 12, 3, [3, 0]), (107, .iload_n 2, 1, []), (108, .invokevirtual 59, 3, [0, 1, 2, 1]), (111, .ifCond .eq 17, 3, [14])] := rfl
theorem cb_X3_fits_11 : (blk md_X3_fits 11).2 = [(114, .iload_n 3, 1, []), (115, .ifCond .lt 13, 3, [14])] := rfl
theorem cb_X3_fits_12 : (blk md_X3_fits 12).2 = [(118, .iload_n 3, 1, []), (119, .bipush 16, 2, []), (121, .if_icmp .ge 7, 3, [14])] := rfl
theorem cb_X3_fits_13 : (blk md_X3_fits 13).2 = [(124, .iconst 1, 1, []), (125, .goto 4, 3, [15])] := rfl
theorem cb_X3_fits_14 : (blk md_X3_fits 14).2 = [(128, .iconst 0, 1, [])] := rfl
theorem cb_X3_fits_15 : (blk md_X3_fits 15).2 = [(129, .ireturn, 1, [1])] := rfl
theorem cb_X3_fits_16 : (blk md_X3_fits 16).2 = [(130, .aload_n 0, 1, []), (131, .getfield 12, 3, [3, 0]), (134, .iload_n 2, 1, []), (135, .invokevirtual 59, 3, [0, 1, 2, 1]), (138, .ifCond .eq 29, 3, [21])] := rfl
theorem cb_X3_fits_17 : (blk md_X3_fits 17).2 = [(141, .aload_n 0, 1, []), (142, .getfield 12, 3, [3, 0]), (145, .iload_n 3, 1, []), (146, .invokevirtual 45, 3, [0, 2, 2, 1]), (149, .ifCond .eq 18, 3, [21])] := rfl
theorem cb_X3_fits_18 : (blk md_X3_fits 18).2 = [(152, .iload 4, 2, []), (154, .ifCond .eq 9, 3, [20])] := rfl
theorem cb_X3_fits_19 : (blk md_X3_fits 19).2 = [(157, .iload 4, 2, []), (159, .iconst 1, 1, []), (160, .if_icmp .ne 7, 3, [21])] := rfl
theorem cb_X3_fits_20 : (blk md_X3_fits 20).2 = [(163, .iconst 1, 1, []), (164, .goto 4, 3, [22])] := rfl
theorem cb_X3_fits_21 : (blk md_X3_fits 21).2 = [(167, .iconst 0, 1, [])] := rfl
theorem cb_X3_fits_22 : (blk md_X3_fits 22).2 = [(168, .ireturn, 1, [1])] := rfl
theorem cb_X3_fits_23 : (blk md_X3_fits 23).2 = [(169, .iconst 1, 1, []), (170, .ireturn, 1, [1])] := rfl
def md_X3_isHindered : List mB := [
  (false, [(0, .iload_n 1, 1, []), (1, .iconst 1, 1, []), (2, .if_icmp .ne 20, 3, [5])]),
  (false, [(5, .aload_n 0, 1, []), (6, .getfield 12, 3, [3, 0]), (9, .invokevirtual 233, 3, [0, 6, 1, 1]), (12, .iconst (-1), 1, []), (13, .if_icmp .ne 7, 3, [3])]),
  (false, [(16, .iconst 1, 1, []), (17, .goto 4, 3, [4])]),
  (false, [(20, .iconst 0, 1, [])]),
  (false, [(21, .ireturn, 1, [1])]),
  (false, [(22, .iload_n 1, 1, []), (23, .iconst 5, 1, []), (24, .if_icmp .ne 31, 3, [9])]),
  (false, [(27, .aload_n 0, 1, []), (28, .getfield 12, 3, [3, 0]), (31, .iload_n 2, 1, []), (32, .invokevirtual 59, 3, [0, 1, 2, 1]), (35, .ifCond .eq 20, 3, [9])]),
  (false, [(38, .aload_n 0, 1, []), (39, .getfield 12, 3, [3, 0]), (42, .getfield 62, 3, [0, 3]), (45, .iload_n 2, 1, []), (46, .iaload, 1, []), (47, .iconst (-1), 1, []), (48, .if_icmp .ne 7, 3, [9])]),
  (false, [(51, .iconst 1, 1, []), (52, .goto 4, 3, [10])]),
  (false, [(55, .iconst 0, 1, [])]),
  (false, [(56, .ireturn, 1, [1])])]
theorem cb_X3_isHindered_0 : (blk md_X3_isHindered 0).2 = [(0, .iload_n 1, 1, []), (1, .iconst 1, 1, []), (2, .if_icmp .ne 20, 3, [5])] := rfl
theorem cb_X3_isHindered_1 : (blk md_X3_isHindered 1).2 = [(5, .aload_n 0, 1, []), (6, .getfield 12, 3, [3, 0]), (9, .invokevirtual 233, 3, [0, 6, 1, 1]), (12, .iconst (-1), 1, []), (13, .if_icmp .ne 7, 3, [3])] := rfl
theorem cb_X3_isHindered_2 : (blk md_X3_isHindered 2).2 = [(16, .iconst 1, 1, []), (17, .goto 4, 3, [4])] := rfl
theorem cb_X3_isHindered_3 : (blk md_X3_isHindered 3).2 = [(20, .iconst 0, 1, [])] := rfl
theorem cb_X3_isHindered_4 : (blk md_X3_isHindered 4).2 = [(21, .ireturn, 1, [1])] := rfl
theorem cb_X3_isHindered_5 : (blk md_X3_isHindered 5).2 = [(22, .iload_n 1, 1, []), (23, .iconst 5, 1, []), (24, .if_icmp .ne 31, 3, [9])] := rfl
theorem cb_X3_isHindered_6 : (blk md_X3_isHindered 6).2 = [(27, .aload_n 0, 1, []), (28, .getfield 12, 3, [3, 0]), (31, .iload_n 2, 1, []), (32, .invokevirtual 59, 3, [0, 1, 2, 1]), (35, .ifCond .eq 20, 3, [9])] := rfl
theorem cb_X3_isHindered_7 : (blk md_X3_isHindered 7).2 = [(38, .aload_n 0, 1, []), (39, .getfield 12, 3, [3, 0]), (42, .getfield 62, 3, [0, 3]), (45, .iload_n 2, 1, []), (46, .iaload, 1, []), (47, .iconst (-1), 1, []), (48, .if_icmp .ne 7, 3, [9])] := rfl
theorem cb_X3_isHindered_8 : (blk md_X3_isHindered 8).2 = [(51, .iconst 1, 1, []), (52, .goto 4, 3, [10])] := rfl
theorem cb_X3_isHindered_9 : (blk md_X3_isHindered 9).2 = [(55, .iconst 0, 1, [])] := rfl
theorem cb_X3_isHindered_10 : (blk md_X3_isHindered 10).2 = [(56, .ireturn, 1, [1])] := rfl
def md_X3_rewritingCost : List mB := [
  (false, [(0, .aload_n 0, 1, []), (1, .getfield 12, 3, [3, 0]), (4, .invokevirtual 116, 3, [0, 24, 1, 2]), (7, .lconst 0, 1, []), (8, .lcmp, 1, []), (9, .ifCond .ne 20, 3, [2])]),
  (false, [(12, .aload_n 0, 1, []), (13, .getfield 22, 3, [3, 2]), (16, .aload_n 0, 1, []), (17, .getfield 12, 3, [3, 0]), (20, .iload_n 1, 1, []), (21, .invokevirtual 173, 3, [0, 43, 3, 1]), (24, .bipush 64, 2, []), (26, .if_icmp .ge 5, 3, [3])]),
  (false, [(29, .iconst (-1), 1, []), (30, .ireturn, 1, [])]),
  (false, [(31, .aload_n 0, 1, []), (32, .getfield 22, 3, [3, 2]), (35, .getfield 230, 3, [2, 6]), (38, .ireturn, 1, [])])]
theorem cb_X3_rewritingCost_0 : (blk md_X3_rewritingCost 0).2 = [(0, .aload_n 0, 1, []), (1, .getfield 12, 3, [3, 0]), (4, .invokevirtual 116, 3, [0, 24, 1, 2]), (7, .lconst 0, 1, []), (8, .lcmp, 1, []), (9, .ifCond .ne 20, 3, [2])] := rfl
theorem cb_X3_rewritingCost_1 : (blk md_X3_rewritingCost 1).2 = [(12, .aload_n 0, 1, []), (13, .getfield 22, 3, [3, 2]), (16, .aload_n 0, 1, []), (17, .getfield 12, 3, [3, 0]), (20, .iload_n 1, 1, []), (21, .invokevirtual 173, 3, [0, 43, 3, 1]), (24, .bipush 64, 2, []), (26, .if_icmp .ge 5, 3, [3])] := rfl
theorem cb_X3_rewritingCost_2 : (blk md_X3_rewritingCost 2).2 = [(29, .iconst (-1), 1, []), (30, .ireturn, 1, [])] := rfl
theorem cb_X3_rewritingCost_3 : (blk md_X3_rewritingCost 3).2 = [(31, .aload_n 0, 1, []), (32, .getfield 22, 3, [3, 2]), (35, .getfield 230, 3, [2, 6]), (38, .ireturn, 1, [])] := rfl
def md_X3_freedByDrop : List mB := [
  (false, [(0, .aload_n 0, 1, []), (1, .getfield 22, 3, [3, 2]), (4, .iconst 2, 1, []), (5, .iload_n 1, 1, []), (6, .iconst 0, 1, []), (7, .iconst 0, 1, []), (8, .invokevirtual 222, 3, [0, 34, 5, 0]), (11, .aload_n 0, 1, []), (12, .getfield 22, 3, [3, 2]), (15, .aload_n 0, 1, []), (16, .getfield 12, 3, [3, 0]), (19, .ldc 226, 2, [0, 1000000]), (21, .invokevirtual 160, 3, [0, 39, 3, 0]), (24, .aload_n 0, 1, []), (25, .getfield 22, 3, [3, 2]), (28, .getfield 164, 3, [2, 0]), (31, .invokevirtual 119, 3, [0, 25, 1, 2]), (34, .aload_n 0, 1, []), (35, .getfield 12, 3, [3, 0]), (38, .invokevirtual 119, 3, [0, 25, 1, 2]), (41, .ldc2_w 136, 3, [18446744073709551615]), (44, .lxor, 1, []), (45, .land, 1, []), (46, .invokestatic 167, 3, [1, 191, 1, 1]), (49, .ireturn, 1, [])])]
theorem cb_X3_freedByDrop_0 : (blk md_X3_freedByDrop 0).2 = [(0, .aload_n 0, 1, []), (1, .getfield 22, 3, [3, 2]), (4, .iconst 2, 1, []), (5, .iload_n 1, 1, []), (6, .iconst 0, 1, []), (7, .iconst 0, 1, []), (8, .invokevirtual 222, 3, [0, 34, 5, 0]), (11, .aload_n 0, 1, []), (12, .getfield 22, 3, [3, 2]), (15, .aload_n 0, 1, []), (16, .getfield 12, 3, [3, 0]), (19, .ldc 226, 2, [0, 1000000]), (21, .invokevirtual 160, 3, [0, 39, 3, 0]), (24, .aload_n 0, 1, []), (25, .getfield 22, 3, [3, 2]), (28, .getfield 164, 3, [2, 0]), (31, .invokevirtual 119, 3, [0, 25, 1, 2]), (34, .aload_n 0, 1, []), (35, .getfield 12, 3, [3, 0]), (38, .invokevirtual 119, 3, [0, 25, 1, 2]), (41, .ldc2_w 136, 3, [18446744073709551615]), (44, .lxor, 1, []), (45, .land, 1, []), (46, .invokestatic 167, 3, [1, 191, 1, 1]), (49, .ireturn, 1, [])] := rfl
def md_X3_isTornBehind : List mB := [
  (false, [(0, .iload_n 0, 1, []), (1, .ifCond .lt 13, 3, [3])]),
  (false, [(4, .iload_n 0, 1, []), (5, .bipush 99, 2, []), (7, .if_icmp .gt 7, 3, [3])]),
  (false, [(10, .iconst 1, 1, []), (11, .goto 4, 3, [4])]),
  (false, [(14, .iconst 0, 1, [])]),
  (false, [(15, .ireturn, 1, [1])])]
theorem cb_X3_isTornBehind_0 : (blk md_X3_isTornBehind 0).2 = [(0, .iload_n 0, 1, []), (1, .ifCond .lt 13, 3, [3])] := rfl
theorem cb_X3_isTornBehind_1 : (blk md_X3_isTornBehind 1).2 = [(4, .iload_n 0, 1, []), (5, .bipush 99, 2, []), (7, .if_icmp .gt 7, 3, [3])] := rfl
theorem cb_X3_isTornBehind_2 : (blk md_X3_isTornBehind 2).2 = [(10, .iconst 1, 1, []), (11, .goto 4, 3, [4])] := rfl
theorem cb_X3_isTornBehind_3 : (blk md_X3_isTornBehind 3).2 = [(14, .iconst 0, 1, [])] := rfl
theorem cb_X3_isTornBehind_4 : (blk md_X3_isTornBehind 4).2 = [(15, .ireturn, 1, [1])] := rfl
def md_X3_isPlace : List mB := [
  (false, [(0, .iload_n 0, 1, []), (1, .ifCond .lt 13, 3, [3])]),
  (false, [(4, .iload_n 0, 1, []), (5, .bipush 64, 2, []), (7, .if_icmp .ge 7, 3, [3])]),
  (false, [(10, .iconst 1, 1, []), (11, .goto 4, 3, [4])]),
  (false, [(14, .iconst 0, 1, [])]),
  (false, [(15, .ireturn, 1, [1])])]
theorem cb_X3_isPlace_0 : (blk md_X3_isPlace 0).2 = [(0, .iload_n 0, 1, []), (1, .ifCond .lt 13, 3, [3])] := rfl
theorem cb_X3_isPlace_1 : (blk md_X3_isPlace 1).2 = [(4, .iload_n 0, 1, []), (5, .bipush 64, 2, []), (7, .if_icmp .ge 7, 3, [3])] := rfl
theorem cb_X3_isPlace_2 : (blk md_X3_isPlace 2).2 = [(10, .iconst 1, 1, []), (11, .goto 4, 3, [4])] := rfl
theorem cb_X3_isPlace_3 : (blk md_X3_isPlace 3).2 = [(14, .iconst 0, 1, [])] := rfl
theorem cb_X3_isPlace_4 : (blk md_X3_isPlace 4).2 = [(15, .ireturn, 1, [1])] := rfl
def md_X3_isCluster : List mB := [
  (false, [(0, .iload_n 0, 1, []), (1, .ifCond .le 13, 3, [3])]),
  (false, [(4, .iload_n 0, 1, []), (5, .bipush 64, 2, []), (7, .if_icmp .ge 7, 3, [3])]),
  (false, [(10, .iconst 1, 1, []), (11, .goto 4, 3, [4])]),
  (false, [(14, .iconst 0, 1, [])]),
  (false, [(15, .ireturn, 1, [1])])]
theorem cb_X3_isCluster_0 : (blk md_X3_isCluster 0).2 = [(0, .iload_n 0, 1, []), (1, .ifCond .le 13, 3, [3])] := rfl
theorem cb_X3_isCluster_1 : (blk md_X3_isCluster 1).2 = [(4, .iload_n 0, 1, []), (5, .bipush 64, 2, []), (7, .if_icmp .ge 7, 3, [3])] := rfl
theorem cb_X3_isCluster_2 : (blk md_X3_isCluster 2).2 = [(10, .iconst 1, 1, []), (11, .goto 4, 3, [4])] := rfl
theorem cb_X3_isCluster_3 : (blk md_X3_isCluster 3).2 = [(14, .iconst 0, 1, [])] := rfl
theorem cb_X3_isCluster_4 : (blk md_X3_isCluster 4).2 = [(15, .ireturn, 1, [1])] := rfl
def md_X3_isIn : List mB := [
  (false, [(0, .lload_n 0, 1, []), (1, .iload_n 2, 1, []), (2, .lushr, 1, []), (3, .lconst 1, 1, []), (4, .land, 1, []), (5, .lconst 0, 1, []), (6, .lcmp, 1, []), (7, .ifCond .eq 7, 3, [2])]),
  (false, [(10, .iconst 1, 1, []), (11, .goto 4, 3, [3])]),
  (false, [(14, .iconst 0, 1, [])]),
  (false, [(15, .ireturn, 1, [1])])]
theorem cb_X3_isIn_0 : (blk md_X3_isIn 0).2 = [(0, .lload_n 0, 1, []), (1, .iload_n 2, 1, []), (2, .lushr, 1, []), (3, .lconst 1, 1, []), (4, .land, 1, []), (5, .lconst 0, 1, []), (6, .lcmp, 1, []), (7, .ifCond .eq 7, 3, [2])] := rfl
theorem cb_X3_isIn_1 : (blk md_X3_isIn 1).2 = [(10, .iconst 1, 1, []), (11, .goto 4, 3, [3])] := rfl
theorem cb_X3_isIn_2 : (blk md_X3_isIn 2).2 = [(14, .iconst 0, 1, [])] := rfl
theorem cb_X3_isIn_3 : (blk md_X3_isIn 3).2 = [(15, .ireturn, 1, [1])] := rfl
def md_X3_holderOf : List mB := [
  (false, [(0, .iload_n 0, 1, []), (1, .ifCond .lt 11, 3, [3])]),
  (false, [(4, .iload_n 0, 1, []), (5, .bipush 6, 2, []), (7, .if_icmp .ge 5, 3, [3])]),
  (false, [(10, .iload_n 0, 1, []), (11, .ireturn, 1, [])]),
  (false, [(12, .iload_n 0, 1, []), (13, .bipush 10, 2, []), (15, .if_icmp .lt 17, 3, [6])]),
  (false, [(18, .iload_n 0, 1, []), (19, .bipush 18, 2, []), (21, .if_icmp .ge 11, 3, [6])]),
  (false, [(24, .iload_n 0, 1, []), (25, .bipush 10, 2, []), (27, .isub, 1, []), (28, .bipush 6, 2, []), (30, .iadd, 1, []), (31, .ireturn, 1, [])]),
  (false, [(32, .iconst (-1), 1, []), (33, .ireturn, 1, [])])]
theorem cb_X3_holderOf_0 : (blk md_X3_holderOf 0).2 = [(0, .iload_n 0, 1, []), (1, .ifCond .lt 11, 3, [3])] := rfl
theorem cb_X3_holderOf_1 : (blk md_X3_holderOf 1).2 = [(4, .iload_n 0, 1, []), (5, .bipush 6, 2, []), (7, .if_icmp .ge 5, 3, [3])] := rfl
theorem cb_X3_holderOf_2 : (blk md_X3_holderOf 2).2 = [(10, .iload_n 0, 1, []), (11, .ireturn, 1, [])] := rfl
theorem cb_X3_holderOf_3 : (blk md_X3_holderOf 3).2 = [(12, .iload_n 0, 1, []), (13, .bipush 10, 2, []), (15, .if_icmp .lt 17, 3, [6])] := rfl
theorem cb_X3_holderOf_4 : (blk md_X3_holderOf 4).2 = [(18, .iload_n 0, 1, []), (19, .bipush 18, 2, []), (21, .if_icmp .ge 11, 3, [6])] := rfl
theorem cb_X3_holderOf_5 : (blk md_X3_holderOf 5).2 = [(24, .iload_n 0, 1, []), (25, .bipush 10, 2, []), (27, .isub, 1, []), (28, .bipush 6, 2, []), (30, .iadd, 1, []), (31, .ireturn, 1, [])] := rfl
theorem cb_X3_holderOf_6 : (blk md_X3_holderOf 6).2 = [(32, .iconst (-1), 1, []), (33, .ireturn, 1, [])] := rfl
def md_X4_in : List mB := [
  (false, [(0, .iload_n 0, 1, []), (1, .iload_n 1, 1, []), (2, .if_icmp .lt 12, 3, [3])]),
  (false, [(5, .iload_n 0, 1, []), (6, .iload_n 2, 1, []), (7, .if_icmp .gt 7, 3, [3])]),
  (false, [(10, .iconst 1, 1, []), (11, .goto 4, 3, [4])]),
  (false, [(14, .iconst 0, 1, [])]),
  (false, [(15, .ireturn, 1, [1])])]
theorem cb_X4_in_0 : (blk md_X4_in 0).2 = [(0, .iload_n 0, 1, []), (1, .iload_n 1, 1, []), (2, .if_icmp .lt 12, 3, [3])] := rfl
theorem cb_X4_in_1 : (blk md_X4_in 1).2 = [(5, .iload_n 0, 1, []), (6, .iload_n 2, 1, []), (7, .if_icmp .gt 7, 3, [3])] := rfl
theorem cb_X4_in_2 : (blk md_X4_in 2).2 = [(10, .iconst 1, 1, []), (11, .goto 4, 3, [4])] := rfl
theorem cb_X4_in_3 : (blk md_X4_in 3).2 = [(14, .iconst 0, 1, [])] := rfl
theorem cb_X4_in_4 : (blk md_X4_in 4).2 = [(15, .ireturn, 1, [1])] := rfl
def md_X4_refuse : List mB := [
  (false, [(0, .aload_n 0, 1, []), (1, .getfield 19, 3, [4, 4]), (4, .sipush (-1001), 3, []), (7, .iload_n 1, 1, []), (8, .isub, 1, []), (9, .dup2, 1, []), (10, .iaload, 1, []), (11, .iconst 1, 1, []), (12, .iadd, 1, []), (13, .iastore, 1, []), (14, .iload_n 1, 1, []), (15, .ireturn, 1, [])])]
theorem cb_X4_refuse_0 : (blk md_X4_refuse 0).2 = [(0, .aload_n 0, 1, []), (1, .getfield 19, 3, [4, 4]), (4, .sipush (-1001), 3, []), (7, .iload_n 1, 1, []), (8, .isub, 1, []), (9, .dup2, 1, []), (10, .iaload, 1, []), (11, .iconst 1, 1, []), (12, .iadd, 1, []), (13, .iastore, 1, []), (14, .iload_n 1, 1, []), (15, .ireturn, 1, [])] := rfl
def md_X4_copies : List mB := [
  (false, [(0, .iconst 0, 1, []), (1, .istore_n 2, 1, [])]),
  (false, [(2, .iload_n 2, 1, []), (3, .sipush 400, 3, []), (6, .if_icmp .ge 15, 3, [3])]),
  (false, [(9, .aload_n 1, 1, []), (10, .iload_n 2, 1, []), (11, .aload_n 0, 1, []), (12, .iload_n 2, 1, []), (13, .iaload, 1, []), (14, .iastore, 1, []), (15, .iinc 2 1, 3, []), (18, .goto (-16), 3, [1])]),
  (false, [(21, .return_, 1, [])])]
theorem cb_X4_copies_0 : (blk md_X4_copies 0).2 = [(0, .iconst 0, 1, []), (1, .istore_n 2, 1, [])] := rfl
theorem cb_X4_copies_1 : (blk md_X4_copies 1).2 = [(2, .iload_n 2, 1, []), (3, .sipush 400, 3, []), (6, .if_icmp .ge 15, 3, [3])] := rfl
theorem cb_X4_copies_2 : (blk md_X4_copies 2).2 = [(9, .aload_n 1, 1, []), (10, .iload_n 2, 1, []), (11, .aload_n 0, 1, []), (12, .iload_n 2, 1, []), (13, .iaload, 1, []), (14, .iastore, 1, []), (15, .iinc 2 1, 3, []), (18, .goto (-16), 3, [1])] := rfl
theorem cb_X4_copies_3 : (blk md_X4_copies 3).2 = [(21, .return_, 1, [])] := rfl
def md_X4_isLayer : List mB := [
  (false, [(0, .iload_n 1, 1, []), (1, .iconst 0, 1, []), (2, .aload_n 0, 1, []), (3, .getfield 7, 3, [4, 0]), (6, .sipush 320, 3, []), (9, .iaload, 1, []), (10, .iconst 1, 1, []), (11, .isub, 1, []), (12, .invokestatic 37, 3, [1, 100, 3, 1]), (15, .ireturn, 1, [1])])]
theorem cb_X4_isLayer_0 : (blk md_X4_isLayer 0).2 = [(0, .iload_n 1, 1, []), (1, .iconst 0, 1, []), (2, .aload_n 0, 1, []), (3, .getfield 7, 3, [4, 0]), (6, .sipush 320, 3, []), (9, .iaload, 1, []), (10, .iconst 1, 1, []), (11, .isub, 1, []), (12, .invokestatic 37, 3, [1, 100, 3, 1]), (15, .ireturn, 1, [1])] := rfl
def md_X4_isSnap : List mB := [
  (false, [(0, .iload_n 1, 1, []), (1, .iconst 0, 1, []), (2, .bipush 7, 2, []), (4, .invokestatic 37, 3, [1, 100, 3, 1]), (7, .ifCond .eq 21, 3, [3])]),
  (false, [(10, .aload_n 0, 1, []), (11, .getfield 7, 3, [4, 0]), (14, .sipush 383, 3, []), (17, .iload_n 1, 1, []), (18, .iadd, 1, []), (19, .iaload, 1, []), (20, .iconst 1, 1, []), (21, .if_icmp .ne 7, 3, [3])]),
  (false, [(24, .iconst 1, 1, []), (25, .goto 4, 3, [4])]),
  (false, [(28, .iconst 0, 1, [])]),
  (false, [(29, .ireturn, 1, [1])])]
theorem cb_X4_isSnap_0 : (blk md_X4_isSnap 0).2 = [(0, .iload_n 1, 1, []), (1, .iconst 0, 1, []), (2, .bipush 7, 2, []), (4, .invokestatic 37, 3, [1, 100, 3, 1]), (7, .ifCond .eq 21, 3, [3])] := rfl
theorem cb_X4_isSnap_1 : (blk md_X4_isSnap 1).2 = [(10, .aload_n 0, 1, []), (11, .getfield 7, 3, [4, 0]), (14, .sipush 383, 3, []), (17, .iload_n 1, 1, []), (18, .iadd, 1, []), (19, .iaload, 1, []), (20, .iconst 1, 1, []), (21, .if_icmp .ne 7, 3, [3])] := rfl
theorem cb_X4_isSnap_2 : (blk md_X4_isSnap 2).2 = [(24, .iconst 1, 1, []), (25, .goto 4, 3, [4])] := rfl
theorem cb_X4_isSnap_3 : (blk md_X4_isSnap 3).2 = [(28, .iconst 0, 1, [])] := rfl
theorem cb_X4_isSnap_4 : (blk md_X4_isSnap 4).2 = [(29, .ireturn, 1, [1])] := rfl
def md_X4_isPlace : List mB := [
  (false, [(0, .iload_n 0, 1, []), (1, .iconst 0, 1, []), (2, .bipush 63, 2, []), (4, .invokestatic 37, 3, [1, 100, 3, 1]), (7, .ireturn, 1, [1])])]
theorem cb_X4_isPlace_0 : (blk md_X4_isPlace 0).2 = [(0, .iload_n 0, 1, []), (1, .iconst 0, 1, []), (2, .bipush 63, 2, []), (4, .invokestatic 37, 3, [1, 100, 3, 1]), (7, .ireturn, 1, [1])] := rfl
def md_X4_isBlock : List mB := [
  (false, [(0, .iload_n 0, 1, []), (1, .iconst 0, 1, []), (2, .bipush 15, 2, []), (4, .invokestatic 37, 3, [1, 100, 3, 1]), (7, .ireturn, 1, [1])])]
theorem cb_X4_isBlock_0 : (blk md_X4_isBlock 0).2 = [(0, .iload_n 0, 1, []), (1, .iconst 0, 1, []), (2, .bipush 15, 2, []), (4, .invokestatic 37, 3, [1, 100, 3, 1]), (7, .ireturn, 1, [1])] := rfl
def md_X4_isCluster : List mB := [
  (false, [(0, .iload_n 0, 1, []), (1, .iconst 1, 1, []), (2, .bipush 63, 2, []), (4, .invokestatic 37, 3, [1, 100, 3, 1]), (7, .ireturn, 1, [1])])]
theorem cb_X4_isCluster_0 : (blk md_X4_isCluster 0).2 = [(0, .iload_n 0, 1, []), (1, .iconst 1, 1, []), (2, .bipush 63, 2, []), (4, .invokestatic 37, 3, [1, 100, 3, 1]), (7, .ireturn, 1, [1])] := rfl
def md_X4_dir : List mB := [
  (false, [(0, .sipush 327, 3, []), (3, .iconst 4, 1, []), (4, .iload_n 0, 1, []), (5, .imul, 1, []), (6, .iadd, 1, []), (7, .iload_n 1, 1, []), (8, .iadd, 1, []), (9, .ireturn, 1, [])])]
theorem cb_X4_dir_0 : (blk md_X4_dir 0).2 = [(0, .sipush 327, 3, []), (3, .iconst 4, 1, []), (4, .iload_n 0, 1, []), (5, .imul, 1, []), (6, .iadd, 1, []), (7, .iload_n 1, 1, []), (8, .iadd, 1, []), (9, .ireturn, 1, [])] := rfl
def md_X4_dataOf : List mB := [
  (false, [(0, .aload_n 0, 1, []), (1, .getfield 7, 3, [4, 0]), (4, .iload_n 1, 1, []), (5, .iload_n 2, 1, []), (6, .iconst 4, 1, []), (7, .idiv, 1, []), (8, .invokestatic 41, 3, [1, 108, 2, 1]), (11, .iaload, 1, []), (12, .istore_n 3, 1, []), (13, .iload_n 3, 1, []), (14, .ifCond .ne 7, 3, [2])]),
  (false, [(17, .iconst 0, 1, []), (18, .goto 18, 3, [3])]),
  (false, [(21, .aload_n 0, 1, []), (22, .getfield 7, 3, [4, 0]), (25, .bipush 64, 2, []), (27, .iconst 4, 1, []), (28, .iload_n 3, 1, []), (29, .imul, 1, []), (30, .iadd, 1, []), (31, .iload_n 2, 1, []), (32, .iconst 4, 1, []), (33, .irem, 1, []), (34, .iadd, 1, []), (35, .iaload, 1, [])]),
  (false, [(36, .ireturn, 1, [])])]
theorem cb_X4_dataOf_0 : (blk md_X4_dataOf 0).2 = [(0, .aload_n 0, 1, []), (1, .getfield 7, 3, [4, 0]), (4, .iload_n 1, 1, []), (5, .iload_n 2, 1, []), (6, .iconst 4, 1, []), (7, .idiv, 1, []), (8, .invokestatic 41, 3, [1, 108, 2, 1]), (11, .iaload, 1, []), (12, .istore_n 3, 1, []), (13, .iload_n 3, 1, []), (14, .ifCond .ne 7, 3, [2])] := rfl
theorem cb_X4_dataOf_1 : (blk md_X4_dataOf 1).2 = [(17, .iconst 0, 1, []), (18, .goto 18, 3, [3])] := rfl
theorem cb_X4_dataOf_2 : (blk md_X4_dataOf 2).2 = [(21, .aload_n 0, 1, []), (22, .getfield 7, 3, [4, 0]), (25, .bipush 64, 2, []), (27, .iconst 4, 1, []), (28, .iload_n 3, 1, []), (29, .imul, 1, []), (30, .iadd, 1, []), (31, .iload_n 2, 1, []), (32, .iconst 4, 1, []), (33, .irem, 1, []), (34, .iadd, 1, []), (35, .iaload, 1, [])] := rfl
theorem cb_X4_dataOf_3 : (blk md_X4_dataOf 3).2 = [(36, .ireturn, 1, [])] := rfl
def md_X4_readBy : List mB := [
  (false, [(0, .iload_n 1, 1, []), (1, .istore 4, 2, []), (3, .iload_n 2, 1, []), (4, .istore 5, 2, [])]),
  (false, [(6, .aload_n 0, 1, []), (7, .iload 4, 2, []), (9, .iload_n 3, 1, []), (10, .iconst 4, 1, []), (11, .idiv, 1, []), (12, .invokevirtual 45, 3, [0, 109, 3, 1]), (15, .ifCond .ne 31, 3, [5])]),
  (false, [(18, .iload 5, 2, []), (20, .iconst (-1), 1, []), (21, .if_icmp .ne 5, 3, [4])]),
  (false, [(24, .iconst 0, 1, []), (25, .ireturn, 1, [])]),
  (false, [(26, .iload 5, 2, []), (28, .istore 4, 2, []), (30, .aload_n 0, 1, []), (31, .getfield 7, 3, [4, 0]), (34, .sipush 321, 3, []), (37, .iload 5, 2, []), (39, .iadd, 1, []), (40, .iaload, 1, []), (41, .istore 5, 2, []), (43, .goto (-37), 3, [1])]),
  (false, [(46, .aload_n 0, 1, []), (47, .getfield 7, 3, [4, 0]), (50, .bipush 64, 2, []), (52, .iconst 4, 1, []), (53, .aload_n 0, 1, []), (54, .iload 4, 2, []), (56, .iload_n 3, 1, []), (57, .iconst 4, 1, []), (58, .idiv, 1, []), (59, .invokevirtual 45, 3, [0, 109, 3, 1]), (62, .imul, 1, []), (63, .iadd, 1, []), (64, .iload_n 3, 1, []), (65, .iconst 4, 1, []), (66, .irem, 1, []), (67, .iadd, 1, []), (68, .iaload, 1, []), (69, .ireturn, 1, [])])]
theorem cb_X4_readBy_0 : (blk md_X4_readBy 0).2 = [(0, .iload_n 1, 1, []), (1, .istore 4, 2, []), (3, .iload_n 2, 1, []), (4, .istore 5, 2, [])] := rfl
theorem cb_X4_readBy_1 : (blk md_X4_readBy 1).2 = [(6, .aload_n 0, 1, []), (7, .iload 4, 2, []), (9, .iload_n 3, 1, []), (10, .iconst 4, 1, []), (11, .idiv, 1, []), (12, .invokevirtual 45, 3, [0, 109, 3, 1]), (15, .ifCond .ne 31, 3, [5])] := rfl
theorem cb_X4_readBy_2 : (blk md_X4_readBy 2).2 = [(18, .iload 5, 2, []), (20, .iconst (-1), 1, []), (21, .if_icmp .ne 5, 3, [4])] := rfl
theorem cb_X4_readBy_3 : (blk md_X4_readBy 3).2 = [(24, .iconst 0, 1, []), (25, .ireturn, 1, [])] := rfl
theorem cb_X4_readBy_4 : (blk md_X4_readBy 4).2 = [(26, .iload 5, 2, []), (28, .istore 4, 2, []), (30, .aload_n 0, 1, []), (31, .getfield 7, 3, [4, 0]), (34, .sipush 321, 3, []), (37, .iload 5, 2, []), (39, .iadd, 1, []), (40, .iaload, 1, []), (41, .istore 5, 2, []), (43, .goto (-37), 3, [1])] := rfl
theorem cb_X4_readBy_5 : (blk md_X4_readBy 5).2 = [(46, .aload_n 0, 1, []), (47, .getfield 7, 3, [4, 0]), (50, .bipush 64, 2, []), (52, .iconst 4, 1, []), (53, .aload_n 0, 1, []), (54, .iload 4, 2, []), (56, .iload_n 3, 1, []), (57, .iconst 4, 1, []), (58, .idiv, 1, []), (59, .invokevirtual 45, 3, [0, 109, 3, 1]), (62, .imul, 1, []), (63, .iadd, 1, []), (64, .iload_n 3, 1, []), (65, .iconst 4, 1, []), (66, .irem, 1, []), (67, .iadd, 1, []), (68, .iaload, 1, []), (69, .ireturn, 1, [])] := rfl
def md_X4_readOf : List mB := [
  (false, [(0, .aload_n 0, 1, []), (1, .iload_n 1, 1, []), (2, .aload_n 0, 1, []), (3, .getfield 7, 3, [4, 0]), (6, .sipush 321, 3, []), (9, .iload_n 1, 1, []), (10, .iadd, 1, []), (11, .iaload, 1, []), (12, .iload_n 2, 1, []), (13, .invokevirtual 48, 3, [0, 110, 4, 1]), (16, .ireturn, 1, [])])]
theorem cb_X4_readOf_0 : (blk md_X4_readOf 0).2 = [(0, .aload_n 0, 1, []), (1, .iload_n 1, 1, []), (2, .aload_n 0, 1, []), (3, .getfield 7, 3, [4, 0]), (6, .sipush 321, 3, []), (9, .iload_n 1, 1, []), (10, .iadd, 1, []), (11, .iaload, 1, []), (12, .iload_n 2, 1, []), (13, .invokevirtual 48, 3, [0, 110, 4, 1]), (16, .ireturn, 1, [])] := rfl
def md_X4_layer : List mB := [
  (false, [(0, .iload_n 1, 1, []), (1, .iconst (-1), 1, []), (2, .if_icmp .eq 19, 3, [3])]),
  (false, [(5, .aload_n 0, 1, []), (6, .iload_n 1, 1, []), (7, .invokevirtual 52, 3, [0, 103, 2, 1]), (10, .ifCond .ne 11, 3, [3])]),
  (false, [(13, .aload_n 0, 1, []), (14, .sipush (-1001), 3, []), (17, .invokevirtual 56, 3, [0, 101, 2, 1]), (20, .ireturn, 1, [])]),
  (false, [(21, .aload_n 0, 1, []), (22, .getfield 7, 3, [4, 0]), (25, .sipush 320, 3, []), (28, .iaload, 1, []), (29, .bipush 6, 2, []), (31, .if_icmp .ne 11, 3, [5])]),
  (false, [(34, .aload_n 0, 1, []), (35, .sipush (-1002), 3, []), (38, .invokevirtual 56, 3, [0, 101, 2, 1]), (41, .ireturn, 1, [])]),
  (false, [(42, .aload_n 0, 1, []), (43, .getfield 7, 3, [4, 0]), (46, .sipush 321, 3, []), (49, .aload_n 0, 1, []), (50, .getfield 7, 3, [4, 0]), (53, .sipush 320, 3, []), (56, .iaload, 1, []), (57, .iadd, 1, []), (58, .iload_n 1, 1, []), (59, .iastore, 1, []), (60, .aload_n 0, 1, []), (61, .getfield 7, 3, [4, 0]), (64, .sipush 320, 3, []), (67, .dup2, 1, []), (68, .iaload, 1, []), (69, .iconst 1, 1, []), (70, .iadd, 1, []), (71, .iastore, 1, []), (72, .aload_n 0, 1, []), (73, .getfield 7, 3, [4, 0]), (76, .sipush 320, 3, []), (79, .iaload, 1, []), (80, .iconst 1, 1, []), (81, .isub, 1, []), (82, .ireturn, 1, [])])]
theorem cb_X4_layer_0 : (blk md_X4_layer 0).2 = [(0, .iload_n 1, 1, []), (1, .iconst (-1), 1, []), (2, .if_icmp .eq 19, 3, [3])] := rfl
theorem cb_X4_layer_1 : (blk md_X4_layer 1).2 = [(5, .aload_n 0, 1, []), (6, .iload_n 1, 1, []), (7, .invokevirtual 52, 3, [0, 103, 2, 1]), (10, .ifCond .ne 11, 3, [3])] := rfl
theorem cb_X4_layer_2 : (blk md_X4_layer 2).2 = [(13, .aload_n 0, 1, []), (14, .sipush (-1001), 3, []), (17, .invokevirtual 56, 3, [0, 101, 2, 1]), (20, .ireturn, 1, [])] := rfl
theorem cb_X4_layer_3 : (blk md_X4_layer 3).2 = [(21, .aload_n 0, 1, []), (22, .getfield 7, 3, [4, 0]), (25, .sipush 320, 3, []), (28, .iaload, 1, []), (29, .bipush 6, 2, []), (31, .if_icmp .ne 11, 3, [5])] := rfl
theorem cb_X4_layer_4 : (blk md_X4_layer 4).2 = [(34, .aload_n 0, 1, []), (35, .sipush (-1002), 3, []), (38, .invokevirtual 56, 3, [0, 101, 2, 1]), (41, .ireturn, 1, [])] := rfl
theorem cb_X4_layer_5 : (blk md_X4_layer 5).2 = [(42, .aload_n 0, 1, []), (43, .getfield 7, 3, [4, 0]), (46, .sipush 321, 3, []), (49, .aload_n 0, 1, []), (50, .getfield 7, 3, [4, 0]), (53, .sipush 320, 3, []), (56, .iaload, 1, []), (57, .iadd, 1, []), (58, .iload_n 1, 1, []), (59, .iastore, 1, []), (60, .aload_n 0, 1, []), (61, .getfield 7, 3, [4, 0]), (64, .sipush 320, 3, []), (67, .dup2, 1, []), (68, .iaload, 1, []), (69, .iconst 1, 1, []), (70, .iadd, 1, []), (71, .iastore, 1, []), (72, .aload_n 0, 1, []), (73, .getfield 7, 3, [4, 0]), (76, .sipush 320, 3, []), (79, .iaload, 1, []), (80, .iconst 1, 1, []), (81, .isub, 1, []), (82, .ireturn, 1, [])] := rfl
def md_X4_read : List mB := [
  (false, [(0, .aload_n 0, 1, []), (1, .iload_n 1, 1, []), (2, .invokevirtual 52, 3, [0, 103, 2, 1]), (5, .ifCond .eq 19, 3, [3])]),
  (false, [(8, .iload_n 2, 1, []), (9, .invokestatic 60, 3, [1, 105, 1, 1]), (12, .ifCond .eq 12, 3, [3])]),
  (false, [(15, .aload_n 0, 1, []), (16, .iload_n 1, 1, []), (17, .iload_n 2, 1, []), (18, .invokevirtual 63, 3, [0, 111, 3, 1]), (21, .goto 10, 3, [4])]),
  (false, [(24, .aload_n 0, 1, []), (25, .sipush (-1001), 3, []), (28, .invokevirtual 56, 3, [0, 101, 2, 1])]),
  (false, [(31, .ireturn, 1, [])])]
theorem cb_X4_read_0 : (blk md_X4_read 0).2 = [(0, .aload_n 0, 1, []), (1, .iload_n 1, 1, []), (2, .invokevirtual 52, 3, [0, 103, 2, 1]), (5, .ifCond .eq 19, 3, [3])] := rfl
theorem cb_X4_read_1 : (blk md_X4_read 1).2 = [(8, .iload_n 2, 1, []), (9, .invokestatic 60, 3, [1, 105, 1, 1]), (12, .ifCond .eq 12, 3, [3])] := rfl
theorem cb_X4_read_2 : (blk md_X4_read 2).2 = [(15, .aload_n 0, 1, []), (16, .iload_n 1, 1, []), (17, .iload_n 2, 1, []), (18, .invokevirtual 63, 3, [0, 111, 3, 1]), (21, .goto 10, 3, [4])] := rfl
theorem cb_X4_read_3 : (blk md_X4_read 3).2 = [(24, .aload_n 0, 1, []), (25, .sipush (-1001), 3, []), (28, .invokevirtual 56, 3, [0, 101, 2, 1])] := rfl
theorem cb_X4_read_4 : (blk md_X4_read 4).2 = [(31, .ireturn, 1, [])] := rfl
def md_X4_readOld : List mB := [
  (false, [(0, .aload_n 0, 1, []), (1, .iload_n 1, 1, []), (2, .invokevirtual 66, 3, [0, 104, 2, 1]), (5, .ifCond .eq 41, 3, [3])]),
  (false, [(8, .iload_n 2, 1, []), (9, .invokestatic 60, 3, [1, 105, 1, 1]), (12, .ifCond .eq 34, 3, [3])]),
  (false, [(15, .aload_n 0, 1, []), (16, .bipush 6, 2, []), (18, .iload_n 1, 1, []), (19, .iadd, 1, []), (20, .aload_n 0, 1, []), (21, .getfield 7, 3, [4, 0]), (24, .sipush 321, 3, []), (27, .aload_n 0, 1, []), (28, .getfield 7, 3, [4, 0]), (31, .sipush 391, 3, []), (34, .iload_n 1, 1, []), (35, .iadd, 1, []), (36, .iaload, 1, []), (37, .iadd, 1, []), (38, .iaload, 1, []), (39, .iload_n 2, 1, []), (40, .invokevirtual 48, 3, [0, 110, 4, 1]), (43, .goto 10, 3, [4])]),
  (false, [(46, .aload_n 0, 1, []), (47, .sipush (-1001), 3, []), (50, .invokevirtual 56, 3, [0, 101, 2, 1])]),
  (false, [(53, .ireturn, 1, [])])]
theorem cb_X4_readOld_0 : (blk md_X4_readOld 0).2 = [(0, .aload_n 0, 1, []), (1, .iload_n 1, 1, []), (2, .invokevirtual 66, 3, [0, 104, 2, 1]), (5, .ifCond .eq 41, 3, [3])] := rfl
theorem cb_X4_readOld_1 : (blk md_X4_readOld 1).2 = [(8, .iload_n 2, 1, []), (9, .invokestatic 60, 3, [1, 105, 1, 1]), (12, .ifCond .eq 34, 3, [3])] := rfl
theorem cb_X4_readOld_2 : (blk md_X4_readOld 2).2 = [(15, .aload_n 0, 1, []), (16, .bipush 6, 2, []), (18, .iload_n 1, 1, []), (19, .iadd, 1, []), (20, .aload_n 0, 1, []), (21, .getfield 7, 3, [4, 0]), (24, .sipush 321, 3, []), (27, .aload_n 0, 1, []), (28, .getfield 7, 3, [4, 0]), (31, .sipush 391, 3, []), (34, .iload_n 1, 1, []), (35, .iadd, 1, []), (36, .iaload, 1, []), (37, .iadd, 1, []), (38, .iaload, 1, []), (39, .iload_n 2, 1, []), (40, .invokevirtual 48, 3, [0, 110, 4, 1]), (43, .goto 10, 3, [4])] := rfl
theorem cb_X4_readOld_3 : (blk md_X4_readOld 3).2 = [(46, .aload_n 0, 1, []), (47, .sipush (-1001), 3, []), (50, .invokevirtual 56, 3, [0, 101, 2, 1])] := rfl
theorem cb_X4_readOld_4 : (blk md_X4_readOld 4).2 = [(53, .ireturn, 1, [])] := rfl
def md_X4_unlike : List mB := [
  (false, [(0, .aload_n 0, 1, []), (1, .iload_n 1, 1, []), (2, .invokevirtual 52, 3, [0, 103, 2, 1]), (5, .ifCond .eq 11, 3, [2])]),
  (false, [(8, .aload_n 0, 1, []), (9, .iload_n 2, 1, []), (10, .invokevirtual 52, 3, [0, 103, 2, 1]), (13, .ifCond .ne 11, 3, [3])]),
  (false, [(16, .aload_n 0, 1, []), (17, .sipush (-1001), 3, []), (20, .invokevirtual 56, 3, [0, 101, 2, 1]), (23, .ireturn, 1, [])]),
  (false, [(24, .iconst 0, 1, []), (25, .istore_n 3, 1, [])]),
  (false, [(26, .iload_n 3, 1, []), (27, .bipush 64, 2, []), (29, .if_icmp .ge 26, 3, [8])]),
  (false, [(32, .aload_n 0, 1, []), (33, .iload_n 1, 1, []), (34, .iload_n 3, 1, []), (35, .invokevirtual 63, 3, [0, 111, 3, 1]), (38, .aload_n 0, 1, []), (39, .iload_n 2, 1, []), (40, .iload_n 3, 1, []), (41, .invokevirtual 63, 3, [0, 111, 3, 1]), (44, .if_icmp .eq 5, 3, [7])]),
  (false, [(47, .iload_n 3, 1, []), (48, .ireturn, 1, [])]),
  (false, [(49, .iinc 3 1, 3, []), (52, .goto (-26), 3, [4])]),
  (false, [(55, .iconst (-1), 1, []), (56, .ireturn, 1, [])])]
theorem cb_X4_unlike_0 : (blk md_X4_unlike 0).2 = [(0, .aload_n 0, 1, []), (1, .iload_n 1, 1, []), (2, .invokevirtual 52, 3, [0, 103, 2, 1]), (5, .ifCond .eq 11, 3, [2])] := rfl
theorem cb_X4_unlike_1 : (blk md_X4_unlike 1).2 = [(8, .aload_n 0, 1, []), (9, .iload_n 2, 1, []), (10, .invokevirtual 52, 3, [0, 103, 2, 1]), (13, .ifCond .ne 11, 3, [3])] := rfl
theorem cb_X4_unlike_2 : (blk md_X4_unlike 2).2 = [(16, .aload_n 0, 1, []), (17, .sipush (-1001), 3, []), (20, .invokevirtual 56, 3, [0, 101, 2, 1]), (23, .ireturn, 1, [])] := rfl
theorem cb_X4_unlike_3 : (blk md_X4_unlike 3).2 = [(24, .iconst 0, 1, []), (25, .istore_n 3, 1, [])] := rfl
theorem cb_X4_unlike_4 : (blk md_X4_unlike 4).2 = [(26, .iload_n 3, 1, []), (27, .bipush 64, 2, []), (29, .if_icmp .ge 26, 3, [8])] := rfl
theorem cb_X4_unlike_5 : (blk md_X4_unlike 5).2 = [(32, .aload_n 0, 1, []), (33, .iload_n 1, 1, []), (34, .iload_n 3, 1, []), (35, .invokevirtual 63, 3, [0, 111, 3, 1]), (38, .aload_n 0, 1, []), (39, .iload_n 2, 1, []), (40, .iload_n 3, 1, []), (41, .invokevirtual 63, 3, [0, 111, 3, 1]), (44, .if_icmp .eq 5, 3, [7])] := rfl
theorem cb_X4_unlike_6 : (blk md_X4_unlike 6).2 = [(47, .iload_n 3, 1, []), (48, .ireturn, 1, [])] := rfl
theorem cb_X4_unlike_7 : (blk md_X4_unlike 7).2 = [(49, .iinc 3 1, 3, []), (52, .goto (-26), 3, [4])] := rfl
theorem cb_X4_unlike_8 : (blk md_X4_unlike 8).2 = [(55, .iconst (-1), 1, []), (56, .ireturn, 1, [])] := rfl
def md_X4_sum : List mB := [
  (false, [(0, .aload_n 0, 1, []), (1, .iload_n 1, 1, []), (2, .invokevirtual 52, 3, [0, 103, 2, 1]), (5, .ifCond .ne 11, 3, [2])]),
  (false, [(8, .aload_n 0, 1, []), (9, .sipush (-1001), 3, []), (12, .invokevirtual 56, 3, [0, 101, 2, 1]), (15, .ireturn, 1, [])]),
  (false, [(16, .iconst 1, 1, []), (17, .istore_n 2, 1, []), (18, .iconst 0, 1, []), (19, .istore_n 3, 1, [])]),
  (false, [(20, .iload_n 3, 1, []), (21, .bipush 64, 2, []), (23, .if_icmp .ge 21, 3, [5])]),
  (false, [(26, .bipush 31, 2, []), (28, .iload_n 2, 1, []), (29, .imul, 1, []), (30, .aload_n 0, 1, []), (31, .iload_n 1, 1, []), (32, .iload_n 3, 1, []), (33, .invokevirtual 63, 3, [0, 111, 3, 1]), (36, .iadd, 1, []), (37, .istore_n 2, 1, []), (38, .iinc 3 1, 3, []), (41, .goto (-21), 3, [3])]),
  (false, [(44, .iload_n 2, 1, []), (45, .ireturn, 1, [])])]
theorem cb_X4_sum_0 : (blk md_X4_sum 0).2 = [(0, .aload_n 0, 1, []), (1, .iload_n 1, 1, []), (2, .invokevirtual 52, 3, [0, 103, 2, 1]), (5, .ifCond .ne 11, 3, [2])] := rfl
theorem cb_X4_sum_1 : (blk md_X4_sum 1).2 = [(8, .aload_n 0, 1, []), (9, .sipush (-1001), 3, []), (12, .invokevirtual 56, 3, [0, 101, 2, 1]), (15, .ireturn, 1, [])] := rfl
theorem cb_X4_sum_2 : (blk md_X4_sum 2).2 = [(16, .iconst 1, 1, []), (17, .istore_n 2, 1, []), (18, .iconst 0, 1, []), (19, .istore_n 3, 1, [])] := rfl
theorem cb_X4_sum_3 : (blk md_X4_sum 3).2 = [(20, .iload_n 3, 1, []), (21, .bipush 64, 2, []), (23, .if_icmp .ge 21, 3, [5])] := rfl
theorem cb_X4_sum_4 : (blk md_X4_sum 4).2 = [(26, .bipush 31, 2, []), (28, .iload_n 2, 1, []), (29, .imul, 1, []), (30, .aload_n 0, 1, []), (31, .iload_n 1, 1, []), (32, .iload_n 3, 1, []), (33, .invokevirtual 63, 3, [0, 111, 3, 1]), (36, .iadd, 1, []), (37, .istore_n 2, 1, []), (38, .iinc 3 1, 3, []), (41, .goto (-21), 3, [3])] := rfl
theorem cb_X4_sum_5 : (blk md_X4_sum 5).2 = [(44, .iload_n 2, 1, []), (45, .ireturn, 1, [])] := rfl
def md_X4_standsOn : List mB := [
  (false, [(0, .iload_n 1, 1, []), (1, .istore_n 3, 1, [])]),
  (false, [(2, .iload_n 3, 1, []), (3, .iconst (-1), 1, []), (4, .if_icmp .eq 22, 3, [4])]),
  (false, [(7, .iload_n 3, 1, []), (8, .iload_n 2, 1, []), (9, .if_icmp .eq 17, 3, [4])]),
  (false, [(12, .aload_n 0, 1, []), (13, .getfield 7, 3, [4, 0]), (16, .sipush 321, 3, []), (19, .iload_n 3, 1, []), (20, .iadd, 1, []), (21, .iaload, 1, []), (22, .istore_n 3, 1, []), (23, .goto (-21), 3, [1])]),
  (false, [(26, .iload_n 3, 1, []), (27, .iload_n 2, 1, []), (28, .if_icmp .ne 7, 3, [6])]),
  (false, [(31, .iconst 1, 1, []), (32, .goto 4, 3, [7])]),
  (false, [(35, .iconst 0, 1, [])]),
  (false, [(36, .ireturn, 1, [1])])]
theorem cb_X4_standsOn_0 : (blk md_X4_standsOn 0).2 = [(0, .iload_n 1, 1, []), (1, .istore_n 3, 1, [])] := rfl
theorem cb_X4_standsOn_1 : (blk md_X4_standsOn 1).2 = [(2, .iload_n 3, 1, []), (3, .iconst (-1), 1, []), (4, .if_icmp .eq 22, 3, [4])] := rfl
theorem cb_X4_standsOn_2 : (blk md_X4_standsOn 2).2 = [(7, .iload_n 3, 1, []), (8, .iload_n 2, 1, []), (9, .if_icmp .eq 17, 3, [4])] := rfl
theorem cb_X4_standsOn_3 : (blk md_X4_standsOn 3).2 = [(12, .aload_n 0, 1, []), (13, .getfield 7, 3, [4, 0]), (16, .sipush 321, 3, []), (19, .iload_n 3, 1, []), (20, .iadd, 1, []), (21, .iaload, 1, []), (22, .istore_n 3, 1, []), (23, .goto (-21), 3, [1])] := rfl
theorem cb_X4_standsOn_4 : (blk md_X4_standsOn 4).2 = [(26, .iload_n 3, 1, []), (27, .iload_n 2, 1, []), (28, .if_icmp .ne 7, 3, [6])] := rfl
theorem cb_X4_standsOn_5 : (blk md_X4_standsOn 5).2 = [(31, .iconst 1, 1, []), (32, .goto 4, 3, [7])] := rfl
theorem cb_X4_standsOn_6 : (blk md_X4_standsOn 6).2 = [(35, .iconst 0, 1, [])] := rfl
theorem cb_X4_standsOn_7 : (blk md_X4_standsOn 7).2 = [(36, .ireturn, 1, [1])] := rfl
def md_X4_isNamedBy : List mB := [
  (false, [(0, .iload_n 1, 1, []), (1, .bipush 6, 2, []), (3, .if_icmp .ge 23, 3, [4])]),
  (false, [(6, .iload_n 1, 1, []), (7, .aload_n 0, 1, []), (8, .getfield 7, 3, [4, 0]), (11, .sipush 320, 3, []), (14, .iaload, 1, []), (15, .if_icmp .ge 7, 3, [3])]),
  (false, [(18, .iconst 1, 1, []), (19, .goto 29, 3, [7])]),
  (false, [(22, .iconst 0, 1, []), (23, .goto 25, 3, [7])]),
  (false, [(26, .aload_n 0, 1, []), (27, .getfield 7, 3, [4, 0]), (30, .sipush 383, 3, []), (33, .iload_n 1, 1, []), (34, .iadd, 1, []), (35, .bipush 6, 2, []), (37, .isub, 1, []), (38, .iaload, 1, []), (39, .iconst 1, 1, []), (40, .if_icmp .ne 7, 3, [6])]),
  (false, [(43, .iconst 1, 1, []), (44, .goto 4, 3, [7])]),
  (false, [(47, .iconst 0, 1, [])]),
  (false, [(48, .ireturn, 1, [1])])]
theorem cb_X4_isNamedBy_0 : (blk md_X4_isNamedBy 0).2 = [(0, .iload_n 1, 1, []), (1, .bipush 6, 2, []), (3, .if_icmp .ge 23, 3, [4])] := rfl
theorem cb_X4_isNamedBy_1 : (blk md_X4_isNamedBy 1).2 = [(6, .iload_n 1, 1, []), (7, .aload_n 0, 1, []), (8, .getfield 7, 3, [4, 0]), (11, .sipush 320, 3, []), (14, .iaload, 1, []), (15, .if_icmp .ge 7, 3, [3])] := rfl
theorem cb_X4_isNamedBy_2 : (blk md_X4_isNamedBy 2).2 = [(18, .iconst 1, 1, []), (19, .goto 29, 3, [7])] := rfl
theorem cb_X4_isNamedBy_3 : (blk md_X4_isNamedBy 3).2 = [(22, .iconst 0, 1, []), (23, .goto 25, 3, [7])] := rfl
theorem cb_X4_isNamedBy_4 : (blk md_X4_isNamedBy 4).2 = [(26, .aload_n 0, 1, []), (27, .getfield 7, 3, [4, 0]), (30, .sipush 383, 3, []), (33, .iload_n 1, 1, []), (34, .iadd, 1, []), (35, .bipush 6, 2, []), (37, .isub, 1, []), (38, .iaload, 1, []), (39, .iconst 1, 1, []), (40, .if_icmp .ne 7, 3, [6])] := rfl
theorem cb_X4_isNamedBy_5 : (blk md_X4_isNamedBy 5).2 = [(43, .iconst 1, 1, []), (44, .goto 4, 3, [7])] := rfl
theorem cb_X4_isNamedBy_6 : (blk md_X4_isNamedBy 6).2 = [(47, .iconst 0, 1, [])] := rfl
theorem cb_X4_isNamedBy_7 : (blk md_X4_isNamedBy 7).2 = [(48, .ireturn, 1, [1])] := rfl
def md_X4_reckons : List mB := [
  (false, [(0, .iconst 0, 1, []), (1, .istore_n 1, 1, [])]),
  (false, [(2, .iload_n 1, 1, []), (3, .bipush 64, 2, []), (5, .if_icmp .ge 23, 3, [3])]),
  (false, [(8, .aload_n 0, 1, []), (9, .getfield 22, 3, [4, 5]), (12, .iload_n 1, 1, []), (13, .iconst 0, 1, []), (14, .iastore, 1, []), (15, .aload_n 0, 1, []), (16, .getfield 25, 3, [4, 6]), (19, .iload_n 1, 1, []), (20, .iconst 0, 1, []), (21, .iastore, 1, []), (22, .iinc 1 1, 3, []), (25, .goto (-23), 3, [1])]),
  (false, [(28, .iconst 0, 1, []), (29, .istore_n 1, 1, [])]),
  (false, [(30, .iload_n 1, 1, []), (31, .bipush 14, 2, []), (33, .if_icmp .ge 49, 3, [10])]),
  (false, [(36, .iconst 0, 1, []), (37, .istore_n 2, 1, [])]),
  (false, [(38, .iload_n 2, 1, []), (39, .iconst 4, 1, []), (40, .if_icmp .ge 36, 3, [9])]),
  (false, [(43, .aload_n 0, 1, []), (44, .iload_n 1, 1, []), (45, .invokevirtual 69, 3, [0, 118, 2, 1]), (48, .ifCond .eq 28, 3, [9])]),
  (false, [(51, .aload_n 0, 1, []), (52, .getfield 22, 3, [4, 5]), (55, .aload_n 0, 1, []), (56, .getfield 7, 3, [4, 0]), (59, .iload_n 1, 1, []), (60, .iload_n 2, 1, []), (61, .invokestatic 41, 3, [1, 108, 2, 1]), (64, .iaload, 1, []), (65, .dup2, 1, []), (66, .iaload, 1, []), (67, .iconst 1, 1, []), (68, .iadd, 1, []), (69, .iastore, 1, []), (70, .iinc 2 1, 3, []), (73, .goto (-35), 3, [6])]),
  (false, [(76, .iinc 1 1, 3, []), (79, .goto (-49), 3, [4])]),
  (false, [(82, .iconst 1, 1, []), (83, .istore_n 1, 1, [])]),
  (false, [(84, .iload_n 1, 1, []), (85, .bipush 64, 2, []), (87, .if_icmp .ge 55, 3, [18])]),
  (false, [(90, .aload_n 0, 1, []), (91, .iload_n 1, 1, []), (92, .invokevirtual 72, 3, [0, 120, 2, 1]), (95, .ifCond .ne 6, 3, [14])]),
  (false, [(98, .goto 38, 3, [17])]),
  (false, [(101, .iconst 0, 1, []), (102, .istore_n 2, 1, [])]),
  (false, [(103, .iload_n 2, 1, []), (104, .iconst 4, 1, []), (105, .if_icmp .ge 31, 3, [17])]),
  (false, [(108, .aload_n 0, 1, []), (109, .getfield 25, 3, [4, 6]), (112, .aload_n 0, 1, []), (113, .getfield 7, 3, [4, 0]), (116, .bipush 64, 2, []), (118, .iconst 4, 1, []), (119, .iload_n 1, 1, []), (120, .imul, 1, []), (121, .iadd, 1, []), (122, .iload_n 2, 1, []), (123, .iadd, 1, []), (124, .iaload, 1, []), (125, .dup2, 1, []), (126, .iaload, 1, []), (127, .iconst 1, 1, []), (128, .iadd, 1, []), (129, .iastore, 1, []), (130, .iinc 2 1, 3, []), (133, .goto (-30), 3, [15])]),
  (false, [(136, .iinc 1 1, 3, []), (139, .goto (-55), 3, [11])]),
  (false, [(142, .iconst 0, 1, []), (143, .istore_n 1, 1, [])]),
  (false, [(144, .iload_n 1, 1, []), (145, .bipush 64, 2, []), (147, .if_icmp .ge 24, 3, [21])]),
  (false, [(150, .aload_n 0, 1, []), (151, .getfield 22, 3, [4, 5]), (154, .iload_n 1, 1, []), (155, .dup2, 1, []), (156, .iaload, 1, []), (157, .aload_n 0, 1, []), (158, .getfield 25, 3, [4, 6]), (161, .iload_n 1, 1, []), (162, .iaload, 1, []), (163, .iadd, 1, []), (164, .iastore, 1, []), (165, .iinc 1 1, 3, []), (168, .goto (-24), 3, [19])]),
  (false, [(171, .aload_n 0, 1, []), (172, .getfield 22, 3, [4, 5]), (175, .iconst 0, 1, []), (176, .iconst 0, 1, []), (177, .iastore, 1, []), (178, .aload_n 0, 1, []), (179, .getfield 25, 3, [4, 6]), (182, .iconst 0, 1, []), (183, .iconst 0, 1, []), (184, .iastore, 1, []), (185, .return_, 1, [])])]
theorem cb_X4_reckons_0 : (blk md_X4_reckons 0).2 = [(0, .iconst 0, 1, []), (1, .istore_n 1, 1, [])] := rfl
theorem cb_X4_reckons_1 : (blk md_X4_reckons 1).2 = [(2, .iload_n 1, 1, []), (3, .bipush 64, 2, []), (5, .if_icmp .ge 23, 3, [3])] := rfl
theorem cb_X4_reckons_2 : (blk md_X4_reckons 2).2 = [(8, .aload_n 0, 1, []), (9, .getfield 22, 3, [4, 5]), (12, .iload_n 1, 1, []), (13, .iconst 0, 1, []), (14, .iastore, 1, []), (15, .aload_n 0, 1, []), (16, .getfield 25, 3, [4, 6]), (19, .iload_n 1, 1, []), (20, .iconst 0, 1, []), (21, .iastore, 1, []), (22, .iinc 1 1, 3, []), (25, .goto (-23), 3, [1])] := rfl
theorem cb_X4_reckons_3 : (blk md_X4_reckons 3).2 = [(28, .iconst 0, 1, []), (29, .istore_n 1, 1, [])] := rfl
theorem cb_X4_reckons_4 : (blk md_X4_reckons 4).2 = [(30, .iload_n 1, 1, []), (31, .bipush 14, 2, []), (33, .if_icmp .ge 49, 3, [10])] := rfl
theorem cb_X4_reckons_5 : (blk md_X4_reckons 5).2 = [(36, .iconst 0, 1, []), (37, .istore_n 2, 1, [])] := rfl
theorem cb_X4_reckons_6 : (blk md_X4_reckons 6).2 = [(38, .iload_n 2, 1, []), (39, .iconst 4, 1, []), (40, .if_icmp .ge 36, 3, [9])] := rfl
theorem cb_X4_reckons_7 : (blk md_X4_reckons 7).2 = [(43, .aload_n 0, 1, []), (44, .iload_n 1, 1, []), (45, .invokevirtual 69, 3, [0, 118, 2, 1]), (48, .ifCond .eq 28, 3, [9])] := rfl
theorem cb_X4_reckons_8 : (blk md_X4_reckons 8).2 = [(51, .aload_n 0, 1, []), (52, .getfield 22, 3, [4, 5]), (55, .aload_n 0, 1, []), (56, .getfield 7, 3, [4, 0]), (59, .iload_n 1, 1, []), (60, .iload_n 2, 1, []), (61, .invokestatic 41, 3, [1, 108, 2, 1]), (64, .iaload, 1, []), (65, .dup2, 1, []), (66, .iaload, 1, []), (67, .iconst 1, 1, []), (68, .iadd, 1, []), (69, .iastore, 1, []), (70, .iinc 2 1, 3, []), (73, .goto (-35), 3, [6])] := rfl
theorem cb_X4_reckons_9 : (blk md_X4_reckons 9).2 = [(76, .iinc 1 1, 3, []), (79, .goto (-49), 3, [4])] := rfl
theorem cb_X4_reckons_10 : (blk md_X4_reckons 10).2 = [(82, .iconst 1, 1, []), (83, .istore_n 1, 1, [])] := rfl
theorem cb_X4_reckons_11 : (blk md_X4_reckons 11).2 = [(84, .iload_n 1, 1, []), (85, .bipush 64, 2, []), (87, .if_icmp .ge 55, 3, [18])] := rfl
theorem cb_X4_reckons_12 : (blk md_X4_reckons 12).2 = [(90, .aload_n 0, 1, []), (91, .iload_n 1, 1, []), (92, .invokevirtual 72, 3, [0, 120, 2, 1]), (95, .ifCond .ne 6, 3, [14])] := rfl
theorem cb_X4_reckons_13 : (blk md_X4_reckons 13).2 = [(98, .goto 38, 3, [17])] := rfl
theorem cb_X4_reckons_14 : (blk md_X4_reckons 14).2 = [(101, .iconst 0, 1, []), (102, .istore_n 2, 1, [])] := rfl
theorem cb_X4_reckons_15 : (blk md_X4_reckons 15).2 = [(103, .iload_n 2, 1, []), (104, .iconst 4, 1, []), (105, .if_icmp .ge 31, 3, [17])] := rfl
theorem cb_X4_reckons_16 : (blk md_X4_reckons 16).2 = [(108, .aload_n 0, 1, []), (109, .getfield 25, 3, [4, 6]), (112, .aload_n 0, 1, []), (113, .getfield 7, 3, [4, 0]), (116, .bipush 64, 2, []), (118, .iconst 4, 1, []), (119, .iload_n 1, 1, []), (120, .imul, 1, []), (121, .iadd, 1, []), (122, .iload_n 2, 1, []), (123, .iadd, 1, []), (124, .iaload, 1, []), (125, .dup2, 1, []), (126, .iaload, 1, []), (127, .iconst 1, 1, []), (128, .iadd, 1, []), (129, .iastore, 1, []), (130, .iinc 2 1, 3, []), (133, .goto (-30), 3, [15])] := rfl
theorem cb_X4_reckons_17 : (blk md_X4_reckons 17).2 = [(136, .iinc 1 1, 3, []), (139, .goto (-55), 3, [11])] := rfl
theorem cb_X4_reckons_18 : (blk md_X4_reckons 18).2 = [(142, .iconst 0, 1, []), (143, .istore_n 1, 1, [])] := rfl
theorem cb_X4_reckons_19 : (blk md_X4_reckons 19).2 = [(144, .iload_n 1, 1, []), (145, .bipush 64, 2, []), (147, .if_icmp .ge 24, 3, [21])] := rfl
theorem cb_X4_reckons_20 : (blk md_X4_reckons 20).2 = [(150, .aload_n 0, 1, []), (151, .getfield 22, 3, [4, 5]), (154, .iload_n 1, 1, []), (155, .dup2, 1, []), (156, .iaload, 1, []), (157, .aload_n 0, 1, []), (158, .getfield 25, 3, [4, 6]), (161, .iload_n 1, 1, []), (162, .iaload, 1, []), (163, .iadd, 1, []), (164, .iastore, 1, []), (165, .iinc 1 1, 3, []), (168, .goto (-24), 3, [19])] := rfl
theorem cb_X4_reckons_21 : (blk md_X4_reckons 21).2 = [(171, .aload_n 0, 1, []), (172, .getfield 22, 3, [4, 5]), (175, .iconst 0, 1, []), (176, .iconst 0, 1, []), (177, .iastore, 1, []), (178, .aload_n 0, 1, []), (179, .getfield 25, 3, [4, 6]), (182, .iconst 0, 1, []), (183, .iconst 0, 1, []), (184, .iastore, 1, []), (185, .return_, 1, [])] := rfl
def md_X4_isTable : List mB := [
  (false, [(0, .iconst 0, 1, []), (1, .istore_n 2, 1, []), (2, .iconst 0, 1, []), (3, .istore_n 3, 1, [])]),
  (false, [(4, .iload_n 3, 1, []), (5, .bipush 14, 2, []), (7, .if_icmp .ge 57, 3, [11])]),
  (false, [(10, .iconst 0, 1, []), (11, .istore 4, 2, [])]),
  (false, [(13, .iload 4, 2, []), (15, .iconst 4, 1, []), (16, .if_icmp .ge 42, 3, [10])]),
  (false, [(19, .iload_n 2, 1, []), (20, .ifCond .ne 26, 3, [7])]),
  (false, [(23, .aload_n 0, 1, []), (24, .iload_n 3, 1, []), (25, .invokevirtual 69, 3, [0, 118, 2, 1]), (28, .ifCond .eq 22, 3, [8])]),
  (false, [(31, .aload_n 0, 1, []), (32, .getfield 7, 3, [4, 0]), (35, .iload_n 3, 1, []), (36, .iload 4, 2, []), (38, .invokestatic 41, 3, [1, 108, 2, 1]), (41, .iaload, 1, []), (42, .iload_n 1, 1, []), (43, .if_icmp .ne 7, 3, [8])]),
  (false, [(46, .iconst 1, 1, []), (47, .goto 4, 3, [9])]),
  (false, [(50, .iconst 0, 1, [])]),
  (false, [(51, .istore_n 2, 1, []), (52, .iinc 4 1, 3, []), (55, .goto (-42), 3, [3])]),
  (false, [(58, .iinc 3 1, 3, []), (61, .goto (-57), 3, [1])]),
  (false, [(64, .iload_n 2, 1, []), (65, .ireturn, 1, [1])])]
theorem cb_X4_isTable_0 : (blk md_X4_isTable 0).2 = [(0, .iconst 0, 1, []), (1, .istore_n 2, 1, []), (2, .iconst 0, 1, []), (3, .istore_n 3, 1, [])] := rfl
theorem cb_X4_isTable_1 : (blk md_X4_isTable 1).2 = [(4, .iload_n 3, 1, []), (5, .bipush 14, 2, []), (7, .if_icmp .ge 57, 3, [11])] := rfl
theorem cb_X4_isTable_2 : (blk md_X4_isTable 2).2 = [(10, .iconst 0, 1, []), (11, .istore 4, 2, [])] := rfl
theorem cb_X4_isTable_3 : (blk md_X4_isTable 3).2 = [(13, .iload 4, 2, []), (15, .iconst 4, 1, []), (16, .if_icmp .ge 42, 3, [10])] := rfl
theorem cb_X4_isTable_4 : (blk md_X4_isTable 4).2 = [(19, .iload_n 2, 1, []), (20, .ifCond .ne 26, 3, [7])] := rfl
theorem cb_X4_isTable_5 : (blk md_X4_isTable 5).2 = [(23, .aload_n 0, 1, []), (24, .iload_n 3, 1, []), (25, .invokevirtual 69, 3, [0, 118, 2, 1]), (28, .ifCond .eq 22, 3, [8])] := rfl
theorem cb_X4_isTable_6 : (blk md_X4_isTable 6).2 = [(31, .aload_n 0, 1, []), (32, .getfield 7, 3, [4, 0]), (35, .iload_n 3, 1, []), (36, .iload 4, 2, []), (38, .invokestatic 41, 3, [1, 108, 2, 1]), (41, .iaload, 1, []), (42, .iload_n 1, 1, []), (43, .if_icmp .ne 7, 3, [8])] := rfl
theorem cb_X4_isTable_7 : (blk md_X4_isTable 7).2 = [(46, .iconst 1, 1, []), (47, .goto 4, 3, [9])] := rfl
theorem cb_X4_isTable_8 : (blk md_X4_isTable 8).2 = [(50, .iconst 0, 1, [])] := rfl
theorem cb_X4_isTable_9 : (blk md_X4_isTable 9).2 = [(51, .istore_n 2, 1, []), (52, .iinc 4 1, 3, []), (55, .goto (-42), 3, [3])] := rfl
theorem cb_X4_isTable_10 : (blk md_X4_isTable 10).2 = [(58, .iinc 3 1, 3, []), (61, .goto (-57), 3, [1])] := rfl
theorem cb_X4_isTable_11 : (blk md_X4_isTable 11).2 = [(64, .iload_n 2, 1, []), (65, .ireturn, 1, [1])] := rfl
def md_X4_hasLack : List mB := [
  (false, [(0, .aload_n 0, 1, []), (1, .invokevirtual 75, 3, [0, 119, 1, 0]), (4, .iconst 0, 1, []), (5, .istore_n 1, 1, []), (6, .iconst 1, 1, []), (7, .istore_n 2, 1, [])]),
  (false, [(8, .iload_n 2, 1, []), (9, .bipush 64, 2, []), (11, .if_icmp .ge 36, 3, [7])]),
  (false, [(14, .iload_n 1, 1, []), (15, .ifCond .ne 20, 3, [4])]),
  (false, [(18, .aload_n 0, 1, []), (19, .getfield 7, 3, [4, 0]), (22, .iconst 0, 1, []), (23, .iload_n 2, 1, []), (24, .iadd, 1, []), (25, .iaload, 1, []), (26, .aload_n 0, 1, []), (27, .getfield 22, 3, [4, 5]), (30, .iload_n 2, 1, []), (31, .iaload, 1, []), (32, .if_icmp .ge 7, 3, [5])]),
  (false, [(35, .iconst 1, 1, []), (36, .goto 4, 3, [6])]),
  (false, [(39, .iconst 0, 1, [])]),
  (false, [(40, .istore_n 1, 1, []), (41, .iinc 2 1, 3, []), (44, .goto (-36), 3, [1])]),
  (false, [(47, .iload_n 1, 1, []), (48, .ireturn, 1, [1])])]
theorem cb_X4_hasLack_0 : (blk md_X4_hasLack 0).2 = [(0, .aload_n 0, 1, []), (1, .invokevirtual 75, 3, [0, 119, 1, 0]), (4, .iconst 0, 1, []), (5, .istore_n 1, 1, []), (6, .iconst 1, 1, []), (7, .istore_n 2, 1, [])] := rfl
theorem cb_X4_hasLack_1 : (blk md_X4_hasLack 1).2 = [(8, .iload_n 2, 1, []), (9, .bipush 64, 2, []), (11, .if_icmp .ge 36, 3, [7])] := rfl
theorem cb_X4_hasLack_2 : (blk md_X4_hasLack 2).2 = [(14, .iload_n 1, 1, []), (15, .ifCond .ne 20, 3, [4])] := rfl
theorem cb_X4_hasLack_3 : (blk md_X4_hasLack 3).2 = [(18, .aload_n 0, 1, []), (19, .getfield 7, 3, [4, 0]), (22, .iconst 0, 1, []), (23, .iload_n 2, 1, []), (24, .iadd, 1, []), (25, .iaload, 1, []), (26, .aload_n 0, 1, []), (27, .getfield 22, 3, [4, 5]), (30, .iload_n 2, 1, []), (31, .iaload, 1, []), (32, .if_icmp .ge 7, 3, [5])] := rfl
theorem cb_X4_hasLack_4 : (blk md_X4_hasLack 4).2 = [(35, .iconst 1, 1, []), (36, .goto 4, 3, [6])] := rfl
theorem cb_X4_hasLack_5 : (blk md_X4_hasLack 5).2 = [(39, .iconst 0, 1, [])] := rfl
theorem cb_X4_hasLack_6 : (blk md_X4_hasLack 6).2 = [(40, .istore_n 1, 1, []), (41, .iinc 2 1, 3, []), (44, .goto (-36), 3, [1])] := rfl
theorem cb_X4_hasLack_7 : (blk md_X4_hasLack 7).2 = [(47, .iload_n 1, 1, []), (48, .ireturn, 1, [1])] := rfl
def md_X4_may : List mB := [
  (false, [(0, .aload_n 0, 1, []), (1, .getfield 78, 3, [4, 9]), (4, .ifCond .ne 10, 3, [2])]),
  (false, [(7, .aload_n 0, 1, []), (8, .getfield 82, 3, [4, 10]), (11, .ifCond .eq 5, 3, [3])]),
  (false, [(14, .iconst 0, 1, []), (15, .ireturn, 1, [1])]),
  (false, [(16, .aload_n 0, 1, []), (17, .aload_n 0, 1, []), (18, .getfield 85, 3, [4, 7]), (21, .aload_n 0, 1, []), (22, .getfield 89, 3, [4, 8]), (25, .if_icmp .ne 7, 3, [5])]),
  (false, [(28, .iconst 1, 1, []), (29, .goto 4, 3, [6])]),
  (false, [(32, .iconst 0, 1, [])]),
  (false, [(33, .putfield 78, 3, [4, 9, 1]), (36, .aload_n 0, 1, []), (37, .dup, 1, []), (38, .getfield 85, 3, [4, 7]), (41, .aload_n 0, 1, []), (42, .getfield 78, 3, [4, 9]), (45, .ifCond .eq 7, 3, [8])]),
  (false, [(48, .iconst 0, 1, []), (49, .goto 4, 3, [9])]),
  (false, [(52, .iconst 1, 1, [])]),
  (false, [(53, .iadd, 1, []), (54, .putfield 85, 3, [4, 7]), (57, .aload_n 0, 1, []), (58, .getfield 78, 3, [4, 9]), (61, .ifCond .ne 7, 3, [11])]),
  (false, [(64, .iconst 1, 1, []), (65, .goto 4, 3, [12])]),
  (false, [(68, .iconst 0, 1, [])]),
  (false, [(69, .ireturn, 1, [1])])]
theorem cb_X4_may_0 : (blk md_X4_may 0).2 = [(0, .aload_n 0, 1, []), (1, .getfield 78, 3, [4, 9]), (4, .ifCond .ne 10, 3, [2])] := rfl
theorem cb_X4_may_1 : (blk md_X4_may 1).2 = [(7, .aload_n 0, 1, []), (8, .getfield 82, 3, [4, 10]), (11, .ifCond .eq 5, 3, [3])] := rfl
theorem cb_X4_may_2 : (blk md_X4_may 2).2 = [(14, .iconst 0, 1, []), (15, .ireturn, 1, [1])] := rfl
theorem cb_X4_may_3 : (blk md_X4_may 3).2 = [(16, .aload_n 0, 1, []), (17, .aload_n 0, 1, []), (18, .getfield 85, 3, [4, 7]), (21, .aload_n 0, 1, []), (22, .getfield 89, 3, [4, 8]), (25, .if_icmp .ne 7, 3, [5])] := rfl
theorem cb_X4_may_4 : (blk md_X4_may 4).2 = [(28, .iconst 1, 1, []), (29, .goto 4, 3, [6])] := rfl
theorem cb_X4_may_5 : (blk md_X4_may 5).2 = [(32, .iconst 0, 1, [])] := rfl
theorem cb_X4_may_6 : (blk md_X4_may 6).2 = [(33, .putfield 78, 3, [4, 9, 1]), (36, .aload_n 0, 1, []), (37, .dup, 1, []), (38, .getfield 85, 3, [4, 7]), (41, .aload_n 0, 1, []), (42, .getfield 78, 3, [4, 9]), (45, .ifCond .eq 7, 3, [8])] := rfl
theorem cb_X4_may_7 : (blk md_X4_may 7).2 = [(48, .iconst 0, 1, []), (49, .goto 4, 3, [9])] := rfl
theorem cb_X4_may_8 : (blk md_X4_may 8).2 = [(52, .iconst 1, 1, [])] := rfl
theorem cb_X4_may_9 : (blk md_X4_may 9).2 = [(53, .iadd, 1, []), (54, .putfield 85, 3, [4, 7]), (57, .aload_n 0, 1, []), (58, .getfield 78, 3, [4, 9]), (61, .ifCond .ne 7, 3, [11])] := rfl
theorem cb_X4_may_10 : (blk md_X4_may 10).2 = [(64, .iconst 1, 1, []), (65, .goto 4, 3, [12])] := rfl
theorem cb_X4_may_11 : (blk md_X4_may 11).2 = [(68, .iconst 0, 1, [])] := rfl
theorem cb_X4_may_12 : (blk md_X4_may 12).2 = [(69, .ireturn, 1, [1])] := rfl
def md_X4_sets : List mB := [
  (false, [(0, .aload_n 0, 1, []), (1, .invokevirtual 92, 3, [0, 122, 1, 1]), (4, .ifCond .eq 10, 3, [2])]),
  (false, [(7, .aload_n 0, 1, []), (8, .getfield 7, 3, [4, 0]), (11, .iload_n 1, 1, []), (12, .iload_n 2, 1, []), (13, .iastore, 1, [])]),
  (false, [(14, .return_, 1, [])])]
theorem cb_X4_sets_0 : (blk md_X4_sets 0).2 = [(0, .aload_n 0, 1, []), (1, .invokevirtual 92, 3, [0, 122, 1, 1]), (4, .ifCond .eq 10, 3, [2])] := rfl
theorem cb_X4_sets_1 : (blk md_X4_sets 1).2 = [(7, .aload_n 0, 1, []), (8, .getfield 7, 3, [4, 0]), (11, .iload_n 1, 1, []), (12, .iload_n 2, 1, []), (13, .iastore, 1, [])] := rfl
theorem cb_X4_sets_2 : (blk md_X4_sets 2).2 = [(14, .return_, 1, [])] := rfl
def md_X4_counts : List mB := [
  (false, [(0, .aload_n 0, 1, []), (1, .iconst 0, 1, []), (2, .iload_n 1, 1, []), (3, .iadd, 1, []), (4, .aload_n 0, 1, []), (5, .getfield 7, 3, [4, 0]), (8, .iconst 0, 1, []), (9, .iload_n 1, 1, []), (10, .iadd, 1, []), (11, .iaload, 1, []), (12, .iload_n 2, 1, []), (13, .iadd, 1, []), (14, .invokevirtual 96, 3, [0, 123, 3, 0]), (17, .return_, 1, [])])]
theorem cb_X4_counts_0 : (blk md_X4_counts 0).2 = [(0, .aload_n 0, 1, []), (1, .iconst 0, 1, []), (2, .iload_n 1, 1, []), (3, .iadd, 1, []), (4, .aload_n 0, 1, []), (5, .getfield 7, 3, [4, 0]), (8, .iconst 0, 1, []), (9, .iload_n 1, 1, []), (10, .iadd, 1, []), (11, .iaload, 1, []), (12, .iload_n 2, 1, []), (13, .iadd, 1, []), (14, .invokevirtual 96, 3, [0, 123, 3, 0]), (17, .return_, 1, [])] := rfl
def md_X4_setsFour : List mB := [
  (false, [(0, .aload_n 0, 1, []), (1, .invokevirtual 92, 3, [0, 122, 1, 1]), (4, .ifCond .ne 4, 3, [2])]),
  (false, [(7, .return_, 1, [])]),
  (false, [(8, .aload_n 0, 1, []), (9, .getfield 7, 3, [4, 0]), (12, .bipush 64, 2, []), (14, .iconst 4, 1, []), (15, .iload_n 1, 1, []), (16, .imul, 1, []), (17, .iadd, 1, []), (18, .iload_n 2, 1, []), (19, .iastore, 1, []), (20, .aload_n 0, 1, []), (21, .getfield 7, 3, [4, 0]), (24, .bipush 64, 2, []), (26, .iconst 4, 1, []), (27, .iload_n 1, 1, []), (28, .imul, 1, []), (29, .iadd, 1, []), (30, .iconst 1, 1, []), (31, .iadd, 1, []), (32, .iload_n 3, 1, []), (33, .iastore, 1, []), (34, .aload_n 0, 1, []), (35, .getfield 7, 3, [4, 0]), (38, .bipush 64, 2, []), (40, .iconst 4, 1, []), (41, .iload_n 1, 1, []), (42, .imul, 1, []), (43, .iadd, 1, []), (44, .iconst 2, 1, []), (45, .iadd, 1, []), (46, .iload 4, 2, []), (48, .iastore, 1, []), (49, .aload_n 0, 1, []), (50, .getfield 7, 3, [4, 0]), (53, .bipush 64, 2, []), (55, .iconst 4, 1, []), (56, .iload_n 1, 1, []), (57, .imul, 1, []), (58, .iadd, 1, []), (59, .iconst 3, 1, []), (60, .iadd, 1, []), (61, .iload 5, 2, []), (63, .iastore, 1, []), (64, .return_, 1, [])])]
theorem cb_X4_setsFour_0 : (blk md_X4_setsFour 0).2 = [(0, .aload_n 0, 1, []), (1, .invokevirtual 92, 3, [0, 122, 1, 1]), (4, .ifCond .ne 4, 3, [2])] := rfl
theorem cb_X4_setsFour_1 : (blk md_X4_setsFour 1).2 = [(7, .return_, 1, [])] := rfl
theorem cb_X4_setsFour_2 : (blk md_X4_setsFour 2).2 = [(8, .aload_n 0, 1, []), (9, .getfield 7, 3, [4, 0]), (12, .bipush 64, 2, []), (14, .iconst 4, 1, []), (15, .iload_n 1, 1, []), (16, .imul, 1, []), (17, .iadd, 1, []), (18, .iload_n 2, 1, []), (19, .iastore, 1, []), (20, .aload_n 0, 1, []), (21, .getfield 7, 3, [4, 0]), (24, .bipush 64, 2, []), (26, .iconst 4, 1, []), (27, .iload_n 1, 1, []), (28, .imul, 1, []), (29, .iadd, 1, []), (30, .iconst 1, 1, []), (31, .iadd, 1, []), (32, .iload_n 3, 1, []), (33, .iastore, 1, []), (34, .aload_n 0, 1, []), (35, .getfield 7, 3, [4, 0]), (38, .bipush 64, 2, []), (40, .iconst 4, 1, []), (41, .iload_n 1, 1, []), (42, .imul, 1, []), (43, .iadd, 1, []), (44, .iconst 2, 1, []), (45, .iadd, 1, []), (46, .iload 4, 2, []), (48, .iastore, 1, []), (49, .aload_n 0, 1, []), (50, .getfield 7, 3, [4, 0]), (53, .bipush 64, 2, []), (55, .iconst 4, 1, []), (56, .iload_n 1, 1, []), (57, .imul, 1, []), (58, .iadd, 1, []), (59, .iconst 3, 1, []), (60, .iadd, 1, []), (61, .iload 5, 2, []), (63, .iastore, 1, []), (64, .return_, 1, [])] := rfl
def md_X4_copiesCells : List mB := [
  (false, [(0, .aload_n 0, 1, []), (1, .iload_n 2, 1, []), (2, .aload_n 0, 1, []), (3, .getfield 7, 3, [4, 0]), (6, .bipush 64, 2, []), (8, .iconst 4, 1, []), (9, .iload_n 1, 1, []), (10, .imul, 1, []), (11, .iadd, 1, []), (12, .iaload, 1, []), (13, .aload_n 0, 1, []), (14, .getfield 7, 3, [4, 0]), (17, .bipush 64, 2, []), (19, .iconst 4, 1, []), (20, .iload_n 1, 1, []), (21, .imul, 1, []), (22, .iadd, 1, []), (23, .iconst 1, 1, []), (24, .iadd, 1, []), (25, .iaload, 1, []), (26, .aload_n 0, 1, []), (27, .getfield 7, 3, [4, 0]), (30, .bipush 64, 2, []), (32, .iconst 4, 1, []), (33, .iload_n 1, 1, []), (34, .imul, 1, []), (35, .iadd, 1, []), (36, .iconst 2, 1, []), (37, .iadd, 1, []), (38, .iaload, 1, []), (39, .aload_n 0, 1, []), (40, .getfield 7, 3, [4, 0]), (43, .bipush 64, 2, []), (45, .iconst 4, 1, []), (46, .iload_n 1, 1, []), (47, .imul, 1, []), (48, .iadd, 1, []), (49, .iconst 3, 1, []), (50, .iadd, 1, []), (51, .iaload, 1, []), (52, .invokevirtual 100, 3, [0, 125, 6, 0]), (55, .return_, 1, [])])]
theorem cb_X4_copiesCells_0 : (blk md_X4_copiesCells 0).2 = [(0, .aload_n 0, 1, []), (1, .iload_n 2, 1, []), (2, .aload_n 0, 1, []), (3, .getfield 7, 3, [4, 0]), (6, .bipush 64, 2, []), (8, .iconst 4, 1, []), (9, .iload_n 1, 1, []), (10, .imul, 1, []), (11, .iadd, 1, []), (12, .iaload, 1, []), (13, .aload_n 0, 1, []), (14, .getfield 7, 3, [4, 0]), (17, .bipush 64, 2, []), (19, .iconst 4, 1, []), (20, .iload_n 1, 1, []), (21, .imul, 1, []), (22, .iadd, 1, []), (23, .iconst 1, 1, []), (24, .iadd, 1, []), (25, .iaload, 1, []), (26, .aload_n 0, 1, []), (27, .getfield 7, 3, [4, 0]), (30, .bipush 64, 2, []), (32, .iconst 4, 1, []), (33, .iload_n 1, 1, []), (34, .imul, 1, []), (35, .iadd, 1, []), (36, .iconst 2, 1, []), (37, .iadd, 1, []), (38, .iaload, 1, []), (39, .aload_n 0, 1, []), (40, .getfield 7, 3, [4, 0]), (43, .bipush 64, 2, []), (45, .iconst 4, 1, []), (46, .iload_n 1, 1, []), (47, .imul, 1, []), (48, .iadd, 1, []), (49, .iconst 3, 1, []), (50, .iadd, 1, []), (51, .iaload, 1, []), (52, .invokevirtual 100, 3, [0, 125, 6, 0]), (55, .return_, 1, [])] := rfl
def md_X4_anew : List mB := [
  (false, [(0, .iconst 1, 1, []), (1, .istore_n 1, 1, [])]),
  (false, [(2, .iload_n 1, 1, []), (3, .bipush 64, 2, []), (5, .if_icmp .ge 20, 3, [4])]),
  (false, [(8, .aload_n 0, 1, []), (9, .getfield 7, 3, [4, 0]), (12, .iconst 0, 1, []), (13, .iload_n 1, 1, []), (14, .iadd, 1, []), (15, .iaload, 1, []), (16, .ifCond .eq 9, 3, [4])]),
  (false, [(19, .iinc 1 1, 3, []), (22, .goto (-20), 3, [1])]),
  (false, [(25, .iload_n 1, 1, []), (26, .bipush 64, 2, []), (28, .if_icmp .ne 28, 3, [10])]),
  (false, [(31, .aload_n 0, 1, []), (32, .aload_n 0, 1, []), (33, .getfield 82, 3, [4, 10]), (36, .ifCond .ne 10, 3, [7])]),
  (false, [(39, .aload_n 0, 1, []), (40, .getfield 78, 3, [4, 9]), (43, .ifCond .ne 7, 3, [8])]),
  (false, [(46, .iconst 1, 1, []), (47, .goto 4, 3, [9])]),
  (false, [(50, .iconst 0, 1, [])]),
  (false, [(51, .putfield 82, 3, [4, 10, 1]), (54, .iconst 0, 1, []), (55, .ireturn, 1, [])]),
  (false, [(56, .aload_n 0, 1, []), (57, .iconst 0, 1, []), (58, .iload_n 1, 1, []), (59, .iadd, 1, []), (60, .iconst 1, 1, []), (61, .invokevirtual 96, 3, [0, 123, 3, 0]), (64, .iload_n 1, 1, []), (65, .ireturn, 1, [])])]
theorem cb_X4_anew_0 : (blk md_X4_anew 0).2 = [(0, .iconst 1, 1, []), (1, .istore_n 1, 1, [])] := rfl
theorem cb_X4_anew_1 : (blk md_X4_anew 1).2 = [(2, .iload_n 1, 1, []), (3, .bipush 64, 2, []), (5, .if_icmp .ge 20, 3, [4])] := rfl
theorem cb_X4_anew_2 : (blk md_X4_anew 2).2 = [(8, .aload_n 0, 1, []), (9, .getfield 7, 3, [4, 0]), (12, .iconst 0, 1, []), (13, .iload_n 1, 1, []), (14, .iadd, 1, []), (15, .iaload, 1, []), (16, .ifCond .eq 9, 3, [4])] := rfl
theorem cb_X4_anew_3 : (blk md_X4_anew 3).2 = [(19, .iinc 1 1, 3, []), (22, .goto (-20), 3, [1])] := rfl
theorem cb_X4_anew_4 : (blk md_X4_anew 4).2 = [(25, .iload_n 1, 1, []), (26, .bipush 64, 2, []), (28, .if_icmp .ne 28, 3, [10])] := rfl
theorem cb_X4_anew_5 : (blk md_X4_anew 5).2 = [(31, .aload_n 0, 1, []), (32, .aload_n 0, 1, []), (33, .getfield 82, 3, [4, 10]), (36, .ifCond .ne 10, 3, [7])] := rfl
theorem cb_X4_anew_6 : (blk md_X4_anew 6).2 = [(39, .aload_n 0, 1, []), (40, .getfield 78, 3, [4, 9]), (43, .ifCond .ne 7, 3, [8])] := rfl
theorem cb_X4_anew_7 : (blk md_X4_anew 7).2 = [(46, .iconst 1, 1, []), (47, .goto 4, 3, [9])] := rfl
theorem cb_X4_anew_8 : (blk md_X4_anew 8).2 = [(50, .iconst 0, 1, [])] := rfl
theorem cb_X4_anew_9 : (blk md_X4_anew 9).2 = [(51, .putfield 82, 3, [4, 10, 1]), (54, .iconst 0, 1, []), (55, .ireturn, 1, [])] := rfl
theorem cb_X4_anew_10 : (blk md_X4_anew 10).2 = [(56, .aload_n 0, 1, []), (57, .iconst 0, 1, []), (58, .iload_n 1, 1, []), (59, .iadd, 1, []), (60, .iconst 1, 1, []), (61, .invokevirtual 96, 3, [0, 123, 3, 0]), (64, .iload_n 1, 1, []), (65, .ireturn, 1, [])] := rfl
def md_X4_owns : List mB := [
  (false, [(0, .iload_n 1, 1, []), (1, .iload_n 2, 1, []), (2, .iconst 4, 1, []), (3, .idiv, 1, []), (4, .invokestatic 41, 3, [1, 108, 2, 1]), (7, .istore_n 3, 1, []), (8, .aload_n 0, 1, []), (9, .getfield 7, 3, [4, 0]), (12, .iload_n 3, 1, []), (13, .iaload, 1, []), (14, .istore 4, 2, []), (16, .iload 4, 2, []), (18, .ifCond .eq 17, 3, [3])]),
  (false, [(21, .aload_n 0, 1, []), (22, .getfield 7, 3, [4, 0]), (25, .iconst 0, 1, []), (26, .iload 4, 2, []), (28, .iadd, 1, []), (29, .iaload, 1, []), (30, .iconst 1, 1, []), (31, .if_icmp .gt 4, 3, [3])]),
  (false, [(34, .return_, 1, [])]),
  (false, [(35, .aload_n 0, 1, []), (36, .invokevirtual 104, 3, [0, 127, 1, 1]), (39, .istore 5, 2, []), (41, .iload 4, 2, []), (43, .ifCond .ne 16, 3, [5])]),
  (false, [(46, .aload_n 0, 1, []), (47, .iload 5, 2, []), (49, .iconst 0, 1, []), (50, .iconst 0, 1, []), (51, .iconst 0, 1, []), (52, .iconst 0, 1, []), (53, .invokevirtual 100, 3, [0, 125, 6, 0]), (56, .goto 11, 3, [6])]),
  (false, [(59, .aload_n 0, 1, []), (60, .iload 4, 2, []), (62, .iload 5, 2, []), (64, .invokevirtual 108, 3, [0, 126, 3, 0])]),
  (false, [(67, .iconst 0, 1, []), (68, .istore 6, 2, [])]),
  (false, [(70, .iload 6, 2, []), (72, .iconst 4, 1, []), (73, .if_icmp .ge 52, 3, [12])]),
  (false, [(76, .iload 4, 2, []), (78, .ifCond .eq 47, 3, [12])]),
  (false, [(81, .aload_n 0, 1, []), (82, .getfield 7, 3, [4, 0]), (85, .bipush 64, 2, []), (87, .iconst 4, 1, []), (88, .iload 4, 2, []), (90, .imul, 1, []), (91, .iadd, 1, []), (92, .iload 6, 2, []), (94, .iadd, 1, []), (95, .iaload, 1, []), (96, .ifCond .eq 23, 3, [11])]),
  (false, [(99, .aload_n 0, 1, []), (100, .aload_n 0, 1, []), (101, .getfield 7, 3, [4, 0]), (104, .bipush 64, 2, []), (106, .iconst 4, 1, []), (107, .iload 4, 2, []), (109, .imul, 1, []), (110, .iadd, 1, []), (111, .iload 6, 2, []), (113, .iadd, 1, []), (114, .iaload, 1, []), (115, .iconst 1, 1, []), (116, .invokevirtual 111, 3, [0, 124, 3, 0])]),
  (false, [(119, .iinc 6 1, 3, []), (122, .goto (-52), 3, [7])]),
  (false, [(125, .aload_n 0, 1, []), (126, .iload_n 3, 1, []), (127, .iload 5, 2, []), (129, .invokevirtual 96, 3, [0, 123, 3, 0]), (132, .iload 4, 2, []), (134, .ifCond .eq 10, 3, [14])]),
  (false, [(137, .aload_n 0, 1, []), (138, .iload 4, 2, []), (140, .iconst (-1), 1, []), (141, .invokevirtual 111, 3, [0, 124, 3, 0])]),
  (false, [(144, .return_, 1, [])])]
theorem cb_X4_owns_0 : (blk md_X4_owns 0).2 = [(0, .iload_n 1, 1, []), (1, .iload_n 2, 1, []), (2, .iconst 4, 1, []), (3, .idiv, 1, []), (4, .invokestatic 41, 3, [1, 108, 2, 1]), (7, .istore_n 3, 1, []), (8, .aload_n 0, 1, []), (9, .getfield 7, 3, [4, 0]), (12, .iload_n 3, 1, []), (13, .iaload, 1, []), (14, .istore 4, 2, []), (16, .iload 4, 2, []), (18, .ifCond .eq 17, 3, [3])] := rfl
theorem cb_X4_owns_1 : (blk md_X4_owns 1).2 = [(21, .aload_n 0, 1, []), (22, .getfield 7, 3, [4, 0]), (25, .iconst 0, 1, []), (26, .iload 4, 2, []), (28, .iadd, 1, []), (29, .iaload, 1, []), (30, .iconst 1, 1, []), (31, .if_icmp .gt 4, 3, [3])] := rfl
theorem cb_X4_owns_2 : (blk md_X4_owns 2).2 = [(34, .return_, 1, [])] := rfl
theorem cb_X4_owns_3 : (blk md_X4_owns 3).2 = [(35, .aload_n 0, 1, []), (36, .invokevirtual 104, 3, [0, 127, 1, 1]), (39, .istore 5, 2, []), (41, .iload 4, 2, []), (43, .ifCond .ne 16, 3, [5])] := rfl
theorem cb_X4_owns_4 : (blk md_X4_owns 4).2 = [(46, .aload_n 0, 1, []), (47, .iload 5, 2, []), (49, .iconst 0, 1, []), (50, .iconst 0, 1, []), (51, .iconst 0, 1, []), (52, .iconst 0, 1, []), (53, .invokevirtual 100, 3, [0, 125, 6, 0]), (56, .goto 11, 3, [6])] := rfl
theorem cb_X4_owns_5 : (blk md_X4_owns 5).2 = [(59, .aload_n 0, 1, []), (60, .iload 4, 2, []), (62, .iload 5, 2, []), (64, .invokevirtual 108, 3, [0, 126, 3, 0])] := rfl
theorem cb_X4_owns_6 : (blk md_X4_owns 6).2 = [(67, .iconst 0, 1, []), (68, .istore 6, 2, [])] := rfl
theorem cb_X4_owns_7 : (blk md_X4_owns 7).2 = [(70, .iload 6, 2, []), (72, .iconst 4, 1, []), (73, .if_icmp .ge 52, 3, [12])] := rfl
theorem cb_X4_owns_8 : (blk md_X4_owns 8).2 = [(76, .iload 4, 2, []), (78, .ifCond .eq 47, 3, [12])] := rfl
theorem cb_X4_owns_9 : (blk md_X4_owns 9).2 = [(81, .aload_n 0, 1, []), (82, .getfield 7, 3, [4, 0]), (85, .bipush 64, 2, []), (87, .iconst 4, 1, []), (88, .iload 4, 2, []), (90, .imul, 1, []), (91, .iadd, 1, []), (92, .iload 6, 2, []), (94, .iadd, 1, []), (95, .iaload, 1, []), (96, .ifCond .eq 23, 3, [11])] := rfl
theorem cb_X4_owns_10 : (blk md_X4_owns 10).2 = [(99, .aload_n 0, 1, []), (100, .aload_n 0, 1, []), (101, .getfield 7, 3, [4, 0]), (104, .bipush 64, 2, []), (106, .iconst 4, 1, []), (107, .iload 4, 2, []), (109, .imul, 1, []), (110, .iadd, 1, []), (111, .iload 6, 2, []), (113, .iadd, 1, []), (114, .iaload, 1, []), (115, .iconst 1, 1, []), (116, .invokevirtual 111, 3, [0, 124, 3, 0])] := rfl
theorem cb_X4_owns_11 : (blk md_X4_owns 11).2 = [(119, .iinc 6 1, 3, []), (122, .goto (-52), 3, [7])] := rfl
theorem cb_X4_owns_12 : (blk md_X4_owns 12).2 = [(125, .aload_n 0, 1, []), (126, .iload_n 3, 1, []), (127, .iload 5, 2, []), (129, .invokevirtual 96, 3, [0, 123, 3, 0]), (132, .iload 4, 2, []), (134, .ifCond .eq 10, 3, [14])] := rfl
theorem cb_X4_owns_13 : (blk md_X4_owns 13).2 = [(137, .aload_n 0, 1, []), (138, .iload 4, 2, []), (140, .iconst (-1), 1, []), (141, .invokevirtual 111, 3, [0, 124, 3, 0])] := rfl
theorem cb_X4_owns_14 : (blk md_X4_owns 14).2 = [(144, .return_, 1, [])] := rfl
def md_X4_releases : List mB := [
  (false, [(0, .iload_n 1, 1, []), (1, .ifCond .ne 4, 3, [2])]),
  (false, [(4, .return_, 1, [])]),
  (false, [(5, .aload_n 0, 1, []), (6, .iload_n 1, 1, []), (7, .iconst (-1), 1, []), (8, .invokevirtual 111, 3, [0, 124, 3, 0]), (11, .aload_n 0, 1, []), (12, .getfield 7, 3, [4, 0]), (15, .iconst 0, 1, []), (16, .iload_n 1, 1, []), (17, .iadd, 1, []), (18, .iaload, 1, []), (19, .ifCond .eq 4, 3, [4])]),
  (false, [(22, .return_, 1, [])]),
  (false, [(23, .iconst 0, 1, []), (24, .istore_n 2, 1, [])]),
  (false, [(25, .iload_n 2, 1, []), (26, .iconst 4, 1, []), (27, .if_icmp .ge 43, 3, [9])]),
  (false, [(30, .aload_n 0, 1, []), (31, .getfield 7, 3, [4, 0]), (34, .bipush 64, 2, []), (36, .iconst 4, 1, []), (37, .iload_n 1, 1, []), (38, .imul, 1, []), (39, .iadd, 1, []), (40, .iload_n 2, 1, []), (41, .iadd, 1, []), (42, .iaload, 1, []), (43, .ifCond .eq 21, 3, [8])]),
  (false, [(46, .aload_n 0, 1, []), (47, .aload_n 0, 1, []), (48, .getfield 7, 3, [4, 0]), (51, .bipush 64, 2, []), (53, .iconst 4, 1, []), (54, .iload_n 1, 1, []), (55, .imul, 1, []), (56, .iadd, 1, []), (57, .iload_n 2, 1, []), (58, .iadd, 1, []), (59, .iaload, 1, []), (60, .iconst (-1), 1, []), (61, .invokevirtual 111, 3, [0, 124, 3, 0])]),
  (false, [(64, .iinc 2 1, 3, []), (67, .goto (-42), 3, [5])]),
  (false, [(70, .return_, 1, [])])]
theorem cb_X4_releases_0 : (blk md_X4_releases 0).2 = [(0, .iload_n 1, 1, []), (1, .ifCond .ne 4, 3, [2])] := rfl
theorem cb_X4_releases_1 : (blk md_X4_releases 1).2 = [(4, .return_, 1, [])] := rfl
theorem cb_X4_releases_2 : (blk md_X4_releases 2).2 = [(5, .aload_n 0, 1, []), (6, .iload_n 1, 1, []), (7, .iconst (-1), 1, []), (8, .invokevirtual 111, 3, [0, 124, 3, 0]), (11, .aload_n 0, 1, []), (12, .getfield 7, 3, [4, 0]), (15, .iconst 0, 1, []), (16, .iload_n 1, 1, []), (17, .iadd, 1, []), (18, .iaload, 1, []), (19, .ifCond .eq 4, 3, [4])] := rfl
theorem cb_X4_releases_3 : (blk md_X4_releases 3).2 = [(22, .return_, 1, [])] := rfl
theorem cb_X4_releases_4 : (blk md_X4_releases 4).2 = [(23, .iconst 0, 1, []), (24, .istore_n 2, 1, [])] := rfl
theorem cb_X4_releases_5 : (blk md_X4_releases 5).2 = [(25, .iload_n 2, 1, []), (26, .iconst 4, 1, []), (27, .if_icmp .ge 43, 3, [9])] := rfl
theorem cb_X4_releases_6 : (blk md_X4_releases 6).2 = [(30, .aload_n 0, 1, []), (31, .getfield 7, 3, [4, 0]), (34, .bipush 64, 2, []), (36, .iconst 4, 1, []), (37, .iload_n 1, 1, []), (38, .imul, 1, []), (39, .iadd, 1, []), (40, .iload_n 2, 1, []), (41, .iadd, 1, []), (42, .iaload, 1, []), (43, .ifCond .eq 21, 3, [8])] := rfl
theorem cb_X4_releases_7 : (blk md_X4_releases 7).2 = [(46, .aload_n 0, 1, []), (47, .aload_n 0, 1, []), (48, .getfield 7, 3, [4, 0]), (51, .bipush 64, 2, []), (53, .iconst 4, 1, []), (54, .iload_n 1, 1, []), (55, .imul, 1, []), (56, .iadd, 1, []), (57, .iload_n 2, 1, []), (58, .iadd, 1, []), (59, .iaload, 1, []), (60, .iconst (-1), 1, []), (61, .invokevirtual 111, 3, [0, 124, 3, 0])] := rfl
theorem cb_X4_releases_8 : (blk md_X4_releases 8).2 = [(64, .iinc 2 1, 3, []), (67, .goto (-42), 3, [5])] := rfl
theorem cb_X4_releases_9 : (blk md_X4_releases 9).2 = [(70, .return_, 1, [])] := rfl
def md_X4_writes : List mB := [
  (false, [(0, .iload_n 2, 1, []), (1, .iconst 4, 1, []), (2, .idiv, 1, []), (3, .istore 4, 2, []), (5, .aload_n 0, 1, []), (6, .iload_n 1, 1, []), (7, .iload 4, 2, []), (9, .invokevirtual 114, 3, [0, 128, 3, 0]), (12, .bipush 64, 2, []), (14, .iconst 4, 1, []), (15, .aload_n 0, 1, []), (16, .getfield 7, 3, [4, 0]), (19, .iload_n 1, 1, []), (20, .iload 4, 2, []), (22, .iconst 4, 1, []), (23, .idiv, 1, []), (24, .invokestatic 41, 3, [1, 108, 2, 1]), (27, .iaload, 1, []), (28, .imul, 1, []), (29, .iadd, 1, []), (30, .iload 4, 2, []), (32, .iconst 4, 1, []), (33, .irem, 1, []), (34, .iadd, 1, []), (35, .istore 5, 2, []), (37, .aload_n 0, 1, []), (38, .getfield 7, 3, [4, 0]), (41, .iload 5, 2, []), (43, .iaload, 1, []), (44, .istore 6, 2, []), (46, .iload 6, 2, []), (48, .istore 7, 2, []), (50, .iload 6, 2, []), (52, .ifCond .ne 68, 3, [2])]),
  (false, [(55, .aload_n 0, 1, []), (56, .invokevirtual 104, 3, [0, 127, 1, 1]), (59, .istore 7, 2, []), (61, .aload_n 0, 1, []), (62, .iload 7, 2, []), (64, .aload_n 0, 1, []), (65, .iload_n 1, 1, []), (66, .iconst 4, 1, []), (67, .iload 4, 2, []), (69, .imul, 1, []), (70, .invokevirtual 63, 3, [0, 111, 3, 1]), (73, .aload_n 0, 1, []), (74, .iload_n 1, 1, []), (75, .iconst 4, 1, []), (76, .iload 4, 2, []), (78, .imul, 1, []), (79, .iconst 1, 1, []), (80, .iadd, 1, []), (81, .invokevirtual 63, 3, [0, 111, 3, 1]), (84, .aload_n 0, 1, []), (85, .iload_n 1, 1, []), (86, .iconst 4, 1, []), (87, .iload 4, 2, []), (89, .imul, 1, []), (90, .iconst 2, 1, []), (91, .iadd, 1, []), (92, .invokevirtual 63, 3, [0, 111, 3, 1]), (95, .aload_n 0, 1, []), (96, .iload_n 1, 1, []), (97, .iconst 4, 1, []), (98, .iload 4, 2, []), (100, .imul, 1, []), (101, .iconst 3, 1, []), (102, .iadd, 1, []), (103, .invokevirtual 63, 3, [0, 111, 3, 1]), (106, .invokevirtual 100, 3, [0, 125, 6, 0]), (109, .aload_n 0, 1, []), (110, .iload 5, 2, []), (112, .iload 7, 2, []), (114, .invokevirtual 96, 3, [0, 123, 3, 0]), (117, .goto 45, 3, [4])]),
  (false, [(120, .aload_n 0, 1, []), (121, .getfield 7, 3, [4, 0]), (124, .iconst 0, 1, []), (125, .iload 6, 2, []), (127, .iadd, 1, []), (128, .iaload, 1, []), (129, .iconst 1, 1, []), (130, .if_icmp .le 32, 3, [4])]),
  (false, [(133, .aload_n 0, 1, []), (134, .invokevirtual 104, 3, [0, 127, 1, 1]), (137, .istore 7, 2, []), (139, .aload_n 0, 1, []), (140, .iload 6, 2, []), (142, .iload 7, 2, []), (144, .invokevirtual 108, 3, [0, 126, 3, 0]), (147, .aload_n 0, 1, []), (148, .iload 5, 2, []), (150, .iload 7, 2, []), (152, .invokevirtual 96, 3, [0, 123, 3, 0]), (155, .aload_n 0, 1, []), (156, .iload 6, 2, []), (158, .iconst (-1), 1, []), (159, .invokevirtual 111, 3, [0, 124, 3, 0])]),
  (false, [(162, .aload_n 0, 1, []), (163, .bipush 64, 2, []), (165, .iconst 4, 1, []), (166, .iload 7, 2, []), (168, .imul, 1, []), (169, .iadd, 1, []), (170, .iload_n 2, 1, []), (171, .iconst 4, 1, []), (172, .irem, 1, []), (173, .iadd, 1, []), (174, .iload_n 3, 1, []), (175, .invokevirtual 96, 3, [0, 123, 3, 0]), (178, .return_, 1, [])])]
theorem cb_X4_writes_0 : (blk md_X4_writes 0).2 = [(0, .iload_n 2, 1, []), (1, .iconst 4, 1, []), (2, .idiv, 1, []), (3, .istore 4, 2, []), (5, .aload_n 0, 1, []), (6, .iload_n 1, 1, []), (7, .iload 4, 2, []), (9, .invokevirtual 114, 3, [0, 128, 3, 0]), (12, .bipush 64, 2, []), (14, .iconst 4, 1, []), (15, .aload_n 0, 1, []), (16, .getfield 7, 3, [4, 0]), (19, .iload_n 1, 1, []), (20, .iload 4, 2, []), (22, .iconst 4, 1, []), (23, .idiv, 1, []), (24, .invokestatic 41, 3, [1, 108, 2, 1]), (27, .iaload, 1, []), (28, .imul, 1, []), (29, .iadd, 1, []), (30, .iload 4, 2, []), (32, .iconst 4, 1, []), (33, .irem, 1, []), (34, .iadd, 1, []), (35, .istore 5, 2, []), (37, .aload_n 0, 1, []), (38, .getfield 7, 3, [4, 0]), (41, .iload 5, 2, []), (43, .iaload, 1, []), (44, .istore 6, 2, []), (46, .iload 6, 2, []), (48, .istore 7, 2, []), (50, .iload 6, 2, []), (52, .ifCond .ne 68, 3, [2])] := rfl
theorem cb_X4_writes_1 : (blk md_X4_writes 1).2 = [(55, .aload_n 0, 1, []), (56, .invokevirtual 104, 3, [0, 127, 1, 1]), (59, .istore 7, 2, []), (61, .aload_n 0, 1, []), (62, .iload 7, 2, []), (64, .aload_n 0, 1, []), (65, .iload_n 1, 1, []), (66, .iconst 4, 1, []), (67, .iload 4, 2, []), (69, .imul, 1, []), (70, .invokevirtual 63, 3, [0, 111, 3, 1]), (73, .aload_n 0, 1, []), (74, .iload_n 1, 1, []), (75, .iconst 4, 1, []), (76, .iload 4, 2, []), (78, .imul, 1, []), (79, .iconst 1, 1, []), (80, .iadd, 1, []), (81, .invokevirtual 63, 3, [0, 111, 3, 1]), (84, .aload_n 0, 1, []), (85, .iload_n 1, 1, []), (86, .iconst 4, 1, []), (87, .iload 4, 2, []), (89, .imul, 1, []), (90, .iconst 2, 1, []), (91, .iadd, 1, []), (92, .invokevirtual 63, 3, [0, 111, 3, 1]), (95, .aload_n 0, 1, []), (96, .iload_n 1, 1, []), (97, .iconst 4, 1, []), (98, .iload 4, 2, []), (100, .imul, 1, []), (101, .iconst 3, 1, []), (102, .iadd, 1, []), (103, .invokevirtual 63, 3, [0, 111, 3, 1]), (106, .invokevirtual 100, 3, [0, 125, 6, 0]), (109, .aload_n 0, 1, []), (110, .iload 5, 2, []), (112, .iload 7, 2, []), (114, .invokevirtual 96, 3, [0, 123, 3, 0]), (117, .goto 45, 3, [4])] := rfl
theorem cb_X4_writes_2 : (blk md_X4_writes 2).2 = [(120, .aload_n 0, 1, []), (121, .getfield 7, 3, [4, 0]), (124, .iconst 0, 1, []), (125, .iload 6, 2, []), (127, .iadd, 1, []), (128, .iaload, 1, []), (129, .iconst 1, 1, []), (130, .if_icmp .le 32, 3, [4])] := rfl
theorem cb_X4_writes_3 : (blk md_X4_writes 3).2 = [(133, .aload_n 0, 1, []), (134, .invokevirtual 104, 3, [0, 127, 1, 1]), (137, .istore 7, 2, []), (139, .aload_n 0, 1, []), (140, .iload 6, 2, []), (142, .iload 7, 2, []), (144, .invokevirtual 108, 3, [0, 126, 3, 0]), (147, .aload_n 0, 1, []), (148, .iload 5, 2, []), (150, .iload 7, 2, []), (152, .invokevirtual 96, 3, [0, 123, 3, 0]), (155, .aload_n 0, 1, []), (156, .iload 6, 2, []), (158, .iconst (-1), 1, []), (159, .invokevirtual 111, 3, [0, 124, 3, 0])] := rfl
theorem cb_X4_writes_4 : (blk md_X4_writes 4).2 = [(162, .aload_n 0, 1, []), (163, .bipush 64, 2, []), (165, .iconst 4, 1, []), (166, .iload 7, 2, []), (168, .imul, 1, []), (169, .iadd, 1, []), (170, .iload_n 2, 1, []), (171, .iconst 4, 1, []), (172, .irem, 1, []), (173, .iadd, 1, []), (174, .iload_n 3, 1, []), (175, .invokevirtual 96, 3, [0, 123, 3, 0]), (178, .return_, 1, [])] := rfl
def md_X4_remembers : List mB := [
  (false, [(0, .iconst 0, 1, []), (1, .istore_n 2, 1, [])]),
  (false, [(2, .iload_n 2, 1, []), (3, .iconst 4, 1, []), (4, .if_icmp .ge 25, 3, [3])]),
  (false, [(7, .aload_n 0, 1, []), (8, .getfield 28, 3, [4, 12]), (11, .iload_n 2, 1, []), (12, .aload_n 0, 1, []), (13, .getfield 7, 3, [4, 0]), (16, .iload_n 1, 1, []), (17, .iload_n 2, 1, []), (18, .invokestatic 41, 3, [1, 108, 2, 1]), (21, .iaload, 1, []), (22, .iastore, 1, []), (23, .iinc 2 1, 3, []), (26, .goto (-24), 3, [1])]),
  (false, [(29, .return_, 1, [])])]
theorem cb_X4_remembers_0 : (blk md_X4_remembers 0).2 = [(0, .iconst 0, 1, []), (1, .istore_n 2, 1, [])] := rfl
theorem cb_X4_remembers_1 : (blk md_X4_remembers 1).2 = [(2, .iload_n 2, 1, []), (3, .iconst 4, 1, []), (4, .if_icmp .ge 25, 3, [3])] := rfl
theorem cb_X4_remembers_2 : (blk md_X4_remembers 2).2 = [(7, .aload_n 0, 1, []), (8, .getfield 28, 3, [4, 12]), (11, .iload_n 2, 1, []), (12, .aload_n 0, 1, []), (13, .getfield 7, 3, [4, 0]), (16, .iload_n 1, 1, []), (17, .iload_n 2, 1, []), (18, .invokestatic 41, 3, [1, 108, 2, 1]), (21, .iaload, 1, []), (22, .iastore, 1, []), (23, .iinc 2 1, 3, []), (26, .goto (-24), 3, [1])] := rfl
theorem cb_X4_remembers_3 : (blk md_X4_remembers 3).2 = [(29, .return_, 1, [])] := rfl
def md_X4_releasesHad : List mB := [
  (false, [(0, .iconst 0, 1, []), (1, .istore_n 1, 1, [])]),
  (false, [(2, .iload_n 1, 1, []), (3, .iconst 4, 1, []), (4, .if_icmp .ge 19, 3, [3])]),
  (false, [(7, .aload_n 0, 1, []), (8, .aload_n 0, 1, []), (9, .getfield 28, 3, [4, 12]), (12, .iload_n 1, 1, []), (13, .iaload, 1, []), (14, .invokevirtual 117, 3, [0, 129, 2, 0]), (17, .iinc 1 1, 3, []), (20, .goto (-18), 3, [1])]),
  (false, [(23, .return_, 1, [])])]
theorem cb_X4_releasesHad_0 : (blk md_X4_releasesHad 0).2 = [(0, .iconst 0, 1, []), (1, .istore_n 1, 1, [])] := rfl
theorem cb_X4_releasesHad_1 : (blk md_X4_releasesHad 1).2 = [(2, .iload_n 1, 1, []), (3, .iconst 4, 1, []), (4, .if_icmp .ge 19, 3, [3])] := rfl
theorem cb_X4_releasesHad_2 : (blk md_X4_releasesHad 2).2 = [(7, .aload_n 0, 1, []), (8, .aload_n 0, 1, []), (9, .getfield 28, 3, [4, 12]), (12, .iload_n 1, 1, []), (13, .iaload, 1, []), (14, .invokevirtual 117, 3, [0, 129, 2, 0]), (17, .iinc 1 1, 3, []), (20, .goto (-18), 3, [1])] := rfl
theorem cb_X4_releasesHad_3 : (blk md_X4_releasesHad 3).2 = [(23, .return_, 1, [])] := rfl
def md_X4_countsTables : List mB := [
  (false, [(0, .iconst 0, 1, []), (1, .istore_n 2, 1, [])]),
  (false, [(2, .iload_n 2, 1, []), (3, .iconst 4, 1, []), (4, .if_icmp .ge 37, 3, [5])]),
  (false, [(7, .aload_n 0, 1, []), (8, .getfield 7, 3, [4, 0]), (11, .iload_n 1, 1, []), (12, .iload_n 2, 1, []), (13, .invokestatic 41, 3, [1, 108, 2, 1]), (16, .iaload, 1, []), (17, .ifCond .eq 18, 3, [4])]),
  (false, [(20, .aload_n 0, 1, []), (21, .aload_n 0, 1, []), (22, .getfield 7, 3, [4, 0]), (25, .iload_n 1, 1, []), (26, .iload_n 2, 1, []), (27, .invokestatic 41, 3, [1, 108, 2, 1]), (30, .iaload, 1, []), (31, .iconst 1, 1, []), (32, .invokevirtual 111, 3, [0, 124, 3, 0])]),
  (false, [(35, .iinc 2 1, 3, []), (38, .goto (-36), 3, [1])]),
  (false, [(41, .return_, 1, [])])]
theorem cb_X4_countsTables_0 : (blk md_X4_countsTables 0).2 = [(0, .iconst 0, 1, []), (1, .istore_n 2, 1, [])] := rfl
theorem cb_X4_countsTables_1 : (blk md_X4_countsTables 1).2 = [(2, .iload_n 2, 1, []), (3, .iconst 4, 1, []), (4, .if_icmp .ge 37, 3, [5])] := rfl
theorem cb_X4_countsTables_2 : (blk md_X4_countsTables 2).2 = [(7, .aload_n 0, 1, []), (8, .getfield 7, 3, [4, 0]), (11, .iload_n 1, 1, []), (12, .iload_n 2, 1, []), (13, .invokestatic 41, 3, [1, 108, 2, 1]), (16, .iaload, 1, []), (17, .ifCond .eq 18, 3, [4])] := rfl
theorem cb_X4_countsTables_3 : (blk md_X4_countsTables 3).2 = [(20, .aload_n 0, 1, []), (21, .aload_n 0, 1, []), (22, .getfield 7, 3, [4, 0]), (25, .iload_n 1, 1, []), (26, .iload_n 2, 1, []), (27, .invokestatic 41, 3, [1, 108, 2, 1]), (30, .iaload, 1, []), (31, .iconst 1, 1, []), (32, .invokevirtual 111, 3, [0, 124, 3, 0])] := rfl
theorem cb_X4_countsTables_4 : (blk md_X4_countsTables 4).2 = [(35, .iinc 2 1, 3, []), (38, .goto (-36), 3, [1])] := rfl
theorem cb_X4_countsTables_5 : (blk md_X4_countsTables 5).2 = [(41, .return_, 1, [])] := rfl
def md_X4_setsDirectory : List mB := [
  (false, [(0, .aload_n 0, 1, []), (1, .invokevirtual 92, 3, [0, 122, 1, 1]), (4, .ifCond .ne 4, 3, [2])]),
  (false, [(7, .return_, 1, [])]),
  (false, [(8, .iconst 0, 1, []), (9, .istore_n 3, 1, [])]),
  (false, [(10, .iload_n 3, 1, []), (11, .iconst 4, 1, []), (12, .if_icmp .ge 38, 3, [8])]),
  (false, [(15, .aload_n 0, 1, []), (16, .getfield 7, 3, [4, 0]), (19, .iload_n 1, 1, []), (20, .iload_n 3, 1, []), (21, .invokestatic 41, 3, [1, 108, 2, 1]), (24, .iload_n 2, 1, []), (25, .iconst (-1), 1, []), (26, .if_icmp .ne 7, 3, [6])]),
  (false, [(29, .iconst 0, 1, []), (30, .goto 13, 3, [7])]),
  (false, [(33, .aload_n 0, 1, []), (34, .getfield 7, 3, [4, 0]), (37, .iload_n 2, 1, []), (38, .iload_n 3, 1, []), (39, .invokestatic 41, 3, [1, 108, 2, 1]), (42, .iaload, 1, [])]),
  (false, [(43, .iastore, 1, []), (44, .iinc 3 1, 3, []), (47, .goto (-37), 3, [3])]),
  (false, [(50, .return_, 1, [])])]
theorem cb_X4_setsDirectory_0 : (blk md_X4_setsDirectory 0).2 = [(0, .aload_n 0, 1, []), (1, .invokevirtual 92, 3, [0, 122, 1, 1]), (4, .ifCond .ne 4, 3, [2])] := rfl
theorem cb_X4_setsDirectory_1 : (blk md_X4_setsDirectory 1).2 = [(7, .return_, 1, [])] := rfl
theorem cb_X4_setsDirectory_2 : (blk md_X4_setsDirectory 2).2 = [(8, .iconst 0, 1, []), (9, .istore_n 3, 1, [])] := rfl
theorem cb_X4_setsDirectory_3 : (blk md_X4_setsDirectory 3).2 = [(10, .iload_n 3, 1, []), (11, .iconst 4, 1, []), (12, .if_icmp .ge 38, 3, [8])] := rfl
theorem cb_X4_setsDirectory_4 : (blk md_X4_setsDirectory 4).2 = [(15, .aload_n 0, 1, []), (16, .getfield 7, 3, [4, 0]), (19, .iload_n 1, 1, []), (20, .iload_n 3, 1, []), (21, .invokestatic 41, 3, [1, 108, 2, 1]), (24, .iload_n 2, 1, []), (25, .iconst (-1), 1, []), (26, .if_icmp .ne 7, 3, [6])] := rfl
theorem cb_X4_setsDirectory_5 : (blk md_X4_setsDirectory 5).2 = [(29, .iconst 0, 1, []), (30, .goto 13, 3, [7])] := rfl
theorem cb_X4_setsDirectory_6 : (blk md_X4_setsDirectory 6).2 = [(33, .aload_n 0, 1, []), (34, .getfield 7, 3, [4, 0]), (37, .iload_n 2, 1, []), (38, .iload_n 3, 1, []), (39, .invokestatic 41, 3, [1, 108, 2, 1]), (42, .iaload, 1, [])] := rfl
theorem cb_X4_setsDirectory_7 : (blk md_X4_setsDirectory 7).2 = [(43, .iastore, 1, []), (44, .iinc 3 1, 3, []), (47, .goto (-37), 3, [3])] := rfl
theorem cb_X4_setsDirectory_8 : (blk md_X4_setsDirectory 8).2 = [(50, .return_, 1, [])] := rfl
def md_X4_snaps : List mB := [
  (false, [(0, .aload_n 0, 1, []), (1, .iload_n 1, 1, []), (2, .invokevirtual 121, 3, [0, 133, 2, 0]), (5, .aload_n 0, 1, []), (6, .invokevirtual 92, 3, [0, 122, 1, 1]), (9, .ifCond .ne 4, 3, [2])]),
  (false, [(12, .return_, 1, [])]),
  (false, [(13, .aload_n 0, 1, []), (14, .getfield 7, 3, [4, 0]), (17, .sipush 383, 3, []), (20, .iload_n 2, 1, []), (21, .iadd, 1, []), (22, .iconst 1, 1, []), (23, .iastore, 1, []), (24, .aload_n 0, 1, []), (25, .getfield 7, 3, [4, 0]), (28, .sipush 391, 3, []), (31, .iload_n 2, 1, []), (32, .iadd, 1, []), (33, .iload_n 1, 1, []), (34, .iastore, 1, []), (35, .iconst 0, 1, []), (36, .istore_n 3, 1, [])]),
  (false, [(37, .iload_n 3, 1, []), (38, .iconst 4, 1, []), (39, .if_icmp .ge 32, 3, [5])]),
  (false, [(42, .aload_n 0, 1, []), (43, .getfield 7, 3, [4, 0]), (46, .bipush 6, 2, []), (48, .iload_n 2, 1, []), (49, .iadd, 1, []), (50, .iload_n 3, 1, []), (51, .invokestatic 41, 3, [1, 108, 2, 1]), (54, .aload_n 0, 1, []), (55, .getfield 7, 3, [4, 0]), (58, .iload_n 1, 1, []), (59, .iload_n 3, 1, []), (60, .invokestatic 41, 3, [1, 108, 2, 1]), (63, .iaload, 1, []), (64, .iastore, 1, []), (65, .iinc 3 1, 3, []), (68, .goto (-31), 3, [3])]),
  (false, [(71, .return_, 1, [])])]
theorem cb_X4_snaps_0 : (blk md_X4_snaps 0).2 = [(0, .aload_n 0, 1, []), (1, .iload_n 1, 1, []), (2, .invokevirtual 121, 3, [0, 133, 2, 0]), (5, .aload_n 0, 1, []), (6, .invokevirtual 92, 3, [0, 122, 1, 1]), (9, .ifCond .ne 4, 3, [2])] := rfl
theorem cb_X4_snaps_1 : (blk md_X4_snaps 1).2 = [(12, .return_, 1, [])] := rfl
theorem cb_X4_snaps_2 : (blk md_X4_snaps 2).2 = [(13, .aload_n 0, 1, []), (14, .getfield 7, 3, [4, 0]), (17, .sipush 383, 3, []), (20, .iload_n 2, 1, []), (21, .iadd, 1, []), (22, .iconst 1, 1, []), (23, .iastore, 1, []), (24, .aload_n 0, 1, []), (25, .getfield 7, 3, [4, 0]), (28, .sipush 391, 3, []), (31, .iload_n 2, 1, []), (32, .iadd, 1, []), (33, .iload_n 1, 1, []), (34, .iastore, 1, []), (35, .iconst 0, 1, []), (36, .istore_n 3, 1, [])] := rfl
theorem cb_X4_snaps_3 : (blk md_X4_snaps 3).2 = [(37, .iload_n 3, 1, []), (38, .iconst 4, 1, []), (39, .if_icmp .ge 32, 3, [5])] := rfl
theorem cb_X4_snaps_4 : (blk md_X4_snaps 4).2 = [(42, .aload_n 0, 1, []), (43, .getfield 7, 3, [4, 0]), (46, .bipush 6, 2, []), (48, .iload_n 2, 1, []), (49, .iadd, 1, []), (50, .iload_n 3, 1, []), (51, .invokestatic 41, 3, [1, 108, 2, 1]), (54, .aload_n 0, 1, []), (55, .getfield 7, 3, [4, 0]), (58, .iload_n 1, 1, []), (59, .iload_n 3, 1, []), (60, .invokestatic 41, 3, [1, 108, 2, 1]), (63, .iaload, 1, []), (64, .iastore, 1, []), (65, .iinc 3 1, 3, []), (68, .goto (-31), 3, [3])] := rfl
theorem cb_X4_snaps_5 : (blk md_X4_snaps 5).2 = [(71, .return_, 1, [])] := rfl
def md_X4_drops : List mB := [
  (false, [(0, .aload_n 0, 1, []), (1, .bipush 6, 2, []), (3, .iload_n 1, 1, []), (4, .iadd, 1, []), (5, .invokevirtual 124, 3, [0, 131, 2, 0]), (8, .aload_n 0, 1, []), (9, .sipush 383, 3, []), (12, .iload_n 1, 1, []), (13, .iadd, 1, []), (14, .iconst 0, 1, []), (15, .invokevirtual 96, 3, [0, 123, 3, 0]), (18, .aload_n 0, 1, []), (19, .invokevirtual 127, 3, [0, 132, 1, 0]), (22, .return_, 1, [])])]
theorem cb_X4_drops_0 : (blk md_X4_drops 0).2 = [(0, .aload_n 0, 1, []), (1, .bipush 6, 2, []), (3, .iload_n 1, 1, []), (4, .iadd, 1, []), (5, .invokevirtual 124, 3, [0, 131, 2, 0]), (8, .aload_n 0, 1, []), (9, .sipush 383, 3, []), (12, .iload_n 1, 1, []), (13, .iadd, 1, []), (14, .iconst 0, 1, []), (15, .invokevirtual 96, 3, [0, 123, 3, 0]), (18, .aload_n 0, 1, []), (19, .invokevirtual 127, 3, [0, 132, 1, 0]), (22, .return_, 1, [])] := rfl
def md_X4_reverts : List mB := [
  (false, [(0, .aload_n 0, 1, []), (1, .getfield 7, 3, [4, 0]), (4, .sipush 391, 3, []), (7, .iload_n 1, 1, []), (8, .iadd, 1, []), (9, .iaload, 1, []), (10, .istore_n 2, 1, []), (11, .aload_n 0, 1, []), (12, .bipush 6, 2, []), (14, .iload_n 1, 1, []), (15, .iadd, 1, []), (16, .invokevirtual 121, 3, [0, 133, 2, 0]), (19, .aload_n 0, 1, []), (20, .iload_n 2, 1, []), (21, .invokevirtual 124, 3, [0, 131, 2, 0]), (24, .aload_n 0, 1, []), (25, .iload_n 2, 1, []), (26, .bipush 6, 2, []), (28, .iload_n 1, 1, []), (29, .iadd, 1, []), (30, .invokevirtual 130, 3, [0, 134, 3, 0]), (33, .aload_n 0, 1, []), (34, .invokevirtual 127, 3, [0, 132, 1, 0]), (37, .return_, 1, [])])]
theorem cb_X4_reverts_0 : (blk md_X4_reverts 0).2 = [(0, .aload_n 0, 1, []), (1, .getfield 7, 3, [4, 0]), (4, .sipush 391, 3, []), (7, .iload_n 1, 1, []), (8, .iadd, 1, []), (9, .iaload, 1, []), (10, .istore_n 2, 1, []), (11, .aload_n 0, 1, []), (12, .bipush 6, 2, []), (14, .iload_n 1, 1, []), (15, .iadd, 1, []), (16, .invokevirtual 121, 3, [0, 133, 2, 0]), (19, .aload_n 0, 1, []), (20, .iload_n 2, 1, []), (21, .invokevirtual 124, 3, [0, 131, 2, 0]), (24, .aload_n 0, 1, []), (25, .iload_n 2, 1, []), (26, .bipush 6, 2, []), (28, .iload_n 1, 1, []), (29, .iadd, 1, []), (30, .invokevirtual 130, 3, [0, 134, 3, 0]), (33, .aload_n 0, 1, []), (34, .invokevirtual 127, 3, [0, 132, 1, 0]), (37, .return_, 1, [])] := rfl
def md_X4_givesUp : List mB := [
  (false, [(0, .aload_n 0, 1, []), (1, .iload_n 1, 1, []), (2, .iload_n 2, 1, []), (3, .invokevirtual 45, 3, [0, 109, 3, 1]), (6, .istore_n 3, 1, []), (7, .iload_n 3, 1, []), (8, .ifCond .ne 4, 3, [2])]),
  (false, [(11, .return_, 1, [])]),
  (false, [(12, .aload_n 0, 1, []), (13, .iload_n 1, 1, []), (14, .iload_n 2, 1, []), (15, .invokevirtual 114, 3, [0, 128, 3, 0]), (18, .aload_n 0, 1, []), (19, .bipush 64, 2, []), (21, .iconst 4, 1, []), (22, .aload_n 0, 1, []), (23, .getfield 7, 3, [4, 0]), (26, .iload_n 1, 1, []), (27, .iload_n 2, 1, []), (28, .iconst 4, 1, []), (29, .idiv, 1, []), (30, .invokestatic 41, 3, [1, 108, 2, 1]), (33, .iaload, 1, []), (34, .imul, 1, []), (35, .iadd, 1, []), (36, .iload_n 2, 1, []), (37, .iconst 4, 1, []), (38, .irem, 1, []), (39, .iadd, 1, []), (40, .iconst 0, 1, []), (41, .invokevirtual 96, 3, [0, 123, 3, 0]), (44, .aload_n 0, 1, []), (45, .iload_n 3, 1, []), (46, .iconst (-1), 1, []), (47, .invokevirtual 111, 3, [0, 124, 3, 0]), (50, .return_, 1, [])])]
theorem cb_X4_givesUp_0 : (blk md_X4_givesUp 0).2 = [(0, .aload_n 0, 1, []), (1, .iload_n 1, 1, []), (2, .iload_n 2, 1, []), (3, .invokevirtual 45, 3, [0, 109, 3, 1]), (6, .istore_n 3, 1, []), (7, .iload_n 3, 1, []), (8, .ifCond .ne 4, 3, [2])] := rfl
theorem cb_X4_givesUp_1 : (blk md_X4_givesUp 1).2 = [(11, .return_, 1, [])] := rfl
theorem cb_X4_givesUp_2 : (blk md_X4_givesUp 2).2 = [(12, .aload_n 0, 1, []), (13, .iload_n 1, 1, []), (14, .iload_n 2, 1, []), (15, .invokevirtual 114, 3, [0, 128, 3, 0]), (18, .aload_n 0, 1, []), (19, .bipush 64, 2, []), (21, .iconst 4, 1, []), (22, .aload_n 0, 1, []), (23, .getfield 7, 3, [4, 0]), (26, .iload_n 1, 1, []), (27, .iload_n 2, 1, []), (28, .iconst 4, 1, []), (29, .idiv, 1, []), (30, .invokestatic 41, 3, [1, 108, 2, 1]), (33, .iaload, 1, []), (34, .imul, 1, []), (35, .iadd, 1, []), (36, .iload_n 2, 1, []), (37, .iconst 4, 1, []), (38, .irem, 1, []), (39, .iadd, 1, []), (40, .iconst 0, 1, []), (41, .invokevirtual 96, 3, [0, 123, 3, 0]), (44, .aload_n 0, 1, []), (45, .iload_n 3, 1, []), (46, .iconst (-1), 1, []), (47, .invokevirtual 111, 3, [0, 124, 3, 0]), (50, .return_, 1, [])] := rfl
def md_X4_merges : List mB := [
  (false, [(0, .iconst 0, 1, []), (1, .istore_n 2, 1, [])]),
  (false, [(2, .iload_n 2, 1, []), (3, .bipush 64, 2, []), (5, .if_icmp .ge 41, 3, [5])]),
  (false, [(8, .aload_n 0, 1, []), (9, .iload_n 1, 1, []), (10, .iload_n 2, 1, []), (11, .iconst 4, 1, []), (12, .idiv, 1, []), (13, .invokevirtual 45, 3, [0, 109, 3, 1]), (16, .ifCond .eq 24, 3, [4])]),
  (false, [(19, .aload_n 0, 1, []), (20, .aload_n 0, 1, []), (21, .getfield 7, 3, [4, 0]), (24, .sipush 321, 3, []), (27, .iload_n 1, 1, []), (28, .iadd, 1, []), (29, .iaload, 1, []), (30, .iload_n 2, 1, []), (31, .aload_n 0, 1, []), (32, .iload_n 1, 1, []), (33, .iload_n 2, 1, []), (34, .invokevirtual 63, 3, [0, 111, 3, 1]), (37, .invokevirtual 133, 3, [0, 130, 4, 0])]),
  (false, [(40, .iinc 2 1, 3, []), (43, .goto (-41), 3, [1])]),
  (false, [(46, .aload_n 0, 1, []), (47, .iload_n 1, 1, []), (48, .invokevirtual 124, 3, [0, 131, 2, 0]), (51, .aload_n 0, 1, []), (52, .iload_n 1, 1, []), (53, .iconst (-1), 1, []), (54, .invokevirtual 130, 3, [0, 134, 3, 0]), (57, .aload_n 0, 1, []), (58, .invokevirtual 127, 3, [0, 132, 1, 0]), (61, .return_, 1, [])])]
theorem cb_X4_merges_0 : (blk md_X4_merges 0).2 = [(0, .iconst 0, 1, []), (1, .istore_n 2, 1, [])] := rfl
theorem cb_X4_merges_1 : (blk md_X4_merges 1).2 = [(2, .iload_n 2, 1, []), (3, .bipush 64, 2, []), (5, .if_icmp .ge 41, 3, [5])] := rfl
theorem cb_X4_merges_2 : (blk md_X4_merges 2).2 = [(8, .aload_n 0, 1, []), (9, .iload_n 1, 1, []), (10, .iload_n 2, 1, []), (11, .iconst 4, 1, []), (12, .idiv, 1, []), (13, .invokevirtual 45, 3, [0, 109, 3, 1]), (16, .ifCond .eq 24, 3, [4])] := rfl
theorem cb_X4_merges_3 : (blk md_X4_merges 3).2 = [(19, .aload_n 0, 1, []), (20, .aload_n 0, 1, []), (21, .getfield 7, 3, [4, 0]), (24, .sipush 321, 3, []), (27, .iload_n 1, 1, []), (28, .iadd, 1, []), (29, .iaload, 1, []), (30, .iload_n 2, 1, []), (31, .aload_n 0, 1, []), (32, .iload_n 1, 1, []), (33, .iload_n 2, 1, []), (34, .invokevirtual 63, 3, [0, 111, 3, 1]), (37, .invokevirtual 133, 3, [0, 130, 4, 0])] := rfl
theorem cb_X4_merges_4 : (blk md_X4_merges 4).2 = [(40, .iinc 2 1, 3, []), (43, .goto (-41), 3, [1])] := rfl
theorem cb_X4_merges_5 : (blk md_X4_merges 5).2 = [(46, .aload_n 0, 1, []), (47, .iload_n 1, 1, []), (48, .invokevirtual 124, 3, [0, 131, 2, 0]), (51, .aload_n 0, 1, []), (52, .iload_n 1, 1, []), (53, .iconst (-1), 1, []), (54, .invokevirtual 130, 3, [0, 134, 3, 0]), (57, .aload_n 0, 1, []), (58, .invokevirtual 127, 3, [0, 132, 1, 0]), (61, .return_, 1, [])] := rfl
def md_X4_isSame : List mB := [
  (false, [(0, .iconst 1, 1, []), (1, .istore 4, 2, []), (3, .iconst 4, 1, []), (4, .iload_n 3, 1, []), (5, .imul, 1, []), (6, .istore 5, 2, [])]),
  (false, [(8, .iload 5, 2, []), (10, .iconst 4, 1, []), (11, .iload_n 3, 1, []), (12, .imul, 1, []), (13, .iconst 4, 1, []), (14, .iadd, 1, []), (15, .if_icmp .ge 47, 3, [10])]),
  (false, [(18, .iload 4, 2, []), (20, .ifCond .eq 33, 3, [8])]),
  (false, [(23, .aload_n 0, 1, []), (24, .iload_n 1, 1, []), (25, .iload 5, 2, []), (27, .invokevirtual 63, 3, [0, 111, 3, 1]), (30, .iload_n 2, 1, []), (31, .iconst (-1), 1, []), (32, .if_icmp .ne 7, 3, [5])]),
  (false, [(35, .iconst 0, 1, []), (36, .goto 10, 3, [6])]),
  (false, [(39, .aload_n 0, 1, []), (40, .iload_n 2, 1, []), (41, .iload 5, 2, []), (43, .invokevirtual 63, 3, [0, 111, 3, 1])]),
  (false, [(46, .if_icmp .ne 7, 3, [8])]),
  (false, [(49, .iconst 1, 1, []), (50, .goto 4, 3, [9])]),
  (false, [(53, .iconst 0, 1, [])]),
  (false, [(54, .istore 4, 2, []), (56, .iinc 5 1, 3, []), (59, .goto (-51), 3, [1])]),
  (false, [(62, .iload 4, 2, []), (64, .ireturn, 1, [1])])]
theorem cb_X4_isSame_0 : (blk md_X4_isSame 0).2 = [(0, .iconst 1, 1, []), (1, .istore 4, 2, []), (3, .iconst 4, 1, []), (4, .iload_n 3, 1, []), (5, .imul, 1, []), (6, .istore 5, 2, [])] := rfl
theorem cb_X4_isSame_1 : (blk md_X4_isSame 1).2 = [(8, .iload 5, 2, []), (10, .iconst 4, 1, []), (11, .iload_n 3, 1, []), (12, .imul, 1, []), (13, .iconst 4, 1, []), (14, .iadd, 1, []), (15, .if_icmp .ge 47, 3, [10])] := rfl
theorem cb_X4_isSame_2 : (blk md_X4_isSame 2).2 = [(18, .iload 4, 2, []), (20, .ifCond .eq 33, 3, [8])] := rfl
theorem cb_X4_isSame_3 : (blk md_X4_isSame 3).2 = [(23, .aload_n 0, 1, []), (24, .iload_n 1, 1, []), (25, .iload 5, 2, []), (27, .invokevirtual 63, 3, [0, 111, 3, 1]), (30, .iload_n 2, 1, []), (31, .iconst (-1), 1, []), (32, .if_icmp .ne 7, 3, [5])] := rfl
theorem cb_X4_isSame_4 : (blk md_X4_isSame 4).2 = [(35, .iconst 0, 1, []), (36, .goto 10, 3, [6])] := rfl
theorem cb_X4_isSame_5 : (blk md_X4_isSame 5).2 = [(39, .aload_n 0, 1, []), (40, .iload_n 2, 1, []), (41, .iload 5, 2, []), (43, .invokevirtual 63, 3, [0, 111, 3, 1])] := rfl
theorem cb_X4_isSame_6 : (blk md_X4_isSame 6).2 = [(46, .if_icmp .ne 7, 3, [8])] := rfl
theorem cb_X4_isSame_7 : (blk md_X4_isSame 7).2 = [(49, .iconst 1, 1, []), (50, .goto 4, 3, [9])] := rfl
theorem cb_X4_isSame_8 : (blk md_X4_isSame 8).2 = [(53, .iconst 0, 1, [])] := rfl
theorem cb_X4_isSame_9 : (blk md_X4_isSame 9).2 = [(54, .istore 4, 2, []), (56, .iinc 5 1, 3, []), (59, .goto (-51), 3, [1])] := rfl
theorem cb_X4_isSame_10 : (blk md_X4_isSame 10).2 = [(62, .iload 4, 2, []), (64, .ireturn, 1, [1])] := rfl
def md_X4_moves : List mB := [
  (false, [(0, .iconst 0, 1, []), (1, .istore 4, 2, [])]),
  (false, [(3, .iload 4, 2, []), (5, .bipush 16, 2, []), (7, .if_icmp .ge 75, 3, [10])]),
  (false, [(10, .iload_n 3, 1, []), (11, .iconst 1, 1, []), (12, .if_icmp .ne 70, 3, [10])]),
  (false, [(15, .aload_n 0, 1, []), (16, .iload_n 1, 1, []), (17, .iload 4, 2, []), (19, .invokevirtual 45, 3, [0, 109, 3, 1]), (22, .ifCond .ne 54, 3, [9])]),
  (false, [(25, .aload_n 0, 1, []), (26, .iload_n 1, 1, []), (27, .iload_n 2, 1, []), (28, .iload 4, 2, []), (30, .invokevirtual 137, 3, [0, 140, 4, 1]), (33, .ifCond .eq 6, 3, [6])]),
  (false, [(36, .goto 40, 3, [9])]),
  (false, [(39, .iconst 4, 1, []), (40, .iload 4, 2, []), (42, .imul, 1, []), (43, .istore 5, 2, [])]),
  (false, [(45, .iload 5, 2, []), (47, .iconst 4, 1, []), (48, .iload 4, 2, []), (50, .imul, 1, []), (51, .iconst 4, 1, []), (52, .iadd, 1, []), (53, .if_icmp .ge 23, 3, [9])]),
  (false, [(56, .aload_n 0, 1, []), (57, .iload_n 1, 1, []), (58, .iload 5, 2, []), (60, .aload_n 0, 1, []), (61, .iload_n 1, 1, []), (62, .iload 5, 2, []), (64, .invokevirtual 63, 3, [0, 111, 3, 1]), (67, .invokevirtual 133, 3, [0, 130, 4, 0]), (70, .iinc 5 1, 3, []), (73, .goto (-28), 3, [7])]),
  (false, [(76, .iinc 4 1, 3, []), (79, .goto (-76), 3, [1])]),
  (false, [(82, .aload_n 0, 1, []), (83, .sipush 321, 3, []), (86, .iload_n 1, 1, []), (87, .iadd, 1, []), (88, .iload_n 2, 1, []), (89, .invokevirtual 96, 3, [0, 123, 3, 0]), (92, .return_, 1, [])])]
theorem cb_X4_moves_0 : (blk md_X4_moves 0).2 = [(0, .iconst 0, 1, []), (1, .istore 4, 2, [])] := rfl
theorem cb_X4_moves_1 : (blk md_X4_moves 1).2 = [(3, .iload 4, 2, []), (5, .bipush 16, 2, []), (7, .if_icmp .ge 75, 3, [10])] := rfl
theorem cb_X4_moves_2 : (blk md_X4_moves 2).2 = [(10, .iload_n 3, 1, []), (11, .iconst 1, 1, []), (12, .if_icmp .ne 70, 3, [10])] := rfl
theorem cb_X4_moves_3 : (blk md_X4_moves 3).2 = [(15, .aload_n 0, 1, []), (16, .iload_n 1, 1, []), (17, .iload 4, 2, []), (19, .invokevirtual 45, 3, [0, 109, 3, 1]), (22, .ifCond .ne 54, 3, [9])] := rfl
theorem cb_X4_moves_4 : (blk md_X4_moves 4).2 = [(25, .aload_n 0, 1, []), (26, .iload_n 1, 1, []), (27, .iload_n 2, 1, []), (28, .iload 4, 2, []), (30, .invokevirtual 137, 3, [0, 140, 4, 1]), (33, .ifCond .eq 6, 3, [6])] := rfl
theorem cb_X4_moves_5 : (blk md_X4_moves 5).2 = [(36, .goto 40, 3, [9])] := rfl
theorem cb_X4_moves_6 : (blk md_X4_moves 6).2 = [(39, .iconst 4, 1, []), (40, .iload 4, 2, []), (42, .imul, 1, []), (43, .istore 5, 2, [])] := rfl
theorem cb_X4_moves_7 : (blk md_X4_moves 7).2 = [(45, .iload 5, 2, []), (47, .iconst 4, 1, []), (48, .iload 4, 2, []), (50, .imul, 1, []), (51, .iconst 4, 1, []), (52, .iadd, 1, []), (53, .if_icmp .ge 23, 3, [9])] := rfl
theorem cb_X4_moves_8 : (blk md_X4_moves 8).2 = [(56, .aload_n 0, 1, []), (57, .iload_n 1, 1, []), (58, .iload 5, 2, []), (60, .aload_n 0, 1, []), (61, .iload_n 1, 1, []), (62, .iload 5, 2, []), (64, .invokevirtual 63, 3, [0, 111, 3, 1]), (67, .invokevirtual 133, 3, [0, 130, 4, 0]), (70, .iinc 5 1, 3, []), (73, .goto (-28), 3, [7])] := rfl
theorem cb_X4_moves_9 : (blk md_X4_moves 9).2 = [(76, .iinc 4 1, 3, []), (79, .goto (-76), 3, [1])] := rfl
theorem cb_X4_moves_10 : (blk md_X4_moves 10).2 = [(82, .aload_n 0, 1, []), (83, .sipush 321, 3, []), (86, .iload_n 1, 1, []), (87, .iadd, 1, []), (88, .iload_n 2, 1, []), (89, .invokevirtual 96, 3, [0, 123, 3, 0]), (92, .return_, 1, [])] := rfl
def md_X4_areAlike : List mB := [
  (false, [(0, .iconst 1, 1, []), (1, .istore_n 3, 1, []), (2, .iconst 0, 1, []), (3, .istore 4, 2, [])]),
  (false, [(5, .iload 4, 2, []), (7, .iconst 4, 1, []), (8, .if_icmp .ge 50, 3, [7])]),
  (false, [(11, .iload_n 3, 1, []), (12, .ifCond .eq 38, 3, [5])]),
  (false, [(15, .aload_n 0, 1, []), (16, .getfield 7, 3, [4, 0]), (19, .bipush 64, 2, []), (21, .iconst 4, 1, []), (22, .iload_n 1, 1, []), (23, .imul, 1, []), (24, .iadd, 1, []), (25, .iload 4, 2, []), (27, .iadd, 1, []), (28, .iaload, 1, []), (29, .aload_n 0, 1, []), (30, .getfield 7, 3, [4, 0]), (33, .bipush 64, 2, []), (35, .iconst 4, 1, []), (36, .iload_n 2, 1, []), (37, .imul, 1, []), (38, .iadd, 1, []), (39, .iload 4, 2, []), (41, .iadd, 1, []), (42, .iaload, 1, []), (43, .if_icmp .ne 7, 3, [5])]),
  (false, [(46, .iconst 1, 1, []), (47, .goto 4, 3, [6])]),
  (false, [(50, .iconst 0, 1, [])]),
  (false, [(51, .istore_n 3, 1, []), (52, .iinc 4 1, 3, []), (55, .goto (-50), 3, [1])]),
  (false, [(58, .iload_n 3, 1, []), (59, .ireturn, 1, [1])])]
theorem cb_X4_areAlike_0 : (blk md_X4_areAlike 0).2 = [(0, .iconst 1, 1, []), (1, .istore_n 3, 1, []), (2, .iconst 0, 1, []), (3, .istore 4, 2, [])] := rfl
theorem cb_X4_areAlike_1 : (blk md_X4_areAlike 1).2 = [(5, .iload 4, 2, []), (7, .iconst 4, 1, []), (8, .if_icmp .ge 50, 3, [7])] := rfl
theorem cb_X4_areAlike_2 : (blk md_X4_areAlike 2).2 = [(11, .iload_n 3, 1, []), (12, .ifCond .eq 38, 3, [5])] := rfl
theorem cb_X4_areAlike_3 : (blk md_X4_areAlike 3).2 = [(15, .aload_n 0, 1, []), (16, .getfield 7, 3, [4, 0]), (19, .bipush 64, 2, []), (21, .iconst 4, 1, []), (22, .iload_n 1, 1, []), (23, .imul, 1, []), (24, .iadd, 1, []), (25, .iload 4, 2, []), (27, .iadd, 1, []), (28, .iaload, 1, []), (29, .aload_n 0, 1, []), (30, .getfield 7, 3, [4, 0]), (33, .bipush 64, 2, []), (35, .iconst 4, 1, []), (36, .iload_n 2, 1, []), (37, .imul, 1, []), (38, .iadd, 1, []), (39, .iload 4, 2, []), (41, .iadd, 1, []), (42, .iaload, 1, []), (43, .if_icmp .ne 7, 3, [5])] := rfl
theorem cb_X4_areAlike_4 : (blk md_X4_areAlike 4).2 = [(46, .iconst 1, 1, []), (47, .goto 4, 3, [6])] := rfl
theorem cb_X4_areAlike_5 : (blk md_X4_areAlike 5).2 = [(50, .iconst 0, 1, [])] := rfl
theorem cb_X4_areAlike_6 : (blk md_X4_areAlike 6).2 = [(51, .istore_n 3, 1, []), (52, .iinc 4 1, 3, []), (55, .goto (-50), 3, [1])] := rfl
theorem cb_X4_areAlike_7 : (blk md_X4_areAlike 7).2 = [(58, .iload_n 3, 1, []), (59, .ireturn, 1, [1])] := rfl
def md_X4_likeOf : List mB := [
  (false, [(0, .aload_n 0, 1, []), (1, .invokevirtual 75, 3, [0, 119, 1, 0]), (4, .iconst 1, 1, []), (5, .istore_n 2, 1, [])]),
  (false, [(6, .iload_n 2, 1, []), (7, .iload_n 1, 1, []), (8, .if_icmp .ge 27, 3, [5])]),
  (false, [(11, .aload_n 0, 1, []), (12, .getfield 25, 3, [4, 6]), (15, .iload_n 2, 1, []), (16, .iaload, 1, []), (17, .ifCond .le 12, 3, [4])]),
  (false, [(20, .aload_n 0, 1, []), (21, .iload_n 2, 1, []), (22, .iload_n 1, 1, []), (23, .invokevirtual 140, 3, [0, 142, 3, 1]), (26, .ifCond .ne 9, 3, [5])]),
  (false, [(29, .iinc 2 1, 3, []), (32, .goto (-26), 3, [1])]),
  (false, [(35, .iload_n 2, 1, []), (36, .ireturn, 1, [])])]
theorem cb_X4_likeOf_0 : (blk md_X4_likeOf 0).2 = [(0, .aload_n 0, 1, []), (1, .invokevirtual 75, 3, [0, 119, 1, 0]), (4, .iconst 1, 1, []), (5, .istore_n 2, 1, [])] := rfl
theorem cb_X4_likeOf_1 : (blk md_X4_likeOf 1).2 = [(6, .iload_n 2, 1, []), (7, .iload_n 1, 1, []), (8, .if_icmp .ge 27, 3, [5])] := rfl
theorem cb_X4_likeOf_2 : (blk md_X4_likeOf 2).2 = [(11, .aload_n 0, 1, []), (12, .getfield 25, 3, [4, 6]), (15, .iload_n 2, 1, []), (16, .iaload, 1, []), (17, .ifCond .le 12, 3, [4])] := rfl
theorem cb_X4_likeOf_3 : (blk md_X4_likeOf 3).2 = [(20, .aload_n 0, 1, []), (21, .iload_n 2, 1, []), (22, .iload_n 1, 1, []), (23, .invokevirtual 140, 3, [0, 142, 3, 1]), (26, .ifCond .ne 9, 3, [5])] := rfl
theorem cb_X4_likeOf_4 : (blk md_X4_likeOf 4).2 = [(29, .iinc 2 1, 3, []), (32, .goto (-26), 3, [1])] := rfl
theorem cb_X4_likeOf_5 : (blk md_X4_likeOf 5).2 = [(35, .iload_n 2, 1, []), (36, .ireturn, 1, [])] := rfl
def md_X4_folds : List mB := [
  (false, [(0, .iconst 1, 1, []), (1, .istore_n 1, 1, [])]),
  (false, [(2, .iload_n 1, 1, []), (3, .bipush 64, 2, []), (5, .if_icmp .ge 98, 3, [14])]),
  (false, [(8, .aload_n 0, 1, []), (9, .iload_n 1, 1, []), (10, .invokevirtual 72, 3, [0, 120, 2, 1]), (13, .ifCond .ne 6, 3, [4])]),
  (false, [(16, .goto 81, 3, [13])]),
  (false, [(19, .iconst 0, 1, []), (20, .istore_n 2, 1, [])]),
  (false, [(21, .iload_n 2, 1, []), (22, .iconst 4, 1, []), (23, .if_icmp .ge 74, 3, [13])]),
  (false, [(26, .aload_n 0, 1, []), (27, .getfield 7, 3, [4, 0]), (30, .bipush 64, 2, []), (32, .iconst 4, 1, []), (33, .iload_n 1, 1, []), (34, .imul, 1, []), (35, .iadd, 1, []), (36, .iload_n 2, 1, []), (37, .iadd, 1, []), (38, .iaload, 1, []), (39, .istore_n 3, 1, []), (40, .iload_n 3, 1, []), (41, .ifCond .ne 7, 3, [8])]),
  (false, [(44, .iconst 0, 1, []), (45, .goto 8, 3, [9])]),
  (false, [(48, .aload_n 0, 1, []), (49, .iload_n 3, 1, []), (50, .invokevirtual 144, 3, [0, 143, 2, 1])]),
  (false, [(53, .istore 4, 2, []), (55, .iload 4, 2, []), (57, .iload_n 3, 1, []), (58, .if_icmp .ne 6, 3, [11])]),
  (false, [(61, .goto 30, 3, [12])]),
  (false, [(64, .aload_n 0, 1, []), (65, .iload 4, 2, []), (67, .iconst 1, 1, []), (68, .invokevirtual 111, 3, [0, 124, 3, 0]), (71, .aload_n 0, 1, []), (72, .bipush 64, 2, []), (74, .iconst 4, 1, []), (75, .iload_n 1, 1, []), (76, .imul, 1, []), (77, .iadd, 1, []), (78, .iload_n 2, 1, []), (79, .iadd, 1, []), (80, .iload 4, 2, []), (82, .invokevirtual 96, 3, [0, 123, 3, 0]), (85, .aload_n 0, 1, []), (86, .iload_n 3, 1, []), (87, .iconst (-1), 1, []), (88, .invokevirtual 111, 3, [0, 124, 3, 0])]),
  (false, [(91, .iinc 2 1, 3, []), (94, .goto (-73), 3, [5])]),
  (false, [(97, .iinc 1 1, 3, []), (100, .goto (-98), 3, [1])]),
  (false, [(103, .return_, 1, [])])]
theorem cb_X4_folds_0 : (blk md_X4_folds 0).2 = [(0, .iconst 1, 1, []), (1, .istore_n 1, 1, [])] := rfl
theorem cb_X4_folds_1 : (blk md_X4_folds 1).2 = [(2, .iload_n 1, 1, []), (3, .bipush 64, 2, []), (5, .if_icmp .ge 98, 3, [14])] := rfl
theorem cb_X4_folds_2 : (blk md_X4_folds 2).2 = [(8, .aload_n 0, 1, []), (9, .iload_n 1, 1, []), (10, .invokevirtual 72, 3, [0, 120, 2, 1]), (13, .ifCond .ne 6, 3, [4])] := rfl
theorem cb_X4_folds_3 : (blk md_X4_folds 3).2 = [(16, .goto 81, 3, [13])] := rfl
theorem cb_X4_folds_4 : (blk md_X4_folds 4).2 = [(19, .iconst 0, 1, []), (20, .istore_n 2, 1, [])] := rfl
theorem cb_X4_folds_5 : (blk md_X4_folds 5).2 = [(21, .iload_n 2, 1, []), (22, .iconst 4, 1, []), (23, .if_icmp .ge 74, 3, [13])] := rfl
theorem cb_X4_folds_6 : (blk md_X4_folds 6).2 = [(26, .aload_n 0, 1, []), (27, .getfield 7, 3, [4, 0]), (30, .bipush 64, 2, []), (32, .iconst 4, 1, []), (33, .iload_n 1, 1, []), (34, .imul, 1, []), (35, .iadd, 1, []), (36, .iload_n 2, 1, []), (37, .iadd, 1, []), (38, .iaload, 1, []), (39, .istore_n 3, 1, []), (40, .iload_n 3, 1, []), (41, .ifCond .ne 7, 3, [8])] := rfl
theorem cb_X4_folds_7 : (blk md_X4_folds 7).2 = [(44, .iconst 0, 1, []), (45, .goto 8, 3, [9])] := rfl
theorem cb_X4_folds_8 : (blk md_X4_folds 8).2 = [(48, .aload_n 0, 1, []), (49, .iload_n 3, 1, []), (50, .invokevirtual 144, 3, [0, 143, 2, 1])] := rfl
theorem cb_X4_folds_9 : (blk md_X4_folds 9).2 = [(53, .istore 4, 2, []), (55, .iload 4, 2, []), (57, .iload_n 3, 1, []), (58, .if_icmp .ne 6, 3, [11])] := rfl
theorem cb_X4_folds_10 : (blk md_X4_folds 10).2 = [(61, .goto 30, 3, [12])] := rfl
theorem cb_X4_folds_11 : (blk md_X4_folds 11).2 = [(64, .aload_n 0, 1, []), (65, .iload 4, 2, []), (67, .iconst 1, 1, []), (68, .invokevirtual 111, 3, [0, 124, 3, 0]), (71, .aload_n 0, 1, []), (72, .bipush 64, 2, []), (74, .iconst 4, 1, []), (75, .iload_n 1, 1, []), (76, .imul, 1, []), (77, .iadd, 1, []), (78, .iload_n 2, 1, []), (79, .iadd, 1, []), (80, .iload 4, 2, []), (82, .invokevirtual 96, 3, [0, 123, 3, 0]), (85, .aload_n 0, 1, []), (86, .iload_n 3, 1, []), (87, .iconst (-1), 1, []), (88, .invokevirtual 111, 3, [0, 124, 3, 0])] := rfl
theorem cb_X4_folds_12 : (blk md_X4_folds 12).2 = [(91, .iinc 2 1, 3, []), (94, .goto (-73), 3, [5])] := rfl
theorem cb_X4_folds_13 : (blk md_X4_folds 13).2 = [(97, .iinc 1 1, 3, []), (100, .goto (-98), 3, [1])] := rfl
theorem cb_X4_folds_14 : (blk md_X4_folds 14).2 = [(103, .return_, 1, [])] := rfl
def md_X4_performs : List mB := [
  (false, [(0, .aload_n 0, 1, []), (1, .iconst 0, 1, []), (2, .putfield 85, 3, [4, 7]), (5, .aload_n 0, 1, []), (6, .iload 5, 2, []), (8, .putfield 89, 3, [4, 8]), (11, .aload_n 0, 1, []), (12, .iconst 0, 1, []), (13, .putfield 78, 3, [4, 9, 1]), (16, .aload_n 0, 1, []), (17, .iconst 0, 1, []), (18, .putfield 82, 3, [4, 10, 1]), (21, .iload_n 1, 1, []), (22, .tableswitch 106 0 6 #[42, 53, 62, 70, 78, 87, 95], 42, [8, 1, 2, 3, 4, 5, 6, 7])]),
  (false, [(64, .aload_n 0, 1, []), (65, .iload_n 2, 1, []), (66, .iload_n 3, 1, []), (67, .iload 4, 2, []), (69, .invokevirtual 133, 3, [0, 130, 4, 0]), (72, .goto 60, 3, [9])]),
  (false, [(75, .aload_n 0, 1, []), (76, .iload_n 2, 1, []), (77, .iload_n 3, 1, []), (78, .invokevirtual 147, 3, [0, 135, 3, 0]), (81, .goto 51, 3, [9])]),
  (false, [(84, .aload_n 0, 1, []), (85, .iload_n 2, 1, []), (86, .invokevirtual 150, 3, [0, 136, 2, 0]), (89, .goto 43, 3, [9])]),
  (false, [(92, .aload_n 0, 1, []), (93, .iload_n 2, 1, []), (94, .invokevirtual 153, 3, [0, 137, 2, 0]), (97, .goto 35, 3, [9])]),
  (false, [(100, .aload_n 0, 1, []), (101, .iload_n 2, 1, []), (102, .iload_n 3, 1, []), (103, .invokevirtual 156, 3, [0, 138, 3, 0]), (106, .goto 26, 3, [9])]),
  (false, [(109, .aload_n 0, 1, []), (110, .iload_n 2, 1, []), (111, .invokevirtual 159, 3, [0, 139, 2, 0]), (114, .goto 18, 3, [9])]),
  (false, [(117, .aload_n 0, 1, []), (118, .iload_n 2, 1, []), (119, .iload_n 3, 1, []), (120, .iload 4, 2, []), (122, .invokevirtual 162, 3, [0, 141, 4, 0]), (125, .goto 7, 3, [9])]),
  (false, [(128, .aload_n 0, 1, []), (129, .invokevirtual 165, 3, [0, 144, 1, 0])]),
  (false, [(132, .return_, 1, [])])]
theorem cb_X4_performs_0 : (blk md_X4_performs 0).2 = [(0, .aload_n 0, 1, []), (1, .iconst 0, 1, []), (2, .putfield 85, 3, [4, 7]), (5, .aload_n 0, 1, []), (6, .iload 5, 2, []), (8, .putfield 89, 3, [4, 8]), (11, .aload_n 0, 1, []), (12, .iconst 0, 1, []), (13, .putfield 78, 3, [4, 9, 1]), (16, .aload_n 0, 1, []), (17, .iconst 0, 1, []), (18, .putfield 82, 3, [4, 10, 1]), (21, .iload_n 1, 1, []), (22, .tableswitch 106 0 6 #[42, 53, 62, 70, 78, 87, 95], 42, [8, 1, 2, 3, 4, 5, 6, 7])] := rfl
theorem cb_X4_performs_1 : (blk md_X4_performs 1).2 = [(64, .aload_n 0, 1, []), (65, .iload_n 2, 1, []), (66, .iload_n 3, 1, []), (67, .iload 4, 2, []), (69, .invokevirtual 133, 3, [0, 130, 4, 0]), (72, .goto 60, 3, [9])] := rfl
theorem cb_X4_performs_2 : (blk md_X4_performs 2).2 = [(75, .aload_n 0, 1, []), (76, .iload_n 2, 1, []), (77, .iload_n 3, 1, []), (78, .invokevirtual 147, 3, [0, 135, 3, 0]), (81, .goto 51, 3, [9])] := rfl
theorem cb_X4_performs_3 : (blk md_X4_performs 3).2 = [(84, .aload_n 0, 1, []), (85, .iload_n 2, 1, []), (86, .invokevirtual 150, 3, [0, 136, 2, 0]), (89, .goto 43, 3, [9])] := rfl
theorem cb_X4_performs_4 : (blk md_X4_performs 4).2 = [(92, .aload_n 0, 1, []), (93, .iload_n 2, 1, []), (94, .invokevirtual 153, 3, [0, 137, 2, 0]), (97, .goto 35, 3, [9])] := rfl
theorem cb_X4_performs_5 : (blk md_X4_performs 5).2 = [(100, .aload_n 0, 1, []), (101, .iload_n 2, 1, []), (102, .iload_n 3, 1, []), (103, .invokevirtual 156, 3, [0, 138, 3, 0]), (106, .goto 26, 3, [9])] := rfl
theorem cb_X4_performs_6 : (blk md_X4_performs 6).2 = [(109, .aload_n 0, 1, []), (110, .iload_n 2, 1, []), (111, .invokevirtual 159, 3, [0, 139, 2, 0]), (114, .goto 18, 3, [9])] := rfl
theorem cb_X4_performs_7 : (blk md_X4_performs 7).2 = [(117, .aload_n 0, 1, []), (118, .iload_n 2, 1, []), (119, .iload_n 3, 1, []), (120, .iload 4, 2, []), (122, .invokevirtual 162, 3, [0, 141, 4, 0]), (125, .goto 7, 3, [9])] := rfl
theorem cb_X4_performs_8 : (blk md_X4_performs 8).2 = [(128, .aload_n 0, 1, []), (129, .invokevirtual 165, 3, [0, 144, 1, 0])] := rfl
theorem cb_X4_performs_9 : (blk md_X4_performs 9).2 = [(132, .return_, 1, [])] := rfl
def md_X4_isTooMuch : List mB := [
  (false, [(0, .aload_n 0, 1, []), (1, .getfield 7, 3, [4, 0]), (4, .aload_n 0, 1, []), (5, .getfield 13, 3, [4, 1]), (8, .invokestatic 168, 3, [1, 102, 2, 0]), (11, .aload_n 0, 1, []), (12, .iload_n 1, 1, []), (13, .iload_n 2, 1, []), (14, .iload_n 3, 1, []), (15, .iload 4, 2, []), (17, .iconst (-1), 1, []), (18, .invokevirtual 172, 3, [0, 145, 6, 0]), (21, .aload_n 0, 1, []), (22, .getfield 13, 3, [4, 1]), (25, .aload_n 0, 1, []), (26, .getfield 7, 3, [4, 0]), (29, .invokestatic 168, 3, [1, 102, 2, 0]), (32, .aload_n 0, 1, []), (33, .getfield 82, 3, [4, 10]), (36, .ireturn, 1, [1])])]
theorem cb_X4_isTooMuch_0 : (blk md_X4_isTooMuch 0).2 = [(0, .aload_n 0, 1, []), (1, .getfield 7, 3, [4, 0]), (4, .aload_n 0, 1, []), (5, .getfield 13, 3, [4, 1]), (8, .invokestatic 168, 3, [1, 102, 2, 0]), (11, .aload_n 0, 1, []), (12, .iload_n 1, 1, []), (13, .iload_n 2, 1, []), (14, .iload_n 3, 1, []), (15, .iload 4, 2, []), (17, .iconst (-1), 1, []), (18, .invokevirtual 172, 3, [0, 145, 6, 0]), (21, .aload_n 0, 1, []), (22, .getfield 13, 3, [4, 1]), (25, .aload_n 0, 1, []), (26, .getfield 7, 3, [4, 0]), (29, .invokestatic 168, 3, [1, 102, 2, 0]), (32, .aload_n 0, 1, []), (33, .getfield 82, 3, [4, 10]), (36, .ireturn, 1, [1])] := rfl
def md_X4_deed : List mB := [
  (false, [(0, .aload_n 0, 1, []), (1, .iload_n 1, 1, []), (2, .iload_n 2, 1, []), (3, .iload_n 3, 1, []), (4, .iload 4, 2, []), (6, .invokevirtual 175, 3, [0, 146, 5, 1]), (9, .ifCond .eq 11, 3, [2])]),
  (false, [(12, .aload_n 0, 1, []), (13, .sipush (-1002), 3, []), (16, .invokevirtual 56, 3, [0, 101, 2, 1]), (19, .ireturn, 1, [])]),
  (false, [(20, .aload_n 0, 1, []), (21, .iload_n 1, 1, []), (22, .iload_n 2, 1, []), (23, .iload_n 3, 1, []), (24, .iload 4, 2, []), (26, .aload_n 0, 1, []), (27, .getfield 7, 3, [4, 0]), (30, .sipush 399, 3, []), (33, .iaload, 1, []), (34, .invokevirtual 172, 3, [0, 145, 6, 0]), (37, .aload_n 0, 1, []), (38, .getfield 7, 3, [4, 0]), (41, .sipush 399, 3, []), (44, .iconst (-1), 1, []), (45, .iastore, 1, []), (46, .aload_n 0, 1, []), (47, .dup, 1, []), (48, .getfield 179, 3, [4, 11]), (51, .aload_n 0, 1, []), (52, .getfield 85, 3, [4, 7]), (55, .iadd, 1, []), (56, .putfield 179, 3, [4, 11]), (59, .aload_n 0, 1, []), (60, .getfield 78, 3, [4, 9]), (63, .ifCond .eq 9, 3, [4])]),
  (false, [(66, .sipush (-1005), 3, []), (69, .goto 7, 3, [5])]),
  (false, [(72, .aload_n 0, 1, []), (73, .getfield 85, 3, [4, 7])]),
  (false, [(76, .ireturn, 1, [])])]
theorem cb_X4_deed_0 : (blk md_X4_deed 0).2 = [(0, .aload_n 0, 1, []), (1, .iload_n 1, 1, []), (2, .iload_n 2, 1, []), (3, .iload_n 3, 1, []), (4, .iload 4, 2, []), (6, .invokevirtual 175, 3, [0, 146, 5, 1]), (9, .ifCond .eq 11, 3, [2])] := rfl
theorem cb_X4_deed_1 : (blk md_X4_deed 1).2 = [(12, .aload_n 0, 1, []), (13, .sipush (-1002), 3, []), (16, .invokevirtual 56, 3, [0, 101, 2, 1]), (19, .ireturn, 1, [])] := rfl
theorem cb_X4_deed_2 : (blk md_X4_deed 2).2 = [(20, .aload_n 0, 1, []), (21, .iload_n 1, 1, []), (22, .iload_n 2, 1, []), (23, .iload_n 3, 1, []), (24, .iload 4, 2, []), (26, .aload_n 0, 1, []), (27, .getfield 7, 3, [4, 0]), (30, .sipush 399, 3, []), (33, .iaload, 1, []), (34, .invokevirtual 172, 3, [0, 145, 6, 0]), (37, .aload_n 0, 1, []), (38, .getfield 7, 3, [4, 0]), (41, .sipush 399, 3, []), (44, .iconst (-1), 1, []), (45, .iastore, 1, []), (46, .aload_n 0, 1, []), (47, .dup, 1, []), (48, .getfield 179, 3, [4, 11]), (51, .aload_n 0, 1, []), (52, .getfield 85, 3, [4, 7]), (55, .iadd, 1, []), (56, .putfield 179, 3, [4, 11]), (59, .aload_n 0, 1, []), (60, .getfield 78, 3, [4, 9]), (63, .ifCond .eq 9, 3, [4])] := rfl
theorem cb_X4_deed_3 : (blk md_X4_deed 3).2 = [(66, .sipush (-1005), 3, []), (69, .goto 7, 3, [5])] := rfl
theorem cb_X4_deed_4 : (blk md_X4_deed 4).2 = [(72, .aload_n 0, 1, []), (73, .getfield 85, 3, [4, 7])] := rfl
theorem cb_X4_deed_5 : (blk md_X4_deed 5).2 = [(76, .ireturn, 1, [])] := rfl
def md_X4_isByte : List mB := [
  (false, [(0, .iload_n 0, 1, []), (1, .iconst 0, 1, []), (2, .sipush 255, 3, []), (5, .invokestatic 37, 3, [1, 100, 3, 1]), (8, .ireturn, 1, [1])])]
theorem cb_X4_isByte_0 : (blk md_X4_isByte 0).2 = [(0, .iload_n 0, 1, []), (1, .iconst 0, 1, []), (2, .sipush 255, 3, []), (5, .invokestatic 37, 3, [1, 100, 3, 1]), (8, .ireturn, 1, [1])] := rfl
def md_X4_write : List mB := [
  (false, [(0, .aload_n 0, 1, []), (1, .iload_n 1, 1, []), (2, .invokevirtual 52, 3, [0, 103, 2, 1]), (5, .ifCond .eq 17, 3, [3])]),
  (false, [(8, .iload_n 2, 1, []), (9, .invokestatic 60, 3, [1, 105, 1, 1]), (12, .ifCond .eq 10, 3, [3])]),
  (false, [(15, .iload_n 3, 1, []), (16, .invokestatic 182, 3, [1, 148, 1, 1]), (19, .ifCond .ne 11, 3, [4])]),
  (false, [(22, .aload_n 0, 1, []), (23, .sipush (-1001), 3, []), (26, .invokevirtual 56, 3, [0, 101, 2, 1]), (29, .ireturn, 1, [])]),
  (false, [(30, .aload_n 0, 1, []), (31, .invokevirtual 185, 3, [0, 121, 1, 1]), (34, .ifCond .eq 13, 3, [6])]),
  (false, [(37, .aload_n 0, 1, []), (38, .sipush (-1003), 3, []), (41, .invokevirtual 56, 3, [0, 101, 2, 1]), (44, .goto 11, 3, [7])]),
  (false, [(47, .aload_n 0, 1, []), (48, .iconst 0, 1, []), (49, .iload_n 1, 1, []), (50, .iload_n 2, 1, []), (51, .iload_n 3, 1, []), (52, .invokevirtual 188, 3, [0, 147, 5, 1])]),
  (false, [(55, .ireturn, 1, [])])]
theorem cb_X4_write_0 : (blk md_X4_write 0).2 = [(0, .aload_n 0, 1, []), (1, .iload_n 1, 1, []), (2, .invokevirtual 52, 3, [0, 103, 2, 1]), (5, .ifCond .eq 17, 3, [3])] := rfl
theorem cb_X4_write_1 : (blk md_X4_write 1).2 = [(8, .iload_n 2, 1, []), (9, .invokestatic 60, 3, [1, 105, 1, 1]), (12, .ifCond .eq 10, 3, [3])] := rfl
theorem cb_X4_write_2 : (blk md_X4_write 2).2 = [(15, .iload_n 3, 1, []), (16, .invokestatic 182, 3, [1, 148, 1, 1]), (19, .ifCond .ne 11, 3, [4])] := rfl
theorem cb_X4_write_3 : (blk md_X4_write 3).2 = [(22, .aload_n 0, 1, []), (23, .sipush (-1001), 3, []), (26, .invokevirtual 56, 3, [0, 101, 2, 1]), (29, .ireturn, 1, [])] := rfl
theorem cb_X4_write_4 : (blk md_X4_write 4).2 = [(30, .aload_n 0, 1, []), (31, .invokevirtual 185, 3, [0, 121, 1, 1]), (34, .ifCond .eq 13, 3, [6])] := rfl
theorem cb_X4_write_5 : (blk md_X4_write 5).2 = [(37, .aload_n 0, 1, []), (38, .sipush (-1003), 3, []), (41, .invokevirtual 56, 3, [0, 101, 2, 1]), (44, .goto 11, 3, [7])] := rfl
theorem cb_X4_write_6 : (blk md_X4_write 6).2 = [(47, .aload_n 0, 1, []), (48, .iconst 0, 1, []), (49, .iload_n 1, 1, []), (50, .iload_n 2, 1, []), (51, .iload_n 3, 1, []), (52, .invokevirtual 188, 3, [0, 147, 5, 1])] := rfl
theorem cb_X4_write_7 : (blk md_X4_write 7).2 = [(55, .ireturn, 1, [])] := rfl
def md_X4_snap : List mB := [
  (false, [(0, .aload_n 0, 1, []), (1, .iload_n 1, 1, []), (2, .invokevirtual 52, 3, [0, 103, 2, 1]), (5, .ifCond .ne 11, 3, [2])]),
  (false, [(8, .aload_n 0, 1, []), (9, .sipush (-1001), 3, []), (12, .invokevirtual 56, 3, [0, 101, 2, 1]), (15, .ireturn, 1, [])]),
  (false, [(16, .iconst 0, 1, []), (17, .istore_n 2, 1, [])]),
  (false, [(18, .iload_n 2, 1, []), (19, .bipush 8, 2, []), (21, .if_icmp .ge 23, 3, [6])]),
  (false, [(24, .aload_n 0, 1, []), (25, .getfield 7, 3, [4, 0]), (28, .sipush 383, 3, []), (31, .iload_n 2, 1, []), (32, .iadd, 1, []), (33, .iaload, 1, []), (34, .iconst 1, 1, []), (35, .if_icmp .ne 9, 3, [6])]),
  (false, [(38, .iinc 2 1, 3, []), (41, .goto (-23), 3, [3])]),
  (false, [(44, .aload_n 0, 1, []), (45, .invokevirtual 185, 3, [0, 121, 1, 1]), (48, .ifCond .ne 9, 3, [8])]),
  (false, [(51, .iload_n 2, 1, []), (52, .bipush 8, 2, []), (54, .if_icmp .ne 13, 3, [9])]),
  (false, [(57, .aload_n 0, 1, []), (58, .sipush (-1003), 3, []), (61, .invokevirtual 56, 3, [0, 101, 2, 1]), (64, .goto 11, 3, [10])]),
  (false, [(67, .aload_n 0, 1, []), (68, .iconst 1, 1, []), (69, .iload_n 1, 1, []), (70, .iload_n 2, 1, []), (71, .iconst 0, 1, []), (72, .invokevirtual 188, 3, [0, 147, 5, 1])]),
  (false, [(75, .ireturn, 1, [])])]
theorem cb_X4_snap_0 : (blk md_X4_snap 0).2 = [(0, .aload_n 0, 1, []), (1, .iload_n 1, 1, []), (2, .invokevirtual 52, 3, [0, 103, 2, 1]), (5, .ifCond .ne 11, 3, [2])] := rfl
theorem cb_X4_snap_1 : (blk md_X4_snap 1).2 = [(8, .aload_n 0, 1, []), (9, .sipush (-1001), 3, []), (12, .invokevirtual 56, 3, [0, 101, 2, 1]), (15, .ireturn, 1, [])] := rfl
theorem cb_X4_snap_2 : (blk md_X4_snap 2).2 = [(16, .iconst 0, 1, []), (17, .istore_n 2, 1, [])] := rfl
theorem cb_X4_snap_3 : (blk md_X4_snap 3).2 = [(18, .iload_n 2, 1, []), (19, .bipush 8, 2, []), (21, .if_icmp .ge 23, 3, [6])] := rfl
theorem cb_X4_snap_4 : (blk md_X4_snap 4).2 = [(24, .aload_n 0, 1, []), (25, .getfield 7, 3, [4, 0]), (28, .sipush 383, 3, []), (31, .iload_n 2, 1, []), (32, .iadd, 1, []), (33, .iaload, 1, []), (34, .iconst 1, 1, []), (35, .if_icmp .ne 9, 3, [6])] := rfl
theorem cb_X4_snap_5 : (blk md_X4_snap 5).2 = [(38, .iinc 2 1, 3, []), (41, .goto (-23), 3, [3])] := rfl
theorem cb_X4_snap_6 : (blk md_X4_snap 6).2 = [(44, .aload_n 0, 1, []), (45, .invokevirtual 185, 3, [0, 121, 1, 1]), (48, .ifCond .ne 9, 3, [8])] := rfl
theorem cb_X4_snap_7 : (blk md_X4_snap 7).2 = [(51, .iload_n 2, 1, []), (52, .bipush 8, 2, []), (54, .if_icmp .ne 13, 3, [9])] := rfl
theorem cb_X4_snap_8 : (blk md_X4_snap 8).2 = [(57, .aload_n 0, 1, []), (58, .sipush (-1003), 3, []), (61, .invokevirtual 56, 3, [0, 101, 2, 1]), (64, .goto 11, 3, [10])] := rfl
theorem cb_X4_snap_9 : (blk md_X4_snap 9).2 = [(67, .aload_n 0, 1, []), (68, .iconst 1, 1, []), (69, .iload_n 1, 1, []), (70, .iload_n 2, 1, []), (71, .iconst 0, 1, []), (72, .invokevirtual 188, 3, [0, 147, 5, 1])] := rfl
theorem cb_X4_snap_10 : (blk md_X4_snap 10).2 = [(75, .ireturn, 1, [])] := rfl
def md_X4_drop : List mB := [
  (false, [(0, .aload_n 0, 1, []), (1, .iload_n 1, 1, []), (2, .invokevirtual 66, 3, [0, 104, 2, 1]), (5, .ifCond .ne 13, 3, [2])]),
  (false, [(8, .aload_n 0, 1, []), (9, .sipush (-1001), 3, []), (12, .invokevirtual 56, 3, [0, 101, 2, 1]), (15, .goto 28, 3, [5])]),
  (false, [(18, .aload_n 0, 1, []), (19, .invokevirtual 185, 3, [0, 121, 1, 1]), (22, .ifCond .eq 13, 3, [4])]),
  (false, [(25, .aload_n 0, 1, []), (26, .sipush (-1003), 3, []), (29, .invokevirtual 56, 3, [0, 101, 2, 1]), (32, .goto 11, 3, [5])]),
  (false, [(35, .aload_n 0, 1, []), (36, .iconst 2, 1, []), (37, .iload_n 1, 1, []), (38, .iconst 0, 1, []), (39, .iconst 0, 1, []), (40, .invokevirtual 188, 3, [0, 147, 5, 1])]),
  (false, [(43, .ireturn, 1, [])])]
theorem cb_X4_drop_0 : (blk md_X4_drop 0).2 = [(0, .aload_n 0, 1, []), (1, .iload_n 1, 1, []), (2, .invokevirtual 66, 3, [0, 104, 2, 1]), (5, .ifCond .ne 13, 3, [2])] := rfl
theorem cb_X4_drop_1 : (blk md_X4_drop 1).2 = [(8, .aload_n 0, 1, []), (9, .sipush (-1001), 3, []), (12, .invokevirtual 56, 3, [0, 101, 2, 1]), (15, .goto 28, 3, [5])] := rfl
theorem cb_X4_drop_2 : (blk md_X4_drop 2).2 = [(18, .aload_n 0, 1, []), (19, .invokevirtual 185, 3, [0, 121, 1, 1]), (22, .ifCond .eq 13, 3, [4])] := rfl
theorem cb_X4_drop_3 : (blk md_X4_drop 3).2 = [(25, .aload_n 0, 1, []), (26, .sipush (-1003), 3, []), (29, .invokevirtual 56, 3, [0, 101, 2, 1]), (32, .goto 11, 3, [5])] := rfl
theorem cb_X4_drop_4 : (blk md_X4_drop 4).2 = [(35, .aload_n 0, 1, []), (36, .iconst 2, 1, []), (37, .iload_n 1, 1, []), (38, .iconst 0, 1, []), (39, .iconst 0, 1, []), (40, .invokevirtual 188, 3, [0, 147, 5, 1])] := rfl
theorem cb_X4_drop_5 : (blk md_X4_drop 5).2 = [(43, .ireturn, 1, [])] := rfl
def md_X4_revert : List mB := [
  (false, [(0, .aload_n 0, 1, []), (1, .iload_n 1, 1, []), (2, .invokevirtual 66, 3, [0, 104, 2, 1]), (5, .ifCond .ne 13, 3, [2])]),
  (false, [(8, .aload_n 0, 1, []), (9, .sipush (-1001), 3, []), (12, .invokevirtual 56, 3, [0, 101, 2, 1]), (15, .goto 28, 3, [5])]),
  (false, [(18, .aload_n 0, 1, []), (19, .invokevirtual 185, 3, [0, 121, 1, 1]), (22, .ifCond .eq 13, 3, [4])]),
  (false, [(25, .aload_n 0, 1, []), (26, .sipush (-1003), 3, []), (29, .invokevirtual 56, 3, [0, 101, 2, 1]), (32, .goto 11, 3, [5])]),
  (false, [(35, .aload_n 0, 1, []), (36, .iconst 3, 1, []), (37, .iload_n 1, 1, []), (38, .iconst 0, 1, []), (39, .iconst 0, 1, []), (40, .invokevirtual 188, 3, [0, 147, 5, 1])]),
  (false, [(43, .ireturn, 1, [])])]
theorem cb_X4_revert_0 : (blk md_X4_revert 0).2 = [(0, .aload_n 0, 1, []), (1, .iload_n 1, 1, []), (2, .invokevirtual 66, 3, [0, 104, 2, 1]), (5, .ifCond .ne 13, 3, [2])] := rfl
theorem cb_X4_revert_1 : (blk md_X4_revert 1).2 = [(8, .aload_n 0, 1, []), (9, .sipush (-1001), 3, []), (12, .invokevirtual 56, 3, [0, 101, 2, 1]), (15, .goto 28, 3, [5])] := rfl
theorem cb_X4_revert_2 : (blk md_X4_revert 2).2 = [(18, .aload_n 0, 1, []), (19, .invokevirtual 185, 3, [0, 121, 1, 1]), (22, .ifCond .eq 13, 3, [4])] := rfl
theorem cb_X4_revert_3 : (blk md_X4_revert 3).2 = [(25, .aload_n 0, 1, []), (26, .sipush (-1003), 3, []), (29, .invokevirtual 56, 3, [0, 101, 2, 1]), (32, .goto 11, 3, [5])] := rfl
theorem cb_X4_revert_4 : (blk md_X4_revert 4).2 = [(35, .aload_n 0, 1, []), (36, .iconst 3, 1, []), (37, .iload_n 1, 1, []), (38, .iconst 0, 1, []), (39, .iconst 0, 1, []), (40, .invokevirtual 188, 3, [0, 147, 5, 1])] := rfl
theorem cb_X4_revert_5 : (blk md_X4_revert 5).2 = [(43, .ireturn, 1, [])] := rfl
def md_X4_giveUp : List mB := [
  (false, [(0, .aload_n 0, 1, []), (1, .iload_n 1, 1, []), (2, .invokevirtual 52, 3, [0, 103, 2, 1]), (5, .ifCond .eq 10, 3, [2])]),
  (false, [(8, .iload_n 2, 1, []), (9, .invokestatic 192, 3, [1, 106, 1, 1]), (12, .ifCond .ne 13, 3, [3])]),
  (false, [(15, .aload_n 0, 1, []), (16, .sipush (-1001), 3, []), (19, .invokevirtual 56, 3, [0, 101, 2, 1]), (22, .goto 28, 3, [6])]),
  (false, [(25, .aload_n 0, 1, []), (26, .invokevirtual 185, 3, [0, 121, 1, 1]), (29, .ifCond .eq 13, 3, [5])]),
  (false, [(32, .aload_n 0, 1, []), (33, .sipush (-1003), 3, []), (36, .invokevirtual 56, 3, [0, 101, 2, 1]), (39, .goto 11, 3, [6])]),
  (false, [(42, .aload_n 0, 1, []), (43, .iconst 4, 1, []), (44, .iload_n 1, 1, []), (45, .iload_n 2, 1, []), (46, .iconst 0, 1, []), (47, .invokevirtual 188, 3, [0, 147, 5, 1])]),
  (false, [(50, .ireturn, 1, [])])]
theorem cb_X4_giveUp_0 : (blk md_X4_giveUp 0).2 = [(0, .aload_n 0, 1, []), (1, .iload_n 1, 1, []), (2, .invokevirtual 52, 3, [0, 103, 2, 1]), (5, .ifCond .eq 10, 3, [2])] := rfl
theorem cb_X4_giveUp_1 : (blk md_X4_giveUp 1).2 = [(8, .iload_n 2, 1, []), (9, .invokestatic 192, 3, [1, 106, 1, 1]), (12, .ifCond .ne 13, 3, [3])] := rfl
theorem cb_X4_giveUp_2 : (blk md_X4_giveUp 2).2 = [(15, .aload_n 0, 1, []), (16, .sipush (-1001), 3, []), (19, .invokevirtual 56, 3, [0, 101, 2, 1]), (22, .goto 28, 3, [6])] := rfl
theorem cb_X4_giveUp_3 : (blk md_X4_giveUp 3).2 = [(25, .aload_n 0, 1, []), (26, .invokevirtual 185, 3, [0, 121, 1, 1]), (29, .ifCond .eq 13, 3, [5])] := rfl
theorem cb_X4_giveUp_4 : (blk md_X4_giveUp 4).2 = [(32, .aload_n 0, 1, []), (33, .sipush (-1003), 3, []), (36, .invokevirtual 56, 3, [0, 101, 2, 1]), (39, .goto 11, 3, [6])] := rfl
theorem cb_X4_giveUp_5 : (blk md_X4_giveUp 5).2 = [(42, .aload_n 0, 1, []), (43, .iconst 4, 1, []), (44, .iload_n 1, 1, []), (45, .iload_n 2, 1, []), (46, .iconst 0, 1, []), (47, .invokevirtual 188, 3, [0, 147, 5, 1])] := rfl
theorem cb_X4_giveUp_6 : (blk md_X4_giveUp 6).2 = [(50, .ireturn, 1, [])] := rfl
def md_X4_merge : List mB := [
  (false, [(0, .aload_n 0, 1, []), (1, .iload_n 1, 1, []), (2, .invokevirtual 52, 3, [0, 103, 2, 1]), (5, .ifCond .ne 13, 3, [2])]),
  (false, [(8, .aload_n 0, 1, []), (9, .sipush (-1001), 3, []), (12, .invokevirtual 56, 3, [0, 101, 2, 1]), (15, .goto 42, 3, [6])]),
  (false, [(18, .aload_n 0, 1, []), (19, .invokevirtual 185, 3, [0, 121, 1, 1]), (22, .ifCond .ne 17, 3, [4])]),
  (false, [(25, .aload_n 0, 1, []), (26, .getfield 7, 3, [4, 0]), (29, .sipush 321, 3, []), (32, .iload_n 1, 1, []), (33, .iadd, 1, []), (34, .iaload, 1, []), (35, .iconst (-1), 1, []), (36, .if_icmp .ne 13, 3, [5])]),
  (false, [(39, .aload_n 0, 1, []), (40, .sipush (-1003), 3, []), (43, .invokevirtual 56, 3, [0, 101, 2, 1]), (46, .goto 11, 3, [6])]),
  (false, [(49, .aload_n 0, 1, []), (50, .iconst 5, 1, []), (51, .iload_n 1, 1, []), (52, .iconst 0, 1, []), (53, .iconst 0, 1, []), (54, .invokevirtual 188, 3, [0, 147, 5, 1])]),
  (false, [(57, .ireturn, 1, [])])]
theorem cb_X4_merge_0 : (blk md_X4_merge 0).2 = [(0, .aload_n 0, 1, []), (1, .iload_n 1, 1, []), (2, .invokevirtual 52, 3, [0, 103, 2, 1]), (5, .ifCond .ne 13, 3, [2])] := rfl
theorem cb_X4_merge_1 : (blk md_X4_merge 1).2 = [(8, .aload_n 0, 1, []), (9, .sipush (-1001), 3, []), (12, .invokevirtual 56, 3, [0, 101, 2, 1]), (15, .goto 42, 3, [6])] := rfl
theorem cb_X4_merge_2 : (blk md_X4_merge 2).2 = [(18, .aload_n 0, 1, []), (19, .invokevirtual 185, 3, [0, 121, 1, 1]), (22, .ifCond .ne 17, 3, [4])] := rfl
theorem cb_X4_merge_3 : (blk md_X4_merge 3).2 = [(25, .aload_n 0, 1, []), (26, .getfield 7, 3, [4, 0]), (29, .sipush 321, 3, []), (32, .iload_n 1, 1, []), (33, .iadd, 1, []), (34, .iaload, 1, []), (35, .iconst (-1), 1, []), (36, .if_icmp .ne 13, 3, [5])] := rfl
theorem cb_X4_merge_4 : (blk md_X4_merge 4).2 = [(39, .aload_n 0, 1, []), (40, .sipush (-1003), 3, []), (43, .invokevirtual 56, 3, [0, 101, 2, 1]), (46, .goto 11, 3, [6])] := rfl
theorem cb_X4_merge_5 : (blk md_X4_merge 5).2 = [(49, .aload_n 0, 1, []), (50, .iconst 5, 1, []), (51, .iload_n 1, 1, []), (52, .iconst 0, 1, []), (53, .iconst 0, 1, []), (54, .invokevirtual 188, 3, [0, 147, 5, 1])] := rfl
theorem cb_X4_merge_6 : (blk md_X4_merge 6).2 = [(57, .ireturn, 1, [])] := rfl
def md_X4_move : List mB := [
  (false, [(0, .aload_n 0, 1, []), (1, .iload_n 1, 1, []), (2, .invokevirtual 52, 3, [0, 103, 2, 1]), (5, .ifCond .eq 25, 3, [4])]),
  (false, [(8, .iload_n 2, 1, []), (9, .iconst (-1), 1, []), (10, .if_icmp .eq 11, 3, [3])]),
  (false, [(13, .aload_n 0, 1, []), (14, .iload_n 2, 1, []), (15, .invokevirtual 52, 3, [0, 103, 2, 1]), (18, .ifCond .eq 12, 3, [4])]),
  (false, [(21, .iload_n 3, 1, []), (22, .iconst 0, 1, []), (23, .iconst 1, 1, []), (24, .invokestatic 37, 3, [1, 100, 3, 1]), (27, .ifCond .ne 11, 3, [5])]),
  (false, [(30, .aload_n 0, 1, []), (31, .sipush (-1001), 3, []), (34, .invokevirtual 56, 3, [0, 101, 2, 1]), (37, .ireturn, 1, [])]),
  (false, [(38, .aload_n 0, 1, []), (39, .invokevirtual 185, 3, [0, 121, 1, 1]), (42, .ifCond .eq 11, 3, [7])]),
  (false, [(45, .aload_n 0, 1, []), (46, .sipush (-1003), 3, []), (49, .invokevirtual 56, 3, [0, 101, 2, 1]), (52, .ireturn, 1, [])]),
  (false, [(53, .aload_n 0, 1, []), (54, .iload_n 2, 1, []), (55, .iload_n 1, 1, []), (56, .invokevirtual 195, 3, [0, 117, 3, 1]), (59, .ifCond .eq 13, 3, [9])]),
  (false, [(62, .aload_n 0, 1, []), (63, .sipush (-1004), 3, []), (66, .invokevirtual 56, 3, [0, 101, 2, 1]), (69, .goto 12, 3, [10])]),
  (false, [(72, .aload_n 0, 1, []), (73, .bipush 6, 2, []), (75, .iload_n 1, 1, []), (76, .iload_n 2, 1, []), (77, .iload_n 3, 1, []), (78, .invokevirtual 188, 3, [0, 147, 5, 1])]),
  (false, [(81, .ireturn, 1, [])])]
theorem cb_X4_move_0 : (blk md_X4_move 0).2 = [(0, .aload_n 0, 1, []), (1, .iload_n 1, 1, []), (2, .invokevirtual 52, 3, [0, 103, 2, 1]), (5, .ifCond .eq 25, 3, [4])] := rfl
theorem cb_X4_move_1 : (blk md_X4_move 1).2 = [(8, .iload_n 2, 1, []), (9, .iconst (-1), 1, []), (10, .if_icmp .eq 11, 3, [3])] := rfl
theorem cb_X4_move_2 : (blk md_X4_move 2).2 = [(13, .aload_n 0, 1, []), (14, .iload_n 2, 1, []), (15, .invokevirtual 52, 3, [0, 103, 2, 1]), (18, .ifCond .eq 12, 3, [4])] := rfl
theorem cb_X4_move_3 : (blk md_X4_move 3).2 = [(21, .iload_n 3, 1, []), (22, .iconst 0, 1, []), (23, .iconst 1, 1, []), (24, .invokestatic 37, 3, [1, 100, 3, 1]), (27, .ifCond .ne 11, 3, [5])] := rfl
theorem cb_X4_move_4 : (blk md_X4_move 4).2 = [(30, .aload_n 0, 1, []), (31, .sipush (-1001), 3, []), (34, .invokevirtual 56, 3, [0, 101, 2, 1]), (37, .ireturn, 1, [])] := rfl
theorem cb_X4_move_5 : (blk md_X4_move 5).2 = [(38, .aload_n 0, 1, []), (39, .invokevirtual 185, 3, [0, 121, 1, 1]), (42, .ifCond .eq 11, 3, [7])] := rfl
theorem cb_X4_move_6 : (blk md_X4_move 6).2 = [(45, .aload_n 0, 1, []), (46, .sipush (-1003), 3, []), (49, .invokevirtual 56, 3, [0, 101, 2, 1]), (52, .ireturn, 1, [])] := rfl
theorem cb_X4_move_7 : (blk md_X4_move 7).2 = [(53, .aload_n 0, 1, []), (54, .iload_n 2, 1, []), (55, .iload_n 1, 1, []), (56, .invokevirtual 195, 3, [0, 117, 3, 1]), (59, .ifCond .eq 13, 3, [9])] := rfl
theorem cb_X4_move_8 : (blk md_X4_move 8).2 = [(62, .aload_n 0, 1, []), (63, .sipush (-1004), 3, []), (66, .invokevirtual 56, 3, [0, 101, 2, 1]), (69, .goto 12, 3, [10])] := rfl
theorem cb_X4_move_9 : (blk md_X4_move 9).2 = [(72, .aload_n 0, 1, []), (73, .bipush 6, 2, []), (75, .iload_n 1, 1, []), (76, .iload_n 2, 1, []), (77, .iload_n 3, 1, []), (78, .invokevirtual 188, 3, [0, 147, 5, 1])] := rfl
theorem cb_X4_move_10 : (blk md_X4_move 10).2 = [(81, .ireturn, 1, [])] := rfl
def md_X4_fold : List mB := [
  (false, [(0, .aload_n 0, 1, []), (1, .invokevirtual 185, 3, [0, 121, 1, 1]), (4, .ifCond .eq 13, 3, [2])]),
  (false, [(7, .aload_n 0, 1, []), (8, .sipush (-1003), 3, []), (11, .invokevirtual 56, 3, [0, 101, 2, 1]), (14, .goto 12, 3, [3])]),
  (false, [(17, .aload_n 0, 1, []), (18, .bipush 7, 2, []), (20, .iconst 0, 1, []), (21, .iconst 0, 1, []), (22, .iconst 0, 1, []), (23, .invokevirtual 188, 3, [0, 147, 5, 1])]),
  (false, [(26, .ireturn, 1, [])])]
theorem cb_X4_fold_0 : (blk md_X4_fold 0).2 = [(0, .aload_n 0, 1, []), (1, .invokevirtual 185, 3, [0, 121, 1, 1]), (4, .ifCond .eq 13, 3, [2])] := rfl
theorem cb_X4_fold_1 : (blk md_X4_fold 1).2 = [(7, .aload_n 0, 1, []), (8, .sipush (-1003), 3, []), (11, .invokevirtual 56, 3, [0, 101, 2, 1]), (14, .goto 12, 3, [3])] := rfl
theorem cb_X4_fold_2 : (blk md_X4_fold 2).2 = [(17, .aload_n 0, 1, []), (18, .bipush 7, 2, []), (20, .iconst 0, 1, []), (21, .iconst 0, 1, []), (22, .iconst 0, 1, []), (23, .invokevirtual 188, 3, [0, 147, 5, 1])] := rfl
theorem cb_X4_fold_3 : (blk md_X4_fold 3).2 = [(26, .ireturn, 1, [])] := rfl
def md_X4_tear : List mB := [
  (false, [(0, .iload_n 1, 1, []), (1, .iconst (-1), 1, []), (2, .sipush 999, 3, []), (5, .invokestatic 37, 3, [1, 100, 3, 1]), (8, .ifCond .ne 11, 3, [2])]),
  (false, [(11, .aload_n 0, 1, []), (12, .sipush (-1001), 3, []), (15, .invokevirtual 56, 3, [0, 101, 2, 1]), (18, .ireturn, 1, [])]),
  (false, [(19, .aload_n 0, 1, []), (20, .getfield 7, 3, [4, 0]), (23, .sipush 399, 3, []), (26, .iaload, 1, []), (27, .istore_n 2, 1, []), (28, .aload_n 0, 1, []), (29, .getfield 7, 3, [4, 0]), (32, .sipush 399, 3, []), (35, .iload_n 1, 1, []), (36, .iastore, 1, []), (37, .iload_n 2, 1, []), (38, .ireturn, 1, [])])]
theorem cb_X4_tear_0 : (blk md_X4_tear 0).2 = [(0, .iload_n 1, 1, []), (1, .iconst (-1), 1, []), (2, .sipush 999, 3, []), (5, .invokestatic 37, 3, [1, 100, 3, 1]), (8, .ifCond .ne 11, 3, [2])] := rfl
theorem cb_X4_tear_1 : (blk md_X4_tear 1).2 = [(11, .aload_n 0, 1, []), (12, .sipush (-1001), 3, []), (15, .invokevirtual 56, 3, [0, 101, 2, 1]), (18, .ireturn, 1, [])] := rfl
theorem cb_X4_tear_2 : (blk md_X4_tear 2).2 = [(19, .aload_n 0, 1, []), (20, .getfield 7, 3, [4, 0]), (23, .sipush 399, 3, []), (26, .iaload, 1, []), (27, .istore_n 2, 1, []), (28, .aload_n 0, 1, []), (29, .getfield 7, 3, [4, 0]), (32, .sipush 399, 3, []), (35, .iload_n 1, 1, []), (36, .iastore, 1, []), (37, .iload_n 2, 1, []), (38, .ireturn, 1, [])] := rfl
def md_X4_cluster : List mB := [
  (false, [(0, .iload_n 1, 1, []), (1, .invokestatic 198, 3, [1, 107, 1, 1]), (4, .ifCond .eq 12, 3, [2])]),
  (false, [(7, .iload_n 2, 1, []), (8, .iconst 0, 1, []), (9, .iconst 5, 1, []), (10, .invokestatic 37, 3, [1, 100, 3, 1]), (13, .ifCond .ne 11, 3, [3])]),
  (false, [(16, .aload_n 0, 1, []), (17, .sipush (-1001), 3, []), (20, .invokevirtual 56, 3, [0, 101, 2, 1]), (23, .ireturn, 1, [])]),
  (false, [(24, .aload_n 0, 1, []), (25, .invokevirtual 75, 3, [0, 119, 1, 0]), (28, .iload_n 2, 1, []), (29, .ifCond .ne 14, 3, [5])]),
  (false, [(32, .aload_n 0, 1, []), (33, .getfield 7, 3, [4, 0]), (36, .iconst 0, 1, []), (37, .iload_n 1, 1, []), (38, .iadd, 1, []), (39, .iaload, 1, []), (40, .goto 32, 3, [8])]),
  (false, [(43, .iload_n 2, 1, []), (44, .iconst 1, 1, []), (45, .if_icmp .ne 12, 3, [7])]),
  (false, [(48, .aload_n 0, 1, []), (49, .getfield 22, 3, [4, 5]), (52, .iload_n 1, 1, []), (53, .iaload, 1, []), (54, .goto 18, 3, [8])]),
  (false, [(57, .aload_n 0, 1, []), (58, .getfield 7, 3, [4, 0]), (61, .bipush 64, 2, []), (63, .iconst 4, 1, []), (64, .iload_n 1, 1, []), (65, .imul, 1, []), (66, .iadd, 1, []), (67, .iload_n 2, 1, []), (68, .iadd, 1, []), (69, .iconst 2, 1, []), (70, .isub, 1, []), (71, .iaload, 1, [])]),
  (false, [(72, .ireturn, 1, [])])]
theorem cb_X4_cluster_0 : (blk md_X4_cluster 0).2 = [(0, .iload_n 1, 1, []), (1, .invokestatic 198, 3, [1, 107, 1, 1]), (4, .ifCond .eq 12, 3, [2])] := rfl
theorem cb_X4_cluster_1 : (blk md_X4_cluster 1).2 = [(7, .iload_n 2, 1, []), (8, .iconst 0, 1, []), (9, .iconst 5, 1, []), (10, .invokestatic 37, 3, [1, 100, 3, 1]), (13, .ifCond .ne 11, 3, [3])] := rfl
theorem cb_X4_cluster_2 : (blk md_X4_cluster 2).2 = [(16, .aload_n 0, 1, []), (17, .sipush (-1001), 3, []), (20, .invokevirtual 56, 3, [0, 101, 2, 1]), (23, .ireturn, 1, [])] := rfl
theorem cb_X4_cluster_3 : (blk md_X4_cluster 3).2 = [(24, .aload_n 0, 1, []), (25, .invokevirtual 75, 3, [0, 119, 1, 0]), (28, .iload_n 2, 1, []), (29, .ifCond .ne 14, 3, [5])] := rfl
theorem cb_X4_cluster_4 : (blk md_X4_cluster 4).2 = [(32, .aload_n 0, 1, []), (33, .getfield 7, 3, [4, 0]), (36, .iconst 0, 1, []), (37, .iload_n 1, 1, []), (38, .iadd, 1, []), (39, .iaload, 1, []), (40, .goto 32, 3, [8])] := rfl
theorem cb_X4_cluster_5 : (blk md_X4_cluster 5).2 = [(43, .iload_n 2, 1, []), (44, .iconst 1, 1, []), (45, .if_icmp .ne 12, 3, [7])] := rfl
theorem cb_X4_cluster_6 : (blk md_X4_cluster 6).2 = [(48, .aload_n 0, 1, []), (49, .getfield 22, 3, [4, 5]), (52, .iload_n 1, 1, []), (53, .iaload, 1, []), (54, .goto 18, 3, [8])] := rfl
theorem cb_X4_cluster_7 : (blk md_X4_cluster 7).2 = [(57, .aload_n 0, 1, []), (58, .getfield 7, 3, [4, 0]), (61, .bipush 64, 2, []), (63, .iconst 4, 1, []), (64, .iload_n 1, 1, []), (65, .imul, 1, []), (66, .iadd, 1, []), (67, .iload_n 2, 1, []), (68, .iadd, 1, []), (69, .iconst 2, 1, []), (70, .isub, 1, []), (71, .iaload, 1, [])] := rfl
theorem cb_X4_cluster_8 : (blk md_X4_cluster 8).2 = [(72, .ireturn, 1, [])] := rfl
def md_X4_spoil : List mB := [
  (false, [(0, .iload_n 1, 1, []), (1, .invokestatic 198, 3, [1, 107, 1, 1]), (4, .ifCond .eq 13, 3, [2])]),
  (false, [(7, .iload_n 2, 1, []), (8, .iconst 0, 1, []), (9, .bipush 99, 2, []), (11, .invokestatic 37, 3, [1, 100, 3, 1]), (14, .ifCond .ne 11, 3, [3])]),
  (false, [(17, .aload_n 0, 1, []), (18, .sipush (-1001), 3, []), (21, .invokevirtual 56, 3, [0, 101, 2, 1]), (24, .ireturn, 1, [])]),
  (false, [(25, .aload_n 0, 1, []), (26, .getfield 7, 3, [4, 0]), (29, .iconst 0, 1, []), (30, .iload_n 1, 1, []), (31, .iadd, 1, []), (32, .iaload, 1, []), (33, .istore_n 3, 1, []), (34, .aload_n 0, 1, []), (35, .getfield 7, 3, [4, 0]), (38, .iconst 0, 1, []), (39, .iload_n 1, 1, []), (40, .iadd, 1, []), (41, .iload_n 2, 1, []), (42, .iastore, 1, []), (43, .iload_n 3, 1, []), (44, .ireturn, 1, [])])]
theorem cb_X4_spoil_0 : (blk md_X4_spoil 0).2 = [(0, .iload_n 1, 1, []), (1, .invokestatic 198, 3, [1, 107, 1, 1]), (4, .ifCond .eq 13, 3, [2])] := rfl
theorem cb_X4_spoil_1 : (blk md_X4_spoil 1).2 = [(7, .iload_n 2, 1, []), (8, .iconst 0, 1, []), (9, .bipush 99, 2, []), (11, .invokestatic 37, 3, [1, 100, 3, 1]), (14, .ifCond .ne 11, 3, [3])] := rfl
theorem cb_X4_spoil_2 : (blk md_X4_spoil 2).2 = [(17, .aload_n 0, 1, []), (18, .sipush (-1001), 3, []), (21, .invokevirtual 56, 3, [0, 101, 2, 1]), (24, .ireturn, 1, [])] := rfl
theorem cb_X4_spoil_3 : (blk md_X4_spoil 3).2 = [(25, .aload_n 0, 1, []), (26, .getfield 7, 3, [4, 0]), (29, .iconst 0, 1, []), (30, .iload_n 1, 1, []), (31, .iadd, 1, []), (32, .iaload, 1, []), (33, .istore_n 3, 1, []), (34, .aload_n 0, 1, []), (35, .getfield 7, 3, [4, 0]), (38, .iconst 0, 1, []), (39, .iload_n 1, 1, []), (40, .iadd, 1, []), (41, .iload_n 2, 1, []), (42, .iastore, 1, []), (43, .iload_n 3, 1, []), (44, .ireturn, 1, [])] := rfl
def md_X4_all : List mB := [
  (false, [(0, .aload_n 0, 1, []), (1, .invokevirtual 75, 3, [0, 119, 1, 0]), (4, .lconst 0, 1, []), (5, .lstore_n 2, 1, []), (6, .iconst 1, 1, []), (7, .istore 4, 2, [])]),
  (false, [(9, .iload 4, 2, []), (11, .bipush 64, 2, []), (13, .if_icmp .ge 126, 3, [22])]),
  (false, [(16, .aload_n 0, 1, []), (17, .getfield 7, 3, [4, 0]), (20, .iconst 0, 1, []), (21, .iload 4, 2, []), (23, .iadd, 1, []), (24, .iaload, 1, []), (25, .istore 5, 2, []), (27, .iload_n 1, 1, []), (28, .ifCond .ne 23, 3, [6])]),
  (false, [(31, .iload 5, 2, []), (33, .aload_n 0, 1, []), (34, .getfield 22, 3, [4, 5]), (37, .iload 4, 2, []), (39, .iaload, 1, []), (40, .if_icmp .le 7, 3, [5])]),
  (false, [(43, .iconst 1, 1, []), (44, .goto 71, 3, [18])]),
  (false, [(47, .iconst 0, 1, []), (48, .goto 67, 3, [18])]),
  (false, [(51, .iload_n 1, 1, []), (52, .iconst 1, 1, []), (53, .if_icmp .ne 23, 3, [10])]),
  (false, [(56, .iload 5, 2, []), (58, .aload_n 0, 1, []), (59, .getfield 22, 3, [4, 5]), (62, .iload 4, 2, []), (64, .iaload, 1, []), (65, .if_icmp .ge 7, 3, [9])]),
  (false, [(68, .iconst 1, 1, []), (69, .goto 46, 3, [18])]),
  (false, [(72, .iconst 0, 1, []), (73, .goto 42, 3, [18])]),
  (false, [(76, .iload_n 1, 1, []), (77, .iconst 2, 1, []), (78, .if_icmp .ne 16, 3, [14])]),
  (false, [(81, .iload 5, 2, []), (83, .ifCond .ne 7, 3, [13])]),
  (false, [(86, .iconst 1, 1, []), (87, .goto 28, 3, [18])]),
  (false, [(90, .iconst 0, 1, []), (91, .goto 24, 3, [18])]),
  (false, [(94, .iload_n 1, 1, []), (95, .iconst 3, 1, []), (96, .if_icmp .ne 18, 3, [17])]),
  (false, [(99, .aload_n 0, 1, []), (100, .getfield 25, 3, [4, 6]), (103, .iload 4, 2, []), (105, .iaload, 1, []), (106, .iconst 1, 1, []), (107, .if_icmp .le 7, 3, [17])]),
  (false, [(110, .iconst 1, 1, []), (111, .goto 4, 3, [18])]),
  (false, [(114, .iconst 0, 1, [])]),
  (false, [(115, .istore 6, 2, []), (117, .lload_n 2, 1, []), (118, .iload 6, 2, []), (120, .ifCond .eq 10, 3, [20])]),
  (false, [(123, .lconst 1, 1, []), (124, .iload 4, 2, []), (126, .lshl, 1, []), (127, .goto 4, 3, [21])]),
  (false, [(130, .lconst 0, 1, [])]),
  (false, [(131, .lor, 1, []), (132, .lstore_n 2, 1, []), (133, .iinc 4 1, 3, []), (136, .goto (-127), 3, [1])]),
  (false, [(139, .lload_n 2, 1, []), (140, .lreturn, 1, [])])]
theorem cb_X4_all_0 : (blk md_X4_all 0).2 = [(0, .aload_n 0, 1, []), (1, .invokevirtual 75, 3, [0, 119, 1, 0]), (4, .lconst 0, 1, []), (5, .lstore_n 2, 1, []), (6, .iconst 1, 1, []), (7, .istore 4, 2, [])] := rfl
theorem cb_X4_all_1 : (blk md_X4_all 1).2 = [(9, .iload 4, 2, []), (11, .bipush 64, 2, []), (13, .if_icmp .ge 126, 3, [22])] := rfl
theorem cb_X4_all_2 : (blk md_X4_all 2).2 = [(16, .aload_n 0, 1, []), (17, .getfield 7, 3, [4, 0]), (20, .iconst 0, 1, []), (21, .iload 4, 2, []), (23, .iadd, 1, []), (24, .iaload, 1, []), (25, .istore 5, 2, []), (27, .iload_n 1, 1, []), (28, .ifCond .ne 23, 3, [6])] := rfl
theorem cb_X4_all_3 : (blk md_X4_all 3).2 = [(31, .iload 5, 2, []), (33, .aload_n 0, 1, []), (34, .getfield 22, 3, [4, 5]), (37, .iload 4, 2, []), (39, .iaload, 1, []), (40, .if_icmp .le 7, 3, [5])] := rfl
theorem cb_X4_all_4 : (blk md_X4_all 4).2 = [(43, .iconst 1, 1, []), (44, .goto 71, 3, [18])] := rfl
theorem cb_X4_all_5 : (blk md_X4_all 5).2 = [(47, .iconst 0, 1, []), (48, .goto 67, 3, [18])] := rfl
theorem cb_X4_all_6 : (blk md_X4_all 6).2 = [(51, .iload_n 1, 1, []), (52, .iconst 1, 1, []), (53, .if_icmp .ne 23, 3, [10])] := rfl
theorem cb_X4_all_7 : (blk md_X4_all 7).2 = [(56, .iload 5, 2, []), (58, .aload_n 0, 1, []), (59, .getfield 22, 3, [4, 5]), (62, .iload 4, 2, []), (64, .iaload, 1, []), (65, .if_icmp .ge 7, 3, [9])] := rfl
theorem cb_X4_all_8 : (blk md_X4_all 8).2 = [(68, .iconst 1, 1, []), (69, .goto 46, 3, [18])] := rfl
theorem cb_X4_all_9 : (blk md_X4_all 9).2 = [(72, .iconst 0, 1, []), (73, .goto 42, 3, [18])] := rfl
theorem cb_X4_all_10 : (blk md_X4_all 10).2 = [(76, .iload_n 1, 1, []), (77, .iconst 2, 1, []), (78, .if_icmp .ne 16, 3, [14])] := rfl
theorem cb_X4_all_11 : (blk md_X4_all 11).2 = [(81, .iload 5, 2, []), (83, .ifCond .ne 7, 3, [13])] := rfl
theorem cb_X4_all_12 : (blk md_X4_all 12).2 = [(86, .iconst 1, 1, []), (87, .goto 28, 3, [18])] := rfl
theorem cb_X4_all_13 : (blk md_X4_all 13).2 = [(90, .iconst 0, 1, []), (91, .goto 24, 3, [18])] := rfl
theorem cb_X4_all_14 : (blk md_X4_all 14).2 = [(94, .iload_n 1, 1, []), (95, .iconst 3, 1, []), (96, .if_icmp .ne 18, 3, [17])] := rfl
theorem cb_X4_all_15 : (blk md_X4_all 15).2 = [(99, .aload_n 0, 1, []), (100, .getfield 25, 3, [4, 6]), (103, .iload 4, 2, []), (105, .iaload, 1, []), (106, .iconst 1, 1, []), (107, .if_icmp .le 7, 3, [17])] := rfl
theorem cb_X4_all_16 : (blk md_X4_all 16).2 = [(110, .iconst 1, 1, []), (111, .goto 4, 3, [18])] := rfl
theorem cb_X4_all_17 : (blk md_X4_all 17).2 = [(114, .iconst 0, 1, [])] := rfl
theorem cb_X4_all_18 : (blk md_X4_all 18).2 = [(115, .istore 6, 2, []), (117, .lload_n 2, 1, []), (118, .iload 6, 2, []), (120, .ifCond .eq 10, 3, [20])] := rfl
theorem cb_X4_all_19 : (blk md_X4_all 19).2 = [(123, .lconst 1, 1, []), (124, .iload 4, 2, []), (126, .lshl, 1, []), (127, .goto 4, 3, [21])] := rfl
theorem cb_X4_all_20 : (blk md_X4_all 20).2 = [(130, .lconst 0, 1, [])] := rfl
theorem cb_X4_all_21 : (blk md_X4_all 21).2 = [(131, .lor, 1, []), (132, .lstore_n 2, 1, []), (133, .iinc 4 1, 3, []), (136, .goto (-127), 3, [1])] := rfl
theorem cb_X4_all_22 : (blk md_X4_all 22).2 = [(139, .lload_n 2, 1, []), (140, .lreturn, 1, [])] := rfl
def md_X4_repair : List mB := [
  (false, [(0, .aload_n 0, 1, []), (1, .invokevirtual 75, 3, [0, 119, 1, 0]), (4, .iconst 0, 1, []), (5, .istore_n 1, 1, []), (6, .iconst 1, 1, []), (7, .istore_n 2, 1, [])]),
  (false, [(8, .iload_n 2, 1, []), (9, .bipush 64, 2, []), (11, .if_icmp .ge 48, 3, [6])]),
  (false, [(14, .iload_n 1, 1, []), (15, .aload_n 0, 1, []), (16, .getfield 7, 3, [4, 0]), (19, .iconst 0, 1, []), (20, .iload_n 2, 1, []), (21, .iadd, 1, []), (22, .iaload, 1, []), (23, .aload_n 0, 1, []), (24, .getfield 22, 3, [4, 5]), (27, .iload_n 2, 1, []), (28, .iaload, 1, []), (29, .if_icmp .ne 7, 3, [4])]),
  (false, [(32, .iconst 0, 1, []), (33, .goto 4, 3, [5])]),
  (false, [(36, .iconst 1, 1, [])]),
  (false, [(37, .iadd, 1, []), (38, .istore_n 1, 1, []), (39, .aload_n 0, 1, []), (40, .getfield 7, 3, [4, 0]), (43, .iconst 0, 1, []), (44, .iload_n 2, 1, []), (45, .iadd, 1, []), (46, .aload_n 0, 1, []), (47, .getfield 22, 3, [4, 5]), (50, .iload_n 2, 1, []), (51, .iaload, 1, []), (52, .iastore, 1, []), (53, .iinc 2 1, 3, []), (56, .goto (-48), 3, [1])]),
  (false, [(59, .iload_n 1, 1, []), (60, .ireturn, 1, [])])]
theorem cb_X4_repair_0 : (blk md_X4_repair 0).2 = [(0, .aload_n 0, 1, []), (1, .invokevirtual 75, 3, [0, 119, 1, 0]), (4, .iconst 0, 1, []), (5, .istore_n 1, 1, []), (6, .iconst 1, 1, []), (7, .istore_n 2, 1, [])] := rfl
theorem cb_X4_repair_1 : (blk md_X4_repair 1).2 = [(8, .iload_n 2, 1, []), (9, .bipush 64, 2, []), (11, .if_icmp .ge 48, 3, [6])] := rfl
theorem cb_X4_repair_2 : (blk md_X4_repair 2).2 = [(14, .iload_n 1, 1, []), (15, .aload_n 0, 1, []), (16, .getfield 7, 3, [4, 0]), (19, .iconst 0, 1, []), (20, .iload_n 2, 1, []), (21, .iadd, 1, []), (22, .iaload, 1, []), (23, .aload_n 0, 1, []), (24, .getfield 22, 3, [4, 5]), (27, .iload_n 2, 1, []), (28, .iaload, 1, []), (29, .if_icmp .ne 7, 3, [4])] := rfl
theorem cb_X4_repair_3 : (blk md_X4_repair 3).2 = [(32, .iconst 0, 1, []), (33, .goto 4, 3, [5])] := rfl
theorem cb_X4_repair_4 : (blk md_X4_repair 4).2 = [(36, .iconst 1, 1, [])] := rfl
theorem cb_X4_repair_5 : (blk md_X4_repair 5).2 = [(37, .iadd, 1, []), (38, .istore_n 1, 1, []), (39, .aload_n 0, 1, []), (40, .getfield 7, 3, [4, 0]), (43, .iconst 0, 1, []), (44, .iload_n 2, 1, []), (45, .iadd, 1, []), (46, .aload_n 0, 1, []), (47, .getfield 22, 3, [4, 5]), (50, .iload_n 2, 1, []), (51, .iaload, 1, []), (52, .iastore, 1, []), (53, .iinc 2 1, 3, []), (56, .goto (-48), 3, [1])] := rfl
theorem cb_X4_repair_6 : (blk md_X4_repair 6).2 = [(59, .iload_n 1, 1, []), (60, .ireturn, 1, [])] := rfl
def md_X4_directoryOf : List mB := [
  (false, [(0, .aload_n 0, 1, []), (1, .iload_n 1, 1, []), (2, .invokevirtual 52, 3, [0, 103, 2, 1]), (5, .ifCond .eq 7, 3, [2])]),
  (false, [(8, .iload_n 1, 1, []), (9, .goto 25, 3, [5])]),
  (false, [(12, .aload_n 0, 1, []), (13, .iload_n 1, 1, []), (14, .bipush 10, 2, []), (16, .isub, 1, []), (17, .invokevirtual 66, 3, [0, 104, 2, 1]), (20, .ifCond .eq 13, 3, [4])]),
  (false, [(23, .bipush 6, 2, []), (25, .iload_n 1, 1, []), (26, .iadd, 1, []), (27, .bipush 10, 2, []), (29, .isub, 1, []), (30, .goto 4, 3, [5])]),
  (false, [(33, .iconst (-1), 1, [])]),
  (false, [(34, .ireturn, 1, [])])]
theorem cb_X4_directoryOf_0 : (blk md_X4_directoryOf 0).2 = [(0, .aload_n 0, 1, []), (1, .iload_n 1, 1, []), (2, .invokevirtual 52, 3, [0, 103, 2, 1]), (5, .ifCond .eq 7, 3, [2])] := rfl
theorem cb_X4_directoryOf_1 : (blk md_X4_directoryOf 1).2 = [(8, .iload_n 1, 1, []), (9, .goto 25, 3, [5])] := rfl
theorem cb_X4_directoryOf_2 : (blk md_X4_directoryOf 2).2 = [(12, .aload_n 0, 1, []), (13, .iload_n 1, 1, []), (14, .bipush 10, 2, []), (16, .isub, 1, []), (17, .invokevirtual 66, 3, [0, 104, 2, 1]), (20, .ifCond .eq 13, 3, [4])] := rfl
theorem cb_X4_directoryOf_3 : (blk md_X4_directoryOf 3).2 = [(23, .bipush 6, 2, []), (25, .iload_n 1, 1, []), (26, .iadd, 1, []), (27, .bipush 10, 2, []), (29, .isub, 1, []), (30, .goto 4, 3, [5])] := rfl
theorem cb_X4_directoryOf_4 : (blk md_X4_directoryOf 4).2 = [(33, .iconst (-1), 1, [])] := rfl
theorem cb_X4_directoryOf_5 : (blk md_X4_directoryOf 5).2 = [(34, .ireturn, 1, [])] := rfl
def md_X4_heldBy : List mB := [
  (false, [(0, .lconst 0, 1, []), (1, .lstore_n 2, 1, []), (2, .iconst 0, 1, []), (3, .istore 4, 2, [])]),
  (false, [(5, .iload 4, 2, []), (7, .iconst 4, 1, []), (8, .if_icmp .ge 72, 3, [8])]),
  (false, [(11, .aload_n 0, 1, []), (12, .getfield 7, 3, [4, 0]), (15, .iload_n 1, 1, []), (16, .iload 4, 2, []), (18, .invokestatic 41, 3, [1, 108, 2, 1]), (21, .iaload, 1, []), (22, .istore 5, 2, []), (24, .iload 5, 2, []), (26, .ifCond .ne 6, 3, [4])]),
  (false, [(29, .goto 45, 3, [7])]),
  (false, [(32, .lload_n 2, 1, []), (33, .lconst 1, 1, []), (34, .iload 5, 2, []), (36, .lshl, 1, []), (37, .lor, 1, []), (38, .lstore_n 2, 1, []), (39, .iconst 0, 1, []), (40, .istore 6, 2, [])]),
  (false, [(42, .iload 6, 2, []), (44, .iconst 4, 1, []), (45, .if_icmp .ge 29, 3, [7])]),
  (false, [(48, .lload_n 2, 1, []), (49, .lconst 1, 1, []), (50, .aload_n 0, 1, []), (51, .getfield 7, 3, [4, 0]), (54, .bipush 64, 2, []), (56, .iconst 4, 1, []), (57, .iload 5, 2, []), (59, .imul, 1, []), (60, .iadd, 1, []), (61, .iload 6, 2, []), (63, .iadd, 1, []), (64, .iaload, 1, []), (65, .lshl, 1, []), (66, .lor, 1, []), (67, .lstore_n 2, 1, []), (68, .iinc 6 1, 3, []), (71, .goto (-29), 3, [5])]),
  (false, [(74, .iinc 4 1, 3, []), (77, .goto (-72), 3, [1])]),
  (false, [(80, .lload_n 2, 1, []), (81, .ldc2_w 201, 3, [18446744073709551614]), (84, .land, 1, []), (85, .lreturn, 1, [])])]
theorem cb_X4_heldBy_0 : (blk md_X4_heldBy 0).2 = [(0, .lconst 0, 1, []), (1, .lstore_n 2, 1, []), (2, .iconst 0, 1, []), (3, .istore 4, 2, [])] := rfl
theorem cb_X4_heldBy_1 : (blk md_X4_heldBy 1).2 = [(5, .iload 4, 2, []), (7, .iconst 4, 1, []), (8, .if_icmp .ge 72, 3, [8])] := rfl
theorem cb_X4_heldBy_2 : (blk md_X4_heldBy 2).2 = [(11, .aload_n 0, 1, []), (12, .getfield 7, 3, [4, 0]), (15, .iload_n 1, 1, []), (16, .iload 4, 2, []), (18, .invokestatic 41, 3, [1, 108, 2, 1]), (21, .iaload, 1, []), (22, .istore 5, 2, []), (24, .iload 5, 2, []), (26, .ifCond .ne 6, 3, [4])] := rfl
theorem cb_X4_heldBy_3 : (blk md_X4_heldBy 3).2 = [(29, .goto 45, 3, [7])] := rfl
theorem cb_X4_heldBy_4 : (blk md_X4_heldBy 4).2 = [(32, .lload_n 2, 1, []), (33, .lconst 1, 1, []), (34, .iload 5, 2, []), (36, .lshl, 1, []), (37, .lor, 1, []), (38, .lstore_n 2, 1, []), (39, .iconst 0, 1, []), (40, .istore 6, 2, [])] := rfl
theorem cb_X4_heldBy_5 : (blk md_X4_heldBy 5).2 = [(42, .iload 6, 2, []), (44, .iconst 4, 1, []), (45, .if_icmp .ge 29, 3, [7])] := rfl
theorem cb_X4_heldBy_6 : (blk md_X4_heldBy 6).2 = [(48, .lload_n 2, 1, []), (49, .lconst 1, 1, []), (50, .aload_n 0, 1, []), (51, .getfield 7, 3, [4, 0]), (54, .bipush 64, 2, []), (56, .iconst 4, 1, []), (57, .iload 5, 2, []), (59, .imul, 1, []), (60, .iadd, 1, []), (61, .iload 6, 2, []), (63, .iadd, 1, []), (64, .iaload, 1, []), (65, .lshl, 1, []), (66, .lor, 1, []), (67, .lstore_n 2, 1, []), (68, .iinc 6 1, 3, []), (71, .goto (-29), 3, [5])] := rfl
theorem cb_X4_heldBy_7 : (blk md_X4_heldBy 7).2 = [(74, .iinc 4 1, 3, []), (77, .goto (-72), 3, [1])] := rfl
theorem cb_X4_heldBy_8 : (blk md_X4_heldBy 8).2 = [(80, .lload_n 2, 1, []), (81, .ldc2_w 201, 3, [18446744073709551614]), (84, .land, 1, []), (85, .lreturn, 1, [])] := rfl
def md_X4_holds : List mB := [
  (false, [(0, .aload_n 0, 1, []), (1, .iload_n 1, 1, []), (2, .invokevirtual 203, 3, [0, 162, 2, 1]), (5, .iconst (-1), 1, []), (6, .if_icmp .ne 7, 3, [2])]),
  (false, [(9, .lconst 0, 1, []), (10, .goto 12, 3, [3])]),
  (false, [(13, .aload_n 0, 1, []), (14, .aload_n 0, 1, []), (15, .iload_n 1, 1, []), (16, .invokevirtual 203, 3, [0, 162, 2, 1]), (19, .invokevirtual 206, 3, [0, 163, 2, 2])]),
  (false, [(22, .lreturn, 1, [])])]
theorem cb_X4_holds_0 : (blk md_X4_holds 0).2 = [(0, .aload_n 0, 1, []), (1, .iload_n 1, 1, []), (2, .invokevirtual 203, 3, [0, 162, 2, 1]), (5, .iconst (-1), 1, []), (6, .if_icmp .ne 7, 3, [2])] := rfl
theorem cb_X4_holds_1 : (blk md_X4_holds 1).2 = [(9, .lconst 0, 1, []), (10, .goto 12, 3, [3])] := rfl
theorem cb_X4_holds_2 : (blk md_X4_holds 2).2 = [(13, .aload_n 0, 1, []), (14, .aload_n 0, 1, []), (15, .iload_n 1, 1, []), (16, .invokevirtual 203, 3, [0, 162, 2, 1]), (19, .invokevirtual 206, 3, [0, 163, 2, 2])] := rfl
theorem cb_X4_holds_3 : (blk md_X4_holds 3).2 = [(22, .lreturn, 1, [])] := rfl
def md_X4_alone : List mB := [
  (false, [(0, .aload_n 0, 1, []), (1, .iload_n 1, 1, []), (2, .invokevirtual 203, 3, [0, 162, 2, 1]), (5, .istore_n 2, 1, []), (6, .iload_n 2, 1, []), (7, .iconst (-1), 1, []), (8, .if_icmp .ne 5, 3, [2])]),
  (false, [(11, .lconst 0, 1, []), (12, .lreturn, 1, [])]),
  (false, [(13, .aload_n 0, 1, []), (14, .iload_n 2, 1, []), (15, .invokevirtual 206, 3, [0, 163, 2, 2]), (18, .lstore_n 3, 1, []), (19, .iconst 0, 1, []), (20, .istore 5, 2, [])]),
  (false, [(22, .iload 5, 2, []), (24, .bipush 14, 2, []), (26, .if_icmp .ge 37, 3, [8])]),
  (false, [(29, .iload 5, 2, []), (31, .iload_n 2, 1, []), (32, .if_icmp .eq 25, 3, [7])]),
  (false, [(35, .aload_n 0, 1, []), (36, .iload 5, 2, []), (38, .invokevirtual 69, 3, [0, 118, 2, 1]), (41, .ifCond .eq 16, 3, [7])]),
  (false, [(44, .lload_n 3, 1, []), (45, .aload_n 0, 1, []), (46, .iload 5, 2, []), (48, .invokevirtual 206, 3, [0, 163, 2, 2]), (51, .ldc2_w 210, 3, [18446744073709551615]), (54, .lxor, 1, []), (55, .land, 1, []), (56, .lstore_n 3, 1, [])]),
  (false, [(57, .iinc 5 1, 3, []), (60, .goto (-38), 3, [3])]),
  (false, [(63, .lload_n 3, 1, []), (64, .lreturn, 1, [])])]
theorem cb_X4_alone_0 : (blk md_X4_alone 0).2 = [(0, .aload_n 0, 1, []), (1, .iload_n 1, 1, []), (2, .invokevirtual 203, 3, [0, 162, 2, 1]), (5, .istore_n 2, 1, []), (6, .iload_n 2, 1, []), (7, .iconst (-1), 1, []), (8, .if_icmp .ne 5, 3, [2])] := rfl
theorem cb_X4_alone_1 : (blk md_X4_alone 1).2 = [(11, .lconst 0, 1, []), (12, .lreturn, 1, [])] := rfl
theorem cb_X4_alone_2 : (blk md_X4_alone 2).2 = [(13, .aload_n 0, 1, []), (14, .iload_n 2, 1, []), (15, .invokevirtual 206, 3, [0, 163, 2, 2]), (18, .lstore_n 3, 1, []), (19, .iconst 0, 1, []), (20, .istore 5, 2, [])] := rfl
theorem cb_X4_alone_3 : (blk md_X4_alone 3).2 = [(22, .iload 5, 2, []), (24, .bipush 14, 2, []), (26, .if_icmp .ge 37, 3, [8])] := rfl
theorem cb_X4_alone_4 : (blk md_X4_alone 4).2 = [(29, .iload 5, 2, []), (31, .iload_n 2, 1, []), (32, .if_icmp .eq 25, 3, [7])] := rfl
theorem cb_X4_alone_5 : (blk md_X4_alone 5).2 = [(35, .aload_n 0, 1, []), (36, .iload 5, 2, []), (38, .invokevirtual 69, 3, [0, 118, 2, 1]), (41, .ifCond .eq 16, 3, [7])] := rfl
theorem cb_X4_alone_6 : (blk md_X4_alone 6).2 = [(44, .lload_n 3, 1, []), (45, .aload_n 0, 1, []), (46, .iload 5, 2, []), (48, .invokevirtual 206, 3, [0, 163, 2, 2]), (51, .ldc2_w 210, 3, [18446744073709551615]), (54, .lxor, 1, []), (55, .land, 1, []), (56, .lstore_n 3, 1, [])] := rfl
theorem cb_X4_alone_7 : (blk md_X4_alone 7).2 = [(57, .iinc 5 1, 3, []), (60, .goto (-38), 3, [3])] := rfl
theorem cb_X4_alone_8 : (blk md_X4_alone 8).2 = [(63, .lload_n 3, 1, []), (64, .lreturn, 1, [])] := rfl
def md_X4_holders : List mB := [
  (false, [(0, .iload_n 1, 1, []), (1, .invokestatic 198, 3, [1, 107, 1, 1]), (4, .ifCond .ne 11, 3, [2])]),
  (false, [(7, .aload_n 0, 1, []), (8, .sipush (-1001), 3, []), (11, .invokevirtual 56, 3, [0, 101, 2, 1]), (14, .ireturn, 1, [])]),
  (false, [(15, .iconst 0, 1, []), (16, .istore_n 2, 1, []), (17, .iconst 0, 1, []), (18, .istore_n 3, 1, [])]),
  (false, [(19, .iload_n 3, 1, []), (20, .bipush 14, 2, []), (22, .if_icmp .ge 53, 3, [11])]),
  (false, [(25, .aload_n 0, 1, []), (26, .iload_n 3, 1, []), (27, .invokevirtual 69, 3, [0, 118, 2, 1]), (30, .ifCond .eq 39, 3, [10])]),
  (false, [(33, .aload_n 0, 1, []), (34, .iload_n 3, 1, []), (35, .invokevirtual 206, 3, [0, 163, 2, 2]), (38, .iload_n 1, 1, []), (39, .lushr, 1, []), (40, .lconst 1, 1, []), (41, .land, 1, []), (42, .lconst 1, 1, []), (43, .lcmp, 1, []), (44, .ifCond .ne 25, 3, [10])]),
  (false, [(47, .iload_n 2, 1, []), (48, .iconst 1, 1, []), (49, .iload_n 3, 1, []), (50, .bipush 6, 2, []), (52, .if_icmp .ge 7, 3, [8])]),
  (false, [(55, .iload_n 3, 1, []), (56, .goto 10, 3, [9])]),
  (false, [(59, .iload_n 3, 1, []), (60, .bipush 6, 2, []), (62, .isub, 1, []), (63, .bipush 10, 2, []), (65, .iadd, 1, [])]),
  (false, [(66, .ishl, 1, []), (67, .ior, 1, []), (68, .istore_n 2, 1, [])]),
  (false, [(69, .iinc 3 1, 3, []), (72, .goto (-53), 3, [3])]),
  (false, [(75, .iload_n 2, 1, []), (76, .ireturn, 1, [])])]
theorem cb_X4_holders_0 : (blk md_X4_holders 0).2 = [(0, .iload_n 1, 1, []), (1, .invokestatic 198, 3, [1, 107, 1, 1]), (4, .ifCond .ne 11, 3, [2])] := rfl
theorem cb_X4_holders_1 : (blk md_X4_holders 1).2 = [(7, .aload_n 0, 1, []), (8, .sipush (-1001), 3, []), (11, .invokevirtual 56, 3, [0, 101, 2, 1]), (14, .ireturn, 1, [])] := rfl
theorem cb_X4_holders_2 : (blk md_X4_holders 2).2 = [(15, .iconst 0, 1, []), (16, .istore_n 2, 1, []), (17, .iconst 0, 1, []), (18, .istore_n 3, 1, [])] := rfl
theorem cb_X4_holders_3 : (blk md_X4_holders 3).2 = [(19, .iload_n 3, 1, []), (20, .bipush 14, 2, []), (22, .if_icmp .ge 53, 3, [11])] := rfl
theorem cb_X4_holders_4 : (blk md_X4_holders 4).2 = [(25, .aload_n 0, 1, []), (26, .iload_n 3, 1, []), (27, .invokevirtual 69, 3, [0, 118, 2, 1]), (30, .ifCond .eq 39, 3, [10])] := rfl
theorem cb_X4_holders_5 : (blk md_X4_holders 5).2 = [(33, .aload_n 0, 1, []), (34, .iload_n 3, 1, []), (35, .invokevirtual 206, 3, [0, 163, 2, 2]), (38, .iload_n 1, 1, []), (39, .lushr, 1, []), (40, .lconst 1, 1, []), (41, .land, 1, []), (42, .lconst 1, 1, []), (43, .lcmp, 1, []), (44, .ifCond .ne 25, 3, [10])] := rfl
theorem cb_X4_holders_6 : (blk md_X4_holders 6).2 = [(47, .iload_n 2, 1, []), (48, .iconst 1, 1, []), (49, .iload_n 3, 1, []), (50, .bipush 6, 2, []), (52, .if_icmp .ge 7, 3, [8])] := rfl
theorem cb_X4_holders_7 : (blk md_X4_holders 7).2 = [(55, .iload_n 3, 1, []), (56, .goto 10, 3, [9])] := rfl
theorem cb_X4_holders_8 : (blk md_X4_holders 8).2 = [(59, .iload_n 3, 1, []), (60, .bipush 6, 2, []), (62, .isub, 1, []), (63, .bipush 10, 2, []), (65, .iadd, 1, [])] := rfl
theorem cb_X4_holders_9 : (blk md_X4_holders 9).2 = [(66, .ishl, 1, []), (67, .ior, 1, []), (68, .istore_n 2, 1, [])] := rfl
theorem cb_X4_holders_10 : (blk md_X4_holders 10).2 = [(69, .iinc 3 1, 3, []), (72, .goto (-53), 3, [3])] := rfl
theorem cb_X4_holders_11 : (blk md_X4_holders 11).2 = [(75, .iload_n 2, 1, []), (76, .ireturn, 1, [])] := rfl
def md_X4_free : List mB := [
  (false, [(0, .iconst 0, 1, []), (1, .istore_n 1, 1, []), (2, .iconst 1, 1, []), (3, .istore_n 2, 1, [])]),
  (false, [(4, .iload_n 2, 1, []), (5, .bipush 64, 2, []), (7, .if_icmp .ge 28, 3, [6])]),
  (false, [(10, .iload_n 1, 1, []), (11, .aload_n 0, 1, []), (12, .getfield 7, 3, [4, 0]), (15, .iconst 0, 1, []), (16, .iload_n 2, 1, []), (17, .iadd, 1, []), (18, .iaload, 1, []), (19, .ifCond .ne 7, 3, [4])]),
  (false, [(22, .iconst 1, 1, []), (23, .goto 4, 3, [5])]),
  (false, [(26, .iconst 0, 1, [])]),
  (false, [(27, .iadd, 1, []), (28, .istore_n 1, 1, []), (29, .iinc 2 1, 3, []), (32, .goto (-28), 3, [1])]),
  (false, [(35, .iload_n 1, 1, []), (36, .ireturn, 1, [])])]
theorem cb_X4_free_0 : (blk md_X4_free 0).2 = [(0, .iconst 0, 1, []), (1, .istore_n 1, 1, []), (2, .iconst 1, 1, []), (3, .istore_n 2, 1, [])] := rfl
theorem cb_X4_free_1 : (blk md_X4_free 1).2 = [(4, .iload_n 2, 1, []), (5, .bipush 64, 2, []), (7, .if_icmp .ge 28, 3, [6])] := rfl
theorem cb_X4_free_2 : (blk md_X4_free 2).2 = [(10, .iload_n 1, 1, []), (11, .aload_n 0, 1, []), (12, .getfield 7, 3, [4, 0]), (15, .iconst 0, 1, []), (16, .iload_n 2, 1, []), (17, .iadd, 1, []), (18, .iaload, 1, []), (19, .ifCond .ne 7, 3, [4])] := rfl
theorem cb_X4_free_3 : (blk md_X4_free 3).2 = [(22, .iconst 1, 1, []), (23, .goto 4, 3, [5])] := rfl
theorem cb_X4_free_4 : (blk md_X4_free 4).2 = [(26, .iconst 0, 1, [])] := rfl
theorem cb_X4_free_5 : (blk md_X4_free 5).2 = [(27, .iadd, 1, []), (28, .istore_n 1, 1, []), (29, .iinc 2 1, 3, []), (32, .goto (-28), 3, [1])] := rfl
theorem cb_X4_free_6 : (blk md_X4_free 6).2 = [(35, .iload_n 1, 1, []), (36, .ireturn, 1, [])] := rfl
def md_X4_best : List mB := [
  (false, [(0, .iload_n 1, 1, []), (1, .iconst 0, 1, []), (2, .iconst 1, 1, []), (3, .invokestatic 37, 3, [1, 100, 3, 1]), (6, .ifCond .ne 11, 3, [2])]),
  (false, [(9, .aload_n 0, 1, []), (10, .sipush (-1001), 3, []), (13, .invokevirtual 56, 3, [0, 101, 2, 1]), (16, .ireturn, 1, [])]),
  (false, [(17, .aload_n 0, 1, []), (18, .invokevirtual 185, 3, [0, 121, 1, 1]), (21, .ifCond .eq 5, 3, [4])]),
  (false, [(24, .iconst (-1), 1, []), (25, .ireturn, 1, [])]),
  (false, [(26, .iconst (-1), 1, []), (27, .istore_n 2, 1, []), (28, .iconst (-1), 1, []), (29, .istore_n 3, 1, []), (30, .iconst 0, 1, []), (31, .istore 4, 2, [])]),
  (false, [(33, .iload 4, 2, []), (35, .bipush 8, 2, []), (37, .if_icmp .ge 94, 3, [16])]),
  (false, [(40, .aload_n 0, 1, []), (41, .iload 4, 2, []), (43, .invokevirtual 66, 3, [0, 104, 2, 1]), (46, .ifCond .ne 6, 3, [8])]),
  (false, [(49, .goto 76, 3, [15])]),
  (false, [(52, .aload_n 0, 1, []), (53, .invokevirtual 212, 3, [0, 167, 1, 1]), (56, .istore 5, 2, []), (58, .aload_n 0, 1, []), (59, .getfield 7, 3, [4, 0]), (62, .aload_n 0, 1, []), (63, .getfield 13, 3, [4, 1]), (66, .invokestatic 168, 3, [1, 102, 2, 0]), (69, .aload_n 0, 1, []), (70, .iconst 2, 1, []), (71, .iload 4, 2, []), (73, .iconst 0, 1, []), (74, .iconst 0, 1, []), (75, .iconst (-1), 1, []), (76, .invokevirtual 172, 3, [0, 145, 6, 0]), (79, .aload_n 0, 1, []), (80, .invokevirtual 212, 3, [0, 167, 1, 1]), (83, .iload 5, 2, []), (85, .isub, 1, []), (86, .istore 6, 2, []), (88, .aload_n 0, 1, []), (89, .getfield 13, 3, [4, 1]), (92, .aload_n 0, 1, []), (93, .getfield 7, 3, [4, 0]), (96, .invokestatic 168, 3, [1, 102, 2, 0]), (99, .iload 6, 2, []), (101, .iload_n 3, 1, []), (102, .if_icmp .le 8, 3, [10])]),
  (false, [(105, .iload 4, 2, []), (107, .goto 4, 3, [11])]),
  (false, [(110, .iload_n 2, 1, [])]),
  (false, [(111, .istore_n 2, 1, []), (112, .iload 6, 2, []), (114, .iload_n 3, 1, []), (115, .if_icmp .le 8, 3, [13])]),
  (false, [(118, .iload 6, 2, []), (120, .goto 4, 3, [14])]),
  (false, [(123, .iload_n 3, 1, [])]),
  (false, [(124, .istore_n 3, 1, [])]),
  (false, [(125, .iinc 4 1, 3, []), (128, .goto (-95), 3, [5])]),
  (false, [(131, .iload_n 1, 1, []), (132, .ifCond .ne 7, 3, [18])]),
  (false, [(135, .iload_n 2, 1, []), (136, .goto 4, 3, [19])]),
  (false, [(139, .iload_n 3, 1, [])]),
  (false, [(140, .ireturn, 1, [])])]
theorem cb_X4_best_0 : (blk md_X4_best 0).2 = [(0, .iload_n 1, 1, []), (1, .iconst 0, 1, []), (2, .iconst 1, 1, []), (3, .invokestatic 37, 3, [1, 100, 3, 1]), (6, .ifCond .ne 11, 3, [2])] := rfl
theorem cb_X4_best_1 : (blk md_X4_best 1).2 = [(9, .aload_n 0, 1, []), (10, .sipush (-1001), 3, []), (13, .invokevirtual 56, 3, [0, 101, 2, 1]), (16, .ireturn, 1, [])] := rfl
theorem cb_X4_best_2 : (blk md_X4_best 2).2 = [(17, .aload_n 0, 1, []), (18, .invokevirtual 185, 3, [0, 121, 1, 1]), (21, .ifCond .eq 5, 3, [4])] := rfl
theorem cb_X4_best_3 : (blk md_X4_best 3).2 = [(24, .iconst (-1), 1, []), (25, .ireturn, 1, [])] := rfl
theorem cb_X4_best_4 : (blk md_X4_best 4).2 = [(26, .iconst (-1), 1, []), (27, .istore_n 2, 1, []), (28, .iconst (-1), 1, []), (29, .istore_n 3, 1, []), (30, .iconst 0, 1, []), (31, .istore 4, 2, [])] := rfl
theorem cb_X4_best_5 : (blk md_X4_best 5).2 = [(33, .iload 4, 2, []), (35, .bipush 8, 2, []), (37, .if_icmp .ge 94, 3, [16])] := rfl
theorem cb_X4_best_6 : (blk md_X4_best 6).2 = [(40, .aload_n 0, 1, []), (41, .iload 4, 2, []), (43, .invokevirtual 66, 3, [0, 104, 2, 1]), (46, .ifCond .ne 6, 3, [8])] := rfl
theorem cb_X4_best_7 : (blk md_X4_best 7).2 = [(49, .goto 76, 3, [15])] := rfl
theorem cb_X4_best_8 : (blk md_X4_best 8).2 = [(52, .aload_n 0, 1, []), (53, .invokevirtual 212, 3, [0, 167, 1, 1]), (56, .istore 5, 2, []), (58, .aload_n 0, 1, []), (59, .getfield 7, 3, [4, 0]), (62, .aload_n 0, 1, []), (63, .getfield 13, 3, [4, 1]), (66, .invokestatic 168, 3, [1, 102, 2, 0]), (69, .aload_n 0, 1, []), (70, .iconst 2, 1, []), (71, .iload 4, 2, []), (73, .iconst 0, 1, []), (74, .iconst 0, 1, []), (75, .iconst (-1), 1, []), (76, .invokevirtual 172, 3, [0, 145, 6, 0]), (79, .aload_n 0, 1, []), (80, .invokevirtual 212, 3, [0, 167, 1, 1]), (83, .iload 5, 2, []), (85, .isub, 1, []), (86, .istore 6, 2, []), (88, .aload_n 0, 1, []), (89, .getfield 13, 3, [4, 1]), (92, .aload_n 0, 1, []), (93, .getfield 7, 3, [4, 0]), (96, .invokestatic 168, 3, [1, 102, 2, 0]), (99, .iload 6, 2, []), (101, .iload_n 3, 1, []), (102, .if_icmp .le 8, 3, [10])] := rfl
theorem cb_X4_best_9 : (blk md_X4_best 9).2 = [(105, .iload 4, 2, []), (107, .goto 4, 3, [11])] := rfl
theorem cb_X4_best_10 : (blk md_X4_best 10).2 = [(110, .iload_n 2, 1, [])] := rfl
theorem cb_X4_best_11 : (blk md_X4_best 11).2 = [(111, .istore_n 2, 1, []), (112, .iload 6, 2, []), (114, .iload_n 3, 1, []), (115, .if_icmp .le 8, 3, [13])] := rfl
theorem cb_X4_best_12 : (blk md_X4_best 12).2 = [(118, .iload 6, 2, []), (120, .goto 4, 3, [14])] := rfl
theorem cb_X4_best_13 : (blk md_X4_best 13).2 = [(123, .iload_n 3, 1, [])] := rfl
theorem cb_X4_best_14 : (blk md_X4_best 14).2 = [(124, .istore_n 3, 1, [])] := rfl
theorem cb_X4_best_15 : (blk md_X4_best 15).2 = [(125, .iinc 4 1, 3, []), (128, .goto (-95), 3, [5])] := rfl
theorem cb_X4_best_16 : (blk md_X4_best 16).2 = [(131, .iload_n 1, 1, []), (132, .ifCond .ne 7, 3, [18])] := rfl
theorem cb_X4_best_17 : (blk md_X4_best 17).2 = [(135, .iload_n 2, 1, []), (136, .goto 4, 3, [19])] := rfl
theorem cb_X4_best_18 : (blk md_X4_best 18).2 = [(139, .iload_n 3, 1, [])] := rfl
theorem cb_X4_best_19 : (blk md_X4_best 19).2 = [(140, .ireturn, 1, [])] := rfl
def md_X4_twins : List mB := [
  (false, [(0, .aload_n 0, 1, []), (1, .invokevirtual 75, 3, [0, 119, 1, 0]), (4, .iconst 0, 1, []), (5, .istore_n 1, 1, []), (6, .iconst 1, 1, []), (7, .istore_n 2, 1, [])]),
  (false, [(8, .iload_n 2, 1, []), (9, .bipush 64, 2, []), (11, .if_icmp .ge 60, 3, [11])]),
  (false, [(14, .iload_n 2, 1, []), (15, .iconst 1, 1, []), (16, .iadd, 1, []), (17, .istore_n 3, 1, [])]),
  (false, [(18, .iload_n 3, 1, []), (19, .bipush 64, 2, []), (21, .if_icmp .ge 44, 3, [10])]),
  (false, [(24, .iload_n 1, 1, []), (25, .aload_n 0, 1, []), (26, .getfield 25, 3, [4, 6]), (29, .iload_n 2, 1, []), (30, .iaload, 1, []), (31, .ifCond .le 25, 3, [8])]),
  (false, [(34, .aload_n 0, 1, []), (35, .getfield 25, 3, [4, 6]), (38, .iload_n 3, 1, []), (39, .iaload, 1, []), (40, .ifCond .le 16, 3, [8])]),
  (false, [(43, .aload_n 0, 1, []), (44, .iload_n 2, 1, []), (45, .iload_n 3, 1, []), (46, .invokevirtual 140, 3, [0, 142, 3, 1]), (49, .ifCond .eq 7, 3, [8])]),
  (false, [(52, .iconst 1, 1, []), (53, .goto 4, 3, [9])]),
  (false, [(56, .iconst 0, 1, [])]),
  (false, [(57, .iadd, 1, []), (58, .istore_n 1, 1, []), (59, .iinc 3 1, 3, []), (62, .goto (-44), 3, [3])]),
  (false, [(65, .iinc 2 1, 3, []), (68, .goto (-60), 3, [1])]),
  (false, [(71, .iload_n 1, 1, []), (72, .ireturn, 1, [])])]
theorem cb_X4_twins_0 : (blk md_X4_twins 0).2 = [(0, .aload_n 0, 1, []), (1, .invokevirtual 75, 3, [0, 119, 1, 0]), (4, .iconst 0, 1, []), (5, .istore_n 1, 1, []), (6, .iconst 1, 1, []), (7, .istore_n 2, 1, [])] := rfl
theorem cb_X4_twins_1 : (blk md_X4_twins 1).2 = [(8, .iload_n 2, 1, []), (9, .bipush 64, 2, []), (11, .if_icmp .ge 60, 3, [11])] := rfl
theorem cb_X4_twins_2 : (blk md_X4_twins 2).2 = [(14, .iload_n 2, 1, []), (15, .iconst 1, 1, []), (16, .iadd, 1, []), (17, .istore_n 3, 1, [])] := rfl
theorem cb_X4_twins_3 : (blk md_X4_twins 3).2 = [(18, .iload_n 3, 1, []), (19, .bipush 64, 2, []), (21, .if_icmp .ge 44, 3, [10])] := rfl
theorem cb_X4_twins_4 : (blk md_X4_twins 4).2 = [(24, .iload_n 1, 1, []), (25, .aload_n 0, 1, []), (26, .getfield 25, 3, [4, 6]), (29, .iload_n 2, 1, []), (30, .iaload, 1, []), (31, .ifCond .le 25, 3, [8])] := rfl
theorem cb_X4_twins_5 : (blk md_X4_twins 5).2 = [(34, .aload_n 0, 1, []), (35, .getfield 25, 3, [4, 6]), (38, .iload_n 3, 1, []), (39, .iaload, 1, []), (40, .ifCond .le 16, 3, [8])] := rfl
theorem cb_X4_twins_6 : (blk md_X4_twins 6).2 = [(43, .aload_n 0, 1, []), (44, .iload_n 2, 1, []), (45, .iload_n 3, 1, []), (46, .invokevirtual 140, 3, [0, 142, 3, 1]), (49, .ifCond .eq 7, 3, [8])] := rfl
theorem cb_X4_twins_7 : (blk md_X4_twins 7).2 = [(52, .iconst 1, 1, []), (53, .goto 4, 3, [9])] := rfl
theorem cb_X4_twins_8 : (blk md_X4_twins 8).2 = [(56, .iconst 0, 1, [])] := rfl
theorem cb_X4_twins_9 : (blk md_X4_twins 9).2 = [(57, .iadd, 1, []), (58, .istore_n 1, 1, []), (59, .iinc 3 1, 3, []), (62, .goto (-44), 3, [3])] := rfl
theorem cb_X4_twins_10 : (blk md_X4_twins 10).2 = [(65, .iinc 2 1, 3, []), (68, .goto (-60), 3, [1])] := rfl
theorem cb_X4_twins_11 : (blk md_X4_twins 11).2 = [(71, .iload_n 1, 1, []), (72, .ireturn, 1, [])] := rfl
def md_X4_wrong : List mB := [
  (false, [(0, .aload_n 0, 1, []), (1, .iload_n 1, 1, []), (2, .invokevirtual 52, 3, [0, 103, 2, 1]), (5, .ifCond .eq 14, 3, [3])]),
  (false, [(8, .iload_n 2, 1, []), (9, .invokestatic 60, 3, [1, 105, 1, 1]), (12, .ifCond .eq 7, 3, [3])]),
  (false, [(15, .iload_n 3, 1, []), (16, .ifCond .ne 7, 3, [4])]),
  (false, [(19, .sipush (-1001), 3, []), (22, .ireturn, 1, [])]),
  (false, [(23, .aload_n 0, 1, []), (24, .invokevirtual 185, 3, [0, 121, 1, 1]), (27, .ifCond .eq 9, 3, [6])]),
  (false, [(30, .sipush (-1003), 3, []), (33, .goto 21, 3, [9])]),
  (false, [(36, .aload_n 0, 1, []), (37, .iconst 0, 1, []), (38, .iload_n 1, 1, []), (39, .iload_n 2, 1, []), (40, .iconst 0, 1, []), (41, .invokevirtual 175, 3, [0, 146, 5, 1]), (44, .ifCond .eq 9, 3, [8])]),
  (false, [(47, .sipush (-1002), 3, []), (50, .goto 4, 3, [9])]),
  (false, [(53, .iconst 0, 1, [])]),
  (false, [(54, .ireturn, 1, [])])]
theorem cb_X4_wrong_0 : (blk md_X4_wrong 0).2 = [(0, .aload_n 0, 1, []), (1, .iload_n 1, 1, []), (2, .invokevirtual 52, 3, [0, 103, 2, 1]), (5, .ifCond .eq 14, 3, [3])] := rfl
theorem cb_X4_wrong_1 : (blk md_X4_wrong 1).2 = [(8, .iload_n 2, 1, []), (9, .invokestatic 60, 3, [1, 105, 1, 1]), (12, .ifCond .eq 7, 3, [3])] := rfl
theorem cb_X4_wrong_2 : (blk md_X4_wrong 2).2 = [(15, .iload_n 3, 1, []), (16, .ifCond .ne 7, 3, [4])] := rfl
theorem cb_X4_wrong_3 : (blk md_X4_wrong 3).2 = [(19, .sipush (-1001), 3, []), (22, .ireturn, 1, [])] := rfl
theorem cb_X4_wrong_4 : (blk md_X4_wrong 4).2 = [(23, .aload_n 0, 1, []), (24, .invokevirtual 185, 3, [0, 121, 1, 1]), (27, .ifCond .eq 9, 3, [6])] := rfl
theorem cb_X4_wrong_5 : (blk md_X4_wrong 5).2 = [(30, .sipush (-1003), 3, []), (33, .goto 21, 3, [9])] := rfl
theorem cb_X4_wrong_6 : (blk md_X4_wrong 6).2 = [(36, .aload_n 0, 1, []), (37, .iconst 0, 1, []), (38, .iload_n 1, 1, []), (39, .iload_n 2, 1, []), (40, .iconst 0, 1, []), (41, .invokevirtual 175, 3, [0, 146, 5, 1]), (44, .ifCond .eq 9, 3, [8])] := rfl
theorem cb_X4_wrong_7 : (blk md_X4_wrong 7).2 = [(47, .sipush (-1002), 3, []), (50, .goto 4, 3, [9])] := rfl
theorem cb_X4_wrong_8 : (blk md_X4_wrong 8).2 = [(53, .iconst 0, 1, [])] := rfl
theorem cb_X4_wrong_9 : (blk md_X4_wrong 9).2 = [(54, .ireturn, 1, [])] := rfl
def md_X4_cost : List mB := [
  (false, [(0, .aload_n 0, 1, []), (1, .iload_n 1, 1, []), (2, .iload_n 2, 1, []), (3, .iconst 1, 1, []), (4, .invokevirtual 215, 3, [0, 170, 4, 1]), (7, .istore_n 3, 1, []), (8, .iload_n 3, 1, []), (9, .ifCond .eq 11, 3, [2])]),
  (false, [(12, .aload_n 0, 1, []), (13, .iload_n 3, 1, []), (14, .invokevirtual 56, 3, [0, 101, 2, 1]), (17, .goto 7, 3, [3])]),
  (false, [(20, .aload_n 0, 1, []), (21, .getfield 85, 3, [4, 7])]),
  (false, [(24, .ireturn, 1, [])])]
theorem cb_X4_cost_0 : (blk md_X4_cost 0).2 = [(0, .aload_n 0, 1, []), (1, .iload_n 1, 1, []), (2, .iload_n 2, 1, []), (3, .iconst 1, 1, []), (4, .invokevirtual 215, 3, [0, 170, 4, 1]), (7, .istore_n 3, 1, []), (8, .iload_n 3, 1, []), (9, .ifCond .eq 11, 3, [2])] := rfl
theorem cb_X4_cost_1 : (blk md_X4_cost 1).2 = [(12, .aload_n 0, 1, []), (13, .iload_n 3, 1, []), (14, .invokevirtual 56, 3, [0, 101, 2, 1]), (17, .goto 7, 3, [3])] := rfl
theorem cb_X4_cost_2 : (blk md_X4_cost 2).2 = [(20, .aload_n 0, 1, []), (21, .getfield 85, 3, [4, 7])] := rfl
theorem cb_X4_cost_3 : (blk md_X4_cost 3).2 = [(24, .ireturn, 1, [])] := rfl
def md_X4_thought : List mB := [
  (false, [(0, .aload_n 0, 1, []), (1, .getfield 7, 3, [4, 0]), (4, .aload_n 0, 1, []), (5, .getfield 13, 3, [4, 1]), (8, .invokestatic 168, 3, [1, 102, 2, 0]), (11, .aload_n 0, 1, []), (12, .iconst 0, 1, []), (13, .iload_n 1, 1, []), (14, .iload_n 2, 1, []), (15, .iload_n 3, 1, []), (16, .iload 4, 2, []), (18, .invokevirtual 172, 3, [0, 145, 6, 0]), (21, .aload_n 0, 1, []), (22, .iload_n 1, 1, []), (23, .iload_n 2, 1, []), (24, .invokevirtual 63, 3, [0, 111, 3, 1]), (27, .istore 6, 2, []), (29, .aload_n 0, 1, []), (30, .invokevirtual 75, 3, [0, 119, 1, 0]), (33, .iconst 0, 1, []), (34, .istore 7, 2, []), (36, .iconst 1, 1, []), (37, .istore 8, 2, [])]),
  (false, [(39, .iload 8, 2, []), (41, .bipush 64, 2, []), (43, .if_icmp .ge 38, 3, [6])]),
  (false, [(46, .iload 7, 2, []), (48, .aload_n 0, 1, []), (49, .getfield 7, 3, [4, 0]), (52, .iconst 0, 1, []), (53, .iload 8, 2, []), (55, .iadd, 1, []), (56, .iaload, 1, []), (57, .aload_n 0, 1, []), (58, .getfield 22, 3, [4, 5]), (61, .iload 8, 2, []), (63, .iaload, 1, []), (64, .if_icmp .le 7, 3, [4])]),
  (false, [(67, .iconst 1, 1, []), (68, .goto 4, 3, [5])]),
  (false, [(71, .iconst 0, 1, [])]),
  (false, [(72, .iadd, 1, []), (73, .istore 7, 2, []), (75, .iinc 8 1, 3, []), (78, .goto (-39), 3, [1])]),
  (false, [(81, .aload_n 0, 1, []), (82, .getfield 13, 3, [4, 1]), (85, .aload_n 0, 1, []), (86, .getfield 7, 3, [4, 0]), (89, .invokestatic 168, 3, [1, 102, 2, 0]), (92, .iload 5, 2, []), (94, .ifCond .ne 8, 3, [8])]),
  (false, [(97, .iload 6, 2, []), (99, .goto 5, 3, [9])]),
  (false, [(102, .iload 7, 2, [])]),
  (false, [(104, .ireturn, 1, [])])]
theorem cb_X4_thought_0 : (blk md_X4_thought 0).2 = [(0, .aload_n 0, 1, []), (1, .getfield 7, 3, [4, 0]), (4, .aload_n 0, 1, []), (5, .getfield 13, 3, [4, 1]), (8, .invokestatic 168, 3, [1, 102, 2, 0]), (11, .aload_n 0, 1, []), (12, .iconst 0, 1, []), (13, .iload_n 1, 1, []), (14, .iload_n 2, 1, []), (15, .iload_n 3, 1, []), (16, .iload 4, 2, []), (18, .invokevirtual 172, 3, [0, 145, 6, 0]), (21, .aload_n 0, 1, []), (22, .iload_n 1, 1, []), (23, .iload_n 2, 1, []), (24, .invokevirtual 63, 3, [0, 111, 3, 1]), (27, .istore 6, 2, []), (29, .aload_n 0, 1, []), (30, .invokevirtual 75, 3, [0, 119, 1, 0]), (33, .iconst 0, 1, []), (34, .istore 7, 2, []), (36, .iconst 1, 1, []), (37, .istore 8, 2, [])] := rfl
theorem cb_X4_thought_1 : (blk md_X4_thought 1).2 = [(39, .iload 8, 2, []), (41, .bipush 64, 2, []), (43, .if_icmp .ge 38, 3, [6])] := rfl
theorem cb_X4_thought_2 : (blk md_X4_thought 2).2 = [(46, .iload 7, 2, []), (48, .aload_n 0, 1, []), (49, .getfield 7, 3, [4, 0]), (52, .iconst 0, 1, []), (53, .iload 8, 2, []), (55, .iadd, 1, []), (56, .iaload, 1, []), (57, .aload_n 0, 1, []), (58, .getfield 22, 3, [4, 5]), (61, .iload 8, 2, []), (63, .iaload, 1, []), (64, .if_icmp .le 7, 3, [4])] := rfl
theorem cb_X4_thought_3 : (blk md_X4_thought 3).2 = [(67, .iconst 1, 1, []), (68, .goto 4, 3, [5])] := rfl
theorem cb_X4_thought_4 : (blk md_X4_thought 4).2 = [(71, .iconst 0, 1, [])] := rfl
theorem cb_X4_thought_5 : (blk md_X4_thought 5).2 = [(72, .iadd, 1, []), (73, .istore 7, 2, []), (75, .iinc 8 1, 3, []), (78, .goto (-39), 3, [1])] := rfl
theorem cb_X4_thought_6 : (blk md_X4_thought 6).2 = [(81, .aload_n 0, 1, []), (82, .getfield 13, 3, [4, 1]), (85, .aload_n 0, 1, []), (86, .getfield 7, 3, [4, 0]), (89, .invokestatic 168, 3, [1, 102, 2, 0]), (92, .iload 5, 2, []), (94, .ifCond .ne 8, 3, [8])] := rfl
theorem cb_X4_thought_7 : (blk md_X4_thought 7).2 = [(97, .iload 6, 2, []), (99, .goto 5, 3, [9])] := rfl
theorem cb_X4_thought_8 : (blk md_X4_thought 8).2 = [(102, .iload 7, 2, [])] := rfl
theorem cb_X4_thought_9 : (blk md_X4_thought 9).2 = [(104, .ireturn, 1, [])] := rfl
def md_X4_torn : List mB := [
  (false, [(0, .aload_n 0, 1, []), (1, .iload_n 1, 1, []), (2, .iload_n 2, 1, []), (3, .iload_n 3, 1, []), (4, .invokestatic 182, 3, [1, 148, 1, 1]), (7, .ifCond .eq 18, 3, [3])]),
  (false, [(10, .iload 4, 2, []), (12, .iconst 0, 1, []), (13, .bipush 99, 2, []), (15, .invokestatic 37, 3, [1, 100, 3, 1]), (18, .ifCond .eq 7, 3, [3])]),
  (false, [(21, .iconst 1, 1, []), (22, .goto 4, 3, [4])]),
  (false, [(25, .iconst 0, 1, [])]),
  (false, [(26, .invokevirtual 215, 3, [0, 170, 4, 1]), (29, .istore 5, 2, []), (31, .iload 5, 2, []), (33, .ifCond .eq 12, 3, [6])]),
  (false, [(36, .aload_n 0, 1, []), (37, .iload 5, 2, []), (39, .invokevirtual 56, 3, [0, 101, 2, 1]), (42, .goto 13, 3, [7])]),
  (false, [(45, .aload_n 0, 1, []), (46, .iload_n 1, 1, []), (47, .iload_n 2, 1, []), (48, .iload_n 3, 1, []), (49, .iload 4, 2, []), (51, .iconst 0, 1, []), (52, .invokevirtual 219, 3, [0, 172, 6, 1])]),
  (false, [(55, .ireturn, 1, [])])]
theorem cb_X4_torn_0 : (blk md_X4_torn 0).2 = [(0, .aload_n 0, 1, []), (1, .iload_n 1, 1, []), (2, .iload_n 2, 1, []), (3, .iload_n 3, 1, []), (4, .invokestatic 182, 3, [1, 148, 1, 1]), (7, .ifCond .eq 18, 3, [3])] := rfl
theorem cb_X4_torn_1 : (blk md_X4_torn 1).2 = [(10, .iload 4, 2, []), (12, .iconst 0, 1, []), (13, .bipush 99, 2, []), (15, .invokestatic 37, 3, [1, 100, 3, 1]), (18, .ifCond .eq 7, 3, [3])] := rfl
theorem cb_X4_torn_2 : (blk md_X4_torn 2).2 = [(21, .iconst 1, 1, []), (22, .goto 4, 3, [4])] := rfl
theorem cb_X4_torn_3 : (blk md_X4_torn 3).2 = [(25, .iconst 0, 1, [])] := rfl
theorem cb_X4_torn_4 : (blk md_X4_torn 4).2 = [(26, .invokevirtual 215, 3, [0, 170, 4, 1]), (29, .istore 5, 2, []), (31, .iload 5, 2, []), (33, .ifCond .eq 12, 3, [6])] := rfl
theorem cb_X4_torn_5 : (blk md_X4_torn 5).2 = [(36, .aload_n 0, 1, []), (37, .iload 5, 2, []), (39, .invokevirtual 56, 3, [0, 101, 2, 1]), (42, .goto 13, 3, [7])] := rfl
theorem cb_X4_torn_6 : (blk md_X4_torn 6).2 = [(45, .aload_n 0, 1, []), (46, .iload_n 1, 1, []), (47, .iload_n 2, 1, []), (48, .iload_n 3, 1, []), (49, .iload 4, 2, []), (51, .iconst 0, 1, []), (52, .invokevirtual 219, 3, [0, 172, 6, 1])] := rfl
theorem cb_X4_torn_7 : (blk md_X4_torn 7).2 = [(55, .ireturn, 1, [])] := rfl
def md_X4_leaks : List mB := [
  (false, [(0, .aload_n 0, 1, []), (1, .iload_n 1, 1, []), (2, .iload_n 2, 1, []), (3, .iload_n 3, 1, []), (4, .iconst 0, 1, []), (5, .bipush 99, 2, []), (7, .invokestatic 37, 3, [1, 100, 3, 1]), (10, .invokevirtual 215, 3, [0, 170, 4, 1]), (13, .istore 4, 2, []), (15, .iload 4, 2, []), (17, .ifCond .eq 12, 3, [2])]),
  (false, [(20, .aload_n 0, 1, []), (21, .iload 4, 2, []), (23, .invokevirtual 56, 3, [0, 101, 2, 1]), (26, .goto 12, 3, [3])]),
  (false, [(29, .aload_n 0, 1, []), (30, .iload_n 1, 1, []), (31, .iload_n 2, 1, []), (32, .iconst 0, 1, []), (33, .iload_n 3, 1, []), (34, .iconst 1, 1, []), (35, .invokevirtual 219, 3, [0, 172, 6, 1])]),
  (false, [(38, .ireturn, 1, [])])]
theorem cb_X4_leaks_0 : (blk md_X4_leaks 0).2 = [(0, .aload_n 0, 1, []), (1, .iload_n 1, 1, []), (2, .iload_n 2, 1, []), (3, .iload_n 3, 1, []), (4, .iconst 0, 1, []), (5, .bipush 99, 2, []), (7, .invokestatic 37, 3, [1, 100, 3, 1]), (10, .invokevirtual 215, 3, [0, 170, 4, 1]), (13, .istore 4, 2, []), (15, .iload 4, 2, []), (17, .ifCond .eq 12, 3, [2])] := rfl
theorem cb_X4_leaks_1 : (blk md_X4_leaks 1).2 = [(20, .aload_n 0, 1, []), (21, .iload 4, 2, []), (23, .invokevirtual 56, 3, [0, 101, 2, 1]), (26, .goto 12, 3, [3])] := rfl
theorem cb_X4_leaks_2 : (blk md_X4_leaks 2).2 = [(29, .aload_n 0, 1, []), (30, .iload_n 1, 1, []), (31, .iload_n 2, 1, []), (32, .iconst 0, 1, []), (33, .iload_n 3, 1, []), (34, .iconst 1, 1, []), (35, .invokevirtual 219, 3, [0, 172, 6, 1])] := rfl
theorem cb_X4_leaks_3 : (blk md_X4_leaks 3).2 = [(38, .ireturn, 1, [])] := rfl
def md_X4_behind : List mB := [
  (false, [(0, .aload_n 0, 1, []), (1, .iload_n 1, 1, []), (2, .iload_n 2, 1, []), (3, .iload_n 3, 1, []), (4, .invokestatic 182, 3, [1, 148, 1, 1]), (7, .invokevirtual 215, 3, [0, 170, 4, 1]), (10, .istore 4, 2, []), (12, .iload 4, 2, []), (14, .ifCond .eq 10, 3, [2])]),
  (false, [(17, .aload_n 0, 1, []), (18, .iload 4, 2, []), (20, .invokevirtual 56, 3, [0, 101, 2, 1]), (23, .ireturn, 1, [])]),
  (false, [(24, .aload_n 0, 1, []), (25, .iload_n 1, 1, []), (26, .iload_n 2, 1, []), (27, .invokevirtual 63, 3, [0, 111, 3, 1]), (30, .iload_n 3, 1, []), (31, .if_icmp .ne 5, 3, [4])]),
  (false, [(34, .iconst (-1), 1, []), (35, .ireturn, 1, [])]),
  (false, [(36, .iconst 0, 1, []), (37, .istore 5, 2, [])]),
  (false, [(39, .aload_n 0, 1, []), (40, .iload_n 1, 1, []), (41, .iload_n 2, 1, []), (42, .iload_n 3, 1, []), (43, .iload 5, 2, []), (45, .iconst 0, 1, []), (46, .invokevirtual 219, 3, [0, 172, 6, 1]), (49, .iload_n 3, 1, []), (50, .if_icmp .eq 9, 3, [7])]),
  (false, [(53, .iinc 5 1, 3, []), (56, .goto (-17), 3, [5])]),
  (false, [(59, .iload 5, 2, []), (61, .ireturn, 1, [])])]
theorem cb_X4_behind_0 : (blk md_X4_behind 0).2 = [(0, .aload_n 0, 1, []), (1, .iload_n 1, 1, []), (2, .iload_n 2, 1, []), (3, .iload_n 3, 1, []), (4, .invokestatic 182, 3, [1, 148, 1, 1]), (7, .invokevirtual 215, 3, [0, 170, 4, 1]), (10, .istore 4, 2, []), (12, .iload 4, 2, []), (14, .ifCond .eq 10, 3, [2])] := rfl
theorem cb_X4_behind_1 : (blk md_X4_behind 1).2 = [(17, .aload_n 0, 1, []), (18, .iload 4, 2, []), (20, .invokevirtual 56, 3, [0, 101, 2, 1]), (23, .ireturn, 1, [])] := rfl
theorem cb_X4_behind_2 : (blk md_X4_behind 2).2 = [(24, .aload_n 0, 1, []), (25, .iload_n 1, 1, []), (26, .iload_n 2, 1, []), (27, .invokevirtual 63, 3, [0, 111, 3, 1]), (30, .iload_n 3, 1, []), (31, .if_icmp .ne 5, 3, [4])] := rfl
theorem cb_X4_behind_3 : (blk md_X4_behind 3).2 = [(34, .iconst (-1), 1, []), (35, .ireturn, 1, [])] := rfl
theorem cb_X4_behind_4 : (blk md_X4_behind 4).2 = [(36, .iconst 0, 1, []), (37, .istore 5, 2, [])] := rfl
theorem cb_X4_behind_5 : (blk md_X4_behind 5).2 = [(39, .aload_n 0, 1, []), (40, .iload_n 1, 1, []), (41, .iload_n 2, 1, []), (42, .iload_n 3, 1, []), (43, .iload 5, 2, []), (45, .iconst 0, 1, []), (46, .invokevirtual 219, 3, [0, 172, 6, 1]), (49, .iload_n 3, 1, []), (50, .if_icmp .eq 9, 3, [7])] := rfl
theorem cb_X4_behind_6 : (blk md_X4_behind 6).2 = [(53, .iinc 5 1, 3, []), (56, .goto (-17), 3, [5])] := rfl
theorem cb_X4_behind_7 : (blk md_X4_behind 7).2 = [(59, .iload 5, 2, []), (61, .ireturn, 1, [])] := rfl
def md_X4_through : List mB := [
  (false, [(0, .aload_n 0, 1, []), (1, .getfield 7, 3, [4, 0]), (4, .aload_n 0, 1, []), (5, .getfield 13, 3, [4, 1]), (8, .invokestatic 168, 3, [1, 102, 2, 0]), (11, .iconst 0, 1, []), (12, .istore_n 3, 1, []), (13, .iconst 0, 1, []), (14, .istore 4, 2, []), (16, .aload_n 0, 1, []), (17, .iconst 0, 1, []), (18, .putfield 82, 3, [4, 10, 1])]),
  (false, [(21, .iload_n 3, 1, []), (22, .bipush 64, 2, []), (24, .if_icmp .ge 51, 3, [7])]),
  (false, [(27, .aload_n 0, 1, []), (28, .getfield 82, 3, [4, 10]), (31, .ifCond .ne 44, 3, [7])]),
  (false, [(34, .aload_n 0, 1, []), (35, .iconst 0, 1, []), (36, .iload_n 1, 1, []), (37, .iload_n 3, 1, []), (38, .aload_n 0, 1, []), (39, .iload_n 1, 1, []), (40, .iload_n 3, 1, []), (41, .invokevirtual 63, 3, [0, 111, 3, 1]), (44, .iconst (-1), 1, []), (45, .invokevirtual 172, 3, [0, 145, 6, 0]), (48, .iload 4, 2, []), (50, .aload_n 0, 1, []), (51, .getfield 85, 3, [4, 7]), (54, .iadd, 1, []), (55, .istore 4, 2, []), (57, .iload_n 3, 1, []), (58, .aload_n 0, 1, []), (59, .getfield 82, 3, [4, 10]), (62, .ifCond .eq 7, 3, [5])]),
  (false, [(65, .iconst 0, 1, []), (66, .goto 4, 3, [6])]),
  (false, [(69, .iconst 1, 1, [])]),
  (false, [(70, .iadd, 1, []), (71, .istore_n 3, 1, []), (72, .goto (-51), 3, [1])]),
  (false, [(75, .aload_n 0, 1, []), (76, .getfield 13, 3, [4, 1]), (79, .aload_n 0, 1, []), (80, .getfield 7, 3, [4, 0]), (83, .invokestatic 168, 3, [1, 102, 2, 0]), (86, .iload_n 2, 1, []), (87, .ifCond .ne 7, 3, [9])]),
  (false, [(90, .iload_n 3, 1, []), (91, .goto 15, 3, [12])]),
  (false, [(94, .iload_n 3, 1, []), (95, .bipush 64, 2, []), (97, .if_icmp .ge 7, 3, [11])]),
  (false, [(100, .iconst (-1), 1, []), (101, .goto 5, 3, [12])]),
  (false, [(104, .iload 4, 2, [])]),
  (false, [(106, .ireturn, 1, [])])]
theorem cb_X4_through_0 : (blk md_X4_through 0).2 = [(0, .aload_n 0, 1, []), (1, .getfield 7, 3, [4, 0]), (4, .aload_n 0, 1, []), (5, .getfield 13, 3, [4, 1]), (8, .invokestatic 168, 3, [1, 102, 2, 0]), (11, .iconst 0, 1, []), (12, .istore_n 3, 1, []), (13, .iconst 0, 1, []), (14, .istore 4, 2, []), (16, .aload_n 0, 1, []), (17, .iconst 0, 1, []), (18, .putfield 82, 3, [4, 10, 1])] := rfl
theorem cb_X4_through_1 : (blk md_X4_through 1).2 = [(21, .iload_n 3, 1, []), (22, .bipush 64, 2, []), (24, .if_icmp .ge 51, 3, [7])] := rfl
theorem cb_X4_through_2 : (blk md_X4_through 2).2 = [(27, .aload_n 0, 1, []), (28, .getfield 82, 3, [4, 10]), (31, .ifCond .ne 44, 3, [7])] := rfl
theorem cb_X4_through_3 : (blk md_X4_through 3).2 = [(34, .aload_n 0, 1, []), (35, .iconst 0, 1, []), (36, .iload_n 1, 1, []), (37, .iload_n 3, 1, []), (38, .aload_n 0, 1, []), (39, .iload_n 1, 1, []), (40, .iload_n 3, 1, []), (41, .invokevirtual 63, 3, [0, 111, 3, 1]), (44, .iconst (-1), 1, []), (45, .invokevirtual 172, 3, [0, 145, 6, 0]), (48, .iload 4, 2, []), (50, .aload_n 0, 1, []), (51, .getfield 85, 3, [4, 7]), (54, .iadd, 1, []), (55, .istore 4, 2, []), (57, .iload_n 3, 1, []), (58, .aload_n 0, 1, []), (59, .getfield 82, 3, [4, 10]), (62, .ifCond .eq 7, 3, [5])] := rfl
theorem cb_X4_through_4 : (blk md_X4_through 4).2 = [(65, .iconst 0, 1, []), (66, .goto 4, 3, [6])] := rfl
theorem cb_X4_through_5 : (blk md_X4_through 5).2 = [(69, .iconst 1, 1, [])] := rfl
theorem cb_X4_through_6 : (blk md_X4_through 6).2 = [(70, .iadd, 1, []), (71, .istore_n 3, 1, []), (72, .goto (-51), 3, [1])] := rfl
theorem cb_X4_through_7 : (blk md_X4_through 7).2 = [(75, .aload_n 0, 1, []), (76, .getfield 13, 3, [4, 1]), (79, .aload_n 0, 1, []), (80, .getfield 7, 3, [4, 0]), (83, .invokestatic 168, 3, [1, 102, 2, 0]), (86, .iload_n 2, 1, []), (87, .ifCond .ne 7, 3, [9])] := rfl
theorem cb_X4_through_8 : (blk md_X4_through 8).2 = [(90, .iload_n 3, 1, []), (91, .goto 15, 3, [12])] := rfl
theorem cb_X4_through_9 : (blk md_X4_through 9).2 = [(94, .iload_n 3, 1, []), (95, .bipush 64, 2, []), (97, .if_icmp .ge 7, 3, [11])] := rfl
theorem cb_X4_through_10 : (blk md_X4_through 10).2 = [(100, .iconst (-1), 1, []), (101, .goto 5, 3, [12])] := rfl
theorem cb_X4_through_11 : (blk md_X4_through 11).2 = [(104, .iload 4, 2, [])] := rfl
theorem cb_X4_through_12 : (blk md_X4_through 12).2 = [(106, .ireturn, 1, [])] := rfl
def md_X4_room : List mB := [
  (false, [(0, .aload_n 0, 1, []), (1, .iload_n 1, 1, []), (2, .invokevirtual 52, 3, [0, 103, 2, 1]), (5, .ifCond .ne 13, 3, [2])]),
  (false, [(8, .aload_n 0, 1, []), (9, .sipush (-1001), 3, []), (12, .invokevirtual 56, 3, [0, 101, 2, 1]), (15, .goto 26, 3, [5])]),
  (false, [(18, .aload_n 0, 1, []), (19, .invokevirtual 185, 3, [0, 121, 1, 1]), (22, .ifCond .eq 13, 3, [4])]),
  (false, [(25, .aload_n 0, 1, []), (26, .sipush (-1003), 3, []), (29, .invokevirtual 56, 3, [0, 101, 2, 1]), (32, .goto 9, 3, [5])]),
  (false, [(35, .aload_n 0, 1, []), (36, .iload_n 1, 1, []), (37, .iconst 0, 1, []), (38, .invokevirtual 223, 3, [0, 176, 3, 1])]),
  (false, [(41, .ireturn, 1, [])])]
theorem cb_X4_room_0 : (blk md_X4_room 0).2 = [(0, .aload_n 0, 1, []), (1, .iload_n 1, 1, []), (2, .invokevirtual 52, 3, [0, 103, 2, 1]), (5, .ifCond .ne 13, 3, [2])] := rfl
theorem cb_X4_room_1 : (blk md_X4_room 1).2 = [(8, .aload_n 0, 1, []), (9, .sipush (-1001), 3, []), (12, .invokevirtual 56, 3, [0, 101, 2, 1]), (15, .goto 26, 3, [5])] := rfl
theorem cb_X4_room_2 : (blk md_X4_room 2).2 = [(18, .aload_n 0, 1, []), (19, .invokevirtual 185, 3, [0, 121, 1, 1]), (22, .ifCond .eq 13, 3, [4])] := rfl
theorem cb_X4_room_3 : (blk md_X4_room 3).2 = [(25, .aload_n 0, 1, []), (26, .sipush (-1003), 3, []), (29, .invokevirtual 56, 3, [0, 101, 2, 1]), (32, .goto 9, 3, [5])] := rfl
theorem cb_X4_room_4 : (blk md_X4_room 4).2 = [(35, .aload_n 0, 1, []), (36, .iload_n 1, 1, []), (37, .iconst 0, 1, []), (38, .invokevirtual 223, 3, [0, 176, 3, 1])] := rfl
theorem cb_X4_room_5 : (blk md_X4_room 5).2 = [(41, .ireturn, 1, [])] := rfl
def md_X4_of : List mB := [
  (false, [(0, .aload_n 0, 1, []), (1, .iload_n 1, 1, []), (2, .invokevirtual 52, 3, [0, 103, 2, 1]), (5, .ifCond .eq 12, 3, [2])]),
  (false, [(8, .iload_n 2, 1, []), (9, .iconst 0, 1, []), (10, .iconst 3, 1, []), (11, .invokestatic 37, 3, [1, 100, 3, 1]), (14, .ifCond .ne 11, 3, [3])]),
  (false, [(17, .aload_n 0, 1, []), (18, .sipush (-1001), 3, []), (21, .invokevirtual 56, 3, [0, 101, 2, 1]), (24, .ireturn, 1, [])]),
  (false, [(25, .iconst 0, 1, []), (26, .istore_n 3, 1, []), (27, .iload_n 2, 1, []), (28, .tableswitch 96 0 2 #[28, 39, 78], 28, [16, 4, 5, 12])]),
  (false, [(56, .aload_n 0, 1, []), (57, .getfield 7, 3, [4, 0]), (60, .sipush 321, 3, []), (63, .iload_n 1, 1, []), (64, .iadd, 1, []), (65, .iaload, 1, []), (66, .ireturn, 1, [])]),
  (false, [(67, .iconst 0, 1, []), (68, .istore 4, 2, [])]),
  (false, [(70, .iload 4, 2, []), (72, .bipush 16, 2, []), (74, .if_icmp .ge 30, 3, [11])]),
  (false, [(77, .iload_n 3, 1, []), (78, .aload_n 0, 1, []), (79, .iload_n 1, 1, []), (80, .iload 4, 2, []), (82, .invokevirtual 45, 3, [0, 109, 3, 1]), (85, .ifCond .eq 10, 3, [9])]),
  (false, [(88, .iconst 1, 1, []), (89, .iload 4, 2, []), (91, .ishl, 1, []), (92, .goto 4, 3, [10])]),
  (false, [(95, .iconst 0, 1, [])]),
  (false, [(96, .ior, 1, []), (97, .istore_n 3, 1, []), (98, .iinc 4 1, 3, []), (101, .goto (-31), 3, [6])]),
  (false, [(104, .iload_n 3, 1, []), (105, .ireturn, 1, [])]),
  (false, [(106, .aload_n 0, 1, []), (107, .invokevirtual 185, 3, [0, 121, 1, 1]), (110, .ifCond .eq 7, 3, [14])]),
  (false, [(113, .iconst (-1), 1, []), (114, .goto 9, 3, [15])]),
  (false, [(117, .aload_n 0, 1, []), (118, .iload_n 1, 1, []), (119, .iconst 1, 1, []), (120, .invokevirtual 223, 3, [0, 176, 3, 1])]),
  (false, [(123, .ireturn, 1, [])]),
  (false, [(124, .aload_n 0, 1, []), (125, .getfield 7, 3, [4, 0]), (128, .sipush 321, 3, []), (131, .iload_n 1, 1, []), (132, .iadd, 1, []), (133, .iaload, 1, []), (134, .istore 4, 2, [])]),
  (false, [(136, .iload 4, 2, []), (138, .iconst (-1), 1, []), (139, .if_icmp .eq 22, 3, [19])]),
  (false, [(142, .iinc 3 1, 3, []), (145, .aload_n 0, 1, []), (146, .getfield 7, 3, [4, 0]), (149, .sipush 321, 3, []), (152, .iload 4, 2, []), (154, .iadd, 1, []), (155, .iaload, 1, []), (156, .istore 4, 2, []), (158, .goto (-22), 3, [17])]),
  (false, [(161, .iload_n 3, 1, []), (162, .ireturn, 1, [])])]
theorem cb_X4_of_0 : (blk md_X4_of 0).2 = [(0, .aload_n 0, 1, []), (1, .iload_n 1, 1, []), (2, .invokevirtual 52, 3, [0, 103, 2, 1]), (5, .ifCond .eq 12, 3, [2])] := rfl
theorem cb_X4_of_1 : (blk md_X4_of 1).2 = [(8, .iload_n 2, 1, []), (9, .iconst 0, 1, []), (10, .iconst 3, 1, []), (11, .invokestatic 37, 3, [1, 100, 3, 1]), (14, .ifCond .ne 11, 3, [3])] := rfl
theorem cb_X4_of_2 : (blk md_X4_of 2).2 = [(17, .aload_n 0, 1, []), (18, .sipush (-1001), 3, []), (21, .invokevirtual 56, 3, [0, 101, 2, 1]), (24, .ireturn, 1, [])] := rfl
theorem cb_X4_of_3 : (blk md_X4_of 3).2 = [(25, .iconst 0, 1, []), (26, .istore_n 3, 1, []), (27, .iload_n 2, 1, []), (28, .tableswitch 96 0 2 #[28, 39, 78], 28, [16, 4, 5, 12])] := rfl
theorem cb_X4_of_4 : (blk md_X4_of 4).2 = [(56, .aload_n 0, 1, []), (57, .getfield 7, 3, [4, 0]), (60, .sipush 321, 3, []), (63, .iload_n 1, 1, []), (64, .iadd, 1, []), (65, .iaload, 1, []), (66, .ireturn, 1, [])] := rfl
theorem cb_X4_of_5 : (blk md_X4_of 5).2 = [(67, .iconst 0, 1, []), (68, .istore 4, 2, [])] := rfl
theorem cb_X4_of_6 : (blk md_X4_of 6).2 = [(70, .iload 4, 2, []), (72, .bipush 16, 2, []), (74, .if_icmp .ge 30, 3, [11])] := rfl
theorem cb_X4_of_7 : (blk md_X4_of 7).2 = [(77, .iload_n 3, 1, []), (78, .aload_n 0, 1, []), (79, .iload_n 1, 1, []), (80, .iload 4, 2, []), (82, .invokevirtual 45, 3, [0, 109, 3, 1]), (85, .ifCond .eq 10, 3, [9])] := rfl
theorem cb_X4_of_8 : (blk md_X4_of 8).2 = [(88, .iconst 1, 1, []), (89, .iload 4, 2, []), (91, .ishl, 1, []), (92, .goto 4, 3, [10])] := rfl
theorem cb_X4_of_9 : (blk md_X4_of 9).2 = [(95, .iconst 0, 1, [])] := rfl
theorem cb_X4_of_10 : (blk md_X4_of 10).2 = [(96, .ior, 1, []), (97, .istore_n 3, 1, []), (98, .iinc 4 1, 3, []), (101, .goto (-31), 3, [6])] := rfl
theorem cb_X4_of_11 : (blk md_X4_of 11).2 = [(104, .iload_n 3, 1, []), (105, .ireturn, 1, [])] := rfl
theorem cb_X4_of_12 : (blk md_X4_of 12).2 = [(106, .aload_n 0, 1, []), (107, .invokevirtual 185, 3, [0, 121, 1, 1]), (110, .ifCond .eq 7, 3, [14])] := rfl
theorem cb_X4_of_13 : (blk md_X4_of 13).2 = [(113, .iconst (-1), 1, []), (114, .goto 9, 3, [15])] := rfl
theorem cb_X4_of_14 : (blk md_X4_of 14).2 = [(117, .aload_n 0, 1, []), (118, .iload_n 1, 1, []), (119, .iconst 1, 1, []), (120, .invokevirtual 223, 3, [0, 176, 3, 1])] := rfl
theorem cb_X4_of_15 : (blk md_X4_of 15).2 = [(123, .ireturn, 1, [])] := rfl
theorem cb_X4_of_16 : (blk md_X4_of 16).2 = [(124, .aload_n 0, 1, []), (125, .getfield 7, 3, [4, 0]), (128, .sipush 321, 3, []), (131, .iload_n 1, 1, []), (132, .iadd, 1, []), (133, .iaload, 1, []), (134, .istore 4, 2, [])] := rfl
theorem cb_X4_of_17 : (blk md_X4_of 17).2 = [(136, .iload 4, 2, []), (138, .iconst (-1), 1, []), (139, .if_icmp .eq 22, 3, [19])] := rfl
theorem cb_X4_of_18 : (blk md_X4_of 18).2 = [(142, .iinc 3 1, 3, []), (145, .aload_n 0, 1, []), (146, .getfield 7, 3, [4, 0]), (149, .sipush 321, 3, []), (152, .iload 4, 2, []), (154, .iadd, 1, []), (155, .iaload, 1, []), (156, .istore 4, 2, []), (158, .goto (-22), 3, [17])] := rfl
theorem cb_X4_of_19 : (blk md_X4_of 19).2 = [(161, .iload_n 3, 1, []), (162, .ireturn, 1, [])] := rfl
def md_X4_feed : List mB := [
  (false, [(0, .iload_n 3, 1, []), (1, .iconst 1, 1, []), (2, .bipush 8, 2, []), (4, .invokestatic 37, 3, [1, 100, 3, 1]), (7, .ifCond .ne 11, 3, [2])]),
  (false, [(10, .aload_n 0, 1, []), (11, .sipush (-1001), 3, []), (14, .invokevirtual 56, 3, [0, 101, 2, 1]), (17, .ireturn, 1, [])]),
  (false, [(18, .aload_n 0, 1, []), (19, .getfield 226, 3, [4, 15]), (22, .iload_n 3, 1, []), (23, .iadd, 1, []), (24, .bipush 120, 2, []), (26, .if_icmp .le 11, 3, [4])]),
  (false, [(29, .aload_n 0, 1, []), (30, .sipush (-1002), 3, []), (33, .invokevirtual 56, 3, [0, 101, 2, 1]), (36, .ireturn, 1, [])]),
  (false, [(37, .iconst 0, 1, []), (38, .istore 4, 2, [])]),
  (false, [(40, .iload 4, 2, []), (42, .iload_n 3, 1, []), (43, .if_icmp .ge 40, 3, [7])]),
  (false, [(46, .aload_n 0, 1, []), (47, .getfield 31, 3, [4, 13]), (50, .aload_n 0, 1, []), (51, .getfield 226, 3, [4, 15]), (54, .lload_n 1, 1, []), (55, .bipush 8, 2, []), (57, .iload 4, 2, []), (59, .imul, 1, []), (60, .lushr, 1, []), (61, .l2i, 1, []), (62, .sipush 255, 3, []), (65, .iand, 1, []), (66, .iastore, 1, []), (67, .aload_n 0, 1, []), (68, .dup, 1, []), (69, .getfield 226, 3, [4, 15]), (72, .iconst 1, 1, []), (73, .iadd, 1, []), (74, .putfield 226, 3, [4, 15]), (77, .iinc 4 1, 3, []), (80, .goto (-40), 3, [5])]),
  (false, [(83, .aload_n 0, 1, []), (84, .getfield 226, 3, [4, 15]), (87, .ireturn, 1, [])])]
theorem cb_X4_feed_0 : (blk md_X4_feed 0).2 = [(0, .iload_n 3, 1, []), (1, .iconst 1, 1, []), (2, .bipush 8, 2, []), (4, .invokestatic 37, 3, [1, 100, 3, 1]), (7, .ifCond .ne 11, 3, [2])] := rfl
theorem cb_X4_feed_1 : (blk md_X4_feed 1).2 = [(10, .aload_n 0, 1, []), (11, .sipush (-1001), 3, []), (14, .invokevirtual 56, 3, [0, 101, 2, 1]), (17, .ireturn, 1, [])] := rfl
theorem cb_X4_feed_2 : (blk md_X4_feed 2).2 = [(18, .aload_n 0, 1, []), (19, .getfield 226, 3, [4, 15]), (22, .iload_n 3, 1, []), (23, .iadd, 1, []), (24, .bipush 120, 2, []), (26, .if_icmp .le 11, 3, [4])] := rfl
theorem cb_X4_feed_3 : (blk md_X4_feed 3).2 = [(29, .aload_n 0, 1, []), (30, .sipush (-1002), 3, []), (33, .invokevirtual 56, 3, [0, 101, 2, 1]), (36, .ireturn, 1, [])] := rfl
theorem cb_X4_feed_4 : (blk md_X4_feed 4).2 = [(37, .iconst 0, 1, []), (38, .istore 4, 2, [])] := rfl
theorem cb_X4_feed_5 : (blk md_X4_feed 5).2 = [(40, .iload 4, 2, []), (42, .iload_n 3, 1, []), (43, .if_icmp .ge 40, 3, [7])] := rfl
theorem cb_X4_feed_6 : (blk md_X4_feed 6).2 = [(46, .aload_n 0, 1, []), (47, .getfield 31, 3, [4, 13]), (50, .aload_n 0, 1, []), (51, .getfield 226, 3, [4, 15]), (54, .lload_n 1, 1, []), (55, .bipush 8, 2, []), (57, .iload 4, 2, []), (59, .imul, 1, []), (60, .lushr, 1, []), (61, .l2i, 1, []), (62, .sipush 255, 3, []), (65, .iand, 1, []), (66, .iastore, 1, []), (67, .aload_n 0, 1, []), (68, .dup, 1, []), (69, .getfield 226, 3, [4, 15]), (72, .iconst 1, 1, []), (73, .iadd, 1, []), (74, .putfield 226, 3, [4, 15]), (77, .iinc 4 1, 3, []), (80, .goto (-40), 3, [5])] := rfl
theorem cb_X4_feed_7 : (blk md_X4_feed 7).2 = [(83, .aload_n 0, 1, []), (84, .getfield 226, 3, [4, 15]), (87, .ireturn, 1, [])] := rfl
def md_X4_wipe : List mB := [
  (false, [(0, .aload_n 0, 1, []), (1, .getfield 226, 3, [4, 15]), (4, .istore_n 1, 1, []), (5, .aload_n 0, 1, []), (6, .iconst 0, 1, []), (7, .putfield 226, 3, [4, 15]), (10, .iload_n 1, 1, []), (11, .ireturn, 1, [])])]
theorem cb_X4_wipe_0 : (blk md_X4_wipe 0).2 = [(0, .aload_n 0, 1, []), (1, .getfield 226, 3, [4, 15]), (4, .istore_n 1, 1, []), (5, .aload_n 0, 1, []), (6, .iconst 0, 1, []), (7, .putfield 226, 3, [4, 15]), (10, .iload_n 1, 1, []), (11, .ireturn, 1, [])] := rfl
def md_X4_numbersOf : List mB := [
  (false, [(0, .iload_n 0, 1, []), (1, .tableswitch 103 100 119 #[99, 103, 101, 97, 103, 103, 103, 103, 103, 99, 103, 103, 103, 103, 99, 99, 103, 103, 103, 95], 95, [5, 3, 5, 4, 2, 5, 5, 5, 5, 5, 3, 5, 5, 5, 5, 3, 3, 5, 5, 5, 1])]),
  (false, [(96, .iconst 3, 1, []), (97, .ireturn, 1, [])]),
  (false, [(98, .iconst 2, 1, []), (99, .ireturn, 1, [])]),
  (false, [(100, .iconst 1, 1, []), (101, .ireturn, 1, [])]),
  (false, [(102, .iconst 0, 1, []), (103, .ireturn, 1, [])]),
  (false, [(104, .iconst (-1), 1, []), (105, .ireturn, 1, [])])]
theorem cb_X4_numbersOf_0 : (blk md_X4_numbersOf 0).2 = [(0, .iload_n 0, 1, []), (1, .tableswitch 103 100 119 #[99, 103, 101, 97, 103, 103, 103, 103, 103, 99, 103, 103, 103, 103, 99, 99, 103, 103, 103, 95], 95, [5, 3, 5, 4, 2, 5, 5, 5, 5, 5, 3, 5, 5, 5, 5, 3, 3, 5, 5, 5, 1])] := rfl
theorem cb_X4_numbersOf_1 : (blk md_X4_numbersOf 1).2 = [(96, .iconst 3, 1, []), (97, .ireturn, 1, [])] := rfl
theorem cb_X4_numbersOf_2 : (blk md_X4_numbersOf 2).2 = [(98, .iconst 2, 1, []), (99, .ireturn, 1, [])] := rfl
theorem cb_X4_numbersOf_3 : (blk md_X4_numbersOf 3).2 = [(100, .iconst 1, 1, []), (101, .ireturn, 1, [])] := rfl
theorem cb_X4_numbersOf_4 : (blk md_X4_numbersOf 4).2 = [(102, .iconst 0, 1, []), (103, .ireturn, 1, [])] := rfl
theorem cb_X4_numbersOf_5 : (blk md_X4_numbersOf 5).2 = [(104, .iconst (-1), 1, []), (105, .ireturn, 1, [])] := rfl
def md_X4_isDigit : List mB := [
  (false, [(0, .iload_n 1, 1, []), (1, .aload_n 0, 1, []), (2, .getfield 226, 3, [4, 15]), (5, .if_icmp .ge 23, 3, [3])]),
  (false, [(8, .aload_n 0, 1, []), (9, .getfield 31, 3, [4, 13]), (12, .iload_n 1, 1, []), (13, .iaload, 1, []), (14, .bipush 48, 2, []), (16, .bipush 57, 2, []), (18, .invokestatic 37, 3, [1, 100, 3, 1]), (21, .ifCond .eq 7, 3, [3])]),
  (false, [(24, .iconst 1, 1, []), (25, .goto 4, 3, [4])]),
  (false, [(28, .iconst 0, 1, [])]),
  (false, [(29, .ireturn, 1, [1])])]
theorem cb_X4_isDigit_0 : (blk md_X4_isDigit 0).2 = [(0, .iload_n 1, 1, []), (1, .aload_n 0, 1, []), (2, .getfield 226, 3, [4, 15]), (5, .if_icmp .ge 23, 3, [3])] := rfl
theorem cb_X4_isDigit_1 : (blk md_X4_isDigit 1).2 = [(8, .aload_n 0, 1, []), (9, .getfield 31, 3, [4, 13]), (12, .iload_n 1, 1, []), (13, .iaload, 1, []), (14, .bipush 48, 2, []), (16, .bipush 57, 2, []), (18, .invokestatic 37, 3, [1, 100, 3, 1]), (21, .ifCond .eq 7, 3, [3])] := rfl
theorem cb_X4_isDigit_2 : (blk md_X4_isDigit 2).2 = [(24, .iconst 1, 1, []), (25, .goto 4, 3, [4])] := rfl
theorem cb_X4_isDigit_3 : (blk md_X4_isDigit 3).2 = [(28, .iconst 0, 1, [])] := rfl
theorem cb_X4_isDigit_4 : (blk md_X4_isDigit 4).2 = [(29, .ireturn, 1, [1])] := rfl
def md_X4_isDeed : List mB := [
  (false, [(0, .aload_n 0, 1, []), (1, .getfield 229, 3, [4, 17]), (4, .aload_n 0, 1, []), (5, .getfield 226, 3, [4, 15]), (8, .if_icmp .eq 19, 3, [2])]),
  (false, [(11, .aload_n 0, 1, []), (12, .getfield 31, 3, [4, 13]), (15, .aload_n 0, 1, []), (16, .getfield 229, 3, [4, 17]), (19, .iaload, 1, []), (20, .invokestatic 232, 3, [1, 181, 1, 1]), (23, .iconst (-1), 1, []), (24, .if_icmp .ne 5, 3, [3])]),
  (false, [(27, .iconst 0, 1, []), (28, .ireturn, 1, [1])]),
  (false, [(29, .aload_n 0, 1, []), (30, .getfield 34, 3, [4, 14]), (33, .iconst 4, 1, []), (34, .aload_n 0, 1, []), (35, .getfield 235, 3, [4, 16]), (38, .imul, 1, []), (39, .aload_n 0, 1, []), (40, .getfield 31, 3, [4, 13]), (43, .aload_n 0, 1, []), (44, .getfield 229, 3, [4, 17]), (47, .iaload, 1, []), (48, .iastore, 1, []), (49, .aload_n 0, 1, []), (50, .dup, 1, []), (51, .getfield 229, 3, [4, 17]), (54, .iconst 1, 1, []), (55, .iadd, 1, []), (56, .putfield 229, 3, [4, 17]), (59, .iconst 1, 1, []), (60, .istore_n 1, 1, [])]),
  (false, [(61, .iload_n 1, 1, []), (62, .aload_n 0, 1, []), (63, .getfield 34, 3, [4, 14]), (66, .iconst 4, 1, []), (67, .aload_n 0, 1, []), (68, .getfield 235, 3, [4, 16]), (71, .imul, 1, []), (72, .iaload, 1, []), (73, .invokestatic 232, 3, [1, 181, 1, 1]), (76, .if_icmp .gt 127, 3, [15])]),
  (false, [(79, .aload_n 0, 1, []), (80, .getfield 229, 3, [4, 17]), (83, .aload_n 0, 1, []), (84, .getfield 226, 3, [4, 15]), (87, .if_icmp .eq 17, 3, [7])]),
  (false, [(90, .aload_n 0, 1, []), (91, .getfield 31, 3, [4, 13]), (94, .aload_n 0, 1, []), (95, .getfield 229, 3, [4, 17]), (98, .iaload, 1, []), (99, .bipush 32, 2, []), (101, .if_icmp .eq 5, 3, [8])]),
  (false, [(104, .iconst 0, 1, []), (105, .ireturn, 1, [1])]),
  (false, [(106, .aload_n 0, 1, []), (107, .dup, 1, []), (108, .getfield 229, 3, [4, 17]), (111, .iconst 1, 1, []), (112, .iadd, 1, []), (113, .putfield 229, 3, [4, 17]), (116, .aload_n 0, 1, []), (117, .aload_n 0, 1, []), (118, .getfield 229, 3, [4, 17]), (121, .invokevirtual 238, 3, [0, 182, 2, 1]), (124, .ifCond .ne 5, 3, [10])]),
  (false, [(127, .iconst 0, 1, []), (128, .ireturn, 1, [1])]),
  (false, [(129, .iconst 0, 1, []), (130, .istore_n 2, 1, []), (131, .iconst 0, 1, []), (132, .istore_n 3, 1, [])]),
  (false, [(133, .iload_n 3, 1, []), (134, .iconst 3, 1, []), (135, .if_icmp .ge 48, 3, [14])]),
  (false, [(138, .aload_n 0, 1, []), (139, .aload_n 0, 1, []), (140, .getfield 229, 3, [4, 17]), (143, .invokevirtual 238, 3, [0, 182, 2, 1]), (146, .ifCond .eq 37, 3, [14])]),
  (false, [(149, .bipush 10, 2, []), (151, .iload_n 2, 1, []), (152, .imul, 1, []), (153, .aload_n 0, 1, []), (154, .getfield 31, 3, [4, 13]), (157, .aload_n 0, 1, []), (158, .getfield 229, 3, [4, 17]), (161, .iaload, 1, []), (162, .iadd, 1, []), (163, .bipush 48, 2, []), (165, .isub, 1, []), (166, .istore_n 2, 1, []), (167, .aload_n 0, 1, []), (168, .dup, 1, []), (169, .getfield 229, 3, [4, 17]), (172, .iconst 1, 1, []), (173, .iadd, 1, []), (174, .putfield 229, 3, [4, 17]), (177, .iinc 3 1, 3, []), (180, .goto (-47), 3, [11])]),
  (false, [(183, .aload_n 0, 1, []), (184, .getfield 34, 3, [4, 14]), (187, .iconst 4, 1, []), (188, .aload_n 0, 1, []), (189, .getfield 235, 3, [4, 16]), (192, .imul, 1, []), (193, .iload_n 1, 1, []), (194, .iadd, 1, []), (195, .iload_n 2, 1, []), (196, .iastore, 1, []), (197, .iinc 1 1, 3, []), (200, .goto (-139), 3, [4])]),
  (false, [(203, .aload_n 0, 1, []), (204, .dup, 1, []), (205, .getfield 235, 3, [4, 16]), (208, .iconst 1, 1, []), (209, .iadd, 1, []), (210, .putfield 235, 3, [4, 16]), (213, .iconst 1, 1, []), (214, .ireturn, 1, [1])])]
theorem cb_X4_isDeed_0 : (blk md_X4_isDeed 0).2 = [(0, .aload_n 0, 1, []), (1, .getfield 229, 3, [4, 17]), (4, .aload_n 0, 1, []), (5, .getfield 226, 3, [4, 15]), (8, .if_icmp .eq 19, 3, [2])] := rfl
theorem cb_X4_isDeed_1 : (blk md_X4_isDeed 1).2 = [(11, .aload_n 0, 1, []), (12, .getfield 31, 3, [4, 13]), (15, .aload_n 0, 1, []), (16, .getfield 229, 3, [4, 17]), (19, .iaload, 1, []), (20, .invokestatic 232, 3, [1, 181, 1, 1]), (23, .iconst (-1), 1, []), (24, .if_icmp .ne 5, 3, [3])] := rfl
theorem cb_X4_isDeed_2 : (blk md_X4_isDeed 2).2 = [(27, .iconst 0, 1, []), (28, .ireturn, 1, [1])] := rfl
theorem cb_X4_isDeed_3 : (blk md_X4_isDeed 3).2 = [(29, .aload_n 0, 1, []), (30, .getfield 34, 3, [4, 14]), (33, .iconst 4, 1, []), (34, .aload_n 0, 1, []), (35, .getfield 235, 3, [4, 16]), (38, .imul, 1, []), (39, .aload_n 0, 1, []), (40, .getfield 31, 3, [4, 13]), (43, .aload_n 0, 1, []), (44, .getfield 229, 3, [4, 17]), (47, .iaload, 1, []), (48, .iastore, 1, []), (49, .aload_n 0, 1, []), (50, .dup, 1, []), (51, .getfield 229, 3, [4, 17]), (54, .iconst 1, 1, []), (55, .iadd, 1, []), (56, .putfield 229, 3, [4, 17]), (59, .iconst 1, 1, []), (60, .istore_n 1, 1, [])] := rfl
theorem cb_X4_isDeed_4 : (blk md_X4_isDeed 4).2 = [(61, .iload_n 1, 1, []), (62, .aload_n 0, 1, []), (63, .getfield 34, 3, [4, 14]), (66, .iconst 4, 1, []), (67, .aload_n 0, 1, []), (68, .getfield 235, 3, [4, 16]), (71, .imul, 1, []), (72, .iaload, 1, []), (73, .invokestatic 232, 3, [1, 181, 1, 1]), (76, .if_icmp .gt 127, 3, [15])] := rfl
theorem cb_X4_isDeed_5 : (blk md_X4_isDeed 5).2 = [(79, .aload_n 0, 1, []), (80, .getfield 229, 3, [4, 17]), (83, .aload_n 0, 1, []), (84, .getfield 226, 3, [4, 15]), (87, .if_icmp .eq 17, 3, [7])] := rfl
theorem cb_X4_isDeed_6 : (blk md_X4_isDeed 6).2 = [(90, .aload_n 0, 1, []), (91, .getfield 31, 3, [4, 13]), (94, .aload_n 0, 1, []), (95, .getfield 229, 3, [4, 17]), (98, .iaload, 1, []), (99, .bipush 32, 2, []), (101, .if_icmp .eq 5, 3, [8])] := rfl
theorem cb_X4_isDeed_7 : (blk md_X4_isDeed 7).2 = [(104, .iconst 0, 1, []), (105, .ireturn, 1, [1])] := rfl
theorem cb_X4_isDeed_8 : (blk md_X4_isDeed 8).2 = [(106, .aload_n 0, 1, []), (107, .dup, 1, []), (108, .getfield 229, 3, [4, 17]), (111, .iconst 1, 1, []), (112, .iadd, 1, []), (113, .putfield 229, 3, [4, 17]), (116, .aload_n 0, 1, []), (117, .aload_n 0, 1, []), (118, .getfield 229, 3, [4, 17]), (121, .invokevirtual 238, 3, [0, 182, 2, 1]), (124, .ifCond .ne 5, 3, [10])] := rfl
theorem cb_X4_isDeed_9 : (blk md_X4_isDeed 9).2 = [(127, .iconst 0, 1, []), (128, .ireturn, 1, [1])] := rfl
theorem cb_X4_isDeed_10 : (blk md_X4_isDeed 10).2 = [(129, .iconst 0, 1, []), (130, .istore_n 2, 1, []), (131, .iconst 0, 1, []), (132, .istore_n 3, 1, [])] := rfl
theorem cb_X4_isDeed_11 : (blk md_X4_isDeed 11).2 = [(133, .iload_n 3, 1, []), (134, .iconst 3, 1, []), (135, .if_icmp .ge 48, 3, [14])] := rfl
theorem cb_X4_isDeed_12 : (blk md_X4_isDeed 12).2 = [(138, .aload_n 0, 1, []), (139, .aload_n 0, 1, []), (140, .getfield 229, 3, [4, 17]), (143, .invokevirtual 238, 3, [0, 182, 2, 1]), (146, .ifCond .eq 37, 3, [14])] := rfl
theorem cb_X4_isDeed_13 : (blk md_X4_isDeed 13).2 = [(149, .bipush 10, 2, []), (151, .iload_n 2, 1, []), (152, .imul, 1, []), (153, .aload_n 0, 1, []), (154, .getfield 31, 3, [4, 13]), (157, .aload_n 0, 1, []), (158, .getfield 229, 3, [4, 17]), (161, .iaload, 1, []), (162, .iadd, 1, []), (163, .bipush 48, 2, []), (165, .isub, 1, []), (166, .istore_n 2, 1, []), (167, .aload_n 0, 1, []), (168, .dup, 1, []), (169, .getfield 229, 3, [4, 17]), (172, .iconst 1, 1, []), (173, .iadd, 1, []), (174, .putfield 229, 3, [4, 17]), (177, .iinc 3 1, 3, []), (180, .goto (-47), 3, [11])] := rfl
theorem cb_X4_isDeed_14 : (blk md_X4_isDeed 14).2 = [(183, .aload_n 0, 1, []), (184, .getfield 34, 3, [4, 14]), (187, .iconst 4, 1, []), (188, .aload_n 0, 1, []), (189, .getfield 235, 3, [4, 16]), (192, .imul, 1, []), (193, .iload_n 1, 1, []), (194, .iadd, 1, []), (195, .iload_n 2, 1, []), (196, .iastore, 1, []), (197, .iinc 1 1, 3, []), (200, .goto (-139), 3, [4])] := rfl
theorem cb_X4_isDeed_15 : (blk md_X4_isDeed 15).2 = [(203, .aload_n 0, 1, []), (204, .dup, 1, []), (205, .getfield 235, 3, [4, 16]), (208, .iconst 1, 1, []), (209, .iadd, 1, []), (210, .putfield 235, 3, [4, 16]), (213, .iconst 1, 1, []), (214, .ireturn, 1, [1])] := rfl
def md_X4_areDeeds : List mB := [
  (false, [(0, .aload_n 0, 1, []), (1, .iconst 0, 1, []), (2, .putfield 229, 3, [4, 17]), (5, .aload_n 0, 1, []), (6, .iconst 0, 1, []), (7, .putfield 235, 3, [4, 16])]),
  (false, [(10, .aload_n 0, 1, []), (11, .invokevirtual 241, 3, [0, 183, 1, 1]), (14, .ifCond .ne 5, 3, [3])]),
  (false, [(17, .iconst 0, 1, []), (18, .ireturn, 1, [1])]),
  (false, [(19, .aload_n 0, 1, []), (20, .getfield 229, 3, [4, 17]), (23, .aload_n 0, 1, []), (24, .getfield 226, 3, [4, 15]), (27, .if_icmp .ne 5, 3, [5])]),
  (false, [(30, .iconst 1, 1, []), (31, .ireturn, 1, [1])]),
  (false, [(32, .aload_n 0, 1, []), (33, .getfield 31, 3, [4, 13]), (36, .aload_n 0, 1, []), (37, .getfield 229, 3, [4, 17]), (40, .iaload, 1, []), (41, .bipush 59, 2, []), (43, .if_icmp .eq 5, 3, [7])]),
  (false, [(46, .iconst 0, 1, []), (47, .ireturn, 1, [1])]),
  (false, [(48, .aload_n 0, 1, []), (49, .dup, 1, []), (50, .getfield 229, 3, [4, 17]), (53, .iconst 1, 1, []), (54, .iadd, 1, []), (55, .putfield 229, 3, [4, 17]), (58, .goto (-48), 3, [1])])]
theorem cb_X4_areDeeds_0 : (blk md_X4_areDeeds 0).2 = [(0, .aload_n 0, 1, []), (1, .iconst 0, 1, []), (2, .putfield 229, 3, [4, 17]), (5, .aload_n 0, 1, []), (6, .iconst 0, 1, []), (7, .putfield 235, 3, [4, 16])] := rfl
theorem cb_X4_areDeeds_1 : (blk md_X4_areDeeds 1).2 = [(10, .aload_n 0, 1, []), (11, .invokevirtual 241, 3, [0, 183, 1, 1]), (14, .ifCond .ne 5, 3, [3])] := rfl
theorem cb_X4_areDeeds_2 : (blk md_X4_areDeeds 2).2 = [(17, .iconst 0, 1, []), (18, .ireturn, 1, [1])] := rfl
theorem cb_X4_areDeeds_3 : (blk md_X4_areDeeds 3).2 = [(19, .aload_n 0, 1, []), (20, .getfield 229, 3, [4, 17]), (23, .aload_n 0, 1, []), (24, .getfield 226, 3, [4, 15]), (27, .if_icmp .ne 5, 3, [5])] := rfl
theorem cb_X4_areDeeds_4 : (blk md_X4_areDeeds 4).2 = [(30, .iconst 1, 1, []), (31, .ireturn, 1, [1])] := rfl
theorem cb_X4_areDeeds_5 : (blk md_X4_areDeeds 5).2 = [(32, .aload_n 0, 1, []), (33, .getfield 31, 3, [4, 13]), (36, .aload_n 0, 1, []), (37, .getfield 229, 3, [4, 17]), (40, .iaload, 1, []), (41, .bipush 59, 2, []), (43, .if_icmp .eq 5, 3, [7])] := rfl
theorem cb_X4_areDeeds_6 : (blk md_X4_areDeeds 6).2 = [(46, .iconst 0, 1, []), (47, .ireturn, 1, [1])] := rfl
theorem cb_X4_areDeeds_7 : (blk md_X4_areDeeds 7).2 = [(48, .aload_n 0, 1, []), (49, .dup, 1, []), (50, .getfield 229, 3, [4, 17]), (53, .iconst 1, 1, []), (54, .iadd, 1, []), (55, .putfield 229, 3, [4, 17]), (58, .goto (-48), 3, [1])] := rfl
def md_X4_does : List mB := [
  (false, [(0, .aload_n 0, 1, []), (1, .getfield 34, 3, [4, 14]), (4, .iconst 4, 1, []), (5, .iload_n 1, 1, []), (6, .imul, 1, []), (7, .iconst 1, 1, []), (8, .iadd, 1, []), (9, .iaload, 1, []), (10, .istore_n 2, 1, []), (11, .aload_n 0, 1, []), (12, .getfield 34, 3, [4, 14]), (15, .iconst 4, 1, []), (16, .iload_n 1, 1, []), (17, .imul, 1, []), (18, .iconst 2, 1, []), (19, .iadd, 1, []), (20, .iaload, 1, []), (21, .istore_n 3, 1, []), (22, .aload_n 0, 1, []), (23, .getfield 34, 3, [4, 14]), (26, .iconst 4, 1, []), (27, .iload_n 1, 1, []), (28, .imul, 1, []), (29, .iaload, 1, []), (30, .tableswitch 142 100 119 #[117, 142, 142, 129, 142, 142, 142, 142, 142, 136, 142, 142, 142, 142, 123, 111, 142, 142, 142, 94], 94, [7, 3, 7, 7, 5, 7, 7, 7, 7, 7, 6, 7, 7, 7, 7, 4, 2, 7, 7, 7, 1])]),
  (false, [(124, .aload_n 0, 1, []), (125, .iload_n 2, 1, []), (126, .iload_n 3, 1, []), (127, .aload_n 0, 1, []), (128, .getfield 34, 3, [4, 14]), (131, .iconst 4, 1, []), (132, .iload_n 1, 1, []), (133, .imul, 1, []), (134, .iconst 3, 1, []), (135, .iadd, 1, []), (136, .iaload, 1, []), (137, .invokevirtual 244, 3, [0, 149, 4, 1]), (140, .ireturn, 1, [])]),
  (false, [(141, .aload_n 0, 1, []), (142, .iload_n 2, 1, []), (143, .invokevirtual 247, 3, [0, 150, 2, 1]), (146, .ireturn, 1, [])]),
  (false, [(147, .aload_n 0, 1, []), (148, .iload_n 2, 1, []), (149, .invokevirtual 250, 3, [0, 151, 2, 1]), (152, .ireturn, 1, [])]),
  (false, [(153, .aload_n 0, 1, []), (154, .iload_n 2, 1, []), (155, .invokevirtual 253, 3, [0, 152, 2, 1]), (158, .ireturn, 1, [])]),
  (false, [(159, .aload_n 0, 1, []), (160, .iload_n 2, 1, []), (161, .iload_n 3, 1, []), (162, .invokevirtual 256, 3, [0, 153, 3, 1]), (165, .ireturn, 1, [])]),
  (false, [(166, .aload_n 0, 1, []), (167, .iload_n 2, 1, []), (168, .invokevirtual 259, 3, [0, 154, 2, 1]), (171, .ireturn, 1, [])]),
  (false, [(172, .aload_n 0, 1, []), (173, .invokevirtual 262, 3, [0, 156, 1, 1]), (176, .ireturn, 1, [])])]
theorem cb_X4_does_0 : (blk md_X4_does 0).2 = [(0, .aload_n 0, 1, []), (1, .getfield 34, 3, [4, 14]), (4, .iconst 4, 1, []), (5, .iload_n 1, 1, []), (6, .imul, 1, []), (7, .iconst 1, 1, []), (8, .iadd, 1, []), (9, .iaload, 1, []), (10, .istore_n 2, 1, []), (11, .aload_n 0, 1, []), (12, .getfield 34, 3, [4, 14]), (15, .iconst 4, 1, []), (16, .iload_n 1, 1, []), (17, .imul, 1, []), (18, .iconst 2, 1, []), (19, .iadd, 1, []), (20, .iaload, 1, []), (21, .istore_n 3, 1, []), (22, .aload_n 0, 1, []), (23, .getfield 34, 3, [4, 14]), (26, .iconst 4, 1, []), (27, .iload_n 1, 1, []), (28, .imul, 1, []), (29, .iaload, 1, []), (30, .tableswitch 142 100 119 #[117, 142, 142, 129, 142, 142, 142, 142, 142, 136, 142, 142, 142, 142, 123, 111, 142, 142, 142, 94], 94, [7, 3, 7, 7, 5, 7, 7, 7, 7, 7, 6, 7, 7, 7, 7, 4, 2, 7, 7, 7, 1])] := rfl
theorem cb_X4_does_1 : (blk md_X4_does 1).2 = [(124, .aload_n 0, 1, []), (125, .iload_n 2, 1, []), (126, .iload_n 3, 1, []), (127, .aload_n 0, 1, []), (128, .getfield 34, 3, [4, 14]), (131, .iconst 4, 1, []), (132, .iload_n 1, 1, []), (133, .imul, 1, []), (134, .iconst 3, 1, []), (135, .iadd, 1, []), (136, .iaload, 1, []), (137, .invokevirtual 244, 3, [0, 149, 4, 1]), (140, .ireturn, 1, [])] := rfl
theorem cb_X4_does_2 : (blk md_X4_does 2).2 = [(141, .aload_n 0, 1, []), (142, .iload_n 2, 1, []), (143, .invokevirtual 247, 3, [0, 150, 2, 1]), (146, .ireturn, 1, [])] := rfl
theorem cb_X4_does_3 : (blk md_X4_does 3).2 = [(147, .aload_n 0, 1, []), (148, .iload_n 2, 1, []), (149, .invokevirtual 250, 3, [0, 151, 2, 1]), (152, .ireturn, 1, [])] := rfl
theorem cb_X4_does_4 : (blk md_X4_does 4).2 = [(153, .aload_n 0, 1, []), (154, .iload_n 2, 1, []), (155, .invokevirtual 253, 3, [0, 152, 2, 1]), (158, .ireturn, 1, [])] := rfl
theorem cb_X4_does_5 : (blk md_X4_does 5).2 = [(159, .aload_n 0, 1, []), (160, .iload_n 2, 1, []), (161, .iload_n 3, 1, []), (162, .invokevirtual 256, 3, [0, 153, 3, 1]), (165, .ireturn, 1, [])] := rfl
theorem cb_X4_does_6 : (blk md_X4_does 6).2 = [(166, .aload_n 0, 1, []), (167, .iload_n 2, 1, []), (168, .invokevirtual 259, 3, [0, 154, 2, 1]), (171, .ireturn, 1, [])] := rfl
theorem cb_X4_does_7 : (blk md_X4_does 7).2 = [(172, .aload_n 0, 1, []), (173, .invokevirtual 262, 3, [0, 156, 1, 1]), (176, .ireturn, 1, [])] := rfl
def md_X4_run : List mB := [
  (false, [(0, .aload_n 0, 1, []), (1, .invokevirtual 265, 3, [0, 184, 1, 1]), (4, .istore_n 1, 1, []), (5, .aload_n 0, 1, []), (6, .iconst 0, 1, []), (7, .putfield 226, 3, [4, 15]), (10, .iload_n 1, 1, []), (11, .ifCond .ne 11, 3, [2])]),
  (false, [(14, .bipush (-10), 2, []), (16, .aload_n 0, 1, []), (17, .getfield 229, 3, [4, 17]), (20, .isub, 1, []), (21, .ireturn, 1, [])]),
  (false, [(22, .iconst 0, 1, []), (23, .istore_n 2, 1, [])]),
  (false, [(24, .iload_n 2, 1, []), (25, .aload_n 0, 1, []), (26, .getfield 235, 3, [4, 16]), (29, .if_icmp .ge 23, 3, [7])]),
  (false, [(32, .aload_n 0, 1, []), (33, .iload_n 2, 1, []), (34, .invokevirtual 268, 3, [0, 185, 2, 1]), (37, .ifCond .ge 9, 3, [6])]),
  (false, [(40, .sipush (-300), 3, []), (43, .iload_n 2, 1, []), (44, .isub, 1, []), (45, .ireturn, 1, [])]),
  (false, [(46, .iinc 2 1, 3, []), (49, .goto (-25), 3, [3])]),
  (false, [(52, .aload_n 0, 1, []), (53, .getfield 235, 3, [4, 16]), (56, .ireturn, 1, [])])]
theorem cb_X4_run_0 : (blk md_X4_run 0).2 = [(0, .aload_n 0, 1, []), (1, .invokevirtual 265, 3, [0, 184, 1, 1]), (4, .istore_n 1, 1, []), (5, .aload_n 0, 1, []), (6, .iconst 0, 1, []), (7, .putfield 226, 3, [4, 15]), (10, .iload_n 1, 1, []), (11, .ifCond .ne 11, 3, [2])] := rfl
theorem cb_X4_run_1 : (blk md_X4_run 1).2 = [(14, .bipush (-10), 2, []), (16, .aload_n 0, 1, []), (17, .getfield 229, 3, [4, 17]), (20, .isub, 1, []), (21, .ireturn, 1, [])] := rfl
theorem cb_X4_run_2 : (blk md_X4_run 2).2 = [(22, .iconst 0, 1, []), (23, .istore_n 2, 1, [])] := rfl
theorem cb_X4_run_3 : (blk md_X4_run 3).2 = [(24, .iload_n 2, 1, []), (25, .aload_n 0, 1, []), (26, .getfield 235, 3, [4, 16]), (29, .if_icmp .ge 23, 3, [7])] := rfl
theorem cb_X4_run_4 : (blk md_X4_run 4).2 = [(32, .aload_n 0, 1, []), (33, .iload_n 2, 1, []), (34, .invokevirtual 268, 3, [0, 185, 2, 1]), (37, .ifCond .ge 9, 3, [6])] := rfl
theorem cb_X4_run_5 : (blk md_X4_run 5).2 = [(40, .sipush (-300), 3, []), (43, .iload_n 2, 1, []), (44, .isub, 1, []), (45, .ireturn, 1, [])] := rfl
theorem cb_X4_run_6 : (blk md_X4_run 6).2 = [(46, .iinc 2 1, 3, []), (49, .goto (-25), 3, [3])] := rfl
theorem cb_X4_run_7 : (blk md_X4_run 7).2 = [(52, .aload_n 0, 1, []), (53, .getfield 235, 3, [4, 16]), (56, .ireturn, 1, [])] := rfl
def md_X4_keep : List mB := [
  (false, [(0, .aload_n 0, 1, []), (1, .getfield 7, 3, [4, 0]), (4, .aload_n 0, 1, []), (5, .getfield 16, 3, [4, 2]), (8, .invokestatic 168, 3, [1, 102, 2, 0]), (11, .aload_n 0, 1, []), (12, .iconst 1, 1, []), (13, .putfield 271, 3, [4, 3, 1]), (16, .aload_n 0, 1, []), (17, .invokevirtual 212, 3, [0, 167, 1, 1]), (20, .ireturn, 1, [])])]
theorem cb_X4_keep_0 : (blk md_X4_keep 0).2 = [(0, .aload_n 0, 1, []), (1, .getfield 7, 3, [4, 0]), (4, .aload_n 0, 1, []), (5, .getfield 16, 3, [4, 2]), (8, .invokestatic 168, 3, [1, 102, 2, 0]), (11, .aload_n 0, 1, []), (12, .iconst 1, 1, []), (13, .putfield 271, 3, [4, 3, 1]), (16, .aload_n 0, 1, []), (17, .invokevirtual 212, 3, [0, 167, 1, 1]), (20, .ireturn, 1, [])] := rfl
def md_X4_again : List mB := [
  (false, [(0, .aload_n 0, 1, []), (1, .getfield 271, 3, [4, 3]), (4, .ifCond .ne 11, 3, [2])]),
  (false, [(7, .aload_n 0, 1, []), (8, .sipush (-1003), 3, []), (11, .invokevirtual 56, 3, [0, 101, 2, 1]), (14, .ireturn, 1, [])]),
  (false, [(15, .aload_n 0, 1, []), (16, .getfield 16, 3, [4, 2]), (19, .aload_n 0, 1, []), (20, .getfield 7, 3, [4, 0]), (23, .invokestatic 168, 3, [1, 102, 2, 0]), (26, .aload_n 0, 1, []), (27, .invokevirtual 212, 3, [0, 167, 1, 1]), (30, .ireturn, 1, [])])]
theorem cb_X4_again_0 : (blk md_X4_again 0).2 = [(0, .aload_n 0, 1, []), (1, .getfield 271, 3, [4, 3]), (4, .ifCond .ne 11, 3, [2])] := rfl
theorem cb_X4_again_1 : (blk md_X4_again 1).2 = [(7, .aload_n 0, 1, []), (8, .sipush (-1003), 3, []), (11, .invokevirtual 56, 3, [0, 101, 2, 1]), (14, .ireturn, 1, [])] := rfl
theorem cb_X4_again_2 : (blk md_X4_again 2).2 = [(15, .aload_n 0, 1, []), (16, .getfield 16, 3, [4, 2]), (19, .aload_n 0, 1, []), (20, .getfield 7, 3, [4, 0]), (23, .invokestatic 168, 3, [1, 102, 2, 0]), (26, .aload_n 0, 1, []), (27, .invokevirtual 212, 3, [0, 167, 1, 1]), (30, .ireturn, 1, [])] := rfl
def md_X4_count : List mB := [
  (false, [(0, .iconst 0, 1, []), (1, .istore_n 2, 1, []), (2, .iconst 0, 1, []), (3, .istore_n 3, 1, [])]),
  (false, [(4, .iload_n 3, 1, []), (5, .bipush 8, 2, []), (7, .if_icmp .ge 24, 3, [3])]),
  (false, [(10, .iload_n 2, 1, []), (11, .aload_n 0, 1, []), (12, .getfield 7, 3, [4, 0]), (15, .sipush 383, 3, []), (18, .iload_n 3, 1, []), (19, .iadd, 1, []), (20, .iaload, 1, []), (21, .iload_n 3, 1, []), (22, .ishl, 1, []), (23, .ior, 1, []), (24, .istore_n 2, 1, []), (25, .iinc 3 1, 3, []), (28, .goto (-24), 3, [1])]),
  (false, [(31, .iload_n 1, 1, []), (32, .tableswitch 75 0 5 #[40, 49, 51, 56, 65, 70], 40, [10, 4, 5, 6, 7, 8, 9])]),
  (false, [(72, .aload_n 0, 1, []), (73, .getfield 7, 3, [4, 0]), (76, .sipush 320, 3, []), (79, .iaload, 1, []), (80, .ireturn, 1, [])]),
  (false, [(81, .iload_n 2, 1, []), (82, .ireturn, 1, [])]),
  (false, [(83, .aload_n 0, 1, []), (84, .invokevirtual 212, 3, [0, 167, 1, 1]), (87, .ireturn, 1, [])]),
  (false, [(88, .aload_n 0, 1, []), (89, .getfield 7, 3, [4, 0]), (92, .sipush 399, 3, []), (95, .iaload, 1, []), (96, .ireturn, 1, [])]),
  (false, [(97, .aload_n 0, 1, []), (98, .getfield 226, 3, [4, 15]), (101, .ireturn, 1, [])]),
  (false, [(102, .aload_n 0, 1, []), (103, .getfield 179, 3, [4, 11]), (106, .ireturn, 1, [])]),
  (false, [(107, .aload_n 0, 1, []), (108, .sipush (-1001), 3, []), (111, .invokevirtual 56, 3, [0, 101, 2, 1]), (114, .ireturn, 1, [])])]
theorem cb_X4_count_0 : (blk md_X4_count 0).2 = [(0, .iconst 0, 1, []), (1, .istore_n 2, 1, []), (2, .iconst 0, 1, []), (3, .istore_n 3, 1, [])] := rfl
theorem cb_X4_count_1 : (blk md_X4_count 1).2 = [(4, .iload_n 3, 1, []), (5, .bipush 8, 2, []), (7, .if_icmp .ge 24, 3, [3])] := rfl
theorem cb_X4_count_2 : (blk md_X4_count 2).2 = [(10, .iload_n 2, 1, []), (11, .aload_n 0, 1, []), (12, .getfield 7, 3, [4, 0]), (15, .sipush 383, 3, []), (18, .iload_n 3, 1, []), (19, .iadd, 1, []), (20, .iaload, 1, []), (21, .iload_n 3, 1, []), (22, .ishl, 1, []), (23, .ior, 1, []), (24, .istore_n 2, 1, []), (25, .iinc 3 1, 3, []), (28, .goto (-24), 3, [1])] := rfl
theorem cb_X4_count_3 : (blk md_X4_count 3).2 = [(31, .iload_n 1, 1, []), (32, .tableswitch 75 0 5 #[40, 49, 51, 56, 65, 70], 40, [10, 4, 5, 6, 7, 8, 9])] := rfl
theorem cb_X4_count_4 : (blk md_X4_count 4).2 = [(72, .aload_n 0, 1, []), (73, .getfield 7, 3, [4, 0]), (76, .sipush 320, 3, []), (79, .iaload, 1, []), (80, .ireturn, 1, [])] := rfl
theorem cb_X4_count_5 : (blk md_X4_count 5).2 = [(81, .iload_n 2, 1, []), (82, .ireturn, 1, [])] := rfl
theorem cb_X4_count_6 : (blk md_X4_count 6).2 = [(83, .aload_n 0, 1, []), (84, .invokevirtual 212, 3, [0, 167, 1, 1]), (87, .ireturn, 1, [])] := rfl
theorem cb_X4_count_7 : (blk md_X4_count 7).2 = [(88, .aload_n 0, 1, []), (89, .getfield 7, 3, [4, 0]), (92, .sipush 399, 3, []), (95, .iaload, 1, []), (96, .ireturn, 1, [])] := rfl
theorem cb_X4_count_8 : (blk md_X4_count 8).2 = [(97, .aload_n 0, 1, []), (98, .getfield 226, 3, [4, 15]), (101, .ireturn, 1, [])] := rfl
theorem cb_X4_count_9 : (blk md_X4_count 9).2 = [(102, .aload_n 0, 1, []), (103, .getfield 179, 3, [4, 11]), (106, .ireturn, 1, [])] := rfl
theorem cb_X4_count_10 : (blk md_X4_count 10).2 = [(107, .aload_n 0, 1, []), (108, .sipush (-1001), 3, []), (111, .invokevirtual 56, 3, [0, 101, 2, 1]), (114, .ireturn, 1, [])] := rfl
def md_X4_refused : List mB := [
  (false, [(0, .iload_n 1, 1, []), (1, .iconst 0, 1, []), (2, .iconst 3, 1, []), (3, .invokestatic 37, 3, [1, 100, 3, 1]), (6, .ifCond .eq 12, 3, [2])]),
  (false, [(9, .aload_n 0, 1, []), (10, .getfield 19, 3, [4, 4]), (13, .iload_n 1, 1, []), (14, .iaload, 1, []), (15, .goto 10, 3, [3])]),
  (false, [(18, .aload_n 0, 1, []), (19, .sipush (-1001), 3, []), (22, .invokevirtual 56, 3, [0, 101, 2, 1])]),
  (false, [(25, .ireturn, 1, [])])]
theorem cb_X4_refused_0 : (blk md_X4_refused 0).2 = [(0, .iload_n 1, 1, []), (1, .iconst 0, 1, []), (2, .iconst 3, 1, []), (3, .invokestatic 37, 3, [1, 100, 3, 1]), (6, .ifCond .eq 12, 3, [2])] := rfl
theorem cb_X4_refused_1 : (blk md_X4_refused 1).2 = [(9, .aload_n 0, 1, []), (10, .getfield 19, 3, [4, 4]), (13, .iload_n 1, 1, []), (14, .iaload, 1, []), (15, .goto 10, 3, [3])] := rfl
theorem cb_X4_refused_2 : (blk md_X4_refused 2).2 = [(18, .aload_n 0, 1, []), (19, .sipush (-1001), 3, []), (22, .invokevirtual 56, 3, [0, 101, 2, 1])] := rfl
theorem cb_X4_refused_3 : (blk md_X4_refused 3).2 = [(25, .ireturn, 1, [])] := rfl
def md_J13_bitCount : List mB := [
  (false, [(0, .lload_n 0, 1, []), (1, .lload_n 0, 1, []), (2, .iconst 1, 1, []), (3, .lushr, 1, []), (4, .ldc2_w 314, 3, [6148914691236517205]), (7, .land, 1, []), (8, .lsub, 1, []), (9, .lstore_n 0, 1, []), (10, .lload_n 0, 1, []), (11, .ldc2_w 316, 3, [3689348814741910323]), (14, .land, 1, []), (15, .lload_n 0, 1, []), (16, .iconst 2, 1, []), (17, .lushr, 1, []), (18, .ldc2_w 316, 3, [3689348814741910323]), (21, .land, 1, []), (22, .ladd, 1, []), (23, .lstore_n 0, 1, []), (24, .lload_n 0, 1, []), (25, .lload_n 0, 1, []), (26, .iconst 4, 1, []), (27, .lushr, 1, []), (28, .ladd, 1, []), (29, .ldc2_w 318, 3, [1085102592571150095]), (32, .land, 1, []), (33, .lstore_n 0, 1, []), (34, .lload_n 0, 1, []), (35, .lload_n 0, 1, []), (36, .bipush 8, 2, []), (38, .lushr, 1, []), (39, .ladd, 1, []), (40, .lstore_n 0, 1, []), (41, .lload_n 0, 1, []), (42, .lload_n 0, 1, []), (43, .bipush 16, 2, []), (45, .lushr, 1, []), (46, .ladd, 1, []), (47, .lstore_n 0, 1, []), (48, .lload_n 0, 1, []), (49, .lload_n 0, 1, []), (50, .bipush 32, 2, []), (52, .lushr, 1, []), (53, .ladd, 1, []), (54, .lstore_n 0, 1, []), (55, .lload_n 0, 1, []), (56, .l2i, 1, []), (57, .bipush 127, 2, []), (59, .iand, 1, []), (60, .ireturn, 1, [])])]
theorem cb_J13_bitCount_0 : (blk md_J13_bitCount 0).2 = [(0, .lload_n 0, 1, []), (1, .lload_n 0, 1, []), (2, .iconst 1, 1, []), (3, .lushr, 1, []), (4, .ldc2_w 314, 3, [6148914691236517205]), (7, .land, 1, []), (8, .lsub, 1, []), (9, .lstore_n 0, 1, []), (10, .lload_n 0, 1, []), (11, .ldc2_w 316, 3, [3689348814741910323]), (14, .land, 1, []), (15, .lload_n 0, 1, []), (16, .iconst 2, 1, []), (17, .lushr, 1, []), (18, .ldc2_w 316, 3, [3689348814741910323]), (21, .land, 1, []), (22, .ladd, 1, []), (23, .lstore_n 0, 1, []), (24, .lload_n 0, 1, []), (25, .lload_n 0, 1, []), (26, .iconst 4, 1, []), (27, .lushr, 1, []), (28, .ladd, 1, []), (29, .ldc2_w 318, 3, [1085102592571150095]), (32, .land, 1, []), (33, .lstore_n 0, 1, []), (34, .lload_n 0, 1, []), (35, .lload_n 0, 1, []), (36, .bipush 8, 2, []), (38, .lushr, 1, []), (39, .ladd, 1, []), (40, .lstore_n 0, 1, []), (41, .lload_n 0, 1, []), (42, .lload_n 0, 1, []), (43, .bipush 16, 2, []), (45, .lushr, 1, []), (46, .ladd, 1, []), (47, .lstore_n 0, 1, []), (48, .lload_n 0, 1, []), (49, .lload_n 0, 1, []), (50, .bipush 32, 2, []), (52, .lushr, 1, []), (53, .ladd, 1, []), (54, .lstore_n 0, 1, []), (55, .lload_n 0, 1, []), (56, .l2i, 1, []), (57, .bipush 127, 2, []), (59, .iand, 1, []), (60, .ireturn, 1, [])] := rfl
def md_J7_rangeCheck : List mB := [
  (false, [(0, .iload_n 1, 1, []), (1, .iload_n 2, 1, []), (2, .if_icmp .le 44, 3, [2])]),
  (false, [(5, .nop, 1, [7])]),
  (false, [(46, .iload_n 1, 1, []), (47, .ifCond .ge 12, 3, [4])]),
  (false, [(50, .nop, 1, [7])]),
  (false, [(59, .iload_n 2, 1, []), (60, .iload_n 0, 1, []), (61, .if_icmp .le 12, 3, [6])]),
  (false, [(64, .nop, 1, [7])]),
  (false, [(73, .return_, 1, [])])]
theorem cb_J7_rangeCheck_0 : (blk md_J7_rangeCheck 0).2 = [(0, .iload_n 1, 1, []), (1, .iload_n 2, 1, []), (2, .if_icmp .le 44, 3, [2])] := rfl
theorem cb_J7_rangeCheck_1 : (blk md_J7_rangeCheck 1).2 = [(5, .nop, 1, [7])] := rfl
theorem cb_J7_rangeCheck_2 : (blk md_J7_rangeCheck 2).2 = [(46, .iload_n 1, 1, []), (47, .ifCond .ge 12, 3, [4])] := rfl
theorem cb_J7_rangeCheck_3 : (blk md_J7_rangeCheck 3).2 = [(50, .nop, 1, [7])] := rfl
theorem cb_J7_rangeCheck_4 : (blk md_J7_rangeCheck 4).2 = [(59, .iload_n 2, 1, []), (60, .iload_n 0, 1, []), (61, .if_icmp .le 12, 3, [6])] := rfl
theorem cb_J7_rangeCheck_5 : (blk md_J7_rangeCheck 5).2 = [(64, .nop, 1, [7])] := rfl
theorem cb_J7_rangeCheck_6 : (blk md_J7_rangeCheck 6).2 = [(73, .return_, 1, [])] := rfl
def md_J7_fill2 : List mB := [
  (false, [(0, .iconst 0, 1, []), (1, .istore_n 2, 1, []), (2, .aload_n 0, 1, []), (3, .arraylength, 1, []), (4, .istore_n 3, 1, [])]),
  (false, [(5, .iload_n 2, 1, []), (6, .iload_n 3, 1, []), (7, .if_icmp .ge 13, 3, [3])]),
  (false, [(10, .aload_n 0, 1, []), (11, .iload_n 2, 1, []), (12, .iload_n 1, 1, []), (13, .iastore, 1, []), (14, .iinc 2 1, 3, []), (17, .goto (-12), 3, [1])]),
  (false, [(20, .return_, 1, [])])]
theorem cb_J7_fill2_0 : (blk md_J7_fill2 0).2 = [(0, .iconst 0, 1, []), (1, .istore_n 2, 1, []), (2, .aload_n 0, 1, []), (3, .arraylength, 1, []), (4, .istore_n 3, 1, [])] := rfl
theorem cb_J7_fill2_1 : (blk md_J7_fill2 1).2 = [(5, .iload_n 2, 1, []), (6, .iload_n 3, 1, []), (7, .if_icmp .ge 13, 3, [3])] := rfl
theorem cb_J7_fill2_2 : (blk md_J7_fill2 2).2 = [(10, .aload_n 0, 1, []), (11, .iload_n 2, 1, []), (12, .iload_n 1, 1, []), (13, .iastore, 1, []), (14, .iinc 2 1, 3, []), (17, .goto (-12), 3, [1])] := rfl
theorem cb_J7_fill2_3 : (blk md_J7_fill2 3).2 = [(20, .return_, 1, [])] := rfl
def md_J7_fill4 : List mB := [
  (false, [(0, .aload_n 0, 1, []), (1, .arraylength, 1, []), (2, .iload_n 1, 1, []), (3, .iload_n 2, 1, []), (4, .invokestatic 13, 3, [1, 192, 3, 0]), (7, .iload_n 1, 1, []), (8, .istore 4, 2, [])]),
  (false, [(10, .iload 4, 2, []), (12, .iload_n 2, 1, []), (13, .if_icmp .ge 14, 3, [3])]),
  (false, [(16, .aload_n 0, 1, []), (17, .iload 4, 2, []), (19, .iload_n 3, 1, []), (20, .iastore, 1, []), (21, .iinc 4 1, 3, []), (24, .goto (-14), 3, [1])]),
  (false, [(27, .return_, 1, [])])]
theorem cb_J7_fill4_0 : (blk md_J7_fill4 0).2 = [(0, .aload_n 0, 1, []), (1, .arraylength, 1, []), (2, .iload_n 1, 1, []), (3, .iload_n 2, 1, []), (4, .invokestatic 13, 3, [1, 192, 3, 0]), (7, .iload_n 1, 1, []), (8, .istore 4, 2, [])] := rfl
theorem cb_J7_fill4_1 : (blk md_J7_fill4 1).2 = [(10, .iload 4, 2, []), (12, .iload_n 2, 1, []), (13, .if_icmp .ge 14, 3, [3])] := rfl
theorem cb_J7_fill4_2 : (blk md_J7_fill4 2).2 = [(16, .aload_n 0, 1, []), (17, .iload 4, 2, []), (19, .iload_n 3, 1, []), (20, .iastore, 1, []), (21, .iinc 4 1, 3, []), (24, .goto (-14), 3, [1])] := rfl
theorem cb_J7_fill4_3 : (blk md_J7_fill4 3).2 = [(27, .return_, 1, [])] := rfl
end
section
/-! ===== what each instruction does ===== -/
theorem denB_n {M : mK} {sL : Nat} {post : mP} {L : Nat → mC} {b : Nat} : denB M sL post L b [] = L (b + 1) := rfl
theorem wpc_s {M : mK} {sL : Nat} {code : List mB} {post : mP} {cut : List Bool} {k b : Nat} : wpc M sL code post cut (k + 1) b = wsl M sL code post (wpc M sL code post cut k) b (cut.getD b false) (blk code b).2 := rfl
theorem wsl_t {M : mK} {sL : Nat} {code : List mB} {post : mP} {L : Nat → mC} {b : Nat} {c : List mE} : wsl M sL code post L b true c = EX M sL code post b := rfl
theorem wsl_f {M : mK} {sL : Nat} {code : List mB} {post : mP} {L : Nat → mC} {b : Nat} {c : List mE} : wsl M sL code post L b false c = denB M sL post L b c := rfl
theorem gD_0 {a d : Bool} {l : List Bool} : (a :: l).getD 0 d = a := rfl
theorem gD_s {a d : Bool} {l : List Bool} {n : Nat} : (a :: l).getD (n + 1) d = l.getD n d := rfl
theorem pI_s {p : Int32 → mH → Prop} {x : Int32} {h : mH} : pI p (some (.inl x)) h = p x h := rfl
theorem pG_s {p : Int64 → mH → Prop} {x : Int64} {h : mH} : pG p (some (.inr (.inl x))) h = p x h := rfl
theorem pU_n {p : mH → Prop} {h : mH} : pU p none h = p h := rfl
theorem ev_aload_n_1 {M : mK} {sL : Nat} {post : mP} {L : Nat → mC} {b pc n : Nat} {t : List Nat} {c : List mE} {ls : mL} {st : List mV} {h : mH} {a0 : Option mV} {l : mL} {x : mRef} : denB M sL post L b ((pc, .aload_n 1, n, t) :: c) (a0 :: some (.inr (.inr x)) :: l) st h = (denB M sL post L b c (a0 :: some (.inr (.inr x)) :: l) (.inr (.inr x) :: st) h) := rfl
theorem ev_getf_0_0 {M : mK} {sL : Nat} {post : mP} {L : Nat → mC} {b pc n : Nat} {t : List Nat} {c : List mE} {ls : mL} {st : List mV} {h : mH} {j : Nat} {i : Fin 3} : denB M sL post L b ((pc, .getfield j, n, [0, 0]) :: c) ls ((.inr (.inr (.inl (i, 0)))) :: st) h = (denB M sL post L b c ls (.inr (.inr (.inl (i, 1))) :: st) h) := rfl
theorem ev_iconst_0 {M : mK} {sL : Nat} {post : mP} {L : Nat → mC} {b pc n : Nat} {t : List Nat} {c : List mE} {ls : mL} {st : List mV} {h : mH}  : denB M sL post L b ((pc, .iconst 0, n, t) :: c) ls st h = (denB M sL post L b c ls (.inl (nI 0) :: st) h) := rfl
theorem ev_aload_n_0 {M : mK} {sL : Nat} {post : mP} {L : Nat → mC} {b pc n : Nat} {t : List Nat} {c : List mE} {ls : mL} {st : List mV} {h : mH} {l : mL} {x : mRef} : denB M sL post L b ((pc, .aload_n 0, n, t) :: c) (some (.inr (.inr x)) :: l) st h = (denB M sL post L b c (some (.inr (.inr x)) :: l) (.inr (.inr x) :: st) h) := rfl
theorem ev_alen_m1 {M : mK} {sL : Nat} {post : mP} {L : Nat → mC} {b pc n : Nat} {t : List Nat} {c : List mE} {ls : mL} {st : List mV} {h : mH} {i : Fin 3} : denB M sL post L b ((pc, .arraylength, n, t) :: c) ls ((.inr (.inr (.inl (i, 1)))) :: st) h = (denB M sL post L b c ls (.inl (nI 256) :: st) h) := rfl
theorem ev_alen_m2 {M : mK} {sL : Nat} {post : mP} {L : Nat → mC} {b pc n : Nat} {t : List Nat} {c : List mE} {ls : mL} {st : List mV} {h : mH} {i : Fin 3} : denB M sL post L b ((pc, .arraylength, n, t) :: c) ls ((.inr (.inr (.inl (i, 2)))) :: st) h = (denB M sL post L b c ls (.inl (nI 64) :: st) h) := rfl
theorem ev_alen_m3 {M : mK} {sL : Nat} {post : mP} {L : Nat → mC} {b pc n : Nat} {t : List Nat} {c : List mE} {ls : mL} {st : List mV} {h : mH} {i : Fin 3} : denB M sL post L b ((pc, .arraylength, n, t) :: c) ls ((.inr (.inr (.inl (i, 3)))) :: st) h = (denB M sL post L b c ls (.inl (nI 56) :: st) h) := rfl
theorem ev_alen_m4 {M : mK} {sL : Nat} {post : mP} {L : Nat → mC} {b pc n : Nat} {t : List Nat} {c : List mE} {ls : mL} {st : List mV} {h : mH} {i : Fin 3} : denB M sL post L b ((pc, .arraylength, n, t) :: c) ls ((.inr (.inr (.inl (i, 4)))) :: st) h = (denB M sL post L b c ls (.inl (nI 6) :: st) h) := rfl
theorem ev_alen_m5 {M : mK} {sL : Nat} {post : mP} {L : Nat → mC} {b pc n : Nat} {t : List Nat} {c : List mE} {ls : mL} {st : List mV} {h : mH} {i : Fin 3} : denB M sL post L b ((pc, .arraylength, n, t) :: c) ls ((.inr (.inr (.inl (i, 5)))) :: st) h = (denB M sL post L b c ls (.inl (nI 8) :: st) h) := rfl
theorem ev_alen_m6 {M : mK} {sL : Nat} {post : mP} {L : Nat → mC} {b pc n : Nat} {t : List Nat} {c : List mE} {ls : mL} {st : List mV} {h : mH} {i : Fin 3} : denB M sL post L b ((pc, .arraylength, n, t) :: c) ls ((.inr (.inr (.inl (i, 6)))) :: st) h = (denB M sL post L b c ls (.inl (nI 64) :: st) h) := rfl
theorem ev_getf_0_1 {M : mK} {sL : Nat} {post : mP} {L : Nat → mC} {b pc n : Nat} {t : List Nat} {c : List mE} {ls : mL} {st : List mV} {h : mH} {j : Nat} {i : Fin 3} : denB M sL post L b ((pc, .getfield j, n, [0, 1]) :: c) ls ((.inr (.inr (.inl (i, 0)))) :: st) h = (denB M sL post L b c ls (.inr (.inr (.inl (i, 2))) :: st) h) := rfl
theorem ev_getf_0_2 {M : mK} {sL : Nat} {post : mP} {L : Nat → mC} {b pc n : Nat} {t : List Nat} {c : List mE} {ls : mL} {st : List mV} {h : mH} {j : Nat} {i : Fin 3} : denB M sL post L b ((pc, .getfield j, n, [0, 2]) :: c) ls ((.inr (.inr (.inl (i, 0)))) :: st) h = (denB M sL post L b c ls (.inr (.inr (.inl (i, 3))) :: st) h) := rfl
theorem ev_getf_0_3 {M : mK} {sL : Nat} {post : mP} {L : Nat → mC} {b pc n : Nat} {t : List Nat} {c : List mE} {ls : mL} {st : List mV} {h : mH} {j : Nat} {i : Fin 3} : denB M sL post L b ((pc, .getfield j, n, [0, 3]) :: c) ls ((.inr (.inr (.inl (i, 0)))) :: st) h = (denB M sL post L b c ls (.inr (.inr (.inl (i, 4))) :: st) h) := rfl
theorem ev_getf_0_4 {M : mK} {sL : Nat} {post : mP} {L : Nat → mC} {b pc n : Nat} {t : List Nat} {c : List mE} {ls : mL} {st : List mV} {h : mH} {j : Nat} {i : Fin 3} : denB M sL post L b ((pc, .getfield j, n, [0, 4]) :: c) ls ((.inr (.inr (.inl (i, 0)))) :: st) h = (denB M sL post L b c ls (.inr (.inr (.inl (i, 5))) :: st) h) := rfl
theorem ev_getf_0_5 {M : mK} {sL : Nat} {post : mP} {L : Nat → mC} {b pc n : Nat} {t : List Nat} {c : List mE} {ls : mL} {st : List mV} {h : mH} {j : Nat} {i : Fin 3} : denB M sL post L b ((pc, .getfield j, n, [0, 5]) :: c) ls ((.inr (.inr (.inl (i, 0)))) :: st) h = (denB M sL post L b c ls (.inl (h (.inl (i, 0)) 5) :: st) h) := rfl
theorem ev_putf_0_5 {M : mK} {sL : Nat} {post : mP} {L : Nat → mC} {b pc n : Nat} {t : List Nat} {c : List mE} {ls : mL} {st : List mV} {h : mH} {j : Nat} {i : Fin 3} {v : Int32} : denB M sL post L b ((pc, .putfield j, n, [0, 5]) :: c) ls (.inl v :: (.inr (.inr (.inl (i, 0)))) :: st) h = (denB M sL post L b c ls st (hup h (.inl (i, 0)) 5 v)) := rfl
theorem ev_getf_0_6 {M : mK} {sL : Nat} {post : mP} {L : Nat → mC} {b pc n : Nat} {t : List Nat} {c : List mE} {ls : mL} {st : List mV} {h : mH} {j : Nat} {i : Fin 3} : denB M sL post L b ((pc, .getfield j, n, [0, 6]) :: c) ls ((.inr (.inr (.inl (i, 0)))) :: st) h = (denB M sL post L b c ls (.inl (h (.inl (i, 0)) 6) :: st) h) := rfl
theorem ev_putf_0_6 {M : mK} {sL : Nat} {post : mP} {L : Nat → mC} {b pc n : Nat} {t : List Nat} {c : List mE} {ls : mL} {st : List mV} {h : mH} {j : Nat} {i : Fin 3} {v : Int32} : denB M sL post L b ((pc, .putfield j, n, [0, 6]) :: c) ls (.inl v :: (.inr (.inr (.inl (i, 0)))) :: st) h = (denB M sL post L b c ls st (hup h (.inl (i, 0)) 6 v)) := rfl
theorem ev_ret {M : mK} {sL : Nat} {post : mP} {L : Nat → mC} {b pc n : Nat} {t : List Nat} {c : List mE} {ls : mL} {st : List mV} {h : mH}  : denB M sL post L b ((pc, .return_, n, t) :: c) ls [] h = (post none h) := rfl
theorem ev_iload_n_1 {M : mK} {sL : Nat} {post : mP} {L : Nat → mC} {b pc n : Nat} {t : List Nat} {c : List mE} {ls : mL} {st : List mV} {h : mH} {a0 : Option mV} {l : mL} {x : Int32} : denB M sL post L b ((pc, .iload_n 1, n, t) :: c) (a0 :: some (.inl x) :: l) st h = (denB M sL post L b c (a0 :: some (.inl x) :: l) (.inl x :: st) h) := rfl
theorem ev_if_lt {M : mK} {sL : Nat} {post : mP} {L : Nat → mC} {b pc n : Nat} {t : List Nat} {c : List mE} {ls : mL} {st : List mV} {h : mH} {o : Int} {k : Nat} {x : Int32} : denB M sL post L b ((pc, .ifCond .lt o, n, [k]) :: c) ls (.inl x :: st) h = ((x < 0 → L k ls st h) ∧ (¬ x < 0 → L (b + 1) ls st h)) := rfl
theorem ev_icmp_ge {M : mK} {sL : Nat} {post : mP} {L : Nat → mC} {b pc n : Nat} {t : List Nat} {c : List mE} {ls : mL} {st : List mV} {h : mH} {o : Int} {k : Nat} {x y : Int32} : denB M sL post L b ((pc, .if_icmp .ge o, n, [k]) :: c) ls (.inl y :: .inl x :: st) h = ((y ≤ x → L k ls st h) ∧ (¬ y ≤ x → L (b + 1) ls st h)) := rfl
theorem ev_bipush_6 {M : mK} {sL : Nat} {post : mP} {L : Nat → mC} {b pc n : Nat} {t : List Nat} {c : List mE} {ls : mL} {st : List mV} {h : mH}  : denB M sL post L b ((pc, .bipush 6, n, t) :: c) ls st h = (denB M sL post L b c ls (.inl (nI 6) :: st) h) := rfl
theorem ev_iconst_1 {M : mK} {sL : Nat} {post : mP} {L : Nat → mC} {b pc n : Nat} {t : List Nat} {c : List mE} {ls : mL} {st : List mV} {h : mH}  : denB M sL post L b ((pc, .iconst 1, n, t) :: c) ls st h = (denB M sL post L b c ls (.inl (nI 1) :: st) h) := rfl
theorem ev_goto {M : mK} {sL : Nat} {post : mP} {L : Nat → mC} {b pc n : Nat} {t : List Nat} {c : List mE} {ls : mL} {st : List mV} {h : mH} {o : Int} {k : Nat} : denB M sL post L b ((pc, .goto o, n, [k]) :: c) ls st h = (L k ls st h) := rfl
theorem ev_zret {M : mK} {sL : Nat} {post : mP} {L : Nat → mC} {b pc n : Nat} {t : List Nat} {c : List mE} {ls : mL} {st : List mV} {h : mH} {x : Int32} {u : Nat} : denB M sL post L b ((pc, .ireturn, n, [u]) :: c) ls [.inl x] h = (bz x ∧ post (some (.inl x)) h) := rfl
theorem ev_iconst_m1 {M : mK} {sL : Nat} {post : mP} {L : Nat → mC} {b pc n : Nat} {t : List Nat} {c : List mE} {ls : mL} {st : List mV} {h : mH}  : denB M sL post L b ((pc, .iconst (-1), n, t) :: c) ls st h = (denB M sL post L b c ls (.inl (-1 : Int32) :: st) h) := rfl
theorem ev_icmp_eq {M : mK} {sL : Nat} {post : mP} {L : Nat → mC} {b pc n : Nat} {t : List Nat} {c : List mE} {ls : mL} {st : List mV} {h : mH} {o : Int} {k : Nat} {x y : Int32} : denB M sL post L b ((pc, .if_icmp .eq o, n, [k]) :: c) ls (.inl y :: .inl x :: st) h = ((x = y → L k ls st h) ∧ (¬ x = y → L (b + 1) ls st h)) := rfl
theorem ev_callv_2_0_1 {M : mK} {sL : Nat} {post : mP} {L : Nat → mC} {b pc n : Nat} {t : List Nat} {c : List mE} {ls : mL} {st : List mV} {h : mH} {j u y : Nat} {v0 v1 : mV} : denB M sL post L b ((pc, .invokevirtual j, n, [u, y, 2, 1]) :: c) ls [v1, v0] h = (mI M y [v0, v1] h (fun x h' => denB M sL post L b c ls [.inl x] h')) := rfl
theorem ev_callv_2_1_1 {M : mK} {sL : Nat} {post : mP} {L : Nat → mC} {b pc n : Nat} {t : List Nat} {c : List mE} {ls : mL} {st : List mV} {h : mH} {j u y : Nat} {v0 v1 w0 : mV} : denB M sL post L b ((pc, .invokevirtual j, n, [u, y, 2, 1]) :: c) ls [v1, v0, w0] h = (mI M y [v0, v1] h (fun x h' => denB M sL post L b c ls [.inl x, w0] h')) := rfl
theorem ev_callv_2_2_1 {M : mK} {sL : Nat} {post : mP} {L : Nat → mC} {b pc n : Nat} {t : List Nat} {c : List mE} {ls : mL} {st : List mV} {h : mH} {j u y : Nat} {v0 v1 w0 w1 : mV} : denB M sL post L b ((pc, .invokevirtual j, n, [u, y, 2, 1]) :: c) ls [v1, v0, w0, w1] h = (mI M y [v0, v1] h (fun x h' => denB M sL post L b c ls [.inl x, w0, w1] h')) := rfl
theorem ev_callv_2_3_1 {M : mK} {sL : Nat} {post : mP} {L : Nat → mC} {b pc n : Nat} {t : List Nat} {c : List mE} {ls : mL} {st : List mV} {h : mH} {j u y : Nat} {v0 v1 w0 w1 w2 : mV} : denB M sL post L b ((pc, .invokevirtual j, n, [u, y, 2, 1]) :: c) ls [v1, v0, w0, w1, w2] h = (mI M y [v0, v1] h (fun x h' => denB M sL post L b c ls [.inl x, w0, w1, w2] h')) := rfl
theorem ev_callv_2_4_1 {M : mK} {sL : Nat} {post : mP} {L : Nat → mC} {b pc n : Nat} {t : List Nat} {c : List mE} {ls : mL} {st : List mV} {h : mH} {j u y : Nat} {v0 v1 w0 w1 w2 w3 : mV} : denB M sL post L b ((pc, .invokevirtual j, n, [u, y, 2, 1]) :: c) ls [v1, v0, w0, w1, w2, w3] h = (mI M y [v0, v1] h (fun x h' => denB M sL post L b c ls [.inl x, w0, w1, w2, w3] h')) := rfl
theorem ev_if_eq {M : mK} {sL : Nat} {post : mP} {L : Nat → mC} {b pc n : Nat} {t : List Nat} {c : List mE} {ls : mL} {st : List mV} {h : mH} {o : Int} {k : Nat} {x : Int32} : denB M sL post L b ((pc, .ifCond .eq o, n, [k]) :: c) ls (.inl x :: st) h = ((x = 0 → L k ls st h) ∧ (¬ x = 0 → L (b + 1) ls st h)) := rfl
theorem ev_bipush_8 {M : mK} {sL : Nat} {post : mP} {L : Nat → mC} {b pc n : Nat} {t : List Nat} {c : List mE} {ls : mL} {st : List mV} {h : mH}  : denB M sL post L b ((pc, .bipush 8, n, t) :: c) ls st h = (denB M sL post L b c ls (.inl (nI 8) :: st) h) := rfl
theorem ev_iald_m1 {M : mK} {sL : Nat} {post : mP} {L : Nat → mC} {b pc n : Nat} {t : List Nat} {c : List mE} {ls : mL} {st : List mV} {h : mH} {i : Fin 3} {x : Int32} : denB M sL post L b ((pc, .iaload, n, t) :: c) ls (.inl x :: (.inr (.inr (.inl (i, 1)))) :: st) h = (vp_in x 256 ∧ denB M sL post L b c ls (.inl (h (.inl (i, 1)) x.toNatClampNeg) :: st) h) := rfl
theorem ev_iald_m2 {M : mK} {sL : Nat} {post : mP} {L : Nat → mC} {b pc n : Nat} {t : List Nat} {c : List mE} {ls : mL} {st : List mV} {h : mH} {i : Fin 3} {x : Int32} : denB M sL post L b ((pc, .iaload, n, t) :: c) ls (.inl x :: (.inr (.inr (.inl (i, 2)))) :: st) h = (vp_in x 64 ∧ denB M sL post L b c ls (.inl (h (.inl (i, 2)) x.toNatClampNeg) :: st) h) := rfl
theorem ev_iald_m3 {M : mK} {sL : Nat} {post : mP} {L : Nat → mC} {b pc n : Nat} {t : List Nat} {c : List mE} {ls : mL} {st : List mV} {h : mH} {i : Fin 3} {x : Int32} : denB M sL post L b ((pc, .iaload, n, t) :: c) ls (.inl x :: (.inr (.inr (.inl (i, 3)))) :: st) h = (vp_in x 56 ∧ denB M sL post L b c ls (.inl (h (.inl (i, 3)) x.toNatClampNeg) :: st) h) := rfl
theorem ev_iald_m4 {M : mK} {sL : Nat} {post : mP} {L : Nat → mC} {b pc n : Nat} {t : List Nat} {c : List mE} {ls : mL} {st : List mV} {h : mH} {i : Fin 3} {x : Int32} : denB M sL post L b ((pc, .iaload, n, t) :: c) ls (.inl x :: (.inr (.inr (.inl (i, 4)))) :: st) h = (vp_in x 6 ∧ denB M sL post L b c ls (.inl (h (.inl (i, 4)) x.toNatClampNeg) :: st) h) := rfl
theorem ev_iald_m5 {M : mK} {sL : Nat} {post : mP} {L : Nat → mC} {b pc n : Nat} {t : List Nat} {c : List mE} {ls : mL} {st : List mV} {h : mH} {i : Fin 3} {x : Int32} : denB M sL post L b ((pc, .iaload, n, t) :: c) ls (.inl x :: (.inr (.inr (.inl (i, 5)))) :: st) h = (vp_in x 8 ∧ denB M sL post L b c ls (.inl (h (.inl (i, 5)) x.toNatClampNeg) :: st) h) := rfl
theorem ev_iald_m6 {M : mK} {sL : Nat} {post : mP} {L : Nat → mC} {b pc n : Nat} {t : List Nat} {c : List mE} {ls : mL} {st : List mV} {h : mH} {i : Fin 3} {x : Int32} : denB M sL post L b ((pc, .iaload, n, t) :: c) ls (.inl x :: (.inr (.inr (.inl (i, 6)))) :: st) h = (vp_in x 64 ∧ denB M sL post L b c ls (.inl (h (.inl (i, 6)) x.toNatClampNeg) :: st) h) := rfl
theorem ev_istore_n_2 {M : mK} {sL : Nat} {post : mP} {L : Nat → mC} {b pc n : Nat} {t : List Nat} {c : List mE} {ls : mL} {st : List mV} {h : mH} {a0 a1 : Option mV} {l : mL} {y : Option mV} {x : Int32} : denB M sL post L b ((pc, .istore_n 2, n, t) :: c) (a0 :: a1 :: y :: l) (.inl x :: st) h = (denB M sL post L b c (a0 :: a1 :: some (.inl x) :: l) st h) := rfl
theorem ev_iload_n_2 {M : mK} {sL : Nat} {post : mP} {L : Nat → mC} {b pc n : Nat} {t : List Nat} {c : List mE} {ls : mL} {st : List mV} {h : mH} {a0 a1 : Option mV} {l : mL} {x : Int32} : denB M sL post L b ((pc, .iload_n 2, n, t) :: c) (a0 :: a1 :: some (.inl x) :: l) st h = (denB M sL post L b c (a0 :: a1 :: some (.inl x) :: l) (.inl x :: st) h) := rfl
theorem ev_icmp_lt {M : mK} {sL : Nat} {post : mP} {L : Nat → mC} {b pc n : Nat} {t : List Nat} {c : List mE} {ls : mL} {st : List mV} {h : mH} {o : Int} {k : Nat} {x y : Int32} : denB M sL post L b ((pc, .if_icmp .lt o, n, [k]) :: c) ls (.inl y :: .inl x :: st) h = ((x < y → L k ls st h) ∧ (¬ x < y → L (b + 1) ls st h)) := rfl
theorem ev_iret {M : mK} {sL : Nat} {post : mP} {L : Nat → mC} {b pc n : Nat} {t : List Nat} {c : List mE} {ls : mL} {st : List mV} {h : mH} {x : Int32} : denB M sL post L b ((pc, .ireturn, n, []) :: c) ls [.inl x] h = (post (some (.inl x)) h) := rfl
theorem ev_iast_m1 {M : mK} {sL : Nat} {post : mP} {L : Nat → mC} {b pc n : Nat} {t : List Nat} {c : List mE} {ls : mL} {st : List mV} {h : mH} {i : Fin 3} {x v : Int32} : denB M sL post L b ((pc, .iastore, n, t) :: c) ls (.inl v :: .inl x :: (.inr (.inr (.inl (i, 1)))) :: st) h = (vp_in x 256 ∧ denB M sL post L b c ls st (hup h (.inl (i, 1)) x.toNatClampNeg v)) := rfl
theorem ev_iast_m2 {M : mK} {sL : Nat} {post : mP} {L : Nat → mC} {b pc n : Nat} {t : List Nat} {c : List mE} {ls : mL} {st : List mV} {h : mH} {i : Fin 3} {x v : Int32} : denB M sL post L b ((pc, .iastore, n, t) :: c) ls (.inl v :: .inl x :: (.inr (.inr (.inl (i, 2)))) :: st) h = (vp_in x 64 ∧ denB M sL post L b c ls st (hup h (.inl (i, 2)) x.toNatClampNeg v)) := rfl
theorem ev_iast_m3 {M : mK} {sL : Nat} {post : mP} {L : Nat → mC} {b pc n : Nat} {t : List Nat} {c : List mE} {ls : mL} {st : List mV} {h : mH} {i : Fin 3} {x v : Int32} : denB M sL post L b ((pc, .iastore, n, t) :: c) ls (.inl v :: .inl x :: (.inr (.inr (.inl (i, 3)))) :: st) h = (vp_in x 56 ∧ denB M sL post L b c ls st (hup h (.inl (i, 3)) x.toNatClampNeg v)) := rfl
theorem ev_iast_m4 {M : mK} {sL : Nat} {post : mP} {L : Nat → mC} {b pc n : Nat} {t : List Nat} {c : List mE} {ls : mL} {st : List mV} {h : mH} {i : Fin 3} {x v : Int32} : denB M sL post L b ((pc, .iastore, n, t) :: c) ls (.inl v :: .inl x :: (.inr (.inr (.inl (i, 4)))) :: st) h = (vp_in x 6 ∧ denB M sL post L b c ls st (hup h (.inl (i, 4)) x.toNatClampNeg v)) := rfl
theorem ev_iast_m5 {M : mK} {sL : Nat} {post : mP} {L : Nat → mC} {b pc n : Nat} {t : List Nat} {c : List mE} {ls : mL} {st : List mV} {h : mH} {i : Fin 3} {x v : Int32} : denB M sL post L b ((pc, .iastore, n, t) :: c) ls (.inl v :: .inl x :: (.inr (.inr (.inl (i, 5)))) :: st) h = (vp_in x 8 ∧ denB M sL post L b c ls st (hup h (.inl (i, 5)) x.toNatClampNeg v)) := rfl
theorem ev_iast_m6 {M : mK} {sL : Nat} {post : mP} {L : Nat → mC} {b pc n : Nat} {t : List Nat} {c : List mE} {ls : mL} {st : List mV} {h : mH} {i : Fin 3} {x v : Int32} : denB M sL post L b ((pc, .iastore, n, t) :: c) ls (.inl v :: .inl x :: (.inr (.inr (.inl (i, 6)))) :: st) h = (vp_in x 64 ∧ denB M sL post L b c ls st (hup h (.inl (i, 6)) x.toNatClampNeg v)) := rfl
theorem ev_dup {M : mK} {sL : Nat} {post : mP} {L : Nat → mC} {b pc n : Nat} {t : List Nat} {c : List mE} {ls : mL} {st : List mV} {h : mH} {x : Int32} : denB M sL post L b ((pc, .dup, n, t) :: c) ls (.inl x :: st) h = (denB M sL post L b c ls (.inl x :: .inl x :: st) h) := rfl
theorem ev_dupr {M : mK} {sL : Nat} {post : mP} {L : Nat → mC} {b pc n : Nat} {t : List Nat} {c : List mE} {ls : mL} {st : List mV} {h : mH} {x : mRef} : denB M sL post L b ((pc, .dup, n, t) :: c) ls (.inr (.inr x) :: st) h = (denB M sL post L b c ls (.inr (.inr x) :: .inr (.inr x) :: st) h) := rfl
theorem ev_iadd {M : mK} {sL : Nat} {post : mP} {L : Nat → mC} {b pc n : Nat} {t : List Nat} {c : List mE} {ls : mL} {st : List mV} {h : mH} {x y : Int32} : denB M sL post L b ((pc, .iadd, n, t) :: c) ls (.inl y :: .inl x :: st) h = (denB M sL post L b c ls (.inl (x + y) :: st) h) := rfl
theorem ev_istore_n_1 {M : mK} {sL : Nat} {post : mP} {L : Nat → mC} {b pc n : Nat} {t : List Nat} {c : List mE} {ls : mL} {st : List mV} {h : mH} {a0 : Option mV} {l : mL} {y : Option mV} {x : Int32} : denB M sL post L b ((pc, .istore_n 1, n, t) :: c) (a0 :: y :: l) (.inl x :: st) h = (denB M sL post L b c (a0 :: some (.inl x) :: l) st h) := rfl
theorem ev_ishl {M : mK} {sL : Nat} {post : mP} {L : Nat → mC} {b pc n : Nat} {t : List Nat} {c : List mE} {ls : mL} {st : List mV} {h : mH} {x y : Int32} : denB M sL post L b ((pc, .ishl, n, t) :: c) ls (.inl y :: .inl x :: st) h = (denB M sL post L b c ls (.inl (x <<< (y &&& 31)) :: st) h) := rfl
theorem ev_ior {M : mK} {sL : Nat} {post : mP} {L : Nat → mC} {b pc n : Nat} {t : List Nat} {c : List mE} {ls : mL} {st : List mV} {h : mH} {x y : Int32} : denB M sL post L b ((pc, .ior, n, t) :: c) ls (.inl y :: .inl x :: st) h = (denB M sL post L b c ls (.inl (x ||| y) :: st) h) := rfl
theorem ev_iinc_2_1 {M : mK} {sL : Nat} {post : mP} {L : Nat → mC} {b pc n : Nat} {t : List Nat} {c : List mE} {ls : mL} {st : List mV} {h : mH} {a0 a1 : Option mV} {l : mL} {x : Int32} : denB M sL post L b ((pc, .iinc 2 1, n, t) :: c) (a0 :: a1 :: some (.inl x) :: l) st h = (denB M sL post L b c (a0 :: a1 :: some (.inl (x + (nI 1))) :: l) st h) := rfl
theorem ev_icmp_ne {M : mK} {sL : Nat} {post : mP} {L : Nat → mC} {b pc n : Nat} {t : List Nat} {c : List mE} {ls : mL} {st : List mV} {h : mH} {o : Int} {k : Nat} {x y : Int32} : denB M sL post L b ((pc, .if_icmp .ne o, n, [k]) :: c) ls (.inl y :: .inl x :: st) h = ((¬ x = y → L k ls st h) ∧ (x = y → L (b + 1) ls st h)) := rfl
theorem ev_iinc_1_1 {M : mK} {sL : Nat} {post : mP} {L : Nat → mC} {b pc n : Nat} {t : List Nat} {c : List mE} {ls : mL} {st : List mV} {h : mH} {a0 : Option mV} {l : mL} {x : Int32} : denB M sL post L b ((pc, .iinc 1 1, n, t) :: c) (a0 :: some (.inl x) :: l) st h = (denB M sL post L b c (a0 :: some (.inl (x + (nI 1))) :: l) st h) := rfl
theorem ev_istore_n_3 {M : mK} {sL : Nat} {post : mP} {L : Nat → mC} {b pc n : Nat} {t : List Nat} {c : List mE} {ls : mL} {st : List mV} {h : mH} {a0 a1 a2 : Option mV} {l : mL} {y : Option mV} {x : Int32} : denB M sL post L b ((pc, .istore_n 3, n, t) :: c) (a0 :: a1 :: a2 :: y :: l) (.inl x :: st) h = (denB M sL post L b c (a0 :: a1 :: a2 :: some (.inl x) :: l) st h) := rfl
theorem ev_iload_n_3 {M : mK} {sL : Nat} {post : mP} {L : Nat → mC} {b pc n : Nat} {t : List Nat} {c : List mE} {ls : mL} {st : List mV} {h : mH} {a0 a1 a2 : Option mV} {l : mL} {x : Int32} : denB M sL post L b ((pc, .iload_n 3, n, t) :: c) (a0 :: a1 :: a2 :: some (.inl x) :: l) st h = (denB M sL post L b c (a0 :: a1 :: a2 :: some (.inl x) :: l) (.inl x :: st) h) := rfl
theorem ev_istore_4 {M : mK} {sL : Nat} {post : mP} {L : Nat → mC} {b pc n : Nat} {t : List Nat} {c : List mE} {ls : mL} {st : List mV} {h : mH} {a0 a1 a2 a3 : Option mV} {l : mL} {y : Option mV} {x : Int32} : denB M sL post L b ((pc, .istore 4, n, t) :: c) (a0 :: a1 :: a2 :: a3 :: y :: l) (.inl x :: st) h = (denB M sL post L b c (a0 :: a1 :: a2 :: a3 :: some (.inl x) :: l) st h) := rfl
theorem ev_iload_4 {M : mK} {sL : Nat} {post : mP} {L : Nat → mC} {b pc n : Nat} {t : List Nat} {c : List mE} {ls : mL} {st : List mV} {h : mH} {a0 a1 a2 a3 : Option mV} {l : mL} {x : Int32} : denB M sL post L b ((pc, .iload 4, n, t) :: c) (a0 :: a1 :: a2 :: a3 :: some (.inl x) :: l) st h = (denB M sL post L b c (a0 :: a1 :: a2 :: a3 :: some (.inl x) :: l) (.inl x :: st) h) := rfl
theorem ev_iinc_4_1 {M : mK} {sL : Nat} {post : mP} {L : Nat → mC} {b pc n : Nat} {t : List Nat} {c : List mE} {ls : mL} {st : List mV} {h : mH} {a0 a1 a2 a3 : Option mV} {l : mL} {x : Int32} : denB M sL post L b ((pc, .iinc 4 1, n, t) :: c) (a0 :: a1 :: a2 :: a3 :: some (.inl x) :: l) st h = (denB M sL post L b c (a0 :: a1 :: a2 :: a3 :: some (.inl (x + (nI 1))) :: l) st h) := rfl
theorem ev_iconst_4 {M : mK} {sL : Nat} {post : mP} {L : Nat → mC} {b pc n : Nat} {t : List Nat} {c : List mE} {ls : mL} {st : List mV} {h : mH}  : denB M sL post L b ((pc, .iconst 4, n, t) :: c) ls st h = (denB M sL post L b c ls (.inl (nI 4) :: st) h) := rfl
theorem ev_imul {M : mK} {sL : Nat} {post : mP} {L : Nat → mC} {b pc n : Nat} {t : List Nat} {c : List mE} {ls : mL} {st : List mV} {h : mH} {x y : Int32} : denB M sL post L b ((pc, .imul, n, t) :: c) ls (.inl y :: .inl x :: st) h = (denB M sL post L b c ls (.inl (x * y) :: st) h) := rfl
theorem ev_if_le {M : mK} {sL : Nat} {post : mP} {L : Nat → mC} {b pc n : Nat} {t : List Nat} {c : List mE} {ls : mL} {st : List mV} {h : mH} {o : Int} {k : Nat} {x : Int32} : denB M sL post L b ((pc, .ifCond .le o, n, [k]) :: c) ls (.inl x :: st) h = ((x ≤ 0 → L k ls st h) ∧ (¬ x ≤ 0 → L (b + 1) ls st h)) := rfl
theorem ev_bipush_64 {M : mK} {sL : Nat} {post : mP} {L : Nat → mC} {b pc n : Nat} {t : List Nat} {c : List mE} {ls : mL} {st : List mV} {h : mH}  : denB M sL post L b ((pc, .bipush 64, n, t) :: c) ls st h = (denB M sL post L b c ls (.inl (nI 64) :: st) h) := rfl
theorem ev_idiv {M : mK} {sL : Nat} {post : mP} {L : Nat → mC} {b pc n : Nat} {t : List Nat} {c : List mE} {ls : mL} {st : List mV} {h : mH} {x y : Int32} : denB M sL post L b ((pc, .idiv, n, t) :: c) ls (.inl y :: .inl x :: st) h = (¬ y = 0 ∧ denB M sL post L b c ls (.inl (x / y) :: st) h) := rfl
theorem ev_callv_3_0_1 {M : mK} {sL : Nat} {post : mP} {L : Nat → mC} {b pc n : Nat} {t : List Nat} {c : List mE} {ls : mL} {st : List mV} {h : mH} {j u y : Nat} {v0 v1 v2 : mV} : denB M sL post L b ((pc, .invokevirtual j, n, [u, y, 3, 1]) :: c) ls [v2, v1, v0] h = (mI M y [v0, v1, v2] h (fun x h' => denB M sL post L b c ls [.inl x] h')) := rfl
theorem ev_callv_3_1_1 {M : mK} {sL : Nat} {post : mP} {L : Nat → mC} {b pc n : Nat} {t : List Nat} {c : List mE} {ls : mL} {st : List mV} {h : mH} {j u y : Nat} {v0 v1 v2 w0 : mV} : denB M sL post L b ((pc, .invokevirtual j, n, [u, y, 3, 1]) :: c) ls [v2, v1, v0, w0] h = (mI M y [v0, v1, v2] h (fun x h' => denB M sL post L b c ls [.inl x, w0] h')) := rfl
theorem ev_callv_3_2_1 {M : mK} {sL : Nat} {post : mP} {L : Nat → mC} {b pc n : Nat} {t : List Nat} {c : List mE} {ls : mL} {st : List mV} {h : mH} {j u y : Nat} {v0 v1 v2 w0 w1 : mV} : denB M sL post L b ((pc, .invokevirtual j, n, [u, y, 3, 1]) :: c) ls [v2, v1, v0, w0, w1] h = (mI M y [v0, v1, v2] h (fun x h' => denB M sL post L b c ls [.inl x, w0, w1] h')) := rfl
theorem ev_callv_3_3_1 {M : mK} {sL : Nat} {post : mP} {L : Nat → mC} {b pc n : Nat} {t : List Nat} {c : List mE} {ls : mL} {st : List mV} {h : mH} {j u y : Nat} {v0 v1 v2 w0 w1 w2 : mV} : denB M sL post L b ((pc, .invokevirtual j, n, [u, y, 3, 1]) :: c) ls [v2, v1, v0, w0, w1, w2] h = (mI M y [v0, v1, v2] h (fun x h' => denB M sL post L b c ls [.inl x, w0, w1, w2] h')) := rfl
theorem ev_callv_3_4_1 {M : mK} {sL : Nat} {post : mP} {L : Nat → mC} {b pc n : Nat} {t : List Nat} {c : List mE} {ls : mL} {st : List mV} {h : mH} {j u y : Nat} {v0 v1 v2 w0 w1 w2 w3 : mV} : denB M sL post L b ((pc, .invokevirtual j, n, [u, y, 3, 1]) :: c) ls [v2, v1, v0, w0, w1, w2, w3] h = (mI M y [v0, v1, v2] h (fun x h' => denB M sL post L b c ls [.inl x, w0, w1, w2, w3] h')) := rfl
theorem ev_irem {M : mK} {sL : Nat} {post : mP} {L : Nat → mC} {b pc n : Nat} {t : List Nat} {c : List mE} {ls : mL} {st : List mV} {h : mH} {x y : Int32} : denB M sL post L b ((pc, .irem, n, t) :: c) ls (.inl y :: .inl x :: st) h = (¬ y = 0 ∧ denB M sL post L b c ls (.inl (x - x / y * y) :: st) h) := rfl
theorem ev_bipush_16 {M : mK} {sL : Nat} {post : mP} {L : Nat → mC} {b pc n : Nat} {t : List Nat} {c : List mE} {ls : mL} {st : List mV} {h : mH}  : denB M sL post L b ((pc, .bipush 16, n, t) :: c) ls st h = (denB M sL post L b c ls (.inl (nI 16) :: st) h) := rfl
theorem ev_iinc_3_1 {M : mK} {sL : Nat} {post : mP} {L : Nat → mC} {b pc n : Nat} {t : List Nat} {c : List mE} {ls : mL} {st : List mV} {h : mH} {a0 a1 a2 : Option mV} {l : mL} {x : Int32} : denB M sL post L b ((pc, .iinc 3 1, n, t) :: c) (a0 :: a1 :: a2 :: some (.inl x) :: l) st h = (denB M sL post L b c (a0 :: a1 :: a2 :: some (.inl (x + (nI 1))) :: l) st h) := rfl
theorem ev_istore_5 {M : mK} {sL : Nat} {post : mP} {L : Nat → mC} {b pc n : Nat} {t : List Nat} {c : List mE} {ls : mL} {st : List mV} {h : mH} {a0 a1 a2 a3 a4 : Option mV} {l : mL} {y : Option mV} {x : Int32} : denB M sL post L b ((pc, .istore 5, n, t) :: c) (a0 :: a1 :: a2 :: a3 :: a4 :: y :: l) (.inl x :: st) h = (denB M sL post L b c (a0 :: a1 :: a2 :: a3 :: a4 :: some (.inl x) :: l) st h) := rfl
theorem ev_iload_5 {M : mK} {sL : Nat} {post : mP} {L : Nat → mC} {b pc n : Nat} {t : List Nat} {c : List mE} {ls : mL} {st : List mV} {h : mH} {a0 a1 a2 a3 a4 : Option mV} {l : mL} {x : Int32} : denB M sL post L b ((pc, .iload 5, n, t) :: c) (a0 :: a1 :: a2 :: a3 :: a4 :: some (.inl x) :: l) st h = (denB M sL post L b c (a0 :: a1 :: a2 :: a3 :: a4 :: some (.inl x) :: l) (.inl x :: st) h) := rfl
theorem ev_lload_n_1 {M : mK} {sL : Nat} {post : mP} {L : Nat → mC} {b pc n : Nat} {t : List Nat} {c : List mE} {ls : mL} {st : List mV} {h : mH} {a0 : Option mV} {l : mL} {x : Int64} : denB M sL post L b ((pc, .lload_n 1, n, t) :: c) (a0 :: some (.inr (.inl x)) :: none :: l) st h = (denB M sL post L b c (a0 :: some (.inr (.inl x)) :: none :: l) (.inr (.inl x) :: st) h) := rfl
theorem ev_calls_2_0_1 {M : mK} {sL : Nat} {post : mP} {L : Nat → mC} {b pc n : Nat} {t : List Nat} {c : List mE} {ls : mL} {st : List mV} {h : mH} {j u y : Nat} {v0 v1 : mV} : denB M sL post L b ((pc, .invokestatic j, n, [u, y, 2, 1]) :: c) ls [v1, v0] h = (mI M y [v0, v1] h (fun x h' => denB M sL post L b c ls [.inl x] h')) := rfl
theorem ev_calls_2_1_1 {M : mK} {sL : Nat} {post : mP} {L : Nat → mC} {b pc n : Nat} {t : List Nat} {c : List mE} {ls : mL} {st : List mV} {h : mH} {j u y : Nat} {v0 v1 w0 : mV} : denB M sL post L b ((pc, .invokestatic j, n, [u, y, 2, 1]) :: c) ls [v1, v0, w0] h = (mI M y [v0, v1] h (fun x h' => denB M sL post L b c ls [.inl x, w0] h')) := rfl
theorem ev_calls_2_2_1 {M : mK} {sL : Nat} {post : mP} {L : Nat → mC} {b pc n : Nat} {t : List Nat} {c : List mE} {ls : mL} {st : List mV} {h : mH} {j u y : Nat} {v0 v1 w0 w1 : mV} : denB M sL post L b ((pc, .invokestatic j, n, [u, y, 2, 1]) :: c) ls [v1, v0, w0, w1] h = (mI M y [v0, v1] h (fun x h' => denB M sL post L b c ls [.inl x, w0, w1] h')) := rfl
theorem ev_calls_2_3_1 {M : mK} {sL : Nat} {post : mP} {L : Nat → mC} {b pc n : Nat} {t : List Nat} {c : List mE} {ls : mL} {st : List mV} {h : mH} {j u y : Nat} {v0 v1 w0 w1 w2 : mV} : denB M sL post L b ((pc, .invokestatic j, n, [u, y, 2, 1]) :: c) ls [v1, v0, w0, w1, w2] h = (mI M y [v0, v1] h (fun x h' => denB M sL post L b c ls [.inl x, w0, w1, w2] h')) := rfl
theorem ev_calls_2_4_1 {M : mK} {sL : Nat} {post : mP} {L : Nat → mC} {b pc n : Nat} {t : List Nat} {c : List mE} {ls : mL} {st : List mV} {h : mH} {j u y : Nat} {v0 v1 w0 w1 w2 w3 : mV} : denB M sL post L b ((pc, .invokestatic j, n, [u, y, 2, 1]) :: c) ls [v1, v0, w0, w1, w2, w3] h = (mI M y [v0, v1] h (fun x h' => denB M sL post L b c ls [.inl x, w0, w1, w2, w3] h')) := rfl
theorem ev_lconst_0 {M : mK} {sL : Nat} {post : mP} {L : Nat → mC} {b pc n : Nat} {t : List Nat} {c : List mE} {ls : mL} {st : List mV} {h : mH}  : denB M sL post L b ((pc, .lconst 0, n, t) :: c) ls st h = (denB M sL post L b c ls (.inr (.inl (lN 0)) :: st) h) := rfl
theorem ev_lstore_n_3 {M : mK} {sL : Nat} {post : mP} {L : Nat → mC} {b pc n : Nat} {t : List Nat} {c : List mE} {ls : mL} {st : List mV} {h : mH} {a0 a1 a2 : Option mV} {l : mL} {y z : Option mV} {x : Int64} : denB M sL post L b ((pc, .lstore_n 3, n, t) :: c) (a0 :: a1 :: a2 :: y :: z :: l) (.inr (.inl x) :: st) h = (denB M sL post L b c (a0 :: a1 :: a2 :: some (.inr (.inl x)) :: none :: l) st h) := rfl
theorem ev_istore_6 {M : mK} {sL : Nat} {post : mP} {L : Nat → mC} {b pc n : Nat} {t : List Nat} {c : List mE} {ls : mL} {st : List mV} {h : mH} {a0 a1 a2 a3 a4 a5 : Option mV} {l : mL} {y : Option mV} {x : Int32} : denB M sL post L b ((pc, .istore 6, n, t) :: c) (a0 :: a1 :: a2 :: a3 :: a4 :: a5 :: y :: l) (.inl x :: st) h = (denB M sL post L b c (a0 :: a1 :: a2 :: a3 :: a4 :: a5 :: some (.inl x) :: l) st h) := rfl
theorem ev_iload_6 {M : mK} {sL : Nat} {post : mP} {L : Nat → mC} {b pc n : Nat} {t : List Nat} {c : List mE} {ls : mL} {st : List mV} {h : mH} {a0 a1 a2 a3 a4 a5 : Option mV} {l : mL} {x : Int32} : denB M sL post L b ((pc, .iload 6, n, t) :: c) (a0 :: a1 :: a2 :: a3 :: a4 :: a5 :: some (.inl x) :: l) st h = (denB M sL post L b c (a0 :: a1 :: a2 :: a3 :: a4 :: a5 :: some (.inl x) :: l) (.inl x :: st) h) := rfl
theorem ev_lload_n_3 {M : mK} {sL : Nat} {post : mP} {L : Nat → mC} {b pc n : Nat} {t : List Nat} {c : List mE} {ls : mL} {st : List mV} {h : mH} {a0 a1 a2 : Option mV} {l : mL} {x : Int64} : denB M sL post L b ((pc, .lload_n 3, n, t) :: c) (a0 :: a1 :: a2 :: some (.inr (.inl x)) :: none :: l) st h = (denB M sL post L b c (a0 :: a1 :: a2 :: some (.inr (.inl x)) :: none :: l) (.inr (.inl x) :: st) h) := rfl
theorem ev_lconst_1 {M : mK} {sL : Nat} {post : mP} {L : Nat → mC} {b pc n : Nat} {t : List Nat} {c : List mE} {ls : mL} {st : List mV} {h : mH}  : denB M sL post L b ((pc, .lconst 1, n, t) :: c) ls st h = (denB M sL post L b c ls (.inr (.inl (lN 1)) :: st) h) := rfl
theorem ev_lshl {M : mK} {sL : Nat} {post : mP} {L : Nat → mC} {b pc n : Nat} {t : List Nat} {c : List mE} {ls : mL} {st : List mV} {h : mH} {x : Int64} {y : Int32} : denB M sL post L b ((pc, .lshl, n, t) :: c) ls (.inl y :: .inr (.inl x) :: st) h = (denB M sL post L b c ls (.inr (.inl (x <<< (y.toInt64 &&& 63))) :: st) h) := rfl
theorem ev_lor {M : mK} {sL : Nat} {post : mP} {L : Nat → mC} {b pc n : Nat} {t : List Nat} {c : List mE} {ls : mL} {st : List mV} {h : mH} {x y : Int64} : denB M sL post L b ((pc, .lor, n, t) :: c) ls (.inr (.inl y) :: .inr (.inl x) :: st) h = (denB M sL post L b c ls (.inr (.inl (x ||| y)) :: st) h) := rfl
theorem ev_iinc_6_1 {M : mK} {sL : Nat} {post : mP} {L : Nat → mC} {b pc n : Nat} {t : List Nat} {c : List mE} {ls : mL} {st : List mV} {h : mH} {a0 a1 a2 a3 a4 a5 : Option mV} {l : mL} {x : Int32} : denB M sL post L b ((pc, .iinc 6 1, n, t) :: c) (a0 :: a1 :: a2 :: a3 :: a4 :: a5 :: some (.inl x) :: l) st h = (denB M sL post L b c (a0 :: a1 :: a2 :: a3 :: a4 :: a5 :: some (.inl (x + (nI 1))) :: l) st h) := rfl
theorem ev_iinc_5_1 {M : mK} {sL : Nat} {post : mP} {L : Nat → mC} {b pc n : Nat} {t : List Nat} {c : List mE} {ls : mL} {st : List mV} {h : mH} {a0 a1 a2 a3 a4 : Option mV} {l : mL} {x : Int32} : denB M sL post L b ((pc, .iinc 5 1, n, t) :: c) (a0 :: a1 :: a2 :: a3 :: a4 :: some (.inl x) :: l) st h = (denB M sL post L b c (a0 :: a1 :: a2 :: a3 :: a4 :: some (.inl (x + (nI 1))) :: l) st h) := rfl
theorem ev_ldc2_18446744073709551614 {M : mK} {sL : Nat} {post : mP} {L : Nat → mC} {b pc n : Nat} {t : List Nat} {c : List mE} {ls : mL} {st : List mV} {h : mH} {j : Nat} : denB M sL post L b ((pc, .ldc2_w j, n, [18446744073709551614]) :: c) ls st h = (denB M sL post L b c ls (.inr (.inl (lN 18446744073709551614)) :: st) h) := rfl
theorem ev_land {M : mK} {sL : Nat} {post : mP} {L : Nat → mC} {b pc n : Nat} {t : List Nat} {c : List mE} {ls : mL} {st : List mV} {h : mH} {x y : Int64} : denB M sL post L b ((pc, .land, n, t) :: c) ls (.inr (.inl y) :: .inr (.inl x) :: st) h = (denB M sL post L b c ls (.inr (.inl (x &&& y)) :: st) h) := rfl
theorem ev_lret {M : mK} {sL : Nat} {post : mP} {L : Nat → mC} {b pc n : Nat} {t : List Nat} {c : List mE} {ls : mL} {st : List mV} {h : mH} {x : Int64} : denB M sL post L b ((pc, .lreturn, n, t) :: c) ls [.inr (.inl x)] h = (post (some (.inr (.inl x))) h) := rfl
theorem ev_if_ge {M : mK} {sL : Nat} {post : mP} {L : Nat → mC} {b pc n : Nat} {t : List Nat} {c : List mE} {ls : mL} {st : List mV} {h : mH} {o : Int} {k : Nat} {x : Int32} : denB M sL post L b ((pc, .ifCond .ge o, n, [k]) :: c) ls (.inl x :: st) h = ((0 ≤ x → L k ls st h) ∧ (¬ 0 ≤ x → L (b + 1) ls st h)) := rfl
theorem ev_callv_3_0_2 {M : mK} {sL : Nat} {post : mP} {L : Nat → mC} {b pc n : Nat} {t : List Nat} {c : List mE} {ls : mL} {st : List mV} {h : mH} {j u y : Nat} {v0 v1 v2 : mV} : denB M sL post L b ((pc, .invokevirtual j, n, [u, y, 3, 2]) :: c) ls [v2, v1, v0] h = (mG M y [v0, v1, v2] h (fun x h' => denB M sL post L b c ls [.inr (.inl x)] h')) := rfl
theorem ev_callv_3_1_2 {M : mK} {sL : Nat} {post : mP} {L : Nat → mC} {b pc n : Nat} {t : List Nat} {c : List mE} {ls : mL} {st : List mV} {h : mH} {j u y : Nat} {v0 v1 v2 w0 : mV} : denB M sL post L b ((pc, .invokevirtual j, n, [u, y, 3, 2]) :: c) ls [v2, v1, v0, w0] h = (mG M y [v0, v1, v2] h (fun x h' => denB M sL post L b c ls [.inr (.inl x), w0] h')) := rfl
theorem ev_callv_3_2_2 {M : mK} {sL : Nat} {post : mP} {L : Nat → mC} {b pc n : Nat} {t : List Nat} {c : List mE} {ls : mL} {st : List mV} {h : mH} {j u y : Nat} {v0 v1 v2 w0 w1 : mV} : denB M sL post L b ((pc, .invokevirtual j, n, [u, y, 3, 2]) :: c) ls [v2, v1, v0, w0, w1] h = (mG M y [v0, v1, v2] h (fun x h' => denB M sL post L b c ls [.inr (.inl x), w0, w1] h')) := rfl
theorem ev_callv_3_3_2 {M : mK} {sL : Nat} {post : mP} {L : Nat → mC} {b pc n : Nat} {t : List Nat} {c : List mE} {ls : mL} {st : List mV} {h : mH} {j u y : Nat} {v0 v1 v2 w0 w1 w2 : mV} : denB M sL post L b ((pc, .invokevirtual j, n, [u, y, 3, 2]) :: c) ls [v2, v1, v0, w0, w1, w2] h = (mG M y [v0, v1, v2] h (fun x h' => denB M sL post L b c ls [.inr (.inl x), w0, w1, w2] h')) := rfl
theorem ev_callv_3_4_2 {M : mK} {sL : Nat} {post : mP} {L : Nat → mC} {b pc n : Nat} {t : List Nat} {c : List mE} {ls : mL} {st : List mV} {h : mH} {j u y : Nat} {v0 v1 v2 w0 w1 w2 w3 : mV} : denB M sL post L b ((pc, .invokevirtual j, n, [u, y, 3, 2]) :: c) ls [v2, v1, v0, w0, w1, w2, w3] h = (mG M y [v0, v1, v2] h (fun x h' => denB M sL post L b c ls [.inr (.inl x), w0, w1, w2, w3] h')) := rfl
theorem ev_lstore_n_2 {M : mK} {sL : Nat} {post : mP} {L : Nat → mC} {b pc n : Nat} {t : List Nat} {c : List mE} {ls : mL} {st : List mV} {h : mH} {a0 a1 : Option mV} {l : mL} {y z : Option mV} {x : Int64} : denB M sL post L b ((pc, .lstore_n 2, n, t) :: c) (a0 :: a1 :: y :: z :: l) (.inr (.inl x) :: st) h = (denB M sL post L b c (a0 :: a1 :: some (.inr (.inl x)) :: none :: l) st h) := rfl
theorem ev_lload_n_2 {M : mK} {sL : Nat} {post : mP} {L : Nat → mC} {b pc n : Nat} {t : List Nat} {c : List mE} {ls : mL} {st : List mV} {h : mH} {a0 a1 : Option mV} {l : mL} {x : Int64} : denB M sL post L b ((pc, .lload_n 2, n, t) :: c) (a0 :: a1 :: some (.inr (.inl x)) :: none :: l) st h = (denB M sL post L b c (a0 :: a1 :: some (.inr (.inl x)) :: none :: l) (.inr (.inl x) :: st) h) := rfl
theorem ev_callv_2_0_2 {M : mK} {sL : Nat} {post : mP} {L : Nat → mC} {b pc n : Nat} {t : List Nat} {c : List mE} {ls : mL} {st : List mV} {h : mH} {j u y : Nat} {v0 v1 : mV} : denB M sL post L b ((pc, .invokevirtual j, n, [u, y, 2, 2]) :: c) ls [v1, v0] h = (mG M y [v0, v1] h (fun x h' => denB M sL post L b c ls [.inr (.inl x)] h')) := rfl
theorem ev_callv_2_1_2 {M : mK} {sL : Nat} {post : mP} {L : Nat → mC} {b pc n : Nat} {t : List Nat} {c : List mE} {ls : mL} {st : List mV} {h : mH} {j u y : Nat} {v0 v1 w0 : mV} : denB M sL post L b ((pc, .invokevirtual j, n, [u, y, 2, 2]) :: c) ls [v1, v0, w0] h = (mG M y [v0, v1] h (fun x h' => denB M sL post L b c ls [.inr (.inl x), w0] h')) := rfl
theorem ev_callv_2_2_2 {M : mK} {sL : Nat} {post : mP} {L : Nat → mC} {b pc n : Nat} {t : List Nat} {c : List mE} {ls : mL} {st : List mV} {h : mH} {j u y : Nat} {v0 v1 w0 w1 : mV} : denB M sL post L b ((pc, .invokevirtual j, n, [u, y, 2, 2]) :: c) ls [v1, v0, w0, w1] h = (mG M y [v0, v1] h (fun x h' => denB M sL post L b c ls [.inr (.inl x), w0, w1] h')) := rfl
theorem ev_callv_2_3_2 {M : mK} {sL : Nat} {post : mP} {L : Nat → mC} {b pc n : Nat} {t : List Nat} {c : List mE} {ls : mL} {st : List mV} {h : mH} {j u y : Nat} {v0 v1 w0 w1 w2 : mV} : denB M sL post L b ((pc, .invokevirtual j, n, [u, y, 2, 2]) :: c) ls [v1, v0, w0, w1, w2] h = (mG M y [v0, v1] h (fun x h' => denB M sL post L b c ls [.inr (.inl x), w0, w1, w2] h')) := rfl
theorem ev_callv_2_4_2 {M : mK} {sL : Nat} {post : mP} {L : Nat → mC} {b pc n : Nat} {t : List Nat} {c : List mE} {ls : mL} {st : List mV} {h : mH} {j u y : Nat} {v0 v1 w0 w1 w2 w3 : mV} : denB M sL post L b ((pc, .invokevirtual j, n, [u, y, 2, 2]) :: c) ls [v1, v0, w0, w1, w2, w3] h = (mG M y [v0, v1] h (fun x h' => denB M sL post L b c ls [.inr (.inl x), w0, w1, w2, w3] h')) := rfl
theorem ev_getf_0_7 {M : mK} {sL : Nat} {post : mP} {L : Nat → mC} {b pc n : Nat} {t : List Nat} {c : List mE} {ls : mL} {st : List mV} {h : mH} {j : Nat} {i : Fin 3} : denB M sL post L b ((pc, .getfield j, n, [0, 7]) :: c) ls ((.inr (.inr (.inl (i, 0)))) :: st) h = (denB M sL post L b c ls (.inr (.inr (.inl (i, 6))) :: st) h) := rfl
theorem ev_calls_2_0_0 {M : mK} {sL : Nat} {post : mP} {L : Nat → mC} {b pc n : Nat} {t : List Nat} {c : List mE} {ls : mL} {st : List mV} {h : mH} {j u y : Nat} {v0 v1 : mV} : denB M sL post L b ((pc, .invokestatic j, n, [u, y, 2, 0]) :: c) ls [v1, v0] h = (mU M y [v0, v1] h (fun h' => denB M sL post L b c ls [] h')) := rfl
theorem ev_calls_2_1_0 {M : mK} {sL : Nat} {post : mP} {L : Nat → mC} {b pc n : Nat} {t : List Nat} {c : List mE} {ls : mL} {st : List mV} {h : mH} {j u y : Nat} {v0 v1 w0 : mV} : denB M sL post L b ((pc, .invokestatic j, n, [u, y, 2, 0]) :: c) ls [v1, v0, w0] h = (mU M y [v0, v1] h (fun h' => denB M sL post L b c ls [w0] h')) := rfl
theorem ev_calls_2_2_0 {M : mK} {sL : Nat} {post : mP} {L : Nat → mC} {b pc n : Nat} {t : List Nat} {c : List mE} {ls : mL} {st : List mV} {h : mH} {j u y : Nat} {v0 v1 w0 w1 : mV} : denB M sL post L b ((pc, .invokestatic j, n, [u, y, 2, 0]) :: c) ls [v1, v0, w0, w1] h = (mU M y [v0, v1] h (fun h' => denB M sL post L b c ls [w0, w1] h')) := rfl
theorem ev_calls_2_3_0 {M : mK} {sL : Nat} {post : mP} {L : Nat → mC} {b pc n : Nat} {t : List Nat} {c : List mE} {ls : mL} {st : List mV} {h : mH} {j u y : Nat} {v0 v1 w0 w1 w2 : mV} : denB M sL post L b ((pc, .invokestatic j, n, [u, y, 2, 0]) :: c) ls [v1, v0, w0, w1, w2] h = (mU M y [v0, v1] h (fun h' => denB M sL post L b c ls [w0, w1, w2] h')) := rfl
theorem ev_calls_2_4_0 {M : mK} {sL : Nat} {post : mP} {L : Nat → mC} {b pc n : Nat} {t : List Nat} {c : List mE} {ls : mL} {st : List mV} {h : mH} {j u y : Nat} {v0 v1 w0 w1 w2 w3 : mV} : denB M sL post L b ((pc, .invokestatic j, n, [u, y, 2, 0]) :: c) ls [v1, v0, w0, w1, w2, w3] h = (mU M y [v0, v1] h (fun h' => denB M sL post L b c ls [w0, w1, w2, w3] h')) := rfl
theorem ev_bipush_14 {M : mK} {sL : Nat} {post : mP} {L : Nat → mC} {b pc n : Nat} {t : List Nat} {c : List mE} {ls : mL} {st : List mV} {h : mH}  : denB M sL post L b ((pc, .bipush 14, n, t) :: c) ls st h = (denB M sL post L b c ls (.inl (nI 14) :: st) h) := rfl
theorem ev_lstore_n_1 {M : mK} {sL : Nat} {post : mP} {L : Nat → mC} {b pc n : Nat} {t : List Nat} {c : List mE} {ls : mL} {st : List mV} {h : mH} {a0 : Option mV} {l : mL} {y z : Option mV} {x : Int64} : denB M sL post L b ((pc, .lstore_n 1, n, t) :: c) (a0 :: y :: z :: l) (.inr (.inl x) :: st) h = (denB M sL post L b c (a0 :: some (.inr (.inl x)) :: none :: l) st h) := rfl
theorem ev_dup2 {M : mK} {sL : Nat} {post : mP} {L : Nat → mC} {b pc n : Nat} {t : List Nat} {c : List mE} {ls : mL} {st : List mV} {h : mH} {x : Int32} {r : mRef} : denB M sL post L b ((pc, .dup2, n, t) :: c) ls (.inl x :: .inr (.inr r) :: st) h = (denB M sL post L b c ls (.inl x :: .inr (.inr r) :: .inl x :: .inr (.inr r) :: st) h) := rfl
theorem ev_callv_1_0_0 {M : mK} {sL : Nat} {post : mP} {L : Nat → mC} {b pc n : Nat} {t : List Nat} {c : List mE} {ls : mL} {st : List mV} {h : mH} {j u y : Nat} {v0 : mV} : denB M sL post L b ((pc, .invokevirtual j, n, [u, y, 1, 0]) :: c) ls [v0] h = (mU M y [v0] h (fun h' => denB M sL post L b c ls [] h')) := rfl
theorem ev_callv_1_1_0 {M : mK} {sL : Nat} {post : mP} {L : Nat → mC} {b pc n : Nat} {t : List Nat} {c : List mE} {ls : mL} {st : List mV} {h : mH} {j u y : Nat} {v0 w0 : mV} : denB M sL post L b ((pc, .invokevirtual j, n, [u, y, 1, 0]) :: c) ls [v0, w0] h = (mU M y [v0] h (fun h' => denB M sL post L b c ls [w0] h')) := rfl
theorem ev_callv_1_2_0 {M : mK} {sL : Nat} {post : mP} {L : Nat → mC} {b pc n : Nat} {t : List Nat} {c : List mE} {ls : mL} {st : List mV} {h : mH} {j u y : Nat} {v0 w0 w1 : mV} : denB M sL post L b ((pc, .invokevirtual j, n, [u, y, 1, 0]) :: c) ls [v0, w0, w1] h = (mU M y [v0] h (fun h' => denB M sL post L b c ls [w0, w1] h')) := rfl
theorem ev_callv_1_3_0 {M : mK} {sL : Nat} {post : mP} {L : Nat → mC} {b pc n : Nat} {t : List Nat} {c : List mE} {ls : mL} {st : List mV} {h : mH} {j u y : Nat} {v0 w0 w1 w2 : mV} : denB M sL post L b ((pc, .invokevirtual j, n, [u, y, 1, 0]) :: c) ls [v0, w0, w1, w2] h = (mU M y [v0] h (fun h' => denB M sL post L b c ls [w0, w1, w2] h')) := rfl
theorem ev_callv_1_4_0 {M : mK} {sL : Nat} {post : mP} {L : Nat → mC} {b pc n : Nat} {t : List Nat} {c : List mE} {ls : mL} {st : List mV} {h : mH} {j u y : Nat} {v0 w0 w1 w2 w3 : mV} : denB M sL post L b ((pc, .invokevirtual j, n, [u, y, 1, 0]) :: c) ls [v0, w0, w1, w2, w3] h = (mU M y [v0] h (fun h' => denB M sL post L b c ls [w0, w1, w2, w3] h')) := rfl
theorem ev_icmp_le {M : mK} {sL : Nat} {post : mP} {L : Nat → mC} {b pc n : Nat} {t : List Nat} {c : List mE} {ls : mL} {st : List mV} {h : mH} {o : Int} {k : Nat} {x y : Int32} : denB M sL post L b ((pc, .if_icmp .le o, n, [k]) :: c) ls (.inl y :: .inl x :: st) h = ((x ≤ y → L k ls st h) ∧ (¬ x ≤ y → L (b + 1) ls st h)) := rfl
theorem ev_if_ne {M : mK} {sL : Nat} {post : mP} {L : Nat → mC} {b pc n : Nat} {t : List Nat} {c : List mE} {ls : mL} {st : List mV} {h : mH} {o : Int} {k : Nat} {x : Int32} : denB M sL post L b ((pc, .ifCond .ne o, n, [k]) :: c) ls (.inl x :: st) h = ((¬ x = 0 → L k ls st h) ∧ (x = 0 → L (b + 1) ls st h)) := rfl
theorem ev_getf_1_2 {M : mK} {sL : Nat} {post : mP} {L : Nat → mC} {b pc n : Nat} {t : List Nat} {c : List mE} {ls : mL} {st : List mV} {h : mH} {j : Nat} : denB M sL post L b ((pc, .getfield j, n, [1, 2]) :: c) ls ((.inr (.inr (.inr 4))) :: st) h = (denB M sL post L b c ls (.inl (h (.inr 4) 2) :: st) h) := rfl
theorem ev_bipush_120 {M : mK} {sL : Nat} {post : mP} {L : Nat → mC} {b pc n : Nat} {t : List Nat} {c : List mE} {ls : mL} {st : List mV} {h : mH}  : denB M sL post L b ((pc, .bipush 120, n, t) :: c) ls st h = (denB M sL post L b c ls (.inl (nI 120) :: st) h) := rfl
theorem ev_getf_1_0 {M : mK} {sL : Nat} {post : mP} {L : Nat → mC} {b pc n : Nat} {t : List Nat} {c : List mE} {ls : mL} {st : List mV} {h : mH} {j : Nat} : denB M sL post L b ((pc, .getfield j, n, [1, 0]) :: c) ls ((.inr (.inr (.inr 4))) :: st) h = (denB M sL post L b c ls (.inr (.inr (.inr 5)) :: st) h) := rfl
theorem ev_iast_o5 {M : mK} {sL : Nat} {post : mP} {L : Nat → mC} {b pc n : Nat} {t : List Nat} {c : List mE} {ls : mL} {st : List mV} {h : mH}  {x v : Int32} : denB M sL post L b ((pc, .iastore, n, t) :: c) ls (.inl v :: .inl x :: (.inr (.inr (.inr 5))) :: st) h = (vp_in x 120 ∧ denB M sL post L b c ls st (hup h (.inr 5) x.toNatClampNeg v)) := rfl
theorem ev_iast_o6 {M : mK} {sL : Nat} {post : mP} {L : Nat → mC} {b pc n : Nat} {t : List Nat} {c : List mE} {ls : mL} {st : List mV} {h : mH}  {x v : Int32} : denB M sL post L b ((pc, .iastore, n, t) :: c) ls (.inl v :: .inl x :: (.inr (.inr (.inr 6))) :: st) h = (vp_in x 3 ∧ denB M sL post L b c ls st (hup h (.inr 6) x.toNatClampNeg v)) := rfl
theorem ev_putf_1_2 {M : mK} {sL : Nat} {post : mP} {L : Nat → mC} {b pc n : Nat} {t : List Nat} {c : List mE} {ls : mL} {st : List mV} {h : mH} {j : Nat} {v : Int32} : denB M sL post L b ((pc, .putfield j, n, [1, 2]) :: c) ls (.inl v :: (.inr (.inr (.inr 4))) :: st) h = (denB M sL post L b c ls st (hup h (.inr 4) 2 v)) := rfl
theorem ev_getf_1_3 {M : mK} {sL : Nat} {post : mP} {L : Nat → mC} {b pc n : Nat} {t : List Nat} {c : List mE} {ls : mL} {st : List mV} {h : mH} {j : Nat} : denB M sL post L b ((pc, .getfield j, n, [1, 3]) :: c) ls ((.inr (.inr (.inr 4))) :: st) h = (denB M sL post L b c ls (.inl (h (.inr 4) 3) :: st) h) := rfl
theorem ev_iald_o5 {M : mK} {sL : Nat} {post : mP} {L : Nat → mC} {b pc n : Nat} {t : List Nat} {c : List mE} {ls : mL} {st : List mV} {h : mH}  {x : Int32} : denB M sL post L b ((pc, .iaload, n, t) :: c) ls (.inl x :: (.inr (.inr (.inr 5))) :: st) h = (vp_in x 120 ∧ denB M sL post L b c ls (.inl (h (.inr 5) x.toNatClampNeg) :: st) h) := rfl
theorem ev_iald_o6 {M : mK} {sL : Nat} {post : mP} {L : Nat → mC} {b pc n : Nat} {t : List Nat} {c : List mE} {ls : mL} {st : List mV} {h : mH}  {x : Int32} : denB M sL post L b ((pc, .iaload, n, t) :: c) ls (.inl x :: (.inr (.inr (.inr 6))) :: st) h = (vp_in x 3 ∧ denB M sL post L b c ls (.inl (h (.inr 6) x.toNatClampNeg) :: st) h) := rfl
theorem ev_iald_o20 {M : mK} {sL : Nat} {post : mP} {L : Nat → mC} {b pc n : Nat} {t : List Nat} {c : List mE} {ls : mL} {st : List mV} {h : mH}  {x : Int32} : denB M sL post L b ((pc, .iaload, n, t) :: c) ls (.inl x :: (.inr (.inr (.inr 20))) :: st) h = (vp_in x 7 ∧ denB M sL post L b c ls (.inl (h (.inr 20) x.toNatClampNeg) :: st) h) := rfl
theorem ev_putf_1_3 {M : mK} {sL : Nat} {post : mP} {L : Nat → mC} {b pc n : Nat} {t : List Nat} {c : List mE} {ls : mL} {st : List mV} {h : mH} {j : Nat} {v : Int32} : denB M sL post L b ((pc, .putfield j, n, [1, 3]) :: c) ls (.inl v :: (.inr (.inr (.inr 4))) :: st) h = (denB M sL post L b c ls st (hup h (.inr 4) 3 v)) := rfl
theorem ev_putf_1_5 {M : mK} {sL : Nat} {post : mP} {L : Nat → mC} {b pc n : Nat} {t : List Nat} {c : List mE} {ls : mL} {st : List mV} {h : mH} {j : Nat} {v : Int32} : denB M sL post L b ((pc, .putfield j, n, [1, 5]) :: c) ls (.inl v :: (.inr (.inr (.inr 4))) :: st) h = (denB M sL post L b c ls st (hup h (.inr 4) 5 v)) := rfl
theorem ev_getf_1_5 {M : mK} {sL : Nat} {post : mP} {L : Nat → mC} {b pc n : Nat} {t : List Nat} {c : List mE} {ls : mL} {st : List mV} {h : mH} {j : Nat} : denB M sL post L b ((pc, .getfield j, n, [1, 5]) :: c) ls ((.inr (.inr (.inr 4))) :: st) h = (denB M sL post L b c ls (.inl (h (.inr 4) 5) :: st) h) := rfl
theorem ev_icmp_gt {M : mK} {sL : Nat} {post : mP} {L : Nat → mC} {b pc n : Nat} {t : List Nat} {c : List mE} {ls : mL} {st : List mV} {h : mH} {o : Int} {k : Nat} {x y : Int32} : denB M sL post L b ((pc, .if_icmp .gt o, n, [k]) :: c) ls (.inl y :: .inl x :: st) h = ((y < x → L k ls st h) ∧ (¬ y < x → L (b + 1) ls st h)) := rfl
theorem ev_callv_1_0_1 {M : mK} {sL : Nat} {post : mP} {L : Nat → mC} {b pc n : Nat} {t : List Nat} {c : List mE} {ls : mL} {st : List mV} {h : mH} {j u y : Nat} {v0 : mV} : denB M sL post L b ((pc, .invokevirtual j, n, [u, y, 1, 1]) :: c) ls [v0] h = (mI M y [v0] h (fun x h' => denB M sL post L b c ls [.inl x] h')) := rfl
theorem ev_callv_1_1_1 {M : mK} {sL : Nat} {post : mP} {L : Nat → mC} {b pc n : Nat} {t : List Nat} {c : List mE} {ls : mL} {st : List mV} {h : mH} {j u y : Nat} {v0 w0 : mV} : denB M sL post L b ((pc, .invokevirtual j, n, [u, y, 1, 1]) :: c) ls [v0, w0] h = (mI M y [v0] h (fun x h' => denB M sL post L b c ls [.inl x, w0] h')) := rfl
theorem ev_callv_1_2_1 {M : mK} {sL : Nat} {post : mP} {L : Nat → mC} {b pc n : Nat} {t : List Nat} {c : List mE} {ls : mL} {st : List mV} {h : mH} {j u y : Nat} {v0 w0 w1 : mV} : denB M sL post L b ((pc, .invokevirtual j, n, [u, y, 1, 1]) :: c) ls [v0, w0, w1] h = (mI M y [v0] h (fun x h' => denB M sL post L b c ls [.inl x, w0, w1] h')) := rfl
theorem ev_callv_1_3_1 {M : mK} {sL : Nat} {post : mP} {L : Nat → mC} {b pc n : Nat} {t : List Nat} {c : List mE} {ls : mL} {st : List mV} {h : mH} {j u y : Nat} {v0 w0 w1 w2 : mV} : denB M sL post L b ((pc, .invokevirtual j, n, [u, y, 1, 1]) :: c) ls [v0, w0, w1, w2] h = (mI M y [v0] h (fun x h' => denB M sL post L b c ls [.inl x, w0, w1, w2] h')) := rfl
theorem ev_callv_1_4_1 {M : mK} {sL : Nat} {post : mP} {L : Nat → mC} {b pc n : Nat} {t : List Nat} {c : List mE} {ls : mL} {st : List mV} {h : mH} {j u y : Nat} {v0 w0 w1 w2 w3 : mV} : denB M sL post L b ((pc, .invokevirtual j, n, [u, y, 1, 1]) :: c) ls [v0, w0, w1, w2, w3] h = (mI M y [v0] h (fun x h' => denB M sL post L b c ls [.inl x, w0, w1, w2, w3] h')) := rfl
theorem ev_bipush_59 {M : mK} {sL : Nat} {post : mP} {L : Nat → mC} {b pc n : Nat} {t : List Nat} {c : List mE} {ls : mL} {st : List mV} {h : mH}  : denB M sL post L b ((pc, .bipush 59, n, t) :: c) ls st h = (denB M sL post L b c ls (.inl (nI 59) :: st) h) := rfl
theorem ev_ldcs {M : mK} {sL : Nat} {post : mP} {L : Nat → mC} {b pc n : Nat} {t : List Nat} {c : List mE} {ls : mL} {st : List mV} {h : mH} {j : Nat} : denB M sL post L b ((pc, .ldc j, n, [1]) :: c) ls st h = (denB M sL post L b c ls (.inr (.inr (.inr 21)) :: st) h) := rfl
theorem ev_i2c {M : mK} {sL : Nat} {post : mP} {L : Nat → mC} {b pc n : Nat} {t : List Nat} {c : List mE} {ls : mL} {st : List mV} {h : mH} {x : Int32} : denB M sL post L b ((pc, .i2c, n, t) :: c) ls (.inl x :: st) h = (denB M sL post L b c ls (.inl (x.toUInt32 % 65536).toInt32 :: st) h) := rfl
theorem ev_putf_1_4 {M : mK} {sL : Nat} {post : mP} {L : Nat → mC} {b pc n : Nat} {t : List Nat} {c : List mE} {ls : mL} {st : List mV} {h : mH} {j : Nat} {v : Int32} : denB M sL post L b ((pc, .putfield j, n, [1, 4]) :: c) ls (.inl v :: (.inr (.inr (.inr 4))) :: st) h = (denB M sL post L b c ls st (hup h (.inr 4) 4 v)) := rfl
theorem ev_getf_1_4 {M : mK} {sL : Nat} {post : mP} {L : Nat → mC} {b pc n : Nat} {t : List Nat} {c : List mE} {ls : mL} {st : List mV} {h : mH} {j : Nat} : denB M sL post L b ((pc, .getfield j, n, [1, 4]) :: c) ls ((.inr (.inr (.inr 4))) :: st) h = (denB M sL post L b c ls (.inl (h (.inr 4) 4) :: st) h) := rfl
theorem ev_getstatic {M : mK} {sL : Nat} {post : mP} {L : Nat → mC} {b pc n : Nat} {t : List Nat} {c : List mE} {ls : mL} {st : List mV} {h : mH} {j : Nat} : denB M sL post L b ((pc, .getstatic j, n, t) :: c) ls st h = (denB M sL post L b c ls (.inr (.inr (.inr 20)) :: st) h) := rfl
theorem ev_alen_o5 {M : mK} {sL : Nat} {post : mP} {L : Nat → mC} {b pc n : Nat} {t : List Nat} {c : List mE} {ls : mL} {st : List mV} {h : mH}  : denB M sL post L b ((pc, .arraylength, n, t) :: c) ls ((.inr (.inr (.inr 5))) :: st) h = (denB M sL post L b c ls (.inl (nI 120) :: st) h) := rfl
theorem ev_alen_o6 {M : mK} {sL : Nat} {post : mP} {L : Nat → mC} {b pc n : Nat} {t : List Nat} {c : List mE} {ls : mL} {st : List mV} {h : mH}  : denB M sL post L b ((pc, .arraylength, n, t) :: c) ls ((.inr (.inr (.inr 6))) :: st) h = (denB M sL post L b c ls (.inl (nI 3) :: st) h) := rfl
theorem ev_alen_o20 {M : mK} {sL : Nat} {post : mP} {L : Nat → mC} {b pc n : Nat} {t : List Nat} {c : List mE} {ls : mL} {st : List mV} {h : mH}  : denB M sL post L b ((pc, .arraylength, n, t) :: c) ls ((.inr (.inr (.inr 20))) :: st) h = (denB M sL post L b c ls (.inl (nI 7) :: st) h) := rfl
theorem ev_getf_1_1 {M : mK} {sL : Nat} {post : mP} {L : Nat → mC} {b pc n : Nat} {t : List Nat} {c : List mE} {ls : mL} {st : List mV} {h : mH} {j : Nat} : denB M sL post L b ((pc, .getfield j, n, [1, 1]) :: c) ls ((.inr (.inr (.inr 4))) :: st) h = (denB M sL post L b c ls (.inr (.inr (.inr 6)) :: st) h) := rfl
theorem ev_iconst_3 {M : mK} {sL : Nat} {post : mP} {L : Nat → mC} {b pc n : Nat} {t : List Nat} {c : List mE} {ls : mL} {st : List mV} {h : mH}  : denB M sL post L b ((pc, .iconst 3, n, t) :: c) ls st h = (denB M sL post L b c ls (.inl (nI 3) :: st) h) := rfl
theorem ev_bipush_32 {M : mK} {sL : Nat} {post : mP} {L : Nat → mC} {b pc n : Nat} {t : List Nat} {c : List mE} {ls : mL} {st : List mV} {h : mH}  : denB M sL post L b ((pc, .bipush 32, n, t) :: c) ls st h = (denB M sL post L b c ls (.inl (nI 32) :: st) h) := rfl
theorem ev_bipush_48 {M : mK} {sL : Nat} {post : mP} {L : Nat → mC} {b pc n : Nat} {t : List Nat} {c : List mE} {ls : mL} {st : List mV} {h : mH}  : denB M sL post L b ((pc, .bipush 48, n, t) :: c) ls st h = (denB M sL post L b c ls (.inl (nI 48) :: st) h) := rfl
theorem ev_bipush_57 {M : mK} {sL : Nat} {post : mP} {L : Nat → mC} {b pc n : Nat} {t : List Nat} {c : List mE} {ls : mL} {st : List mV} {h : mH}  : denB M sL post L b ((pc, .bipush 57, n, t) :: c) ls st h = (denB M sL post L b c ls (.inl (nI 57) :: st) h) := rfl
theorem ev_bipush_10 {M : mK} {sL : Nat} {post : mP} {L : Nat → mC} {b pc n : Nat} {t : List Nat} {c : List mE} {ls : mL} {st : List mV} {h : mH}  : denB M sL post L b ((pc, .bipush 10, n, t) :: c) ls st h = (denB M sL post L b c ls (.inl (nI 10) :: st) h) := rfl
theorem ev_isub {M : mK} {sL : Nat} {post : mP} {L : Nat → mC} {b pc n : Nat} {t : List Nat} {c : List mE} {ls : mL} {st : List mV} {h : mH} {x y : Int32} : denB M sL post L b ((pc, .isub, n, t) :: c) ls (.inl y :: .inl x :: st) h = (denB M sL post L b c ls (.inl (x - y) :: st) h) := rfl
theorem ev_putf_2_1 {M : mK} {sL : Nat} {post : mP} {L : Nat → mC} {b pc n : Nat} {t : List Nat} {c : List mE} {ls : mL} {st : List mV} {h : mH} {j : Nat} {v : Int32} : denB M sL post L b ((pc, .putfield j, n, [2, 1]) :: c) ls (.inl v :: (.inr (.inr (.inr 2))) :: st) h = (denB M sL post L b c ls st (hup h (.inr 2) 1 v)) := rfl
theorem ev_putf_2_2 {M : mK} {sL : Nat} {post : mP} {L : Nat → mC} {b pc n : Nat} {t : List Nat} {c : List mE} {ls : mL} {st : List mV} {h : mH} {j : Nat} {v : Int32} : denB M sL post L b ((pc, .putfield j, n, [2, 2]) :: c) ls (.inl v :: (.inr (.inr (.inr 2))) :: st) h = (denB M sL post L b c ls st (hup h (.inr 2) 2 v)) := rfl
theorem ev_putf_2_3 {M : mK} {sL : Nat} {post : mP} {L : Nat → mC} {b pc n : Nat} {t : List Nat} {c : List mE} {ls : mL} {st : List mV} {h : mH} {j : Nat} {v : Int32} : denB M sL post L b ((pc, .putfield j, n, [2, 3]) :: c) ls (.inl v :: (.inr (.inr (.inr 2))) :: st) h = (denB M sL post L b c ls st (hup h (.inr 2) 3 v)) := rfl
theorem ev_putf_2_4 {M : mK} {sL : Nat} {post : mP} {L : Nat → mC} {b pc n : Nat} {t : List Nat} {c : List mE} {ls : mL} {st : List mV} {h : mH} {j : Nat} {v : Int32} : denB M sL post L b ((pc, .putfield j, n, [2, 4]) :: c) ls (.inl v :: (.inr (.inr (.inr 2))) :: st) h = (denB M sL post L b c ls st (hup h (.inr 2) 4 v)) := rfl
theorem ev_getf_2_0 {M : mK} {sL : Nat} {post : mP} {L : Nat → mC} {b pc n : Nat} {t : List Nat} {c : List mE} {ls : mL} {st : List mV} {h : mH} {j : Nat} : denB M sL post L b ((pc, .getfield j, n, [2, 0]) :: c) ls ((.inr (.inr (.inr 2))) :: st) h = (denB M sL post L b c ls (.inr (.inr (.inl (2, 0))) :: st) h) := rfl
theorem ev_callv_2_0_0 {M : mK} {sL : Nat} {post : mP} {L : Nat → mC} {b pc n : Nat} {t : List Nat} {c : List mE} {ls : mL} {st : List mV} {h : mH} {j u y : Nat} {v0 v1 : mV} : denB M sL post L b ((pc, .invokevirtual j, n, [u, y, 2, 0]) :: c) ls [v1, v0] h = (mU M y [v0, v1] h (fun h' => denB M sL post L b c ls [] h')) := rfl
theorem ev_callv_2_1_0 {M : mK} {sL : Nat} {post : mP} {L : Nat → mC} {b pc n : Nat} {t : List Nat} {c : List mE} {ls : mL} {st : List mV} {h : mH} {j u y : Nat} {v0 v1 w0 : mV} : denB M sL post L b ((pc, .invokevirtual j, n, [u, y, 2, 0]) :: c) ls [v1, v0, w0] h = (mU M y [v0, v1] h (fun h' => denB M sL post L b c ls [w0] h')) := rfl
theorem ev_callv_2_2_0 {M : mK} {sL : Nat} {post : mP} {L : Nat → mC} {b pc n : Nat} {t : List Nat} {c : List mE} {ls : mL} {st : List mV} {h : mH} {j u y : Nat} {v0 v1 w0 w1 : mV} : denB M sL post L b ((pc, .invokevirtual j, n, [u, y, 2, 0]) :: c) ls [v1, v0, w0, w1] h = (mU M y [v0, v1] h (fun h' => denB M sL post L b c ls [w0, w1] h')) := rfl
theorem ev_callv_2_3_0 {M : mK} {sL : Nat} {post : mP} {L : Nat → mC} {b pc n : Nat} {t : List Nat} {c : List mE} {ls : mL} {st : List mV} {h : mH} {j u y : Nat} {v0 v1 w0 w1 w2 : mV} : denB M sL post L b ((pc, .invokevirtual j, n, [u, y, 2, 0]) :: c) ls [v1, v0, w0, w1, w2] h = (mU M y [v0, v1] h (fun h' => denB M sL post L b c ls [w0, w1, w2] h')) := rfl
theorem ev_callv_2_4_0 {M : mK} {sL : Nat} {post : mP} {L : Nat → mC} {b pc n : Nat} {t : List Nat} {c : List mE} {ls : mL} {st : List mV} {h : mH} {j u y : Nat} {v0 v1 w0 w1 w2 w3 : mV} : denB M sL post L b ((pc, .invokevirtual j, n, [u, y, 2, 0]) :: c) ls [v1, v0, w0, w1, w2, w3] h = (mU M y [v0, v1] h (fun h' => denB M sL post L b c ls [w0, w1, w2, w3] h')) := rfl
theorem ev_putf_2_5 {M : mK} {sL : Nat} {post : mP} {L : Nat → mC} {b pc n : Nat} {t : List Nat} {c : List mE} {ls : mL} {st : List mV} {h : mH} {j : Nat} {v : Int32} : denB M sL post L b ((pc, .putfield j, n, [2, 5]) :: c) ls (.inl v :: (.inr (.inr (.inr 2))) :: st) h = (denB M sL post L b c ls st (hup h (.inr 2) 5 v)) := rfl
theorem ev_putf_2_6 {M : mK} {sL : Nat} {post : mP} {L : Nat → mC} {b pc n : Nat} {t : List Nat} {c : List mE} {ls : mL} {st : List mV} {h : mH} {j : Nat} {v : Int32} : denB M sL post L b ((pc, .putfield j, n, [2, 6]) :: c) ls (.inl v :: (.inr (.inr (.inr 2))) :: st) h = (denB M sL post L b c ls st (hup h (.inr 2) 6 v)) := rfl
theorem ev_putf_2_7 {M : mK} {sL : Nat} {post : mP} {L : Nat → mC} {b pc n : Nat} {t : List Nat} {c : List mE} {ls : mL} {st : List mV} {h : mH} {j : Nat} {v : Int32} : denB M sL post L b ((pc, .putfield j, n, [2, 7]) :: c) ls (.inl v :: (.inr (.inr (.inr 2))) :: st) h = (denB M sL post L b c ls st (hup h (.inr 2) 7 v)) := rfl
theorem ev_getf_2_7 {M : mK} {sL : Nat} {post : mP} {L : Nat → mC} {b pc n : Nat} {t : List Nat} {c : List mE} {ls : mL} {st : List mV} {h : mH} {j : Nat} : denB M sL post L b ((pc, .getfield j, n, [2, 7]) :: c) ls ((.inr (.inr (.inr 2))) :: st) h = (denB M sL post L b c ls (.inl (h (.inr 2) 7) :: st) h) := rfl
theorem ev_getf_2_6 {M : mK} {sL : Nat} {post : mP} {L : Nat → mC} {b pc n : Nat} {t : List Nat} {c : List mE} {ls : mL} {st : List mV} {h : mH} {j : Nat} : denB M sL post L b ((pc, .getfield j, n, [2, 6]) :: c) ls ((.inr (.inr (.inr 2))) :: st) h = (denB M sL post L b c ls (.inl (h (.inr 2) 6) :: st) h) := rfl
theorem ev_getf_2_5 {M : mK} {sL : Nat} {post : mP} {L : Nat → mC} {b pc n : Nat} {t : List Nat} {c : List mE} {ls : mL} {st : List mV} {h : mH} {j : Nat} : denB M sL post L b ((pc, .getfield j, n, [2, 5]) :: c) ls ((.inr (.inr (.inr 2))) :: st) h = (denB M sL post L b c ls (.inl (h (.inr 2) 5) :: st) h) := rfl
theorem ev_sipush_m1005 {M : mK} {sL : Nat} {post : mP} {L : Nat → mC} {b pc n : Nat} {t : List Nat} {c : List mE} {ls : mL} {st : List mV} {h : mH}  : denB M sL post L b ((pc, .sipush (-1005), n, t) :: c) ls st h = (denB M sL post L b c ls (.inl (-1005 : Int32) :: st) h) := rfl
theorem ev_iald_o3 {M : mK} {sL : Nat} {post : mP} {L : Nat → mC} {b pc n : Nat} {t : List Nat} {c : List mE} {ls : mL} {st : List mV} {h : mH}  {x : Int32} : denB M sL post L b ((pc, .iaload, n, t) :: c) ls (.inl x :: (.inr (.inr (.inr 3))) :: st) h = (vp_in x 4 ∧ denB M sL post L b c ls (.inl (h (.inr 3) x.toNatClampNeg) :: st) h) := rfl
theorem ev_iast_o3 {M : mK} {sL : Nat} {post : mP} {L : Nat → mC} {b pc n : Nat} {t : List Nat} {c : List mE} {ls : mL} {st : List mV} {h : mH}  {x v : Int32} : denB M sL post L b ((pc, .iastore, n, t) :: c) ls (.inl v :: .inl x :: (.inr (.inr (.inr 3))) :: st) h = (vp_in x 4 ∧ denB M sL post L b c ls st (hup h (.inr 3) x.toNatClampNeg v)) := rfl
theorem ev_sipush_m1002 {M : mK} {sL : Nat} {post : mP} {L : Nat → mC} {b pc n : Nat} {t : List Nat} {c : List mE} {ls : mL} {st : List mV} {h : mH}  : denB M sL post L b ((pc, .sipush (-1002), n, t) :: c) ls st h = (denB M sL post L b c ls (.inl (-1002 : Int32) :: st) h) := rfl
theorem ev_callv_3_0_0 {M : mK} {sL : Nat} {post : mP} {L : Nat → mC} {b pc n : Nat} {t : List Nat} {c : List mE} {ls : mL} {st : List mV} {h : mH} {j u y : Nat} {v0 v1 v2 : mV} : denB M sL post L b ((pc, .invokevirtual j, n, [u, y, 3, 0]) :: c) ls [v2, v1, v0] h = (mU M y [v0, v1, v2] h (fun h' => denB M sL post L b c ls [] h')) := rfl
theorem ev_callv_3_1_0 {M : mK} {sL : Nat} {post : mP} {L : Nat → mC} {b pc n : Nat} {t : List Nat} {c : List mE} {ls : mL} {st : List mV} {h : mH} {j u y : Nat} {v0 v1 v2 w0 : mV} : denB M sL post L b ((pc, .invokevirtual j, n, [u, y, 3, 0]) :: c) ls [v2, v1, v0, w0] h = (mU M y [v0, v1, v2] h (fun h' => denB M sL post L b c ls [w0] h')) := rfl
theorem ev_callv_3_2_0 {M : mK} {sL : Nat} {post : mP} {L : Nat → mC} {b pc n : Nat} {t : List Nat} {c : List mE} {ls : mL} {st : List mV} {h : mH} {j u y : Nat} {v0 v1 v2 w0 w1 : mV} : denB M sL post L b ((pc, .invokevirtual j, n, [u, y, 3, 0]) :: c) ls [v2, v1, v0, w0, w1] h = (mU M y [v0, v1, v2] h (fun h' => denB M sL post L b c ls [w0, w1] h')) := rfl
theorem ev_callv_3_3_0 {M : mK} {sL : Nat} {post : mP} {L : Nat → mC} {b pc n : Nat} {t : List Nat} {c : List mE} {ls : mL} {st : List mV} {h : mH} {j u y : Nat} {v0 v1 v2 w0 w1 w2 : mV} : denB M sL post L b ((pc, .invokevirtual j, n, [u, y, 3, 0]) :: c) ls [v2, v1, v0, w0, w1, w2] h = (mU M y [v0, v1, v2] h (fun h' => denB M sL post L b c ls [w0, w1, w2] h')) := rfl
theorem ev_callv_3_4_0 {M : mK} {sL : Nat} {post : mP} {L : Nat → mC} {b pc n : Nat} {t : List Nat} {c : List mE} {ls : mL} {st : List mV} {h : mH} {j u y : Nat} {v0 v1 v2 w0 w1 w2 w3 : mV} : denB M sL post L b ((pc, .invokevirtual j, n, [u, y, 3, 0]) :: c) ls [v2, v1, v0, w0, w1, w2, w3] h = (mU M y [v0, v1, v2] h (fun h' => denB M sL post L b c ls [w0, w1, w2, w3] h')) := rfl
theorem ev_getf_2_1 {M : mK} {sL : Nat} {post : mP} {L : Nat → mC} {b pc n : Nat} {t : List Nat} {c : List mE} {ls : mL} {st : List mV} {h : mH} {j : Nat} : denB M sL post L b ((pc, .getfield j, n, [2, 1]) :: c) ls ((.inr (.inr (.inr 2))) :: st) h = (denB M sL post L b c ls (.inl (h (.inr 2) 1) :: st) h) := rfl
theorem ev_tsw_0_8 {M : mK} {sL : Nat} {post : mP} {L : Nat → mC} {b pc n : Nat} {t : List Nat} {c : List mE} {ls : mL} {st : List mV} {h : mH} {d hi : Int} {os : Array Int} {kd k0 k1 k2 k3 k4 k5 k6 k7 : Nat} {x : Int32} : denB M sL post L b ((pc, .tableswitch d 0 hi os, n, [kd, k0, k1, k2, k3, k4, k5, k6, k7]) :: c) ls (.inl x :: st) h = ((x = (nI 0) → L k0 ls st h) ∧ (¬ x = (nI 0) → (x = (nI 1) → L k1 ls st h) ∧ (¬ x = (nI 1) → (x = (nI 2) → L k2 ls st h) ∧ (¬ x = (nI 2) → (x = (nI 3) → L k3 ls st h) ∧ (¬ x = (nI 3) → (x = (nI 4) → L k4 ls st h) ∧ (¬ x = (nI 4) → (x = (nI 5) → L k5 ls st h) ∧ (¬ x = (nI 5) → (x = (nI 6) → L k6 ls st h) ∧ (¬ x = (nI 6) → (x = (nI 7) → L k7 ls st h) ∧ (¬ x = (nI 7) → L kd ls st h))))))))) := rfl
theorem ev_getf_2_2 {M : mK} {sL : Nat} {post : mP} {L : Nat → mC} {b pc n : Nat} {t : List Nat} {c : List mE} {ls : mL} {st : List mV} {h : mH} {j : Nat} : denB M sL post L b ((pc, .getfield j, n, [2, 2]) :: c) ls ((.inr (.inr (.inr 2))) :: st) h = (denB M sL post L b c ls (.inl (h (.inr 2) 2) :: st) h) := rfl
theorem ev_getf_2_3 {M : mK} {sL : Nat} {post : mP} {L : Nat → mC} {b pc n : Nat} {t : List Nat} {c : List mE} {ls : mL} {st : List mV} {h : mH} {j : Nat} : denB M sL post L b ((pc, .getfield j, n, [2, 3]) :: c) ls ((.inr (.inr (.inr 2))) :: st) h = (denB M sL post L b c ls (.inl (h (.inr 2) 3) :: st) h) := rfl
theorem ev_getf_2_4 {M : mK} {sL : Nat} {post : mP} {L : Nat → mC} {b pc n : Nat} {t : List Nat} {c : List mE} {ls : mL} {st : List mV} {h : mH} {j : Nat} : denB M sL post L b ((pc, .getfield j, n, [2, 4]) :: c) ls ((.inr (.inr (.inr 2))) :: st) h = (denB M sL post L b c ls (.inl (h (.inr 2) 4) :: st) h) := rfl
theorem ev_callv_4_0_0 {M : mK} {sL : Nat} {post : mP} {L : Nat → mC} {b pc n : Nat} {t : List Nat} {c : List mE} {ls : mL} {st : List mV} {h : mH} {j u y : Nat} {v0 v1 v2 v3 : mV} : denB M sL post L b ((pc, .invokevirtual j, n, [u, y, 4, 0]) :: c) ls [v3, v2, v1, v0] h = (mU M y [v0, v1, v2, v3] h (fun h' => denB M sL post L b c ls [] h')) := rfl
theorem ev_callv_4_1_0 {M : mK} {sL : Nat} {post : mP} {L : Nat → mC} {b pc n : Nat} {t : List Nat} {c : List mE} {ls : mL} {st : List mV} {h : mH} {j u y : Nat} {v0 v1 v2 v3 w0 : mV} : denB M sL post L b ((pc, .invokevirtual j, n, [u, y, 4, 0]) :: c) ls [v3, v2, v1, v0, w0] h = (mU M y [v0, v1, v2, v3] h (fun h' => denB M sL post L b c ls [w0] h')) := rfl
theorem ev_callv_4_2_0 {M : mK} {sL : Nat} {post : mP} {L : Nat → mC} {b pc n : Nat} {t : List Nat} {c : List mE} {ls : mL} {st : List mV} {h : mH} {j u y : Nat} {v0 v1 v2 v3 w0 w1 : mV} : denB M sL post L b ((pc, .invokevirtual j, n, [u, y, 4, 0]) :: c) ls [v3, v2, v1, v0, w0, w1] h = (mU M y [v0, v1, v2, v3] h (fun h' => denB M sL post L b c ls [w0, w1] h')) := rfl
theorem ev_callv_4_3_0 {M : mK} {sL : Nat} {post : mP} {L : Nat → mC} {b pc n : Nat} {t : List Nat} {c : List mE} {ls : mL} {st : List mV} {h : mH} {j u y : Nat} {v0 v1 v2 v3 w0 w1 w2 : mV} : denB M sL post L b ((pc, .invokevirtual j, n, [u, y, 4, 0]) :: c) ls [v3, v2, v1, v0, w0, w1, w2] h = (mU M y [v0, v1, v2, v3] h (fun h' => denB M sL post L b c ls [w0, w1, w2] h')) := rfl
theorem ev_callv_4_4_0 {M : mK} {sL : Nat} {post : mP} {L : Nat → mC} {b pc n : Nat} {t : List Nat} {c : List mE} {ls : mL} {st : List mV} {h : mH} {j u y : Nat} {v0 v1 v2 v3 w0 w1 w2 w3 : mV} : denB M sL post L b ((pc, .invokevirtual j, n, [u, y, 4, 0]) :: c) ls [v3, v2, v1, v0, w0, w1, w2, w3] h = (mU M y [v0, v1, v2, v3] h (fun h' => denB M sL post L b c ls [w0, w1, w2, w3] h')) := rfl
theorem ev_getf_2_8 {M : mK} {sL : Nat} {post : mP} {L : Nat → mC} {b pc n : Nat} {t : List Nat} {c : List mE} {ls : mL} {st : List mV} {h : mH} {j : Nat} : denB M sL post L b ((pc, .getfield j, n, [2, 8]) :: c) ls ((.inr (.inr (.inr 2))) :: st) h = (denB M sL post L b c ls (.inr (.inr (.inr 3)) :: st) h) := rfl
theorem ev_calls_1_0_1 {M : mK} {sL : Nat} {post : mP} {L : Nat → mC} {b pc n : Nat} {t : List Nat} {c : List mE} {ls : mL} {st : List mV} {h : mH} {j u y : Nat} {v0 : mV} : denB M sL post L b ((pc, .invokestatic j, n, [u, y, 1, 1]) :: c) ls [v0] h = (mI M y [v0] h (fun x h' => denB M sL post L b c ls [.inl x] h')) := rfl
theorem ev_calls_1_1_1 {M : mK} {sL : Nat} {post : mP} {L : Nat → mC} {b pc n : Nat} {t : List Nat} {c : List mE} {ls : mL} {st : List mV} {h : mH} {j u y : Nat} {v0 w0 : mV} : denB M sL post L b ((pc, .invokestatic j, n, [u, y, 1, 1]) :: c) ls [v0, w0] h = (mI M y [v0] h (fun x h' => denB M sL post L b c ls [.inl x, w0] h')) := rfl
theorem ev_calls_1_2_1 {M : mK} {sL : Nat} {post : mP} {L : Nat → mC} {b pc n : Nat} {t : List Nat} {c : List mE} {ls : mL} {st : List mV} {h : mH} {j u y : Nat} {v0 w0 w1 : mV} : denB M sL post L b ((pc, .invokestatic j, n, [u, y, 1, 1]) :: c) ls [v0, w0, w1] h = (mI M y [v0] h (fun x h' => denB M sL post L b c ls [.inl x, w0, w1] h')) := rfl
theorem ev_calls_1_3_1 {M : mK} {sL : Nat} {post : mP} {L : Nat → mC} {b pc n : Nat} {t : List Nat} {c : List mE} {ls : mL} {st : List mV} {h : mH} {j u y : Nat} {v0 w0 w1 w2 : mV} : denB M sL post L b ((pc, .invokestatic j, n, [u, y, 1, 1]) :: c) ls [v0, w0, w1, w2] h = (mI M y [v0] h (fun x h' => denB M sL post L b c ls [.inl x, w0, w1, w2] h')) := rfl
theorem ev_calls_1_4_1 {M : mK} {sL : Nat} {post : mP} {L : Nat → mC} {b pc n : Nat} {t : List Nat} {c : List mE} {ls : mL} {st : List mV} {h : mH} {j u y : Nat} {v0 w0 w1 w2 w3 : mV} : denB M sL post L b ((pc, .invokestatic j, n, [u, y, 1, 1]) :: c) ls [v0, w0, w1, w2, w3] h = (mI M y [v0] h (fun x h' => denB M sL post L b c ls [.inl x, w0, w1, w2, w3] h')) := rfl
theorem ev_ldc_1000000 {M : mK} {sL : Nat} {post : mP} {L : Nat → mC} {b pc n : Nat} {t : List Nat} {c : List mE} {ls : mL} {st : List mV} {h : mH} {j : Nat} : denB M sL post L b ((pc, .ldc j, n, [0, 1000000]) :: c) ls st h = (denB M sL post L b c ls (.inl (nI 1000000) :: st) h) := rfl
theorem ev_istore_7 {M : mK} {sL : Nat} {post : mP} {L : Nat → mC} {b pc n : Nat} {t : List Nat} {c : List mE} {ls : mL} {st : List mV} {h : mH} {a0 a1 a2 a3 a4 a5 a6 : Option mV} {l : mL} {y : Option mV} {x : Int32} : denB M sL post L b ((pc, .istore 7, n, t) :: c) (a0 :: a1 :: a2 :: a3 :: a4 :: a5 :: a6 :: y :: l) (.inl x :: st) h = (denB M sL post L b c (a0 :: a1 :: a2 :: a3 :: a4 :: a5 :: a6 :: some (.inl x) :: l) st h) := rfl
theorem ev_istore_8 {M : mK} {sL : Nat} {post : mP} {L : Nat → mC} {b pc n : Nat} {t : List Nat} {c : List mE} {ls : mL} {st : List mV} {h : mH} {a0 a1 a2 a3 a4 a5 a6 a7 : Option mV} {l : mL} {y : Option mV} {x : Int32} : denB M sL post L b ((pc, .istore 8, n, t) :: c) (a0 :: a1 :: a2 :: a3 :: a4 :: a5 :: a6 :: a7 :: y :: l) (.inl x :: st) h = (denB M sL post L b c (a0 :: a1 :: a2 :: a3 :: a4 :: a5 :: a6 :: a7 :: some (.inl x) :: l) st h) := rfl
theorem ev_istore_9 {M : mK} {sL : Nat} {post : mP} {L : Nat → mC} {b pc n : Nat} {t : List Nat} {c : List mE} {ls : mL} {st : List mV} {h : mH} {a0 a1 a2 a3 a4 a5 a6 a7 a8 : Option mV} {l : mL} {y : Option mV} {x : Int32} : denB M sL post L b ((pc, .istore 9, n, t) :: c) (a0 :: a1 :: a2 :: a3 :: a4 :: a5 :: a6 :: a7 :: a8 :: y :: l) (.inl x :: st) h = (denB M sL post L b c (a0 :: a1 :: a2 :: a3 :: a4 :: a5 :: a6 :: a7 :: a8 :: some (.inl x) :: l) st h) := rfl
theorem ev_iload_9 {M : mK} {sL : Nat} {post : mP} {L : Nat → mC} {b pc n : Nat} {t : List Nat} {c : List mE} {ls : mL} {st : List mV} {h : mH} {a0 a1 a2 a3 a4 a5 a6 a7 a8 : Option mV} {l : mL} {x : Int32} : denB M sL post L b ((pc, .iload 9, n, t) :: c) (a0 :: a1 :: a2 :: a3 :: a4 :: a5 :: a6 :: a7 :: a8 :: some (.inl x) :: l) st h = (denB M sL post L b c (a0 :: a1 :: a2 :: a3 :: a4 :: a5 :: a6 :: a7 :: a8 :: some (.inl x) :: l) (.inl x :: st) h) := rfl
theorem ev_iload_8 {M : mK} {sL : Nat} {post : mP} {L : Nat → mC} {b pc n : Nat} {t : List Nat} {c : List mE} {ls : mL} {st : List mV} {h : mH} {a0 a1 a2 a3 a4 a5 a6 a7 : Option mV} {l : mL} {x : Int32} : denB M sL post L b ((pc, .iload 8, n, t) :: c) (a0 :: a1 :: a2 :: a3 :: a4 :: a5 :: a6 :: a7 :: some (.inl x) :: l) st h = (denB M sL post L b c (a0 :: a1 :: a2 :: a3 :: a4 :: a5 :: a6 :: a7 :: some (.inl x) :: l) (.inl x :: st) h) := rfl
theorem ev_iinc_9_1 {M : mK} {sL : Nat} {post : mP} {L : Nat → mC} {b pc n : Nat} {t : List Nat} {c : List mE} {ls : mL} {st : List mV} {h : mH} {a0 a1 a2 a3 a4 a5 a6 a7 a8 : Option mV} {l : mL} {x : Int32} : denB M sL post L b ((pc, .iinc 9 1, n, t) :: c) (a0 :: a1 :: a2 :: a3 :: a4 :: a5 :: a6 :: a7 :: a8 :: some (.inl x) :: l) st h = (denB M sL post L b c (a0 :: a1 :: a2 :: a3 :: a4 :: a5 :: a6 :: a7 :: a8 :: some (.inl (x + (nI 1))) :: l) st h) := rfl
theorem ev_iload_7 {M : mK} {sL : Nat} {post : mP} {L : Nat → mC} {b pc n : Nat} {t : List Nat} {c : List mE} {ls : mL} {st : List mV} {h : mH} {a0 a1 a2 a3 a4 a5 a6 : Option mV} {l : mL} {x : Int32} : denB M sL post L b ((pc, .iload 7, n, t) :: c) (a0 :: a1 :: a2 :: a3 :: a4 :: a5 :: a6 :: some (.inl x) :: l) st h = (denB M sL post L b c (a0 :: a1 :: a2 :: a3 :: a4 :: a5 :: a6 :: some (.inl x) :: l) (.inl x :: st) h) := rfl
theorem ev_calls_4_0_0 {M : mK} {sL : Nat} {post : mP} {L : Nat → mC} {b pc n : Nat} {t : List Nat} {c : List mE} {ls : mL} {st : List mV} {h : mH} {j u y : Nat} {v0 v1 v2 v3 : mV} : denB M sL post L b ((pc, .invokestatic j, n, [u, y, 4, 0]) :: c) ls [v3, v2, v1, v0] h = (mU M y [v0, v1, v2, v3] h (fun h' => denB M sL post L b c ls [] h')) := rfl
theorem ev_calls_4_1_0 {M : mK} {sL : Nat} {post : mP} {L : Nat → mC} {b pc n : Nat} {t : List Nat} {c : List mE} {ls : mL} {st : List mV} {h : mH} {j u y : Nat} {v0 v1 v2 v3 w0 : mV} : denB M sL post L b ((pc, .invokestatic j, n, [u, y, 4, 0]) :: c) ls [v3, v2, v1, v0, w0] h = (mU M y [v0, v1, v2, v3] h (fun h' => denB M sL post L b c ls [w0] h')) := rfl
theorem ev_calls_4_2_0 {M : mK} {sL : Nat} {post : mP} {L : Nat → mC} {b pc n : Nat} {t : List Nat} {c : List mE} {ls : mL} {st : List mV} {h : mH} {j u y : Nat} {v0 v1 v2 v3 w0 w1 : mV} : denB M sL post L b ((pc, .invokestatic j, n, [u, y, 4, 0]) :: c) ls [v3, v2, v1, v0, w0, w1] h = (mU M y [v0, v1, v2, v3] h (fun h' => denB M sL post L b c ls [w0, w1] h')) := rfl
theorem ev_calls_4_3_0 {M : mK} {sL : Nat} {post : mP} {L : Nat → mC} {b pc n : Nat} {t : List Nat} {c : List mE} {ls : mL} {st : List mV} {h : mH} {j u y : Nat} {v0 v1 v2 v3 w0 w1 w2 : mV} : denB M sL post L b ((pc, .invokestatic j, n, [u, y, 4, 0]) :: c) ls [v3, v2, v1, v0, w0, w1, w2] h = (mU M y [v0, v1, v2, v3] h (fun h' => denB M sL post L b c ls [w0, w1, w2] h')) := rfl
theorem ev_calls_4_4_0 {M : mK} {sL : Nat} {post : mP} {L : Nat → mC} {b pc n : Nat} {t : List Nat} {c : List mE} {ls : mL} {st : List mV} {h : mH} {j u y : Nat} {v0 v1 v2 v3 w0 w1 w2 w3 : mV} : denB M sL post L b ((pc, .invokestatic j, n, [u, y, 4, 0]) :: c) ls [v3, v2, v1, v0, w0, w1, w2, w3] h = (mU M y [v0, v1, v2, v3] h (fun h' => denB M sL post L b c ls [w0, w1, w2, w3] h')) := rfl
theorem ev_callv_4_0_1 {M : mK} {sL : Nat} {post : mP} {L : Nat → mC} {b pc n : Nat} {t : List Nat} {c : List mE} {ls : mL} {st : List mV} {h : mH} {j u y : Nat} {v0 v1 v2 v3 : mV} : denB M sL post L b ((pc, .invokevirtual j, n, [u, y, 4, 1]) :: c) ls [v3, v2, v1, v0] h = (mI M y [v0, v1, v2, v3] h (fun x h' => denB M sL post L b c ls [.inl x] h')) := rfl
theorem ev_callv_4_1_1 {M : mK} {sL : Nat} {post : mP} {L : Nat → mC} {b pc n : Nat} {t : List Nat} {c : List mE} {ls : mL} {st : List mV} {h : mH} {j u y : Nat} {v0 v1 v2 v3 w0 : mV} : denB M sL post L b ((pc, .invokevirtual j, n, [u, y, 4, 1]) :: c) ls [v3, v2, v1, v0, w0] h = (mI M y [v0, v1, v2, v3] h (fun x h' => denB M sL post L b c ls [.inl x, w0] h')) := rfl
theorem ev_callv_4_2_1 {M : mK} {sL : Nat} {post : mP} {L : Nat → mC} {b pc n : Nat} {t : List Nat} {c : List mE} {ls : mL} {st : List mV} {h : mH} {j u y : Nat} {v0 v1 v2 v3 w0 w1 : mV} : denB M sL post L b ((pc, .invokevirtual j, n, [u, y, 4, 1]) :: c) ls [v3, v2, v1, v0, w0, w1] h = (mI M y [v0, v1, v2, v3] h (fun x h' => denB M sL post L b c ls [.inl x, w0, w1] h')) := rfl
theorem ev_callv_4_3_1 {M : mK} {sL : Nat} {post : mP} {L : Nat → mC} {b pc n : Nat} {t : List Nat} {c : List mE} {ls : mL} {st : List mV} {h : mH} {j u y : Nat} {v0 v1 v2 v3 w0 w1 w2 : mV} : denB M sL post L b ((pc, .invokevirtual j, n, [u, y, 4, 1]) :: c) ls [v3, v2, v1, v0, w0, w1, w2] h = (mI M y [v0, v1, v2, v3] h (fun x h' => denB M sL post L b c ls [.inl x, w0, w1, w2] h')) := rfl
theorem ev_callv_4_4_1 {M : mK} {sL : Nat} {post : mP} {L : Nat → mC} {b pc n : Nat} {t : List Nat} {c : List mE} {ls : mL} {st : List mV} {h : mH} {j u y : Nat} {v0 v1 v2 v3 w0 w1 w2 w3 : mV} : denB M sL post L b ((pc, .invokevirtual j, n, [u, y, 4, 1]) :: c) ls [v3, v2, v1, v0, w0, w1, w2, w3] h = (mI M y [v0, v1, v2, v3] h (fun x h' => denB M sL post L b c ls [.inl x, w0, w1, w2, w3] h')) := rfl
theorem ev_getf_3_0 {M : mK} {sL : Nat} {post : mP} {L : Nat → mC} {b pc n : Nat} {t : List Nat} {c : List mE} {ls : mL} {st : List mV} {h : mH} {j : Nat} : denB M sL post L b ((pc, .getfield j, n, [3, 0]) :: c) ls ((.inr (.inr (.inr 0))) :: st) h = (denB M sL post L b c ls (.inr (.inr (.inl (0, 0))) :: st) h) := rfl
theorem ev_sipush_m1001 {M : mK} {sL : Nat} {post : mP} {L : Nat → mC} {b pc n : Nat} {t : List Nat} {c : List mE} {ls : mL} {st : List mV} {h : mH}  : denB M sL post L b ((pc, .sipush (-1001), n, t) :: c) ls st h = (denB M sL post L b c ls (.inl (-1001 : Int32) :: st) h) := rfl
theorem ev_tsw_0_4 {M : mK} {sL : Nat} {post : mP} {L : Nat → mC} {b pc n : Nat} {t : List Nat} {c : List mE} {ls : mL} {st : List mV} {h : mH} {d hi : Int} {os : Array Int} {kd k0 k1 k2 k3 : Nat} {x : Int32} : denB M sL post L b ((pc, .tableswitch d 0 hi os, n, [kd, k0, k1, k2, k3]) :: c) ls (.inl x :: st) h = ((x = (nI 0) → L k0 ls st h) ∧ (¬ x = (nI 0) → (x = (nI 1) → L k1 ls st h) ∧ (¬ x = (nI 1) → (x = (nI 2) → L k2 ls st h) ∧ (¬ x = (nI 2) → (x = (nI 3) → L k3 ls st h) ∧ (¬ x = (nI 3) → L kd ls st h))))) := rfl
theorem ev_iald_o1 {M : mK} {sL : Nat} {post : mP} {L : Nat → mC} {b pc n : Nat} {t : List Nat} {c : List mE} {ls : mL} {st : List mV} {h : mH}  {x : Int32} : denB M sL post L b ((pc, .iaload, n, t) :: c) ls (.inl x :: (.inr (.inr (.inr 1))) :: st) h = (vp_in x 4 ∧ denB M sL post L b c ls (.inl (h (.inr 1) x.toNatClampNeg) :: st) h) := rfl
theorem ev_bipush_31 {M : mK} {sL : Nat} {post : mP} {L : Nat → mC} {b pc n : Nat} {t : List Nat} {c : List mE} {ls : mL} {st : List mV} {h : mH}  : denB M sL post L b ((pc, .bipush 31, n, t) :: c) ls st h = (denB M sL post L b c ls (.inl (nI 31) :: st) h) := rfl
theorem ev_callv_5_0_1 {M : mK} {sL : Nat} {post : mP} {L : Nat → mC} {b pc n : Nat} {t : List Nat} {c : List mE} {ls : mL} {st : List mV} {h : mH} {j u y : Nat} {v0 v1 v2 v3 v4 : mV} : denB M sL post L b ((pc, .invokevirtual j, n, [u, y, 5, 1]) :: c) ls [v4, v3, v2, v1, v0] h = (mI M y [v0, v1, v2, v3, v4] h (fun x h' => denB M sL post L b c ls [.inl x] h')) := rfl
theorem ev_callv_5_1_1 {M : mK} {sL : Nat} {post : mP} {L : Nat → mC} {b pc n : Nat} {t : List Nat} {c : List mE} {ls : mL} {st : List mV} {h : mH} {j u y : Nat} {v0 v1 v2 v3 v4 w0 : mV} : denB M sL post L b ((pc, .invokevirtual j, n, [u, y, 5, 1]) :: c) ls [v4, v3, v2, v1, v0, w0] h = (mI M y [v0, v1, v2, v3, v4] h (fun x h' => denB M sL post L b c ls [.inl x, w0] h')) := rfl
theorem ev_callv_5_2_1 {M : mK} {sL : Nat} {post : mP} {L : Nat → mC} {b pc n : Nat} {t : List Nat} {c : List mE} {ls : mL} {st : List mV} {h : mH} {j u y : Nat} {v0 v1 v2 v3 v4 w0 w1 : mV} : denB M sL post L b ((pc, .invokevirtual j, n, [u, y, 5, 1]) :: c) ls [v4, v3, v2, v1, v0, w0, w1] h = (mI M y [v0, v1, v2, v3, v4] h (fun x h' => denB M sL post L b c ls [.inl x, w0, w1] h')) := rfl
theorem ev_callv_5_3_1 {M : mK} {sL : Nat} {post : mP} {L : Nat → mC} {b pc n : Nat} {t : List Nat} {c : List mE} {ls : mL} {st : List mV} {h : mH} {j u y : Nat} {v0 v1 v2 v3 v4 w0 w1 w2 : mV} : denB M sL post L b ((pc, .invokevirtual j, n, [u, y, 5, 1]) :: c) ls [v4, v3, v2, v1, v0, w0, w1, w2] h = (mI M y [v0, v1, v2, v3, v4] h (fun x h' => denB M sL post L b c ls [.inl x, w0, w1, w2] h')) := rfl
theorem ev_callv_5_4_1 {M : mK} {sL : Nat} {post : mP} {L : Nat → mC} {b pc n : Nat} {t : List Nat} {c : List mE} {ls : mL} {st : List mV} {h : mH} {j u y : Nat} {v0 v1 v2 v3 v4 w0 w1 w2 w3 : mV} : denB M sL post L b ((pc, .invokevirtual j, n, [u, y, 5, 1]) :: c) ls [v4, v3, v2, v1, v0, w0, w1, w2, w3] h = (mI M y [v0, v1, v2, v3, v4] h (fun x h' => denB M sL post L b c ls [.inl x, w0, w1, w2, w3] h')) := rfl
theorem ev_iconst_2 {M : mK} {sL : Nat} {post : mP} {L : Nat → mC} {b pc n : Nat} {t : List Nat} {c : List mE} {ls : mL} {st : List mV} {h : mH}  : denB M sL post L b ((pc, .iconst 2, n, t) :: c) ls st h = (denB M sL post L b c ls (.inl (nI 2) :: st) h) := rfl
theorem ev_iconst_5 {M : mK} {sL : Nat} {post : mP} {L : Nat → mC} {b pc n : Nat} {t : List Nat} {c : List mE} {ls : mL} {st : List mV} {h : mH}  : denB M sL post L b ((pc, .iconst 5, n, t) :: c) ls st h = (denB M sL post L b c ls (.inl (nI 5) :: st) h) := rfl
theorem ev_bipush_7 {M : mK} {sL : Nat} {post : mP} {L : Nat → mC} {b pc n : Nat} {t : List Nat} {c : List mE} {ls : mL} {st : List mV} {h : mH}  : denB M sL post L b ((pc, .bipush 7, n, t) :: c) ls st h = (denB M sL post L b c ls (.inl (nI 7) :: st) h) := rfl
theorem ev_sipush_999 {M : mK} {sL : Nat} {post : mP} {L : Nat → mC} {b pc n : Nat} {t : List Nat} {c : List mE} {ls : mL} {st : List mV} {h : mH}  : denB M sL post L b ((pc, .sipush 999, n, t) :: c) ls st h = (denB M sL post L b c ls (.inl (nI 999) :: st) h) := rfl
theorem ev_tsw_0_6 {M : mK} {sL : Nat} {post : mP} {L : Nat → mC} {b pc n : Nat} {t : List Nat} {c : List mE} {ls : mL} {st : List mV} {h : mH} {d hi : Int} {os : Array Int} {kd k0 k1 k2 k3 k4 k5 : Nat} {x : Int32} : denB M sL post L b ((pc, .tableswitch d 0 hi os, n, [kd, k0, k1, k2, k3, k4, k5]) :: c) ls (.inl x :: st) h = ((x = (nI 0) → L k0 ls st h) ∧ (¬ x = (nI 0) → (x = (nI 1) → L k1 ls st h) ∧ (¬ x = (nI 1) → (x = (nI 2) → L k2 ls st h) ∧ (¬ x = (nI 2) → (x = (nI 3) → L k3 ls st h) ∧ (¬ x = (nI 3) → (x = (nI 4) → L k4 ls st h) ∧ (¬ x = (nI 4) → (x = (nI 5) → L k5 ls st h) ∧ (¬ x = (nI 5) → L kd ls st h))))))) := rfl
theorem ev_bipush_99 {M : mK} {sL : Nat} {post : mP} {L : Nat → mC} {b pc n : Nat} {t : List Nat} {c : List mE} {ls : mL} {st : List mV} {h : mH}  : denB M sL post L b ((pc, .bipush 99, n, t) :: c) ls st h = (denB M sL post L b c ls (.inl (nI 99) :: st) h) := rfl
theorem ev_iast_o1 {M : mK} {sL : Nat} {post : mP} {L : Nat → mC} {b pc n : Nat} {t : List Nat} {c : List mE} {ls : mL} {st : List mV} {h : mH}  {x v : Int32} : denB M sL post L b ((pc, .iastore, n, t) :: c) ls (.inl v :: .inl x :: (.inr (.inr (.inr 1))) :: st) h = (vp_in x 4 ∧ denB M sL post L b c ls st (hup h (.inr 1) x.toNatClampNeg v)) := rfl
theorem ev_callv_1_0_2 {M : mK} {sL : Nat} {post : mP} {L : Nat → mC} {b pc n : Nat} {t : List Nat} {c : List mE} {ls : mL} {st : List mV} {h : mH} {j u y : Nat} {v0 : mV} : denB M sL post L b ((pc, .invokevirtual j, n, [u, y, 1, 2]) :: c) ls [v0] h = (mG M y [v0] h (fun x h' => denB M sL post L b c ls [.inr (.inl x)] h')) := rfl
theorem ev_callv_1_1_2 {M : mK} {sL : Nat} {post : mP} {L : Nat → mC} {b pc n : Nat} {t : List Nat} {c : List mE} {ls : mL} {st : List mV} {h : mH} {j u y : Nat} {v0 w0 : mV} : denB M sL post L b ((pc, .invokevirtual j, n, [u, y, 1, 2]) :: c) ls [v0, w0] h = (mG M y [v0] h (fun x h' => denB M sL post L b c ls [.inr (.inl x), w0] h')) := rfl
theorem ev_callv_1_2_2 {M : mK} {sL : Nat} {post : mP} {L : Nat → mC} {b pc n : Nat} {t : List Nat} {c : List mE} {ls : mL} {st : List mV} {h : mH} {j u y : Nat} {v0 w0 w1 : mV} : denB M sL post L b ((pc, .invokevirtual j, n, [u, y, 1, 2]) :: c) ls [v0, w0, w1] h = (mG M y [v0] h (fun x h' => denB M sL post L b c ls [.inr (.inl x), w0, w1] h')) := rfl
theorem ev_callv_1_3_2 {M : mK} {sL : Nat} {post : mP} {L : Nat → mC} {b pc n : Nat} {t : List Nat} {c : List mE} {ls : mL} {st : List mV} {h : mH} {j u y : Nat} {v0 w0 w1 w2 : mV} : denB M sL post L b ((pc, .invokevirtual j, n, [u, y, 1, 2]) :: c) ls [v0, w0, w1, w2] h = (mG M y [v0] h (fun x h' => denB M sL post L b c ls [.inr (.inl x), w0, w1, w2] h')) := rfl
theorem ev_callv_1_4_2 {M : mK} {sL : Nat} {post : mP} {L : Nat → mC} {b pc n : Nat} {t : List Nat} {c : List mE} {ls : mL} {st : List mV} {h : mH} {j u y : Nat} {v0 w0 w1 w2 w3 : mV} : denB M sL post L b ((pc, .invokevirtual j, n, [u, y, 1, 2]) :: c) ls [v0, w0, w1, w2, w3] h = (mG M y [v0] h (fun x h' => denB M sL post L b c ls [.inr (.inl x), w0, w1, w2, w3] h')) := rfl
theorem ev_ldc2_18446744073709551615 {M : mK} {sL : Nat} {post : mP} {L : Nat → mC} {b pc n : Nat} {t : List Nat} {c : List mE} {ls : mL} {st : List mV} {h : mH} {j : Nat} : denB M sL post L b ((pc, .ldc2_w j, n, [18446744073709551615]) :: c) ls st h = (denB M sL post L b c ls (.inr (.inl (lN 18446744073709551615)) :: st) h) := rfl
theorem ev_lxor {M : mK} {sL : Nat} {post : mP} {L : Nat → mC} {b pc n : Nat} {t : List Nat} {c : List mE} {ls : mL} {st : List mV} {h : mH} {x y : Int64} : denB M sL post L b ((pc, .lxor, n, t) :: c) ls (.inr (.inl y) :: .inr (.inl x) :: st) h = (denB M sL post L b c ls (.inr (.inl (x ^^^ y)) :: st) h) := rfl
theorem ev_lcmp {M : mK} {sL : Nat} {post : mP} {L : Nat → mC} {b pc n : Nat} {t : List Nat} {c : List mE} {ls : mL} {st : List mV} {h : mH} {x y : Int64} : denB M sL post L b ((pc, .lcmp, n, t) :: c) ls (.inr (.inl y) :: .inr (.inl x) :: st) h = (denB M sL post L b c ls (.inl (lg_cmp x y) :: st) h) := rfl
theorem ev_getf_3_2 {M : mK} {sL : Nat} {post : mP} {L : Nat → mC} {b pc n : Nat} {t : List Nat} {c : List mE} {ls : mL} {st : List mV} {h : mH} {j : Nat} : denB M sL post L b ((pc, .getfield j, n, [3, 2]) :: c) ls ((.inr (.inr (.inr 0))) :: st) h = (denB M sL post L b c ls (.inr (.inr (.inr 2)) :: st) h) := rfl
theorem ev_sipush_m1003 {M : mK} {sL : Nat} {post : mP} {L : Nat → mC} {b pc n : Nat} {t : List Nat} {c : List mE} {ls : mL} {st : List mV} {h : mH}  : denB M sL post L b ((pc, .sipush (-1003), n, t) :: c) ls st h = (denB M sL post L b c ls (.inl (-1003 : Int32) :: st) h) := rfl
theorem ev_getf_3_3 {M : mK} {sL : Nat} {post : mP} {L : Nat → mC} {b pc n : Nat} {t : List Nat} {c : List mE} {ls : mL} {st : List mV} {h : mH} {j : Nat} : denB M sL post L b ((pc, .getfield j, n, [3, 3]) :: c) ls ((.inr (.inr (.inr 0))) :: st) h = (denB M sL post L b c ls (.inr (.inr (.inr 4)) :: st) h) := rfl
theorem ev_lushr {M : mK} {sL : Nat} {post : mP} {L : Nat → mC} {b pc n : Nat} {t : List Nat} {c : List mE} {ls : mL} {st : List mV} {h : mH} {x : Int64} {y : Int32} : denB M sL post L b ((pc, .lushr, n, t) :: c) ls (.inl y :: .inr (.inl x) :: st) h = (denB M sL post L b c ls (.inr (.inl ((x.toUInt64 >>> (y.toInt64.toUInt64 &&& Int64.toUInt64 63)).toInt64)) :: st) h) := rfl
theorem ev_l2i {M : mK} {sL : Nat} {post : mP} {L : Nat → mC} {b pc n : Nat} {t : List Nat} {c : List mE} {ls : mL} {st : List mV} {h : mH} {x : Int64} : denB M sL post L b ((pc, .l2i, n, t) :: c) ls (.inr (.inl x) :: st) h = (denB M sL post L b c ls (.inl x.toInt32 :: st) h) := rfl
theorem ev_sipush_255 {M : mK} {sL : Nat} {post : mP} {L : Nat → mC} {b pc n : Nat} {t : List Nat} {c : List mE} {ls : mL} {st : List mV} {h : mH}  : denB M sL post L b ((pc, .sipush 255, n, t) :: c) ls st h = (denB M sL post L b c ls (.inl (nI 255) :: st) h) := rfl
theorem ev_iand {M : mK} {sL : Nat} {post : mP} {L : Nat → mC} {b pc n : Nat} {t : List Nat} {c : List mE} {ls : mL} {st : List mV} {h : mH} {x y : Int32} : denB M sL post L b ((pc, .iand, n, t) :: c) ls (.inl y :: .inl x :: st) h = (denB M sL post L b c ls (.inl (x &&& y) :: st) h) := rfl
theorem ev_bipush_m10 {M : mK} {sL : Nat} {post : mP} {L : Nat → mC} {b pc n : Nat} {t : List Nat} {c : List mE} {ls : mL} {st : List mV} {h : mH}  : denB M sL post L b ((pc, .bipush (-10), n, t) :: c) ls st h = (denB M sL post L b c ls (.inl (-10 : Int32) :: st) h) := rfl
theorem ev_astore_n_3 {M : mK} {sL : Nat} {post : mP} {L : Nat → mC} {b pc n : Nat} {t : List Nat} {c : List mE} {ls : mL} {st : List mV} {h : mH} {a0 a1 a2 : Option mV} {l : mL} {y : Option mV} {x : mRef} : denB M sL post L b ((pc, .astore_n 3, n, t) :: c) (a0 :: a1 :: a2 :: y :: l) (.inr (.inr x) :: st) h = (denB M sL post L b c (a0 :: a1 :: a2 :: some (.inr (.inr x)) :: l) st h) := rfl
theorem ev_pop {M : mK} {sL : Nat} {post : mP} {L : Nat → mC} {b pc n : Nat} {t : List Nat} {c : List mE} {ls : mL} {st : List mV} {h : mH} {x : Int32} : denB M sL post L b ((pc, .pop, n, t) :: c) ls (.inl x :: st) h = (denB M sL post L b c ls st h) := rfl
theorem ev_aload_n_3 {M : mK} {sL : Nat} {post : mP} {L : Nat → mC} {b pc n : Nat} {t : List Nat} {c : List mE} {ls : mL} {st : List mV} {h : mH} {a0 a1 a2 : Option mV} {l : mL} {x : mRef} : denB M sL post L b ((pc, .aload_n 3, n, t) :: c) (a0 :: a1 :: a2 :: some (.inr (.inr x)) :: l) st h = (denB M sL post L b c (a0 :: a1 :: a2 :: some (.inr (.inr x)) :: l) (.inr (.inr x) :: st) h) := rfl
theorem ev_sipush_m300 {M : mK} {sL : Nat} {post : mP} {L : Nat → mC} {b pc n : Nat} {t : List Nat} {c : List mE} {ls : mL} {st : List mV} {h : mH}  : denB M sL post L b ((pc, .sipush (-300), n, t) :: c) ls st h = (denB M sL post L b c ls (.inl (-300 : Int32) :: st) h) := rfl
theorem ev_getf_3_1 {M : mK} {sL : Nat} {post : mP} {L : Nat → mC} {b pc n : Nat} {t : List Nat} {c : List mE} {ls : mL} {st : List mV} {h : mH} {j : Nat} : denB M sL post L b ((pc, .getfield j, n, [3, 1]) :: c) ls ((.inr (.inr (.inr 0))) :: st) h = (denB M sL post L b c ls (.inr (.inr (.inl (1, 0))) :: st) h) := rfl
theorem ev_putf_3_5 {M : mK} {sL : Nat} {post : mP} {L : Nat → mC} {b pc n : Nat} {t : List Nat} {c : List mE} {ls : mL} {st : List mV} {h : mH} {j : Nat} {v : Int32} {u : Nat} : denB M sL post L b ((pc, .putfield j, n, [3, 5, u]) :: c) ls (.inl v :: (.inr (.inr (.inr 0))) :: st) h = (bz v ∧ denB M sL post L b c ls st (hup h (.inr 0) 5 v)) := rfl
theorem ev_getf_3_5 {M : mK} {sL : Nat} {post : mP} {L : Nat → mC} {b pc n : Nat} {t : List Nat} {c : List mE} {ls : mL} {st : List mV} {h : mH} {j : Nat} : denB M sL post L b ((pc, .getfield j, n, [3, 5]) :: c) ls ((.inr (.inr (.inr 0))) :: st) h = (denB M sL post L b c ls (.inl (h (.inr 0) 5) :: st) h) := rfl
theorem ev_getf_3_6 {M : mK} {sL : Nat} {post : mP} {L : Nat → mC} {b pc n : Nat} {t : List Nat} {c : List mE} {ls : mL} {st : List mV} {h : mH} {j : Nat} : denB M sL post L b ((pc, .getfield j, n, [3, 6]) :: c) ls ((.inr (.inr (.inr 0))) :: st) h = (denB M sL post L b c ls (.inl (h (.inr 0) 6) :: st) h) := rfl
theorem ev_getf_3_4 {M : mK} {sL : Nat} {post : mP} {L : Nat → mC} {b pc n : Nat} {t : List Nat} {c : List mE} {ls : mL} {st : List mV} {h : mH} {j : Nat} : denB M sL post L b ((pc, .getfield j, n, [3, 4]) :: c) ls ((.inr (.inr (.inr 0))) :: st) h = (denB M sL post L b c ls (.inr (.inr (.inr 1)) :: st) h) := rfl
theorem ev_sipush_m1004 {M : mK} {sL : Nat} {post : mP} {L : Nat → mC} {b pc n : Nat} {t : List Nat} {c : List mE} {ls : mL} {st : List mV} {h : mH}  : denB M sL post L b ((pc, .sipush (-1004), n, t) :: c) ls st h = (denB M sL post L b c ls (.inl (-1004 : Int32) :: st) h) := rfl
theorem ev_callv_5_0_0 {M : mK} {sL : Nat} {post : mP} {L : Nat → mC} {b pc n : Nat} {t : List Nat} {c : List mE} {ls : mL} {st : List mV} {h : mH} {j u y : Nat} {v0 v1 v2 v3 v4 : mV} : denB M sL post L b ((pc, .invokevirtual j, n, [u, y, 5, 0]) :: c) ls [v4, v3, v2, v1, v0] h = (mU M y [v0, v1, v2, v3, v4] h (fun h' => denB M sL post L b c ls [] h')) := rfl
theorem ev_callv_5_1_0 {M : mK} {sL : Nat} {post : mP} {L : Nat → mC} {b pc n : Nat} {t : List Nat} {c : List mE} {ls : mL} {st : List mV} {h : mH} {j u y : Nat} {v0 v1 v2 v3 v4 w0 : mV} : denB M sL post L b ((pc, .invokevirtual j, n, [u, y, 5, 0]) :: c) ls [v4, v3, v2, v1, v0, w0] h = (mU M y [v0, v1, v2, v3, v4] h (fun h' => denB M sL post L b c ls [w0] h')) := rfl
theorem ev_callv_5_2_0 {M : mK} {sL : Nat} {post : mP} {L : Nat → mC} {b pc n : Nat} {t : List Nat} {c : List mE} {ls : mL} {st : List mV} {h : mH} {j u y : Nat} {v0 v1 v2 v3 v4 w0 w1 : mV} : denB M sL post L b ((pc, .invokevirtual j, n, [u, y, 5, 0]) :: c) ls [v4, v3, v2, v1, v0, w0, w1] h = (mU M y [v0, v1, v2, v3, v4] h (fun h' => denB M sL post L b c ls [w0, w1] h')) := rfl
theorem ev_callv_5_3_0 {M : mK} {sL : Nat} {post : mP} {L : Nat → mC} {b pc n : Nat} {t : List Nat} {c : List mE} {ls : mL} {st : List mV} {h : mH} {j u y : Nat} {v0 v1 v2 v3 v4 w0 w1 w2 : mV} : denB M sL post L b ((pc, .invokevirtual j, n, [u, y, 5, 0]) :: c) ls [v4, v3, v2, v1, v0, w0, w1, w2] h = (mU M y [v0, v1, v2, v3, v4] h (fun h' => denB M sL post L b c ls [w0, w1, w2] h')) := rfl
theorem ev_callv_5_4_0 {M : mK} {sL : Nat} {post : mP} {L : Nat → mC} {b pc n : Nat} {t : List Nat} {c : List mE} {ls : mL} {st : List mV} {h : mH} {j u y : Nat} {v0 v1 v2 v3 v4 w0 w1 w2 w3 : mV} : denB M sL post L b ((pc, .invokevirtual j, n, [u, y, 5, 0]) :: c) ls [v4, v3, v2, v1, v0, w0, w1, w2, w3] h = (mU M y [v0, v1, v2, v3, v4] h (fun h' => denB M sL post L b c ls [w0, w1, w2, w3] h')) := rfl
theorem ev_putf_3_6 {M : mK} {sL : Nat} {post : mP} {L : Nat → mC} {b pc n : Nat} {t : List Nat} {c : List mE} {ls : mL} {st : List mV} {h : mH} {j : Nat} {v : Int32} : denB M sL post L b ((pc, .putfield j, n, [3, 6]) :: c) ls (.inl v :: (.inr (.inr (.inr 0))) :: st) h = (denB M sL post L b c ls st (hup h (.inr 0) 6 v)) := rfl
theorem ev_iload_n_0 {M : mK} {sL : Nat} {post : mP} {L : Nat → mC} {b pc n : Nat} {t : List Nat} {c : List mE} {ls : mL} {st : List mV} {h : mH} {l : mL} {x : Int32} : denB M sL post L b ((pc, .iload_n 0, n, t) :: c) (some (.inl x) :: l) st h = (denB M sL post L b c (some (.inl x) :: l) (.inl x :: st) h) := rfl
theorem ev_lload_n_0 {M : mK} {sL : Nat} {post : mP} {L : Nat → mC} {b pc n : Nat} {t : List Nat} {c : List mE} {ls : mL} {st : List mV} {h : mH} {l : mL} {x : Int64} : denB M sL post L b ((pc, .lload_n 0, n, t) :: c) (some (.inr (.inl x)) :: none :: l) st h = (denB M sL post L b c (some (.inr (.inl x)) :: none :: l) (.inr (.inl x) :: st) h) := rfl
theorem ev_bipush_18 {M : mK} {sL : Nat} {post : mP} {L : Nat → mC} {b pc n : Nat} {t : List Nat} {c : List mE} {ls : mL} {st : List mV} {h : mH}  : denB M sL post L b ((pc, .bipush 18, n, t) :: c) ls st h = (denB M sL post L b c ls (.inl (nI 18) :: st) h) := rfl
theorem ev_getf_4_4 {M : mK} {sL : Nat} {post : mP} {L : Nat → mC} {b pc n : Nat} {t : List Nat} {c : List mE} {ls : mL} {st : List mV} {h : mH} {j : Nat} : denB M sL post L b ((pc, .getfield j, n, [4, 4]) :: c) ls ((.inr (.inr (.inr 7))) :: st) h = (denB M sL post L b c ls (.inr (.inr (.inr 11)) :: st) h) := rfl
theorem ev_iald_o8 {M : mK} {sL : Nat} {post : mP} {L : Nat → mC} {b pc n : Nat} {t : List Nat} {c : List mE} {ls : mL} {st : List mV} {h : mH}  {x : Int32} : denB M sL post L b ((pc, .iaload, n, t) :: c) ls (.inl x :: (.inr (.inr (.inr 8))) :: st) h = (vp_in x 400 ∧ denB M sL post L b c ls (.inl (h (.inr 8) x.toNatClampNeg) :: st) h) := rfl
theorem ev_iald_o9 {M : mK} {sL : Nat} {post : mP} {L : Nat → mC} {b pc n : Nat} {t : List Nat} {c : List mE} {ls : mL} {st : List mV} {h : mH}  {x : Int32} : denB M sL post L b ((pc, .iaload, n, t) :: c) ls (.inl x :: (.inr (.inr (.inr 9))) :: st) h = (vp_in x 400 ∧ denB M sL post L b c ls (.inl (h (.inr 9) x.toNatClampNeg) :: st) h) := rfl
theorem ev_iald_o10 {M : mK} {sL : Nat} {post : mP} {L : Nat → mC} {b pc n : Nat} {t : List Nat} {c : List mE} {ls : mL} {st : List mV} {h : mH}  {x : Int32} : denB M sL post L b ((pc, .iaload, n, t) :: c) ls (.inl x :: (.inr (.inr (.inr 10))) :: st) h = (vp_in x 400 ∧ denB M sL post L b c ls (.inl (h (.inr 10) x.toNatClampNeg) :: st) h) := rfl
theorem ev_iald_o11 {M : mK} {sL : Nat} {post : mP} {L : Nat → mC} {b pc n : Nat} {t : List Nat} {c : List mE} {ls : mL} {st : List mV} {h : mH}  {x : Int32} : denB M sL post L b ((pc, .iaload, n, t) :: c) ls (.inl x :: (.inr (.inr (.inr 11))) :: st) h = (vp_in x 4 ∧ denB M sL post L b c ls (.inl (h (.inr 11) x.toNatClampNeg) :: st) h) := rfl
theorem ev_iald_o12 {M : mK} {sL : Nat} {post : mP} {L : Nat → mC} {b pc n : Nat} {t : List Nat} {c : List mE} {ls : mL} {st : List mV} {h : mH}  {x : Int32} : denB M sL post L b ((pc, .iaload, n, t) :: c) ls (.inl x :: (.inr (.inr (.inr 12))) :: st) h = (vp_in x 64 ∧ denB M sL post L b c ls (.inl (h (.inr 12) x.toNatClampNeg) :: st) h) := rfl
theorem ev_iald_o13 {M : mK} {sL : Nat} {post : mP} {L : Nat → mC} {b pc n : Nat} {t : List Nat} {c : List mE} {ls : mL} {st : List mV} {h : mH}  {x : Int32} : denB M sL post L b ((pc, .iaload, n, t) :: c) ls (.inl x :: (.inr (.inr (.inr 13))) :: st) h = (vp_in x 64 ∧ denB M sL post L b c ls (.inl (h (.inr 13) x.toNatClampNeg) :: st) h) := rfl
theorem ev_iald_o14 {M : mK} {sL : Nat} {post : mP} {L : Nat → mC} {b pc n : Nat} {t : List Nat} {c : List mE} {ls : mL} {st : List mV} {h : mH}  {x : Int32} : denB M sL post L b ((pc, .iaload, n, t) :: c) ls (.inl x :: (.inr (.inr (.inr 14))) :: st) h = (vp_in x 4 ∧ denB M sL post L b c ls (.inl (h (.inr 14) x.toNatClampNeg) :: st) h) := rfl
theorem ev_iald_o15 {M : mK} {sL : Nat} {post : mP} {L : Nat → mC} {b pc n : Nat} {t : List Nat} {c : List mE} {ls : mL} {st : List mV} {h : mH}  {x : Int32} : denB M sL post L b ((pc, .iaload, n, t) :: c) ls (.inl x :: (.inr (.inr (.inr 15))) :: st) h = (vp_in x 120 ∧ denB M sL post L b c ls (.inl (h (.inr 15) x.toNatClampNeg) :: st) h) := rfl
theorem ev_iald_o16 {M : mK} {sL : Nat} {post : mP} {L : Nat → mC} {b pc n : Nat} {t : List Nat} {c : List mE} {ls : mL} {st : List mV} {h : mH}  {x : Int32} : denB M sL post L b ((pc, .iaload, n, t) :: c) ls (.inl x :: (.inr (.inr (.inr 16))) :: st) h = (vp_in x 480 ∧ denB M sL post L b c ls (.inl (h (.inr 16) x.toNatClampNeg) :: st) h) := rfl
theorem ev_iast_o8 {M : mK} {sL : Nat} {post : mP} {L : Nat → mC} {b pc n : Nat} {t : List Nat} {c : List mE} {ls : mL} {st : List mV} {h : mH}  {x v : Int32} : denB M sL post L b ((pc, .iastore, n, t) :: c) ls (.inl v :: .inl x :: (.inr (.inr (.inr 8))) :: st) h = (vp_in x 400 ∧ denB M sL post L b c ls st (hup h (.inr 8) x.toNatClampNeg v)) := rfl
theorem ev_iast_o9 {M : mK} {sL : Nat} {post : mP} {L : Nat → mC} {b pc n : Nat} {t : List Nat} {c : List mE} {ls : mL} {st : List mV} {h : mH}  {x v : Int32} : denB M sL post L b ((pc, .iastore, n, t) :: c) ls (.inl v :: .inl x :: (.inr (.inr (.inr 9))) :: st) h = (vp_in x 400 ∧ denB M sL post L b c ls st (hup h (.inr 9) x.toNatClampNeg v)) := rfl
theorem ev_iast_o10 {M : mK} {sL : Nat} {post : mP} {L : Nat → mC} {b pc n : Nat} {t : List Nat} {c : List mE} {ls : mL} {st : List mV} {h : mH}  {x v : Int32} : denB M sL post L b ((pc, .iastore, n, t) :: c) ls (.inl v :: .inl x :: (.inr (.inr (.inr 10))) :: st) h = (vp_in x 400 ∧ denB M sL post L b c ls st (hup h (.inr 10) x.toNatClampNeg v)) := rfl
theorem ev_iast_o11 {M : mK} {sL : Nat} {post : mP} {L : Nat → mC} {b pc n : Nat} {t : List Nat} {c : List mE} {ls : mL} {st : List mV} {h : mH}  {x v : Int32} : denB M sL post L b ((pc, .iastore, n, t) :: c) ls (.inl v :: .inl x :: (.inr (.inr (.inr 11))) :: st) h = (vp_in x 4 ∧ denB M sL post L b c ls st (hup h (.inr 11) x.toNatClampNeg v)) := rfl
theorem ev_iast_o12 {M : mK} {sL : Nat} {post : mP} {L : Nat → mC} {b pc n : Nat} {t : List Nat} {c : List mE} {ls : mL} {st : List mV} {h : mH}  {x v : Int32} : denB M sL post L b ((pc, .iastore, n, t) :: c) ls (.inl v :: .inl x :: (.inr (.inr (.inr 12))) :: st) h = (vp_in x 64 ∧ denB M sL post L b c ls st (hup h (.inr 12) x.toNatClampNeg v)) := rfl
theorem ev_iast_o13 {M : mK} {sL : Nat} {post : mP} {L : Nat → mC} {b pc n : Nat} {t : List Nat} {c : List mE} {ls : mL} {st : List mV} {h : mH}  {x v : Int32} : denB M sL post L b ((pc, .iastore, n, t) :: c) ls (.inl v :: .inl x :: (.inr (.inr (.inr 13))) :: st) h = (vp_in x 64 ∧ denB M sL post L b c ls st (hup h (.inr 13) x.toNatClampNeg v)) := rfl
theorem ev_iast_o14 {M : mK} {sL : Nat} {post : mP} {L : Nat → mC} {b pc n : Nat} {t : List Nat} {c : List mE} {ls : mL} {st : List mV} {h : mH}  {x v : Int32} : denB M sL post L b ((pc, .iastore, n, t) :: c) ls (.inl v :: .inl x :: (.inr (.inr (.inr 14))) :: st) h = (vp_in x 4 ∧ denB M sL post L b c ls st (hup h (.inr 14) x.toNatClampNeg v)) := rfl
theorem ev_iast_o15 {M : mK} {sL : Nat} {post : mP} {L : Nat → mC} {b pc n : Nat} {t : List Nat} {c : List mE} {ls : mL} {st : List mV} {h : mH}  {x v : Int32} : denB M sL post L b ((pc, .iastore, n, t) :: c) ls (.inl v :: .inl x :: (.inr (.inr (.inr 15))) :: st) h = (vp_in x 120 ∧ denB M sL post L b c ls st (hup h (.inr 15) x.toNatClampNeg v)) := rfl
theorem ev_iast_o16 {M : mK} {sL : Nat} {post : mP} {L : Nat → mC} {b pc n : Nat} {t : List Nat} {c : List mE} {ls : mL} {st : List mV} {h : mH}  {x v : Int32} : denB M sL post L b ((pc, .iastore, n, t) :: c) ls (.inl v :: .inl x :: (.inr (.inr (.inr 16))) :: st) h = (vp_in x 480 ∧ denB M sL post L b c ls st (hup h (.inr 16) x.toNatClampNeg v)) := rfl
theorem ev_sipush_400 {M : mK} {sL : Nat} {post : mP} {L : Nat → mC} {b pc n : Nat} {t : List Nat} {c : List mE} {ls : mL} {st : List mV} {h : mH}  : denB M sL post L b ((pc, .sipush 400, n, t) :: c) ls st h = (denB M sL post L b c ls (.inl (nI 400) :: st) h) := rfl
theorem ev_getf_4_0 {M : mK} {sL : Nat} {post : mP} {L : Nat → mC} {b pc n : Nat} {t : List Nat} {c : List mE} {ls : mL} {st : List mV} {h : mH} {j : Nat} : denB M sL post L b ((pc, .getfield j, n, [4, 0]) :: c) ls ((.inr (.inr (.inr 7))) :: st) h = (denB M sL post L b c ls (.inr (.inr (.inr 8)) :: st) h) := rfl
theorem ev_sipush_320 {M : mK} {sL : Nat} {post : mP} {L : Nat → mC} {b pc n : Nat} {t : List Nat} {c : List mE} {ls : mL} {st : List mV} {h : mH}  : denB M sL post L b ((pc, .sipush 320, n, t) :: c) ls st h = (denB M sL post L b c ls (.inl (nI 320) :: st) h) := rfl
theorem ev_calls_3_0_1 {M : mK} {sL : Nat} {post : mP} {L : Nat → mC} {b pc n : Nat} {t : List Nat} {c : List mE} {ls : mL} {st : List mV} {h : mH} {j u y : Nat} {v0 v1 v2 : mV} : denB M sL post L b ((pc, .invokestatic j, n, [u, y, 3, 1]) :: c) ls [v2, v1, v0] h = (mI M y [v0, v1, v2] h (fun x h' => denB M sL post L b c ls [.inl x] h')) := rfl
theorem ev_calls_3_1_1 {M : mK} {sL : Nat} {post : mP} {L : Nat → mC} {b pc n : Nat} {t : List Nat} {c : List mE} {ls : mL} {st : List mV} {h : mH} {j u y : Nat} {v0 v1 v2 w0 : mV} : denB M sL post L b ((pc, .invokestatic j, n, [u, y, 3, 1]) :: c) ls [v2, v1, v0, w0] h = (mI M y [v0, v1, v2] h (fun x h' => denB M sL post L b c ls [.inl x, w0] h')) := rfl
theorem ev_calls_3_2_1 {M : mK} {sL : Nat} {post : mP} {L : Nat → mC} {b pc n : Nat} {t : List Nat} {c : List mE} {ls : mL} {st : List mV} {h : mH} {j u y : Nat} {v0 v1 v2 w0 w1 : mV} : denB M sL post L b ((pc, .invokestatic j, n, [u, y, 3, 1]) :: c) ls [v2, v1, v0, w0, w1] h = (mI M y [v0, v1, v2] h (fun x h' => denB M sL post L b c ls [.inl x, w0, w1] h')) := rfl
theorem ev_calls_3_3_1 {M : mK} {sL : Nat} {post : mP} {L : Nat → mC} {b pc n : Nat} {t : List Nat} {c : List mE} {ls : mL} {st : List mV} {h : mH} {j u y : Nat} {v0 v1 v2 w0 w1 w2 : mV} : denB M sL post L b ((pc, .invokestatic j, n, [u, y, 3, 1]) :: c) ls [v2, v1, v0, w0, w1, w2] h = (mI M y [v0, v1, v2] h (fun x h' => denB M sL post L b c ls [.inl x, w0, w1, w2] h')) := rfl
theorem ev_calls_3_4_1 {M : mK} {sL : Nat} {post : mP} {L : Nat → mC} {b pc n : Nat} {t : List Nat} {c : List mE} {ls : mL} {st : List mV} {h : mH} {j u y : Nat} {v0 v1 v2 w0 w1 w2 w3 : mV} : denB M sL post L b ((pc, .invokestatic j, n, [u, y, 3, 1]) :: c) ls [v2, v1, v0, w0, w1, w2, w3] h = (mI M y [v0, v1, v2] h (fun x h' => denB M sL post L b c ls [.inl x, w0, w1, w2, w3] h')) := rfl
theorem ev_sipush_383 {M : mK} {sL : Nat} {post : mP} {L : Nat → mC} {b pc n : Nat} {t : List Nat} {c : List mE} {ls : mL} {st : List mV} {h : mH}  : denB M sL post L b ((pc, .sipush 383, n, t) :: c) ls st h = (denB M sL post L b c ls (.inl (nI 383) :: st) h) := rfl
theorem ev_bipush_63 {M : mK} {sL : Nat} {post : mP} {L : Nat → mC} {b pc n : Nat} {t : List Nat} {c : List mE} {ls : mL} {st : List mV} {h : mH}  : denB M sL post L b ((pc, .bipush 63, n, t) :: c) ls st h = (denB M sL post L b c ls (.inl (nI 63) :: st) h) := rfl
theorem ev_bipush_15 {M : mK} {sL : Nat} {post : mP} {L : Nat → mC} {b pc n : Nat} {t : List Nat} {c : List mE} {ls : mL} {st : List mV} {h : mH}  : denB M sL post L b ((pc, .bipush 15, n, t) :: c) ls st h = (denB M sL post L b c ls (.inl (nI 15) :: st) h) := rfl
theorem ev_sipush_327 {M : mK} {sL : Nat} {post : mP} {L : Nat → mC} {b pc n : Nat} {t : List Nat} {c : List mE} {ls : mL} {st : List mV} {h : mH}  : denB M sL post L b ((pc, .sipush 327, n, t) :: c) ls st h = (denB M sL post L b c ls (.inl (nI 327) :: st) h) := rfl
theorem ev_sipush_321 {M : mK} {sL : Nat} {post : mP} {L : Nat → mC} {b pc n : Nat} {t : List Nat} {c : List mE} {ls : mL} {st : List mV} {h : mH}  : denB M sL post L b ((pc, .sipush 321, n, t) :: c) ls st h = (denB M sL post L b c ls (.inl (nI 321) :: st) h) := rfl
theorem ev_sipush_391 {M : mK} {sL : Nat} {post : mP} {L : Nat → mC} {b pc n : Nat} {t : List Nat} {c : List mE} {ls : mL} {st : List mV} {h : mH}  : denB M sL post L b ((pc, .sipush 391, n, t) :: c) ls st h = (denB M sL post L b c ls (.inl (nI 391) :: st) h) := rfl
theorem ev_getf_4_5 {M : mK} {sL : Nat} {post : mP} {L : Nat → mC} {b pc n : Nat} {t : List Nat} {c : List mE} {ls : mL} {st : List mV} {h : mH} {j : Nat} : denB M sL post L b ((pc, .getfield j, n, [4, 5]) :: c) ls ((.inr (.inr (.inr 7))) :: st) h = (denB M sL post L b c ls (.inr (.inr (.inr 12)) :: st) h) := rfl
theorem ev_getf_4_6 {M : mK} {sL : Nat} {post : mP} {L : Nat → mC} {b pc n : Nat} {t : List Nat} {c : List mE} {ls : mL} {st : List mV} {h : mH} {j : Nat} : denB M sL post L b ((pc, .getfield j, n, [4, 6]) :: c) ls ((.inr (.inr (.inr 7))) :: st) h = (denB M sL post L b c ls (.inr (.inr (.inr 13)) :: st) h) := rfl
theorem ev_getf_4_9 {M : mK} {sL : Nat} {post : mP} {L : Nat → mC} {b pc n : Nat} {t : List Nat} {c : List mE} {ls : mL} {st : List mV} {h : mH} {j : Nat} : denB M sL post L b ((pc, .getfield j, n, [4, 9]) :: c) ls ((.inr (.inr (.inr 7))) :: st) h = (denB M sL post L b c ls (.inl (h (.inr 7) 9) :: st) h) := rfl
theorem ev_getf_4_10 {M : mK} {sL : Nat} {post : mP} {L : Nat → mC} {b pc n : Nat} {t : List Nat} {c : List mE} {ls : mL} {st : List mV} {h : mH} {j : Nat} : denB M sL post L b ((pc, .getfield j, n, [4, 10]) :: c) ls ((.inr (.inr (.inr 7))) :: st) h = (denB M sL post L b c ls (.inl (h (.inr 7) 10) :: st) h) := rfl
theorem ev_getf_4_7 {M : mK} {sL : Nat} {post : mP} {L : Nat → mC} {b pc n : Nat} {t : List Nat} {c : List mE} {ls : mL} {st : List mV} {h : mH} {j : Nat} : denB M sL post L b ((pc, .getfield j, n, [4, 7]) :: c) ls ((.inr (.inr (.inr 7))) :: st) h = (denB M sL post L b c ls (.inl (h (.inr 7) 7) :: st) h) := rfl
theorem ev_getf_4_8 {M : mK} {sL : Nat} {post : mP} {L : Nat → mC} {b pc n : Nat} {t : List Nat} {c : List mE} {ls : mL} {st : List mV} {h : mH} {j : Nat} : denB M sL post L b ((pc, .getfield j, n, [4, 8]) :: c) ls ((.inr (.inr (.inr 7))) :: st) h = (denB M sL post L b c ls (.inl (h (.inr 7) 8) :: st) h) := rfl
theorem ev_putf_4_9 {M : mK} {sL : Nat} {post : mP} {L : Nat → mC} {b pc n : Nat} {t : List Nat} {c : List mE} {ls : mL} {st : List mV} {h : mH} {j : Nat} {v : Int32} {u : Nat} : denB M sL post L b ((pc, .putfield j, n, [4, 9, u]) :: c) ls (.inl v :: (.inr (.inr (.inr 7))) :: st) h = (bz v ∧ denB M sL post L b c ls st (hup h (.inr 7) 9 v)) := rfl
theorem ev_putf_4_7 {M : mK} {sL : Nat} {post : mP} {L : Nat → mC} {b pc n : Nat} {t : List Nat} {c : List mE} {ls : mL} {st : List mV} {h : mH} {j : Nat} {v : Int32} : denB M sL post L b ((pc, .putfield j, n, [4, 7]) :: c) ls (.inl v :: (.inr (.inr (.inr 7))) :: st) h = (denB M sL post L b c ls st (hup h (.inr 7) 7 v)) := rfl
theorem ev_callv_6_0_0 {M : mK} {sL : Nat} {post : mP} {L : Nat → mC} {b pc n : Nat} {t : List Nat} {c : List mE} {ls : mL} {st : List mV} {h : mH} {j u y : Nat} {v0 v1 v2 v3 v4 v5 : mV} : denB M sL post L b ((pc, .invokevirtual j, n, [u, y, 6, 0]) :: c) ls [v5, v4, v3, v2, v1, v0] h = (mU M y [v0, v1, v2, v3, v4, v5] h (fun h' => denB M sL post L b c ls [] h')) := rfl
theorem ev_callv_6_1_0 {M : mK} {sL : Nat} {post : mP} {L : Nat → mC} {b pc n : Nat} {t : List Nat} {c : List mE} {ls : mL} {st : List mV} {h : mH} {j u y : Nat} {v0 v1 v2 v3 v4 v5 w0 : mV} : denB M sL post L b ((pc, .invokevirtual j, n, [u, y, 6, 0]) :: c) ls [v5, v4, v3, v2, v1, v0, w0] h = (mU M y [v0, v1, v2, v3, v4, v5] h (fun h' => denB M sL post L b c ls [w0] h')) := rfl
theorem ev_callv_6_2_0 {M : mK} {sL : Nat} {post : mP} {L : Nat → mC} {b pc n : Nat} {t : List Nat} {c : List mE} {ls : mL} {st : List mV} {h : mH} {j u y : Nat} {v0 v1 v2 v3 v4 v5 w0 w1 : mV} : denB M sL post L b ((pc, .invokevirtual j, n, [u, y, 6, 0]) :: c) ls [v5, v4, v3, v2, v1, v0, w0, w1] h = (mU M y [v0, v1, v2, v3, v4, v5] h (fun h' => denB M sL post L b c ls [w0, w1] h')) := rfl
theorem ev_callv_6_3_0 {M : mK} {sL : Nat} {post : mP} {L : Nat → mC} {b pc n : Nat} {t : List Nat} {c : List mE} {ls : mL} {st : List mV} {h : mH} {j u y : Nat} {v0 v1 v2 v3 v4 v5 w0 w1 w2 : mV} : denB M sL post L b ((pc, .invokevirtual j, n, [u, y, 6, 0]) :: c) ls [v5, v4, v3, v2, v1, v0, w0, w1, w2] h = (mU M y [v0, v1, v2, v3, v4, v5] h (fun h' => denB M sL post L b c ls [w0, w1, w2] h')) := rfl
theorem ev_callv_6_4_0 {M : mK} {sL : Nat} {post : mP} {L : Nat → mC} {b pc n : Nat} {t : List Nat} {c : List mE} {ls : mL} {st : List mV} {h : mH} {j u y : Nat} {v0 v1 v2 v3 v4 v5 w0 w1 w2 w3 : mV} : denB M sL post L b ((pc, .invokevirtual j, n, [u, y, 6, 0]) :: c) ls [v5, v4, v3, v2, v1, v0, w0, w1, w2, w3] h = (mU M y [v0, v1, v2, v3, v4, v5] h (fun h' => denB M sL post L b c ls [w0, w1, w2, w3] h')) := rfl
theorem ev_putf_4_10 {M : mK} {sL : Nat} {post : mP} {L : Nat → mC} {b pc n : Nat} {t : List Nat} {c : List mE} {ls : mL} {st : List mV} {h : mH} {j : Nat} {v : Int32} {u : Nat} : denB M sL post L b ((pc, .putfield j, n, [4, 10, u]) :: c) ls (.inl v :: (.inr (.inr (.inr 7))) :: st) h = (bz v ∧ denB M sL post L b c ls st (hup h (.inr 7) 10 v)) := rfl
theorem ev_getf_4_12 {M : mK} {sL : Nat} {post : mP} {L : Nat → mC} {b pc n : Nat} {t : List Nat} {c : List mE} {ls : mL} {st : List mV} {h : mH} {j : Nat} : denB M sL post L b ((pc, .getfield j, n, [4, 12]) :: c) ls ((.inr (.inr (.inr 7))) :: st) h = (denB M sL post L b c ls (.inr (.inr (.inr 14)) :: st) h) := rfl
theorem ev_putf_4_8 {M : mK} {sL : Nat} {post : mP} {L : Nat → mC} {b pc n : Nat} {t : List Nat} {c : List mE} {ls : mL} {st : List mV} {h : mH} {j : Nat} {v : Int32} : denB M sL post L b ((pc, .putfield j, n, [4, 8]) :: c) ls (.inl v :: (.inr (.inr (.inr 7))) :: st) h = (denB M sL post L b c ls st (hup h (.inr 7) 8 v)) := rfl
theorem ev_tsw_0_7 {M : mK} {sL : Nat} {post : mP} {L : Nat → mC} {b pc n : Nat} {t : List Nat} {c : List mE} {ls : mL} {st : List mV} {h : mH} {d hi : Int} {os : Array Int} {kd k0 k1 k2 k3 k4 k5 k6 : Nat} {x : Int32} : denB M sL post L b ((pc, .tableswitch d 0 hi os, n, [kd, k0, k1, k2, k3, k4, k5, k6]) :: c) ls (.inl x :: st) h = ((x = (nI 0) → L k0 ls st h) ∧ (¬ x = (nI 0) → (x = (nI 1) → L k1 ls st h) ∧ (¬ x = (nI 1) → (x = (nI 2) → L k2 ls st h) ∧ (¬ x = (nI 2) → (x = (nI 3) → L k3 ls st h) ∧ (¬ x = (nI 3) → (x = (nI 4) → L k4 ls st h) ∧ (¬ x = (nI 4) → (x = (nI 5) → L k5 ls st h) ∧ (¬ x = (nI 5) → (x = (nI 6) → L k6 ls st h) ∧ (¬ x = (nI 6) → L kd ls st h)))))))) := rfl
theorem ev_getf_4_1 {M : mK} {sL : Nat} {post : mP} {L : Nat → mC} {b pc n : Nat} {t : List Nat} {c : List mE} {ls : mL} {st : List mV} {h : mH} {j : Nat} : denB M sL post L b ((pc, .getfield j, n, [4, 1]) :: c) ls ((.inr (.inr (.inr 7))) :: st) h = (denB M sL post L b c ls (.inr (.inr (.inr 9)) :: st) h) := rfl
theorem ev_sipush_399 {M : mK} {sL : Nat} {post : mP} {L : Nat → mC} {b pc n : Nat} {t : List Nat} {c : List mE} {ls : mL} {st : List mV} {h : mH}  : denB M sL post L b ((pc, .sipush 399, n, t) :: c) ls st h = (denB M sL post L b c ls (.inl (nI 399) :: st) h) := rfl
theorem ev_getf_4_11 {M : mK} {sL : Nat} {post : mP} {L : Nat → mC} {b pc n : Nat} {t : List Nat} {c : List mE} {ls : mL} {st : List mV} {h : mH} {j : Nat} : denB M sL post L b ((pc, .getfield j, n, [4, 11]) :: c) ls ((.inr (.inr (.inr 7))) :: st) h = (denB M sL post L b c ls (.inl (h (.inr 7) 11) :: st) h) := rfl
theorem ev_putf_4_11 {M : mK} {sL : Nat} {post : mP} {L : Nat → mC} {b pc n : Nat} {t : List Nat} {c : List mE} {ls : mL} {st : List mV} {h : mH} {j : Nat} {v : Int32} : denB M sL post L b ((pc, .putfield j, n, [4, 11]) :: c) ls (.inl v :: (.inr (.inr (.inr 7))) :: st) h = (denB M sL post L b c ls st (hup h (.inr 7) 11 v)) := rfl
theorem ev_iinc_8_1 {M : mK} {sL : Nat} {post : mP} {L : Nat → mC} {b pc n : Nat} {t : List Nat} {c : List mE} {ls : mL} {st : List mV} {h : mH} {a0 a1 a2 a3 a4 a5 a6 a7 : Option mV} {l : mL} {x : Int32} : denB M sL post L b ((pc, .iinc 8 1, n, t) :: c) (a0 :: a1 :: a2 :: a3 :: a4 :: a5 :: a6 :: a7 :: some (.inl x) :: l) st h = (denB M sL post L b c (a0 :: a1 :: a2 :: a3 :: a4 :: a5 :: a6 :: a7 :: some (.inl (x + (nI 1))) :: l) st h) := rfl
theorem ev_callv_6_0_1 {M : mK} {sL : Nat} {post : mP} {L : Nat → mC} {b pc n : Nat} {t : List Nat} {c : List mE} {ls : mL} {st : List mV} {h : mH} {j u y : Nat} {v0 v1 v2 v3 v4 v5 : mV} : denB M sL post L b ((pc, .invokevirtual j, n, [u, y, 6, 1]) :: c) ls [v5, v4, v3, v2, v1, v0] h = (mI M y [v0, v1, v2, v3, v4, v5] h (fun x h' => denB M sL post L b c ls [.inl x] h')) := rfl
theorem ev_callv_6_1_1 {M : mK} {sL : Nat} {post : mP} {L : Nat → mC} {b pc n : Nat} {t : List Nat} {c : List mE} {ls : mL} {st : List mV} {h : mH} {j u y : Nat} {v0 v1 v2 v3 v4 v5 w0 : mV} : denB M sL post L b ((pc, .invokevirtual j, n, [u, y, 6, 1]) :: c) ls [v5, v4, v3, v2, v1, v0, w0] h = (mI M y [v0, v1, v2, v3, v4, v5] h (fun x h' => denB M sL post L b c ls [.inl x, w0] h')) := rfl
theorem ev_callv_6_2_1 {M : mK} {sL : Nat} {post : mP} {L : Nat → mC} {b pc n : Nat} {t : List Nat} {c : List mE} {ls : mL} {st : List mV} {h : mH} {j u y : Nat} {v0 v1 v2 v3 v4 v5 w0 w1 : mV} : denB M sL post L b ((pc, .invokevirtual j, n, [u, y, 6, 1]) :: c) ls [v5, v4, v3, v2, v1, v0, w0, w1] h = (mI M y [v0, v1, v2, v3, v4, v5] h (fun x h' => denB M sL post L b c ls [.inl x, w0, w1] h')) := rfl
theorem ev_callv_6_3_1 {M : mK} {sL : Nat} {post : mP} {L : Nat → mC} {b pc n : Nat} {t : List Nat} {c : List mE} {ls : mL} {st : List mV} {h : mH} {j u y : Nat} {v0 v1 v2 v3 v4 v5 w0 w1 w2 : mV} : denB M sL post L b ((pc, .invokevirtual j, n, [u, y, 6, 1]) :: c) ls [v5, v4, v3, v2, v1, v0, w0, w1, w2] h = (mI M y [v0, v1, v2, v3, v4, v5] h (fun x h' => denB M sL post L b c ls [.inl x, w0, w1, w2] h')) := rfl
theorem ev_callv_6_4_1 {M : mK} {sL : Nat} {post : mP} {L : Nat → mC} {b pc n : Nat} {t : List Nat} {c : List mE} {ls : mL} {st : List mV} {h : mH} {j u y : Nat} {v0 v1 v2 v3 v4 v5 w0 w1 w2 w3 : mV} : denB M sL post L b ((pc, .invokevirtual j, n, [u, y, 6, 1]) :: c) ls [v5, v4, v3, v2, v1, v0, w0, w1, w2, w3] h = (mI M y [v0, v1, v2, v3, v4, v5] h (fun x h' => denB M sL post L b c ls [.inl x, w0, w1, w2, w3] h')) := rfl
theorem ev_tsw_0_3 {M : mK} {sL : Nat} {post : mP} {L : Nat → mC} {b pc n : Nat} {t : List Nat} {c : List mE} {ls : mL} {st : List mV} {h : mH} {d hi : Int} {os : Array Int} {kd k0 k1 k2 : Nat} {x : Int32} : denB M sL post L b ((pc, .tableswitch d 0 hi os, n, [kd, k0, k1, k2]) :: c) ls (.inl x :: st) h = ((x = (nI 0) → L k0 ls st h) ∧ (¬ x = (nI 0) → (x = (nI 1) → L k1 ls st h) ∧ (¬ x = (nI 1) → (x = (nI 2) → L k2 ls st h) ∧ (¬ x = (nI 2) → L kd ls st h)))) := rfl
theorem ev_getf_4_15 {M : mK} {sL : Nat} {post : mP} {L : Nat → mC} {b pc n : Nat} {t : List Nat} {c : List mE} {ls : mL} {st : List mV} {h : mH} {j : Nat} : denB M sL post L b ((pc, .getfield j, n, [4, 15]) :: c) ls ((.inr (.inr (.inr 7))) :: st) h = (denB M sL post L b c ls (.inl (h (.inr 7) 15) :: st) h) := rfl
theorem ev_getf_4_13 {M : mK} {sL : Nat} {post : mP} {L : Nat → mC} {b pc n : Nat} {t : List Nat} {c : List mE} {ls : mL} {st : List mV} {h : mH} {j : Nat} : denB M sL post L b ((pc, .getfield j, n, [4, 13]) :: c) ls ((.inr (.inr (.inr 7))) :: st) h = (denB M sL post L b c ls (.inr (.inr (.inr 15)) :: st) h) := rfl
theorem ev_putf_4_15 {M : mK} {sL : Nat} {post : mP} {L : Nat → mC} {b pc n : Nat} {t : List Nat} {c : List mE} {ls : mL} {st : List mV} {h : mH} {j : Nat} {v : Int32} : denB M sL post L b ((pc, .putfield j, n, [4, 15]) :: c) ls (.inl v :: (.inr (.inr (.inr 7))) :: st) h = (denB M sL post L b c ls st (hup h (.inr 7) 15 v)) := rfl
theorem ev_tsw_100_20 {M : mK} {sL : Nat} {post : mP} {L : Nat → mC} {b pc n : Nat} {t : List Nat} {c : List mE} {ls : mL} {st : List mV} {h : mH} {d hi : Int} {os : Array Int} {kd k0 k1 k2 k3 k4 k5 k6 k7 k8 k9 k10 k11 k12 k13 k14 k15 k16 k17 k18 k19 : Nat} {x : Int32} : denB M sL post L b ((pc, .tableswitch d 100 hi os, n, [kd, k0, k1, k2, k3, k4, k5, k6, k7, k8, k9, k10, k11, k12, k13, k14, k15, k16, k17, k18, k19]) :: c) ls (.inl x :: st) h = ((x = (nI 100) → L k0 ls st h) ∧ (¬ x = (nI 100) → (x = (nI 101) → L k1 ls st h) ∧ (¬ x = (nI 101) → (x = (nI 102) → L k2 ls st h) ∧ (¬ x = (nI 102) → (x = (nI 103) → L k3 ls st h) ∧ (¬ x = (nI 103) → (x = (nI 104) → L k4 ls st h) ∧ (¬ x = (nI 104) → (x = (nI 105) → L k5 ls st h) ∧ (¬ x = (nI 105) → (x = (nI 106) → L k6 ls st h) ∧ (¬ x = (nI 106) → (x = (nI 107) → L k7 ls st h) ∧ (¬ x = (nI 107) → (x = (nI 108) → L k8 ls st h) ∧ (¬ x = (nI 108) → (x = (nI 109) → L k9 ls st h) ∧ (¬ x = (nI 109) → (x = (nI 110) → L k10 ls st h) ∧ (¬ x = (nI 110) → (x = (nI 111) → L k11 ls st h) ∧ (¬ x = (nI 111) → (x = (nI 112) → L k12 ls st h) ∧ (¬ x = (nI 112) → (x = (nI 113) → L k13 ls st h) ∧ (¬ x = (nI 113) → (x = (nI 114) → L k14 ls st h) ∧ (¬ x = (nI 114) → (x = (nI 115) → L k15 ls st h) ∧ (¬ x = (nI 115) → (x = (nI 116) → L k16 ls st h) ∧ (¬ x = (nI 116) → (x = (nI 117) → L k17 ls st h) ∧ (¬ x = (nI 117) → (x = (nI 118) → L k18 ls st h) ∧ (¬ x = (nI 118) → (x = (nI 119) → L k19 ls st h) ∧ (¬ x = (nI 119) → L kd ls st h))))))))))))))))))))) := rfl
theorem ev_getf_4_17 {M : mK} {sL : Nat} {post : mP} {L : Nat → mC} {b pc n : Nat} {t : List Nat} {c : List mE} {ls : mL} {st : List mV} {h : mH} {j : Nat} : denB M sL post L b ((pc, .getfield j, n, [4, 17]) :: c) ls ((.inr (.inr (.inr 7))) :: st) h = (denB M sL post L b c ls (.inl (h (.inr 7) 17) :: st) h) := rfl
theorem ev_getf_4_14 {M : mK} {sL : Nat} {post : mP} {L : Nat → mC} {b pc n : Nat} {t : List Nat} {c : List mE} {ls : mL} {st : List mV} {h : mH} {j : Nat} : denB M sL post L b ((pc, .getfield j, n, [4, 14]) :: c) ls ((.inr (.inr (.inr 7))) :: st) h = (denB M sL post L b c ls (.inr (.inr (.inr 16)) :: st) h) := rfl
theorem ev_getf_4_16 {M : mK} {sL : Nat} {post : mP} {L : Nat → mC} {b pc n : Nat} {t : List Nat} {c : List mE} {ls : mL} {st : List mV} {h : mH} {j : Nat} : denB M sL post L b ((pc, .getfield j, n, [4, 16]) :: c) ls ((.inr (.inr (.inr 7))) :: st) h = (denB M sL post L b c ls (.inl (h (.inr 7) 16) :: st) h) := rfl
theorem ev_putf_4_17 {M : mK} {sL : Nat} {post : mP} {L : Nat → mC} {b pc n : Nat} {t : List Nat} {c : List mE} {ls : mL} {st : List mV} {h : mH} {j : Nat} {v : Int32} : denB M sL post L b ((pc, .putfield j, n, [4, 17]) :: c) ls (.inl v :: (.inr (.inr (.inr 7))) :: st) h = (denB M sL post L b c ls st (hup h (.inr 7) 17 v)) := rfl
theorem ev_putf_4_16 {M : mK} {sL : Nat} {post : mP} {L : Nat → mC} {b pc n : Nat} {t : List Nat} {c : List mE} {ls : mL} {st : List mV} {h : mH} {j : Nat} {v : Int32} : denB M sL post L b ((pc, .putfield j, n, [4, 16]) :: c) ls (.inl v :: (.inr (.inr (.inr 7))) :: st) h = (denB M sL post L b c ls st (hup h (.inr 7) 16 v)) := rfl
theorem ev_getf_4_2 {M : mK} {sL : Nat} {post : mP} {L : Nat → mC} {b pc n : Nat} {t : List Nat} {c : List mE} {ls : mL} {st : List mV} {h : mH} {j : Nat} : denB M sL post L b ((pc, .getfield j, n, [4, 2]) :: c) ls ((.inr (.inr (.inr 7))) :: st) h = (denB M sL post L b c ls (.inr (.inr (.inr 10)) :: st) h) := rfl
theorem ev_putf_4_3 {M : mK} {sL : Nat} {post : mP} {L : Nat → mC} {b pc n : Nat} {t : List Nat} {c : List mE} {ls : mL} {st : List mV} {h : mH} {j : Nat} {v : Int32} {u : Nat} : denB M sL post L b ((pc, .putfield j, n, [4, 3, u]) :: c) ls (.inl v :: (.inr (.inr (.inr 7))) :: st) h = (bz v ∧ denB M sL post L b c ls st (hup h (.inr 7) 3 v)) := rfl
theorem ev_getf_4_3 {M : mK} {sL : Nat} {post : mP} {L : Nat → mC} {b pc n : Nat} {t : List Nat} {c : List mE} {ls : mL} {st : List mV} {h : mH} {j : Nat} : denB M sL post L b ((pc, .getfield j, n, [4, 3]) :: c) ls ((.inr (.inr (.inr 7))) :: st) h = (denB M sL post L b c ls (.inl (h (.inr 7) 3) :: st) h) := rfl
theorem ev_ldc2_6148914691236517205 {M : mK} {sL : Nat} {post : mP} {L : Nat → mC} {b pc n : Nat} {t : List Nat} {c : List mE} {ls : mL} {st : List mV} {h : mH} {j : Nat} : denB M sL post L b ((pc, .ldc2_w j, n, [6148914691236517205]) :: c) ls st h = (denB M sL post L b c ls (.inr (.inl (lN 6148914691236517205)) :: st) h) := rfl
theorem ev_lsub {M : mK} {sL : Nat} {post : mP} {L : Nat → mC} {b pc n : Nat} {t : List Nat} {c : List mE} {ls : mL} {st : List mV} {h : mH} {x y : Int64} : denB M sL post L b ((pc, .lsub, n, t) :: c) ls (.inr (.inl y) :: .inr (.inl x) :: st) h = (denB M sL post L b c ls (.inr (.inl (x - y)) :: st) h) := rfl
theorem ev_lstore_n_0 {M : mK} {sL : Nat} {post : mP} {L : Nat → mC} {b pc n : Nat} {t : List Nat} {c : List mE} {ls : mL} {st : List mV} {h : mH} {l : mL} {y z : Option mV} {x : Int64} : denB M sL post L b ((pc, .lstore_n 0, n, t) :: c) (y :: z :: l) (.inr (.inl x) :: st) h = (denB M sL post L b c (some (.inr (.inl x)) :: none :: l) st h) := rfl
theorem ev_ldc2_3689348814741910323 {M : mK} {sL : Nat} {post : mP} {L : Nat → mC} {b pc n : Nat} {t : List Nat} {c : List mE} {ls : mL} {st : List mV} {h : mH} {j : Nat} : denB M sL post L b ((pc, .ldc2_w j, n, [3689348814741910323]) :: c) ls st h = (denB M sL post L b c ls (.inr (.inl (lN 3689348814741910323)) :: st) h) := rfl
theorem ev_ladd {M : mK} {sL : Nat} {post : mP} {L : Nat → mC} {b pc n : Nat} {t : List Nat} {c : List mE} {ls : mL} {st : List mV} {h : mH} {x y : Int64} : denB M sL post L b ((pc, .ladd, n, t) :: c) ls (.inr (.inl y) :: .inr (.inl x) :: st) h = (denB M sL post L b c ls (.inr (.inl (x + y)) :: st) h) := rfl
theorem ev_ldc2_1085102592571150095 {M : mK} {sL : Nat} {post : mP} {L : Nat → mC} {b pc n : Nat} {t : List Nat} {c : List mE} {ls : mL} {st : List mV} {h : mH} {j : Nat} : denB M sL post L b ((pc, .ldc2_w j, n, [1085102592571150095]) :: c) ls st h = (denB M sL post L b c ls (.inr (.inl (lN 1085102592571150095)) :: st) h) := rfl
theorem ev_bipush_127 {M : mK} {sL : Nat} {post : mP} {L : Nat → mC} {b pc n : Nat} {t : List Nat} {c : List mE} {ls : mL} {st : List mV} {h : mH}  : denB M sL post L b ((pc, .bipush 127, n, t) :: c) ls st h = (denB M sL post L b c ls (.inl (nI 127) :: st) h) := rfl
theorem ev_nop {M : mK} {sL : Nat} {post : mP} {L : Nat → mC} {b pc n : Nat} {t : List Nat} {c : List mE} {ls : mL} {st : List mV} {h : mH}  : denB M sL post L b ((pc, .nop, n, [7]) :: c) ls st h = (False) := rfl
theorem ev_calls_3_0_0 {M : mK} {sL : Nat} {post : mP} {L : Nat → mC} {b pc n : Nat} {t : List Nat} {c : List mE} {ls : mL} {st : List mV} {h : mH} {j u y : Nat} {v0 v1 v2 : mV} : denB M sL post L b ((pc, .invokestatic j, n, [u, y, 3, 0]) :: c) ls [v2, v1, v0] h = (mU M y [v0, v1, v2] h (fun h' => denB M sL post L b c ls [] h')) := rfl
theorem ev_calls_3_1_0 {M : mK} {sL : Nat} {post : mP} {L : Nat → mC} {b pc n : Nat} {t : List Nat} {c : List mE} {ls : mL} {st : List mV} {h : mH} {j u y : Nat} {v0 v1 v2 w0 : mV} : denB M sL post L b ((pc, .invokestatic j, n, [u, y, 3, 0]) :: c) ls [v2, v1, v0, w0] h = (mU M y [v0, v1, v2] h (fun h' => denB M sL post L b c ls [w0] h')) := rfl
theorem ev_calls_3_2_0 {M : mK} {sL : Nat} {post : mP} {L : Nat → mC} {b pc n : Nat} {t : List Nat} {c : List mE} {ls : mL} {st : List mV} {h : mH} {j u y : Nat} {v0 v1 v2 w0 w1 : mV} : denB M sL post L b ((pc, .invokestatic j, n, [u, y, 3, 0]) :: c) ls [v2, v1, v0, w0, w1] h = (mU M y [v0, v1, v2] h (fun h' => denB M sL post L b c ls [w0, w1] h')) := rfl
theorem ev_calls_3_3_0 {M : mK} {sL : Nat} {post : mP} {L : Nat → mC} {b pc n : Nat} {t : List Nat} {c : List mE} {ls : mL} {st : List mV} {h : mH} {j u y : Nat} {v0 v1 v2 w0 w1 w2 : mV} : denB M sL post L b ((pc, .invokestatic j, n, [u, y, 3, 0]) :: c) ls [v2, v1, v0, w0, w1, w2] h = (mU M y [v0, v1, v2] h (fun h' => denB M sL post L b c ls [w0, w1, w2] h')) := rfl
theorem ev_calls_3_4_0 {M : mK} {sL : Nat} {post : mP} {L : Nat → mC} {b pc n : Nat} {t : List Nat} {c : List mE} {ls : mL} {st : List mV} {h : mH} {j u y : Nat} {v0 v1 v2 w0 w1 w2 w3 : mV} : denB M sL post L b ((pc, .invokestatic j, n, [u, y, 3, 0]) :: c) ls [v2, v1, v0, w0, w1, w2, w3] h = (mU M y [v0, v1, v2] h (fun h' => denB M sL post L b c ls [w0, w1, w2, w3] h')) := rfl
end
section
/-! ===== the methods by their numbers; calls as deep as d ===== -/
abbrev mM : Type := MethodName × ByteArray × Nat × Option FieldType × String × Option Nat × List mB
def mtab : List mM := [
  (yX0_copyFrom, cX0_copyFrom, 2, none, RX0, some 0, md_X0_copyFrom),
  (yX0_hasLayer, cX0_hasLayer, 2, (some .boolean), RX0, some 0, md_X0_hasLayer),
  (yX0_hasBacking, cX0_hasBacking, 2, (some .boolean), RX0, some 0, md_X0_hasBacking),
  (yX0_hasSnapshot, cX0_hasSnapshot, 2, (some .boolean), RX0, some 0, md_X0_hasSnapshot),
  (yX0_addLayer, cX0_addLayer, 3, (some .int), RX0, some 0, md_X0_addLayer),
  (yX0_snapshotSet, cX0_snapshotSet, 3, (some .int), RX0, some 0, md_X0_snapshotSet),
  (yX0_leastMissingSnapshot, cX0_leastMissingSnapshot, 2, (some .int), RX0, some 0, md_X0_leastMissingSnapshot),
  (yX0_layersBelow, cX0_layersBelow, 4, (some .int), RX0, some 0, md_X0_layersBelow),
  (yX0_standsOn, cX0_standsOn, 5, (some .boolean), RX0, some 0, md_X0_standsOn),
  (yX0_tableAt, cX0_tableAt, 5, (some .int), RX0, some 0, md_X0_tableAt),
  (yX0_dataAt, cX0_dataAt, 5, (some .int), RX0, some 0, md_X0_dataAt),
  (yX0_dataOf, cX0_dataOf, 3, (some .int), RX0, some 0, md_X0_dataOf),
  (yX0_ownBlocks, cX0_ownBlocks, 4, (some .int), RX0, some 0, md_X0_ownBlocks),
  (yX0_at, cX0_at, 6, (some .int), RX0, some 0, md_X0_at),
  (yX0_atOld, cX0_atOld, 5, (some .int), RX0, some 0, md_X0_atOld),
  (yX0_sameBlock, cX0_sameBlock, 5, (some .boolean), RX0, some 0, md_X0_sameBlock),
  (yX0_alike, cX0_alike, 4, (some .boolean), RX0, some 0, md_X0_alike),
  (yX0_leastAlike, cX0_leastAlike, 5, (some .int), RX0, some 0, md_X0_leastAlike),
  (yX0_tablesOf, cX0_tablesOf, 7, (some .long), RX0, some 0, md_X0_tablesOf),
  (yX0_dataNamedBy, cX0_dataNamedBy, 7, (some .long), RX0, some 0, md_X0_dataNamedBy),
  (yX0_heldBy, cX0_heldBy, 4, (some .long), RX0, some 0, md_X0_heldBy),
  (yX0_countCells, cX0_countCells, 5, none, RX0, some 0, md_X0_countCells),
  (yX0_countTrue, cX0_countTrue, 3, none, RX0, some 0, md_X0_countTrue),
  (yX0_leakSet, cX0_leakSet, 4, (some .long), RX0, some 0, md_X0_leakSet),
  (yX0_lackSet, cX0_lackSet, 4, (some .long), RX0, some 0, md_X0_lackSet),
  (yX0_freeSet, cX0_freeSet, 4, (some .long), RX0, some 0, md_X0_freeSet),
  (yX0_sharedData, cX0_sharedData, 4, (some .long), RX0, some 0, md_X0_sharedData),
  (yX0_mendCounts, cX0_mendCounts, 3, (some .int), RX0, some 0, md_X0_mendCounts),
  (yX1_append, cX1_append, 2, none, RX1, some 1, md_X1_append),
  (yX1_ahead, cX1_ahead, 1, (some .int), RX1, some 1, md_X1_ahead),
  (yX1_faultPlace, cX1_faultPlace, 1, (some .int), RX1, some 1, md_X1_faultPlace),
  (yX1_takeParting, cX1_takeParting, 1, (some .boolean), RX1, some 1, md_X1_takeParting),
  (yX1_takeDeed, cX1_takeDeed, 3, (some .boolean), RX1, some 1, md_X1_takeDeed),
  (yX1_takeNumber, cX1_takeNumber, 3, (some .boolean), RX1, some 1, md_X1_takeNumber),
  (yX2_set, cX2_set, 5, none, RX2, some 2, md_X2_set),
  (yX2_start, cX2_start, 3, none, RX2, some 2, md_X2_start),
  (yX2_step, cX2_step, 1, (some .boolean), RX2, some 2, md_X2_step),
  (yX2_addToCount, cX2_addToCount, 3, none, RX2, some 2, md_X2_addToCount),
  (yX2_newCluster, cX2_newCluster, 2, (some .int), RX2, some 2, md_X2_newCluster),
  (yX2_go, cX2_go, 3, none, RX2, some 2, md_X2_go),
  (yX2_ownTable, cX2_ownTable, 7, (some .int), RX2, some 2, md_X2_ownTable),
  (yX2_noteTables, cX2_noteTables, 2, none, RX2, some 2, md_X2_noteTables),
  (yX2_releaseNoted, cX2_releaseNoted, 4, none, RX2, some 2, md_X2_releaseNoted),
  (yX2_rewriteAll, cX2_rewriteAll, 4, (some .int), RX2, some 2, md_X2_rewriteAll),
  (yX2_writePlace, cX2_writePlace, 10, none, RX2, some 2, md_X2_writePlace),
  (yX2_takeSnapshot, cX2_takeSnapshot, 4, none, RX2, some 2, md_X2_takeSnapshot),
  (yX2_dropSnapshot, cX2_dropSnapshot, 3, none, RX2, some 2, md_X2_dropSnapshot),
  (yX2_revertTo, cX2_revertTo, 5, none, RX2, some 2, md_X2_revertTo),
  (yX2_giveUpBlock, cX2_giveUpBlock, 5, none, RX2, some 2, md_X2_giveUpBlock),
  (yX2_mergeDown, cX2_mergeDown, 4, none, RX2, some 2, md_X2_mergeDown),
  (yX2_moveOnto, cX2_moveOnto, 7, none, RX2, some 2, md_X2_moveOnto),
  (yX2_foldAlike, cX2_foldAlike, 9, none, RX2, some 2, md_X2_foldAlike),
  (yX3_layer, cX3_layer, 2, (some .int), RX3, some 3, md_X3_layer),
  (yX3_of, cX3_of, 3, (some .int), RX3, some 3, md_X3_of),
  (yX3_read, cX3_read, 3, (some .int), RX3, some 3, md_X3_read),
  (yX3_readOld, cX3_readOld, 3, (some .int), RX3, some 3, md_X3_readOld),
  (yX3_unlike, cX3_unlike, 4, (some .int), RX3, some 3, md_X3_unlike),
  (yX3_sum, cX3_sum, 4, (some .int), RX3, some 3, md_X3_sum),
  (yX3_write, cX3_write, 4, (some .int), RX3, some 3, md_X3_write),
  (yX3_snap, cX3_snap, 2, (some .int), RX3, some 3, md_X3_snap),
  (yX3_drop, cX3_drop, 2, (some .int), RX3, some 3, md_X3_drop),
  (yX3_revert, cX3_revert, 2, (some .int), RX3, some 3, md_X3_revert),
  (yX3_giveUp, cX3_giveUp, 3, (some .int), RX3, some 3, md_X3_giveUp),
  (yX3_merge, cX3_merge, 2, (some .int), RX3, some 3, md_X3_merge),
  (yX3_move, cX3_move, 4, (some .int), RX3, some 3, md_X3_move),
  (yX3_fold, cX3_fold, 1, (some .int), RX3, some 3, md_X3_fold),
  (yX3_tear, cX3_tear, 3, (some .int), RX3, some 3, md_X3_tear),
  (yX3_cluster, cX3_cluster, 3, (some .int), RX3, some 3, md_X3_cluster),
  (yX3_spoil, cX3_spoil, 4, (some .int), RX3, some 3, md_X3_spoil),
  (yX3_all, cX3_all, 2, (some .long), RX3, some 3, md_X3_all),
  (yX3_repair, cX3_repair, 1, (some .int), RX3, some 3, md_X3_repair),
  (yX3_holds, cX3_holds, 2, (some .long), RX3, some 3, md_X3_holds),
  (yX3_alone, cX3_alone, 6, (some .long), RX3, some 3, md_X3_alone),
  (yX3_holders, cX3_holders, 4, (some .int), RX3, some 3, md_X3_holders),
  (yX3_best, cX3_best, 6, (some .int), RX3, some 3, md_X3_best),
  (yX3_twins, cX3_twins, 6, (some .int), RX3, some 3, md_X3_twins),
  (yX3_cost, cX3_cost, 3, (some .int), RX3, some 3, md_X3_cost),
  (yX3_torn, cX3_torn, 6, (some .int), RX3, some 3, md_X3_torn),
  (yX3_leaks, cX3_leaks, 5, (some .int), RX3, some 3, md_X3_leaks),
  (yX3_behind, cX3_behind, 6, (some .int), RX3, some 3, md_X3_behind),
  (yX3_room, cX3_room, 2, (some .int), RX3, some 3, md_X3_room),
  (yX3_feed, cX3_feed, 5, (some .int), RX3, some 3, md_X3_feed),
  (yX3_wipe, cX3_wipe, 2, (some .int), RX3, some 3, md_X3_wipe),
  (yX3_run, cX3_run, 5, (some .int), RX3, some 3, md_X3_run),
  (yX3_keep, cX3_keep, 1, (some .int), RX3, some 3, md_X3_keep),
  (yX3_again, cX3_again, 1, (some .int), RX3, some 3, md_X3_again),
  (yX3_count, cX3_count, 2, (some .int), RX3, some 3, md_X3_count),
  (yX3_refused, cX3_refused, 2, (some .int), RX3, some 3, md_X3_refused),
  (yX3_refuse, cX3_refuse, 3, (some .int), RX3, some 3, md_X3_refuse),
  (yX3_foresee, cX3_foresee, 5, (some .int), RX3, some 3, md_X3_foresee),
  (yX3_settle, cX3_settle, 2, (some .int), RX3, some 3, md_X3_settle),
  (yX3_fits, cX3_fits, 5, (some .boolean), RX3, some 3, md_X3_fits),
  (yX3_isHindered, cX3_isHindered, 3, (some .boolean), RX3, some 3, md_X3_isHindered),
  (yX3_rewritingCost, cX3_rewritingCost, 2, (some .int), RX3, some 3, md_X3_rewritingCost),
  (yX3_freedByDrop, cX3_freedByDrop, 2, (some .int), RX3, some 3, md_X3_freedByDrop),
  (yX3_isTornBehind, cX3_isTornBehind, 1, (some .boolean), RX3, none, md_X3_isTornBehind),
  (yX3_isPlace, cX3_isPlace, 1, (some .boolean), RX3, none, md_X3_isPlace),
  (yX3_isCluster, cX3_isCluster, 1, (some .boolean), RX3, none, md_X3_isCluster),
  (yX3_isIn, cX3_isIn, 3, (some .boolean), RX3, none, md_X3_isIn),
  (yX3_holderOf, cX3_holderOf, 1, (some .int), RX3, none, md_X3_holderOf),
  (yX4_in, cX4_in, 3, (some .boolean), RX4, none, md_X4_in),
  (yX4_refuse, cX4_refuse, 2, (some .int), RX4, some 4, md_X4_refuse),
  (yX4_copies, cX4_copies, 3, none, RX4, none, md_X4_copies),
  (yX4_isLayer, cX4_isLayer, 2, (some .boolean), RX4, some 4, md_X4_isLayer),
  (yX4_isSnap, cX4_isSnap, 2, (some .boolean), RX4, some 4, md_X4_isSnap),
  (yX4_isPlace, cX4_isPlace, 1, (some .boolean), RX4, none, md_X4_isPlace),
  (yX4_isBlock, cX4_isBlock, 1, (some .boolean), RX4, none, md_X4_isBlock),
  (yX4_isCluster, cX4_isCluster, 1, (some .boolean), RX4, none, md_X4_isCluster),
  (yX4_dir, cX4_dir, 2, (some .int), RX4, none, md_X4_dir),
  (yX4_dataOf, cX4_dataOf, 4, (some .int), RX4, some 4, md_X4_dataOf),
  (yX4_readBy, cX4_readBy, 6, (some .int), RX4, some 4, md_X4_readBy),
  (yX4_readOf, cX4_readOf, 3, (some .int), RX4, some 4, md_X4_readOf),
  (yX4_layer, cX4_layer, 2, (some .int), RX4, some 4, md_X4_layer),
  (yX4_read, cX4_read, 3, (some .int), RX4, some 4, md_X4_read),
  (yX4_readOld, cX4_readOld, 3, (some .int), RX4, some 4, md_X4_readOld),
  (yX4_unlike, cX4_unlike, 4, (some .int), RX4, some 4, md_X4_unlike),
  (yX4_sum, cX4_sum, 4, (some .int), RX4, some 4, md_X4_sum),
  (yX4_standsOn, cX4_standsOn, 4, (some .boolean), RX4, some 4, md_X4_standsOn),
  (yX4_isNamedBy, cX4_isNamedBy, 2, (some .boolean), RX4, some 4, md_X4_isNamedBy),
  (yX4_reckons, cX4_reckons, 3, none, RX4, some 4, md_X4_reckons),
  (yX4_isTable, cX4_isTable, 5, (some .boolean), RX4, some 4, md_X4_isTable),
  (yX4_hasLack, cX4_hasLack, 3, (some .boolean), RX4, some 4, md_X4_hasLack),
  (yX4_may, cX4_may, 1, (some .boolean), RX4, some 4, md_X4_may),
  (yX4_sets, cX4_sets, 3, none, RX4, some 4, md_X4_sets),
  (yX4_counts, cX4_counts, 3, none, RX4, some 4, md_X4_counts),
  (yX4_setsFour, cX4_setsFour, 6, none, RX4, some 4, md_X4_setsFour),
  (yX4_copiesCells, cX4_copiesCells, 3, none, RX4, some 4, md_X4_copiesCells),
  (yX4_anew, cX4_anew, 2, (some .int), RX4, some 4, md_X4_anew),
  (yX4_owns, cX4_owns, 7, none, RX4, some 4, md_X4_owns),
  (yX4_releases, cX4_releases, 3, none, RX4, some 4, md_X4_releases),
  (yX4_writes, cX4_writes, 8, none, RX4, some 4, md_X4_writes),
  (yX4_remembers, cX4_remembers, 3, none, RX4, some 4, md_X4_remembers),
  (yX4_releasesHad, cX4_releasesHad, 2, none, RX4, some 4, md_X4_releasesHad),
  (yX4_countsTables, cX4_countsTables, 3, none, RX4, some 4, md_X4_countsTables),
  (yX4_setsDirectory, cX4_setsDirectory, 4, none, RX4, some 4, md_X4_setsDirectory),
  (yX4_snaps, cX4_snaps, 4, none, RX4, some 4, md_X4_snaps),
  (yX4_drops, cX4_drops, 2, none, RX4, some 4, md_X4_drops),
  (yX4_reverts, cX4_reverts, 3, none, RX4, some 4, md_X4_reverts),
  (yX4_givesUp, cX4_givesUp, 4, none, RX4, some 4, md_X4_givesUp),
  (yX4_merges, cX4_merges, 3, none, RX4, some 4, md_X4_merges),
  (yX4_isSame, cX4_isSame, 6, (some .boolean), RX4, some 4, md_X4_isSame),
  (yX4_moves, cX4_moves, 6, none, RX4, some 4, md_X4_moves),
  (yX4_areAlike, cX4_areAlike, 5, (some .boolean), RX4, some 4, md_X4_areAlike),
  (yX4_likeOf, cX4_likeOf, 3, (some .int), RX4, some 4, md_X4_likeOf),
  (yX4_folds, cX4_folds, 5, none, RX4, some 4, md_X4_folds),
  (yX4_performs, cX4_performs, 6, none, RX4, some 4, md_X4_performs),
  (yX4_isTooMuch, cX4_isTooMuch, 5, (some .boolean), RX4, some 4, md_X4_isTooMuch),
  (yX4_deed, cX4_deed, 5, (some .int), RX4, some 4, md_X4_deed),
  (yX4_isByte, cX4_isByte, 1, (some .boolean), RX4, none, md_X4_isByte),
  (yX4_write, cX4_write, 4, (some .int), RX4, some 4, md_X4_write),
  (yX4_snap, cX4_snap, 3, (some .int), RX4, some 4, md_X4_snap),
  (yX4_drop, cX4_drop, 2, (some .int), RX4, some 4, md_X4_drop),
  (yX4_revert, cX4_revert, 2, (some .int), RX4, some 4, md_X4_revert),
  (yX4_giveUp, cX4_giveUp, 3, (some .int), RX4, some 4, md_X4_giveUp),
  (yX4_merge, cX4_merge, 2, (some .int), RX4, some 4, md_X4_merge),
  (yX4_move, cX4_move, 4, (some .int), RX4, some 4, md_X4_move),
  (yX4_fold, cX4_fold, 1, (some .int), RX4, some 4, md_X4_fold),
  (yX4_tear, cX4_tear, 3, (some .int), RX4, some 4, md_X4_tear),
  (yX4_cluster, cX4_cluster, 3, (some .int), RX4, some 4, md_X4_cluster),
  (yX4_spoil, cX4_spoil, 4, (some .int), RX4, some 4, md_X4_spoil),
  (yX4_all, cX4_all, 7, (some .long), RX4, some 4, md_X4_all),
  (yX4_repair, cX4_repair, 3, (some .int), RX4, some 4, md_X4_repair),
  (yX4_directoryOf, cX4_directoryOf, 2, (some .int), RX4, some 4, md_X4_directoryOf),
  (yX4_heldBy, cX4_heldBy, 7, (some .long), RX4, some 4, md_X4_heldBy),
  (yX4_holds, cX4_holds, 2, (some .long), RX4, some 4, md_X4_holds),
  (yX4_alone, cX4_alone, 6, (some .long), RX4, some 4, md_X4_alone),
  (yX4_holders, cX4_holders, 4, (some .int), RX4, some 4, md_X4_holders),
  (yX4_free, cX4_free, 3, (some .int), RX4, some 4, md_X4_free),
  (yX4_best, cX4_best, 7, (some .int), RX4, some 4, md_X4_best),
  (yX4_twins, cX4_twins, 4, (some .int), RX4, some 4, md_X4_twins),
  (yX4_wrong, cX4_wrong, 4, (some .int), RX4, some 4, md_X4_wrong),
  (yX4_cost, cX4_cost, 4, (some .int), RX4, some 4, md_X4_cost),
  (yX4_thought, cX4_thought, 9, (some .int), RX4, some 4, md_X4_thought),
  (yX4_torn, cX4_torn, 6, (some .int), RX4, some 4, md_X4_torn),
  (yX4_leaks, cX4_leaks, 5, (some .int), RX4, some 4, md_X4_leaks),
  (yX4_behind, cX4_behind, 6, (some .int), RX4, some 4, md_X4_behind),
  (yX4_through, cX4_through, 5, (some .int), RX4, some 4, md_X4_through),
  (yX4_room, cX4_room, 2, (some .int), RX4, some 4, md_X4_room),
  (yX4_of, cX4_of, 5, (some .int), RX4, some 4, md_X4_of),
  (yX4_feed, cX4_feed, 5, (some .int), RX4, some 4, md_X4_feed),
  (yX4_wipe, cX4_wipe, 2, (some .int), RX4, some 4, md_X4_wipe),
  (yX4_numbersOf, cX4_numbersOf, 1, (some .int), RX4, none, md_X4_numbersOf),
  (yX4_isDigit, cX4_isDigit, 2, (some .boolean), RX4, some 4, md_X4_isDigit),
  (yX4_isDeed, cX4_isDeed, 4, (some .boolean), RX4, some 4, md_X4_isDeed),
  (yX4_areDeeds, cX4_areDeeds, 1, (some .boolean), RX4, some 4, md_X4_areDeeds),
  (yX4_does, cX4_does, 4, (some .int), RX4, some 4, md_X4_does),
  (yX4_run, cX4_run, 3, (some .int), RX4, some 4, md_X4_run),
  (yX4_keep, cX4_keep, 1, (some .int), RX4, some 4, md_X4_keep),
  (yX4_again, cX4_again, 1, (some .int), RX4, some 4, md_X4_again),
  (yX4_count, cX4_count, 4, (some .int), RX4, some 4, md_X4_count),
  (yX4_refused, cX4_refused, 2, (some .int), RX4, some 4, md_X4_refused),
  (yJ13_bitCount_95d88, cJ13_bitCount_95d88, 2, (some .int), RJ13, none, md_J13_bitCount),
  (yJ7_rangeCheck_23922, cJ7_rangeCheck_23922, 3, none, RJ7, none, md_J7_rangeCheck),
  (yJ7_fill_53178, cJ7_fill_53178, 4, none, RJ7, none, md_J7_fill2),
  (yJ7_fill_fda19, cJ7_fill_fda19, 5, none, RJ7, none, md_J7_fill4)]
def mdf : MethodName := ⟨"", "", ""⟩
def mth (y : Nat) : mM := mtab.getD y (mdf, .mk #[], 0, none, "", none, [])
/-- "wsdrgmf".indexOf -/
def xix (x : Int32) : Int32 := if x = 119 then 0 else if x = 115 then 1 else if x = 100 then 2 else if x = 114 then 3 else if x = 103 then 4 else if x = 109 then 5 else if x = 102 then 6 else -1
def rcv (ci : Option Nat) (as : List mV) : Prop := match ci with
  | none => True
  | some k => match as with
    | .inr (.inr r) :: _ => (obj r).1 = k
    | _ => False
def ent : List mV → mL
  | [] => []
  | .inr (.inl x) :: as => some (.inr (.inl x)) :: none :: ent as
  | v :: as => some v :: ent as
def Kd (sL : Nat) : Nat → mK
  | 0 => fun _ _ _ _ => False
  | d + 1 => fun y as h post => (y = 900 ∧ ∃ x, as = [.inr (.inr (.inr 21)), .inl x] ∧ post (some (.inl (xix x))) h) ∨
    (y < 195 ∧ rcv (mth y).2.2.2.2.2.1 as ∧ (ent as).length ≤ (mth y).2.2.1 ∧ EX (Kd sL d) sL (mth y).2.2.2.2.2.2 post 0 (ent as ++ List.replicate ((mth y).2.2.1 - (ent as).length) none) [] h)
theorem Kd_mono (sL : Nat) : ∀ d, mMono (Kd sL d)
  | 0 => fun _ _ _ _ _ _ h => h
  | d + 1 => fun y as h p q hpq H => by
    rcases H with ⟨h1, x, h2, h3⟩ | ⟨h1, h2, h3, h4⟩
    · exact Or.inl ⟨h1, x, h2, hpq _ _ h3⟩
    · exact Or.inr ⟨h1, h2, h3, EX.mono (Kd_mono sL d) hpq h4⟩
theorem ke_X0_copyFrom {sL d : Nat} {h : mH} {post : mP} {i : Fin 3} {i0 : Fin 3} (H : EX (Kd sL d) sL md_X0_copyFrom post 0 [some (.inr (.inr (.inl (i, 0)))), some (.inr (.inr (.inl (i0, 0))))] [] h) : Kd sL (d + 1) 0 [.inr (.inr (.inl (i, 0))), .inr (.inr (.inl (i0, 0)))] h post := Or.inr ⟨Nat.le_of_ble_eq_true rfl, rfl, Nat.le_of_ble_eq_true rfl, H⟩
theorem ke_X0_hasLayer {sL d : Nat} {h : mH} {post : mP} {i : Fin 3} {a1 : Int32} (H : EX (Kd sL d) sL md_X0_hasLayer post 0 [some (.inr (.inr (.inl (i, 0)))), some (.inl a1)] [] h) : Kd sL (d + 1) 1 [.inr (.inr (.inl (i, 0))), .inl a1] h post := Or.inr ⟨Nat.le_of_ble_eq_true rfl, rfl, Nat.le_of_ble_eq_true rfl, H⟩
theorem ke_X0_hasBacking {sL d : Nat} {h : mH} {post : mP} {i : Fin 3} {a1 : Int32} (H : EX (Kd sL d) sL md_X0_hasBacking post 0 [some (.inr (.inr (.inl (i, 0)))), some (.inl a1)] [] h) : Kd sL (d + 1) 2 [.inr (.inr (.inl (i, 0))), .inl a1] h post := Or.inr ⟨Nat.le_of_ble_eq_true rfl, rfl, Nat.le_of_ble_eq_true rfl, H⟩
theorem ke_X0_hasSnapshot {sL d : Nat} {h : mH} {post : mP} {i : Fin 3} {a1 : Int32} (H : EX (Kd sL d) sL md_X0_hasSnapshot post 0 [some (.inr (.inr (.inl (i, 0)))), some (.inl a1)] [] h) : Kd sL (d + 1) 3 [.inr (.inr (.inl (i, 0))), .inl a1] h post := Or.inr ⟨Nat.le_of_ble_eq_true rfl, rfl, Nat.le_of_ble_eq_true rfl, H⟩
theorem ke_X0_addLayer {sL d : Nat} {h : mH} {post : mP} {i : Fin 3} {a1 : Int32} (H : EX (Kd sL d) sL md_X0_addLayer post 0 [some (.inr (.inr (.inl (i, 0)))), some (.inl a1), none] [] h) : Kd sL (d + 1) 4 [.inr (.inr (.inl (i, 0))), .inl a1] h post := Or.inr ⟨Nat.le_of_ble_eq_true rfl, rfl, Nat.le_of_ble_eq_true rfl, H⟩
theorem ke_X0_snapshotSet {sL d : Nat} {h : mH} {post : mP} {i : Fin 3} (H : EX (Kd sL d) sL md_X0_snapshotSet post 0 [some (.inr (.inr (.inl (i, 0)))), none, none] [] h) : Kd sL (d + 1) 5 [.inr (.inr (.inl (i, 0)))] h post := Or.inr ⟨Nat.le_of_ble_eq_true rfl, rfl, Nat.le_of_ble_eq_true rfl, H⟩
theorem ke_X0_leastMissingSnapshot {sL d : Nat} {h : mH} {post : mP} {i : Fin 3} (H : EX (Kd sL d) sL md_X0_leastMissingSnapshot post 0 [some (.inr (.inr (.inl (i, 0)))), none] [] h) : Kd sL (d + 1) 6 [.inr (.inr (.inl (i, 0)))] h post := Or.inr ⟨Nat.le_of_ble_eq_true rfl, rfl, Nat.le_of_ble_eq_true rfl, H⟩
theorem ke_X0_layersBelow {sL d : Nat} {h : mH} {post : mP} {i : Fin 3} {a1 : Int32} (H : EX (Kd sL d) sL md_X0_layersBelow post 0 [some (.inr (.inr (.inl (i, 0)))), some (.inl a1), none, none] [] h) : Kd sL (d + 1) 7 [.inr (.inr (.inl (i, 0))), .inl a1] h post := Or.inr ⟨Nat.le_of_ble_eq_true rfl, rfl, Nat.le_of_ble_eq_true rfl, H⟩
theorem ke_X0_standsOn {sL d : Nat} {h : mH} {post : mP} {i : Fin 3} {a1 : Int32} {a2 : Int32} (H : EX (Kd sL d) sL md_X0_standsOn post 0 [some (.inr (.inr (.inl (i, 0)))), some (.inl a1), some (.inl a2), none, none] [] h) : Kd sL (d + 1) 8 [.inr (.inr (.inl (i, 0))), .inl a1, .inl a2] h post := Or.inr ⟨Nat.le_of_ble_eq_true rfl, rfl, Nat.le_of_ble_eq_true rfl, H⟩
theorem ke_X0_tableAt {sL d : Nat} {h : mH} {post : mP} {i : Fin 3} {a1 : Int32} {a2 : Int32} (H : EX (Kd sL d) sL md_X0_tableAt post 0 [some (.inr (.inr (.inl (i, 0)))), some (.inl a1), some (.inl a2), none, none] [] h) : Kd sL (d + 1) 9 [.inr (.inr (.inl (i, 0))), .inl a1, .inl a2] h post := Or.inr ⟨Nat.le_of_ble_eq_true rfl, rfl, Nat.le_of_ble_eq_true rfl, H⟩
theorem ke_X0_dataAt {sL d : Nat} {h : mH} {post : mP} {i : Fin 3} {a1 : Int32} {a2 : Int32} (H : EX (Kd sL d) sL md_X0_dataAt post 0 [some (.inr (.inr (.inl (i, 0)))), some (.inl a1), some (.inl a2), none, none] [] h) : Kd sL (d + 1) 10 [.inr (.inr (.inl (i, 0))), .inl a1, .inl a2] h post := Or.inr ⟨Nat.le_of_ble_eq_true rfl, rfl, Nat.le_of_ble_eq_true rfl, H⟩
theorem ke_X0_dataOf {sL d : Nat} {h : mH} {post : mP} {i : Fin 3} {a1 : Int32} {a2 : Int32} (H : EX (Kd sL d) sL md_X0_dataOf post 0 [some (.inr (.inr (.inl (i, 0)))), some (.inl a1), some (.inl a2)] [] h) : Kd sL (d + 1) 11 [.inr (.inr (.inl (i, 0))), .inl a1, .inl a2] h post := Or.inr ⟨Nat.le_of_ble_eq_true rfl, rfl, Nat.le_of_ble_eq_true rfl, H⟩
theorem ke_X0_ownBlocks {sL d : Nat} {h : mH} {post : mP} {i : Fin 3} {a1 : Int32} (H : EX (Kd sL d) sL md_X0_ownBlocks post 0 [some (.inr (.inr (.inl (i, 0)))), some (.inl a1), none, none] [] h) : Kd sL (d + 1) 12 [.inr (.inr (.inl (i, 0))), .inl a1] h post := Or.inr ⟨Nat.le_of_ble_eq_true rfl, rfl, Nat.le_of_ble_eq_true rfl, H⟩
theorem ke_X0_at {sL d : Nat} {h : mH} {post : mP} {i : Fin 3} {a1 : Int32} {a2 : Int32} (H : EX (Kd sL d) sL md_X0_at post 0 [some (.inr (.inr (.inl (i, 0)))), some (.inl a1), some (.inl a2), none, none, none] [] h) : Kd sL (d + 1) 13 [.inr (.inr (.inl (i, 0))), .inl a1, .inl a2] h post := Or.inr ⟨Nat.le_of_ble_eq_true rfl, rfl, Nat.le_of_ble_eq_true rfl, H⟩
theorem ke_X0_atOld {sL d : Nat} {h : mH} {post : mP} {i : Fin 3} {a1 : Int32} {a2 : Int32} (H : EX (Kd sL d) sL md_X0_atOld post 0 [some (.inr (.inr (.inl (i, 0)))), some (.inl a1), some (.inl a2), none, none] [] h) : Kd sL (d + 1) 14 [.inr (.inr (.inl (i, 0))), .inl a1, .inl a2] h post := Or.inr ⟨Nat.le_of_ble_eq_true rfl, rfl, Nat.le_of_ble_eq_true rfl, H⟩
theorem ke_X0_sameBlock {sL d : Nat} {h : mH} {post : mP} {i : Fin 3} {a1 : Int32} {a2 : Int32} {a3 : Int32} (H : EX (Kd sL d) sL md_X0_sameBlock post 0 [some (.inr (.inr (.inl (i, 0)))), some (.inl a1), some (.inl a2), some (.inl a3), none] [] h) : Kd sL (d + 1) 15 [.inr (.inr (.inl (i, 0))), .inl a1, .inl a2, .inl a3] h post := Or.inr ⟨Nat.le_of_ble_eq_true rfl, rfl, Nat.le_of_ble_eq_true rfl, H⟩
theorem ke_X0_alike {sL d : Nat} {h : mH} {post : mP} {i : Fin 3} {a1 : Int32} {a2 : Int32} (H : EX (Kd sL d) sL md_X0_alike post 0 [some (.inr (.inr (.inl (i, 0)))), some (.inl a1), some (.inl a2), none] [] h) : Kd sL (d + 1) 16 [.inr (.inr (.inl (i, 0))), .inl a1, .inl a2] h post := Or.inr ⟨Nat.le_of_ble_eq_true rfl, rfl, Nat.le_of_ble_eq_true rfl, H⟩
theorem ke_X0_leastAlike {sL d : Nat} {h : mH} {post : mP} {i : Fin 3} {a1 : Int64} {a2 : Int32} (H : EX (Kd sL d) sL md_X0_leastAlike post 0 [some (.inr (.inr (.inl (i, 0)))), some (.inr (.inl a1)), none, some (.inl a2), none] [] h) : Kd sL (d + 1) 17 [.inr (.inr (.inl (i, 0))), .inr (.inl a1), .inl a2] h post := Or.inr ⟨Nat.le_of_ble_eq_true rfl, rfl, Nat.le_of_ble_eq_true rfl, H⟩
theorem ke_X0_tablesOf {sL d : Nat} {h : mH} {post : mP} {i : Fin 3} {a1 : Int32} {a2 : Int32} (H : EX (Kd sL d) sL md_X0_tablesOf post 0 [some (.inr (.inr (.inl (i, 0)))), some (.inl a1), some (.inl a2), none, none, none, none] [] h) : Kd sL (d + 1) 18 [.inr (.inr (.inl (i, 0))), .inl a1, .inl a2] h post := Or.inr ⟨Nat.le_of_ble_eq_true rfl, rfl, Nat.le_of_ble_eq_true rfl, H⟩
theorem ke_X0_dataNamedBy {sL d : Nat} {h : mH} {post : mP} {i : Fin 3} {a1 : Int64} (H : EX (Kd sL d) sL md_X0_dataNamedBy post 0 [some (.inr (.inr (.inl (i, 0)))), some (.inr (.inl a1)), none, none, none, none, none] [] h) : Kd sL (d + 1) 19 [.inr (.inr (.inl (i, 0))), .inr (.inl a1)] h post := Or.inr ⟨Nat.le_of_ble_eq_true rfl, rfl, Nat.le_of_ble_eq_true rfl, H⟩
theorem ke_X0_heldBy {sL d : Nat} {h : mH} {post : mP} {i : Fin 3} {a1 : Int32} (H : EX (Kd sL d) sL md_X0_heldBy post 0 [some (.inr (.inr (.inl (i, 0)))), some (.inl a1), none, none] [] h) : Kd sL (d + 1) 20 [.inr (.inr (.inl (i, 0))), .inl a1] h post := Or.inr ⟨Nat.le_of_ble_eq_true rfl, rfl, Nat.le_of_ble_eq_true rfl, H⟩
theorem ke_X0_countCells {sL d : Nat} {h : mH} {post : mP} {i : Fin 3} (H : EX (Kd sL d) sL md_X0_countCells post 0 [some (.inr (.inr (.inl (i, 0)))), none, none, none, none] [] h) : Kd sL (d + 1) 21 [.inr (.inr (.inl (i, 0)))] h post := Or.inr ⟨Nat.le_of_ble_eq_true rfl, rfl, Nat.le_of_ble_eq_true rfl, H⟩
theorem ke_X0_countTrue {sL d : Nat} {h : mH} {post : mP} {i : Fin 3} (H : EX (Kd sL d) sL md_X0_countTrue post 0 [some (.inr (.inr (.inl (i, 0)))), none, none] [] h) : Kd sL (d + 1) 22 [.inr (.inr (.inl (i, 0)))] h post := Or.inr ⟨Nat.le_of_ble_eq_true rfl, rfl, Nat.le_of_ble_eq_true rfl, H⟩
theorem ke_X0_leakSet {sL d : Nat} {h : mH} {post : mP} {i : Fin 3} (H : EX (Kd sL d) sL md_X0_leakSet post 0 [some (.inr (.inr (.inl (i, 0)))), none, none, none] [] h) : Kd sL (d + 1) 23 [.inr (.inr (.inl (i, 0)))] h post := Or.inr ⟨Nat.le_of_ble_eq_true rfl, rfl, Nat.le_of_ble_eq_true rfl, H⟩
theorem ke_X0_lackSet {sL d : Nat} {h : mH} {post : mP} {i : Fin 3} (H : EX (Kd sL d) sL md_X0_lackSet post 0 [some (.inr (.inr (.inl (i, 0)))), none, none, none] [] h) : Kd sL (d + 1) 24 [.inr (.inr (.inl (i, 0)))] h post := Or.inr ⟨Nat.le_of_ble_eq_true rfl, rfl, Nat.le_of_ble_eq_true rfl, H⟩
theorem ke_X0_freeSet {sL d : Nat} {h : mH} {post : mP} {i : Fin 3} (H : EX (Kd sL d) sL md_X0_freeSet post 0 [some (.inr (.inr (.inl (i, 0)))), none, none, none] [] h) : Kd sL (d + 1) 25 [.inr (.inr (.inl (i, 0)))] h post := Or.inr ⟨Nat.le_of_ble_eq_true rfl, rfl, Nat.le_of_ble_eq_true rfl, H⟩
theorem ke_X0_sharedData {sL d : Nat} {h : mH} {post : mP} {i : Fin 3} (H : EX (Kd sL d) sL md_X0_sharedData post 0 [some (.inr (.inr (.inl (i, 0)))), none, none, none] [] h) : Kd sL (d + 1) 26 [.inr (.inr (.inl (i, 0)))] h post := Or.inr ⟨Nat.le_of_ble_eq_true rfl, rfl, Nat.le_of_ble_eq_true rfl, H⟩
theorem ke_X0_mendCounts {sL d : Nat} {h : mH} {post : mP} {i : Fin 3} (H : EX (Kd sL d) sL md_X0_mendCounts post 0 [some (.inr (.inr (.inl (i, 0)))), none, none] [] h) : Kd sL (d + 1) 27 [.inr (.inr (.inl (i, 0)))] h post := Or.inr ⟨Nat.le_of_ble_eq_true rfl, rfl, Nat.le_of_ble_eq_true rfl, H⟩
theorem ke_X1_append {sL d : Nat} {h : mH} {post : mP} {a1 : Int32} (H : EX (Kd sL d) sL md_X1_append post 0 [some (.inr (.inr (.inr 4))), some (.inl a1)] [] h) : Kd sL (d + 1) 28 [.inr (.inr (.inr 4)), .inl a1] h post := Or.inr ⟨Nat.le_of_ble_eq_true rfl, rfl, Nat.le_of_ble_eq_true rfl, H⟩
theorem ke_X1_ahead {sL d : Nat} {h : mH} {post : mP}  (H : EX (Kd sL d) sL md_X1_ahead post 0 [some (.inr (.inr (.inr 4)))] [] h) : Kd sL (d + 1) 29 [.inr (.inr (.inr 4))] h post := Or.inr ⟨Nat.le_of_ble_eq_true rfl, rfl, Nat.le_of_ble_eq_true rfl, H⟩
theorem ke_X1_faultPlace {sL d : Nat} {h : mH} {post : mP}  (H : EX (Kd sL d) sL md_X1_faultPlace post 0 [some (.inr (.inr (.inr 4)))] [] h) : Kd sL (d + 1) 30 [.inr (.inr (.inr 4))] h post := Or.inr ⟨Nat.le_of_ble_eq_true rfl, rfl, Nat.le_of_ble_eq_true rfl, H⟩
theorem ke_X1_takeParting {sL d : Nat} {h : mH} {post : mP}  (H : EX (Kd sL d) sL md_X1_takeParting post 0 [some (.inr (.inr (.inr 4)))] [] h) : Kd sL (d + 1) 31 [.inr (.inr (.inr 4))] h post := Or.inr ⟨Nat.le_of_ble_eq_true rfl, rfl, Nat.le_of_ble_eq_true rfl, H⟩
theorem ke_X1_takeDeed {sL d : Nat} {h : mH} {post : mP}  (H : EX (Kd sL d) sL md_X1_takeDeed post 0 [some (.inr (.inr (.inr 4))), none, none] [] h) : Kd sL (d + 1) 32 [.inr (.inr (.inr 4))] h post := Or.inr ⟨Nat.le_of_ble_eq_true rfl, rfl, Nat.le_of_ble_eq_true rfl, H⟩
theorem ke_X1_takeNumber {sL d : Nat} {h : mH} {post : mP} {a1 : Int32} (H : EX (Kd sL d) sL md_X1_takeNumber post 0 [some (.inr (.inr (.inr 4))), some (.inl a1), none] [] h) : Kd sL (d + 1) 33 [.inr (.inr (.inr 4)), .inl a1] h post := Or.inr ⟨Nat.le_of_ble_eq_true rfl, rfl, Nat.le_of_ble_eq_true rfl, H⟩
theorem ke_X2_set {sL d : Nat} {h : mH} {post : mP} {a1 : Int32} {a2 : Int32} {a3 : Int32} {a4 : Int32} (H : EX (Kd sL d) sL md_X2_set post 0 [some (.inr (.inr (.inr 2))), some (.inl a1), some (.inl a2), some (.inl a3), some (.inl a4)] [] h) : Kd sL (d + 1) 34 [.inr (.inr (.inr 2)), .inl a1, .inl a2, .inl a3, .inl a4] h post := Or.inr ⟨Nat.le_of_ble_eq_true rfl, rfl, Nat.le_of_ble_eq_true rfl, H⟩
theorem ke_X2_start {sL d : Nat} {h : mH} {post : mP} {i0 : Fin 3} {a2 : Int32} (H : EX (Kd sL d) sL md_X2_start post 0 [some (.inr (.inr (.inr 2))), some (.inr (.inr (.inl (i0, 0)))), some (.inl a2)] [] h) : Kd sL (d + 1) 35 [.inr (.inr (.inr 2)), .inr (.inr (.inl (i0, 0))), .inl a2] h post := Or.inr ⟨Nat.le_of_ble_eq_true rfl, rfl, Nat.le_of_ble_eq_true rfl, H⟩
theorem ke_X2_step {sL d : Nat} {h : mH} {post : mP}  (H : EX (Kd sL d) sL md_X2_step post 0 [some (.inr (.inr (.inr 2)))] [] h) : Kd sL (d + 1) 36 [.inr (.inr (.inr 2))] h post := Or.inr ⟨Nat.le_of_ble_eq_true rfl, rfl, Nat.le_of_ble_eq_true rfl, H⟩
theorem ke_X2_addToCount {sL d : Nat} {h : mH} {post : mP} {a1 : Int32} {a2 : Int32} (H : EX (Kd sL d) sL md_X2_addToCount post 0 [some (.inr (.inr (.inr 2))), some (.inl a1), some (.inl a2)] [] h) : Kd sL (d + 1) 37 [.inr (.inr (.inr 2)), .inl a1, .inl a2] h post := Or.inr ⟨Nat.le_of_ble_eq_true rfl, rfl, Nat.le_of_ble_eq_true rfl, H⟩
theorem ke_X2_newCluster {sL d : Nat} {h : mH} {post : mP}  (H : EX (Kd sL d) sL md_X2_newCluster post 0 [some (.inr (.inr (.inr 2))), none] [] h) : Kd sL (d + 1) 38 [.inr (.inr (.inr 2))] h post := Or.inr ⟨Nat.le_of_ble_eq_true rfl, rfl, Nat.le_of_ble_eq_true rfl, H⟩
theorem ke_X2_go {sL d : Nat} {h : mH} {post : mP} {i0 : Fin 3} {a2 : Int32} (H : EX (Kd sL d) sL md_X2_go post 0 [some (.inr (.inr (.inr 2))), some (.inr (.inr (.inl (i0, 0)))), some (.inl a2)] [] h) : Kd sL (d + 1) 39 [.inr (.inr (.inr 2)), .inr (.inr (.inl (i0, 0))), .inl a2] h post := Or.inr ⟨Nat.le_of_ble_eq_true rfl, rfl, Nat.le_of_ble_eq_true rfl, H⟩
theorem ke_X2_ownTable {sL d : Nat} {h : mH} {post : mP} {a1 : Int32} {a2 : Int32} (H : EX (Kd sL d) sL md_X2_ownTable post 0 [some (.inr (.inr (.inr 2))), some (.inl a1), some (.inl a2), none, none, none, none] [] h) : Kd sL (d + 1) 40 [.inr (.inr (.inr 2)), .inl a1, .inl a2] h post := Or.inr ⟨Nat.le_of_ble_eq_true rfl, rfl, Nat.le_of_ble_eq_true rfl, H⟩
theorem ke_X2_noteTables {sL d : Nat} {h : mH} {post : mP} {a1 : Int32} (H : EX (Kd sL d) sL md_X2_noteTables post 0 [some (.inr (.inr (.inr 2))), some (.inl a1)] [] h) : Kd sL (d + 1) 41 [.inr (.inr (.inr 2)), .inl a1] h post := Or.inr ⟨Nat.le_of_ble_eq_true rfl, rfl, Nat.le_of_ble_eq_true rfl, H⟩
theorem ke_X2_releaseNoted {sL d : Nat} {h : mH} {post : mP}  (H : EX (Kd sL d) sL md_X2_releaseNoted post 0 [some (.inr (.inr (.inr 2))), none, none, none] [] h) : Kd sL (d + 1) 42 [.inr (.inr (.inr 2))] h post := Or.inr ⟨Nat.le_of_ble_eq_true rfl, rfl, Nat.le_of_ble_eq_true rfl, H⟩
theorem ke_X2_rewriteAll {sL d : Nat} {h : mH} {post : mP} {i0 : Fin 3} {a2 : Int32} (H : EX (Kd sL d) sL md_X2_rewriteAll post 0 [some (.inr (.inr (.inr 2))), some (.inr (.inr (.inl (i0, 0)))), some (.inl a2), none] [] h) : Kd sL (d + 1) 43 [.inr (.inr (.inr 2)), .inr (.inr (.inl (i0, 0))), .inl a2] h post := Or.inr ⟨Nat.le_of_ble_eq_true rfl, rfl, Nat.le_of_ble_eq_true rfl, H⟩
theorem ke_X2_writePlace {sL d : Nat} {h : mH} {post : mP} {a1 : Int32} {a2 : Int32} {a3 : Int32} (H : EX (Kd sL d) sL md_X2_writePlace post 0 [some (.inr (.inr (.inr 2))), some (.inl a1), some (.inl a2), some (.inl a3), none, none, none, none, none, none] [] h) : Kd sL (d + 1) 44 [.inr (.inr (.inr 2)), .inl a1, .inl a2, .inl a3] h post := Or.inr ⟨Nat.le_of_ble_eq_true rfl, rfl, Nat.le_of_ble_eq_true rfl, H⟩
theorem ke_X2_takeSnapshot {sL d : Nat} {h : mH} {post : mP} {a1 : Int32} {a2 : Int32} (H : EX (Kd sL d) sL md_X2_takeSnapshot post 0 [some (.inr (.inr (.inr 2))), some (.inl a1), some (.inl a2), none] [] h) : Kd sL (d + 1) 45 [.inr (.inr (.inr 2)), .inl a1, .inl a2] h post := Or.inr ⟨Nat.le_of_ble_eq_true rfl, rfl, Nat.le_of_ble_eq_true rfl, H⟩
theorem ke_X2_dropSnapshot {sL d : Nat} {h : mH} {post : mP} {a1 : Int32} (H : EX (Kd sL d) sL md_X2_dropSnapshot post 0 [some (.inr (.inr (.inr 2))), some (.inl a1), none] [] h) : Kd sL (d + 1) 46 [.inr (.inr (.inr 2)), .inl a1] h post := Or.inr ⟨Nat.le_of_ble_eq_true rfl, rfl, Nat.le_of_ble_eq_true rfl, H⟩
theorem ke_X2_revertTo {sL d : Nat} {h : mH} {post : mP} {a1 : Int32} (H : EX (Kd sL d) sL md_X2_revertTo post 0 [some (.inr (.inr (.inr 2))), some (.inl a1), none, none, none] [] h) : Kd sL (d + 1) 47 [.inr (.inr (.inr 2)), .inl a1] h post := Or.inr ⟨Nat.le_of_ble_eq_true rfl, rfl, Nat.le_of_ble_eq_true rfl, H⟩
theorem ke_X2_giveUpBlock {sL d : Nat} {h : mH} {post : mP} {a1 : Int32} {a2 : Int32} (H : EX (Kd sL d) sL md_X2_giveUpBlock post 0 [some (.inr (.inr (.inr 2))), some (.inl a1), some (.inl a2), none, none] [] h) : Kd sL (d + 1) 48 [.inr (.inr (.inr 2)), .inl a1, .inl a2] h post := Or.inr ⟨Nat.le_of_ble_eq_true rfl, rfl, Nat.le_of_ble_eq_true rfl, H⟩
theorem ke_X2_mergeDown {sL d : Nat} {h : mH} {post : mP} {a1 : Int32} (H : EX (Kd sL d) sL md_X2_mergeDown post 0 [some (.inr (.inr (.inr 2))), some (.inl a1), none, none] [] h) : Kd sL (d + 1) 49 [.inr (.inr (.inr 2)), .inl a1] h post := Or.inr ⟨Nat.le_of_ble_eq_true rfl, rfl, Nat.le_of_ble_eq_true rfl, H⟩
theorem ke_X2_moveOnto {sL d : Nat} {h : mH} {post : mP} {a1 : Int32} {a2 : Int32} {a3 : Int32} (H : EX (Kd sL d) sL md_X2_moveOnto post 0 [some (.inr (.inr (.inr 2))), some (.inl a1), some (.inl a2), some (.inl a3), none, none, none] [] h) : Kd sL (d + 1) 50 [.inr (.inr (.inr 2)), .inl a1, .inl a2, .inl a3] h post := Or.inr ⟨Nat.le_of_ble_eq_true rfl, rfl, Nat.le_of_ble_eq_true rfl, H⟩
theorem ke_X2_foldAlike {sL d : Nat} {h : mH} {post : mP}  (H : EX (Kd sL d) sL md_X2_foldAlike post 0 [some (.inr (.inr (.inr 2))), none, none, none, none, none, none, none, none] [] h) : Kd sL (d + 1) 51 [.inr (.inr (.inr 2))] h post := Or.inr ⟨Nat.le_of_ble_eq_true rfl, rfl, Nat.le_of_ble_eq_true rfl, H⟩
theorem ke_X3_layer {sL d : Nat} {h : mH} {post : mP} {a1 : Int32} (H : EX (Kd sL d) sL md_X3_layer post 0 [some (.inr (.inr (.inr 0))), some (.inl a1)] [] h) : Kd sL (d + 1) 52 [.inr (.inr (.inr 0)), .inl a1] h post := Or.inr ⟨Nat.le_of_ble_eq_true rfl, rfl, Nat.le_of_ble_eq_true rfl, H⟩
theorem ke_X3_of {sL d : Nat} {h : mH} {post : mP} {a1 : Int32} {a2 : Int32} (H : EX (Kd sL d) sL md_X3_of post 0 [some (.inr (.inr (.inr 0))), some (.inl a1), some (.inl a2)] [] h) : Kd sL (d + 1) 53 [.inr (.inr (.inr 0)), .inl a1, .inl a2] h post := Or.inr ⟨Nat.le_of_ble_eq_true rfl, rfl, Nat.le_of_ble_eq_true rfl, H⟩
theorem ke_X3_read {sL d : Nat} {h : mH} {post : mP} {a1 : Int32} {a2 : Int32} (H : EX (Kd sL d) sL md_X3_read post 0 [some (.inr (.inr (.inr 0))), some (.inl a1), some (.inl a2)] [] h) : Kd sL (d + 1) 54 [.inr (.inr (.inr 0)), .inl a1, .inl a2] h post := Or.inr ⟨Nat.le_of_ble_eq_true rfl, rfl, Nat.le_of_ble_eq_true rfl, H⟩
theorem ke_X3_readOld {sL d : Nat} {h : mH} {post : mP} {a1 : Int32} {a2 : Int32} (H : EX (Kd sL d) sL md_X3_readOld post 0 [some (.inr (.inr (.inr 0))), some (.inl a1), some (.inl a2)] [] h) : Kd sL (d + 1) 55 [.inr (.inr (.inr 0)), .inl a1, .inl a2] h post := Or.inr ⟨Nat.le_of_ble_eq_true rfl, rfl, Nat.le_of_ble_eq_true rfl, H⟩
theorem ke_X3_unlike {sL d : Nat} {h : mH} {post : mP} {a1 : Int32} {a2 : Int32} (H : EX (Kd sL d) sL md_X3_unlike post 0 [some (.inr (.inr (.inr 0))), some (.inl a1), some (.inl a2), none] [] h) : Kd sL (d + 1) 56 [.inr (.inr (.inr 0)), .inl a1, .inl a2] h post := Or.inr ⟨Nat.le_of_ble_eq_true rfl, rfl, Nat.le_of_ble_eq_true rfl, H⟩
theorem ke_X3_sum {sL d : Nat} {h : mH} {post : mP} {a1 : Int32} (H : EX (Kd sL d) sL md_X3_sum post 0 [some (.inr (.inr (.inr 0))), some (.inl a1), none, none] [] h) : Kd sL (d + 1) 57 [.inr (.inr (.inr 0)), .inl a1] h post := Or.inr ⟨Nat.le_of_ble_eq_true rfl, rfl, Nat.le_of_ble_eq_true rfl, H⟩
theorem ke_X3_write {sL d : Nat} {h : mH} {post : mP} {a1 : Int32} {a2 : Int32} {a3 : Int32} (H : EX (Kd sL d) sL md_X3_write post 0 [some (.inr (.inr (.inr 0))), some (.inl a1), some (.inl a2), some (.inl a3)] [] h) : Kd sL (d + 1) 58 [.inr (.inr (.inr 0)), .inl a1, .inl a2, .inl a3] h post := Or.inr ⟨Nat.le_of_ble_eq_true rfl, rfl, Nat.le_of_ble_eq_true rfl, H⟩
theorem ke_X3_snap {sL d : Nat} {h : mH} {post : mP} {a1 : Int32} (H : EX (Kd sL d) sL md_X3_snap post 0 [some (.inr (.inr (.inr 0))), some (.inl a1)] [] h) : Kd sL (d + 1) 59 [.inr (.inr (.inr 0)), .inl a1] h post := Or.inr ⟨Nat.le_of_ble_eq_true rfl, rfl, Nat.le_of_ble_eq_true rfl, H⟩
theorem ke_X3_drop {sL d : Nat} {h : mH} {post : mP} {a1 : Int32} (H : EX (Kd sL d) sL md_X3_drop post 0 [some (.inr (.inr (.inr 0))), some (.inl a1)] [] h) : Kd sL (d + 1) 60 [.inr (.inr (.inr 0)), .inl a1] h post := Or.inr ⟨Nat.le_of_ble_eq_true rfl, rfl, Nat.le_of_ble_eq_true rfl, H⟩
theorem ke_X3_revert {sL d : Nat} {h : mH} {post : mP} {a1 : Int32} (H : EX (Kd sL d) sL md_X3_revert post 0 [some (.inr (.inr (.inr 0))), some (.inl a1)] [] h) : Kd sL (d + 1) 61 [.inr (.inr (.inr 0)), .inl a1] h post := Or.inr ⟨Nat.le_of_ble_eq_true rfl, rfl, Nat.le_of_ble_eq_true rfl, H⟩
theorem ke_X3_giveUp {sL d : Nat} {h : mH} {post : mP} {a1 : Int32} {a2 : Int32} (H : EX (Kd sL d) sL md_X3_giveUp post 0 [some (.inr (.inr (.inr 0))), some (.inl a1), some (.inl a2)] [] h) : Kd sL (d + 1) 62 [.inr (.inr (.inr 0)), .inl a1, .inl a2] h post := Or.inr ⟨Nat.le_of_ble_eq_true rfl, rfl, Nat.le_of_ble_eq_true rfl, H⟩
theorem ke_X3_merge {sL d : Nat} {h : mH} {post : mP} {a1 : Int32} (H : EX (Kd sL d) sL md_X3_merge post 0 [some (.inr (.inr (.inr 0))), some (.inl a1)] [] h) : Kd sL (d + 1) 63 [.inr (.inr (.inr 0)), .inl a1] h post := Or.inr ⟨Nat.le_of_ble_eq_true rfl, rfl, Nat.le_of_ble_eq_true rfl, H⟩
theorem ke_X3_move {sL d : Nat} {h : mH} {post : mP} {a1 : Int32} {a2 : Int32} {a3 : Int32} (H : EX (Kd sL d) sL md_X3_move post 0 [some (.inr (.inr (.inr 0))), some (.inl a1), some (.inl a2), some (.inl a3)] [] h) : Kd sL (d + 1) 64 [.inr (.inr (.inr 0)), .inl a1, .inl a2, .inl a3] h post := Or.inr ⟨Nat.le_of_ble_eq_true rfl, rfl, Nat.le_of_ble_eq_true rfl, H⟩
theorem ke_X3_fold {sL d : Nat} {h : mH} {post : mP}  (H : EX (Kd sL d) sL md_X3_fold post 0 [some (.inr (.inr (.inr 0)))] [] h) : Kd sL (d + 1) 65 [.inr (.inr (.inr 0))] h post := Or.inr ⟨Nat.le_of_ble_eq_true rfl, rfl, Nat.le_of_ble_eq_true rfl, H⟩
theorem ke_X3_tear {sL d : Nat} {h : mH} {post : mP} {a1 : Int32} (H : EX (Kd sL d) sL md_X3_tear post 0 [some (.inr (.inr (.inr 0))), some (.inl a1), none] [] h) : Kd sL (d + 1) 66 [.inr (.inr (.inr 0)), .inl a1] h post := Or.inr ⟨Nat.le_of_ble_eq_true rfl, rfl, Nat.le_of_ble_eq_true rfl, H⟩
theorem ke_X3_cluster {sL d : Nat} {h : mH} {post : mP} {a1 : Int32} {a2 : Int32} (H : EX (Kd sL d) sL md_X3_cluster post 0 [some (.inr (.inr (.inr 0))), some (.inl a1), some (.inl a2)] [] h) : Kd sL (d + 1) 67 [.inr (.inr (.inr 0)), .inl a1, .inl a2] h post := Or.inr ⟨Nat.le_of_ble_eq_true rfl, rfl, Nat.le_of_ble_eq_true rfl, H⟩
theorem ke_X3_spoil {sL d : Nat} {h : mH} {post : mP} {a1 : Int32} {a2 : Int32} (H : EX (Kd sL d) sL md_X3_spoil post 0 [some (.inr (.inr (.inr 0))), some (.inl a1), some (.inl a2), none] [] h) : Kd sL (d + 1) 68 [.inr (.inr (.inr 0)), .inl a1, .inl a2] h post := Or.inr ⟨Nat.le_of_ble_eq_true rfl, rfl, Nat.le_of_ble_eq_true rfl, H⟩
theorem ke_X3_all {sL d : Nat} {h : mH} {post : mP} {a1 : Int32} (H : EX (Kd sL d) sL md_X3_all post 0 [some (.inr (.inr (.inr 0))), some (.inl a1)] [] h) : Kd sL (d + 1) 69 [.inr (.inr (.inr 0)), .inl a1] h post := Or.inr ⟨Nat.le_of_ble_eq_true rfl, rfl, Nat.le_of_ble_eq_true rfl, H⟩
theorem ke_X3_repair {sL d : Nat} {h : mH} {post : mP}  (H : EX (Kd sL d) sL md_X3_repair post 0 [some (.inr (.inr (.inr 0)))] [] h) : Kd sL (d + 1) 70 [.inr (.inr (.inr 0))] h post := Or.inr ⟨Nat.le_of_ble_eq_true rfl, rfl, Nat.le_of_ble_eq_true rfl, H⟩
theorem ke_X3_holds {sL d : Nat} {h : mH} {post : mP} {a1 : Int32} (H : EX (Kd sL d) sL md_X3_holds post 0 [some (.inr (.inr (.inr 0))), some (.inl a1)] [] h) : Kd sL (d + 1) 71 [.inr (.inr (.inr 0)), .inl a1] h post := Or.inr ⟨Nat.le_of_ble_eq_true rfl, rfl, Nat.le_of_ble_eq_true rfl, H⟩
theorem ke_X3_alone {sL d : Nat} {h : mH} {post : mP} {a1 : Int32} (H : EX (Kd sL d) sL md_X3_alone post 0 [some (.inr (.inr (.inr 0))), some (.inl a1), none, none, none, none] [] h) : Kd sL (d + 1) 72 [.inr (.inr (.inr 0)), .inl a1] h post := Or.inr ⟨Nat.le_of_ble_eq_true rfl, rfl, Nat.le_of_ble_eq_true rfl, H⟩
theorem ke_X3_holders {sL d : Nat} {h : mH} {post : mP} {a1 : Int32} (H : EX (Kd sL d) sL md_X3_holders post 0 [some (.inr (.inr (.inr 0))), some (.inl a1), none, none] [] h) : Kd sL (d + 1) 73 [.inr (.inr (.inr 0)), .inl a1] h post := Or.inr ⟨Nat.le_of_ble_eq_true rfl, rfl, Nat.le_of_ble_eq_true rfl, H⟩
theorem ke_X3_best {sL d : Nat} {h : mH} {post : mP} {a1 : Int32} (H : EX (Kd sL d) sL md_X3_best post 0 [some (.inr (.inr (.inr 0))), some (.inl a1), none, none, none, none] [] h) : Kd sL (d + 1) 74 [.inr (.inr (.inr 0)), .inl a1] h post := Or.inr ⟨Nat.le_of_ble_eq_true rfl, rfl, Nat.le_of_ble_eq_true rfl, H⟩
theorem ke_X3_twins {sL d : Nat} {h : mH} {post : mP}  (H : EX (Kd sL d) sL md_X3_twins post 0 [some (.inr (.inr (.inr 0))), none, none, none, none, none] [] h) : Kd sL (d + 1) 75 [.inr (.inr (.inr 0))] h post := Or.inr ⟨Nat.le_of_ble_eq_true rfl, rfl, Nat.le_of_ble_eq_true rfl, H⟩
theorem ke_X3_cost {sL d : Nat} {h : mH} {post : mP} {a1 : Int32} {a2 : Int32} (H : EX (Kd sL d) sL md_X3_cost post 0 [some (.inr (.inr (.inr 0))), some (.inl a1), some (.inl a2)] [] h) : Kd sL (d + 1) 76 [.inr (.inr (.inr 0)), .inl a1, .inl a2] h post := Or.inr ⟨Nat.le_of_ble_eq_true rfl, rfl, Nat.le_of_ble_eq_true rfl, H⟩
theorem ke_X3_torn {sL d : Nat} {h : mH} {post : mP} {a1 : Int32} {a2 : Int32} {a3 : Int32} {a4 : Int32} (H : EX (Kd sL d) sL md_X3_torn post 0 [some (.inr (.inr (.inr 0))), some (.inl a1), some (.inl a2), some (.inl a3), some (.inl a4), none] [] h) : Kd sL (d + 1) 77 [.inr (.inr (.inr 0)), .inl a1, .inl a2, .inl a3, .inl a4] h post := Or.inr ⟨Nat.le_of_ble_eq_true rfl, rfl, Nat.le_of_ble_eq_true rfl, H⟩
theorem ke_X3_leaks {sL d : Nat} {h : mH} {post : mP} {a1 : Int32} {a2 : Int32} {a3 : Int32} (H : EX (Kd sL d) sL md_X3_leaks post 0 [some (.inr (.inr (.inr 0))), some (.inl a1), some (.inl a2), some (.inl a3), none] [] h) : Kd sL (d + 1) 78 [.inr (.inr (.inr 0)), .inl a1, .inl a2, .inl a3] h post := Or.inr ⟨Nat.le_of_ble_eq_true rfl, rfl, Nat.le_of_ble_eq_true rfl, H⟩
theorem ke_X3_behind {sL d : Nat} {h : mH} {post : mP} {a1 : Int32} {a2 : Int32} {a3 : Int32} (H : EX (Kd sL d) sL md_X3_behind post 0 [some (.inr (.inr (.inr 0))), some (.inl a1), some (.inl a2), some (.inl a3), none, none] [] h) : Kd sL (d + 1) 79 [.inr (.inr (.inr 0)), .inl a1, .inl a2, .inl a3] h post := Or.inr ⟨Nat.le_of_ble_eq_true rfl, rfl, Nat.le_of_ble_eq_true rfl, H⟩
theorem ke_X3_room {sL d : Nat} {h : mH} {post : mP} {a1 : Int32} (H : EX (Kd sL d) sL md_X3_room post 0 [some (.inr (.inr (.inr 0))), some (.inl a1)] [] h) : Kd sL (d + 1) 80 [.inr (.inr (.inr 0)), .inl a1] h post := Or.inr ⟨Nat.le_of_ble_eq_true rfl, rfl, Nat.le_of_ble_eq_true rfl, H⟩
theorem ke_X3_feed {sL d : Nat} {h : mH} {post : mP} {a1 : Int64} {a2 : Int32} (H : EX (Kd sL d) sL md_X3_feed post 0 [some (.inr (.inr (.inr 0))), some (.inr (.inl a1)), none, some (.inl a2), none] [] h) : Kd sL (d + 1) 81 [.inr (.inr (.inr 0)), .inr (.inl a1), .inl a2] h post := Or.inr ⟨Nat.le_of_ble_eq_true rfl, rfl, Nat.le_of_ble_eq_true rfl, H⟩
theorem ke_X3_wipe {sL d : Nat} {h : mH} {post : mP}  (H : EX (Kd sL d) sL md_X3_wipe post 0 [some (.inr (.inr (.inr 0))), none] [] h) : Kd sL (d + 1) 82 [.inr (.inr (.inr 0))] h post := Or.inr ⟨Nat.le_of_ble_eq_true rfl, rfl, Nat.le_of_ble_eq_true rfl, H⟩
theorem ke_X3_run {sL d : Nat} {h : mH} {post : mP}  (H : EX (Kd sL d) sL md_X3_run post 0 [some (.inr (.inr (.inr 0))), none, none, none, none] [] h) : Kd sL (d + 1) 83 [.inr (.inr (.inr 0))] h post := Or.inr ⟨Nat.le_of_ble_eq_true rfl, rfl, Nat.le_of_ble_eq_true rfl, H⟩
theorem ke_X3_keep {sL d : Nat} {h : mH} {post : mP}  (H : EX (Kd sL d) sL md_X3_keep post 0 [some (.inr (.inr (.inr 0)))] [] h) : Kd sL (d + 1) 84 [.inr (.inr (.inr 0))] h post := Or.inr ⟨Nat.le_of_ble_eq_true rfl, rfl, Nat.le_of_ble_eq_true rfl, H⟩
theorem ke_X3_again {sL d : Nat} {h : mH} {post : mP}  (H : EX (Kd sL d) sL md_X3_again post 0 [some (.inr (.inr (.inr 0)))] [] h) : Kd sL (d + 1) 85 [.inr (.inr (.inr 0))] h post := Or.inr ⟨Nat.le_of_ble_eq_true rfl, rfl, Nat.le_of_ble_eq_true rfl, H⟩
theorem ke_X3_count {sL d : Nat} {h : mH} {post : mP} {a1 : Int32} (H : EX (Kd sL d) sL md_X3_count post 0 [some (.inr (.inr (.inr 0))), some (.inl a1)] [] h) : Kd sL (d + 1) 86 [.inr (.inr (.inr 0)), .inl a1] h post := Or.inr ⟨Nat.le_of_ble_eq_true rfl, rfl, Nat.le_of_ble_eq_true rfl, H⟩
theorem ke_X3_refused {sL d : Nat} {h : mH} {post : mP} {a1 : Int32} (H : EX (Kd sL d) sL md_X3_refused post 0 [some (.inr (.inr (.inr 0))), some (.inl a1)] [] h) : Kd sL (d + 1) 87 [.inr (.inr (.inr 0)), .inl a1] h post := Or.inr ⟨Nat.le_of_ble_eq_true rfl, rfl, Nat.le_of_ble_eq_true rfl, H⟩
theorem ke_X3_refuse {sL d : Nat} {h : mH} {post : mP} {a1 : Int32} (H : EX (Kd sL d) sL md_X3_refuse post 0 [some (.inr (.inr (.inr 0))), some (.inl a1), none] [] h) : Kd sL (d + 1) 88 [.inr (.inr (.inr 0)), .inl a1] h post := Or.inr ⟨Nat.le_of_ble_eq_true rfl, rfl, Nat.le_of_ble_eq_true rfl, H⟩
theorem ke_X3_foresee {sL d : Nat} {h : mH} {post : mP} {a1 : Int32} {a2 : Int32} {a3 : Int32} {a4 : Int32} (H : EX (Kd sL d) sL md_X3_foresee post 0 [some (.inr (.inr (.inr 0))), some (.inl a1), some (.inl a2), some (.inl a3), some (.inl a4)] [] h) : Kd sL (d + 1) 89 [.inr (.inr (.inr 0)), .inl a1, .inl a2, .inl a3, .inl a4] h post := Or.inr ⟨Nat.le_of_ble_eq_true rfl, rfl, Nat.le_of_ble_eq_true rfl, H⟩
theorem ke_X3_settle {sL d : Nat} {h : mH} {post : mP} {a1 : Int32} (H : EX (Kd sL d) sL md_X3_settle post 0 [some (.inr (.inr (.inr 0))), some (.inl a1)] [] h) : Kd sL (d + 1) 90 [.inr (.inr (.inr 0)), .inl a1] h post := Or.inr ⟨Nat.le_of_ble_eq_true rfl, rfl, Nat.le_of_ble_eq_true rfl, H⟩
theorem ke_X3_fits {sL d : Nat} {h : mH} {post : mP} {a1 : Int32} {a2 : Int32} {a3 : Int32} {a4 : Int32} (H : EX (Kd sL d) sL md_X3_fits post 0 [some (.inr (.inr (.inr 0))), some (.inl a1), some (.inl a2), some (.inl a3), some (.inl a4)] [] h) : Kd sL (d + 1) 91 [.inr (.inr (.inr 0)), .inl a1, .inl a2, .inl a3, .inl a4] h post := Or.inr ⟨Nat.le_of_ble_eq_true rfl, rfl, Nat.le_of_ble_eq_true rfl, H⟩
theorem ke_X3_isHindered {sL d : Nat} {h : mH} {post : mP} {a1 : Int32} {a2 : Int32} (H : EX (Kd sL d) sL md_X3_isHindered post 0 [some (.inr (.inr (.inr 0))), some (.inl a1), some (.inl a2)] [] h) : Kd sL (d + 1) 92 [.inr (.inr (.inr 0)), .inl a1, .inl a2] h post := Or.inr ⟨Nat.le_of_ble_eq_true rfl, rfl, Nat.le_of_ble_eq_true rfl, H⟩
theorem ke_X3_rewritingCost {sL d : Nat} {h : mH} {post : mP} {a1 : Int32} (H : EX (Kd sL d) sL md_X3_rewritingCost post 0 [some (.inr (.inr (.inr 0))), some (.inl a1)] [] h) : Kd sL (d + 1) 93 [.inr (.inr (.inr 0)), .inl a1] h post := Or.inr ⟨Nat.le_of_ble_eq_true rfl, rfl, Nat.le_of_ble_eq_true rfl, H⟩
theorem ke_X3_freedByDrop {sL d : Nat} {h : mH} {post : mP} {a1 : Int32} (H : EX (Kd sL d) sL md_X3_freedByDrop post 0 [some (.inr (.inr (.inr 0))), some (.inl a1)] [] h) : Kd sL (d + 1) 94 [.inr (.inr (.inr 0)), .inl a1] h post := Or.inr ⟨Nat.le_of_ble_eq_true rfl, rfl, Nat.le_of_ble_eq_true rfl, H⟩
theorem ke_X3_isTornBehind {sL d : Nat} {h : mH} {post : mP} {a1 : Int32} (H : EX (Kd sL d) sL md_X3_isTornBehind post 0 [some (.inl a1)] [] h) : Kd sL (d + 1) 95 [.inl a1] h post := Or.inr ⟨Nat.le_of_ble_eq_true rfl, trivial, Nat.le_of_ble_eq_true rfl, H⟩
theorem ke_X3_isPlace {sL d : Nat} {h : mH} {post : mP} {a1 : Int32} (H : EX (Kd sL d) sL md_X3_isPlace post 0 [some (.inl a1)] [] h) : Kd sL (d + 1) 96 [.inl a1] h post := Or.inr ⟨Nat.le_of_ble_eq_true rfl, trivial, Nat.le_of_ble_eq_true rfl, H⟩
theorem ke_X3_isCluster {sL d : Nat} {h : mH} {post : mP} {a1 : Int32} (H : EX (Kd sL d) sL md_X3_isCluster post 0 [some (.inl a1)] [] h) : Kd sL (d + 1) 97 [.inl a1] h post := Or.inr ⟨Nat.le_of_ble_eq_true rfl, trivial, Nat.le_of_ble_eq_true rfl, H⟩
theorem ke_X3_isIn {sL d : Nat} {h : mH} {post : mP} {a1 : Int64} {a2 : Int32} (H : EX (Kd sL d) sL md_X3_isIn post 0 [some (.inr (.inl a1)), none, some (.inl a2)] [] h) : Kd sL (d + 1) 98 [.inr (.inl a1), .inl a2] h post := Or.inr ⟨Nat.le_of_ble_eq_true rfl, trivial, Nat.le_of_ble_eq_true rfl, H⟩
theorem ke_X3_holderOf {sL d : Nat} {h : mH} {post : mP} {a1 : Int32} (H : EX (Kd sL d) sL md_X3_holderOf post 0 [some (.inl a1)] [] h) : Kd sL (d + 1) 99 [.inl a1] h post := Or.inr ⟨Nat.le_of_ble_eq_true rfl, trivial, Nat.le_of_ble_eq_true rfl, H⟩
theorem ke_X4_in {sL d : Nat} {h : mH} {post : mP} {a1 : Int32} {a2 : Int32} {a3 : Int32} (H : EX (Kd sL d) sL md_X4_in post 0 [some (.inl a1), some (.inl a2), some (.inl a3)] [] h) : Kd sL (d + 1) 100 [.inl a1, .inl a2, .inl a3] h post := Or.inr ⟨Nat.le_of_ble_eq_true rfl, trivial, Nat.le_of_ble_eq_true rfl, H⟩
theorem ke_X4_refuse {sL d : Nat} {h : mH} {post : mP} {a1 : Int32} (H : EX (Kd sL d) sL md_X4_refuse post 0 [some (.inr (.inr (.inr 7))), some (.inl a1)] [] h) : Kd sL (d + 1) 101 [.inr (.inr (.inr 7)), .inl a1] h post := Or.inr ⟨Nat.le_of_ble_eq_true rfl, rfl, Nat.le_of_ble_eq_true rfl, H⟩
theorem ke_X4_copies {sL d : Nat} {h : mH} {post : mP} {a1 : mRef} {a2 : mRef} (H : EX (Kd sL d) sL md_X4_copies post 0 [some (.inr (.inr a1)), some (.inr (.inr a2)), none] [] h) : Kd sL (d + 1) 102 [.inr (.inr a1), .inr (.inr a2)] h post := Or.inr ⟨Nat.le_of_ble_eq_true rfl, trivial, Nat.le_of_ble_eq_true rfl, H⟩
theorem ke_X4_isLayer {sL d : Nat} {h : mH} {post : mP} {a1 : Int32} (H : EX (Kd sL d) sL md_X4_isLayer post 0 [some (.inr (.inr (.inr 7))), some (.inl a1)] [] h) : Kd sL (d + 1) 103 [.inr (.inr (.inr 7)), .inl a1] h post := Or.inr ⟨Nat.le_of_ble_eq_true rfl, rfl, Nat.le_of_ble_eq_true rfl, H⟩
theorem ke_X4_isSnap {sL d : Nat} {h : mH} {post : mP} {a1 : Int32} (H : EX (Kd sL d) sL md_X4_isSnap post 0 [some (.inr (.inr (.inr 7))), some (.inl a1)] [] h) : Kd sL (d + 1) 104 [.inr (.inr (.inr 7)), .inl a1] h post := Or.inr ⟨Nat.le_of_ble_eq_true rfl, rfl, Nat.le_of_ble_eq_true rfl, H⟩
theorem ke_X4_isPlace {sL d : Nat} {h : mH} {post : mP} {a1 : Int32} (H : EX (Kd sL d) sL md_X4_isPlace post 0 [some (.inl a1)] [] h) : Kd sL (d + 1) 105 [.inl a1] h post := Or.inr ⟨Nat.le_of_ble_eq_true rfl, trivial, Nat.le_of_ble_eq_true rfl, H⟩
theorem ke_X4_isBlock {sL d : Nat} {h : mH} {post : mP} {a1 : Int32} (H : EX (Kd sL d) sL md_X4_isBlock post 0 [some (.inl a1)] [] h) : Kd sL (d + 1) 106 [.inl a1] h post := Or.inr ⟨Nat.le_of_ble_eq_true rfl, trivial, Nat.le_of_ble_eq_true rfl, H⟩
theorem ke_X4_isCluster {sL d : Nat} {h : mH} {post : mP} {a1 : Int32} (H : EX (Kd sL d) sL md_X4_isCluster post 0 [some (.inl a1)] [] h) : Kd sL (d + 1) 107 [.inl a1] h post := Or.inr ⟨Nat.le_of_ble_eq_true rfl, trivial, Nat.le_of_ble_eq_true rfl, H⟩
theorem ke_X4_dir {sL d : Nat} {h : mH} {post : mP} {a1 : Int32} {a2 : Int32} (H : EX (Kd sL d) sL md_X4_dir post 0 [some (.inl a1), some (.inl a2)] [] h) : Kd sL (d + 1) 108 [.inl a1, .inl a2] h post := Or.inr ⟨Nat.le_of_ble_eq_true rfl, trivial, Nat.le_of_ble_eq_true rfl, H⟩
theorem ke_X4_dataOf {sL d : Nat} {h : mH} {post : mP} {a1 : Int32} {a2 : Int32} (H : EX (Kd sL d) sL md_X4_dataOf post 0 [some (.inr (.inr (.inr 7))), some (.inl a1), some (.inl a2), none] [] h) : Kd sL (d + 1) 109 [.inr (.inr (.inr 7)), .inl a1, .inl a2] h post := Or.inr ⟨Nat.le_of_ble_eq_true rfl, rfl, Nat.le_of_ble_eq_true rfl, H⟩
theorem ke_X4_readBy {sL d : Nat} {h : mH} {post : mP} {a1 : Int32} {a2 : Int32} {a3 : Int32} (H : EX (Kd sL d) sL md_X4_readBy post 0 [some (.inr (.inr (.inr 7))), some (.inl a1), some (.inl a2), some (.inl a3), none, none] [] h) : Kd sL (d + 1) 110 [.inr (.inr (.inr 7)), .inl a1, .inl a2, .inl a3] h post := Or.inr ⟨Nat.le_of_ble_eq_true rfl, rfl, Nat.le_of_ble_eq_true rfl, H⟩
theorem ke_X4_readOf {sL d : Nat} {h : mH} {post : mP} {a1 : Int32} {a2 : Int32} (H : EX (Kd sL d) sL md_X4_readOf post 0 [some (.inr (.inr (.inr 7))), some (.inl a1), some (.inl a2)] [] h) : Kd sL (d + 1) 111 [.inr (.inr (.inr 7)), .inl a1, .inl a2] h post := Or.inr ⟨Nat.le_of_ble_eq_true rfl, rfl, Nat.le_of_ble_eq_true rfl, H⟩
theorem ke_X4_layer {sL d : Nat} {h : mH} {post : mP} {a1 : Int32} (H : EX (Kd sL d) sL md_X4_layer post 0 [some (.inr (.inr (.inr 7))), some (.inl a1)] [] h) : Kd sL (d + 1) 112 [.inr (.inr (.inr 7)), .inl a1] h post := Or.inr ⟨Nat.le_of_ble_eq_true rfl, rfl, Nat.le_of_ble_eq_true rfl, H⟩
theorem ke_X4_read {sL d : Nat} {h : mH} {post : mP} {a1 : Int32} {a2 : Int32} (H : EX (Kd sL d) sL md_X4_read post 0 [some (.inr (.inr (.inr 7))), some (.inl a1), some (.inl a2)] [] h) : Kd sL (d + 1) 113 [.inr (.inr (.inr 7)), .inl a1, .inl a2] h post := Or.inr ⟨Nat.le_of_ble_eq_true rfl, rfl, Nat.le_of_ble_eq_true rfl, H⟩
theorem ke_X4_readOld {sL d : Nat} {h : mH} {post : mP} {a1 : Int32} {a2 : Int32} (H : EX (Kd sL d) sL md_X4_readOld post 0 [some (.inr (.inr (.inr 7))), some (.inl a1), some (.inl a2)] [] h) : Kd sL (d + 1) 114 [.inr (.inr (.inr 7)), .inl a1, .inl a2] h post := Or.inr ⟨Nat.le_of_ble_eq_true rfl, rfl, Nat.le_of_ble_eq_true rfl, H⟩
theorem ke_X4_unlike {sL d : Nat} {h : mH} {post : mP} {a1 : Int32} {a2 : Int32} (H : EX (Kd sL d) sL md_X4_unlike post 0 [some (.inr (.inr (.inr 7))), some (.inl a1), some (.inl a2), none] [] h) : Kd sL (d + 1) 115 [.inr (.inr (.inr 7)), .inl a1, .inl a2] h post := Or.inr ⟨Nat.le_of_ble_eq_true rfl, rfl, Nat.le_of_ble_eq_true rfl, H⟩
theorem ke_X4_sum {sL d : Nat} {h : mH} {post : mP} {a1 : Int32} (H : EX (Kd sL d) sL md_X4_sum post 0 [some (.inr (.inr (.inr 7))), some (.inl a1), none, none] [] h) : Kd sL (d + 1) 116 [.inr (.inr (.inr 7)), .inl a1] h post := Or.inr ⟨Nat.le_of_ble_eq_true rfl, rfl, Nat.le_of_ble_eq_true rfl, H⟩
theorem ke_X4_standsOn {sL d : Nat} {h : mH} {post : mP} {a1 : Int32} {a2 : Int32} (H : EX (Kd sL d) sL md_X4_standsOn post 0 [some (.inr (.inr (.inr 7))), some (.inl a1), some (.inl a2), none] [] h) : Kd sL (d + 1) 117 [.inr (.inr (.inr 7)), .inl a1, .inl a2] h post := Or.inr ⟨Nat.le_of_ble_eq_true rfl, rfl, Nat.le_of_ble_eq_true rfl, H⟩
theorem ke_X4_isNamedBy {sL d : Nat} {h : mH} {post : mP} {a1 : Int32} (H : EX (Kd sL d) sL md_X4_isNamedBy post 0 [some (.inr (.inr (.inr 7))), some (.inl a1)] [] h) : Kd sL (d + 1) 118 [.inr (.inr (.inr 7)), .inl a1] h post := Or.inr ⟨Nat.le_of_ble_eq_true rfl, rfl, Nat.le_of_ble_eq_true rfl, H⟩
theorem ke_X4_reckons {sL d : Nat} {h : mH} {post : mP}  (H : EX (Kd sL d) sL md_X4_reckons post 0 [some (.inr (.inr (.inr 7))), none, none] [] h) : Kd sL (d + 1) 119 [.inr (.inr (.inr 7))] h post := Or.inr ⟨Nat.le_of_ble_eq_true rfl, rfl, Nat.le_of_ble_eq_true rfl, H⟩
theorem ke_X4_isTable {sL d : Nat} {h : mH} {post : mP} {a1 : Int32} (H : EX (Kd sL d) sL md_X4_isTable post 0 [some (.inr (.inr (.inr 7))), some (.inl a1), none, none, none] [] h) : Kd sL (d + 1) 120 [.inr (.inr (.inr 7)), .inl a1] h post := Or.inr ⟨Nat.le_of_ble_eq_true rfl, rfl, Nat.le_of_ble_eq_true rfl, H⟩
theorem ke_X4_hasLack {sL d : Nat} {h : mH} {post : mP}  (H : EX (Kd sL d) sL md_X4_hasLack post 0 [some (.inr (.inr (.inr 7))), none, none] [] h) : Kd sL (d + 1) 121 [.inr (.inr (.inr 7))] h post := Or.inr ⟨Nat.le_of_ble_eq_true rfl, rfl, Nat.le_of_ble_eq_true rfl, H⟩
theorem ke_X4_may {sL d : Nat} {h : mH} {post : mP}  (H : EX (Kd sL d) sL md_X4_may post 0 [some (.inr (.inr (.inr 7)))] [] h) : Kd sL (d + 1) 122 [.inr (.inr (.inr 7))] h post := Or.inr ⟨Nat.le_of_ble_eq_true rfl, rfl, Nat.le_of_ble_eq_true rfl, H⟩
theorem ke_X4_sets {sL d : Nat} {h : mH} {post : mP} {a1 : Int32} {a2 : Int32} (H : EX (Kd sL d) sL md_X4_sets post 0 [some (.inr (.inr (.inr 7))), some (.inl a1), some (.inl a2)] [] h) : Kd sL (d + 1) 123 [.inr (.inr (.inr 7)), .inl a1, .inl a2] h post := Or.inr ⟨Nat.le_of_ble_eq_true rfl, rfl, Nat.le_of_ble_eq_true rfl, H⟩
theorem ke_X4_counts {sL d : Nat} {h : mH} {post : mP} {a1 : Int32} {a2 : Int32} (H : EX (Kd sL d) sL md_X4_counts post 0 [some (.inr (.inr (.inr 7))), some (.inl a1), some (.inl a2)] [] h) : Kd sL (d + 1) 124 [.inr (.inr (.inr 7)), .inl a1, .inl a2] h post := Or.inr ⟨Nat.le_of_ble_eq_true rfl, rfl, Nat.le_of_ble_eq_true rfl, H⟩
theorem ke_X4_setsFour {sL d : Nat} {h : mH} {post : mP} {a1 : Int32} {a2 : Int32} {a3 : Int32} {a4 : Int32} {a5 : Int32} (H : EX (Kd sL d) sL md_X4_setsFour post 0 [some (.inr (.inr (.inr 7))), some (.inl a1), some (.inl a2), some (.inl a3), some (.inl a4), some (.inl a5)] [] h) : Kd sL (d + 1) 125 [.inr (.inr (.inr 7)), .inl a1, .inl a2, .inl a3, .inl a4, .inl a5] h post := Or.inr ⟨Nat.le_of_ble_eq_true rfl, rfl, Nat.le_of_ble_eq_true rfl, H⟩
theorem ke_X4_copiesCells {sL d : Nat} {h : mH} {post : mP} {a1 : Int32} {a2 : Int32} (H : EX (Kd sL d) sL md_X4_copiesCells post 0 [some (.inr (.inr (.inr 7))), some (.inl a1), some (.inl a2)] [] h) : Kd sL (d + 1) 126 [.inr (.inr (.inr 7)), .inl a1, .inl a2] h post := Or.inr ⟨Nat.le_of_ble_eq_true rfl, rfl, Nat.le_of_ble_eq_true rfl, H⟩
theorem ke_X4_anew {sL d : Nat} {h : mH} {post : mP}  (H : EX (Kd sL d) sL md_X4_anew post 0 [some (.inr (.inr (.inr 7))), none] [] h) : Kd sL (d + 1) 127 [.inr (.inr (.inr 7))] h post := Or.inr ⟨Nat.le_of_ble_eq_true rfl, rfl, Nat.le_of_ble_eq_true rfl, H⟩
theorem ke_X4_owns {sL d : Nat} {h : mH} {post : mP} {a1 : Int32} {a2 : Int32} (H : EX (Kd sL d) sL md_X4_owns post 0 [some (.inr (.inr (.inr 7))), some (.inl a1), some (.inl a2), none, none, none, none] [] h) : Kd sL (d + 1) 128 [.inr (.inr (.inr 7)), .inl a1, .inl a2] h post := Or.inr ⟨Nat.le_of_ble_eq_true rfl, rfl, Nat.le_of_ble_eq_true rfl, H⟩
theorem ke_X4_releases {sL d : Nat} {h : mH} {post : mP} {a1 : Int32} (H : EX (Kd sL d) sL md_X4_releases post 0 [some (.inr (.inr (.inr 7))), some (.inl a1), none] [] h) : Kd sL (d + 1) 129 [.inr (.inr (.inr 7)), .inl a1] h post := Or.inr ⟨Nat.le_of_ble_eq_true rfl, rfl, Nat.le_of_ble_eq_true rfl, H⟩
theorem ke_X4_writes {sL d : Nat} {h : mH} {post : mP} {a1 : Int32} {a2 : Int32} {a3 : Int32} (H : EX (Kd sL d) sL md_X4_writes post 0 [some (.inr (.inr (.inr 7))), some (.inl a1), some (.inl a2), some (.inl a3), none, none, none, none] [] h) : Kd sL (d + 1) 130 [.inr (.inr (.inr 7)), .inl a1, .inl a2, .inl a3] h post := Or.inr ⟨Nat.le_of_ble_eq_true rfl, rfl, Nat.le_of_ble_eq_true rfl, H⟩
theorem ke_X4_remembers {sL d : Nat} {h : mH} {post : mP} {a1 : Int32} (H : EX (Kd sL d) sL md_X4_remembers post 0 [some (.inr (.inr (.inr 7))), some (.inl a1), none] [] h) : Kd sL (d + 1) 131 [.inr (.inr (.inr 7)), .inl a1] h post := Or.inr ⟨Nat.le_of_ble_eq_true rfl, rfl, Nat.le_of_ble_eq_true rfl, H⟩
theorem ke_X4_releasesHad {sL d : Nat} {h : mH} {post : mP}  (H : EX (Kd sL d) sL md_X4_releasesHad post 0 [some (.inr (.inr (.inr 7))), none] [] h) : Kd sL (d + 1) 132 [.inr (.inr (.inr 7))] h post := Or.inr ⟨Nat.le_of_ble_eq_true rfl, rfl, Nat.le_of_ble_eq_true rfl, H⟩
theorem ke_X4_countsTables {sL d : Nat} {h : mH} {post : mP} {a1 : Int32} (H : EX (Kd sL d) sL md_X4_countsTables post 0 [some (.inr (.inr (.inr 7))), some (.inl a1), none] [] h) : Kd sL (d + 1) 133 [.inr (.inr (.inr 7)), .inl a1] h post := Or.inr ⟨Nat.le_of_ble_eq_true rfl, rfl, Nat.le_of_ble_eq_true rfl, H⟩
theorem ke_X4_setsDirectory {sL d : Nat} {h : mH} {post : mP} {a1 : Int32} {a2 : Int32} (H : EX (Kd sL d) sL md_X4_setsDirectory post 0 [some (.inr (.inr (.inr 7))), some (.inl a1), some (.inl a2), none] [] h) : Kd sL (d + 1) 134 [.inr (.inr (.inr 7)), .inl a1, .inl a2] h post := Or.inr ⟨Nat.le_of_ble_eq_true rfl, rfl, Nat.le_of_ble_eq_true rfl, H⟩
theorem ke_X4_snaps {sL d : Nat} {h : mH} {post : mP} {a1 : Int32} {a2 : Int32} (H : EX (Kd sL d) sL md_X4_snaps post 0 [some (.inr (.inr (.inr 7))), some (.inl a1), some (.inl a2), none] [] h) : Kd sL (d + 1) 135 [.inr (.inr (.inr 7)), .inl a1, .inl a2] h post := Or.inr ⟨Nat.le_of_ble_eq_true rfl, rfl, Nat.le_of_ble_eq_true rfl, H⟩
theorem ke_X4_drops {sL d : Nat} {h : mH} {post : mP} {a1 : Int32} (H : EX (Kd sL d) sL md_X4_drops post 0 [some (.inr (.inr (.inr 7))), some (.inl a1)] [] h) : Kd sL (d + 1) 136 [.inr (.inr (.inr 7)), .inl a1] h post := Or.inr ⟨Nat.le_of_ble_eq_true rfl, rfl, Nat.le_of_ble_eq_true rfl, H⟩
theorem ke_X4_reverts {sL d : Nat} {h : mH} {post : mP} {a1 : Int32} (H : EX (Kd sL d) sL md_X4_reverts post 0 [some (.inr (.inr (.inr 7))), some (.inl a1), none] [] h) : Kd sL (d + 1) 137 [.inr (.inr (.inr 7)), .inl a1] h post := Or.inr ⟨Nat.le_of_ble_eq_true rfl, rfl, Nat.le_of_ble_eq_true rfl, H⟩
theorem ke_X4_givesUp {sL d : Nat} {h : mH} {post : mP} {a1 : Int32} {a2 : Int32} (H : EX (Kd sL d) sL md_X4_givesUp post 0 [some (.inr (.inr (.inr 7))), some (.inl a1), some (.inl a2), none] [] h) : Kd sL (d + 1) 138 [.inr (.inr (.inr 7)), .inl a1, .inl a2] h post := Or.inr ⟨Nat.le_of_ble_eq_true rfl, rfl, Nat.le_of_ble_eq_true rfl, H⟩
theorem ke_X4_merges {sL d : Nat} {h : mH} {post : mP} {a1 : Int32} (H : EX (Kd sL d) sL md_X4_merges post 0 [some (.inr (.inr (.inr 7))), some (.inl a1), none] [] h) : Kd sL (d + 1) 139 [.inr (.inr (.inr 7)), .inl a1] h post := Or.inr ⟨Nat.le_of_ble_eq_true rfl, rfl, Nat.le_of_ble_eq_true rfl, H⟩
theorem ke_X4_isSame {sL d : Nat} {h : mH} {post : mP} {a1 : Int32} {a2 : Int32} {a3 : Int32} (H : EX (Kd sL d) sL md_X4_isSame post 0 [some (.inr (.inr (.inr 7))), some (.inl a1), some (.inl a2), some (.inl a3), none, none] [] h) : Kd sL (d + 1) 140 [.inr (.inr (.inr 7)), .inl a1, .inl a2, .inl a3] h post := Or.inr ⟨Nat.le_of_ble_eq_true rfl, rfl, Nat.le_of_ble_eq_true rfl, H⟩
theorem ke_X4_moves {sL d : Nat} {h : mH} {post : mP} {a1 : Int32} {a2 : Int32} {a3 : Int32} (H : EX (Kd sL d) sL md_X4_moves post 0 [some (.inr (.inr (.inr 7))), some (.inl a1), some (.inl a2), some (.inl a3), none, none] [] h) : Kd sL (d + 1) 141 [.inr (.inr (.inr 7)), .inl a1, .inl a2, .inl a3] h post := Or.inr ⟨Nat.le_of_ble_eq_true rfl, rfl, Nat.le_of_ble_eq_true rfl, H⟩
theorem ke_X4_areAlike {sL d : Nat} {h : mH} {post : mP} {a1 : Int32} {a2 : Int32} (H : EX (Kd sL d) sL md_X4_areAlike post 0 [some (.inr (.inr (.inr 7))), some (.inl a1), some (.inl a2), none, none] [] h) : Kd sL (d + 1) 142 [.inr (.inr (.inr 7)), .inl a1, .inl a2] h post := Or.inr ⟨Nat.le_of_ble_eq_true rfl, rfl, Nat.le_of_ble_eq_true rfl, H⟩
theorem ke_X4_likeOf {sL d : Nat} {h : mH} {post : mP} {a1 : Int32} (H : EX (Kd sL d) sL md_X4_likeOf post 0 [some (.inr (.inr (.inr 7))), some (.inl a1), none] [] h) : Kd sL (d + 1) 143 [.inr (.inr (.inr 7)), .inl a1] h post := Or.inr ⟨Nat.le_of_ble_eq_true rfl, rfl, Nat.le_of_ble_eq_true rfl, H⟩
theorem ke_X4_folds {sL d : Nat} {h : mH} {post : mP}  (H : EX (Kd sL d) sL md_X4_folds post 0 [some (.inr (.inr (.inr 7))), none, none, none, none] [] h) : Kd sL (d + 1) 144 [.inr (.inr (.inr 7))] h post := Or.inr ⟨Nat.le_of_ble_eq_true rfl, rfl, Nat.le_of_ble_eq_true rfl, H⟩
theorem ke_X4_performs {sL d : Nat} {h : mH} {post : mP} {a1 : Int32} {a2 : Int32} {a3 : Int32} {a4 : Int32} {a5 : Int32} (H : EX (Kd sL d) sL md_X4_performs post 0 [some (.inr (.inr (.inr 7))), some (.inl a1), some (.inl a2), some (.inl a3), some (.inl a4), some (.inl a5)] [] h) : Kd sL (d + 1) 145 [.inr (.inr (.inr 7)), .inl a1, .inl a2, .inl a3, .inl a4, .inl a5] h post := Or.inr ⟨Nat.le_of_ble_eq_true rfl, rfl, Nat.le_of_ble_eq_true rfl, H⟩
theorem ke_X4_isTooMuch {sL d : Nat} {h : mH} {post : mP} {a1 : Int32} {a2 : Int32} {a3 : Int32} {a4 : Int32} (H : EX (Kd sL d) sL md_X4_isTooMuch post 0 [some (.inr (.inr (.inr 7))), some (.inl a1), some (.inl a2), some (.inl a3), some (.inl a4)] [] h) : Kd sL (d + 1) 146 [.inr (.inr (.inr 7)), .inl a1, .inl a2, .inl a3, .inl a4] h post := Or.inr ⟨Nat.le_of_ble_eq_true rfl, rfl, Nat.le_of_ble_eq_true rfl, H⟩
theorem ke_X4_deed {sL d : Nat} {h : mH} {post : mP} {a1 : Int32} {a2 : Int32} {a3 : Int32} {a4 : Int32} (H : EX (Kd sL d) sL md_X4_deed post 0 [some (.inr (.inr (.inr 7))), some (.inl a1), some (.inl a2), some (.inl a3), some (.inl a4)] [] h) : Kd sL (d + 1) 147 [.inr (.inr (.inr 7)), .inl a1, .inl a2, .inl a3, .inl a4] h post := Or.inr ⟨Nat.le_of_ble_eq_true rfl, rfl, Nat.le_of_ble_eq_true rfl, H⟩
theorem ke_X4_isByte {sL d : Nat} {h : mH} {post : mP} {a1 : Int32} (H : EX (Kd sL d) sL md_X4_isByte post 0 [some (.inl a1)] [] h) : Kd sL (d + 1) 148 [.inl a1] h post := Or.inr ⟨Nat.le_of_ble_eq_true rfl, trivial, Nat.le_of_ble_eq_true rfl, H⟩
theorem ke_X4_write {sL d : Nat} {h : mH} {post : mP} {a1 : Int32} {a2 : Int32} {a3 : Int32} (H : EX (Kd sL d) sL md_X4_write post 0 [some (.inr (.inr (.inr 7))), some (.inl a1), some (.inl a2), some (.inl a3)] [] h) : Kd sL (d + 1) 149 [.inr (.inr (.inr 7)), .inl a1, .inl a2, .inl a3] h post := Or.inr ⟨Nat.le_of_ble_eq_true rfl, rfl, Nat.le_of_ble_eq_true rfl, H⟩
theorem ke_X4_snap {sL d : Nat} {h : mH} {post : mP} {a1 : Int32} (H : EX (Kd sL d) sL md_X4_snap post 0 [some (.inr (.inr (.inr 7))), some (.inl a1), none] [] h) : Kd sL (d + 1) 150 [.inr (.inr (.inr 7)), .inl a1] h post := Or.inr ⟨Nat.le_of_ble_eq_true rfl, rfl, Nat.le_of_ble_eq_true rfl, H⟩
theorem ke_X4_drop {sL d : Nat} {h : mH} {post : mP} {a1 : Int32} (H : EX (Kd sL d) sL md_X4_drop post 0 [some (.inr (.inr (.inr 7))), some (.inl a1)] [] h) : Kd sL (d + 1) 151 [.inr (.inr (.inr 7)), .inl a1] h post := Or.inr ⟨Nat.le_of_ble_eq_true rfl, rfl, Nat.le_of_ble_eq_true rfl, H⟩
theorem ke_X4_revert {sL d : Nat} {h : mH} {post : mP} {a1 : Int32} (H : EX (Kd sL d) sL md_X4_revert post 0 [some (.inr (.inr (.inr 7))), some (.inl a1)] [] h) : Kd sL (d + 1) 152 [.inr (.inr (.inr 7)), .inl a1] h post := Or.inr ⟨Nat.le_of_ble_eq_true rfl, rfl, Nat.le_of_ble_eq_true rfl, H⟩
theorem ke_X4_giveUp {sL d : Nat} {h : mH} {post : mP} {a1 : Int32} {a2 : Int32} (H : EX (Kd sL d) sL md_X4_giveUp post 0 [some (.inr (.inr (.inr 7))), some (.inl a1), some (.inl a2)] [] h) : Kd sL (d + 1) 153 [.inr (.inr (.inr 7)), .inl a1, .inl a2] h post := Or.inr ⟨Nat.le_of_ble_eq_true rfl, rfl, Nat.le_of_ble_eq_true rfl, H⟩
theorem ke_X4_merge {sL d : Nat} {h : mH} {post : mP} {a1 : Int32} (H : EX (Kd sL d) sL md_X4_merge post 0 [some (.inr (.inr (.inr 7))), some (.inl a1)] [] h) : Kd sL (d + 1) 154 [.inr (.inr (.inr 7)), .inl a1] h post := Or.inr ⟨Nat.le_of_ble_eq_true rfl, rfl, Nat.le_of_ble_eq_true rfl, H⟩
theorem ke_X4_move {sL d : Nat} {h : mH} {post : mP} {a1 : Int32} {a2 : Int32} {a3 : Int32} (H : EX (Kd sL d) sL md_X4_move post 0 [some (.inr (.inr (.inr 7))), some (.inl a1), some (.inl a2), some (.inl a3)] [] h) : Kd sL (d + 1) 155 [.inr (.inr (.inr 7)), .inl a1, .inl a2, .inl a3] h post := Or.inr ⟨Nat.le_of_ble_eq_true rfl, rfl, Nat.le_of_ble_eq_true rfl, H⟩
theorem ke_X4_fold {sL d : Nat} {h : mH} {post : mP}  (H : EX (Kd sL d) sL md_X4_fold post 0 [some (.inr (.inr (.inr 7)))] [] h) : Kd sL (d + 1) 156 [.inr (.inr (.inr 7))] h post := Or.inr ⟨Nat.le_of_ble_eq_true rfl, rfl, Nat.le_of_ble_eq_true rfl, H⟩
theorem ke_X4_tear {sL d : Nat} {h : mH} {post : mP} {a1 : Int32} (H : EX (Kd sL d) sL md_X4_tear post 0 [some (.inr (.inr (.inr 7))), some (.inl a1), none] [] h) : Kd sL (d + 1) 157 [.inr (.inr (.inr 7)), .inl a1] h post := Or.inr ⟨Nat.le_of_ble_eq_true rfl, rfl, Nat.le_of_ble_eq_true rfl, H⟩
theorem ke_X4_cluster {sL d : Nat} {h : mH} {post : mP} {a1 : Int32} {a2 : Int32} (H : EX (Kd sL d) sL md_X4_cluster post 0 [some (.inr (.inr (.inr 7))), some (.inl a1), some (.inl a2)] [] h) : Kd sL (d + 1) 158 [.inr (.inr (.inr 7)), .inl a1, .inl a2] h post := Or.inr ⟨Nat.le_of_ble_eq_true rfl, rfl, Nat.le_of_ble_eq_true rfl, H⟩
theorem ke_X4_spoil {sL d : Nat} {h : mH} {post : mP} {a1 : Int32} {a2 : Int32} (H : EX (Kd sL d) sL md_X4_spoil post 0 [some (.inr (.inr (.inr 7))), some (.inl a1), some (.inl a2), none] [] h) : Kd sL (d + 1) 159 [.inr (.inr (.inr 7)), .inl a1, .inl a2] h post := Or.inr ⟨Nat.le_of_ble_eq_true rfl, rfl, Nat.le_of_ble_eq_true rfl, H⟩
theorem ke_X4_all {sL d : Nat} {h : mH} {post : mP} {a1 : Int32} (H : EX (Kd sL d) sL md_X4_all post 0 [some (.inr (.inr (.inr 7))), some (.inl a1), none, none, none, none, none] [] h) : Kd sL (d + 1) 160 [.inr (.inr (.inr 7)), .inl a1] h post := Or.inr ⟨Nat.le_of_ble_eq_true rfl, rfl, Nat.le_of_ble_eq_true rfl, H⟩
theorem ke_X4_repair {sL d : Nat} {h : mH} {post : mP}  (H : EX (Kd sL d) sL md_X4_repair post 0 [some (.inr (.inr (.inr 7))), none, none] [] h) : Kd sL (d + 1) 161 [.inr (.inr (.inr 7))] h post := Or.inr ⟨Nat.le_of_ble_eq_true rfl, rfl, Nat.le_of_ble_eq_true rfl, H⟩
theorem ke_X4_directoryOf {sL d : Nat} {h : mH} {post : mP} {a1 : Int32} (H : EX (Kd sL d) sL md_X4_directoryOf post 0 [some (.inr (.inr (.inr 7))), some (.inl a1)] [] h) : Kd sL (d + 1) 162 [.inr (.inr (.inr 7)), .inl a1] h post := Or.inr ⟨Nat.le_of_ble_eq_true rfl, rfl, Nat.le_of_ble_eq_true rfl, H⟩
theorem ke_X4_heldBy {sL d : Nat} {h : mH} {post : mP} {a1 : Int32} (H : EX (Kd sL d) sL md_X4_heldBy post 0 [some (.inr (.inr (.inr 7))), some (.inl a1), none, none, none, none, none] [] h) : Kd sL (d + 1) 163 [.inr (.inr (.inr 7)), .inl a1] h post := Or.inr ⟨Nat.le_of_ble_eq_true rfl, rfl, Nat.le_of_ble_eq_true rfl, H⟩
theorem ke_X4_holds {sL d : Nat} {h : mH} {post : mP} {a1 : Int32} (H : EX (Kd sL d) sL md_X4_holds post 0 [some (.inr (.inr (.inr 7))), some (.inl a1)] [] h) : Kd sL (d + 1) 164 [.inr (.inr (.inr 7)), .inl a1] h post := Or.inr ⟨Nat.le_of_ble_eq_true rfl, rfl, Nat.le_of_ble_eq_true rfl, H⟩
theorem ke_X4_alone {sL d : Nat} {h : mH} {post : mP} {a1 : Int32} (H : EX (Kd sL d) sL md_X4_alone post 0 [some (.inr (.inr (.inr 7))), some (.inl a1), none, none, none, none] [] h) : Kd sL (d + 1) 165 [.inr (.inr (.inr 7)), .inl a1] h post := Or.inr ⟨Nat.le_of_ble_eq_true rfl, rfl, Nat.le_of_ble_eq_true rfl, H⟩
theorem ke_X4_holders {sL d : Nat} {h : mH} {post : mP} {a1 : Int32} (H : EX (Kd sL d) sL md_X4_holders post 0 [some (.inr (.inr (.inr 7))), some (.inl a1), none, none] [] h) : Kd sL (d + 1) 166 [.inr (.inr (.inr 7)), .inl a1] h post := Or.inr ⟨Nat.le_of_ble_eq_true rfl, rfl, Nat.le_of_ble_eq_true rfl, H⟩
theorem ke_X4_free {sL d : Nat} {h : mH} {post : mP}  (H : EX (Kd sL d) sL md_X4_free post 0 [some (.inr (.inr (.inr 7))), none, none] [] h) : Kd sL (d + 1) 167 [.inr (.inr (.inr 7))] h post := Or.inr ⟨Nat.le_of_ble_eq_true rfl, rfl, Nat.le_of_ble_eq_true rfl, H⟩
theorem ke_X4_best {sL d : Nat} {h : mH} {post : mP} {a1 : Int32} (H : EX (Kd sL d) sL md_X4_best post 0 [some (.inr (.inr (.inr 7))), some (.inl a1), none, none, none, none, none] [] h) : Kd sL (d + 1) 168 [.inr (.inr (.inr 7)), .inl a1] h post := Or.inr ⟨Nat.le_of_ble_eq_true rfl, rfl, Nat.le_of_ble_eq_true rfl, H⟩
theorem ke_X4_twins {sL d : Nat} {h : mH} {post : mP}  (H : EX (Kd sL d) sL md_X4_twins post 0 [some (.inr (.inr (.inr 7))), none, none, none] [] h) : Kd sL (d + 1) 169 [.inr (.inr (.inr 7))] h post := Or.inr ⟨Nat.le_of_ble_eq_true rfl, rfl, Nat.le_of_ble_eq_true rfl, H⟩
theorem ke_X4_wrong {sL d : Nat} {h : mH} {post : mP} {a1 : Int32} {a2 : Int32} {a3 : Int32} (H : EX (Kd sL d) sL md_X4_wrong post 0 [some (.inr (.inr (.inr 7))), some (.inl a1), some (.inl a2), some (.inl a3)] [] h) : Kd sL (d + 1) 170 [.inr (.inr (.inr 7)), .inl a1, .inl a2, .inl a3] h post := Or.inr ⟨Nat.le_of_ble_eq_true rfl, rfl, Nat.le_of_ble_eq_true rfl, H⟩
theorem ke_X4_cost {sL d : Nat} {h : mH} {post : mP} {a1 : Int32} {a2 : Int32} (H : EX (Kd sL d) sL md_X4_cost post 0 [some (.inr (.inr (.inr 7))), some (.inl a1), some (.inl a2), none] [] h) : Kd sL (d + 1) 171 [.inr (.inr (.inr 7)), .inl a1, .inl a2] h post := Or.inr ⟨Nat.le_of_ble_eq_true rfl, rfl, Nat.le_of_ble_eq_true rfl, H⟩
theorem ke_X4_thought {sL d : Nat} {h : mH} {post : mP} {a1 : Int32} {a2 : Int32} {a3 : Int32} {a4 : Int32} {a5 : Int32} (H : EX (Kd sL d) sL md_X4_thought post 0 [some (.inr (.inr (.inr 7))), some (.inl a1), some (.inl a2), some (.inl a3), some (.inl a4), some (.inl a5), none, none, none] [] h) : Kd sL (d + 1) 172 [.inr (.inr (.inr 7)), .inl a1, .inl a2, .inl a3, .inl a4, .inl a5] h post := Or.inr ⟨Nat.le_of_ble_eq_true rfl, rfl, Nat.le_of_ble_eq_true rfl, H⟩
theorem ke_X4_torn {sL d : Nat} {h : mH} {post : mP} {a1 : Int32} {a2 : Int32} {a3 : Int32} {a4 : Int32} (H : EX (Kd sL d) sL md_X4_torn post 0 [some (.inr (.inr (.inr 7))), some (.inl a1), some (.inl a2), some (.inl a3), some (.inl a4), none] [] h) : Kd sL (d + 1) 173 [.inr (.inr (.inr 7)), .inl a1, .inl a2, .inl a3, .inl a4] h post := Or.inr ⟨Nat.le_of_ble_eq_true rfl, rfl, Nat.le_of_ble_eq_true rfl, H⟩
theorem ke_X4_leaks {sL d : Nat} {h : mH} {post : mP} {a1 : Int32} {a2 : Int32} {a3 : Int32} (H : EX (Kd sL d) sL md_X4_leaks post 0 [some (.inr (.inr (.inr 7))), some (.inl a1), some (.inl a2), some (.inl a3), none] [] h) : Kd sL (d + 1) 174 [.inr (.inr (.inr 7)), .inl a1, .inl a2, .inl a3] h post := Or.inr ⟨Nat.le_of_ble_eq_true rfl, rfl, Nat.le_of_ble_eq_true rfl, H⟩
theorem ke_X4_behind {sL d : Nat} {h : mH} {post : mP} {a1 : Int32} {a2 : Int32} {a3 : Int32} (H : EX (Kd sL d) sL md_X4_behind post 0 [some (.inr (.inr (.inr 7))), some (.inl a1), some (.inl a2), some (.inl a3), none, none] [] h) : Kd sL (d + 1) 175 [.inr (.inr (.inr 7)), .inl a1, .inl a2, .inl a3] h post := Or.inr ⟨Nat.le_of_ble_eq_true rfl, rfl, Nat.le_of_ble_eq_true rfl, H⟩
theorem ke_X4_through {sL d : Nat} {h : mH} {post : mP} {a1 : Int32} {a2 : Int32} (H : EX (Kd sL d) sL md_X4_through post 0 [some (.inr (.inr (.inr 7))), some (.inl a1), some (.inl a2), none, none] [] h) : Kd sL (d + 1) 176 [.inr (.inr (.inr 7)), .inl a1, .inl a2] h post := Or.inr ⟨Nat.le_of_ble_eq_true rfl, rfl, Nat.le_of_ble_eq_true rfl, H⟩
theorem ke_X4_room {sL d : Nat} {h : mH} {post : mP} {a1 : Int32} (H : EX (Kd sL d) sL md_X4_room post 0 [some (.inr (.inr (.inr 7))), some (.inl a1)] [] h) : Kd sL (d + 1) 177 [.inr (.inr (.inr 7)), .inl a1] h post := Or.inr ⟨Nat.le_of_ble_eq_true rfl, rfl, Nat.le_of_ble_eq_true rfl, H⟩
theorem ke_X4_of {sL d : Nat} {h : mH} {post : mP} {a1 : Int32} {a2 : Int32} (H : EX (Kd sL d) sL md_X4_of post 0 [some (.inr (.inr (.inr 7))), some (.inl a1), some (.inl a2), none, none] [] h) : Kd sL (d + 1) 178 [.inr (.inr (.inr 7)), .inl a1, .inl a2] h post := Or.inr ⟨Nat.le_of_ble_eq_true rfl, rfl, Nat.le_of_ble_eq_true rfl, H⟩
theorem ke_X4_feed {sL d : Nat} {h : mH} {post : mP} {a1 : Int64} {a2 : Int32} (H : EX (Kd sL d) sL md_X4_feed post 0 [some (.inr (.inr (.inr 7))), some (.inr (.inl a1)), none, some (.inl a2), none] [] h) : Kd sL (d + 1) 179 [.inr (.inr (.inr 7)), .inr (.inl a1), .inl a2] h post := Or.inr ⟨Nat.le_of_ble_eq_true rfl, rfl, Nat.le_of_ble_eq_true rfl, H⟩
theorem ke_X4_wipe {sL d : Nat} {h : mH} {post : mP}  (H : EX (Kd sL d) sL md_X4_wipe post 0 [some (.inr (.inr (.inr 7))), none] [] h) : Kd sL (d + 1) 180 [.inr (.inr (.inr 7))] h post := Or.inr ⟨Nat.le_of_ble_eq_true rfl, rfl, Nat.le_of_ble_eq_true rfl, H⟩
theorem ke_X4_numbersOf {sL d : Nat} {h : mH} {post : mP} {a1 : Int32} (H : EX (Kd sL d) sL md_X4_numbersOf post 0 [some (.inl a1)] [] h) : Kd sL (d + 1) 181 [.inl a1] h post := Or.inr ⟨Nat.le_of_ble_eq_true rfl, trivial, Nat.le_of_ble_eq_true rfl, H⟩
theorem ke_X4_isDigit {sL d : Nat} {h : mH} {post : mP} {a1 : Int32} (H : EX (Kd sL d) sL md_X4_isDigit post 0 [some (.inr (.inr (.inr 7))), some (.inl a1)] [] h) : Kd sL (d + 1) 182 [.inr (.inr (.inr 7)), .inl a1] h post := Or.inr ⟨Nat.le_of_ble_eq_true rfl, rfl, Nat.le_of_ble_eq_true rfl, H⟩
theorem ke_X4_isDeed {sL d : Nat} {h : mH} {post : mP}  (H : EX (Kd sL d) sL md_X4_isDeed post 0 [some (.inr (.inr (.inr 7))), none, none, none] [] h) : Kd sL (d + 1) 183 [.inr (.inr (.inr 7))] h post := Or.inr ⟨Nat.le_of_ble_eq_true rfl, rfl, Nat.le_of_ble_eq_true rfl, H⟩
theorem ke_X4_areDeeds {sL d : Nat} {h : mH} {post : mP}  (H : EX (Kd sL d) sL md_X4_areDeeds post 0 [some (.inr (.inr (.inr 7)))] [] h) : Kd sL (d + 1) 184 [.inr (.inr (.inr 7))] h post := Or.inr ⟨Nat.le_of_ble_eq_true rfl, rfl, Nat.le_of_ble_eq_true rfl, H⟩
theorem ke_X4_does {sL d : Nat} {h : mH} {post : mP} {a1 : Int32} (H : EX (Kd sL d) sL md_X4_does post 0 [some (.inr (.inr (.inr 7))), some (.inl a1), none, none] [] h) : Kd sL (d + 1) 185 [.inr (.inr (.inr 7)), .inl a1] h post := Or.inr ⟨Nat.le_of_ble_eq_true rfl, rfl, Nat.le_of_ble_eq_true rfl, H⟩
theorem ke_X4_run {sL d : Nat} {h : mH} {post : mP}  (H : EX (Kd sL d) sL md_X4_run post 0 [some (.inr (.inr (.inr 7))), none, none] [] h) : Kd sL (d + 1) 186 [.inr (.inr (.inr 7))] h post := Or.inr ⟨Nat.le_of_ble_eq_true rfl, rfl, Nat.le_of_ble_eq_true rfl, H⟩
theorem ke_X4_keep {sL d : Nat} {h : mH} {post : mP}  (H : EX (Kd sL d) sL md_X4_keep post 0 [some (.inr (.inr (.inr 7)))] [] h) : Kd sL (d + 1) 187 [.inr (.inr (.inr 7))] h post := Or.inr ⟨Nat.le_of_ble_eq_true rfl, rfl, Nat.le_of_ble_eq_true rfl, H⟩
theorem ke_X4_again {sL d : Nat} {h : mH} {post : mP}  (H : EX (Kd sL d) sL md_X4_again post 0 [some (.inr (.inr (.inr 7)))] [] h) : Kd sL (d + 1) 188 [.inr (.inr (.inr 7))] h post := Or.inr ⟨Nat.le_of_ble_eq_true rfl, rfl, Nat.le_of_ble_eq_true rfl, H⟩
theorem ke_X4_count {sL d : Nat} {h : mH} {post : mP} {a1 : Int32} (H : EX (Kd sL d) sL md_X4_count post 0 [some (.inr (.inr (.inr 7))), some (.inl a1), none, none] [] h) : Kd sL (d + 1) 189 [.inr (.inr (.inr 7)), .inl a1] h post := Or.inr ⟨Nat.le_of_ble_eq_true rfl, rfl, Nat.le_of_ble_eq_true rfl, H⟩
theorem ke_X4_refused {sL d : Nat} {h : mH} {post : mP} {a1 : Int32} (H : EX (Kd sL d) sL md_X4_refused post 0 [some (.inr (.inr (.inr 7))), some (.inl a1)] [] h) : Kd sL (d + 1) 190 [.inr (.inr (.inr 7)), .inl a1] h post := Or.inr ⟨Nat.le_of_ble_eq_true rfl, rfl, Nat.le_of_ble_eq_true rfl, H⟩
theorem ke_J13_bitCount {sL d : Nat} {h : mH} {post : mP} {a1 : Int64} (H : EX (Kd sL d) sL md_J13_bitCount post 0 [some (.inr (.inl a1)), none] [] h) : Kd sL (d + 1) 191 [.inr (.inl a1)] h post := Or.inr ⟨Nat.le_of_ble_eq_true rfl, trivial, Nat.le_of_ble_eq_true rfl, H⟩
theorem ke_J7_rangeCheck {sL d : Nat} {h : mH} {post : mP} {a1 : Int32} {a2 : Int32} {a3 : Int32} (H : EX (Kd sL d) sL md_J7_rangeCheck post 0 [some (.inl a1), some (.inl a2), some (.inl a3)] [] h) : Kd sL (d + 1) 192 [.inl a1, .inl a2, .inl a3] h post := Or.inr ⟨Nat.le_of_ble_eq_true rfl, trivial, Nat.le_of_ble_eq_true rfl, H⟩
theorem ke_J7_fill2 {sL d : Nat} {h : mH} {post : mP} {a1 : mRef} {a2 : Int32} (H : EX (Kd sL d) sL md_J7_fill2 post 0 [some (.inr (.inr a1)), some (.inl a2), none, none] [] h) : Kd sL (d + 1) 193 [.inr (.inr a1), .inl a2] h post := Or.inr ⟨Nat.le_of_ble_eq_true rfl, trivial, Nat.le_of_ble_eq_true rfl, H⟩
theorem ke_J7_fill4 {sL d : Nat} {h : mH} {post : mP} {a1 : mRef} {a2 : Int32} {a3 : Int32} {a4 : Int32} (H : EX (Kd sL d) sL md_J7_fill4 post 0 [some (.inr (.inr a1)), some (.inl a2), some (.inl a3), some (.inl a4), none] [] h) : Kd sL (d + 1) 194 [.inr (.inr a1), .inl a2, .inl a3, .inl a4] h post := Or.inr ⟨Nat.le_of_ble_eq_true rfl, trivial, Nat.le_of_ble_eq_true rfl, H⟩
end
section
/-! ===== the world as cells of the machine's heap ===== -/
def mRefs : List mRef := [.inl (0, 0), .inl (0, 1), .inl (0, 2), .inl (0, 3), .inl (0, 4), .inl (0, 5), .inl (0, 6), .inl (1, 0), .inl (1, 1), .inl (1, 2), .inl (1, 3), .inl (1, 4), .inl (1, 5), .inl (1, 6), .inl (2, 0), .inl (2, 1), .inl (2, 2), .inl (2, 3), .inl (2, 4), .inl (2, 5), .inl (2, 6), .inr 0, .inr 1, .inr 2, .inr 3, .inr 4, .inr 5, .inr 6, .inr 7, .inr 8, .inr 9, .inr 10, .inr 11, .inr 12, .inr 13, .inr 14, .inr 15, .inr 16]
def mpos (r : mRef) : Nat := match r with
  | .inl (i, p) => 7 * i.val + p
  | .inr n => 21 + n
def tv (ad : mRef → Nat) (v : mV) : Value := match v with
  | .inl x => .int x
  | .inr (.inl x) => .long x
  | .inr (.inr r) => .ref (ad r)
def fov (ad : mRef → Nat) (h : mH) (r : mRef) (k : Nat) (o : Option mRef) : Value := match o with
  | some r' => .ref (ad r')
  | none => .int (h r k)
def fvs (ad : mRef → Nat) (h : mH) (r : mRef) : List Value := (obj r).2.zipIdx.map (fun q => fov ad h r q.2 q.1)
def cellR (ad : mRef → Nat) (cI : ClassId) (h : mH) (r : mRef) : va_E := match arw r with
  | some n => .inl (cI, n, .inl (h r))
  | none => .inr ((obj r).1, fvs ad h r)
def wl (ad : mRef → Nat) (cI : ClassId) (h : mH) : va_W := mRefs.map (fun r => (ad r, cellR ad cI h r))
theorem mRefs_pos : ∀ (j : Nat) (r : mRef), mRefs[j]? = some r → mpos r = j := by
  intro j r h
  have h0 : (mRefs.zipIdx.all fun q => decide (mpos q.1 = q.2)) = true := by decide
  have h1 : (r, j) ∈ mRefs.zipIdx := by
    rw [List.mem_zipIdx_iff_getElem?]
    exact h
  have h2 := List.all_eq_true.mp h0 _ h1
  simpa using h2
theorem mRefs_img : ∀ (i : Fin 3) (p : Nat), p < 7 → mRefs[mpos (.inl (i, p))]? = some (.inl (i, p)) := by decide
theorem mRefs_oth : ∀ (n : Nat), n < 17 → mRefs[mpos (.inr n)]? = some (.inr n) := by decide
theorem mRefs_arw {r : mRef} {n : Nat} (h : arw r = some n) : mRefs[mpos r]? = some r := by
  unfold arw at h
  split at h <;> first | exact mRefs_img _ _ (by decide) | exact mRefs_oth _ (by decide) | cases h
theorem mRefs_obj {r : mRef} (h : (obj r).1 ≠ 99) : mRefs[mpos r]? = some r ∧ arw r = none := by
  unfold obj at h
  split at h <;> first | exact ⟨mRefs_img _ _ (by decide), rfl⟩ | exact ⟨mRefs_oth _ (by decide), rfl⟩ | exact absurd rfl h
theorem wl_at {ad : mRef → Nat} {cI : ClassId} {h : mH} {r : mRef} (hr : mRefs[mpos r]? = some r) : (wl ad cI h)[mpos r]? = some (ad r, cellR ad cI h r) := by
  simp [wl, List.getElem?_map, hr]
theorem wl_arr {ad : mRef → Nat} {cI : ClassId} {h : mH} {r : mRef} {n : Nat} (hr : arw r = some n) : (wl ad cI h)[mpos r]? = some (ad r, .inl (cI, n, .inl (h r))) := by
  rw [wl_at (mRefs_arw hr)]
  simp [cellR, hr]
theorem wl_obj {ad : mRef → Nat} {cI : ClassId} {h : mH} {r : mRef} (hr : (obj r).1 ≠ 99) : (wl ad cI h)[mpos r]? = some (ad r, .inr ((obj r).1, fvs ad h r)) := by
  rw [wl_at (mRefs_obj hr).1]
  simp [cellR, (mRefs_obj hr).2]
theorem cellR_other {ad : mRef → Nat} {cI : ClassId} {h h' : mH} {r : mRef} (he : ∀ k, h' r k = h r k) : cellR ad cI h' r = cellR ad cI h r := by
  have e : h' r = h r := funext he
  simp only [cellR, fvs, fov, e]
/-- only the cell r differs -/
theorem wl_set {ad : mRef → Nat} {cI : ClassId} {h h' : mH} {r : mRef} (hr : mRefs[mpos r]? = some r) (he : ∀ r', r' ≠ r → ∀ k, h' r' k = h r' k) : wl ad cI h' = (wl ad cI h).set (mpos r) (ad r, cellR ad cI h' r) := by
  apply List.ext_getElem?
  intro j
  by_cases hj : j = mpos r
  · subst hj
    have hl : mpos r < (wl ad cI h).length := (List.getElem?_eq_some_iff.mp (wl_at (ad := ad) (cI := cI) (h := h) hr)).1
    rw [wl_at hr, List.getElem?_set_self hl]
  · rw [List.getElem?_set_ne (Ne.symm hj)]
    simp only [wl, List.getElem?_map]
    cases hq : mRefs[j]? with
    | none => rfl
    | some q =>
      have hne : q ≠ r := fun z => hj (by rw [← mRefs_pos j q hq, z])
      simp [cellR_other (fun k => he q hne k)]
theorem hup_other {h : mH} {r r' : mRef} {k : Nat} {v : Int32} (hne : r' ≠ r) (k' : Nat) : hup h r k v r' k' = h r' k' := by
  simp [hup, hne]
theorem hup_self {h : mH} {r : mRef} {k : Nat} {v : Int32} : hup h r k v r = upd (h r) k v := by
  funext k'
  simp [hup, upd]
theorem wl_hupA {ad : mRef → Nat} {cI : ClassId} {h : mH} {r : mRef} {n k : Nat} {v : Int32} (hr : arw r = some n) : wl ad cI (hup h r k v) = (wl ad cI h).set (mpos r) (ad r, .inl (cI, n, .inl (upd (h r) k v))) := by
  rw [wl_set (mRefs_arw hr) (fun r' hne k' => hup_other hne k')]
  simp [cellR, hr, hup_self]
theorem fvs_at {ad : mRef → Nat} {h : mH} {r : mRef} {k : Nat} {o : Option mRef} (ho : (obj r).2[k]? = some o) : (fvs ad h r)[k]? = some (fov ad h r k o) := by
  simp [fvs, List.getElem?_map, List.getElem?_zipIdx, ho]
theorem fvs_len {ad : mRef → Nat} {h : mH} {r : mRef} : (fvs ad h r).length = (obj r).2.length := by
  simp [fvs]
theorem fvs_hup {ad : mRef → Nat} {h : mH} {r : mRef} {k : Nat} {v : Int32} (ho : (obj r).2[k]? = some none) : fvs ad (hup h r k v) r = (fvs ad h r).set k (.int v) := by
  apply List.ext_getElem?
  intro j
  have hk : k < (obj r).2.length := (List.getElem?_eq_some_iff.mp ho).1
  by_cases hj : j = k
  · subst hj
    rw [fvs_at ho, List.getElem?_set_self (by rw [fvs_len]; exact hk)]
    simp [fov, hup]
  · rw [List.getElem?_set_ne (Ne.symm hj)]
    cases hq : (obj r).2[j]? with
    | none =>
      have hl : (obj r).2.length ≤ j := by simpa using hq
      rw [List.getElem?_eq_none (by rw [fvs_len]; exact hl), List.getElem?_eq_none (by rw [fvs_len]; exact hl)]
    | some o =>
      rw [fvs_at hq, fvs_at hq]
      cases o with
      | some r' => rfl
      | none => simp [fov, hup, hj]
theorem wl_hupO {ad : mRef → Nat} {cI : ClassId} {h : mH} {r : mRef} {k : Nat} {v : Int32} (hr : (obj r).1 ≠ 99) (ho : (obj r).2[k]? = some none) : wl ad cI (hup h r k v) = (wl ad cI h).set (mpos r) (ad r, .inr ((obj r).1, (fvs ad h r).set k (.int v))) := by
  rw [wl_set (mRefs_obj hr).1 (fun r' hne k' => hup_other hne k')]
  simp [cellR, (mRefs_obj hr).2, fvs_hup ho]
theorem wl_hcp {ad : mRef → Nat} {cI : ClassId} {h : mH} {a d : mRef} {sp dp n nd : Nat} (hd : arw d = some nd) : wl ad cI (hcp h a sp d dp n) = (wl ad cI h).set (mpos d) (ad d, .inl (cI, nd, .inl (va_cpy (h a) (h d) sp dp n))) := by
  rw [wl_set (h := h) (mRefs_arw hd) (fun r' hne k' => by simp [hcp, hne])]
  have e : hcp h a sp d dp n d = va_cpy (h a) (h d) sp dp n := by
    funext k
    simp [hcp, va_cpy]
  simp [cellR, hd, e]
/-! ===== the locals ===== -/
def clm (ad : mRef → Nat) (ls : mL) : List (Nat × Value) := (List.range ls.length).filterMap (fun i => (lcl ls i).map (fun v => (i, tv ad v)))
theorem clm_mem {ad : mRef → Nat} {ls : mL} {q : Nat × Value} : q ∈ clm ad ls ↔ ∃ v, lcl ls q.1 = some v ∧ q.2 = tv ad v := by
  constructor
  · intro h
    obtain ⟨i, -, hi⟩ := List.mem_filterMap.mp h
    cases hv : lcl ls i with
    | none => rw [hv] at hi; cases hi
    | some v =>
      rw [hv] at hi
      cases hi
      exact ⟨v, hv, rfl⟩
  · intro ⟨v, hv, e⟩
    refine List.mem_filterMap.mpr ⟨q.1, ?_, by rw [hv]; simp [← e]⟩
    rw [List.mem_range]
    apply Nat.lt_of_not_le
    intro hl
    have e0 : ls.getD q.1 none = none := by simp [List.getD_eq_getElem?_getD, hl]
    simp only [lcl, e0] at hv
    cases hv
def LR (ad : mRef → Nat) (nL : Nat) (real : Array Slot) (ls : mL) : Prop := ls.length = nL ∧ lv_has real nL (clm ad ls)
theorem LR.get {ad : mRef → Nat} {nL : Nat} {real : Array Slot} {ls : mL} (h : LR ad nL real ls) {i : Nat} {v : mV} (hv : lcl ls i = some v) : real[i]? = some (.val (tv ad v)) := h.2.2.2 (i, tv ad v) (clm_mem.mpr ⟨v, hv, rfl⟩)
theorem getD_set_eq {ls : mL} {k : Nat} {o : Option mV} (hk : k < ls.length) : (ls.set k o).getD k none = o := by
  simp [List.getD_eq_getElem?_getD, hk]
theorem getD_set_ne {ls : mL} {k i : Nat} {o : Option mV} (hk : i ≠ k) : (ls.set k o).getD i none = ls.getD i none := by
  simp [List.getD_eq_getElem?_getD, List.getElem?_set_ne (Ne.symm hk)]
theorem lcl_cat (ad : mRef → Nat) {ls : mL} {i : Nat} {v : mV} (hv : lcl ls i = some v) : ls.getD i none = some v ∧ ((tv ad v).category = 2 → ls.getD (i + 1) none = none) := by
  unfold lcl at hv
  split at hv
  · split at hv
    · rename_i x e1 _ e2
      cases hv
      exact ⟨e1, fun _ => e2⟩
    · cases hv
  · rename_i hno
    refine ⟨hv, fun hc => ?_⟩
    rcases v with x | x | r
    · cases hc
    · exact absurd hv (hno x)
    · cases hc
theorem lcl_of (ad : mRef → Nat) {ls : mL} {i : Nat} {v : mV} (h1 : ls.getD i none = some v) (h2 : (tv ad v).category = 2 → ls.getD (i + 1) none = none) : lcl ls i = some v := by
  rcases v with x | x | r
  · simp only [lcl, h1]
  · have h3 := h2 rfl
    simp only [lcl, h1, h3]
  · simp only [lcl, h1]
theorem LR.set1 {ad : mRef → Nat} {nL k : Nat} {real' : Array Slot} {ls : mL} {v : mV} (hl : ls.length = nL) (hk0 : k < nL) (h : lv_has real' nL ((k, tv ad v) :: (clm ad ls).filter (fun q => !(q.1 == k) && !(q.1 + 1 == k && q.2.category == 2)))) : LR ad nL real' (lst ls k v) := by
  refine ⟨by simp [lst, hl], h.1, h.2.1, fun q hq => ?_⟩
  obtain ⟨w, hw, e⟩ := clm_mem.mp hq
  obtain ⟨hg, h2⟩ := lcl_cat ad hw
  have hkl : k < ls.length := by omega
  by_cases hk : q.1 = k
  · rw [hk, lst, getD_set_eq hkl] at hg
    cases hg
    rw [e, hk]
    exact h.2.2 (k, tv ad v) List.mem_cons_self
  · rw [lst, getD_set_ne hk] at hg
    have hn : (tv ad w).category = 2 → q.1 + 1 ≠ k := by
      intro h3 h4
      have h5 := h2 h3
      rw [h4, lst, getD_set_eq hkl] at h5
      cases h5
    have hc : lcl ls q.1 = some w := lcl_of ad hg (fun h3 => by
      have h5 := h2 h3
      rwa [lst, getD_set_ne (hn h3)] at h5)
    refine h.2.2 q (List.mem_cons_of_mem _ (List.mem_filter.mpr ⟨clm_mem.mpr ⟨w, hc, e⟩, ?_⟩))
    have h6 : ¬ (q.1 + 1 = k ∧ q.2.category = 2) := fun z => hn (by rw [← e]; exact z.2) z.1
    by_cases h7 : q.1 + 1 = k
    · have h8 : q.2.category ≠ 2 := fun z => h6 ⟨h7, z⟩
      simp [hk, h8]
    · simp [hk, h7]
theorem LR.set2 {ad : mRef → Nat} {nL k : Nat} {real' : Array Slot} {ls : mL} {v : mV} (hl : ls.length = nL) (hk0 : k + 1 < nL) (h : lv_has real' nL ((k, tv ad v) :: (clm ad ls).filter (fun q => !(q.1 == k) && (!(q.1 == k + 1) && !(q.1 + 1 == k && q.2.category == 2))))) : LR ad nL real' (ls2 ls k v) := by
  refine ⟨by simp [ls2, hl], h.1, h.2.1, fun q hq => ?_⟩
  obtain ⟨w, hw, e⟩ := clm_mem.mp hq
  obtain ⟨hg, h2⟩ := lcl_cat ad hw
  have hkl : k < ls.length := by omega
  by_cases hk1 : q.1 = k + 1
  · rw [hk1, ls2, getD_set_eq (by simp; omega)] at hg
    cases hg
  rw [ls2, getD_set_ne hk1] at hg
  by_cases hk : q.1 = k
  · rw [hk, getD_set_eq hkl] at hg
    cases hg
    rw [e, hk]
    exact h.2.2 (k, tv ad v) List.mem_cons_self
  · rw [getD_set_ne hk] at hg
    have hn : (tv ad w).category = 2 → q.1 + 1 ≠ k := by
      intro h3 h4
      have h5 := h2 h3
      rw [h4, ls2, getD_set_ne (by omega), getD_set_eq hkl] at h5
      cases h5
    have hc : lcl ls q.1 = some w := lcl_of ad hg (fun h3 => by
      have h5 := h2 h3
      rwa [ls2, getD_set_ne (by omega), getD_set_ne (hn h3)] at h5)
    refine h.2.2 q (List.mem_cons_of_mem _ (List.mem_filter.mpr ⟨clm_mem.mpr ⟨w, hc, e⟩, ?_⟩))
    have h6 : ¬ (q.1 + 1 = k ∧ q.2.category = 2) := fun z => hn (by rw [← e]; exact z.2) z.1
    by_cases h7 : q.1 + 1 = k
    · have h8 : q.2.category ≠ 2 := fun z => h6 ⟨h7, z⟩
      simp [hk, hk1, h8]
    · simp [hk, hk1, h7]
end
section
/-! ===== what the listing of a method must be, by program ===== -/
def ilen : Instr → Nat
  | .bipush _ => 2
  | .sipush _ => 3
  | .ldc _ => 2
  | .ldc2_w _ => 3
  | .getstatic _ => 3
  | .iload _ => 2
  | .lload _ => 2
  | .aload _ => 2
  | .istore _ => 2
  | .lstore _ => 2
  | .astore _ => 2
  | .iinc _ _ => 3
  | .goto _ => 3
  | .ifCond _ _ => 3
  | .if_icmp _ _ => 3
  | .getfield _ => 3
  | .putfield _ => 3
  | .invokevirtual _ => 3
  | .invokestatic _ => 3
  | _ => 1
def isTab : Instr → Bool
  | .tableswitch _ _ _ _ => true
  | _ => false
/-- it doesn't go on at the next -/
def isEnd : Instr → Bool
  | .tableswitch _ _ _ _ => true
  | .ireturn => true
  | .lreturn => true
  | .return_ => true
  | .goto _ => true
  | _ => false
def isIf : Instr → Bool
  | .ifCond _ _ => true
  | .if_icmp _ _ => true
  | _ => false
def spc (code : List mB) (k : Nat) : Option Nat := (blk code k).2.head?.map (fun q => q.1)
def okT (code : List mB) (pc : Nat) (off : Int) (k : Nat) : Bool := match spc code k with
  | some q => decide ((pc : Int) + off = (q : Int))
  | none => false
def okTs (code : List mB) (pc : Nat) : List Int → List Nat → Bool
  | [], [] => true
  | o :: os, k :: ks => okT code pc o k && okTs code pc os ks
  | _, _ => false
/-- what is linked where: of a class its fields, its methods, its constants -/
abbrev mLk : Type := List (Nat × Nat × Nat) × List (Nat × Nat × Nat × Nat) × List (Nat × Nat) × List (Nat × Nat) × List Nat
def okX (lk : mLk) (own : String) (mx : Nat) (ret : Option FieldType) (code : List mB) (it : mE) : Bool := match it.2.1, it.2.2.2 with
  | .ireturn, [] => decide (ret = some .int)
  | .ireturn, _ :: _ => decide (ret = some .boolean)
  | .lreturn, _ => decide (ret = some .long)
  | .return_, _ => decide (ret = none)
  | .goto o, [k] => okT code it.1 o k
  | .ifCond _ o, [k] => okT code it.1 o k
  | .if_icmp _ o, [k] => okT code it.1 o k
  | .tableswitch d lo hi os, k :: ks => okT code it.1 d k && okTs code it.1 os.toList ks && decide (hi = lo + (ks.length : Int) - 1) && decide (-2147483648 ≤ lo) && decide (hi ≤ 2147483647) && decide (0 < ks.length)
  | .istore k, _ => decide (k < mx)
  | .istore_n k, _ => decide (k.val < mx)
  | .astore k, _ => decide (k < mx)
  | .astore_n k, _ => decide (k.val < mx)
  | .lstore k, _ => decide (k + 1 < mx)
  | .lstore_n k, _ => decide (k.val + 1 < mx)
  | .iinc k _, _ => decide (k < mx)
  | .getfield i, [ci, k] => decide ((i, ci, k) ∈ lk.1)
  | .putfield i, [ci, k] => decide ((i, ci, k + 2000) ∈ lk.1)
  | .putfield i, [ci, k, _] => decide ((i, ci, k + 1000) ∈ lk.1)
  | .ldc i, [0, v] => decide ((i, v) ∈ lk.2.2.1)
  | .ldc i, [1] => decide (own = "TornLayers$Tape" ∧ i = 42)
  | .ldc2_w i, [v] => decide ((i, v) ∈ lk.2.2.2.1)
  | .getstatic i, _ => decide (own = "TornLayers$Tape" ∧ i = 50)
  | .invokevirtual i, [0, y, n, _] => decide ((i, 0, y, n) ∈ lk.2.1)
  | .invokevirtual i, [4, y, n, _] => decide ((i, 4, y, n) ∈ lk.2.1)
  | .invokestatic i, [1, y, n, _] => decide ((i, 1, y, n) ∈ lk.2.1)
  | .invokestatic i, [2, y, n, _] => decide ((i, 2, y, n) ∈ lk.2.1)
  | .invokestatic i, [9] => decide (i ∈ lk.2.2.2.2)
  | .invokevirtual _, _ => false
  | .invokestatic _, _ => false
  | _, _ => true
def okI (lk : mLk) (own : String) (cc : ByteArray) (mx : Nat) (ret : Option FieldType) (code : List mB) (it : mE) : Bool :=
  decide (decode cc it.1 = .ok (it.2.1, it.2.2.1)) && (isTab it.2.1 || decide (it.2.2.1 = ilen it.2.1)) && okX lk own mx ret code it
def okB (lk : mLk) (own : String) (cc : ByteArray) (mx : Nat) (ret : Option FieldType) (code : List mB) (b : Nat) : List mE → Bool
  | [] => true
  | it :: r => (decide (it.2.1 = .nop) || (okI lk own cc mx ret code it && (isEnd it.2.1 || (match r with
      | [] => decide (spc code (b + 1) = some (it.1 + it.2.2.1))
      | it' :: _ => decide (it'.1 = it.1 + it.2.2.1) && !isIf it.2.1)))) && okB lk own cc mx ret code b r
def okC (lk : mLk) (own : String) (cc : ByteArray) (mx : Nat) (ret : Option FieldType) (code : List mB) : Bool := code.zipIdx.all (fun q => okB lk own cc mx ret code q.2 q.1.2)
section SP
variable {p : Program} {l : Launch} {e : Env} {R : Room} {s : State} {m : MethodId} {args : Array Value} {below : List Frame} {meth : Method} {c : Code} {H : Heap} {locs : List Loc} {cells slots : Nat} {Q : State → Prop} {cc : ByteArray} {pc : Nat} {ad : mRef → Nat} {nL : Nat} {real : Array Slot}
theorem sn_lc {ls : mL} {v : mV} {k : Nat} (hl : LR ad nL real ls) (hv : lcl ls k = some v) : ∃ j : Nat, (clm ad ls)[j]? = some (k, tv ad v) := List.getElem?_of_mem (clm_mem.mpr ⟨v, hv, rfl⟩)
set_option maxHeartbeats 4000000 in
/-- the instructions without heap -/
theorem sn_pop {lk : mLk} {own : String} {mx : Nat} {ret : Option FieldType} {code : List mB} {i : Instr} {t : List Nat} {ls ls' : mL} {st st' : List mV} (hx : p.tables.exec = Jvm.exec) (hb : c.code = cc) (hmx : mx = nL) (hown : s.vm.findClass own = some m.cls)
    (hC : ∀ (j v : Nat), (j, v) ∈ lk.2.2.1 → (Cond.constant own j (Int32.ofNat v)).before args s = true) (hG : ∀ (j v : Nat), (j, v) ∈ lk.2.2.2.1 → (Cond.constantLong own j (Int64.ofNat v)).before args s = true)
    (hp : pop1 i t ls st = some (ls', st')) (hd : decode cc pc = .ok (i, ilen i)) (hok : okX lk own mx ret code (pc, i, ilen i, t) = true) (hs1 : ∀ j, i ≠ .getstatic j) (hs2 : ¬ ∃ j, i = .ldc j ∧ t = [1]) (hl : LR ad nL real ls)
    (kk : ∀ real', LR ad nL real' ls' → W p l e R s m args below meth c H locs cells slots Q (F0 m (pc + ilen i) real' (st'.map (tv ad)))) : W p l e R s m args below meth c H locs cells slots Q (F0 m pc real (st.map (tv ad))) := by
  subst hmx
  unfold pop1 at hp
  split at hp
  · cases hp; exact lv_iconst hx hb hd rfl (kk _ hl)
  · cases hp; exact lv_bipush hx hb hd rfl (kk _ hl)
  · cases hp; exact lv_sipush hx hb hd rfl (kk _ hl)
  · cases hp; exact lv_lconst hx hb hd rfl (kk _ hl)
  · split at hp
    · cases hp; exact lv_ldc hx hb hown (hC _ _ (of_decide_eq_true hok)) hd (kk _ hl)
    · exact absurd ⟨_, rfl, rfl⟩ hs2
    · cases hp
  · split at hp
    · cases hp; exact lv_ldc2 hx hb hown (hG _ _ (of_decide_eq_true hok)) hd (kk _ hl)
    · cases hp
  · exact absurd rfl (hs1 _)
  · split at hp
    · rename_i hv; cases hp; exact lv_iload hx hb hd (hl.get hv) (kk _ hl)
    · cases hp
  · split at hp
    · rename_i hv; cases hp; exact lv_iload_n hx hb hd rfl (hl.get hv) (kk _ hl)
    · cases hp
  · split at hp
    · rename_i hv; cases hp; exact lv_lload hx hb hd (hl.get hv) (kk _ hl)
    · cases hp
  · split at hp
    · rename_i hv; cases hp; exact lv_lload_n hx hb hd rfl (hl.get hv) (kk _ hl)
    · cases hp
  · split at hp
    · rename_i hv; cases hp; exact lv_aload hx hb hd (hl.get hv) (kk _ hl)
    · cases hp
  · split at hp
    · rename_i hv; cases hp; exact lv_aload_n hx hb hd rfl (hl.get hv) (kk _ hl)
    · cases hp
  · split at hp
    · cases hp; exact lv_istore hx hb hd hl.2 (of_decide_eq_true hok) rfl (fun real' h' => kk _ (LR.set1 (v := .inl _) hl.1 (of_decide_eq_true hok) h'))
    · cases hp
  · split at hp
    · cases hp; exact lv_istore_n hx hb hd rfl hl.2 (of_decide_eq_true hok) rfl (fun real' h' => kk _ (LR.set1 (v := .inl _) hl.1 (of_decide_eq_true hok) h'))
    · cases hp
  · split at hp
    · cases hp; exact lv_astore hx hb hd hl.2 (of_decide_eq_true hok) rfl (fun real' h' => kk _ (LR.set1 (v := .inr (.inr _)) hl.1 (of_decide_eq_true hok) h'))
    · cases hp
  · split at hp
    · cases hp; exact lv_astore_n hx hb hd rfl hl.2 (of_decide_eq_true hok) rfl (fun real' h' => kk _ (LR.set1 (v := .inr (.inr _)) hl.1 (of_decide_eq_true hok) h'))
    · cases hp
  · split at hp
    · cases hp; exact lv_lstore hx hb hd hl.2 (of_decide_eq_true hok) rfl (fun real' h' => kk _ (LR.set2 (v := .inr (.inl _)) hl.1 (of_decide_eq_true hok) h'))
    · cases hp
  · split at hp
    · cases hp; exact lv_lstore_n hx hb hd rfl hl.2 (of_decide_eq_true hok) rfl (fun real' h' => kk _ (LR.set2 (v := .inr (.inl _)) hl.1 (of_decide_eq_true hok) h'))
    · cases hp
  · split at hp
    · rename_i hv
      cases hp
      obtain ⟨j, hj⟩ := sn_lc hl hv
      exact lv_iinc hx hb hd hl.2 hj rfl (of_decide_eq_true hok) rfl (fun real' h' => kk _ (LR.set1 (v := .inl _) hl.1 (of_decide_eq_true hok) h'))
    · cases hp
  · split at hp
    · cases hp; exact lv_iadd hx hb hd (kk _ hl)
    · cases hp
  · split at hp
    · cases hp; exact lv_isub hx hb hd (kk _ hl)
    · cases hp
  · split at hp
    · cases hp; exact lv_imul hx hb hd (kk _ hl)
    · cases hp
  · split at hp
    · cases hp; exact lv_iand hx hb hd (kk _ hl)
    · cases hp
  · split at hp
    · cases hp; exact lv_ior hx hb hd (kk _ hl)
    · cases hp
  · split at hp
    · cases hp; exact lv_ishl hx hb hd (kk _ hl)
    · cases hp
  · split at hp
    · cases hp; exact lv_ladd hx hb hd (kk _ hl)
    · cases hp
  · split at hp
    · cases hp; exact lv_lsub hx hb hd (kk _ hl)
    · cases hp
  · split at hp
    · cases hp; exact lv_land hx hb hd (kk _ hl)
    · cases hp
  · split at hp
    · cases hp; exact lv_lor hx hb hd (kk _ hl)
    · cases hp
  · split at hp
    · cases hp; exact lv_lxor hx hb hd (kk _ hl)
    · cases hp
  · split at hp
    · cases hp; exact lv_lshl hx hb hd rfl (kk _ hl)
    · cases hp
  · split at hp
    · cases hp; exact lv_lushr hx hb hd rfl (kk _ hl)
    · cases hp
  · split at hp
    · cases hp; exact W.lcmp hx hb hd (kk _ hl)
    · cases hp
  · split at hp
    · cases hp; exact lv_i2l hx hb hd rfl (kk _ hl)
    · cases hp
  · split at hp
    · cases hp; exact lv_l2i hx hb hd rfl (kk _ hl)
    · cases hp
  · split at hp
    · cases hp; exact lv_i2c hx hb hd rfl (kk _ hl)
    · cases hp
  · split at hp
    · cases hp; exact lv_dup hx hb hd rfl (kk _ hl)
    · cases hp; exact lv_dup hx hb hd rfl (kk _ hl)
    · cases hp
  · split at hp
    · cases hp; exact lv_dup2_11 hx hb hd rfl rfl (kk _ hl)
    · cases hp
  · split at hp
    · cases hp; exact lv_pop hx hb hd rfl (kk _ hl)
    · cases hp
  · cases hp
end SP
end
section
/-! ===== what is outside the world and only read; a method's start and end ===== -/
def gtbl : List Cond := lw_tbl.filter goodWord
theorem gtbl_in {w : Cond} (h : w ∈ lw_tbl) (hg : goodWord w = true) : w ∈ gtbl := List.mem_filter.mpr ⟨h, hg⟩
theorem gtbl_good {w : Cond} (h : w ∈ gtbl) : (w.onTables && w.keeps) = true ∨ ∃ ty, w = .arrayClass ty := good_of_word (List.mem_filter.mp h).2
def xNest : List Cond := [.methodLinkNest RX0 66 yX3_isIn "TornLayers", .methodLinkNest RX2 112 yX3_isCluster "TornLayers", .methodLinkNest RX2 162 yX3_isIn "TornLayers", .fieldLinkNest "TornLayers$Tape" 50 "TornLayers" "NUMBERS_OF" "[I" "TornLayers"]
/-- addresses; the byte array of the text; the classes of cells; the class of int arrays; which cells may change; the script's length; what static array and script hold -/
abbrev mW : Type := (mRef → Nat) × Nat × va_G × ClassId × (Nat → Prop) × Nat × (Nat → Int32) × (Nat → Int32)
def Ext (w : mW) (U : State) (H : Heap) : Prop :=
  va_Z "TornLayers" "NUMBERS_OF" "[I" (.ref (w.1 (.inr 20))) w.2.2.2.2.1 U H ∧ va_T .int (w.1 (.inr 20)) 7 (fun j => .int (w.2.2.2.2.2.2.1 j)) w.2.2.2.2.1 U H ∧
  vk_R "TornLayers$Tape" 42 "wsdrgmf" (w.1 (.inr 21)) U ∧ vk_S 1 [7] [[119, 115, 100, 114, 103, 109, 102]] (fun _ => w.1 (.inr 21)) (fun _ => w.2.1) w.2.2.2.2.1 U H ∧
  va_Z "java/lang/String" "COMPACT_STRINGS" "Z" (.int 1) w.2.2.2.2.1 U H ∧ va_X (w.1 (.inr 22)) w.2.2.2.2.2.1 w.2.2.2.2.2.2.2 U H ∧ w.1 (.inr 22) < H.size ∧ ¬ w.2.2.2.2.1 (w.1 (.inr 22)) ∧ ∀ q ∈ xNest, va_Nw q U
theorem Ext.to {w : mW} {s U : State} {H : Heap} {locs : List Loc} (h : Ext w s s.heap) (hS : va_S w.2.2.2.2.1 s.heap H locs) (hU : U.heap = H) (hW : s.WarmedH U.vm) : Ext w U U.heap := by
  obtain ⟨h1, h2, h3, h4, h5, h6, h7, h8, h9⟩ := h
  subst hU
  have hk := hS.2.1
  refine ⟨(h1.kept hk).moved hW.alike, va_T.moved hW.alike (h2.kept hk), h3.warm hW, (h4.kept hk).moved hW.alike, (h5.kept hk).moved hW.alike, (h6.kept (hk _ h7 h8)).moved hW.alike, Nat.lt_of_lt_of_le h7 hS.1, h8, fun q hq => ?_⟩
  have hq2 := h9 q hq
  simp only [xNest, List.mem_cons, List.not_mem_nil, or_false] at hq
  rcases hq with rfl | rfl | rfl | rfl
  · exact va_Nw.warmM hW hq2
  · exact va_Nw.warmM hW hq2
  · exact va_Nw.warmM hW hq2
  · exact va_Nw.warmF hW hq2
theorem Ext.same {w : mW} {s U : State} (h : Ext w s s.heap) (hU : U.heap = s.heap) (hv : s.vm = U.vm) : Ext w U U.heap := by
  obtain ⟨h1, h2, h3, h4, h5, h6, h7, h8, h9⟩ := h
  have ha : s.vm.Alike U.vm := by rw [hv]; exact Vm.Alike.refl _
  rw [hU]
  refine ⟨h1.moved ha, va_T.moved ha h2, h3.same hv.symm, h4.moved ha, h5.moved ha, h6.moved ha, h7, h8, fun q hq => ?_⟩
  have hq2 := h9 q hq
  simp only [xNest, List.mem_cons, List.not_mem_nil, or_false] at hq
  rcases hq with rfl | rfl | rfl | rfl <;> exact va_Nw.same rfl hv hq2
def Sm (w : mW) (h : mH) : Prop := h (.inr 20) = w.2.2.2.2.2.2.1 ∧ h (.inr 22) = w.2.2.2.2.2.2.2
/-- the heap H is the world h -/
def Rl (w : mW) (s : State) (h : mH) (H : Heap) (locs : List Loc) : Prop := va_P w.2.2.1 vwCl (wl w.1 w.2.2.2.1 h) H ∧ va_D w.2.2.2.2.1 (wl w.1 w.2.2.2.1 h) ∧ va_S w.2.2.2.2.1 s.heap H locs ∧ Sm w h
def mPre (w : mW) (h : mH) (U : State) : Prop := va_P w.2.2.1 vwCl (wl w.1 w.2.2.2.1 h) U.heap ∧ va_K w.2.2.1 vwCl [(w.2.2.2.1, .int)] U ∧ va_D w.2.2.2.2.1 (wl w.1 w.2.2.2.1 h) ∧ Sm w h ∧ Ext w U U.heap
def mQ (w : mW) (post : mP) : Array Value → State → Outcome → State → Prop := fun _ st oc t =>
  (∃ (v : Option mV) (h' : mH), oc = .returned (v.map (tv w.1)) ∧ post v h' ∧ va_P w.2.2.1 vwCl (wl w.1 w.2.2.2.1 h') t.heap ∧ va_D w.2.2.2.2.1 (wl w.1 w.2.2.2.1 h') ∧ Sm w h') ∧ va_F w.2.2.2.2.1 st t
def rmD (d : Nat) : Room := { frames := d, cells := 0, slots := 0, locals := 41 * d }
def wsY (y : Nat) : List Cond := .code (mth y).1 (mth y).2.1 (mth y).2.2.1 (mth y).2.2.2.1 :: gtbl
def MetY (l : Launch) (w : mW) (d y : Nat) (as : List mV) (h : mH) (post : mP) : Prop := Met l (mth y).1 (wsY y) (rmD d) (va_Pc (as.map (tv w.1)) (mPre w h)) (mQ w post) 0 0 w.2.2.2.2.1
theorem mPre_blind (w : mW) (h : mH) (av : List Value) : FrameBlind (va_Pc av (mPre w h)) := by
  intro a U g mk hp
  obtain ⟨e, h1, h2, h3, h4, h5⟩ := hp
  exact ⟨e, h1, va_K.moved (u := U) (U := U.calling g mk a) (Vm.Alike.refl U.vm) h2, h3, h4, h5.same rfl rfl⟩
/-! ===== what the links of a class must be ===== -/
def clsOk (ci : Nat) : Prop := ∃ (C : String) (T : u_T) (N : Nat) (ty : Nat → FieldType), vwCl[ci]? = some (C, T, N) ∧ (∀ w ∈ u_ws C T N, w ∈ gtbl) ∧ (∀ k, k < N → parseFieldDescriptor (T k).2.2.1 = some (ty k)) ∧ (∀ a, a < N → ∀ b, b < N → a ≠ b → (T a).2.1 ≠ (T b).2.1)
/-- fld: get k; put of a boolean k + 1000, of an int k + 2000 -/
def fldOk (own : String) (i ci k : Nat) : Prop := ∃ (C : String) (T : u_T) (N : Nat), vwCl[ci]? = some (C, T, N) ∧ (k % 1000) < N ∧ Cond.fieldLink own i (T (k % 1000)).1 (T (k % 1000)).2.1 (T (k % 1000)).2.2.1 ∈ gtbl ∧
  (k / 1000 = 1 → (T (k % 1000)).2.2.2 = false ∧ parseFieldDescriptor (T (k % 1000)).2.2.1 = some .boolean) ∧ (k / 1000 = 2 → (T (k % 1000)).2.2.2 = false ∧ parseFieldDescriptor (T (k % 1000)).2.2.1 = some .int)
def metOk (y : Nat) : Prop := Cond.code (mth y).1 (mth y).2.1 (mth y).2.2.1 (mth y).2.2.2.1 ∈ gtbl ∧ Cond.initialized (mth y).1.cls ∈ gtbl ∧ ((mth y).1.cls ≠ "java/lang/invoke/MethodHandle" ∧ (mth y).1.cls ≠ "java/lang/invoke/VarHandle") ∧ (mth y).2.2.1 ≤ 22 ∧ plainName (mth y).1.cls = true ∧ (mth y).1.cls = (mth y).2.2.2.2.1
def lnkOk (own : String) (i kd y n : Nat) : Prop := match kd with
  | 0 => y < 195 ∧ 1 ≤ n ∧ (parseMethodDescriptor (mth y).1.desc).map (fun d => d.parameters.length) = some (n - 1) ∧ Cond.methodLink own i (mth y).1 ∈ gtbl ∧ Cond.instanceMethod (mth y).1 ∈ gtbl ∧ Cond.selects (mth y).1.cls (mth y).1 (mth y).1 ∈ gtbl ∧ ∃ (k : Nat) (T : u_T) (N : Nat), (mth y).2.2.2.2.2.1 = some k ∧ vwCl[k]? = some ((mth y).1.cls, T, N)
  | 1 => y < 195 ∧ (parseMethodDescriptor (mth y).1.desc).map (fun d => d.parameters.length) = some n ∧ Cond.methodLink own i (mth y).1 ∈ gtbl ∧ Cond.static (mth y).1 ∈ gtbl
  | 2 => y < 195 ∧ (parseMethodDescriptor (mth y).1.desc).map (fun d => d.parameters.length) = some n ∧ Cond.methodLinkNest own i (mth y).1 "TornLayers" ∈ xNest ∧ Cond.static (mth y).1 ∈ gtbl
  | _ => own = "TornLayers$Tape" ∧ i = 44 ∧ y = 900 ∧ n = 2
def lkG (own : String) (lk : mLk) : Prop := (∀ i ci k, (i, ci, k) ∈ lk.1 → fldOk own i ci k) ∧ (∀ i kd y n, (i, kd, y, n) ∈ lk.2.1 → lnkOk own i kd y n) ∧ (∀ j v, (j, v) ∈ lk.2.2.1 → Cond.constant own j (Int32.ofNat v) ∈ gtbl) ∧ (∀ j v, (j, v) ∈ lk.2.2.2.1 → Cond.constantLong own j (Int64.ofNat v) ∈ gtbl) ∧
  (∀ i ∈ lk.2.2.2.2, Cond.methodLink own i arraycopyName ∈ gtbl ∧ Cond.native arraycopyName ∈ gtbl ∧ Cond.static arraycopyName ∈ gtbl ∧ Cond.initialized "java/lang/System" ∈ gtbl)
/-- all of it: the method's own, its links, all methods, the room for calls as deep as d -/
def Cx (p : Program) (R : Room) (s : State) (m : MethodId) (args : Array Value) (c : Code) (cc : ByteArray) (nL : Nat) (own : String) (lk : mLk) (w : mW) (d : Nat) : Prop :=
  CallFix p m c cc nL s args gtbl own ∧ va_K w.2.2.1 vwCl [(w.2.2.2.1, .int)] s ∧ Ext w s s.heap ∧ lkG own lk ∧ (∀ ci, ci < 5 → clsOk ci) ∧ (∀ y, y < 195 → metOk y) ∧ d + 1 ≤ R.frames ∧ 41 * (d + 1) ≤ R.locals
/-- what a call of M is worth -/
def MSound (l : Launch) (w : mW) (d : Nat) (M : mK) : Prop := ∀ (y : Nat) (as : List mV) (h : mH) (post : mP), M y as h post → y < 195 → MetY l w d y as h post ∧ rcv (mth y).2.2.2.2.2.1 as
theorem good_ws {y : Nat} (h : metOk y) : GoodIn gtbl (wsY y) := by
  intro w hw
  rcases List.mem_cons.mp hw with rfl | hw
  · exact ⟨h.1, Or.inl rfl⟩
  · exact ⟨hw, gtbl_good hw⟩
theorem good_app {a b : List Cond} (ha : ∀ w ∈ a, w ∈ gtbl) (hb : GoodIn gtbl b) : GoodIn gtbl (a ++ b) := by
  intro w hw
  rcases List.mem_append.mp hw with h | h
  · exact ⟨ha w h, gtbl_good (ha w h)⟩
  · exact hb w h
theorem cat_le (v : Value) : v.category ≤ 2 := by cases v <;> simp [Value.category]
theorem cat_sum {ad : mRef → Nat} : ∀ (st : List mV), ((st.map (tv ad)).map fun v => v.category).sum ≤ 2 * st.length
  | [] => Nat.le_refl _
  | v :: st => by
    have h1 := cat_sum (ad := ad) st
    have h2 := cat_le (tv ad v)
    simp only [List.map_cons, List.sum_cons, List.length_cons]
    omega
section CG
variable {p : Program} {l : Launch} {e : Env} {R : Room} {s : State} {m : MethodId} {args : Array Value} {below : List Frame} {meth : Method} {c : Code} {H : Heap} {locs : List Loc} {cells slots : Nat} {Q : State → Prop} {pc : Nat} {ls : Array Slot} {rest st0 : List Value} {a : Array Value} {w : mW} {post : mP}
theorem call_g (hr : va_Run p l e R s m args below meth c H locs cells slots 0 0 (F0 m pc ls st0) rest (mQ w post a) w.2.2.2.2.1) (hS : va_S w.2.2.2.2.1 s.heap H locs)
    (kk : ∀ (v : Option mV) (h' : mH) (H1 : Heap) (locs1 : List Loc), post v h' → Rl w s h' H1 locs1 → W p l e R s m args below meth c H1 locs1 cells slots Q (F0 m (pc + 3) ls ((v.map (tv w.1)).toList ++ rest))) : W p l e R s m args below meth c H locs cells slots Q (F0 m pc ls st0) := by
  intro T hT X
  obtain ⟨v, st₀, t, T', L, h0, X', hL, e1, e2, ⟨⟨v', h', hv, hp, hP, hD, hs⟩, hz, hk⟩, st⟩ := hr T hT X
  cases hv
  rw [h0] at hz hk
  have hS1 : va_S w.2.2.2.2.1 s.heap T'.heap (locs ++ L) := ⟨Nat.le_trans hS.1 (by rw [e1]; exact hz), fun q h1 h2 => by rw [e1, hk q (Nat.lt_of_lt_of_le h1 hS.1) h2]; exact hS.2.1 q h1 h2, fun q hq => by
      rcases List.mem_append.mp hq with h | h
      · exact hS.2.2 q h
      · exact hL q h⟩
  obtain ⟨t2, a1, b1⟩ := kk v' h' T'.heap (locs ++ L) hp ⟨by rw [e1]; exact hP, hD, hS1, hs⟩ T' rfl X'
  exact ⟨t2, st t2 a1, b1⟩
end CG
end
section
/-! ===== each instruction that meets the heap ===== -/
theorem obj_len (r : mRef) : (obj r).2.length ≤ 18 := by
  unfold obj
  split <;> simp
theorem arr_cases {sL : Nat} {r : mRef} {n : Nat} (h : arr sL r = some n) : arw r = some n ∨ (r = .inr 20 ∧ n = 7) ∨ (r = .inr 22 ∧ n = sL) := by
  unfold arr at h
  split at h <;> first | exact Or.inl h | (cases h; exact Or.inr (Or.inl ⟨rfl, rfl⟩)) | (cases h; exact Or.inr (Or.inr ⟨rfl, rfl⟩)) | cases h
theorem arw_sm {r : mRef} {n : Nat} (h : arw r = some n) : r ≠ .inr 20 ∧ r ≠ .inr 22 := by
  refine ⟨fun e => ?_, fun e => ?_⟩ <;> (subst e; cases h)
theorem Sm.hup {w : mW} {h : mH} (hs : Sm w h) {r : mRef} (h1 : r ≠ .inr 20) (h2 : r ≠ .inr 22) (k : Nat) (v : Int32) : Sm w (hup h r k v) := by
  refine ⟨?_, ?_⟩
  · rw [← hs.1]; funext k'; exact hup_other (Ne.symm h1) k'
  · rw [← hs.2]; funext k'; exact hup_other (Ne.symm h2) k'
theorem Sm.hcp {w : mW} {h : mH} (hs : Sm w h) {a d : mRef} (h1 : d ≠ .inr 20) (h2 : d ≠ .inr 22) (sp dp n : Nat) : Sm w (hcp h a sp d dp n) := by
  refine ⟨?_, ?_⟩
  · rw [← hs.1]; funext k'; simp [_root_.Jvm.Pilot.CTornLayersLaw_law_r3866_5c6994.hcp, Ne.symm h1]
  · rw [← hs.2]; funext k'; simp [_root_.Jvm.Pilot.CTornLayersLaw_law_r3866_5c6994.hcp, Ne.symm h2]
theorem swt_in {x : Int32} {L : Nat → Prop} {D : Prop} : ∀ (ts : List Nat) (lo : Int) (j : Nat), swt x L D lo ts → j < ts.length → (∀ i : Nat, i < j → ¬ x = Int32.ofInt (lo + i)) → x = Int32.ofInt (lo + j) → ∃ k, ts[j]? = some k ∧ L k
  | [], _, _, _, hj, _, _ => absurd hj (Nat.not_lt_zero _)
  | k :: ts, lo, 0, h, _, _, e => ⟨k, rfl, h.1 (by simpa using e)⟩
  | k :: ts, lo, j + 1, h, hj, hn, e => by
    have h0 : ¬ x = Int32.ofInt lo := by simpa using hn 0 (by omega)
    obtain ⟨k', h1, h2⟩ := swt_in ts (lo + 1) j (h.2 h0) (by simpa using hj) (fun i hi => by
      have := hn (i + 1) (by omega)
      rwa [show lo + ((i + 1 : Nat) : Int) = lo + 1 + (i : Int) by omega] at this) (by rw [e, show lo + ((j + 1 : Nat) : Int) = lo + 1 + (j : Int) by omega])
    exact ⟨k', by simpa using h1, h2⟩
theorem swt_out {x : Int32} {L : Nat → Prop} {D : Prop} : ∀ (ts : List Nat) (lo : Int), swt x L D lo ts → (∀ i : Nat, i < ts.length → ¬ x = Int32.ofInt (lo + i)) → D
  | [], _, h, _ => h
  | k :: ts, lo, h, hn => swt_out ts (lo + 1) (h.2 (by simpa using hn 0 (by simp))) (fun i hi => by
      have := hn (i + 1) (by simpa using hi)
      rwa [show lo + ((i + 1 : Nat) : Int) = lo + 1 + (i : Int) by omega] at this)
theorem okTs_at {code : List mB} {pc : Nat} : ∀ (os : List Int) (ks : List Nat), okTs code pc os ks = true → os.length = ks.length ∧ ∀ (j k : Nat), ks[j]? = some k → ∃ o, os[j]? = some o ∧ okT code pc o k = true
  | [], [], _ => ⟨rfl, fun j k h => by simp at h⟩
  | [], _ :: _, h => by cases h
  | _ :: _, [], h => by cases h
  | o :: os, k :: ks, h => by
    simp only [okTs, Bool.and_eq_true] at h
    obtain ⟨h1, h2⟩ := okTs_at os ks h.2
    refine ⟨by simp [h1], fun j k' hk => ?_⟩
    cases j with
    | zero => simp at hk; subst hk; exact ⟨o, rfl, h.1⟩
    | succ j => simp at hk; obtain ⟨o', h3, h4⟩ := h2 j k' hk; exact ⟨o', by simpa using h3, h4⟩
theorem okT_spc {code : List mB} {pc : Nat} {o : Int} {k : Nat} (h : okT code pc o k = true) : ∃ q, spc code k = some q ∧ (pc : Int) + o = (q : Int) := by
  unfold okT at h
  split at h
  · rename_i q e; exact ⟨q, e, of_decide_eq_true h⟩
  · cases h
section SN
variable {p : Program} {l : Launch} {e : Env} {R : Room} {s : State} {m : MethodId} {args : Array Value} {below : List Frame} {meth : Method} {c : Code} {H : Heap} {locs : List Loc} {cells slots : Nat} {Q : State → Prop} {cc : ByteArray} {pc nL d : Nat} {own : String} {lk : mLk} {w : mW} {real : Array Slot} {h : mH} {rest : List Value}
theorem sn_cls {ci k : Nat} {C : String} {T : u_T} {N : Nat} (C0 : Cx p R s m args c cc nL own lk w d) (hc : vwCl[ci]? = some (C, T, N)) : (∀ w ∈ u_ws C T N, w ∈ gtbl) ∧ ∃ ty : Nat → FieldType, (∀ k, k < N → parseFieldDescriptor (T k).2.2.1 = some (ty k)) ∧ (∀ a, a < N → ∀ b, b < N → a ≠ b → (T a).2.1 ≠ (T b).2.1) := by
  obtain ⟨C', T', N', ty, h1, h2, h3, h4⟩ := C0.2.2.2.2.1 ci (List.getElem?_eq_some_iff.mp hc).1
  cases hc.symm.trans h1
  exact ⟨h2, ty, h3, h4⟩
theorem sn_get {i ci k : Nat} {r : mRef} {o : Option mRef} (C0 : Cx p R s m args c cc nL own lk w d) (hR : Rl w s h H locs) (hok : (i, ci, k) ∈ lk.1) (hr : (obj r).1 = ci) (ho : (obj r).2[k]? = some o) (hd : decode cc pc = .ok (.getfield i, 3))
    (kk : W p l e R s m args below meth c H locs cells slots Q (F0 m (pc + 3) real (fov w.1 h r k o :: rest))) : W p l e R s m args below meth c H locs cells slots Q (F0 m pc real (.ref (w.1 r) :: rest)) := by
  have hk : k < 1000 := by have := (List.getElem?_eq_some_iff.mp ho).1; have := obj_len r; omega
  obtain ⟨C, T, N, hc, h1, h2, -⟩ := C0.2.2.2.1.1 i ci k hok
  rw [Nat.mod_eq_of_lt hk] at h1 h2
  obtain ⟨⟨hx, hb, hml, hown, hts⟩, hK, -⟩ := id C0
  have hne : (obj r).1 ≠ 99 := by
    have := (List.getElem?_eq_some_iff.mp hc).1
    simp [vwCl] at this
    omega
  exact va_get (D := w.2.2.1) (cl := vwCl) (ws := wl w.1 w.2.2.2.1 h) (ci := ci) (C := C) (T := T) (N := N) hx hb hts (sn_cls (k := 0) C0 hc).1 hown hK hR.1 (mpos r) (by rw [wl_obj hne, hr]) hc k h1 (hts _ h2) (fun _ h9 => h9) (fvs_at ho) hd kk
theorem sn_put {i ci k kx : Nat} {r : mRef} {v : Int32} {ty : FieldType} (C0 : Cx p R s m args c cc nL own lk w d) (hR : Rl w s h H locs) (hok : (i, ci, kx) ∈ lk.1) (hkx : kx = k + 1000 ∧ ty = .boolean ∨ kx = k + 2000 ∧ ty = .int) (hn : narrow ty (.int v) = .int v) (hf : fits ty (.int v) = true) (hr : (obj r).1 = ci) (ho : (obj r).2[k]? = some none) (hd : decode cc pc = .ok (.putfield i, 3))
    (kk : ∀ (H1 : Heap) (locs1 : List Loc), Rl w s (hup h r k v) H1 locs1 → W p l e R s m args below meth c H1 locs1 cells slots Q (F0 m (pc + 3) real rest)) : W p l e R s m args below meth c H locs cells slots Q (F0 m pc real (.int v :: .ref (w.1 r) :: rest)) := by
  have hk0 : k < (obj r).2.length := (List.getElem?_eq_some_iff.mp ho).1
  have hk : k < 1000 := by have := obj_len r; omega
  obtain ⟨C, T, N, hc, h1, h2, h3, h4⟩ := C0.2.2.2.1.1 i ci kx hok
  have hm : kx % 1000 = k := by rcases hkx with ⟨e, -⟩ | ⟨e, -⟩ <;> omega
  rw [hm] at h1 h2 h3 h4
  have h5 : (T k).2.2.2 = false ∧ parseFieldDescriptor (T k).2.2.1 = some ty := by
    rcases hkx with ⟨e, e2⟩ | ⟨e, e2⟩
    · rw [e2]; exact h3 (by omega)
    · rw [e2]; exact h4 (by omega)
  obtain ⟨⟨hx, hb, hml, hown, hts⟩, hK, -⟩ := id C0
  have hne : (obj r).1 ≠ 99 := by
    have := (List.getElem?_eq_some_iff.mp hc).1
    simp [vwCl] at this
    omega
  obtain ⟨hin, ty0, hty, hnm⟩ := sn_cls (k := 0) C0 hc
  refine va_put (D := w.2.2.1) (cl := vwCl) (ws := wl w.1 w.2.2.2.1 h) (ci := ci) (C := C) (T := T) (N := N) hx hb hts hin ty0 hty hnm hown hK hR.1 hR.2.1 hR.2.2.1 (mpos r) (fs := fvs w.1 h r) (by rw [wl_obj hne, hr]) hc k h1 (hts _ h2) (fun _ h9 => h9) h5.1 h5.2 hn hf (by rw [fvs_len]; exact hk0) hd (fun H1 locs1 hP hD hS => kk H1 locs1 ?_)
  rw [← hr, ← wl_hupO hne ho] at hP hD
  refine ⟨hP, hD, hS, hR.2.2.2.hup ?_ ?_ k v⟩ <;> (intro e9; subst e9; exact hne rfl)
theorem sn_ald {j : Int32} {r : mRef} {n : Nat} (C0 : Cx p R s m args c cc nL own lk w d) (hR : Rl w s h H locs) (hr : arr w.2.2.2.2.2.1 r = some n) (hj : vp_in j n) (hd : decode cc pc = .ok (.iaload, 1))
    (kk : W p l e R s m args below meth c H locs cells slots Q (F0 m (pc + 1) real (.int (h r j.toNatClampNeg) :: rest))) : W p l e R s m args below meth c H locs cells slots Q (F0 m pc real (.int j :: .ref (w.1 r) :: rest)) := by
  obtain ⟨⟨hx, hb, hml, hown, hts⟩, hK, hE, -⟩ := id C0
  rcases arr_cases hr with h1 | ⟨rfl, rfl⟩ | ⟨rfl, rfl⟩
  · exact va_iald (D := w.2.2.1) (cl := vwCl) (ws := wl w.1 w.2.2.2.1 h) hx hb hK hR.1 (mpos r) 0 (wl_arr h1) rfl hj hd kk
  · rw [hR.2.2.2.1] at kk
    exact va_ti hx hb hE.2.1 hR.2.2.1 hj rfl hd kk
  · rw [hR.2.2.2.2] at kk
    exact va_sld hx hb hE.2.2.2.2.2.1 hE.2.2.2.2.2.2.1 hE.2.2.2.2.2.2.2.1 hR.2.2.1 hj hd kk
theorem sn_len {r : mRef} {n : Nat} (C0 : Cx p R s m args c cc nL own lk w d) (hR : Rl w s h H locs) (hr : arr w.2.2.2.2.2.1 r = some n) (hd : decode cc pc = .ok (.arraylength, 1))
    (kk : W p l e R s m args below meth c H locs cells slots Q (F0 m (pc + 1) real (.int (nI n) :: rest))) : W p l e R s m args below meth c H locs cells slots Q (F0 m pc real (.ref (w.1 r) :: rest)) := by
  obtain ⟨⟨hx, hb, hml, hown, hts⟩, hK, hE, -⟩ := id C0
  rcases arr_cases hr with h1 | ⟨rfl, rfl⟩ | ⟨rfl, rfl⟩
  · exact va_alen (D := w.2.2.1) (cl := vwCl) (ws := wl w.1 w.2.2.2.1 h) hx hb hK hR.1 (mpos r) 0 (wl_arr h1) rfl rfl hd kk
  · exact va_tlen hx hb hE.2.1 hR.2.2.1 rfl hd kk
  · exact va_slen hx hb hE.2.2.2.2.2.1 hE.2.2.2.2.2.2.1 hE.2.2.2.2.2.2.2.1 hR.2.2.1 hd kk
theorem sn_ast {j v : Int32} {r : mRef} {n : Nat} (C0 : Cx p R s m args c cc nL own lk w d) (hR : Rl w s h H locs) (hr : arw r = some n) (hj : vp_in j n) (hd : decode cc pc = .ok (.iastore, 1))
    (kk : ∀ (H1 : Heap) (locs1 : List Loc), Rl w s (hup h r j.toNatClampNeg v) H1 locs1 → W p l e R s m args below meth c H1 locs1 cells slots Q (F0 m (pc + 1) real rest)) : W p l e R s m args below meth c H locs cells slots Q (F0 m pc real (.int v :: .int j :: .ref (w.1 r) :: rest)) := by
  obtain ⟨⟨hx, hb, hml, hown, hts⟩, hK, hE, -⟩ := id C0
  refine va_iast (D := w.2.2.1) (cl := vwCl) (ws := wl w.1 w.2.2.2.1 h) hx hb hK hR.1 hR.2.1 hR.2.2.1 (mpos r) 0 (wl_arr hr) rfl hj hd (fun H1 locs1 hP hD hS => kk H1 locs1 ?_)
  rw [← wl_hupA hr] at hP hD
  exact ⟨hP, hD, hS, hR.2.2.2.hup (arw_sm hr).1 (arw_sm hr).2 _ _⟩
theorem sn_copy {i : Nat} {a t : mRef} {na nd : Nat} {sp dp n : Int32} (C0 : Cx p R s m args c cc nL own lk w d) (hR : Rl w s h H locs) (hsz : real.size = nL) (hok : i ∈ lk.2.2.2.2) (ha : arw a = some na) (ht : arw t = some nd) (h1 : 0 ≤ sp) (h2 : 0 ≤ dp) (h3 : 0 ≤ n) (h4 : sp.toNatClampNeg + n.toNatClampNeg ≤ na) (h5 : dp.toNatClampNeg + n.toNatClampNeg ≤ nd) (hrest : (rest.map fun v => v.category).sum ≤ 8) (hd : decode cc pc = .ok (.invokestatic i, 3))
    (kk : ∀ (H1 : Heap) (locs1 : List Loc), Rl w s (hcp h a sp.toNatClampNeg t dp.toNatClampNeg n.toNatClampNeg) H1 locs1 → W p l e R s m args below meth c H1 locs1 cells slots Q (F0 m (pc + 3) real rest)) : W p l e R s m args below meth c H locs cells slots Q (F0 m pc real (.int n :: .int dp :: .ref (w.1 t) :: .int sp :: .ref (w.1 a) :: rest)) := by
  obtain ⟨⟨hx, hb, hml, hown, hts⟩, hK, hE, hG, -, -, hf1, hf2⟩ := id C0
  obtain ⟨g1, g2, g3, g4⟩ := hG.2.2.2.2 i hok
  refine va_copyi (D := w.2.2.1) (cl := vwCl) (ws := wl w.1 w.2.2.2.1 h) (ty := .int) hx hb (hml.trans hsz.symm) hown (hts _ g1) (hts _ g2) (hts _ g3) (hts _ g4) hK hR.1 hR.2.1 hR.2.2.1 (mpos a) (mpos t) 0 0 (wl_arr ha) (wl_arr ht) rfl rfl rfl (Int32.not_lt.mpr h1) (Int32.not_lt.mpr h2) (Int32.not_lt.mpr h3) h4 h5 (fun _ _ => rfl) (by omega) (by simp only [nativeFrameWords]; simp; omega) hd (fun H1 locs1 hP hD hS => kk H1 locs1 ?_)
  rw [← wl_hcp ht] at hP hD
  exact ⟨hP, hD, hS, hR.2.2.2.hcp (arw_sm ht).1 (arw_sm ht).2 _ _ _⟩
end SN
end
section
/-! ===== calls ===== -/
def wsX : List Cond := .code yJ0_indexOf_0f7a4 cJ0_indexOf_0f7a4 2 (some .int) :: gtbl
/-- the one call of a text's method -/
def XSound (l : Launch) (w : mW) (d : Nat) (M : mK) : Prop := ∀ (as : List mV) (h : mH) (post : mP), M 900 as h post → Met l yJ0_indexOf_0f7a4 wsX (rmD d) (va_Pc (as.map (tv w.1)) (mPre w h)) (mQ w post) 0 0 w.2.2.2.2.1 ∧ ∃ x, as = [.inr (.inr (.inr 21)), .inl x]
def xOk : Prop := (∀ w ∈ wsX, w ∈ gtbl) ∧ Cond.methodLink RX1 44 yJ0_indexOf_0f7a4 ∈ gtbl ∧ Cond.instanceMethod yJ0_indexOf_0f7a4 ∈ gtbl ∧ Cond.selects "java/lang/String" yJ0_indexOf_0f7a4 yJ0_indexOf_0f7a4 ∈ gtbl ∧ Cond.initialized "java/lang/String" ∈ gtbl
section CL
variable {p : Program} {l : Launch} {e : Env} {R : Room} {s : State} {m : MethodId} {args : Array Value} {below : List Frame} {meth : Method} {c : Code} {H : Heap} {locs : List Loc} {cells slots : Nat} {Q : State → Prop} {cc : ByteArray} {pc nL d : Nat} {own : String} {lk : mLk} {w : mW} {real : Array Slot} {h : mH} {rest : List Value} {post : mP} {M : mK}
theorem sn_pre {as : List mV} {locs : List Loc} (C0 : Cx p R s m args c cc nL own lk w d) (hR : Rl w s h H locs) (U : State) (hU : U.heap = H) (hW : s.WarmedH U.vm) : va_Pc (as.map (tv w.1)) (mPre w h) (as.map (tv w.1)).toArray U :=
  ⟨rfl, by rw [hU]; exact hR.1, va_K.moved hW.alike C0.2.1, hR.2.1, hR.2.2.2, C0.2.2.1.to hR.2.2.1 hU hW⟩
theorem sn_runV {i y n : Nat} {as : List mV} (C0 : Cx p R s m args c cc nL own lk w d) (hM : MetY l w d y as h post) (hrc : rcv (mth y).2.2.2.2.2.1 as) (hlk : lnkOk own i 0 y n) (hn : as.length = n) (hR : Rl w s h H locs) (hsz : real.size = nL) (hf : cells ≤ R.cells ∧ slots ≤ R.slots) (hrest : (rest.map fun v => v.category).sum ≤ 8) (hd : decode cc pc = .ok (.invokevirtual i, 3)) :
    va_Run p l e R s m args below meth c H locs cells slots 0 0 (F0 m pc real ((as.reverse.map (tv w.1)) ++ rest)) rest (mQ w post (as.map (tv w.1)).toArray) w.2.2.2.2.1 := by
  obtain ⟨hy, h1, hds, g1, g2, g3, k, T, N, hk, hcl⟩ := hlk
  have hmo := C0.2.2.2.2.2.1 y hy
  rw [hk] at hrc
  have hpre := fun U hU hW => sn_pre (as := as) C0 hR U hU hW
  obtain ⟨⟨hx, hb, hml, hown, hts⟩, hK, hE, hG, -, -, hf1, hf2⟩ := id C0
  match as, hrc, hM, hn, hpre with
  | .inr (.inr r) :: As, hrc, hM, hn, hpre =>
    have hrc : (obj r).1 = k := hrc
    have hne : (obj r).1 ≠ 99 := by
      have := (List.getElem?_eq_some_iff.mp hcl).1
      simp [vwCl] at this
      omega
    have e1 : ((Sum.inr (Sum.inr r) :: As : List mV).reverse.map (tv w.1)) ++ rest = (As.map (tv w.1)).reverse ++ Value.ref (w.1 r) :: rest := by
      simp [tv]
    rw [e1]
    refine va_runV (C := (mth y).1.cls) (bytes := (mth y).2.1) (maxL := (mth y).2.2.1) (ret := (mth y).2.2.2.1) (n := n - 1) (index := i) (b := w.1 r) (As := As.map (tv w.1)) ⟨hx, hb, hml, hown, hts⟩ hM (cwV (ws' := gtbl) (n - 1) hts (good_app (a := [.methodLink own i (mth y).1, .instanceMethod (mth y).1, .selects (mth y).1.cls (mth y).1 (mth y).1, .initialized (mth y).1.cls]) ?_ (good_ws hmo)) rfl rfl rfl ⟨rfl, hmo.2.2.1.1, hmo.2.2.1.2, hds⟩ ⟨?_, ?_⟩) ⟨mPre_blind w h _, va_recv hK hR.1 hcl (by rw [wl_obj hne, hrc]), hpre⟩ rfl ?_ hsz rfl ?_ hd ⟨hf.1, hf.2⟩
    · intro q hq
      simp only [List.mem_cons, List.not_mem_nil, or_false] at hq
      rcases hq with rfl | rfl | rfl | rfl
      · exact g1
      · exact g2
      · exact g3
      · exact hmo.2.1
    · show d + 1 ≤ R.frames; exact hf1
    · have := hmo.2.2.2.1
      show 8 + ((mth y).2.2.1 + 11) + 41 * d ≤ R.locals
      omega
    · simp only [List.length_cons] at hn
      simp; omega
    · show 2 * 0 + _ ≤ 8; omega
theorem sn_runS {i y n : Nat} {as : List mV} (C0 : Cx p R s m args c cc nL own lk w d) (hM : MetY l w d y as h post) (hlk : lnkOk own i 1 y n) (hn : as.length = n) (hR : Rl w s h H locs) (hsz : real.size = nL) (hf : cells ≤ R.cells ∧ slots ≤ R.slots) (hrest : (rest.map fun v => v.category).sum ≤ 8) (hd : decode cc pc = .ok (.invokestatic i, 3)) :
    va_Run p l e R s m args below meth c H locs cells slots 0 0 (F0 m pc real ((as.reverse.map (tv w.1)) ++ rest)) rest (mQ w post (as.map (tv w.1)).toArray) w.2.2.2.2.1 := by
  obtain ⟨hy, hds, g1, g2⟩ := hlk
  have hmo := C0.2.2.2.2.2.1 y hy
  have hpre := fun U hU hW => sn_pre (as := as) C0 hR U hU hW
  obtain ⟨⟨hx, hb, hml, hown, hts⟩, hK, hE, hG, -, -, hf1, hf2⟩ := id C0
  refine va_runS (bytes := (mth y).2.1) (maxL := (mth y).2.2.1) (ret := (mth y).2.2.2.1) (n := n) (index := i) (As := as.map (tv w.1)) ⟨hx, hb, hml, hown, hts⟩ hM (va_cwS (ws' := gtbl) n hts (good_app (a := [.methodLink own i (mth y).1, .static (mth y).1, .initialized (mth y).1.cls]) ?_ (good_ws hmo)) rfl rfl rfl ⟨hmo.2.2.1.1, hmo.2.2.1.2, hds⟩ ⟨?_, ?_⟩) ⟨mPre_blind w h _, hpre⟩ rfl ?_ hsz ?_ ?_ hd ⟨hf.1, hf.2⟩
  · intro q hq
    simp only [List.mem_cons, List.not_mem_nil, or_false] at hq
    rcases hq with rfl | rfl | rfl
    · exact g1
    · exact g2
    · exact hmo.2.1
  · show d + 1 ≤ R.frames; exact hf1
  · have := hmo.2.2.2.1
    show 8 + ((mth y).2.2.1 + 11) + 41 * d ≤ R.locals
    omega
  · simp [hn]
  · simp
  · show 2 * 0 + _ ≤ 8; omega
theorem sn_runN {i y n : Nat} {as : List mV} (C0 : Cx p R s m args c cc nL own lk w d) (hM : MetY l w d y as h post) (hlk : lnkOk own i 2 y n) (hn : as.length = n) (hR : Rl w s h H locs) (hsz : real.size = nL) (hf : cells ≤ R.cells ∧ slots ≤ R.slots) (hrest : (rest.map fun v => v.category).sum ≤ 8) (hd : decode cc pc = .ok (.invokestatic i, 3)) :
    va_Run p l e R s m args below meth c H locs cells slots 0 0 (F0 m pc real ((as.reverse.map (tv w.1)) ++ rest)) rest (mQ w post (as.map (tv w.1)).toArray) w.2.2.2.2.1 := by
  obtain ⟨hy, hds, g1, g2⟩ := hlk
  have hmo := C0.2.2.2.2.2.1 y hy
  have hpre := fun U hU hW => sn_pre (as := as) C0 hR U hU hW
  obtain ⟨⟨hx, hb, hml, hown, hts⟩, hK, hE, hG, -, -, hf1, hf2⟩ := id C0
  refine va_runSN (bytes := (mth y).2.1) (maxL := (mth y).2.2.1) (ret := (mth y).2.2.2.1) (n := n) (index := i) (As := as.map (tv w.1)) ⟨hx, hb, hml, hown, hts⟩ hM ⟨va_cnB (ws' := gtbl) n hts (good_ws hmo) rfl rfl rfl (hE.2.2.2.2.2.2.2.2 _ g1) (hts _ hmo.2.1) ⟨hmo.2.2.1.1, hmo.2.2.1.2, hds⟩ ⟨?_, ?_⟩, hts _ g2, trivial⟩ ⟨mPre_blind w h _, hpre⟩ rfl ?_ hsz ?_ ?_ hd ⟨hf.1, hf.2⟩
  · show d + 1 ≤ R.frames; exact hf1
  · have := hmo.2.2.2.1
    show 8 + ((mth y).2.2.1 + 11) + 41 * d ≤ R.locals
    omega
  · simp [hn]
  · simp
  · show 2 * 0 + _ ≤ 8; omega
theorem sn_runX {as : List mV} (C0 : Cx p R s m args c cc nL own lk w d) (hX0 : xOk) (hM : Met l yJ0_indexOf_0f7a4 wsX (rmD d) (va_Pc (as.map (tv w.1)) (mPre w h)) (mQ w post) 0 0 w.2.2.2.2.1) (hx0 : ∃ x, as = [.inr (.inr (.inr 21)), .inl x]) (ho : own = RX1) (hR : Rl w s h H locs) (hsz : real.size = nL) (hf : cells ≤ R.cells ∧ slots ≤ R.slots) (hrest : (rest.map fun v => v.category).sum ≤ 8) (hd : decode cc pc = .ok (.invokevirtual 44, 3)) :
    va_Run p l e R s m args below meth c H locs cells slots 0 0 (F0 m pc real ((as.reverse.map (tv w.1)) ++ rest)) rest (mQ w post (as.map (tv w.1)).toArray) w.2.2.2.2.1 := by
  subst ho
  obtain ⟨x, rfl⟩ := hx0
  have hpre := fun U hU hW => sn_pre (as := [.inr (.inr (.inr 21)), .inl x]) C0 hR U hU hW
  obtain ⟨⟨hx, hb, hml, hown, hts⟩, hK, hE, hG, -, -, hf1, hf2⟩ := id C0
  obtain ⟨g0, g1, g2, g3, g4⟩ := hX0
  refine va_runV (C := "java/lang/String") (bytes := cJ0_indexOf_0f7a4) (maxL := 2) (ret := some .int) (n := 1) (index := 44) (b := w.1 (.inr 21)) (As := [.int x]) ⟨hx, hb, hml, hown, hts⟩ hM (cwV (ws' := gtbl) 1 hts (good_app (a := [.methodLink RX1 44 yJ0_indexOf_0f7a4, .instanceMethod yJ0_indexOf_0f7a4, .selects "java/lang/String" yJ0_indexOf_0f7a4 yJ0_indexOf_0f7a4, .initialized "java/lang/String"]) ?_ (fun q hq => ⟨g0 q hq, gtbl_good (g0 q hq)⟩)) rfl rfl rfl ⟨rfl, by decide +kernel, by decide +kernel, by decide +kernel⟩ ⟨?_, ?_⟩) ⟨mPre_blind w h _, vk_recv (i := 0) hE.2.2.2.1 (by decide) hR.2.2.1, hpre⟩ rfl rfl hsz rfl ?_ hd ⟨hf.1, hf.2⟩
  · intro q hq
    simp only [List.mem_cons, List.not_mem_nil, or_false] at hq
    rcases hq with rfl | rfl | rfl | rfl
    · exact g1
    · exact g2
    · exact g3
    · exact g4
  · show d + 1 ≤ R.frames; exact hf1
  · show 8 + (2 + 11) + 41 * d ≤ R.locals
    omega
  · show 2 * 0 + _ ≤ 8; omega
/-- a call, whichever -/
theorem sn_call {ins : Instr} {i kd y n : Nat} {st : List mV} (C0 : Cx p R s m args c cc nL own lk w d) (hMS : MSound l w d M) (hXS : XSound l w d M) (hX0 : xOk) (hlk : lnkOk own i kd y n) (hkd : (kd = 0 ∧ ins = .invokevirtual i) ∨ (kd = 1 ∧ ins = .invokestatic i) ∨ (kd = 2 ∧ ins = .invokestatic i) ∨ (kd = 4 ∧ ins = .invokevirtual i)) (hn : n ≤ st.length ∧ st.length ≤ n + 4) (hR : Rl w s h H locs) (hsz : real.size = nL) (hf : cells ≤ R.cells ∧ slots ≤ R.slots) (hd : decode cc pc = .ok (ins, 3))
    (hc : M y (st.take n).reverse h post)
    (kk : ∀ (v : Option mV) (h' : mH) (H1 : Heap) (locs1 : List Loc), post v h' → Rl w s h' H1 locs1 → W p l e R s m args below meth c H1 locs1 cells slots Q (F0 m (pc + 3) real ((v.toList ++ st.drop n).map (tv w.1)))) : W p l e R s m args below meth c H locs cells slots Q (F0 m pc real (st.map (tv w.1))) := by
  have hln : (st.take n).reverse.length = n := by simp; omega
  have e1 : st.map (tv w.1) = ((st.take n).reverse.reverse.map (tv w.1)) ++ (st.drop n).map (tv w.1) := by
    rw [List.reverse_reverse, ← List.map_append, List.take_append_drop]
  have hrest : (((st.drop n).map (tv w.1)).map fun v => v.category).sum ≤ 8 := by
    have := cat_sum (ad := w.1) (st.drop n)
    simp only [List.length_drop] at this
    omega
  have key : va_Run p l e R s m args below meth c H locs cells slots 0 0 (F0 m pc real (((st.take n).reverse.reverse.map (tv w.1)) ++ (st.drop n).map (tv w.1))) ((st.drop n).map (tv w.1)) (mQ w post ((st.take n).reverse.map (tv w.1)).toArray) w.2.2.2.2.1 := by
    rcases hkd with ⟨rfl, rfl⟩ | ⟨rfl, rfl⟩ | ⟨rfl, rfl⟩ | ⟨rfl, rfl⟩
    · obtain ⟨h1, h2⟩ := hMS y _ h post hc hlk.1
      exact sn_runV C0 h1 h2 hlk hln hR hsz hf hrest hd
    · exact sn_runS C0 (hMS y _ h post hc hlk.1).1 hlk hln hR hsz hf hrest hd
    · exact sn_runN C0 (hMS y _ h post hc hlk.1).1 hlk hln hR hsz hf hrest hd
    · obtain ⟨ho, rfl, rfl, rfl⟩ := hlk
      obtain ⟨h1, h2⟩ := hXS _ h post hc
      exact sn_runX C0 hX0 h1 h2 ho hR hsz hf hrest hd
  rw [e1]
  refine call_g key hR.2.2.1 (fun v h' H1 locs1 hp hR1 => ?_)
  have e2 : (v.map (tv w.1)).toList ++ (st.drop n).map (tv w.1) = (v.toList ++ st.drop n).map (tv w.1) := by
    cases v <;> simp
  rw [e2]
  exact kk v h' H1 locs1 hp hR1
end CL
end
section
/-! ===== one instruction, a block, a method: the small semantics is the machine's ===== -/
def rtOk (ret : Option FieldType) (i : Instr) (v : Option mV) : Prop :=
  (i = .ireturn ∧ ∃ x, v = some (.inl x) ∧ (ret = some .int ∨ ret = some .boolean ∧ bz x)) ∨ (i = .lreturn ∧ (∃ x, v = some (.inr (.inl x))) ∧ ret = some .long) ∨ (i = .return_ ∧ v = none ∧ ret = none)
section ON
variable {p : Program} {l : Launch} {e : Env} {R : Room} {s : State} {m : MethodId} {args : Array Value} {below : List Frame} {meth : Method} {c : Code} {cells slots : Nat} {Q : State → Prop} {cc : ByteArray} {nL d : Nat} {own : String} {lk : mLk} {w : mW} {post : mP} {M : mK} {ret : Option FieldType} {code : List mB}
/-- the machine stands at pc with this state of the small semantics -/
abbrev mWp (p : Program) (l : Launch) (e : Env) (R : Room) (s : State) (m : MethodId) (args : Array Value) (below : List Frame) (meth : Method) (c : Code) (cells slots : Nat) (Q : State → Prop) (nL : Nat) (w : mW) (pc : Nat) : mC := fun ls st h =>
  ∀ (H : Heap) (locs : List Loc) (real : Array Slot), LR w.1 nL real ls → Rl w s h H locs → W p l e R s m args below meth c H locs cells slots Q (F0 m pc real (st.map (tv w.1)))
theorem brc_cases {k : ClassFile.Cond} {x y : Int32} {A B : Prop} (h : brc k x y A B) (f : A → Q s) (g : B → Q s) : Q s := by
  cases k <;> (obtain ⟨h1, h2⟩ := h)
  · by_cases q : x = y
    · exact f (h1 q)
    · exact g (h2 q)
  · by_cases q : x = y
    · exact g (h2 q)
    · exact f (h1 q)
  · by_cases q : x < y
    · exact f (h1 q)
    · exact g (h2 q)
  · by_cases q : y ≤ x
    · exact f (h1 q)
    · exact g (h2 q)
  · by_cases q : y < x
    · exact f (h1 q)
    · exact g (h2 q)
  · by_cases q : x ≤ y
    · exact f (h1 q)
    · exact g (h2 q)
theorem sn_if {H : Heap} {locs : List Loc} {pc tgt : Nat} {real : Array Slot} {rest : List Value} {k : ClassFile.Cond} {o : Int} {x : Int32} {A B : Prop} (hx : p.tables.exec = Jvm.exec) (hb : c.code = cc) (hd : decode cc pc = .ok (.ifCond k o, 3)) (ht : (pc : Int) + o = (tgt : Int)) (h : brc k x 0 A B)
    (f : A → W p l e R s m args below meth c H locs cells slots Q (F0 m tgt real rest)) (g : B → W p l e R s m args below meth c H locs cells slots Q (F0 m (pc + 3) real rest)) : W p l e R s m args below meth c H locs cells slots Q (F0 m pc real (.int x :: rest)) := by
  cases k
  · exact lv_if_eq hx hb hd ht (fun q => f (h.1 q)) (fun q => g (h.2 q))
  · exact lv_if_ne hx hb hd ht (fun q => f (h.1 q)) (fun q => g (h.2 q))
  · exact lv_if_lt hx hb hd ht (fun q => f (h.1 q)) (fun q => g (h.2 q))
  · exact lv_if_ge hx hb hd ht (fun q => f (h.1 q)) (fun q => g (h.2 q))
  · exact lv_if_gt hx hb hd ht (fun q => f (h.1 q)) (fun q => g (h.2 q))
  · exact lv_if_le hx hb hd ht (fun q => f (h.1 q)) (fun q => g (h.2 q))
theorem sn_icmp {H : Heap} {locs : List Loc} {pc tgt : Nat} {real : Array Slot} {rest : List Value} {k : ClassFile.Cond} {o : Int} {x y : Int32} {A B : Prop} (hx : p.tables.exec = Jvm.exec) (hb : c.code = cc) (hd : decode cc pc = .ok (.if_icmp k o, 3)) (ht : (pc : Int) + o = (tgt : Int)) (h : brc k x y A B)
    (f : A → W p l e R s m args below meth c H locs cells slots Q (F0 m tgt real rest)) (g : B → W p l e R s m args below meth c H locs cells slots Q (F0 m (pc + 3) real rest)) : W p l e R s m args below meth c H locs cells slots Q (F0 m pc real (.int y :: .int x :: rest)) := by
  cases k
  · exact lv_icmp_eq hx hb hd ht (fun q => f (h.1 q)) (fun q => g (h.2 q))
  · exact lv_icmp_ne hx hb hd ht (fun q => f (h.1 q)) (fun q => g (h.2 q))
  · exact lv_icmp_lt hx hb hd ht (fun q => f (h.1 q)) (fun q => g (h.2 q))
  · exact lv_icmp_ge hx hb hd ht (fun q => f (h.1 q)) (fun q => g (h.2 q))
  · exact lv_icmp_gt hx hb hd ht (fun q => f (h.1 q)) (fun q => g (h.2 q))
  · exact lv_icmp_le hx hb hd ht (fun q => f (h.1 q)) (fun q => g (h.2 q))
theorem sn_tab {H : Heap} {locs : List Loc} {pc n : Nat} {real : Array Slot} {rest : List Value} {dd lo hi : Int} {os : Array Int} {k : Nat} {ks : List Nat} {x : Int32} {P : Nat → Prop} (hx : p.tables.exec = Jvm.exec) (hb : c.code = cc) (hd : decode cc pc = .ok (.tableswitch dd lo hi os, n))
    (h1 : okT code pc dd k = true) (h2 : okTs code pc os.toList ks = true) (h3 : hi = lo + (ks.length : Int) - 1) (h4 : -2147483648 ≤ lo) (h5 : hi ≤ 2147483647) (h : swt x P (P k) lo ks)
    (f : ∀ j q, P j → spc code j = some q → W p l e R s m args below meth c H locs cells slots Q (F0 m q real rest)) : W p l e R s m args below meth c H locs cells slots Q (F0 m pc real (.int x :: rest)) := by
  have hi0 : ∀ i : Nat, i < ks.length → (x = Int32.ofInt (lo + i) ↔ x.toInt = lo + i) := by
    intro i hi
    have e : (Int32.ofInt (lo + i)).toInt = lo + i := Int32.toInt_ofInt_of_le (by omega) (by omega)
    constructor
    · intro q; rw [q, e]
    · intro q; rw [← q, Int32.ofInt_toInt]
  by_cases hin : lo ≤ x.toInt ∧ x.toInt ≤ hi
  · obtain ⟨j, hj⟩ : ∃ j : Nat, x.toInt = lo + j := ⟨(x.toInt - lo).toNat, by omega⟩
    have hjl : j < ks.length := by omega
    obtain ⟨kj, e1, hP⟩ := swt_in ks lo j h hjl (fun i hi q => by have := (hi0 i (by omega)).mp q; omega) ((hi0 j hjl).mpr hj)
    obtain ⟨o, e2, e3⟩ := (okTs_at _ _ h2).2 j kj e1
    obtain ⟨q, e4, e5⟩ := okT_spc e3
    refine lv_tableIn hx hb hd (by omega) (by omega) (off := o) ?_ e5 (f kj q hP e4)
    rw [show (x.toInt - lo).toNat = j by omega]
    rw [← Array.getElem?_toList]
    exact e2
  · obtain ⟨q, e4, e5⟩ := okT_spc h1
    refine lv_tableOut hx hb hd (by omega) e5 (f k q (swt_out ks lo h (fun i hi z => ?_)) e4)
    have := (hi0 i hi).mp z
    omega
theorem okX_v {i n y k rk pc kd : Nat} (h : okX lk own nL ret code (pc, .invokevirtual i, n, [kd, y, k, rk]) = true) : (kd = 0 ∨ kd = 4) ∧ (i, kd, y, k) ∈ lk.2.1 := by
  match kd, h with
  | 0, h => exact ⟨Or.inl rfl, of_decide_eq_true h⟩
  | 1, h => cases h
  | 2, h => cases h
  | 3, h => cases h
  | 4, h => exact ⟨Or.inr rfl, of_decide_eq_true h⟩
  | k + 5, h => cases h
theorem okX_s {i n y k rk pc kd : Nat} (h : okX lk own nL ret code (pc, .invokestatic i, n, [kd, y, k, rk]) = true) : (kd = 1 ∨ kd = 2) ∧ (i, kd, y, k) ∈ lk.2.1 := by
  match kd, h with
  | 0, h => cases h
  | 1, h => exact ⟨Or.inl rfl, of_decide_eq_true h⟩
  | 2, h => exact ⟨Or.inr rfl, of_decide_eq_true h⟩
  | 3, h => cases h
  | 4, h => cases h
  | 5, h => cases h
  | 6, h => cases h
  | 7, h => cases h
  | 8, h => cases h
  | 9, h => cases h
  | k + 10, h => cases h
/-- what comes behind a call -/
theorem sn_cal {ins : Instr} {H : Heap} {locs : List Loc} {pc i : Nat} {t : List Nat} {nx : mC} {ls : mL} {st : List mV} {h : mH} {real : Array Slot} (C0 : Cx p R s m args c cc nL own lk w d) (hMS : MSound l w d M) (hXS : XSound l w d M) (hX0 : xOk) (hf : cells ≤ R.cells ∧ slots ≤ R.slots) (hi : ins = .invokevirtual i ∨ ins = .invokestatic i)
    (hd : decode cc pc = .ok (ins, 3)) (hok : okX lk own nL ret code (pc, ins, 3, t) = true) (hl : LR w.1 nL real ls) (hR : Rl w s h H locs)
    (hnx : ∀ (ls : mL) (st : List mV) (h : mH), nx ls st h → mWp p l e R s m args below meth c cells slots Q nL w (pc + 3) ls st h)
    (H0 : cal M t nx ls st h) : W p l e R s m args below meth c H locs cells slots Q (F0 m pc real (st.map (tv w.1))) := by
  have hG := C0.2.2.2.1
  have key : ∀ (kd y k rk : Nat), t = [kd, y, k, rk] → lnkOk own i kd y k ∧ ((kd = 0 ∧ ins = .invokevirtual i) ∨ (kd = 1 ∧ ins = .invokestatic i) ∨ (kd = 2 ∧ ins = .invokestatic i) ∨ (kd = 4 ∧ ins = .invokevirtual i)) := by
    intro kd y k rk ht
    subst ht
    rcases hi with rfl | rfl
    · obtain ⟨h1, h2⟩ := okX_v hok
      exact ⟨hG.2.1 _ _ _ _ h2, h1.elim (fun q => Or.inl ⟨q, rfl⟩) (fun q => Or.inr (Or.inr (Or.inr ⟨q, rfl⟩)))⟩
    · obtain ⟨h1, h2⟩ := okX_s hok
      exact ⟨hG.2.1 _ _ _ _ h2, h1.elim (fun q => Or.inr (Or.inl ⟨q, rfl⟩)) (fun q => Or.inr (Or.inr (Or.inl ⟨q, rfl⟩)))⟩
  unfold cal at H0
  split at H0
  · rename_i kd y k
    obtain ⟨g1, g2⟩ := key _ _ _ _ rfl
    split at H0
    · rename_i hn
      refine sn_call C0 hMS hXS hX0 g1 g2 hn hR hl.2.1 hf hd H0 (fun v h' H1 locs1 hp hR1 => ?_)
      match v, hp with
      | none, hp => exact hnx _ _ _ hp H1 locs1 real hl hR1
    · exact H0.elim
  · rename_i kd y k
    obtain ⟨g1, g2⟩ := key _ _ _ _ rfl
    split at H0
    · rename_i hn
      refine sn_call C0 hMS hXS hX0 g1 g2 hn hR hl.2.1 hf hd H0 (fun v h' H1 locs1 hp hR1 => ?_)
      match v, hp with
      | some (.inl x), hp => exact hnx _ _ _ hp H1 locs1 real hl hR1
    · exact H0.elim
  · rename_i kd y k
    obtain ⟨g1, g2⟩ := key _ _ _ _ rfl
    split at H0
    · rename_i hn
      refine sn_call C0 hMS hXS hX0 g1 g2 hn hR hl.2.1 hf hd H0 (fun v h' H1 locs1 hp hR1 => ?_)
      match v, hp with
      | some (.inr (.inl x)), hp => exact hnx _ _ _ hp H1 locs1 real hl hR1
    · exact H0.elim
  · split at H0
    · obtain ⟨na, nd, h1, h2, h3, h4, h5, h6, h7, h8, h9⟩ := H0
      rcases hi with rfl | rfl
      · cases hok
      · rename_i s9
        have hrest := cat_sum (ad := w.1) s9
        exact sn_copy C0 hR hl.2.1 (of_decide_eq_true hok) h1 h2 h3 h4 h5 h6 h7 (by omega) hd (fun H1 locs1 hR1 => hnx _ _ _ h9 H1 locs1 real hl hR1)
    · exact H0.elim
  · exact H0.elim
set_option maxHeartbeats 4000000 in
theorem sn_1 {b pc n : Nat} {i : Instr} {t : List Nat} {L : Nat → mC} {nx : mC} (C0 : Cx p R s m args c cc nL own lk w d) (hMS : MSound l w d M) (hXS : XSound l w d M) (hX0 : xOk) (hf : cells ≤ R.cells ∧ slots ≤ R.slots)
    (hd : decode cc pc = .ok (i, n)) (hn : isTab i = true ∨ n = ilen i) (hok : okX lk own nL ret code (pc, i, n, t) = true)
    (hret : ∀ (v : Option mV) (h' : mH) (H : Heap) (locs : List Loc) (real : Array Slot) (pc : Nat) (i : Instr), post v h' → Rl w s h' H locs → decode cc pc = .ok (i, 1) → rtOk ret i v → W p l e R s m args below meth c H locs cells slots Q (F0 m pc real (v.toList.map (tv w.1))))
    (hL : ∀ (k q : Nat) (ls : mL) (st : List mV) (h : mH), L k ls st h → spc code k = some q → mWp p l e R s m args below meth c cells slots Q nL w q ls st h)
    (hnx : isEnd i = false → isIf i = false → ∀ (ls : mL) (st : List mV) (h : mH), nx ls st h → mWp p l e R s m args below meth c cells slots Q nL w (pc + n) ls st h)
    (hif : isIf i = true → spc code (b + 1) = some (pc + n))
    {ls : mL} {st : List mV} {h : mH} (H0 : den1 M w.2.2.2.2.2.1 post L b (pc, i, n, t) nx ls st h) : mWp p l e R s m args below meth c cells slots Q nL w pc ls st h := by
  intro H locs real hl hR
  obtain ⟨⟨hx, hb, hml, hown, hts⟩, hK, hE, hG, -⟩ := id C0
  unfold den1 at H0
  dsimp only at H0
  split at H0
  · -- ireturn
    have hn : n = 1 := hn.resolve_left (by decide)
    subst hn
    split at H0
    · split at H0
      · exact hret _ _ _ _ _ _ _ H0 hR hd (Or.inl ⟨rfl, _, rfl, Or.inl (of_decide_eq_true hok)⟩)
      · rename_i hne
        refine hret _ _ _ _ _ _ _ H0.2 hR hd (Or.inl ⟨rfl, _, rfl, Or.inr ⟨?_, H0.1⟩⟩)
        match t, hok, hne with
        | [], _, hne => exact absurd rfl hne
        | _ :: _, hok, _ => exact of_decide_eq_true hok
    · exact H0.elim
  · -- lreturn
    have hn : n = 1 := hn.resolve_left (by decide)
    subst hn
    split at H0
    · exact hret _ _ _ _ _ _ _ H0 hR hd (Or.inr (Or.inl ⟨rfl, ⟨_, rfl⟩, of_decide_eq_true hok⟩))
    · exact H0.elim
  · -- return
    have hn : n = 1 := hn.resolve_left (by decide)
    subst hn
    split at H0
    · exact hret _ _ _ _ _ _ _ H0 hR hd (Or.inr (Or.inr ⟨rfl, rfl, of_decide_eq_true hok⟩))
    · exact H0.elim
  · -- goto
    have hn : n = 3 := hn.resolve_left (by simp [isTab])
    subst hn
    split at H0
    · obtain ⟨q, e1, e2⟩ := okT_spc hok
      exact lv_goto hx hb hd e2 (hL _ q _ _ _ H0 e1 H locs real hl hR)
    · exact H0.elim
  · -- ifCond
    have hn : n = 3 := hn.resolve_left (by simp [isTab])
    subst hn
    split at H0
    · obtain ⟨q, e1, e2⟩ := okT_spc hok
      exact sn_if hx hb hd e2 H0 (fun z => hL _ q _ _ _ z e1 H locs real hl hR) (fun z => hL _ _ _ _ _ z (hif rfl) H locs real hl hR)
    · exact H0.elim
  · -- if_icmp
    have hn : n = 3 := hn.resolve_left (by simp [isTab])
    subst hn
    split at H0
    · obtain ⟨q, e1, e2⟩ := okT_spc hok
      exact sn_icmp hx hb hd e2 H0 (fun z => hL _ q _ _ _ z e1 H locs real hl hR) (fun z => hL _ _ _ _ _ z (hif rfl) H locs real hl hR)
    · exact H0.elim
  · -- tableswitch
    split at H0
    · simp only [okX, Bool.and_eq_true, decide_eq_true_eq] at hok
      obtain ⟨⟨⟨⟨⟨g1, g2⟩, g3⟩, g4⟩, g5⟩, g6⟩ := hok
      exact sn_tab hx hb hd g1 g2 g3 g4 g5 H0 (fun j q z e1 => hL j q _ _ _ z e1 H locs real hl hR)
    · exact H0.elim
  · -- getfield
    have hn : n = 3 := hn.resolve_left (by simp [isTab])
    subst hn
    split at H0
    · split at H0
      · rename_i hr
        split at H0
        · rename_i r' ho
          exact sn_get C0 hR (of_decide_eq_true hok) hr ho hd (hnx rfl rfl _ _ _ H0 H locs real hl hR)
        · rename_i ho
          exact sn_get C0 hR (of_decide_eq_true hok) hr ho hd (hnx rfl rfl _ _ _ H0 H locs real hl hR)
        · exact H0.elim
      · exact H0.elim
    · exact H0.elim
  · -- putfield
    have hn : n = 3 := hn.resolve_left (by simp [isTab])
    subst hn
    split at H0
    · split at H0
      · rename_i hr
        split at H0
        · rename_i ho
          exact sn_put C0 hR (of_decide_eq_true hok) (Or.inr ⟨rfl, rfl⟩) rfl rfl hr ho hd (fun H1 locs1 hR1 => hnx rfl rfl _ _ _ H0 H1 locs1 real hl hR1)
        · exact H0.elim
      · exact H0.elim
    · split at H0
      · rename_i hr
        split at H0
        · rename_i ho
          have hz := H0.1
          refine sn_put C0 hR (of_decide_eq_true hok) (Or.inl ⟨rfl, rfl⟩) ?_ ?_ hr ho hd (fun H1 locs1 hR1 => hnx rfl rfl _ _ _ H0.2 H1 locs1 real hl hR1)
          · rcases hz with e | e <;> (rw [e]; rfl)
          · rcases hz with e | e <;> (rw [e]; rfl)
        · exact H0.elim
      · exact H0.elim
    · exact H0.elim
  · -- iaload
    have hn : n = 1 := hn.resolve_left (by decide)
    subst hn
    split at H0
    · split at H0
      · rename_i hr
        exact sn_ald C0 hR hr H0.1 hd (hnx rfl rfl _ _ _ H0.2 H locs real hl hR)
      · exact H0.elim
    · exact H0.elim
  · -- iastore
    have hn : n = 1 := hn.resolve_left (by decide)
    subst hn
    split at H0
    · split at H0
      · rename_i hr
        exact sn_ast C0 hR hr H0.1 hd (fun H1 locs1 hR1 => hnx rfl rfl _ _ _ H0.2 H1 locs1 real hl hR1)
      · exact H0.elim
    · exact H0.elim
  · -- arraylength
    have hn : n = 1 := hn.resolve_left (by decide)
    subst hn
    split at H0
    · split at H0
      · rename_i hr
        exact sn_len C0 hR hr hd (hnx rfl rfl _ _ _ H0 H locs real hl hR)
      · exact H0.elim
    · exact H0.elim
  · -- idiv
    have hn : n = 1 := hn.resolve_left (by decide)
    subst hn
    split at H0
    · exact lv_idiv hx hb hd H0.1 (hnx rfl rfl _ _ _ H0.2 H locs real hl hR)
    · exact H0.elim
  · -- irem
    have hn : n = 1 := hn.resolve_left (by decide)
    subst hn
    split at H0
    · exact lv_irem hx hb hd H0.1 (hnx rfl rfl _ _ _ H0.2 H locs real hl hR)
    · exact H0.elim
  · have hn : n = 3 := hn.resolve_left (by simp [isTab])
    subst hn
    exact sn_cal C0 hMS hXS hX0 hf (Or.inl rfl) hd hok hl hR (hnx rfl rfl) H0
  · have hn : n = 3 := hn.resolve_left (by simp [isTab])
    subst hn
    exact sn_cal C0 hMS hXS hX0 hf (Or.inr rfl) hd hok hl hR (hnx rfl rfl) H0
  · rename_i n1 n2 n3 n4 n5 n6 n7 n8 n9 n10 n11 n12 n13 n14 n15 n16
    have hie : isEnd i = false := by
      unfold isEnd
      split <;> first | rfl | exact absurd rfl (by assumption) | exact absurd rfl (n7 _ _ _ _) | exact absurd rfl (n4 _)
    have hii : isIf i = false := by
      unfold isIf
      split <;> first | rfl | exact absurd rfl (n5 _ _) | exact absurd rfl (n6 _ _)
    have hit : isTab i = false := by
      unfold isTab
      split <;> first | rfl | exact absurd rfl (n7 _ _ _ _)
    have hn : n = ilen i := hn.resolve_left (by rw [hit]; decide)
    subst hn
    split at H0
    · rename_i q hq
      by_cases hs1 : ∃ j, i = .getstatic j
      · obtain ⟨j, rfl⟩ := hs1
        obtain ⟨ho, rfl⟩ := of_decide_eq_true hok
        subst ho
        cases hq
        exact va_getsN hx hb hE.1 hR.2.2.1 hown (va_Nw.use rfl (hE.2.2.2.2.2.2.2.2 (.fieldLinkNest "TornLayers$Tape" 50 "TornLayers" "NUMBERS_OF" "[I" "TornLayers") (by decide +kernel))) (fun _ h9 => h9) hd (hnx hie hii _ _ _ H0 H locs real hl hR)
      · by_cases hs2 : ∃ j, i = .ldc j ∧ t = [1]
        · obtain ⟨j, rfl, rfl⟩ := hs2
          obtain ⟨ho, rfl⟩ := of_decide_eq_true hok
          subst ho
          cases hq
          exact va_ldcS hx hb hown hE.2.2.1 hd (hnx hie hii _ _ _ H0 H locs real hl hR)
        · exact sn_pop (lk := lk) (ret := ret) (code := code) hx hb rfl hown (fun j v z => hts _ (hG.2.2.1 j v z)) (fun j v z => hts _ (hG.2.2.2.1 j v z)) hq hd hok (fun j z => hs1 ⟨j, z⟩) hs2 hl (fun real' hl' => hnx hie hii _ _ _ H0 H locs real' hl' hR)
    · exact H0.elim
theorem isIf_end {i : Instr} (h : isIf i = true) : isEnd i = false := by
  unfold isIf at h
  split at h
  · rfl
  · rfl
  · cases h
/-- a block from one of its instructions on -/
theorem sn_B {b : Nat} {L : Nat → mC} (C0 : Cx p R s m args c cc nL own lk w d) (hMS : MSound l w d M) (hXS : XSound l w d M) (hX0 : xOk) (hf : cells ≤ R.cells ∧ slots ≤ R.slots)
    (hret : ∀ (v : Option mV) (h' : mH) (H : Heap) (locs : List Loc) (real : Array Slot) (pc : Nat) (i : Instr), post v h' → Rl w s h' H locs → decode cc pc = .ok (i, 1) → rtOk ret i v → W p l e R s m args below meth c H locs cells slots Q (F0 m pc real (v.toList.map (tv w.1))))
    (hL : ∀ (k q : Nat) (ls : mL) (st : List mV) (h : mH), L k ls st h → spc code k = some q → mWp p l e R s m args below meth c cells slots Q nL w q ls st h) :
    ∀ (r : List mE) (pc : Nat), okB lk own cc nL ret code b r = true → (match r with
      | [] => spc code (b + 1) = some pc
      | it :: _ => it.1 = pc) → ∀ (ls : mL) (st : List mV) (h : mH), denB M w.2.2.2.2.2.1 post L b r ls st h → mWp p l e R s m args below meth c cells slots Q nL w pc ls st h
  | [], pc, _, hpc, ls, st, h, H0 => hL (b + 1) pc ls st h H0 hpc
  | (pc0, i, n, t) :: r, pc, hok, hpc, ls, st, h, H0 => by
    have hpc : pc0 = pc := hpc
    subst hpc
    have H0 : den1 M w.2.2.2.2.2.1 post L b (pc0, i, n, t) (denB M w.2.2.2.2.2.1 post L b r) ls st h := H0
    simp only [okB, Bool.and_eq_true, Bool.or_eq_true, decide_eq_true_eq] at hok
    obtain ⟨h1 | ⟨h1, h2⟩, h3⟩ := hok
    · subst h1
      exact H0.elim
    · simp only [okI, Bool.and_eq_true, Bool.or_eq_true, decide_eq_true_eq] at h1
      obtain ⟨⟨g1, g2⟩, g3⟩ := h1
      refine sn_1 C0 hMS hXS hX0 hf g1 g2 g3 hret hL (fun he hi ls st h H1 => ?_) (fun hi => ?_) H0
      · refine sn_B C0 hMS hXS hX0 hf hret hL r (pc0 + n) h3 ?_ ls st h H1
        rcases h2 with h2 | h2
        · rw [he] at h2; cases h2
        · match r, h2 with
          | [], h2 => exact of_decide_eq_true h2
          | it :: _, h2 =>
            simp only [Bool.and_eq_true, decide_eq_true_eq] at h2
            exact h2.1
      · rcases h2 with h2 | h2
        · rw [isIf_end hi] at h2; cases h2
        · match r, h2 with
          | [], h2 => exact of_decide_eq_true h2
          | it :: _, h2 =>
            simp only [Bool.and_eq_true, decide_eq_true_eq] at h2
            rw [hi] at h2
            exact absurd h2.2 (by decide)
/-- the machine does what EX says, from any block's begin on -/
theorem sn_EX (C0 : Cx p R s m args c cc nL own lk w d) (hMS : MSound l w d M) (hXS : XSound l w d M) (hX0 : xOk) (hf : cells ≤ R.cells ∧ slots ≤ R.slots) (hC : okC lk own cc nL ret code = true)
    (hret : ∀ (v : Option mV) (h' : mH) (H : Heap) (locs : List Loc) (real : Array Slot) (pc : Nat) (i : Instr), post v h' → Rl w s h' H locs → decode cc pc = .ok (i, 1) → rtOk ret i v → W p l e R s m args below meth c H locs cells slots Q (F0 m pc real (v.toList.map (tv w.1))))
    {b q : Nat} {ls : mL} {st : List mV} {h : mH} (H0 : EX M w.2.2.2.2.2.1 code post b ls st h) (hq : spc code b = some q) : mWp p l e R s m args below meth c cells slots Q nL w q ls st h := by
  refine H0 (fun b ls st h => ∀ q, spc code b = some q → mWp p l e R s m args below meth c cells slots Q nL w q ls st h) ?_ q hq
  intro b ls st h H1 q hq
  have hb : b < code.length := by
    apply Nat.lt_of_not_le
    intro hl
    have e : code.getD b (false, []) = (false, []) := by simp [List.getD_eq_getElem?_getD, hl]
    simp only [spc, blk, e] at hq
    cases hq
  have hm : (blk code b, b) ∈ code.zipIdx := by
    rw [List.mem_zipIdx_iff_getElem?]
    simp [blk, List.getD_eq_getElem?_getD, hb]
  have hok := List.all_eq_true.mp hC _ hm
  refine sn_B (L := fun b ls st h => ∀ q, spc code b = some q → mWp p l e R s m args below meth c cells slots Q nL w q ls st h) C0 hMS hXS hX0 hf hret (fun k q ls st h z e => z q e) (blk code b).2 q hok ?_ ls st h H1
  unfold spc at hq
  match (blk code b).2, hq with
  | [], hq => cases hq
  | it :: _, hq => exact Option.some.inj hq
end ON
/-! ===== the methods ===== -/
/-- method y is as its listing says -/
def yOk (y : Nat) : Prop := ∃ lk : mLk, lkG (mth y).2.2.2.2.1 lk ∧ okC lk (mth y).2.2.2.2.1 (mth y).2.1 (mth y).2.2.1 (mth y).2.2.2.1 (mth y).2.2.2.2.2.2 = true ∧ spc (mth y).2.2.2.2.2.2 0 = some 0
theorem lv_args_ent (ad : mRef → Nat) : ∀ (as : List mV) (k : Nat) (pre : mL), pre.length = k → ∀ (n i : Nat) (v : mV), k ≤ i → lcl (pre ++ ent as ++ List.replicate n none) i = some v → (i, tv ad v) ∈ lv_args k (as.map (tv ad))
  | [], k, pre, hk, n, i, v, hi, h => by
    have h1 := (lcl_cat ad h).1
    simp only [ent, List.append_nil, List.getD_eq_getElem?_getD] at h1
    rw [List.getElem?_append_right (by omega)] at h1
    by_cases hx : i - pre.length < n
    · simp [List.getElem?_replicate, hx] at h1
    · simp [List.getElem?_replicate, hx] at h1
  | .inl x :: as, k, pre, hk, n, i, v, hi, h => by
    by_cases hik : i = k
    · subst hik
      have h1 := (lcl_cat ad h).1
      simp only [ent, List.getD_eq_getElem?_getD, List.append_assoc] at h1
      rw [List.getElem?_append_right (by omega), hk] at h1
      simp at h1
      subst h1
      exact List.mem_cons_self
    · have := lv_args_ent ad as (k + 1) (pre ++ [some (.inl x)]) (by simp [hk]) n i v (by omega) (by simpa [ent] using h)
      exact List.mem_cons_of_mem _ this
  | .inr (.inr r) :: as, k, pre, hk, n, i, v, hi, h => by
    by_cases hik : i = k
    · subst hik
      have h1 := (lcl_cat ad h).1
      simp only [ent, List.getD_eq_getElem?_getD, List.append_assoc] at h1
      rw [List.getElem?_append_right (by omega), hk] at h1
      simp at h1
      subst h1
      exact List.mem_cons_self
    · have := lv_args_ent ad as (k + 1) (pre ++ [some (.inr (.inr r))]) (by simp [hk]) n i v (by omega) (by simpa [ent] using h)
      exact List.mem_cons_of_mem _ this
  | .inr (.inl x) :: as, k, pre, hk, n, i, v, hi, h => by
    by_cases hik : i = k
    · subst hik
      have h1 := (lcl_cat ad h).1
      simp only [ent, List.getD_eq_getElem?_getD, List.append_assoc] at h1
      rw [List.getElem?_append_right (by omega), hk] at h1
      simp at h1
      subst h1
      exact List.mem_cons_self
    · by_cases hik2 : i = k + 1
      · subst hik2
        have h1 := (lcl_cat ad h).1
        simp only [ent, List.getD_eq_getElem?_getD, List.append_assoc] at h1
        rw [List.getElem?_append_right (by omega), hk] at h1
        simp at h1
      · have := lv_args_ent ad as (k + 2) (pre ++ [some (.inr (.inl x)), none]) (by simp [hk]) n i v (by omega) (by simpa [ent] using h)
        exact List.mem_cons_of_mem _ this
theorem ent_len (ad : mRef → Nat) : ∀ as : List mV, (lg_sl (as.map (tv ad))).length = (ent as).length
  | [] => rfl
  | .inl x :: as => by
    have := ent_len ad as
    simp only [List.map_cons, tv, ent, List.length_cons, ← this]
    rfl
  | .inr (.inl x) :: as => by
    have := ent_len ad as
    simp only [List.map_cons, tv, ent, List.length_cons, ← this]
    rfl
  | .inr (.inr r) :: as => by
    have := ent_len ad as
    simp only [List.map_cons, tv, ent, List.length_cons, ← this]
    rfl
theorem LR_entry {ad : mRef → Nat} {as : List mV} {nL : Nat} (h : (ent as).length ≤ nL) : LR ad nL ((lg_sl (as.map (tv ad)) ++ List.replicate (nL - (lg_sl (as.map (tv ad))).length) Slot.unset).toArray) (ent as ++ List.replicate (nL - (ent as).length) none) := by
  have h0 := lv_entry (as.map (tv ad)) (n := nL) (by rw [ent_len]; exact h)
  refine ⟨by simp; omega, h0.1, h0.2.1, fun q hq => ?_⟩
  obtain ⟨v, hv, e⟩ := clm_mem.mp hq
  have := lv_args_ent ad as 0 [] rfl (nL - (ent as).length) q.1 v (Nat.zero_le _) (by simpa using hv)
  rw [show q = (q.1, tv ad v) by rw [← e]]
  exact h0.2.2 _ this
set_option maxHeartbeats 4000000 in
/-- every method that the small semantics goes through keeps its contract -/
theorem sn_K (l : Launch) (w : mW) (hcl : ∀ ci, ci < 5 → clsOk ci) (hmo : ∀ y, y < 195 → metOk y) (hyo : ∀ y, y < 195 → yOk y) (hX0 : xOk) (hXS : ∀ d, XSound l w d (Kd w.2.2.2.2.2.1 d)) : ∀ d, MSound l w d (Kd w.2.2.2.2.2.1 d)
  | 0 => fun y as h post H0 _ => H0.elim
  | d + 1 => fun y as h post H0 hy => by
    rcases H0 with ⟨rfl, -⟩ | ⟨-, hrc, hent, H1⟩
    · exact absurd hy (by decide)
    refine ⟨?_, hrc⟩
    obtain ⟨lk, hG, hC, hs0⟩ := hyo y hy
    have hm := hmo y hy
    refine Met.ofW (cc := (mth y).2.1) (maxL := (mth y).2.2.1) (ret := (mth y).2.2.2.1) hm.2.2.2.2.1 rfl ?_
    intro p e s m args below meth c s₁ B hml hv
    obtain ⟨rfl, hP, hK, hD, hSm, hE⟩ := hv
    have hx := B.exec
    have hb := B.bytes
    have hr := B.returns
    have hts := atoms_spec (ws := wsY y) B.pre
    have hown : s.vm.findClass (mth y).1.cls = some m.cls := findClass_of_methodNamed B.named
    rw [hm.2.2.2.2.2] at hown
    have hlocks := B.notSynchronized
    have C0 : Cx p (rmD (d + 1)) s m (as.map (tv w.1)).toArray c (mth y).2.1 (mth y).2.2.1 (mth y).2.2.2.2.1 lk w d := ⟨⟨hx, hb, hml, hown, fun q hq => hts q (List.mem_cons_of_mem _ hq)⟩, hK, hE, hG, hcl, hmo, Nat.le_refl _, Nat.le_refl _⟩
    rw [lg_entry_eq]
    refine sn_EX (cells := 0) (slots := 0) C0 (sn_K l w hcl hmo hyo hX0 hXS d) (hXS d) hX0 ⟨Nat.zero_le _, Nat.zero_le _⟩ hC ?_ H1 hs0 s.heap [] _ (LR_entry hent) ⟨hP, hD, va_S.rf, hSm⟩
    intro v h' H locs real pc i hp hR hd hrt
    have hq : ∀ t : State, t.heap = H → s.WarmedH t.vm → mQ w post (as.map (tv w.1)).toArray s (.returned (v.map (tv w.1))) t := fun t ht hW => ⟨⟨v, h', rfl, hp, by rw [ht]; exact hR.1, hR.2.1, hR.2.2.2⟩, hR.2.2.1.F ht⟩
    rcases hrt with ⟨rfl, x, rfl, hz⟩ | ⟨rfl, ⟨x, rfl⟩, hz⟩ | ⟨rfl, rfl, hz⟩
    · rcases hz with hz | ⟨hz, hbz⟩
      · exact W.iret hx hb (by rw [hr, hz]) hq hR.2.2.1.2.2 hd
      · exact W.zret (ty := .boolean) hx hb (by rw [hr, hz]) (by rcases hbz with e9 | e9 <;> (rw [e9]; rfl)) hq hR.2.2.1.2.2 hd
    · exact W.lret hx hb (by rw [hr, hz]) hq hR.2.2.1.2.2 hd
    · exact W.vret hx hb (by rw [hr, hz]) hq hR.2.2.1.2.2 hd
end
section
/-! plain facts to paste, each family by itself; over the kit's nI, lN and upd -/
/-! ===== drawers: more things than places ===== -/
theorem fb_holes : ∀ (m n : Nat) (f : Nat → Nat), (∀ i, i < n → f i < m) → (∀ i j, i < j → j < n → f i ≠ f j) → n ≤ m := by
  intro m
  induction m with
  | zero =>
    intro n f h1 _
    rcases Nat.eq_zero_or_pos n with h | h
    · omega
    · exact absurd (h1 0 h) (Nat.not_lt_zero _)
  | succ m ih =>
    intro n f h1 h2
    by_cases hx : ∃ i, i < n ∧ f i = m
    · obtain ⟨a, ha, hfa⟩ := hx
      have hg := ih (n - 1) (fun i => if i < a then f i else f (i + 1)) (by
        intro i hi
        by_cases q : i < a
        · simp only [if_pos q]
          have b1 := h1 i (by omega)
          have b2 := h2 i a q ha
          omega
        · simp only [if_neg q]
          have b1 := h1 (i + 1) (by omega)
          have b2 := h2 a (i + 1) (by omega) (by omega)
          omega) (by
        intro i j hij hj
        by_cases q : i < a
        · by_cases r : j < a
          · simp only [if_pos q, if_pos r]
            exact h2 i j hij (by omega)
          · simp only [if_pos q, if_neg r]
            exact h2 i (j + 1) (by omega) (by omega)
        · have r : ¬ j < a := by omega
          simp only [if_neg q, if_neg r]
          exact h2 (i + 1) (j + 1) (by omega) (by omega))
      omega
    · have hg := ih n f (fun i hi => by
        have b1 := h1 i hi
        have b2 : f i ≠ m := fun e => hx ⟨i, hi, e⟩
        omega) h2
      omega
/-- two of them in one place -/
theorem fb_twice {m n : Nat} {f : Nat → Nat} (h : ∀ i, i < n → f i < m) (hm : m < n) : ∃ i j, i < j ∧ j < n ∧ f i = f j := by
  refine Classical.byContradiction fun hx => ?_
  have := fb_holes m n f h (fun i j hij hj e => hx ⟨i, j, hij, hj, e⟩)
  omega
/-- as many as places, none twice: each place is taken -/
theorem fb_onto {n : Nat} {f : Nat → Nat} (h : ∀ i, i < n → f i < n) (h2 : ∀ i j, i < j → j < n → f i ≠ f j) {y : Nat} (hy : y < n) : ∃ i, i < n ∧ f i = y := by
  refine Classical.byContradiction fun hx => ?_
  have hne : ∀ i, i < n → f i ≠ y := fun i hi e => hx ⟨i, hi, e⟩
  have := fb_holes (n - 1) n (fun i => if f i < y then f i else f i - 1) (by
    intro i hi
    have b1 := h i hi
    have b2 := hne i hi
    by_cases q : f i < y
    · simp only [if_pos q]; omega
    · simp only [if_neg q]; omega) (by
    intro i j hij hj
    have b1 := hne i (by omega)
    have b2 := hne j hj
    have b3 := h2 i j hij hj
    by_cases q : f i < y
    · by_cases r : f j < y
      · simp only [if_pos q, if_pos r]; exact b3
      · simp only [if_pos q, if_neg r]; omega
    · by_cases r : f j < y
      · simp only [if_neg q, if_pos r]; omega
      · simp only [if_neg q, if_neg r]; omega)
  omega
/-! ===== how many places have a property ===== -/
def fb_ct (p : Nat → Bool) : Nat → Nat
  | 0 => 0
  | n + 1 => fb_ct p n + (if p n then 1 else 0)
theorem fb_ct_succ (p : Nat → Bool) (n : Nat) : fb_ct p (n + 1) = fb_ct p n + (if p n then 1 else 0) := rfl
theorem fb_ct_le (p : Nat → Bool) : ∀ n, fb_ct p n ≤ n
  | 0 => Nat.le_refl _
  | n + 1 => by
    have h := fb_ct_le p n
    rw [fb_ct_succ]
    split <;> omega
theorem fb_ct_step (p : Nat → Bool) (m : Nat) : ∀ n, fb_ct p m ≤ fb_ct p (m + n)
  | 0 => Nat.le_refl _
  | n + 1 => by
    have h := fb_ct_step p m n
    show fb_ct p m ≤ fb_ct p (m + n + 1)
    rw [fb_ct_succ]
    omega
theorem fb_ct_mono (p : Nat → Bool) {m n : Nat} (h : m ≤ n) : fb_ct p m ≤ fb_ct p n := by
  have := fb_ct_step p m (n - m)
  rwa [Nat.add_sub_cancel' h] at this
theorem fb_ct_cong {p q : Nat → Bool} : ∀ {n : Nat}, (∀ k, k < n → p k = q k) → fb_ct p n = fb_ct q n
  | 0, _ => rfl
  | n + 1, h => by
    rw [fb_ct_succ, fb_ct_succ, fb_ct_cong (fun k hk => h k (by omega)), h n (by omega)]
/-- one place changed -/
theorem fb_ct_out (p : Nat → Bool) (b : Bool) {i n : Nat} (h : n ≤ i) : fb_ct (fun k => if k = i then b else p k) n = fb_ct p n :=
  fb_ct_cong fun k hk => if_neg (by omega)
theorem fb_ct_upd (p : Nat → Bool) (b : Bool) {i : Nat} : ∀ {n : Nat}, i < n → fb_ct (fun k => if k = i then b else p k) n + (if p i then 1 else 0) = fb_ct p n + (if b then 1 else 0)
  | 0, h => absurd h (Nat.not_lt_zero i)
  | n + 1, h => by
    rw [fb_ct_succ, fb_ct_succ]
    rcases Nat.lt_or_ge i n with q | q
    · have := fb_ct_upd p b q
      have e : (if n = i then b else p n) = p n := if_neg (by omega)
      rw [e]
      omega
    · have e : i = n := by omega
      subst e
      rw [fb_ct_out p b (Nat.le_refl _)]
      simp only [if_true]
      omega
theorem fb_ct_sub {p q : Nat → Bool} : ∀ {n : Nat}, (∀ k, k < n → p k = true → q k = true) → fb_ct p n ≤ fb_ct q n
  | 0, _ => Nat.le_refl _
  | n + 1, h => by
    have h1 := fb_ct_sub (n := n) (p := p) (q := q) (fun k hk => h k (by omega))
    have h2 := h n (by omega)
    rw [fb_ct_succ, fb_ct_succ]
    cases hp : p n <;> cases hq : q n <;> simp_all <;> omega
theorem fb_ct_or {p q : Nat → Bool} : ∀ {n : Nat}, (∀ k, k < n → ¬ (p k = true ∧ q k = true)) → fb_ct (fun k => p k || q k) n = fb_ct p n + fb_ct q n
  | 0, _ => rfl
  | n + 1, h => by
    have h1 := fb_ct_or (n := n) (p := p) (q := q) (fun k hk => h k (by omega))
    have h2 := h n (by omega)
    rw [fb_ct_succ, fb_ct_succ, fb_ct_succ, h1]
    cases hp : p n <;> cases hq : q n <;> simp_all <;> omega
theorem fb_ct_not (p : Nat → Bool) : ∀ n, fb_ct p n + fb_ct (fun k => !p k) n = n
  | 0 => rfl
  | n + 1 => by
    have h := fb_ct_not p n
    rw [fb_ct_succ, fb_ct_succ]
    cases p n <;> simp <;> omega
theorem fb_ct_split (p : Nat → Bool) (m : Nat) : ∀ n, fb_ct p (m + n) = fb_ct p m + fb_ct (fun k => p (m + k)) n
  | 0 => rfl
  | n + 1 => by
    have h := fb_ct_split p m n
    show fb_ct p (m + n + 1) = _
    rw [fb_ct_succ, fb_ct_succ, h, Nat.add_assoc]
theorem fb_ct_zero {p : Nat → Bool} : ∀ {n : Nat}, fb_ct p n = 0 ↔ ∀ k, k < n → p k = false
  | 0 => ⟨fun _ k hk => absurd hk (Nat.not_lt_zero k), fun _ => rfl⟩
  | n + 1 => by
    have h := fb_ct_zero (p := p) (n := n)
    rw [fb_ct_succ]
    constructor
    · intro e k hk
      have e1 : fb_ct p n = 0 := by omega
      rcases Nat.lt_or_ge k n with q | q
      · exact h.mp e1 k q
      · have ek : k = n := by omega
        subst ek
        cases hp : p k
        · rfl
        · simp [hp] at e
    · intro a
      rw [h.mpr (fun k hk => a k (by omega)), a n (by omega)]
      rfl
theorem fb_ct_pos {p : Nat → Bool} {n : Nat} : 0 < fb_ct p n ↔ ∃ k, k < n ∧ p k = true := by
  constructor
  · intro h
    refine Classical.byContradiction fun hx => ?_
    have := fb_ct_zero.mpr (fun k hk => by
      cases hp : p k
      · rfl
      · exact absurd ⟨k, hk, hp⟩ hx : ∀ k, k < n → p k = false)
    omega
  · rintro ⟨k, hk, hp⟩
    rcases Nat.eq_zero_or_pos (fb_ct p n) with e | e
    · have := fb_ct_zero.mp e k hk
      rw [this] at hp
      cases hp
    · exact e
theorem fb_ct_all {p : Nat → Bool} {n : Nat} : fb_ct p n = n ↔ ∀ k, k < n → p k = true := by
  have h := fb_ct_not p n
  constructor
  · intro e k hk
    have z : fb_ct (fun k => !p k) n = 0 := by omega
    have := fb_ct_zero.mp z k hk
    cases hp : p k
    · simp [hp] at this
    · rfl
  · intro a
    have z : fb_ct (fun k => !p k) n = 0 := fb_ct_zero.mpr (fun k hk => by simp [a k hk])
    omega
/-- the k-th place with the property -/
theorem fb_ct_kth {p : Nat → Bool} {k : Nat} : ∀ {n : Nat}, k < fb_ct p n → ∃ i, i < n ∧ p i = true ∧ fb_ct p i = k
  | 0, h => absurd h (Nat.not_lt_zero k)
  | n + 1, h => by
    rcases Nat.lt_or_ge k (fb_ct p n) with q | q
    · obtain ⟨i, h1, h2⟩ := fb_ct_kth q
      exact ⟨i, by omega, h2⟩
    · rw [fb_ct_succ] at h
      cases hp : p n
      · simp [hp] at h; omega
      · simp [hp] at h
        exact ⟨n, by omega, hp, by omega⟩
theorem fb_ct_kth_one {p : Nat → Bool} {i j : Nat} (hi : p i = true) (hj : p j = true) (e : fb_ct p i = fb_ct p j) : i = j := by
  have key : ∀ a b : Nat, a < b → p a = true → fb_ct p a < fb_ct p b := by
    intro a b hab ha
    have h := fb_ct_mono p (show a + 1 ≤ b from hab)
    rw [fb_ct_succ, ha] at h
    simp at h
    omega
  rcases Nat.lt_trichotomy i j with q | q | q
  · have := key i j q hi; omega
  · exact q
  · have := key j i q hj; omega
/-! ===== sums over a range: one place changed, parts, bounds ===== -/
def fb_sm (f : Nat → Nat) : Nat → Nat
  | 0 => 0
  | n + 1 => fb_sm f n + f n
theorem fb_sm_succ (f : Nat → Nat) (n : Nat) : fb_sm f (n + 1) = fb_sm f n + f n := rfl
theorem fb_sm_cong {f g : Nat → Nat} : ∀ {n : Nat}, (∀ k, k < n → f k = g k) → fb_sm f n = fb_sm g n
  | 0, _ => rfl
  | n + 1, h => by rw [fb_sm_succ, fb_sm_succ, fb_sm_cong (fun k hk => h k (by omega)), h n (by omega)]
theorem fb_sm_out (f : Nat → Nat) (v : Nat) {i n : Nat} (h : n ≤ i) : fb_sm (fun k => if k = i then v else f k) n = fb_sm f n :=
  fb_sm_cong fun k hk => if_neg (by omega)
theorem fb_sm_upd (f : Nat → Nat) (v : Nat) {i : Nat} : ∀ {n : Nat}, i < n → fb_sm (fun k => if k = i then v else f k) n + f i = fb_sm f n + v
  | 0, h => absurd h (Nat.not_lt_zero i)
  | n + 1, h => by
    rw [fb_sm_succ, fb_sm_succ]
    rcases Nat.lt_or_ge i n with q | q
    · have := fb_sm_upd f v q
      have e : (if n = i then v else f n) = f n := if_neg (by omega)
      rw [e]
      omega
    · have e : i = n := by omega
      subst e
      rw [fb_sm_out f v (Nat.le_refl _)]
      simp only [if_true]
      omega
theorem fb_sm_add (f g : Nat → Nat) : ∀ n, fb_sm (fun k => f k + g k) n = fb_sm f n + fb_sm g n
  | 0 => rfl
  | n + 1 => by
    have h := fb_sm_add f g n
    rw [fb_sm_succ, fb_sm_succ, fb_sm_succ, h]
    omega
theorem fb_sm_le {f g : Nat → Nat} : ∀ {n : Nat}, (∀ k, k < n → f k ≤ g k) → fb_sm f n ≤ fb_sm g n
  | 0, _ => Nat.le_refl _
  | n + 1, h => by
    have h1 := fb_sm_le (n := n) (f := f) (g := g) (fun k hk => h k (by omega))
    have h2 := h n (by omega)
    rw [fb_sm_succ, fb_sm_succ]
    omega
theorem fb_sm_const (c : Nat) : ∀ n, fb_sm (fun _ => c) n = n * c
  | 0 => by rw [Nat.zero_mul]; rfl
  | n + 1 => by rw [fb_sm_succ, fb_sm_const c n, Nat.succ_mul]
theorem fb_sm_bound {f : Nat → Nat} {c n : Nat} (h : ∀ k, k < n → f k ≤ c) : fb_sm f n ≤ n * c := by
  rw [← fb_sm_const c n]
  exact fb_sm_le h
theorem fb_sm_mono (f : Nat → Nat) (m : Nat) : ∀ n, fb_sm f m ≤ fb_sm f (m + n)
  | 0 => Nat.le_refl _
  | n + 1 => by
    have h := fb_sm_mono f m n
    show fb_sm f m ≤ fb_sm f (m + n + 1)
    rw [fb_sm_succ]
    omega
theorem fb_sm_part (f : Nat → Nat) {i n : Nat} (h : i < n) : fb_sm f i + f i ≤ fb_sm f n := by
  have := fb_sm_mono f (i + 1) (n - (i + 1))
  rw [fb_sm_succ, show i + 1 + (n - (i + 1)) = n by omega] at this
  exact this
theorem fb_sm_split (f : Nat → Nat) (m : Nat) : ∀ n, fb_sm f (m + n) = fb_sm f m + fb_sm (fun k => f (m + k)) n
  | 0 => rfl
  | n + 1 => by
    have h := fb_sm_split f m n
    show fb_sm f (m + n + 1) = _
    rw [fb_sm_succ, fb_sm_succ, h, Nat.add_assoc]
theorem fb_sm_zero {f : Nat → Nat} {n : Nat} (h : fb_sm f n = 0) : ∀ k, k < n → f k = 0 := fun k hk => by
  have := fb_sm_part f hk
  omega
/-- the same over whole numbers -/
def fb_si (f : Nat → Int) : Nat → Int
  | 0 => 0
  | n + 1 => fb_si f n + f n
theorem fb_si_succ (f : Nat → Int) (n : Nat) : fb_si f (n + 1) = fb_si f n + f n := rfl
theorem fb_si_cong {f g : Nat → Int} : ∀ {n : Nat}, (∀ k, k < n → f k = g k) → fb_si f n = fb_si g n
  | 0, _ => rfl
  | n + 1, h => by rw [fb_si_succ, fb_si_succ, fb_si_cong (fun k hk => h k (by omega)), h n (by omega)]
theorem fb_si_out (f : Nat → Int) (v : Int) {i n : Nat} (h : n ≤ i) : fb_si (fun k => if k = i then v else f k) n = fb_si f n :=
  fb_si_cong fun k hk => if_neg (by omega)
theorem fb_si_upd (f : Nat → Int) (v : Int) {i : Nat} : ∀ {n : Nat}, i < n → fb_si (fun k => if k = i then v else f k) n = fb_si f n - f i + v
  | 0, h => absurd h (Nat.not_lt_zero i)
  | n + 1, h => by
    rw [fb_si_succ, fb_si_succ]
    rcases Nat.lt_or_ge i n with q | q
    · have := fb_si_upd f v q
      have e : (if n = i then v else f n) = f n := if_neg (by omega)
      rw [e]
      omega
    · have e : i = n := by omega
      subst e
      rw [fb_si_out f v (Nat.le_refl _)]
      simp only [if_true]
      omega
theorem fb_si_add (f g : Nat → Int) : ∀ n, fb_si (fun k => f k + g k) n = fb_si f n + fb_si g n
  | 0 => rfl
  | n + 1 => by
    have h := fb_si_add f g n
    rw [fb_si_succ, fb_si_succ, fb_si_succ, h]
    omega
theorem fb_si_sub (f g : Nat → Int) : ∀ n, fb_si (fun k => f k - g k) n = fb_si f n - fb_si g n
  | 0 => rfl
  | n + 1 => by
    have h := fb_si_sub f g n
    rw [fb_si_succ, fb_si_succ, fb_si_succ, h]
    omega
theorem fb_si_mul (c : Int) (f : Nat → Int) : ∀ n, fb_si (fun k => c * f k) n = c * fb_si f n
  | 0 => (Int.mul_zero c).symm
  | n + 1 => by
    have h := fb_si_mul c f n
    rw [fb_si_succ, fb_si_succ, h, Int.mul_add]
theorem fb_si_split (f : Nat → Int) (m : Nat) : ∀ n, fb_si f (m + n) = fb_si f m + fb_si (fun k => f (m + k)) n
  | 0 => (Int.add_zero _).symm
  | n + 1 => by
    have h := fb_si_split f m n
    show fb_si f (m + n + 1) = _
    rw [fb_si_succ, fb_si_succ, h, Int.add_assoc]
theorem fb_si_nat (f : Nat → Nat) : ∀ n, fb_si (fun k => (f k : Int)) n = (fb_sm f n : Int)
  | 0 => rfl
  | n + 1 => by
    have h := fb_si_nat f n
    rw [fb_si_succ, fb_sm_succ, h]
    omega
theorem fb_si_bound {f : Nat → Int} {c : Int} (hc : 0 ≤ c) : ∀ {n : Nat}, (∀ k, k < n → -c ≤ f k ∧ f k ≤ c) → -(n * c) ≤ fb_si f n ∧ fb_si f n ≤ n * c
  | 0, _ => by simp [fb_si]
  | n + 1, h => by
    have h1 := fb_si_bound (n := n) (f := f) hc (fun k hk => h k (by omega))
    have h2 := h n (by omega)
    have e : ((n + 1 : Nat) : Int) * c = n * c + c := by rw [Int.natCast_add, Int.add_mul]; simp
    rw [fb_si_succ, e]
    omega
/-! ===== bits of a long that isn't negative ===== -/
theorem fb_andL (a b : Nat) : lN a &&& lN b = lN (a &&& b) := by
  apply Int64.toBitVec_inj.1
  show BitVec.ofNat 64 a &&& BitVec.ofNat 64 b = BitVec.ofNat 64 (a &&& b)
  apply BitVec.eq_of_getLsbD_eq
  intro i hi
  simp [hi]
theorem fb_orL (a b : Nat) : lN a ||| lN b = lN (a ||| b) := by
  apply Int64.toBitVec_inj.1
  show BitVec.ofNat 64 a ||| BitVec.ofNat 64 b = BitVec.ofNat 64 (a ||| b)
  apply BitVec.eq_of_getLsbD_eq
  intro i hi
  simp [hi]
theorem fb_xorL (a b : Nat) : lN a ^^^ lN b = lN (a ^^^ b) := by
  apply Int64.toBitVec_inj.1
  show BitVec.ofNat 64 a ^^^ BitVec.ofNat 64 b = BitVec.ofNat 64 (a ^^^ b)
  apply BitVec.eq_of_getLsbD_eq
  intro i hi
  simp [hi]
theorem fb_xorI (a b : Nat) : nI a ^^^ nI b = nI (a ^^^ b) := by
  apply Int32.toBitVec_inj.1
  show BitVec.ofNat 32 a ^^^ BitVec.ofNat 32 b = BitVec.ofNat 32 (a ^^^ b)
  apply BitVec.eq_of_getLsbD_eq
  intro i hi
  simp [hi]
theorem fb_maskL (n k : Nat) : lN n &&& lN (2 ^ k - 1) = lN (n % 2 ^ k) := by rw [fb_andL, Nat.and_two_pow_sub_one_eq_mod]
theorem fb_or_sumL {a k : Nat} (b : Nat) (h : a < 2 ^ k) : lN (2 ^ k * b) ||| lN a = lN (2 ^ k * b + a) := by rw [fb_orL, Nat.two_pow_add_eq_or_of_lt h]
theorem fb_lN_inj {a b : Nat} (ha : a < 2 ^ 63) (hb : b < 2 ^ 63) : lN a = lN b ↔ a = b := by
  constructor
  · intro h
    have h1 : (BitVec.ofNat 64 a).toNat = (BitVec.ofNat 64 b).toNat := congrArg (fun x : Int64 => x.toBitVec.toNat) h
    rw [BitVec.toNat_ofNat, BitVec.toNat_ofNat, Nat.mod_eq_of_lt (by omega), Nat.mod_eq_of_lt (by omega)] at h1
    exact h1
  · rintro rfl; rfl
theorem fb_bit_nat (n j : Nat) : n &&& 2 ^ j = 0 ↔ n.testBit j = false := by
  constructor
  · intro h
    have h1 : (n &&& 2 ^ j).testBit j = false := by rw [h]; simp
    rw [Nat.testBit_and] at h1
    simpa using h1
  · intro h
    apply Nat.eq_of_testBit_eq
    intro i
    rw [Nat.testBit_and]
    by_cases hi : j = i
    · subst hi; simp [h]
    · first | (simp [Nat.testBit_two_pow, hi]; done) | (simp [Nat.testBit_two_pow_of_ne hi]; done)
/-- one bit of a long -/
theorem fb_bitL {n j : Nat} (hj : j < 63) : lN n &&& lN (2 ^ j) = 0 ↔ n.testBit j = false := by
  have h2 : (2 : Nat) ^ j < 2 ^ 63 := Nat.pow_lt_pow_right (by decide) hj
  have hle : n &&& 2 ^ j ≤ 2 ^ j := Nat.and_le_right
  rw [fb_andL, ← fb_bit_nat, show (0 : Int64) = lN 0 from rfl]
  exact fb_lN_inj (by omega) (by decide)
/-- a bit set, a bit taken off -/
theorem fb_bit_set (n j i : Nat) : (n ||| 2 ^ j).testBit i = (n.testBit i || decide (i = j)) := by
  rw [Nat.testBit_or]
  by_cases h : j = i
  · subst h; simp
  · have h2 : ¬ i = j := fun e => h e.symm
    first | (simp [Nat.testBit_two_pow, h, h2]; done) | (simp [Nat.testBit_two_pow_of_ne h, h2]; done)
theorem fb_bit_flip (n j i : Nat) : (n ^^^ 2 ^ j).testBit i = (n.testBit i ^^ decide (i = j)) := by
  rw [Nat.testBit_xor]
  by_cases h : j = i
  · subst h; simp
  · have h2 : ¬ i = j := fun e => h e.symm
    first | (simp [Nat.testBit_two_pow, h, h2]; done) | (simp [Nat.testBit_two_pow_of_ne h, h2]; done)
/-! ===== a stretch of an array written over by a function ===== -/
def fb_put {α : Type} (f g : Nat → α) (a n : Nat) : Nat → α := fun k => if a ≤ k ∧ k < a + n then g (k - a) else f k
theorem fb_put_0 {α : Type} (f g : Nat → α) (a : Nat) : fb_put f g a 0 = f := funext fun k => if_neg (by omega)
theorem fb_put_in {α : Type} {f g : Nat → α} {a n k : Nat} (h1 : a ≤ k) (h2 : k < a + n) : fb_put f g a n k = g (k - a) := if_pos ⟨h1, h2⟩
theorem fb_put_out {α : Type} {f g : Nat → α} {a n k : Nat} (h : k < a ∨ a + n ≤ k) : fb_put f g a n k = f k := if_neg (by omega)
theorem fb_put_succ (f g : Nat → Int32) (a n : Nat) : upd (fb_put f g a n) (a + n) (g n) = fb_put f g a (n + 1) := by
  funext k
  by_cases h : k = a + n
  · subst h
    simp [upd, fb_put]
  · by_cases h1 : a ≤ k ∧ k < a + n
    · have h2 : a ≤ k ∧ k < a + (n + 1) := by omega
      simp only [upd, fb_put, if_neg h, if_pos h1, if_pos h2]
    · have h2 : ¬ (a ≤ k ∧ k < a + (n + 1)) := by omega
      simp only [upd, fb_put, if_neg h, if_neg h1, if_neg h2]
/-- .. from the far end down -/
theorem fb_put_down (f g : Nat → Int32) {a n m : Nat} (h : m < n) : upd (fb_put f (fun k => g (k + (m + 1))) (a + (m + 1)) (n - (m + 1))) (a + m) (g m) = fb_put f (fun k => g (k + m)) (a + m) (n - m) := by
  funext k
  by_cases h0 : k = a + m
  · subst h0
    simp only [upd, if_true]
    rw [fb_put_in (by omega) (by omega)]
    exact congrArg g (by omega)
  · simp only [upd, if_neg h0]
    by_cases h1 : a + (m + 1) ≤ k ∧ k < a + (m + 1) + (n - (m + 1))
    · rw [fb_put_in h1.1 h1.2, fb_put_in (by omega) (by omega)]
      exact congrArg g (by omega)
    · rw [fb_put_out (by omega), fb_put_out (by omega)]
theorem fb_put_cong {α : Type} {f f2 g g2 : Nat → α} {a n : Nat} (hf : ∀ k, (k < a ∨ a + n ≤ k) → f k = f2 k) (hg : ∀ k, k < n → g k = g2 k) : fb_put f g a n = fb_put f2 g2 a n := by
  funext k
  by_cases h : a ≤ k ∧ k < a + n
  · rw [fb_put_in h.1 h.2, fb_put_in h.1 h.2, hg _ (by omega)]
  · rw [fb_put_out (by omega), fb_put_out (by omega), hf _ (by omega)]
/-! ===== the least, the first, the best so far; that there is one alone ===== -/
theorem fb_first {p : Nat → Prop} [DecidablePred p] : ∀ {n : Nat}, (∃ i, i < n ∧ p i) → ∃ i, i < n ∧ p i ∧ ∀ j, j < i → ¬ p j
  | 0, h => by obtain ⟨i, hi, -⟩ := h; exact absurd hi (Nat.not_lt_zero i)
  | n + 1, h => by
    by_cases q : ∃ i, i < n ∧ p i
    · obtain ⟨i, h1, h2⟩ := fb_first q
      exact ⟨i, by omega, h2⟩
    · obtain ⟨i, h1, h2⟩ := h
      have e : i = n := by
        rcases Nat.lt_or_ge i n with r | r
        · exact absurd ⟨i, r, h2⟩ q
        · omega
      subst e
      exact ⟨i, by omega, h2, fun j hj hp => q ⟨j, hj, hp⟩⟩
theorem fb_first_one {p : Nat → Prop} {i j : Nat} (hi : p i) (hi2 : ∀ k, k < i → ¬ p k) (hj : p j) (hj2 : ∀ k, k < j → ¬ p k) : i = j := by
  rcases Nat.lt_trichotomy i j with q | q | q
  · exact absurd hi (hj2 i q)
  · exact q
  · exact absurd hj (hi2 j q)
theorem fb_last {p : Nat → Prop} [DecidablePred p] : ∀ {n : Nat}, (∃ i, i < n ∧ p i) → ∃ i, i < n ∧ p i ∧ ∀ j, i < j → j < n → ¬ p j
  | 0, h => by obtain ⟨i, hi, -⟩ := h; exact absurd hi (Nat.not_lt_zero i)
  | n + 1, h => by
    by_cases q : p n
    · exact ⟨n, by omega, q, fun j h1 h2 => by omega⟩
    · obtain ⟨i, h1, h2⟩ := h
      have hi : i < n := by
        rcases Nat.lt_or_ge i n with r | r
        · exact r
        · have e : i = n := by omega
          subst e
          exact absurd h2 q
      obtain ⟨i2, a1, a2, a3⟩ := fb_last (n := n) ⟨i, hi, h2⟩
      refine ⟨i2, by omega, a2, fun j b1 b2 => ?_⟩
      rcases Nat.lt_or_ge j n with r | r
      · exact a3 j b1 r
      · have e : j = n := by omega
        subst e
        exact q
/-- the first greatest -/
theorem fb_best (f : Nat → Int) : ∀ {n : Nat}, 0 < n → ∃ i, i < n ∧ (∀ j, j < n → f j ≤ f i) ∧ ∀ j, j < i → f j < f i
  | 0, h => absurd h (Nat.lt_irrefl 0)
  | 1, _ => ⟨0, by omega, fun j hj => by have e : j = 0 := by omega
                                         subst e; exact Int.le_refl _, fun j hj => absurd hj (Nat.not_lt_zero j)⟩
  | n + 2, _ => by
    obtain ⟨i, h1, h2, h3⟩ := fb_best f (n := n + 1) (by omega)
    by_cases q : f i < f (n + 1)
    · refine ⟨n + 1, by omega, fun j hj => ?_, fun j hj => ?_⟩
      · rcases Nat.lt_or_ge j (n + 1) with r | r
        · have := h2 j r; omega
        · have e : j = n + 1 := by omega
          subst e; exact Int.le_refl _
      · have := h2 j hj; omega
    · refine ⟨i, by omega, fun j hj => ?_, h3⟩
      rcases Nat.lt_or_ge j (n + 1) with r | r
      · exact h2 j r
      · have e : j = n + 1 := by omega
        subst e; omega
theorem fb_best_one {f : Nat → Int} {n i j : Nat} (hi : i < n) (hi2 : ∀ k, k < n → f k ≤ f i) (hi3 : ∀ k, k < i → f k < f i) (hj : j < n) (hj2 : ∀ k, k < n → f k ≤ f j) (hj3 : ∀ k, k < j → f k < f j) : i = j := by
  rcases Nat.lt_trichotomy i j with q | q | q
  · have a := hj3 i q
    have b := hi2 j hj
    omega
  · exact q
  · have a := hi3 j q
    have b := hj2 i hi
    omega
/-- the first least -/
theorem fb_low (f : Nat → Int) {n : Nat} (h : 0 < n) : ∃ i, i < n ∧ (∀ j, j < n → f i ≤ f j) ∧ ∀ j, j < i → f i < f j := by
  obtain ⟨i, h1, h2, h3⟩ := fb_best (fun k => -f k) h
  exact ⟨i, h1, fun j hj => by have := h2 j hj; omega, fun j hj => by have := h3 j hj; omega⟩
/-! ===== signed ints as whole numbers, within bounds ===== -/
theorem fb_rng (x : Int32) : -2147483648 ≤ x.toInt ∧ x.toInt < 2147483648 := by
  have h1 := Int32.le_toInt x
  have h2 := Int32.toInt_lt x
  omega
theorem fb_bmod {z : Int} (h1 : -2147483648 ≤ z) (h2 : z < 2147483648) : z.bmod (2 ^ 32) = z := by
  rw [Int.bmod_eq_of_le (by omega) (by omega)]
theorem fb_addI {x y : Int32} (h1 : -2147483648 ≤ x.toInt + y.toInt) (h2 : x.toInt + y.toInt < 2147483648) : (x + y).toInt = x.toInt + y.toInt := by
  rw [Int32.toInt_add, fb_bmod h1 h2]
theorem fb_subI {x y : Int32} (h1 : -2147483648 ≤ x.toInt - y.toInt) (h2 : x.toInt - y.toInt < 2147483648) : (x - y).toInt = x.toInt - y.toInt := by
  rw [Int32.toInt_sub, fb_bmod h1 h2]
theorem fb_mulI {x y : Int32} (h1 : -2147483648 ≤ x.toInt * y.toInt) (h2 : x.toInt * y.toInt < 2147483648) : (x * y).toInt = x.toInt * y.toInt := by
  rw [Int32.toInt_mul, fb_bmod h1 h2]
theorem fb_negI {x : Int32} (h : x.toInt ≠ -2147483648) : (-x).toInt = -x.toInt := by
  have := fb_rng x
  rw [Int32.toInt_neg, fb_bmod (by omega) (by omega)]
theorem fb_ofI {z : Int} (h1 : -2147483648 ≤ z) (h2 : z < 2147483648) : (Int32.ofInt z).toInt = z := by
  rw [Int32.toInt_ofInt, fb_bmod h1 h2]
theorem fb_asI (x : Int32) : Int32.ofInt x.toInt = x := Int32.ofInt_toInt x
theorem fb_rngL (x : Int64) : -9223372036854775808 ≤ x.toInt ∧ x.toInt < 9223372036854775808 := by
  have h1 := Int64.le_toInt x
  have h2 := Int64.toInt_lt x
  omega
theorem fb_bmodL {z : Int} (h1 : -9223372036854775808 ≤ z) (h2 : z < 9223372036854775808) : z.bmod (2 ^ 64) = z := by
  rw [Int.bmod_eq_of_le (by omega) (by omega)]
theorem fb_addL {x y : Int64} (h1 : -9223372036854775808 ≤ x.toInt + y.toInt) (h2 : x.toInt + y.toInt < 9223372036854775808) : (x + y).toInt = x.toInt + y.toInt := by
  rw [Int64.toInt_add, fb_bmodL h1 h2]
theorem fb_subL {x y : Int64} (h1 : -9223372036854775808 ≤ x.toInt - y.toInt) (h2 : x.toInt - y.toInt < 9223372036854775808) : (x - y).toInt = x.toInt - y.toInt := by
  rw [Int64.toInt_sub, fb_bmodL h1 h2]
theorem fb_mulL {x y : Int64} (h1 : -9223372036854775808 ≤ x.toInt * y.toInt) (h2 : x.toInt * y.toInt < 9223372036854775808) : (x * y).toInt = x.toInt * y.toInt := by
  rw [Int64.toInt_mul, fb_bmodL h1 h2]
/-! ===== cuts of what is narrow already ===== -/
theorem fb_byte {x : Int32} (h1 : -128 ≤ x.toInt) (h2 : x.toInt < 128) : x.toInt8.toInt32 = x := by
  apply Int32.toInt_inj.1
  rw [Int8.toInt_toInt32, Int32.toInt_toInt8, Int.bmod_eq_of_le (by omega) (by omega)]
theorem fb_short {x : Int32} (h1 : -32768 ≤ x.toInt) (h2 : x.toInt < 32768) : x.toInt16.toInt32 = x := by
  apply Int32.toInt_inj.1
  rw [Int16.toInt_toInt32, Int32.toInt_toInt16, Int.bmod_eq_of_le (by omega) (by omega)]
theorem fb_byte_rng (x : Int32) : -128 ≤ x.toInt8.toInt32.toInt ∧ x.toInt8.toInt32.toInt < 128 := by
  rw [Int8.toInt_toInt32]
  have h1 := Int8.le_toInt x.toInt8
  have h2 := Int8.toInt_lt x.toInt8
  omega
theorem fb_short_rng (x : Int32) : -32768 ≤ x.toInt16.toInt32.toInt ∧ x.toInt16.toInt32.toInt < 32768 := by
  rw [Int16.toInt_toInt32]
  have h1 := Int16.le_toInt x.toInt16
  have h2 := Int16.toInt_lt x.toInt16
  omega
theorem fb_byte_twice (x : Int32) : x.toInt8.toInt32.toInt8.toInt32 = x.toInt8.toInt32 := fb_byte (fb_byte_rng x).1 (fb_byte_rng x).2
theorem fb_short_twice (x : Int32) : x.toInt16.toInt32.toInt16.toInt32 = x.toInt16.toInt32 := fb_short (fb_short_rng x).1 (fb_short_rng x).2
theorem fb_char {n : Nat} (h : n < 65536) : (nI n).toUInt32.toUInt16.toUInt32.toInt32 = nI n := by
  apply Int32.toBitVec_inj.1
  apply BitVec.eq_of_toNat_eq
  have e1 : (nI n).toBitVec.toNat = n := by
    show (BitVec.ofNat 32 n).toNat = n
    rw [BitVec.toNat_ofNat, Nat.mod_eq_of_lt (by omega)]
  have e2 : ((nI n).toUInt32.toUInt16.toUInt32).toNat = n := by
    rw [UInt16.toNat_toUInt32, UInt32.toNat_toUInt16]
    show (nI n).toBitVec.toNat % 2 ^ 16 = n
    rw [e1, Nat.mod_eq_of_lt (by omega)]
  rw [e1]
  exact e2
end
section
/-! ===== numbers ===== -/
theorem n_ne0 {k : Nat} (h : 0 < k) (h2 : k < 2 ^ 31) : ¬ nI k = 0 := nI_ne0 h h2
theorem n_lt {a b : Nat} (ha : a < 2 ^ 31) (hb : b < 2 ^ 31) : (nI a < nI b) = (a < b) := propext (nI_ltI ha hb)
theorem n_le {a b : Nat} (ha : a < 2 ^ 31) (hb : b < 2 ^ 31) : (nI a ≤ nI b) = (a ≤ b) := propext (nI_leI ha hb)
theorem n_eq {a b : Nat} (ha : a < 2 ^ 31) (hb : b < 2 ^ 31) : (nI a = nI b) = (a = b) := propext (nI_eq ha hb)
theorem n_lt0 {a : Nat} (ha : a < 2 ^ 31) : (nI a < 0) = False := eq_false (nI_pos ha)
theorem n_le0 {a : Nat} (ha : a < 2 ^ 31) : (nI a ≤ 0) = (a = 0) := by
  rw [← nI_0]
  exact propext ((nI_leI ha (by decide)).trans Nat.le_zero)
theorem n_eq0 {a : Nat} (ha : a < 2 ^ 31) : (nI a = 0) = (a = 0) := by
  rw [← nI_0]
  exact propext (nI_eq ha (by decide))
theorem n_ge0 {a : Nat} (ha : a < 2 ^ 31) : (0 ≤ nI a) = True := eq_true (nI_pos' ha)
theorem n_gt0 {a : Nat} (ha : a < 2 ^ 31) : (0 < nI a) = (0 < a) := by
  rw [← nI_0]
  exact propext (nI_ltI (by decide) ha)
theorem n_m1 {a : Nat} (ha : a < 2 ^ 31) : (nI a = -1) = False := by
  apply eq_false
  intro h
  have h1 := congrArg Int32.toInt h
  rw [nI_toInt ha] at h1
  have h2 : (-1 : Int32).toInt = -1 := by decide
  omega
theorem n_in {a n : Nat} (ha : a < 2 ^ 31) (hn : n < 2 ^ 31) : vp_in (nI a) n = (a < n) := by
  apply propext
  rw [vp_in_iff, nI_toInt ha]
  omega
theorem n_div {a d : Nat} (ha : a < 2 ^ 31) (h0 : 0 < d) (hd : d < 2 ^ 31) : nI a / nI d = nI (a / d) := pk_div ha h0 hd
theorem n_rem {a d : Nat} (ha : a < 2 ^ 31) (h0 : 0 < d) (hd : d < 2 ^ 31) : nI a - nI a / nI d * nI d = nI (a % d) := pk_rem ha h0 hd
theorem n_rem2 {a d : Nat} : nI a - nI (a / d * d) = nI (a % d) := by
  rw [pk_sub (Nat.div_mul_le_self a d), Nat.mod_eq_sub_div_mul]
theorem n_sub {a b : Nat} (h : b ≤ a) : nI a - nI b = nI (a - b) := pk_sub h
theorem bz_0 : bz (nI 0) = True := eq_true (Or.inl rfl)
theorem bz_1 : bz (nI 1) = True := eq_true (Or.inr rfl)
theorem n4 : ¬ nI 4 = 0 := by decide
theorem n16 : ¬ nI 16 = 0 := by decide
theorem n10 : ¬ nI 0 = nI 1 := by decide
theorem n01 : nI 1 ≠ 0 := by decide
theorem n00 : nI 0 = 0 := rfl
/-- an int is negative, or a number -/
theorem i_cases (x : Int32) : x < 0 ∨ ∃ k : Nat, k < 2 ^ 31 ∧ x = nI k := by
  by_cases h : x < 0
  · exact Or.inl h
  · exact Or.inr (nI_of h)
theorem neg_not {x : Int32} (h : x < 0) {k : Nat} (hk : k < 2 ^ 31) : x ≠ nI k := by
  intro e
  rw [e, n_lt0 hk] at h
  exact h
theorem b_if {c : Prop} {A B : Prop} (h : c) (a : A) : (c → A) ∧ (¬ c → B) := ⟨fun _ => a, fun z => absurd h z⟩
/-- truth as an int -/
def tI (b : Bool) : Int32 := if b then nI 1 else nI 0
theorem tI_0 {b : Bool} : (tI b = 0) = (b = false) := by cases b <;> simp [tI] <;> decide
theorem tI_bz {b : Bool} : bz (tI b) = True := by cases b <;> simp [tI, bz] <;> decide
end
section
/-! ===== sets as bits of a long ===== -/
def tbit (x : Int64) (c : Nat) : Bool := x.toBitVec.getLsbD c
theorem tbit_ext {x y : Int64} (h : ∀ c, c < 64 → tbit x c = tbit y c) : x = y := by
  apply Int64.toBitVec_inj.mp
  apply BitVec.eq_of_getLsbD_eq
  intro i hi
  exact h i hi
theorem tbit_or (x y : Int64) (c : Nat) : tbit (x ||| y) c = (tbit x c || tbit y c) := by
  simp [tbit]
theorem tbit_and (x y : Int64) (c : Nat) : tbit (x &&& y) c = (tbit x c && tbit y c) := by
  simp [tbit]
theorem tbit_xor (x y : Int64) (c : Nat) : tbit (x ^^^ y) c = (tbit x c ^^ tbit y c) := by
  simp [tbit]
theorem shl_1 : ∀ k, k < 64 → (lN 1 <<< ((nI k).toInt64 &&& 63)).toBitVec = BitVec.twoPow 64 k := by decide +kernel
theorem tbit_shl {k c : Nat} (hk : k < 64) : tbit (lN 1 <<< ((nI k).toInt64 &&& 63)) c = decide (c = k) := by
  unfold tbit
  rw [shl_1 k hk, BitVec.getLsbD_twoPow]
  by_cases h : k = c
  · subst h; simp [hk]
  · have h2 : ¬ c = k := fun z => h z.symm
    simp [h, h2]
theorem tbit_0 (c : Nat) : tbit (lN 0) c = false := by
  have e : (lN 0).toBitVec = 0#64 := by decide
  simp [tbit, e]
theorem tbit_m2 : ∀ c, c < 64 → tbit (lN 18446744073709551614) c = decide (c ≠ 0) := by decide +kernel
theorem tbit_m1 : ∀ c, c < 64 → tbit (lN 18446744073709551615) c = true := by decide +kernel
theorem tbit_1 : ∀ c, c < 64 → tbit (lN 1) c = decide (c = 0) := by decide +kernel
theorem ushr_k : ∀ k, k < 64 → ((nI k).toInt64.toUInt64 &&& Int64.toUInt64 63).toBitVec % 64 = BitVec.ofNat 64 k := by decide +kernel
theorem tbit_ushr {x : Int64} {k c : Nat} (hk : k < 64) : tbit (x.toUInt64 >>> ((nI k).toInt64.toUInt64 &&& Int64.toUInt64 63)).toInt64 c = tbit x (k + c) := by
  unfold tbit
  have e : (x.toUInt64 >>> ((nI k).toInt64.toUInt64 &&& Int64.toUInt64 63)).toInt64.toBitVec = x.toBitVec >>> (((nI k).toInt64.toUInt64 &&& Int64.toUInt64 63).toBitVec % 64) := rfl
  rw [e, ushr_k k hk]
  simp [BitVec.getLsbD_ushiftRight]
  congr 1
  omega
theorem lg_cmp0 {x y : Int64} : (lg_cmp x y = 0) = (x = y) := by
  unfold lg_cmp
  by_cases h1 : x > y
  · rw [if_pos h1]
    have h2 : ¬ x = y := fun e => by subst e; exact Int64.lt_irrefl h1
    simp only [h2, eq_iff_iff, iff_false]
    decide
  · rw [if_neg h1]
    by_cases h2 : x = y
    · simp [h2]
    · simp only [h2, if_false, eq_iff_iff, iff_false]
      decide
def lOr (P : Nat → Bool) : Nat → Int64
  | 0 => lN 0
  | n + 1 => if P n then lOr P n ||| (lN 1 <<< ((nI n).toInt64 &&& 63)) else lOr P n
theorem tbit_lOr (P : Nat → Bool) : ∀ (n c : Nat), n ≤ 64 → tbit (lOr P n) c = (decide (c < n) && P c)
  | 0, c, _ => by simp [lOr, tbit_0]
  | n + 1, c, h => by
    have ih := tbit_lOr P n c (by omega)
    unfold lOr
    by_cases hc : c = n
    · subst hc
      split
      · rename_i hp
        rw [tbit_or, tbit_shl (by omega)]
        simp [hp]
      · rename_i hp
        rw [ih]
        simp [hp]
    · have h2 : decide (c < n + 1) = decide (c < n) := by
        by_cases h3 : c < n
        · simp [h3]; omega
        · simp [h3]; omega
      split
      · rw [tbit_or, tbit_shl (by omega), ih, h2]
        simp [hc]
      · rw [ih, h2]
theorem lOr_congr {P Q : Nat → Bool} : ∀ {n : Nat}, (∀ c, c < n → P c = Q c) → lOr P n = lOr Q n
  | 0, _ => rfl
  | n + 1, h => by rw [lOr, lOr, lOr_congr (fun c hc => h c (by omega)), h n (by omega)]
theorem lOr_eq {x : Int64} {P : Nat → Bool} (h : ∀ c, c < 64 → tbit x c = P c) : x = lOr P 64 := by
  apply tbit_ext
  intro c hc
  rw [tbit_lOr P 64 c (by omega), h c hc]
  simp [hc]
theorem lOr_0 {P : Nat → Bool} : (lOr P 64 = lN 0) = (∀ c, c < 64 → P c = false) := by
  apply propext
  constructor
  · intro h c hc
    have := tbit_lOr P 64 c (by omega)
    rw [h, tbit_0] at this
    simpa [hc] using this.symm
  · intro h
    apply tbit_ext
    intro c hc
    rw [tbit_lOr P 64 c (by omega), tbit_0, h c hc]
    simp
def iOr (P : Nat → Bool) : Nat → Int32
  | 0 => nI 0
  | n + 1 => if P n then iOr P n ||| (nI 1 <<< (nI n &&& 31)) else iOr P n
theorem iOr_congr {P Q : Nat → Bool} : ∀ {n : Nat}, (∀ c, c < n → P c = Q c) → iOr P n = iOr Q n
  | 0, _ => rfl
  | n + 1, h => by rw [iOr, iOr, iOr_congr (fun c hc => h c (by omega)), h n (by omega)]
end
section
/-! ===== the state as a row of 400 numbers (as the reference keeps it), and what is read off it ===== -/
abbrev St : Type := Nat → Int32
/-- a number of a cluster, 0 for any other -/
def cl (x : Int32) : Nat := if 0 < x ∧ x < nI 64 then x.toNatClampNeg else 0
theorem cl_lt (x : Int32) : cl x < 64 := by
  unfold cl
  split
  · rename_i h
    have h1 := Int32.lt_iff_toInt_lt.mp h.2
    have h2 : (nI 64).toInt = 64 := by decide
    show x.toInt.toNat < 64
    omega
  · decide
theorem cl_n {k : Nat} (h : k < 64) : cl (nI k) = k := by
  unfold cl
  by_cases hk : k = 0
  · subst hk; rfl
  · rw [if_pos ⟨by rw [n_gt0 (by omega)]; omega, by rw [n_lt (by omega) (by omega)]; omega⟩]
    exact nI_clamp (by omega)
theorem cl_le {x : Int32} (h : x ≤ 0) : cl x = 0 := by
  unfold cl
  rw [if_neg]
  exact fun z => Int32.not_lt.mpr h z.1
theorem cl_ge {x : Int32} (h : nI 64 ≤ x) : cl x = 0 := by
  unfold cl
  rw [if_neg]
  exact fun z => Int32.not_lt.mpr h z.2
theorem cl_in {x : Int32} (h : ¬ x ≤ 0) (h2 : ¬ nI 64 ≤ x) : nI (cl x) = x := by
  have h1 := Int32.not_le.mp h
  unfold cl
  rw [if_pos ⟨h1, Int32.not_le.mp h2⟩]
  obtain ⟨k, hk, rfl⟩ := (i_cases x).resolve_left (fun z => Int32.not_lt.mpr (Int32.le_of_lt h1) z)
  rw [nI_clamp hk]
/-- how many layers; who is there (layers 0 to 5, snapshots 6 to 13); tables; data -/
def mn (S : St) : Nat := (S 320).toNatClampNeg
def prs (S : St) (d : Nat) : Bool := if d < 6 then decide (d < mn S) else decide (S (377 + d) = nI 1)
def tb (S : St) (d k : Nat) : Nat := if prs S d then cl (S (327 + 4 * d + k)) else 0
def dt (S : St) (t k : Nat) : Nat := if t = 0 then 0 else cl (S (64 + 4 * t + k))
def dof (S : St) (d b : Nat) : Nat := dt S (tb S d (b / 4)) (b % 4)
theorem tb_lt (S : St) (d k : Nat) : tb S d k < 64 := by
  unfold tb
  split
  · exact cl_lt _
  · decide
theorem dt_lt (S : St) (t k : Nat) : dt S t k < 64 := by
  unfold dt
  split
  · decide
  · exact cl_lt _
theorem dof_lt (S : St) (d b : Nat) : dof S d b < 64 := dt_lt _ _ _
def bk (S : St) (l : Nat) : Int32 := if l < mn S then S (321 + l) else -1
def sn (S : St) (s : Nat) : Int32 := if S (383 + s) = nI 1 then S (391 + s) else -1
/-- what a place of a layer is, by at most so many layers -/
def rdf (S : St) : Nat → Int32 → Nat → Int32
  | 0, _, _ => nI 0
  | f + 1, l, p => if 0 ≤ l ∧ l < nI 6 then (if dof S l.toNatClampNeg (p / 4) = 0 then rdf S f (bk S l.toNatClampNeg) p else S (64 + (4 * dof S l.toNatClampNeg (p / 4) + p % 4))) else nI 0
/-- image i of the heap is S -/
def CR (h : mH) (i : Fin 3) (S : St) : Prop :=
  (∀ j, j < 256 → h (.inl (i, 1)) j = S (64 + j)) ∧ (∀ j, j < 64 → h (.inl (i, 2)) j = S j) ∧ (∀ d k, d < 14 → k < 4 → h (.inl (i, 3)) (4 * d + k) = nI (tb S d k)) ∧ (∀ l, l < 6 → h (.inl (i, 4)) l = bk S l) ∧ (∀ s, s < 8 → h (.inl (i, 5)) s = sn S s) ∧ h (.inl (i, 0)) 5 = nI (mn S) ∧ mn S ≤ 6 ∧ h (.inl (i, 0)) 6 = S 399
/-- truth of an answer -/
theorem pt {c : Prop} [Decidable c] {p : Int32 → mH → Prop} {h : mH} (hp : p (tI (decide c)) h) (hc : c) : p (nI 1) h := by simpa [tI, hc] using hp
theorem pf {c : Prop} [Decidable c] {p : Int32 → mH → Prop} {h : mH} (hp : p (tI (decide c)) h) (hc : ¬ c) : p (nI 0) h := by simpa [tI, hc] using hp
/-- truth of any statement -/
noncomputable def dec (c : Prop) : Bool := @decide c (Classical.propDecidable c)
theorem dec_t {c : Prop} : (dec c = true) = c := by
  unfold dec
  exact propext (@decide_eq_true_iff c (Classical.propDecidable c))
theorem dec_f {c : Prop} : (dec c = false) = ¬ c := by
  apply propext
  rw [← Bool.not_eq_true, dec_t]
theorem dec_iff {a b : Prop} (h : a ↔ b) : dec a = dec b := by rw [propext h]
theorem dec_or {a b : Prop} : (dec a || dec b) = dec (a ∨ b) := by
  rw [Bool.eq_iff_iff]
  simp only [Bool.or_eq_true, dec_t]
theorem dec_and {a b : Prop} : (dec a && dec b) = dec (a ∧ b) := by
  rw [Bool.eq_iff_iff]
  simp only [Bool.and_eq_true, dec_t]
theorem dec_dec {c : Prop} [Decidable c] : decide c = dec c := by
  rw [Bool.eq_iff_iff]
  simp only [decide_eq_true_eq, dec_t]
theorem bool_dec (b : Bool) : b = dec (b = true) := by
  rw [Bool.eq_iff_iff]
  simp only [dec_t]
theorem pdt {c : Prop} {p : Int32 → mH → Prop} {h : mH} (hp : p (tI (dec c)) h) (hc : c) : p (nI 1) h := by
  rw [show dec c = true by rw [dec_t]; exact hc] at hp; exact hp
theorem pdf {c : Prop} {p : Int32 → mH → Prop} {h : mH} (hp : p (tI (dec c)) h) (hc : ¬ c) : p (nI 0) h := by
  rw [show dec c = false by rw [dec_f]; exact hc] at hp; exact hp
/-- cells alike -/
def alk (S : St) (c e : Nat) : Prop := ∀ k, k < 4 → S (64 + 4 * c + k) = S (64 + 4 * e + k)
/-- a table that a directory of a holder from a on below b names; data that tables name -/
def isT (S : St) (a b t : Nat) : Prop := t ≠ 0 ∧ ∃ d k, a ≤ d ∧ d < b ∧ k < 4 ∧ tb S d k = t
def isD (S : St) (P : Nat → Bool) (c : Nat) : Prop := c ≠ 0 ∧ ∃ t k, 1 ≤ t ∧ t < 64 ∧ k < 4 ∧ P t = true ∧ dt S t k = c
end
section
/-! ===== class Image: what it reads ===== -/
section IMG
variable {sL d : Nat} {h : mH} {i : Fin 3} {S : St} {p : Int32 → mH → Prop}
theorem k_hasLayer {x : Int32} (hC : CR h i S) (hp : p (tI (decide (¬ x < 0 ∧ x < nI (mn S)))) h) : mI (Kd sL (d + 1)) 1 [.inr (.inr (.inl (i, 0))), .inl x] h p := by
  refine ke_X0_hasLayer ?_
  refine EX.go (Kd_mono _ _) [false, false, false, false, false, false] 40 0 ?_
  dsimp only [wpc_s, wsl_t, wsl_f, gD_0, gD_s, ↓denB_n, pI_s, pG_s, pU_n, cb_X0_hasLayer_0, cb_X0_hasLayer_1, cb_X0_hasLayer_2, cb_X0_hasLayer_3, cb_X0_hasLayer_4, cb_X0_hasLayer_5, ↓ev_iload_n_1, ↓ev_if_lt, ↓ev_aload_n_0, ↓ev_getf_0_5, ↓ev_icmp_ge, ↓ev_bipush_6, ↓ev_iconst_1, ↓ev_goto, ↓ev_iconst_0, ↓ev_zret, Nat.reduceAdd]
  obtain ⟨-, -, -, -, -, h5, h6, -⟩ := hC
  rw [h5]
  have hb : nI (mn S) ≤ nI 6 := nI_le h6 (by decide)
  refine ⟨fun c => ⟨Or.inl rfl, pf hp (fun z => z.1 c)⟩, fun c => ⟨fun c2 => ⟨Or.inl rfl, pf hp (fun z => Int32.not_lt.mpr c2 z.2)⟩, fun c2 => ⟨fun c3 => absurd (Int32.le_trans hb c3) c2, fun c3 => ⟨Or.inr rfl, pt hp ⟨c, Int32.not_le.mp c2⟩⟩⟩⟩⟩
theorem k_hasBacking {x : Int32} (hC : CR h i S) (hp : p (tI (decide (x = -1 ∨ (¬ x < 0 ∧ x < nI (mn S))))) h) : mI (Kd sL (d + 2)) 2 [.inr (.inr (.inl (i, 0))), .inl x] h p := by
  refine ke_X0_hasBacking ?_
  refine EX.go (Kd_mono _ _) [false, false, false, false, false] 40 0 ?_
  dsimp only [wpc_s, wsl_t, wsl_f, gD_0, gD_s, ↓denB_n, pI_s, pG_s, pU_n, cb_X0_hasBacking_0, cb_X0_hasBacking_1, cb_X0_hasBacking_2, cb_X0_hasBacking_3, cb_X0_hasBacking_4, ↓ev_iload_n_1, ↓ev_iconst_m1, ↓ev_icmp_eq, ↓ev_aload_n_0, ↓ev_callv_2_0_1, ↓ev_callv_2_1_1, ↓ev_callv_2_2_1, ↓ev_callv_2_3_1, ↓ev_callv_2_4_1, ↓ev_if_eq, ↓ev_iconst_1, ↓ev_goto, ↓ev_iconst_0, ↓ev_zret, Nat.reduceAdd]
  refine ⟨fun c => ⟨Or.inr rfl, pt hp (Or.inl c)⟩, fun c => k_hasLayer hC ?_⟩
  try simp (disch := omega) only [pk_mul, nI_add, n_lt0, n_le0, n_eq0, n_ge0, n_gt0, n_lt, n_le, n_eq, n_in, n_div, n_rem, n_rem2, n_m1, nI_clamp, bz_0, bz_1, tI_0, tI_bz, n4, n16, eq_self, Nat.reduceLT, Nat.reduceLeDiff, Nat.reduceEqDiff, Nat.reduceAdd, Nat.reduceMul, Nat.reduceDiv, Nat.reduceMod, Nat.le_refl, decide_eq_false_iff_not, Classical.not_not, true_and, and_true, false_and, and_false, not_true_eq_false, not_false_eq_true, forall_const, true_implies, false_implies, implies_true, ne_eq]
  exact ⟨fun c2 => pf hp (fun z => z.elim c c2), fun c2 => pt hp (Or.inr c2)⟩
theorem k_hasSnapshot {x : Int32} (hC : CR h i S) (hp : p (tI (decide (¬ x < 0 ∧ x < nI 8 ∧ ¬ sn S x.toNatClampNeg = -1))) h) : mI (Kd sL (d + 1)) 3 [.inr (.inr (.inl (i, 0))), .inl x] h p := by
  refine ke_X0_hasSnapshot ?_
  refine EX.go (Kd_mono _ _) [false, false, false, false, false, false] 40 0 ?_
  dsimp only [wpc_s, wsl_t, wsl_f, gD_0, gD_s, ↓denB_n, pI_s, pG_s, pU_n, cb_X0_hasSnapshot_0, cb_X0_hasSnapshot_1, cb_X0_hasSnapshot_2, cb_X0_hasSnapshot_3, cb_X0_hasSnapshot_4, cb_X0_hasSnapshot_5, ↓ev_iload_n_1, ↓ev_if_lt, ↓ev_bipush_8, ↓ev_icmp_ge, ↓ev_aload_n_0, ↓ev_getf_0_4, ↓ev_iald_m1, ↓ev_iald_m2, ↓ev_iald_m3, ↓ev_iald_m4, ↓ev_iald_m5, ↓ev_iald_m6, ↓ev_iconst_m1, ↓ev_icmp_eq, ↓ev_iconst_1, ↓ev_goto, ↓ev_iconst_0, ↓ev_zret, Nat.reduceAdd]
  refine ⟨fun c => ⟨Or.inl rfl, pf hp (fun z => z.1 c)⟩, fun c => ⟨fun c2 => ⟨Or.inl rfl, pf hp (fun z => Int32.not_lt.mpr c2 z.2.1)⟩, fun c2 => ?_⟩⟩
  obtain ⟨k, hk, rfl⟩ := (i_cases x).resolve_left c
  have hk8 : k < 8 := by
    have := c2
    try simp (disch := omega) only [pk_mul, nI_add, n_lt0, n_le0, n_eq0, n_ge0, n_gt0, n_lt, n_le, n_eq, n_in, n_div, n_rem, n_rem2, n_m1, nI_clamp, bz_0, bz_1, tI_0, tI_bz, n4, n16, eq_self, Nat.reduceLT, Nat.reduceLeDiff, Nat.reduceEqDiff, Nat.reduceAdd, Nat.reduceMul, Nat.reduceDiv, Nat.reduceMod, Nat.le_refl, decide_eq_false_iff_not, Classical.not_not, true_and, and_true, false_and, and_false, not_true_eq_false, not_false_eq_true, forall_const, true_implies, false_implies, implies_true, ne_eq] at this
    omega
  have e : h (.inl (i, 5)) k = sn S k := hC.2.2.2.2.1 k hk8
  try simp (disch := omega) only [pk_mul, nI_add, n_lt0, n_le0, n_eq0, n_ge0, n_gt0, n_lt, n_le, n_eq, n_in, n_div, n_rem, n_rem2, n_m1, nI_clamp, bz_0, bz_1, tI_0, tI_bz, n4, n16, eq_self, Nat.reduceLT, Nat.reduceLeDiff, Nat.reduceEqDiff, Nat.reduceAdd, Nat.reduceMul, Nat.reduceDiv, Nat.reduceMod, Nat.le_refl, decide_eq_false_iff_not, Classical.not_not, true_and, and_true, false_and, and_false, not_true_eq_false, not_false_eq_true, forall_const, true_implies, false_implies, implies_true, ne_eq, e]
  rw [nI_clamp hk] at hp
  exact ⟨hk8, fun c3 => pf hp (fun z => z.2.2 c3), fun c3 => pt hp ⟨c, Int32.not_le.mp c2, c3⟩⟩
theorem k_tableAt {dd k : Nat} (hC : CR h i S) (hd : dd < 14) (hk : k < 4) (hp : p (nI (tb S dd k)) h) : mI (Kd sL (d + 1)) 9 [.inr (.inr (.inl (i, 0))), .inl (nI dd), .inl (nI k)] h p := by
  refine ke_X0_tableAt ?_
  refine EX.go (Kd_mono _ _) [false, false, false, false, false, false, false, false, false] 40 0 ?_
  dsimp only [wpc_s, wsl_t, wsl_f, gD_0, gD_s, ↓denB_n, pI_s, pG_s, pU_n, cb_X0_tableAt_0, cb_X0_tableAt_1, cb_X0_tableAt_2, cb_X0_tableAt_3, cb_X0_tableAt_4, cb_X0_tableAt_5, cb_X0_tableAt_6, cb_X0_tableAt_7, cb_X0_tableAt_8, ↓ev_iload_n_1, ↓ev_iconst_4, ↓ev_imul, ↓ev_iload_n_2, ↓ev_iadd, ↓ev_istore_n_3, ↓ev_iload_n_3, ↓ev_if_lt, ↓ev_aload_n_0, ↓ev_getf_0_2, ↓ev_alen_m1, ↓ev_alen_m2, ↓ev_alen_m3, ↓ev_alen_m4, ↓ev_alen_m5, ↓ev_alen_m6, ↓ev_icmp_ge, ↓ev_iald_m1, ↓ev_iald_m2, ↓ev_iald_m3, ↓ev_iald_m4, ↓ev_iald_m5, ↓ev_iald_m6, ↓ev_goto, ↓ev_iconst_0, ↓ev_istore_4, ↓ev_iload_4, ↓ev_if_le, ↓ev_bipush_64, ↓ev_iret, Nat.reduceAdd]
  have e : h (.inl (i, 3)) (dd * 4 + k) = nI (tb S dd k) := by rw [Nat.mul_comm]; exact hC.2.2.1 dd k hd hk
  have hl := tb_lt S dd k
  try simp (disch := omega) only [pk_mul, nI_add, n_lt0, n_le0, n_eq0, n_ge0, n_gt0, n_lt, n_le, n_eq, n_in, n_div, n_rem, n_rem2, n_m1, nI_clamp, bz_0, bz_1, tI_0, tI_bz, n4, n16, eq_self, Nat.reduceLT, Nat.reduceLeDiff, Nat.reduceEqDiff, Nat.reduceAdd, Nat.reduceMul, Nat.reduceDiv, Nat.reduceMod, Nat.le_refl, decide_eq_false_iff_not, Classical.not_not, true_and, and_true, false_and, and_false, not_true_eq_false, not_false_eq_true, forall_const, true_implies, false_implies, implies_true, ne_eq, e]
  refine ⟨fun c => absurd c (by omega), fun c => ⟨by omega, fun c2 => ?_, fun c2 => ⟨fun c3 => absurd c3 (by omega), fun _ => hp⟩⟩⟩
  rw [c2] at hp
  exact hp
theorem k_dataAt {t k : Nat} (hC : CR h i S) (ht : t < 64) (hk : k < 4) (hp : p (nI (dt S t k)) h) : mI (Kd sL (d + 1)) 10 [.inr (.inr (.inl (i, 0))), .inl (nI t), .inl (nI k)] h p := by
  refine ke_X0_dataAt ?_
  refine EX.go (Kd_mono _ _) [false, false, false, false, false, false, false, false, false] 40 0 ?_
  dsimp only [wpc_s, wsl_t, wsl_f, gD_0, gD_s, ↓denB_n, pI_s, pG_s, pU_n, cb_X0_dataAt_0, cb_X0_dataAt_1, cb_X0_dataAt_2, cb_X0_dataAt_3, cb_X0_dataAt_4, cb_X0_dataAt_5, cb_X0_dataAt_6, cb_X0_dataAt_7, cb_X0_dataAt_8, ↓ev_iload_n_1, ↓ev_iconst_4, ↓ev_imul, ↓ev_iload_n_2, ↓ev_iadd, ↓ev_istore_n_3, ↓ev_iload_n_3, ↓ev_icmp_lt, ↓ev_aload_n_0, ↓ev_getf_0_0, ↓ev_alen_m1, ↓ev_alen_m2, ↓ev_alen_m3, ↓ev_alen_m4, ↓ev_alen_m5, ↓ev_alen_m6, ↓ev_icmp_ge, ↓ev_iald_m1, ↓ev_iald_m2, ↓ev_iald_m3, ↓ev_iald_m4, ↓ev_iald_m5, ↓ev_iald_m6, ↓ev_goto, ↓ev_iconst_0, ↓ev_istore_4, ↓ev_iload_4, ↓ev_if_le, ↓ev_bipush_64, ↓ev_iret, Nat.reduceAdd]
  have e : h (.inl (i, 1)) (t * 4 + k) = S (64 + 4 * t + k) := by rw [hC.1 _ (by omega)]; congr 1; omega
  try simp (disch := omega) only [pk_mul, nI_add, n_lt0, n_le0, n_eq0, n_ge0, n_gt0, n_lt, n_le, n_eq, n_in, n_div, n_rem, n_rem2, n_m1, nI_clamp, bz_0, bz_1, tI_0, tI_bz, n4, n16, eq_self, Nat.reduceLT, Nat.reduceLeDiff, Nat.reduceEqDiff, Nat.reduceAdd, Nat.reduceMul, Nat.reduceDiv, Nat.reduceMod, Nat.le_refl, decide_eq_false_iff_not, Classical.not_not, true_and, and_true, false_and, and_false, not_true_eq_false, not_false_eq_true, forall_const, true_implies, false_implies, implies_true, ne_eq, e]
  unfold dt at hp
  refine ⟨fun c => ?_, fun c => ⟨fun c2 => absurd c2 (by omega), fun c2 => ⟨by omega, ?_⟩⟩⟩
  · rwa [if_pos (by omega)] at hp
  · rw [if_neg (by omega)] at hp
    refine ⟨fun c3 => ?_, fun c3 => ⟨fun c4 => ?_, fun c4 => ?_⟩⟩
    · rwa [cl_le c3] at hp
    · rwa [cl_ge c4] at hp
    · rwa [cl_in c3 c4] at hp
theorem k_dataOf {dd b : Nat} (hC : CR h i S) (hd : dd < 14) (hb : b < 16) (hp : p (nI (dof S dd b)) h) : mI (Kd sL (d + 2)) 11 [.inr (.inr (.inl (i, 0))), .inl (nI dd), .inl (nI b)] h p := by
  refine ke_X0_dataOf ?_
  refine EX.go (Kd_mono _ _) [false] 40 0 ?_
  dsimp only [wpc_s, wsl_t, wsl_f, gD_0, gD_s, ↓denB_n, pI_s, pG_s, pU_n, cb_X0_dataOf_0, ↓ev_aload_n_0, ↓ev_iload_n_1, ↓ev_iload_n_2, ↓ev_iconst_4, ↓ev_idiv, ↓ev_callv_3_0_1, ↓ev_callv_3_1_1, ↓ev_callv_3_2_1, ↓ev_callv_3_3_1, ↓ev_callv_3_4_1, ↓ev_irem, ↓ev_iret, Nat.reduceAdd]
  try simp (disch := omega) only [pk_mul, nI_add, n_lt0, n_le0, n_eq0, n_ge0, n_gt0, n_lt, n_le, n_eq, n_in, n_div, n_rem, n_rem2, n_m1, nI_clamp, bz_0, bz_1, tI_0, tI_bz, n4, n16, eq_self, Nat.reduceLT, Nat.reduceLeDiff, Nat.reduceEqDiff, Nat.reduceAdd, Nat.reduceMul, Nat.reduceDiv, Nat.reduceMod, Nat.le_refl, decide_eq_false_iff_not, Classical.not_not, true_and, and_true, false_and, and_false, not_true_eq_false, not_false_eq_true, forall_const, true_implies, false_implies, implies_true, ne_eq]
  refine k_tableAt hC hd (by omega) ?_
  refine k_dataAt hC (tb_lt _ _ _) (by omega) ?_
  exact hp
theorem k_at {pl : Nat} {x : Int32} (hC : CR h i S) (hpl : pl < 64) (hp : p (rdf S 6 x pl) h) : mI (Kd sL (d + 2)) 13 [.inr (.inr (.inl (i, 0))), .inl x, .inl (nI pl)] h p := by
  refine ke_X0_at ?_
  refine EX.go (Kd_mono _ _) [false, true, false, false, false, false, false, false] 40 0 ?_
  dsimp only [wpc_s, wsl_t, wsl_f, gD_0, gD_s, ↓denB_n, pI_s, pG_s, pU_n, cb_X0_at_0, cb_X0_at_1, cb_X0_at_2, cb_X0_at_3, cb_X0_at_4, cb_X0_at_5, cb_X0_at_6, cb_X0_at_7, ↓ev_iload_n_1, ↓ev_istore_n_3, ↓ev_iconst_0, ↓ev_istore_4, ↓ev_iload_4, ↓ev_bipush_6, ↓ev_icmp_ge, ↓ev_iload_n_3, ↓ev_if_lt, ↓ev_aload_n_0, ↓ev_iload_n_2, ↓ev_bipush_16, ↓ev_idiv, ↓ev_callv_3_0_1, ↓ev_callv_3_1_1, ↓ev_callv_3_2_1, ↓ev_callv_3_3_1, ↓ev_callv_3_4_1, ↓ev_iconst_4, ↓ev_irem, ↓ev_istore_5, ↓ev_iload_5, ↓ev_if_eq, ↓ev_getf_0_0, ↓ev_imul, ↓ev_iadd, ↓ev_iald_m1, ↓ev_iald_m2, ↓ev_iald_m3, ↓ev_iald_m4, ↓ev_iald_m5, ↓ev_iald_m6, ↓ev_iret, ↓ev_getf_0_3, ↓ev_iinc_4_1, ↓ev_goto, Nat.reduceAdd]
  suffices H : ∀ (f k : Nat) (l : Int32) (o : Option mV), k + f = 6 → p (rdf S f l pl) h → EX (Kd sL (d + 1)) sL md_X0_at (pI p) 1 [some (.inr (.inr (.inl (i, 0)))), some (.inl x), some (.inl (nI pl)), some (.inl l), some (.inl (nI k)), o] [] h from H 6 0 x none rfl hp
  intro f
  induction f with
  | zero =>
    intro k l o hk hp
    refine EX.go (Kd_mono _ _) [false, true, false, false, false, false, false, false] 40 1 ?_
    dsimp only [wpc_s, wsl_t, wsl_f, gD_0, gD_s, ↓denB_n, pI_s, pG_s, pU_n, cb_X0_at_0, cb_X0_at_1, cb_X0_at_2, cb_X0_at_3, cb_X0_at_4, cb_X0_at_5, cb_X0_at_6, cb_X0_at_7, ↓ev_iload_n_1, ↓ev_istore_n_3, ↓ev_iconst_0, ↓ev_istore_4, ↓ev_iload_4, ↓ev_bipush_6, ↓ev_icmp_ge, ↓ev_iload_n_3, ↓ev_if_lt, ↓ev_aload_n_0, ↓ev_iload_n_2, ↓ev_bipush_16, ↓ev_idiv, ↓ev_callv_3_0_1, ↓ev_callv_3_1_1, ↓ev_callv_3_2_1, ↓ev_callv_3_3_1, ↓ev_callv_3_4_1, ↓ev_iconst_4, ↓ev_irem, ↓ev_istore_5, ↓ev_iload_5, ↓ev_if_eq, ↓ev_getf_0_0, ↓ev_imul, ↓ev_iadd, ↓ev_iald_m1, ↓ev_iald_m2, ↓ev_iald_m3, ↓ev_iald_m4, ↓ev_iald_m5, ↓ev_iald_m6, ↓ev_iret, ↓ev_getf_0_3, ↓ev_iinc_4_1, ↓ev_goto, Nat.reduceAdd]
    try simp (disch := omega) only [pk_mul, nI_add, n_lt0, n_le0, n_eq0, n_ge0, n_gt0, n_lt, n_le, n_eq, n_in, n_div, n_rem, n_rem2, n_m1, nI_clamp, bz_0, bz_1, tI_0, tI_bz, n4, n16, eq_self, Nat.reduceLT, Nat.reduceLeDiff, Nat.reduceEqDiff, Nat.reduceAdd, Nat.reduceMul, Nat.reduceDiv, Nat.reduceMod, Nat.le_refl, decide_eq_false_iff_not, Classical.not_not, true_and, and_true, false_and, and_false, not_true_eq_false, not_false_eq_true, forall_const, true_implies, false_implies, implies_true, ne_eq]
    exact ⟨fun _ => hp, fun c => absurd (show 6 ≤ k by omega) c⟩
  | succ f ih =>
    intro k l o hk hp
    refine EX.go (Kd_mono _ _) [false, true, false, false, false, false, false, false] 40 1 ?_
    dsimp only [wpc_s, wsl_t, wsl_f, gD_0, gD_s, ↓denB_n, pI_s, pG_s, pU_n, cb_X0_at_0, cb_X0_at_1, cb_X0_at_2, cb_X0_at_3, cb_X0_at_4, cb_X0_at_5, cb_X0_at_6, cb_X0_at_7, ↓ev_iload_n_1, ↓ev_istore_n_3, ↓ev_iconst_0, ↓ev_istore_4, ↓ev_iload_4, ↓ev_bipush_6, ↓ev_icmp_ge, ↓ev_iload_n_3, ↓ev_if_lt, ↓ev_aload_n_0, ↓ev_iload_n_2, ↓ev_bipush_16, ↓ev_idiv, ↓ev_callv_3_0_1, ↓ev_callv_3_1_1, ↓ev_callv_3_2_1, ↓ev_callv_3_3_1, ↓ev_callv_3_4_1, ↓ev_iconst_4, ↓ev_irem, ↓ev_istore_5, ↓ev_iload_5, ↓ev_if_eq, ↓ev_getf_0_0, ↓ev_imul, ↓ev_iadd, ↓ev_iald_m1, ↓ev_iald_m2, ↓ev_iald_m3, ↓ev_iald_m4, ↓ev_iald_m5, ↓ev_iald_m6, ↓ev_iret, ↓ev_getf_0_3, ↓ev_iinc_4_1, ↓ev_goto, Nat.reduceAdd]
    try simp (disch := omega) only [pk_mul, nI_add, n_lt0, n_le0, n_eq0, n_ge0, n_gt0, n_lt, n_le, n_eq, n_in, n_div, n_rem, n_rem2, n_m1, nI_clamp, bz_0, bz_1, tI_0, tI_bz, n4, n16, eq_self, Nat.reduceLT, Nat.reduceLeDiff, Nat.reduceEqDiff, Nat.reduceAdd, Nat.reduceMul, Nat.reduceDiv, Nat.reduceMod, Nat.le_refl, decide_eq_false_iff_not, Classical.not_not, true_and, and_true, false_and, and_false, not_true_eq_false, not_false_eq_true, forall_const, true_implies, false_implies, implies_true, ne_eq]
    refine ⟨fun c => absurd c (by omega), fun _ => ⟨fun c => ?_, fun c => ⟨fun c2 => ?_, fun c2 => ?_⟩⟩⟩
    · rwa [rdf, if_neg (fun z => Int32.not_lt.mpr z.1 c)] at hp
    · rwa [rdf, if_neg (fun z => Int32.not_lt.mpr c2 z.2)] at hp
    · obtain ⟨l, hl, rfl⟩ := (i_cases l).resolve_left c
      have hl6 : l < 6 := by
        have := c2
        try simp (disch := omega) only [pk_mul, nI_add, n_lt0, n_le0, n_eq0, n_ge0, n_gt0, n_lt, n_le, n_eq, n_in, n_div, n_rem, n_rem2, n_m1, nI_clamp, bz_0, bz_1, tI_0, tI_bz, n4, n16, eq_self, Nat.reduceLT, Nat.reduceLeDiff, Nat.reduceEqDiff, Nat.reduceAdd, Nat.reduceMul, Nat.reduceDiv, Nat.reduceMod, Nat.le_refl, decide_eq_false_iff_not, Classical.not_not, true_and, and_true, false_and, and_false, not_true_eq_false, not_false_eq_true, forall_const, true_implies, false_implies, implies_true, ne_eq] at this
        omega
      rw [rdf, if_pos ⟨Int32.not_lt.mp c, Int32.not_le.mp c2⟩, nI_clamp hl] at hp
      refine k_tableAt hC (by omega) (by omega) ?_
      refine k_dataAt hC (tb_lt _ _ _) (by omega) ?_
      have e0 : dt S (tb S l (pl / 16)) (pl / 4 % 4) = dof S l (pl / 4) := by
        unfold dof
        congr 2
        omega
      rw [e0]
      have hdl := dof_lt S l (pl / 4)
      have e : h (.inl (i, 1)) (dof S l (pl / 4) * 4 + pl % 4) = S (64 + (4 * dof S l (pl / 4) + pl % 4)) := by rw [hC.1 _ (by omega), Nat.mul_comm]
      try simp (disch := omega) only [pk_mul, nI_add, n_lt0, n_le0, n_eq0, n_ge0, n_gt0, n_lt, n_le, n_eq, n_in, n_div, n_rem, n_rem2, n_m1, nI_clamp, bz_0, bz_1, tI_0, tI_bz, n4, n16, eq_self, Nat.reduceLT, Nat.reduceLeDiff, Nat.reduceEqDiff, Nat.reduceAdd, Nat.reduceMul, Nat.reduceDiv, Nat.reduceMod, Nat.le_refl, decide_eq_false_iff_not, Classical.not_not, true_and, and_true, false_and, and_false, not_true_eq_false, not_false_eq_true, forall_const, true_implies, false_implies, implies_true, ne_eq, e]
      refine ⟨fun c3 => ?_, fun c3 => ⟨by omega, ?_⟩⟩
      · rw [if_pos c3] at hp
        refine ⟨by omega, ?_⟩
        rw [hC.2.2.2.1 l hl6]
        exact ih (k + 1) (bk S l) _ (by omega) hp
      · rwa [if_neg c3] at hp
theorem k_isIn {P : Nat → Bool} {c : Nat} (hc : c < 64) (hp : p (tI (P c)) h) : mI (Kd sL (d + 1)) 98 [.inr (.inl (lOr P 64)), .inl (nI c)] h p := by
  refine ke_X3_isIn ?_
  refine EX.go (Kd_mono _ _) [false, false, false, false] 40 0 ?_
  dsimp only [wpc_s, wsl_t, wsl_f, gD_0, gD_s, ↓denB_n, pI_s, pG_s, pU_n, cb_X3_isIn_0, cb_X3_isIn_1, cb_X3_isIn_2, cb_X3_isIn_3, ↓ev_lload_n_0, ↓ev_iload_n_2, ↓ev_lushr, ↓ev_lconst_1, ↓ev_land, ↓ev_lconst_0, ↓ev_lcmp, ↓ev_if_eq, ↓ev_iconst_1, ↓ev_goto, ↓ev_iconst_0, ↓ev_zret, Nat.reduceAdd]
  try simp (disch := omega) only [pk_mul, nI_add, n_lt0, n_le0, n_eq0, n_ge0, n_gt0, n_lt, n_le, n_eq, n_in, n_div, n_rem, n_rem2, n_m1, nI_clamp, bz_0, bz_1, tI_0, tI_bz, n4, n16, eq_self, Nat.reduceLT, Nat.reduceLeDiff, Nat.reduceEqDiff, Nat.reduceAdd, Nat.reduceMul, Nat.reduceDiv, Nat.reduceMod, Nat.le_refl, decide_eq_false_iff_not, Classical.not_not, true_and, and_true, false_and, and_false, not_true_eq_false, not_false_eq_true, forall_const, true_implies, false_implies, implies_true, ne_eq, lg_cmp0]
  have key : (((lOr P 64).toUInt64 >>> ((nI c).toInt64.toUInt64 &&& Int64.toUInt64 63)).toInt64 &&& lN 1 = lN 0) = (P c = false) := by
    apply propext
    have hb : ∀ j, j < 64 → tbit ((((lOr P 64).toUInt64 >>> ((nI c).toInt64.toUInt64 &&& Int64.toUInt64 63)).toInt64 &&& lN 1)) j = (P c && decide (j = 0)) := by
      intro j hj
      rw [tbit_and, tbit_ushr hc, tbit_1 j hj]
      by_cases h0 : j = 0
      · subst h0
        rw [Nat.add_zero, tbit_lOr P 64 c (by omega)]
        simp [hc]
      · simp [h0]
    constructor
    · intro e
      have h1 := hb 0 (by decide)
      rw [e, tbit_0] at h1
      simpa using h1.symm
    · intro e
      apply tbit_ext
      intro j hj
      rw [hb j hj, tbit_0, e]
      rfl
  rw [key]
  refine ⟨fun c2 => ?_, fun c2 => ?_⟩
  · rw [c2] at hp; exact hp
  · rw [show P c = true by simpa using c2] at hp; exact hp
theorem k_isCluster {x : Int32} (hp : p (tI (decide (0 < x ∧ x < nI 64))) h) : mI (Kd sL (d + 1)) 97 [.inl x] h p := by
  refine ke_X3_isCluster ?_
  refine EX.go (Kd_mono _ _) [false, false, false, false, false] 40 0 ?_
  dsimp only [wpc_s, wsl_t, wsl_f, gD_0, gD_s, ↓denB_n, pI_s, pG_s, pU_n, cb_X3_isCluster_0, cb_X3_isCluster_1, cb_X3_isCluster_2, cb_X3_isCluster_3, cb_X3_isCluster_4, ↓ev_iload_n_0, ↓ev_if_le, ↓ev_bipush_64, ↓ev_icmp_ge, ↓ev_iconst_1, ↓ev_goto, ↓ev_iconst_0, ↓ev_zret, Nat.reduceAdd]
  try simp (disch := omega) only [pk_mul, nI_add, n_lt0, n_le0, n_eq0, n_ge0, n_gt0, n_lt, n_le, n_eq, n_in, n_div, n_rem, n_rem2, n_m1, nI_clamp, bz_0, bz_1, tI_0, tI_bz, n4, n16, eq_self, Nat.reduceLT, Nat.reduceLeDiff, Nat.reduceEqDiff, Nat.reduceAdd, Nat.reduceMul, Nat.reduceDiv, Nat.reduceMod, Nat.le_refl, decide_eq_false_iff_not, Classical.not_not, true_and, and_true, false_and, and_false, not_true_eq_false, not_false_eq_true, forall_const, true_implies, false_implies, implies_true, ne_eq]
  exact ⟨fun c => pf hp (fun z => Int32.not_lt.mpr c z.1), fun c => ⟨fun c2 => pf hp (fun z => Int32.not_lt.mpr c2 z.2), fun c2 => pt hp ⟨Int32.not_le.mp c, Int32.not_le.mp c2⟩⟩⟩
theorem k_alike {c e : Nat} (hC : CR h i S) (hc : c < 64) (he : e < 64) (hp : p (tI (dec (alk S c e))) h) : mI (Kd sL (d + 1)) 16 [.inr (.inr (.inl (i, 0))), .inl (nI c), .inl (nI e)] h p := by
  refine ke_X0_alike ?_
  refine EX.go (Kd_mono _ _) [false, true, false, false, false, false] 40 0 ?_
  dsimp only [wpc_s, wsl_t, wsl_f, gD_0, gD_s, ↓denB_n, pI_s, pG_s, pU_n, cb_X0_alike_0, cb_X0_alike_1, cb_X0_alike_2, cb_X0_alike_3, cb_X0_alike_4, cb_X0_alike_5, ↓ev_iconst_0, ↓ev_istore_n_3, ↓ev_iload_n_3, ↓ev_iconst_4, ↓ev_icmp_ge, ↓ev_aload_n_0, ↓ev_getf_0_0, ↓ev_iload_n_1, ↓ev_imul, ↓ev_iadd, ↓ev_iald_m1, ↓ev_iald_m2, ↓ev_iald_m3, ↓ev_iald_m4, ↓ev_iald_m5, ↓ev_iald_m6, ↓ev_iload_n_2, ↓ev_icmp_eq, ↓ev_zret, ↓ev_iinc_3_1, ↓ev_goto, ↓ev_iconst_1, Nat.reduceAdd]
  suffices H : ∀ (f k : Nat), k + f = 4 → (∀ j, j < k → S (64 + 4 * c + j) = S (64 + 4 * e + j)) → EX (Kd sL d) sL md_X0_alike (pI p) 1 [some (.inr (.inr (.inl (i, 0)))), some (.inl (nI c)), some (.inl (nI e)), some (.inl (nI k))] [] h from H 4 0 rfl (fun j hj => absurd hj (Nat.not_lt_zero j))
  intro f
  induction f with
  | zero =>
    intro k hk hj
    refine EX.go (Kd_mono _ _) [false, true, false, false, false, false] 40 1 ?_
    dsimp only [wpc_s, wsl_t, wsl_f, gD_0, gD_s, ↓denB_n, pI_s, pG_s, pU_n, cb_X0_alike_0, cb_X0_alike_1, cb_X0_alike_2, cb_X0_alike_3, cb_X0_alike_4, cb_X0_alike_5, ↓ev_iconst_0, ↓ev_istore_n_3, ↓ev_iload_n_3, ↓ev_iconst_4, ↓ev_icmp_ge, ↓ev_aload_n_0, ↓ev_getf_0_0, ↓ev_iload_n_1, ↓ev_imul, ↓ev_iadd, ↓ev_iald_m1, ↓ev_iald_m2, ↓ev_iald_m3, ↓ev_iald_m4, ↓ev_iald_m5, ↓ev_iald_m6, ↓ev_iload_n_2, ↓ev_icmp_eq, ↓ev_zret, ↓ev_iinc_3_1, ↓ev_goto, ↓ev_iconst_1, Nat.reduceAdd]
    try simp (disch := omega) only [pk_mul, nI_add, n_lt0, n_le0, n_eq0, n_ge0, n_gt0, n_lt, n_le, n_eq, n_in, n_div, n_rem, n_rem2, n_m1, nI_clamp, bz_0, bz_1, tI_0, tI_bz, n4, n16, eq_self, Nat.reduceLT, Nat.reduceLeDiff, Nat.reduceEqDiff, Nat.reduceAdd, Nat.reduceMul, Nat.reduceDiv, Nat.reduceMod, Nat.le_refl, decide_eq_false_iff_not, Classical.not_not, true_and, and_true, false_and, and_false, not_true_eq_false, not_false_eq_true, forall_const, true_implies, false_implies, implies_true, ne_eq]
    refine ⟨fun _ => pdt hp (fun j hj2 => hj j (by omega)), fun c2 => absurd (show 4 ≤ k by omega) c2⟩
  | succ f ih =>
    intro k hk hj
    refine EX.go (Kd_mono _ _) [false, true, false, false, false, false] 40 1 ?_
    dsimp only [wpc_s, wsl_t, wsl_f, gD_0, gD_s, ↓denB_n, pI_s, pG_s, pU_n, cb_X0_alike_0, cb_X0_alike_1, cb_X0_alike_2, cb_X0_alike_3, cb_X0_alike_4, cb_X0_alike_5, ↓ev_iconst_0, ↓ev_istore_n_3, ↓ev_iload_n_3, ↓ev_iconst_4, ↓ev_icmp_ge, ↓ev_aload_n_0, ↓ev_getf_0_0, ↓ev_iload_n_1, ↓ev_imul, ↓ev_iadd, ↓ev_iald_m1, ↓ev_iald_m2, ↓ev_iald_m3, ↓ev_iald_m4, ↓ev_iald_m5, ↓ev_iald_m6, ↓ev_iload_n_2, ↓ev_icmp_eq, ↓ev_zret, ↓ev_iinc_3_1, ↓ev_goto, ↓ev_iconst_1, Nat.reduceAdd]
    have e1 : h (.inl (i, 1)) (c * 4 + k) = S (64 + 4 * c + k) := by rw [hC.1 _ (by omega)]; congr 1; omega
    have e2 : h (.inl (i, 1)) (e * 4 + k) = S (64 + 4 * e + k) := by rw [hC.1 _ (by omega)]; congr 1; omega
    try simp (disch := omega) only [pk_mul, nI_add, n_lt0, n_le0, n_eq0, n_ge0, n_gt0, n_lt, n_le, n_eq, n_in, n_div, n_rem, n_rem2, n_m1, nI_clamp, bz_0, bz_1, tI_0, tI_bz, n4, n16, eq_self, Nat.reduceLT, Nat.reduceLeDiff, Nat.reduceEqDiff, Nat.reduceAdd, Nat.reduceMul, Nat.reduceDiv, Nat.reduceMod, Nat.le_refl, decide_eq_false_iff_not, Classical.not_not, true_and, and_true, false_and, and_false, not_true_eq_false, not_false_eq_true, forall_const, true_implies, false_implies, implies_true, ne_eq, e1, e2]
    refine ⟨fun c2 => absurd c2 (by omega), fun _ => ⟨by omega, by omega, fun c2 => ?_, fun c2 => pdf hp (fun z => c2 (z k (by omega)))⟩⟩
    exact ih (k + 1) (by omega) (fun j hj2 => by
      rcases Nat.lt_or_ge j k with q | q
      · exact hj j q
      · rw [show j = k by omega]; exact c2)
theorem k_sameBlock {b : Nat} {x y : Int32} (hC : CR h i S) (hb : b < 16) (hp : p (tI (dec (∀ k, k < 4 → rdf S 6 x (4 * b + k) = rdf S 6 y (4 * b + k)))) h) : mI (Kd sL (d + 3)) 15 [.inr (.inr (.inl (i, 0))), .inl x, .inl y, .inl (nI b)] h p := by
  refine ke_X0_sameBlock ?_
  refine EX.go (Kd_mono _ _) [false, true, false, false, false, false] 40 0 ?_
  dsimp only [wpc_s, wsl_t, wsl_f, gD_0, gD_s, ↓denB_n, pI_s, pG_s, pU_n, cb_X0_sameBlock_0, cb_X0_sameBlock_1, cb_X0_sameBlock_2, cb_X0_sameBlock_3, cb_X0_sameBlock_4, cb_X0_sameBlock_5, ↓ev_iload_n_3, ↓ev_iconst_4, ↓ev_imul, ↓ev_istore_4, ↓ev_iload_4, ↓ev_iconst_1, ↓ev_iadd, ↓ev_icmp_ge, ↓ev_aload_n_0, ↓ev_iload_n_1, ↓ev_callv_3_0_1, ↓ev_callv_3_1_1, ↓ev_callv_3_2_1, ↓ev_callv_3_3_1, ↓ev_callv_3_4_1, ↓ev_iload_n_2, ↓ev_icmp_eq, ↓ev_iconst_0, ↓ev_zret, ↓ev_iinc_4_1, ↓ev_goto, Nat.reduceAdd]
  try simp (disch := omega) only [pk_mul, nI_add, n_lt0, n_le0, n_eq0, n_ge0, n_gt0, n_lt, n_le, n_eq, n_in, n_div, n_rem, n_rem2, n_m1, nI_clamp, bz_0, bz_1, tI_0, tI_bz, n4, n16, eq_self, Nat.reduceLT, Nat.reduceLeDiff, Nat.reduceEqDiff, Nat.reduceAdd, Nat.reduceMul, Nat.reduceDiv, Nat.reduceMod, Nat.le_refl, decide_eq_false_iff_not, Classical.not_not, true_and, and_true, false_and, and_false, not_true_eq_false, not_false_eq_true, forall_const, true_implies, false_implies, implies_true, ne_eq]
  suffices H : ∀ (f k : Nat), k + f = 4 → (∀ j, j < k → rdf S 6 x (4 * b + j) = rdf S 6 y (4 * b + j)) → EX (Kd sL (d + 2)) sL md_X0_sameBlock (pI p) 1 [some (.inr (.inr (.inl (i, 0)))), some (.inl x), some (.inl y), some (.inl (nI b)), some (.inl (nI (b * 4 + k)))] [] h from H 4 0 rfl (fun j hj => absurd hj (Nat.not_lt_zero j))
  intro f
  induction f with
  | zero =>
    intro k hk hj
    refine EX.go (Kd_mono _ _) [false, true, false, false, false, false] 40 1 ?_
    dsimp only [wpc_s, wsl_t, wsl_f, gD_0, gD_s, ↓denB_n, pI_s, pG_s, pU_n, cb_X0_sameBlock_0, cb_X0_sameBlock_1, cb_X0_sameBlock_2, cb_X0_sameBlock_3, cb_X0_sameBlock_4, cb_X0_sameBlock_5, ↓ev_iload_n_3, ↓ev_iconst_4, ↓ev_imul, ↓ev_istore_4, ↓ev_iload_4, ↓ev_iconst_1, ↓ev_iadd, ↓ev_icmp_ge, ↓ev_aload_n_0, ↓ev_iload_n_1, ↓ev_callv_3_0_1, ↓ev_callv_3_1_1, ↓ev_callv_3_2_1, ↓ev_callv_3_3_1, ↓ev_callv_3_4_1, ↓ev_iload_n_2, ↓ev_icmp_eq, ↓ev_iconst_0, ↓ev_zret, ↓ev_iinc_4_1, ↓ev_goto, Nat.reduceAdd]
    try simp (disch := omega) only [pk_mul, nI_add, n_lt0, n_le0, n_eq0, n_ge0, n_gt0, n_lt, n_le, n_eq, n_in, n_div, n_rem, n_rem2, n_m1, nI_clamp, bz_0, bz_1, tI_0, tI_bz, n4, n16, eq_self, Nat.reduceLT, Nat.reduceLeDiff, Nat.reduceEqDiff, Nat.reduceAdd, Nat.reduceMul, Nat.reduceDiv, Nat.reduceMod, Nat.le_refl, decide_eq_false_iff_not, Classical.not_not, true_and, and_true, false_and, and_false, not_true_eq_false, not_false_eq_true, forall_const, true_implies, false_implies, implies_true, ne_eq]
    refine ⟨fun _ => pdt hp (fun j hj2 => hj j (by omega)), fun c2 => absurd (show (b + 1) * 4 ≤ b * 4 + k by omega) c2⟩
  | succ f ih =>
    intro k hk hj
    refine EX.go (Kd_mono _ _) [false, true, false, false, false, false] 40 1 ?_
    dsimp only [wpc_s, wsl_t, wsl_f, gD_0, gD_s, ↓denB_n, pI_s, pG_s, pU_n, cb_X0_sameBlock_0, cb_X0_sameBlock_1, cb_X0_sameBlock_2, cb_X0_sameBlock_3, cb_X0_sameBlock_4, cb_X0_sameBlock_5, ↓ev_iload_n_3, ↓ev_iconst_4, ↓ev_imul, ↓ev_istore_4, ↓ev_iload_4, ↓ev_iconst_1, ↓ev_iadd, ↓ev_icmp_ge, ↓ev_aload_n_0, ↓ev_iload_n_1, ↓ev_callv_3_0_1, ↓ev_callv_3_1_1, ↓ev_callv_3_2_1, ↓ev_callv_3_3_1, ↓ev_callv_3_4_1, ↓ev_iload_n_2, ↓ev_icmp_eq, ↓ev_iconst_0, ↓ev_zret, ↓ev_iinc_4_1, ↓ev_goto, Nat.reduceAdd]
    try simp (disch := omega) only [pk_mul, nI_add, n_lt0, n_le0, n_eq0, n_ge0, n_gt0, n_lt, n_le, n_eq, n_in, n_div, n_rem, n_rem2, n_m1, nI_clamp, bz_0, bz_1, tI_0, tI_bz, n4, n16, eq_self, Nat.reduceLT, Nat.reduceLeDiff, Nat.reduceEqDiff, Nat.reduceAdd, Nat.reduceMul, Nat.reduceDiv, Nat.reduceMod, Nat.le_refl, decide_eq_false_iff_not, Classical.not_not, true_and, and_true, false_and, and_false, not_true_eq_false, not_false_eq_true, forall_const, true_implies, false_implies, implies_true, ne_eq]
    refine ⟨fun c2 => absurd c2 (by omega), fun _ => ?_⟩
    refine k_at hC (by omega) ?_
    refine k_at hC (by omega) ?_
    rw [show b * 4 + k = 4 * b + k by omega]
    refine ⟨fun c2 => ?_, fun c2 => pdf hp (fun z => c2 (z k (by omega)))⟩
    rw [show 4 * b + k + 1 = b * 4 + (k + 1) by omega]
    exact ih (k + 1) (by omega) (fun j hj2 => by
      rcases Nat.lt_or_ge j k with q | q
      · exact hj j q
      · rw [show j = k by omega]; exact c2)
theorem k_ownBlocks {l : Nat} (hC : CR h i S) (hl : l < 14) (hp : p (iOr (fun b => decide (¬ dof S l b = 0)) 16) h) : mI (Kd sL (d + 3)) 12 [.inr (.inr (.inl (i, 0))), .inl (nI l)] h p := by
  refine ke_X0_ownBlocks ?_
  refine EX.go (Kd_mono _ _) [false, true, false, false, false, false] 40 0 ?_
  dsimp only [wpc_s, wsl_t, wsl_f, gD_0, gD_s, ↓denB_n, pI_s, pG_s, pU_n, cb_X0_ownBlocks_0, cb_X0_ownBlocks_1, cb_X0_ownBlocks_2, cb_X0_ownBlocks_3, cb_X0_ownBlocks_4, cb_X0_ownBlocks_5, ↓ev_iconst_0, ↓ev_istore_n_2, ↓ev_istore_n_3, ↓ev_iload_n_3, ↓ev_bipush_16, ↓ev_icmp_ge, ↓ev_aload_n_0, ↓ev_iload_n_1, ↓ev_callv_3_0_1, ↓ev_callv_3_1_1, ↓ev_callv_3_2_1, ↓ev_callv_3_3_1, ↓ev_callv_3_4_1, ↓ev_if_eq, ↓ev_iload_n_2, ↓ev_iconst_1, ↓ev_ishl, ↓ev_ior, ↓ev_iinc_3_1, ↓ev_goto, ↓ev_iret, Nat.reduceAdd]
  suffices H : ∀ (f k : Nat), k + f = 16 → EX (Kd sL (d + 2)) sL md_X0_ownBlocks (pI p) 1 [some (.inr (.inr (.inl (i, 0)))), some (.inl (nI l)), some (.inl (iOr (fun b => decide (¬ dof S l b = 0)) k)), some (.inl (nI k))] [] h from H 16 0 rfl
  intro f
  induction f with
  | zero =>
    intro k hk
    refine EX.go (Kd_mono _ _) [false, true, false, false, false, false] 40 1 ?_
    dsimp only [wpc_s, wsl_t, wsl_f, gD_0, gD_s, ↓denB_n, pI_s, pG_s, pU_n, cb_X0_ownBlocks_0, cb_X0_ownBlocks_1, cb_X0_ownBlocks_2, cb_X0_ownBlocks_3, cb_X0_ownBlocks_4, cb_X0_ownBlocks_5, ↓ev_iconst_0, ↓ev_istore_n_2, ↓ev_istore_n_3, ↓ev_iload_n_3, ↓ev_bipush_16, ↓ev_icmp_ge, ↓ev_aload_n_0, ↓ev_iload_n_1, ↓ev_callv_3_0_1, ↓ev_callv_3_1_1, ↓ev_callv_3_2_1, ↓ev_callv_3_3_1, ↓ev_callv_3_4_1, ↓ev_if_eq, ↓ev_iload_n_2, ↓ev_iconst_1, ↓ev_ishl, ↓ev_ior, ↓ev_iinc_3_1, ↓ev_goto, ↓ev_iret, Nat.reduceAdd]
    try simp (disch := omega) only [pk_mul, nI_add, n_lt0, n_le0, n_eq0, n_ge0, n_gt0, n_lt, n_le, n_eq, n_in, n_div, n_rem, n_rem2, n_m1, nI_clamp, bz_0, bz_1, tI_0, tI_bz, n4, n16, eq_self, Nat.reduceLT, Nat.reduceLeDiff, Nat.reduceEqDiff, Nat.reduceAdd, Nat.reduceMul, Nat.reduceDiv, Nat.reduceMod, Nat.le_refl, decide_eq_false_iff_not, Classical.not_not, true_and, and_true, false_and, and_false, not_true_eq_false, not_false_eq_true, forall_const, true_implies, false_implies, implies_true, ne_eq]
    refine ⟨fun _ => ?_, fun c2 => absurd (show 16 ≤ k by omega) c2⟩
    rwa [show k = 16 by omega]
  | succ f ih =>
    intro k hk
    refine EX.go (Kd_mono _ _) [false, true, false, false, false, false] 40 1 ?_
    dsimp only [wpc_s, wsl_t, wsl_f, gD_0, gD_s, ↓denB_n, pI_s, pG_s, pU_n, cb_X0_ownBlocks_0, cb_X0_ownBlocks_1, cb_X0_ownBlocks_2, cb_X0_ownBlocks_3, cb_X0_ownBlocks_4, cb_X0_ownBlocks_5, ↓ev_iconst_0, ↓ev_istore_n_2, ↓ev_istore_n_3, ↓ev_iload_n_3, ↓ev_bipush_16, ↓ev_icmp_ge, ↓ev_aload_n_0, ↓ev_iload_n_1, ↓ev_callv_3_0_1, ↓ev_callv_3_1_1, ↓ev_callv_3_2_1, ↓ev_callv_3_3_1, ↓ev_callv_3_4_1, ↓ev_if_eq, ↓ev_iload_n_2, ↓ev_iconst_1, ↓ev_ishl, ↓ev_ior, ↓ev_iinc_3_1, ↓ev_goto, ↓ev_iret, Nat.reduceAdd]
    try simp (disch := omega) only [pk_mul, nI_add, n_lt0, n_le0, n_eq0, n_ge0, n_gt0, n_lt, n_le, n_eq, n_in, n_div, n_rem, n_rem2, n_m1, nI_clamp, bz_0, bz_1, tI_0, tI_bz, n4, n16, eq_self, Nat.reduceLT, Nat.reduceLeDiff, Nat.reduceEqDiff, Nat.reduceAdd, Nat.reduceMul, Nat.reduceDiv, Nat.reduceMod, Nat.le_refl, decide_eq_false_iff_not, Classical.not_not, true_and, and_true, false_and, and_false, not_true_eq_false, not_false_eq_true, forall_const, true_implies, false_implies, implies_true, ne_eq]
    refine ⟨fun c2 => absurd c2 (by omega), fun _ => ?_⟩
    refine k_dataOf hC hl (by omega) ?_
    have hdl := dof_lt S l k
    have ih2 := ih (k + 1) (by omega)
    rw [iOr] at ih2
    try simp (disch := omega) only [pk_mul, nI_add, n_lt0, n_le0, n_eq0, n_ge0, n_gt0, n_lt, n_le, n_eq, n_in, n_div, n_rem, n_rem2, n_m1, nI_clamp, bz_0, bz_1, tI_0, tI_bz, n4, n16, eq_self, Nat.reduceLT, Nat.reduceLeDiff, Nat.reduceEqDiff, Nat.reduceAdd, Nat.reduceMul, Nat.reduceDiv, Nat.reduceMod, Nat.le_refl, decide_eq_false_iff_not, Classical.not_not, true_and, and_true, false_and, and_false, not_true_eq_false, not_false_eq_true, forall_const, true_implies, false_implies, implies_true, ne_eq]
    refine ⟨fun c2 => ?_, fun c2 => ?_⟩
    · rw [if_neg (by simp [c2])] at ih2; exact ih2
    · rw [if_pos (by simp [c2])] at ih2; exact ih2
theorem k_snapshotSet (hC : CR h i S) (hp : p (iOr (fun s => decide (¬ sn S s = -1)) 8) h) : mI (Kd sL (d + 1)) 5 [.inr (.inr (.inl (i, 0)))] h p := by
  refine ke_X0_snapshotSet ?_
  refine EX.go (Kd_mono _ _) [false, true, false, false, false, false] 40 0 ?_
  dsimp only [wpc_s, wsl_t, wsl_f, gD_0, gD_s, ↓denB_n, pI_s, pG_s, pU_n, cb_X0_snapshotSet_0, cb_X0_snapshotSet_1, cb_X0_snapshotSet_2, cb_X0_snapshotSet_3, cb_X0_snapshotSet_4, cb_X0_snapshotSet_5, ↓ev_iconst_0, ↓ev_istore_n_1, ↓ev_istore_n_2, ↓ev_iload_n_2, ↓ev_bipush_8, ↓ev_icmp_ge, ↓ev_aload_n_0, ↓ev_getf_0_4, ↓ev_iald_m1, ↓ev_iald_m2, ↓ev_iald_m3, ↓ev_iald_m4, ↓ev_iald_m5, ↓ev_iald_m6, ↓ev_iconst_m1, ↓ev_icmp_eq, ↓ev_iload_n_1, ↓ev_iconst_1, ↓ev_ishl, ↓ev_ior, ↓ev_iinc_2_1, ↓ev_goto, ↓ev_iret, Nat.reduceAdd]
  suffices H : ∀ (f k : Nat), k + f = 8 → EX (Kd sL d) sL md_X0_snapshotSet (pI p) 1 [some (.inr (.inr (.inl (i, 0)))), some (.inl (iOr (fun s => decide (¬ sn S s = -1)) k)), some (.inl (nI k))] [] h from H 8 0 rfl
  intro f
  induction f with
  | zero =>
    intro k hk
    refine EX.go (Kd_mono _ _) [false, true, false, false, false, false] 40 1 ?_
    dsimp only [wpc_s, wsl_t, wsl_f, gD_0, gD_s, ↓denB_n, pI_s, pG_s, pU_n, cb_X0_snapshotSet_0, cb_X0_snapshotSet_1, cb_X0_snapshotSet_2, cb_X0_snapshotSet_3, cb_X0_snapshotSet_4, cb_X0_snapshotSet_5, ↓ev_iconst_0, ↓ev_istore_n_1, ↓ev_istore_n_2, ↓ev_iload_n_2, ↓ev_bipush_8, ↓ev_icmp_ge, ↓ev_aload_n_0, ↓ev_getf_0_4, ↓ev_iald_m1, ↓ev_iald_m2, ↓ev_iald_m3, ↓ev_iald_m4, ↓ev_iald_m5, ↓ev_iald_m6, ↓ev_iconst_m1, ↓ev_icmp_eq, ↓ev_iload_n_1, ↓ev_iconst_1, ↓ev_ishl, ↓ev_ior, ↓ev_iinc_2_1, ↓ev_goto, ↓ev_iret, Nat.reduceAdd]
    try simp (disch := omega) only [pk_mul, nI_add, n_lt0, n_le0, n_eq0, n_ge0, n_gt0, n_lt, n_le, n_eq, n_in, n_div, n_rem, n_rem2, n_m1, nI_clamp, bz_0, bz_1, tI_0, tI_bz, n4, n16, eq_self, Nat.reduceLT, Nat.reduceLeDiff, Nat.reduceEqDiff, Nat.reduceAdd, Nat.reduceMul, Nat.reduceDiv, Nat.reduceMod, Nat.le_refl, decide_eq_false_iff_not, Classical.not_not, true_and, and_true, false_and, and_false, not_true_eq_false, not_false_eq_true, forall_const, true_implies, false_implies, implies_true, ne_eq]
    refine ⟨fun _ => ?_, fun c2 => absurd (show 8 ≤ k by omega) c2⟩
    rwa [show k = 8 by omega]
  | succ f ih =>
    intro k hk
    refine EX.go (Kd_mono _ _) [false, true, false, false, false, false] 40 1 ?_
    dsimp only [wpc_s, wsl_t, wsl_f, gD_0, gD_s, ↓denB_n, pI_s, pG_s, pU_n, cb_X0_snapshotSet_0, cb_X0_snapshotSet_1, cb_X0_snapshotSet_2, cb_X0_snapshotSet_3, cb_X0_snapshotSet_4, cb_X0_snapshotSet_5, ↓ev_iconst_0, ↓ev_istore_n_1, ↓ev_istore_n_2, ↓ev_iload_n_2, ↓ev_bipush_8, ↓ev_icmp_ge, ↓ev_aload_n_0, ↓ev_getf_0_4, ↓ev_iald_m1, ↓ev_iald_m2, ↓ev_iald_m3, ↓ev_iald_m4, ↓ev_iald_m5, ↓ev_iald_m6, ↓ev_iconst_m1, ↓ev_icmp_eq, ↓ev_iload_n_1, ↓ev_iconst_1, ↓ev_ishl, ↓ev_ior, ↓ev_iinc_2_1, ↓ev_goto, ↓ev_iret, Nat.reduceAdd]
    have e : h (.inl (i, 5)) k = sn S k := hC.2.2.2.2.1 k (by omega)
    try simp (disch := omega) only [pk_mul, nI_add, n_lt0, n_le0, n_eq0, n_ge0, n_gt0, n_lt, n_le, n_eq, n_in, n_div, n_rem, n_rem2, n_m1, nI_clamp, bz_0, bz_1, tI_0, tI_bz, n4, n16, eq_self, Nat.reduceLT, Nat.reduceLeDiff, Nat.reduceEqDiff, Nat.reduceAdd, Nat.reduceMul, Nat.reduceDiv, Nat.reduceMod, Nat.le_refl, decide_eq_false_iff_not, Classical.not_not, true_and, and_true, false_and, and_false, not_true_eq_false, not_false_eq_true, forall_const, true_implies, false_implies, implies_true, ne_eq, e]
    have ih2 := ih (k + 1) (by omega)
    rw [iOr] at ih2
    refine ⟨fun c2 => absurd c2 (by omega), fun _ => ⟨by omega, fun c2 => ?_, fun c2 => ?_⟩⟩
    · rw [if_neg (by simp [c2])] at ih2; exact ih2
    · rw [if_pos (by simp [c2])] at ih2; exact ih2
/-- the least snapshot that isn't there, 8: none -/
theorem k_leastMissing (hC : CR h i S) (hp : ∀ s, s ≤ 8 → (∀ j, j < s → ¬ sn S j = -1) → (s < 8 → sn S s = -1) → p (if s = 8 then -1 else nI s) h) : mI (Kd sL (d + 1)) 6 [.inr (.inr (.inl (i, 0)))] h p := by
  refine ke_X0_leastMissingSnapshot ?_
  refine EX.go (Kd_mono _ _) [false, true, false, false, false, false] 40 0 ?_
  dsimp only [wpc_s, wsl_t, wsl_f, gD_0, gD_s, ↓denB_n, pI_s, pG_s, pU_n, cb_X0_leastMissingSnapshot_0, cb_X0_leastMissingSnapshot_1, cb_X0_leastMissingSnapshot_2, cb_X0_leastMissingSnapshot_3, cb_X0_leastMissingSnapshot_4, cb_X0_leastMissingSnapshot_5, ↓ev_iconst_0, ↓ev_istore_n_1, ↓ev_iload_n_1, ↓ev_bipush_8, ↓ev_icmp_ge, ↓ev_aload_n_0, ↓ev_getf_0_4, ↓ev_iald_m1, ↓ev_iald_m2, ↓ev_iald_m3, ↓ev_iald_m4, ↓ev_iald_m5, ↓ev_iald_m6, ↓ev_iconst_m1, ↓ev_icmp_ne, ↓ev_iret, ↓ev_iinc_1_1, ↓ev_goto, Nat.reduceAdd]
  suffices H : ∀ (f k : Nat), k + f = 8 → (∀ j, j < k → ¬ sn S j = -1) → EX (Kd sL d) sL md_X0_leastMissingSnapshot (pI p) 1 [some (.inr (.inr (.inl (i, 0)))), some (.inl (nI k))] [] h from H 8 0 rfl (fun j hj => absurd hj (Nat.not_lt_zero j))
  intro f
  induction f with
  | zero =>
    intro k hk hj
    refine EX.go (Kd_mono _ _) [false, true, false, false, false, false] 40 1 ?_
    dsimp only [wpc_s, wsl_t, wsl_f, gD_0, gD_s, ↓denB_n, pI_s, pG_s, pU_n, cb_X0_leastMissingSnapshot_0, cb_X0_leastMissingSnapshot_1, cb_X0_leastMissingSnapshot_2, cb_X0_leastMissingSnapshot_3, cb_X0_leastMissingSnapshot_4, cb_X0_leastMissingSnapshot_5, ↓ev_iconst_0, ↓ev_istore_n_1, ↓ev_iload_n_1, ↓ev_bipush_8, ↓ev_icmp_ge, ↓ev_aload_n_0, ↓ev_getf_0_4, ↓ev_iald_m1, ↓ev_iald_m2, ↓ev_iald_m3, ↓ev_iald_m4, ↓ev_iald_m5, ↓ev_iald_m6, ↓ev_iconst_m1, ↓ev_icmp_ne, ↓ev_iret, ↓ev_iinc_1_1, ↓ev_goto, Nat.reduceAdd]
    try simp (disch := omega) only [pk_mul, nI_add, n_lt0, n_le0, n_eq0, n_ge0, n_gt0, n_lt, n_le, n_eq, n_in, n_div, n_rem, n_rem2, n_m1, nI_clamp, bz_0, bz_1, tI_0, tI_bz, n4, n16, eq_self, Nat.reduceLT, Nat.reduceLeDiff, Nat.reduceEqDiff, Nat.reduceAdd, Nat.reduceMul, Nat.reduceDiv, Nat.reduceMod, Nat.le_refl, decide_eq_false_iff_not, Classical.not_not, true_and, and_true, false_and, and_false, not_true_eq_false, not_false_eq_true, forall_const, true_implies, false_implies, implies_true, ne_eq]
    refine ⟨fun _ => ?_, fun c2 => absurd (show 8 ≤ k by omega) c2⟩
    have := hp k (by omega) hj (fun z => absurd z (by omega))
    rwa [if_pos (by omega)] at this
  | succ f ih =>
    intro k hk hj
    refine EX.go (Kd_mono _ _) [false, true, false, false, false, false] 40 1 ?_
    dsimp only [wpc_s, wsl_t, wsl_f, gD_0, gD_s, ↓denB_n, pI_s, pG_s, pU_n, cb_X0_leastMissingSnapshot_0, cb_X0_leastMissingSnapshot_1, cb_X0_leastMissingSnapshot_2, cb_X0_leastMissingSnapshot_3, cb_X0_leastMissingSnapshot_4, cb_X0_leastMissingSnapshot_5, ↓ev_iconst_0, ↓ev_istore_n_1, ↓ev_iload_n_1, ↓ev_bipush_8, ↓ev_icmp_ge, ↓ev_aload_n_0, ↓ev_getf_0_4, ↓ev_iald_m1, ↓ev_iald_m2, ↓ev_iald_m3, ↓ev_iald_m4, ↓ev_iald_m5, ↓ev_iald_m6, ↓ev_iconst_m1, ↓ev_icmp_ne, ↓ev_iret, ↓ev_iinc_1_1, ↓ev_goto, Nat.reduceAdd]
    have e : h (.inl (i, 5)) k = sn S k := hC.2.2.2.2.1 k (by omega)
    try simp (disch := omega) only [pk_mul, nI_add, n_lt0, n_le0, n_eq0, n_ge0, n_gt0, n_lt, n_le, n_eq, n_in, n_div, n_rem, n_rem2, n_m1, nI_clamp, bz_0, bz_1, tI_0, tI_bz, n4, n16, eq_self, Nat.reduceLT, Nat.reduceLeDiff, Nat.reduceEqDiff, Nat.reduceAdd, Nat.reduceMul, Nat.reduceDiv, Nat.reduceMod, Nat.le_refl, decide_eq_false_iff_not, Classical.not_not, true_and, and_true, false_and, and_false, not_true_eq_false, not_false_eq_true, forall_const, true_implies, false_implies, implies_true, ne_eq, e]
    refine ⟨fun c2 => absurd c2 (by omega), fun _ => ⟨by omega, fun c2 => ?_, fun c2 => ?_⟩⟩
    · exact ih (k + 1) (by omega) (fun j hj2 => by
        rcases Nat.lt_or_ge j k with q | q
        · exact hj j q
        · rw [show j = k by omega]; exact c2)
    · have := hp k (by omega) hj (fun _ => c2)
      rwa [if_neg (by omega)] at this
end IMG
end
section
/-! ===== class Image: sets and counts ===== -/
/-- an array put in another's place -/
def hpt (h : mH) (r : mRef) (f : Nat → Int32) : mH := fun r' => if r' = r then f else h r'
theorem hpt_self {h : mH} {r : mRef} {f : Nat → Int32} : hpt h r f r = f := by simp [hpt]
theorem hpt_ne {h : mH} {r r' : mRef} {f : Nat → Int32} (hn : r' ≠ r) : hpt h r f r' = h r' := by simp [hpt, hn]
theorem hpt_eta {h : mH} {r : mRef} : hpt h r (h r) = h := by
  funext r'
  by_cases e : r' = r
  · subst e; simp [hpt]
  · simp [hpt, e]
theorem hup_hpt {h : mH} {r : mRef} {f : Nat → Int32} {k : Nat} {v : Int32} : hup (hpt h r f) r k v = hpt h r (upd f k v) := by
  funext r' k'
  by_cases e : r' = r
  · subst e
    by_cases e2 : k' = k
    · simp [hup, hpt, upd, e2]
    · simp [hup, hpt, upd, e2]
  · simp [hup, hpt, e]
theorem hup_pt {h : mH} {r : mRef} {k : Nat} {v : Int32} : hup h r k v = hpt h r (upd (h r) k v) := by
  rw [← hup_hpt, hpt_eta]
theorem hpt_hpt {h : mH} {r : mRef} {f g : Nat → Int32} : hpt (hpt h r f) r g = hpt h r g := by
  funext r'
  by_cases e : r' = r
  · simp [hpt, e]
  · simp [hpt, e]
/-- nothing but image i differs -/
def Oi (i : Fin 3) (h h' : mH) : Prop := ∀ r, (∀ p, r ≠ .inl (i, p)) → h' r = h r
theorem Oi.rf {i : Fin 3} {h : mH} : Oi i h h := fun _ _ => rfl
theorem Oi.tr {i : Fin 3} {h h1 h2 : mH} (a : Oi i h h1) (b : Oi i h1 h2) : Oi i h h2 := fun r hr => (b r hr).trans (a r hr)
theorem Oi.pt {i : Fin 3} {h : mH} {q : Nat} {f : Nat → Int32} : Oi i h (hpt h (.inl (i, q)) f) := fun r hr => hpt_ne (hr q)
theorem Oi.up {i : Fin 3} {h : mH} {q k : Nat} {v : Int32} : Oi i h (hup h (.inl (i, q)) k v) := by
  rw [hup_pt]; exact Oi.pt
theorem Oi.oth {i : Fin 3} {h h' : mH} (a : Oi i h h') (n : Nat) : h' (.inr n) = h (.inr n) := a _ (fun _ e => by cases e)
theorem Oi.img {i j : Fin 3} {h h' : mH} (a : Oi i h h') (hj : j ≠ i) (q : Nat) : h' (.inl (j, q)) = h (.inl (j, q)) := a _ (fun _ e => by cases e; exact hj rfl)
theorem CR.pt6 {h : mH} {i : Fin 3} {S : St} (hC : CR h i S) (f : Nat → Int32) : CR (hpt h (.inl (i, 6)) f) i S := by
  obtain ⟨h1, h2, h3, h4, h5, h6, h7, h8⟩ := hC
  refine ⟨?_, ?_, ?_, ?_, ?_, ?_, h7, ?_⟩
  all_goals (rw [hpt_ne (by simp)]; assumption)
theorem CR.oth {h h' : mH} {i j : Fin 3} {S : St} (hC : CR h j S) (ho : Oi i h h') (hj : j ≠ i) : CR h' j S := by
  obtain ⟨h1, h2, h3, h4, h5, h6, h7, h8⟩ := hC
  refine ⟨?_, ?_, ?_, ?_, ?_, ?_, h7, ?_⟩
  all_goals (rw [ho.img hj]; assumption)
theorem ev_alen_g {M : mK} {sL : Nat} {post : mP} {L : Nat → mC} {b pc n : Nat} {t : List Nat} {c : List mE} {ls : mL} {st : List mV} {h : mH} {r : mRef} {k : Nat} (hr : arr sL r = some k) : denB M sL post L b ((pc, .arraylength, n, t) :: c) ls (.inr (.inr r) :: st) h = denB M sL post L b c ls (.inl (nI k) :: st) h := by
  show (match arr sL r with
      | some n => denB M sL post L b c ls (.inl (nI n) :: st) h
      | none => False) = _
  rw [hr]
theorem ev_iast_g {M : mK} {sL : Nat} {post : mP} {L : Nat → mC} {b pc n : Nat} {t : List Nat} {c : List mE} {ls : mL} {st : List mV} {h : mH} {r : mRef} {k : Nat} {x v : Int32} (hr : arw r = some k) : denB M sL post L b ((pc, .iastore, n, t) :: c) ls (.inl v :: .inl x :: .inr (.inr r) :: st) h = (vp_in x k ∧ denB M sL post L b c ls st (hup h r x.toNatClampNeg v)) := by
  show (match arw r with
      | some n => vp_in x n ∧ denB M sL post L b c ls st (hup h r x.toNatClampNeg v)
      | none => False) = _
  rw [hr]
theorem ev_copy {M : mK} {sL : Nat} {post : mP} {L : Nat → mC} {b pc n j : Nat} {c : List mE} {ls : mL} {st : List mV} {h : mH} {r a : mRef} {nd na : Nat} {sp dp cn : Int32} (hr : arw r = some nd) (ha : arw a = some na) (h1 : 0 ≤ sp) (h2 : 0 ≤ dp) (h3 : 0 ≤ cn) (h4 : sp.toNatClampNeg + cn.toNatClampNeg ≤ na) (h5 : dp.toNatClampNeg + cn.toNatClampNeg ≤ nd) (h6 : st.length ≤ 4)
    (H : denB M sL post L b c ls st (hcp h a sp.toNatClampNeg r dp.toNatClampNeg cn.toNatClampNeg)) : denB M sL post L b ((pc, .invokestatic j, n, [9]) :: c) ls (.inl cn :: .inl dp :: .inr (.inr r) :: .inl sp :: .inr (.inr a) :: st) h :=
  ⟨na, nd, ha, hr, h1, h2, h3, h4, h5, h6, H⟩
theorem arr_of_arw {sL : Nat} {r : mRef} {n : Nat} (h : arw r = some n) : arr sL r = some n := by
  unfold arw at h
  unfold arr
  split at h <;> first | exact h | cases h
section CNT
variable {sL d : Nat} {h : mH} {i : Fin 3} {S : St}
theorem k_fill2 {r : mRef} {n : Nat} {v : Int32} {p : mH → Prop} (hr : arw r = some n) (hn : n < 1000) (hp : ∀ f : Nat → Int32, (∀ j, j < n → f j = v) → p (hpt h r f)) : mU (Kd sL (d + 1)) 193 [.inr (.inr r), .inl v] h p := by
  refine ke_J7_fill2 ?_
  refine EX.go (Kd_mono _ _) [false, true, false, false] 40 0 ?_
  dsimp only [wpc_s, wsl_t, wsl_f, gD_0, gD_s, ↓denB_n, pI_s, pG_s, pU_n, cb_J7_fill2_0, cb_J7_fill2_1, cb_J7_fill2_2, cb_J7_fill2_3, ↓ev_iconst_0, ↓ev_istore_n_2, ↓ev_aload_n_0, ↓ev_istore_n_3, ↓ev_iload_n_2, ↓ev_iload_n_3, ↓ev_icmp_ge, ↓ev_iload_n_1, ↓ev_iinc_2_1, ↓ev_goto, ↓ev_ret, Nat.reduceAdd]
  rw [ev_alen_g (arr_of_arw hr)]
  dsimp only [wpc_s, wsl_t, wsl_f, gD_0, gD_s, ↓denB_n, pI_s, pG_s, pU_n, cb_J7_fill2_0, cb_J7_fill2_1, cb_J7_fill2_2, cb_J7_fill2_3, ↓ev_iconst_0, ↓ev_istore_n_2, ↓ev_aload_n_0, ↓ev_istore_n_3, ↓ev_iload_n_2, ↓ev_iload_n_3, ↓ev_icmp_ge, ↓ev_iload_n_1, ↓ev_iinc_2_1, ↓ev_goto, ↓ev_ret, Nat.reduceAdd]
  suffices H : ∀ (f k : Nat) (g : Nat → Int32), k + f = n → (∀ j, j < k → g j = v) → EX (Kd sL d) sL md_J7_fill2 (pU p) 1 [some (.inr (.inr r)), some (.inl v), some (.inl (nI k)), some (.inl (nI n))] [] (hpt h r g) by
    have := H n 0 (h r) (by omega) (fun j hj => absurd hj (Nat.not_lt_zero j))
    rwa [hpt_eta] at this
  intro f
  induction f with
  | zero =>
    intro k g hk hg
    refine EX.go (Kd_mono _ _) [false, true, false, false] 40 1 ?_
    dsimp only [wpc_s, wsl_t, wsl_f, gD_0, gD_s, ↓denB_n, pI_s, pG_s, pU_n, cb_J7_fill2_0, cb_J7_fill2_1, cb_J7_fill2_2, cb_J7_fill2_3, ↓ev_iconst_0, ↓ev_istore_n_2, ↓ev_aload_n_0, ↓ev_istore_n_3, ↓ev_iload_n_2, ↓ev_iload_n_3, ↓ev_icmp_ge, ↓ev_iload_n_1, ↓ev_iinc_2_1, ↓ev_goto, ↓ev_ret, Nat.reduceAdd]
    try simp (disch := omega) only [pk_mul, nI_add, n_lt0, n_le0, n_eq0, n_ge0, n_gt0, n_lt, n_le, n_eq, n_in, n_div, n_rem, n_rem2, n_m1, nI_clamp, bz_0, bz_1, tI_0, tI_bz, n4, n16, eq_self, Nat.reduceLT, Nat.reduceLeDiff, Nat.reduceEqDiff, Nat.reduceAdd, Nat.reduceMul, Nat.reduceDiv, Nat.reduceMod, Nat.le_refl, decide_eq_false_iff_not, Classical.not_not, true_and, and_true, false_and, and_false, not_true_eq_false, not_false_eq_true, forall_const, true_implies, false_implies, implies_true, ne_eq]
    exact ⟨fun _ => hp g (fun j hj => hg j (by omega)), fun c => absurd (show n ≤ k by omega) c⟩
  | succ f ih =>
    intro k g hk hg
    refine EX.go (Kd_mono _ _) [false, true, false, false] 40 1 ?_
    dsimp only [wpc_s, wsl_t, wsl_f, gD_0, gD_s, ↓denB_n, pI_s, pG_s, pU_n, cb_J7_fill2_0, cb_J7_fill2_1, cb_J7_fill2_2, cb_J7_fill2_3, ↓ev_iconst_0, ↓ev_istore_n_2, ↓ev_aload_n_0, ↓ev_istore_n_3, ↓ev_iload_n_2, ↓ev_iload_n_3, ↓ev_icmp_ge, ↓ev_iload_n_1, ↓ev_iinc_2_1, ↓ev_goto, ↓ev_ret, Nat.reduceAdd]
    try simp (disch := omega) only [pk_mul, nI_add, n_lt0, n_le0, n_eq0, n_ge0, n_gt0, n_lt, n_le, n_eq, n_in, n_div, n_rem, n_rem2, n_m1, nI_clamp, bz_0, bz_1, tI_0, tI_bz, n4, n16, eq_self, Nat.reduceLT, Nat.reduceLeDiff, Nat.reduceEqDiff, Nat.reduceAdd, Nat.reduceMul, Nat.reduceDiv, Nat.reduceMod, Nat.le_refl, decide_eq_false_iff_not, Classical.not_not, true_and, and_true, false_and, and_false, not_true_eq_false, not_false_eq_true, forall_const, true_implies, false_implies, implies_true, ne_eq]
    refine ⟨fun c => absurd c (by omega), fun _ => ?_⟩
    rw [ev_iast_g hr]
    dsimp only [wpc_s, wsl_t, wsl_f, gD_0, gD_s, ↓denB_n, pI_s, pG_s, pU_n, cb_J7_fill2_0, cb_J7_fill2_1, cb_J7_fill2_2, cb_J7_fill2_3, ↓ev_iconst_0, ↓ev_istore_n_2, ↓ev_aload_n_0, ↓ev_istore_n_3, ↓ev_iload_n_2, ↓ev_iload_n_3, ↓ev_icmp_ge, ↓ev_iload_n_1, ↓ev_iinc_2_1, ↓ev_goto, ↓ev_ret, Nat.reduceAdd]
    try simp (disch := omega) only [pk_mul, nI_add, n_lt0, n_le0, n_eq0, n_ge0, n_gt0, n_lt, n_le, n_eq, n_in, n_div, n_rem, n_rem2, n_m1, nI_clamp, bz_0, bz_1, tI_0, tI_bz, n4, n16, eq_self, Nat.reduceLT, Nat.reduceLeDiff, Nat.reduceEqDiff, Nat.reduceAdd, Nat.reduceMul, Nat.reduceDiv, Nat.reduceMod, Nat.le_refl, decide_eq_false_iff_not, Classical.not_not, true_and, and_true, false_and, and_false, not_true_eq_false, not_false_eq_true, forall_const, true_implies, false_implies, implies_true, ne_eq, hup_hpt]
    refine ⟨by omega, ih (k + 1) _ (by omega) (fun j hj => ?_)⟩
    rcases Nat.lt_or_ge j k with q | q
    · rw [pk_un (by omega)]; exact hg j q
    · rw [show j = k by omega, pk_us]
theorem k_tablesOf {a b : Nat} {p : Int64 → mH → Prop} (hC : CR h i S) (hab : a ≤ b) (hb : b ≤ 14) (hp : p (lOr (fun t => dec (isT S a b t)) 64) h) : mG (Kd sL (d + 2)) 18 [.inr (.inr (.inl (i, 0))), .inl (nI a), .inl (nI b)] h p := by
  refine ke_X0_tablesOf ?_
  refine EX.go (Kd_mono _ _) [false, true, false, true, false, false, false] 40 0 ?_
  dsimp only [wpc_s, wsl_t, wsl_f, gD_0, gD_s, ↓denB_n, pI_s, pG_s, pU_n, cb_X0_tablesOf_0, cb_X0_tablesOf_1, cb_X0_tablesOf_2, cb_X0_tablesOf_3, cb_X0_tablesOf_4, cb_X0_tablesOf_5, cb_X0_tablesOf_6, ↓ev_lconst_0, ↓ev_lstore_n_3, ↓ev_iload_n_1, ↓ev_istore_5, ↓ev_iload_5, ↓ev_iload_n_2, ↓ev_icmp_ge, ↓ev_iconst_0, ↓ev_istore_6, ↓ev_iload_6, ↓ev_iconst_4, ↓ev_lload_n_3, ↓ev_lconst_1, ↓ev_aload_n_0, ↓ev_callv_3_0_1, ↓ev_callv_3_1_1, ↓ev_callv_3_2_1, ↓ev_callv_3_3_1, ↓ev_callv_3_4_1, ↓ev_lshl, ↓ev_lor, ↓ev_iinc_6_1, ↓ev_goto, ↓ev_iinc_5_1, ↓ev_ldc2_18446744073709551614, ↓ev_land, ↓ev_lret, Nat.reduceAdd]
  suffices H : ∀ (f k : Nat) (x : Int64) (o : Option mV), k + f = b → a ≤ k → (∀ c, c < 64 → tbit x c = dec (∃ d j, a ≤ d ∧ d < k ∧ j < 4 ∧ tb S d j = c)) → EX (Kd sL (d + 1)) sL md_X0_tablesOf (pG p) 1 [some (.inr (.inr (.inl (i, 0)))), some (.inl (nI a)), some (.inl (nI b)), some (.inr (.inl x)), none, some (.inl (nI k)), o] [] h by
    refine H (b - a) a (lN 0) _ (by omega) (Nat.le_refl a) (fun c _ => ?_)
    rw [tbit_0]
    refine (Eq.symm ?_)
    rw [dec_f]
    rintro ⟨d, j, h1, h2, -⟩
    omega
  intro f
  induction f with
  | zero =>
    intro k x o hk hak hx
    refine EX.go (Kd_mono _ _) [false, true, false, true, false, false, false] 40 1 ?_
    dsimp only [wpc_s, wsl_t, wsl_f, gD_0, gD_s, ↓denB_n, pI_s, pG_s, pU_n, cb_X0_tablesOf_0, cb_X0_tablesOf_1, cb_X0_tablesOf_2, cb_X0_tablesOf_3, cb_X0_tablesOf_4, cb_X0_tablesOf_5, cb_X0_tablesOf_6, ↓ev_lconst_0, ↓ev_lstore_n_3, ↓ev_iload_n_1, ↓ev_istore_5, ↓ev_iload_5, ↓ev_iload_n_2, ↓ev_icmp_ge, ↓ev_iconst_0, ↓ev_istore_6, ↓ev_iload_6, ↓ev_iconst_4, ↓ev_lload_n_3, ↓ev_lconst_1, ↓ev_aload_n_0, ↓ev_callv_3_0_1, ↓ev_callv_3_1_1, ↓ev_callv_3_2_1, ↓ev_callv_3_3_1, ↓ev_callv_3_4_1, ↓ev_lshl, ↓ev_lor, ↓ev_iinc_6_1, ↓ev_goto, ↓ev_iinc_5_1, ↓ev_ldc2_18446744073709551614, ↓ev_land, ↓ev_lret, Nat.reduceAdd]
    try simp (disch := omega) only [pk_mul, nI_add, n_lt0, n_le0, n_eq0, n_ge0, n_gt0, n_lt, n_le, n_eq, n_in, n_div, n_rem, n_rem2, n_m1, nI_clamp, bz_0, bz_1, tI_0, tI_bz, n4, n16, eq_self, Nat.reduceLT, Nat.reduceLeDiff, Nat.reduceEqDiff, Nat.reduceAdd, Nat.reduceMul, Nat.reduceDiv, Nat.reduceMod, Nat.le_refl, decide_eq_false_iff_not, Classical.not_not, true_and, and_true, false_and, and_false, not_true_eq_false, not_false_eq_true, forall_const, true_implies, false_implies, implies_true, ne_eq]
    refine ⟨fun _ => ?_, fun c => absurd (show b ≤ k by omega) c⟩
    rw [show x &&& lN 18446744073709551614 = lOr (fun t => dec (isT S a b t)) 64 from lOr_eq (fun c hc => ?_)]
    · exact hp
    · rw [tbit_and, hx c hc, tbit_m2 c hc, dec_dec, dec_and]
      apply dec_iff
      rw [show k = b by omega]
      unfold isT
      exact And.comm
  | succ f ih =>
    intro k x o hk hak hx
    refine EX.go (Kd_mono _ _) [false, true, false, true, false, false, false] 40 1 ?_
    dsimp only [wpc_s, wsl_t, wsl_f, gD_0, gD_s, ↓denB_n, pI_s, pG_s, pU_n, cb_X0_tablesOf_0, cb_X0_tablesOf_1, cb_X0_tablesOf_2, cb_X0_tablesOf_3, cb_X0_tablesOf_4, cb_X0_tablesOf_5, cb_X0_tablesOf_6, ↓ev_lconst_0, ↓ev_lstore_n_3, ↓ev_iload_n_1, ↓ev_istore_5, ↓ev_iload_5, ↓ev_iload_n_2, ↓ev_icmp_ge, ↓ev_iconst_0, ↓ev_istore_6, ↓ev_iload_6, ↓ev_iconst_4, ↓ev_lload_n_3, ↓ev_lconst_1, ↓ev_aload_n_0, ↓ev_callv_3_0_1, ↓ev_callv_3_1_1, ↓ev_callv_3_2_1, ↓ev_callv_3_3_1, ↓ev_callv_3_4_1, ↓ev_lshl, ↓ev_lor, ↓ev_iinc_6_1, ↓ev_goto, ↓ev_iinc_5_1, ↓ev_ldc2_18446744073709551614, ↓ev_land, ↓ev_lret, Nat.reduceAdd]
    try simp (disch := omega) only [pk_mul, nI_add, n_lt0, n_le0, n_eq0, n_ge0, n_gt0, n_lt, n_le, n_eq, n_in, n_div, n_rem, n_rem2, n_m1, nI_clamp, bz_0, bz_1, tI_0, tI_bz, n4, n16, eq_self, Nat.reduceLT, Nat.reduceLeDiff, Nat.reduceEqDiff, Nat.reduceAdd, Nat.reduceMul, Nat.reduceDiv, Nat.reduceMod, Nat.le_refl, decide_eq_false_iff_not, Classical.not_not, true_and, and_true, false_and, and_false, not_true_eq_false, not_false_eq_true, forall_const, true_implies, false_implies, implies_true, ne_eq]
    refine ⟨fun c => absurd c (by omega), fun _ => ?_⟩
    suffices H2 : ∀ (f2 k2 : Nat) (x : Int64), k2 + f2 = 4 → (∀ c, c < 64 → tbit x c = dec ((∃ d j, a ≤ d ∧ d < k ∧ j < 4 ∧ tb S d j = c) ∨ ∃ j, j < k2 ∧ tb S k j = c)) → EX (Kd sL (d + 1)) sL md_X0_tablesOf (pG p) 3 [some (.inr (.inr (.inl (i, 0)))), some (.inl (nI a)), some (.inl (nI b)), some (.inr (.inl x)), none, some (.inl (nI k)), some (.inl (nI k2))] [] h by
      refine H2 4 0 x rfl (fun c hc => ?_)
      rw [hx c hc]
      apply dec_iff
      constructor
      · exact Or.inl
      · rintro (q | ⟨j, hj, -⟩)
        · exact q
        · omega
    intro f2
    induction f2 with
    | zero =>
      intro k2 x hk2 hx
      refine EX.go (Kd_mono _ _) [false, true, false, true, false, false, false] 40 3 ?_
      dsimp only [wpc_s, wsl_t, wsl_f, gD_0, gD_s, ↓denB_n, pI_s, pG_s, pU_n, cb_X0_tablesOf_0, cb_X0_tablesOf_1, cb_X0_tablesOf_2, cb_X0_tablesOf_3, cb_X0_tablesOf_4, cb_X0_tablesOf_5, cb_X0_tablesOf_6, ↓ev_lconst_0, ↓ev_lstore_n_3, ↓ev_iload_n_1, ↓ev_istore_5, ↓ev_iload_5, ↓ev_iload_n_2, ↓ev_icmp_ge, ↓ev_iconst_0, ↓ev_istore_6, ↓ev_iload_6, ↓ev_iconst_4, ↓ev_lload_n_3, ↓ev_lconst_1, ↓ev_aload_n_0, ↓ev_callv_3_0_1, ↓ev_callv_3_1_1, ↓ev_callv_3_2_1, ↓ev_callv_3_3_1, ↓ev_callv_3_4_1, ↓ev_lshl, ↓ev_lor, ↓ev_iinc_6_1, ↓ev_goto, ↓ev_iinc_5_1, ↓ev_ldc2_18446744073709551614, ↓ev_land, ↓ev_lret, Nat.reduceAdd]
      try simp (disch := omega) only [pk_mul, nI_add, n_lt0, n_le0, n_eq0, n_ge0, n_gt0, n_lt, n_le, n_eq, n_in, n_div, n_rem, n_rem2, n_m1, nI_clamp, bz_0, bz_1, tI_0, tI_bz, n4, n16, eq_self, Nat.reduceLT, Nat.reduceLeDiff, Nat.reduceEqDiff, Nat.reduceAdd, Nat.reduceMul, Nat.reduceDiv, Nat.reduceMod, Nat.le_refl, decide_eq_false_iff_not, Classical.not_not, true_and, and_true, false_and, and_false, not_true_eq_false, not_false_eq_true, forall_const, true_implies, false_implies, implies_true, ne_eq]
      refine ⟨fun _ => ?_, fun c => absurd (show 4 ≤ k2 by omega) c⟩
      refine ih (k + 1) x _ (by omega) (by omega) (fun c hc => ?_)
      rw [hx c hc]
      apply dec_iff
      constructor
      · rintro (⟨d, j, h1, h2, h3, h4⟩ | ⟨j, hj, h4⟩)
        · exact ⟨d, j, h1, by omega, h3, h4⟩
        · exact ⟨k, j, hak, by omega, by omega, h4⟩
      · rintro ⟨d, j, h1, h2, h3, h4⟩
        rcases Nat.lt_or_ge d k with q | q
        · exact Or.inl ⟨d, j, h1, q, h3, h4⟩
        · have : d = k := by omega
          subst this
          exact Or.inr ⟨j, by omega, h4⟩
    | succ f2 ih2 =>
      intro k2 x hk2 hx
      refine EX.go (Kd_mono _ _) [false, true, false, true, false, false, false] 40 3 ?_
      dsimp only [wpc_s, wsl_t, wsl_f, gD_0, gD_s, ↓denB_n, pI_s, pG_s, pU_n, cb_X0_tablesOf_0, cb_X0_tablesOf_1, cb_X0_tablesOf_2, cb_X0_tablesOf_3, cb_X0_tablesOf_4, cb_X0_tablesOf_5, cb_X0_tablesOf_6, ↓ev_lconst_0, ↓ev_lstore_n_3, ↓ev_iload_n_1, ↓ev_istore_5, ↓ev_iload_5, ↓ev_iload_n_2, ↓ev_icmp_ge, ↓ev_iconst_0, ↓ev_istore_6, ↓ev_iload_6, ↓ev_iconst_4, ↓ev_lload_n_3, ↓ev_lconst_1, ↓ev_aload_n_0, ↓ev_callv_3_0_1, ↓ev_callv_3_1_1, ↓ev_callv_3_2_1, ↓ev_callv_3_3_1, ↓ev_callv_3_4_1, ↓ev_lshl, ↓ev_lor, ↓ev_iinc_6_1, ↓ev_goto, ↓ev_iinc_5_1, ↓ev_ldc2_18446744073709551614, ↓ev_land, ↓ev_lret, Nat.reduceAdd]
      try simp (disch := omega) only [pk_mul, nI_add, n_lt0, n_le0, n_eq0, n_ge0, n_gt0, n_lt, n_le, n_eq, n_in, n_div, n_rem, n_rem2, n_m1, nI_clamp, bz_0, bz_1, tI_0, tI_bz, n4, n16, eq_self, Nat.reduceLT, Nat.reduceLeDiff, Nat.reduceEqDiff, Nat.reduceAdd, Nat.reduceMul, Nat.reduceDiv, Nat.reduceMod, Nat.le_refl, decide_eq_false_iff_not, Classical.not_not, true_and, and_true, false_and, and_false, not_true_eq_false, not_false_eq_true, forall_const, true_implies, false_implies, implies_true, ne_eq]
      refine ⟨fun c => absurd c (by omega), fun _ => ?_⟩
      refine k_tableAt hC (by omega) (by omega) ?_
      try simp (disch := omega) only [pk_mul, nI_add, n_lt0, n_le0, n_eq0, n_ge0, n_gt0, n_lt, n_le, n_eq, n_in, n_div, n_rem, n_rem2, n_m1, nI_clamp, bz_0, bz_1, tI_0, tI_bz, n4, n16, eq_self, Nat.reduceLT, Nat.reduceLeDiff, Nat.reduceEqDiff, Nat.reduceAdd, Nat.reduceMul, Nat.reduceDiv, Nat.reduceMod, Nat.le_refl, decide_eq_false_iff_not, Classical.not_not, true_and, and_true, false_and, and_false, not_true_eq_false, not_false_eq_true, forall_const, true_implies, false_implies, implies_true, ne_eq]
      refine ih2 (k2 + 1) _ (by omega) (fun c hc => ?_)
      rw [tbit_or, hx c hc, tbit_shl (tb_lt _ _ _), dec_dec, dec_or]
      apply dec_iff
      constructor
      · rintro ((q | ⟨j, hj, h4⟩) | q)
        · exact Or.inl q
        · exact Or.inr ⟨j, by omega, h4⟩
        · exact Or.inr ⟨k2, by omega, q.symm⟩
      · rintro (q | ⟨j, hj, h4⟩)
        · exact Or.inl (Or.inl q)
        · rcases Nat.lt_or_ge j k2 with q | q
          · exact Or.inl (Or.inr ⟨j, q, h4⟩)
          · have : j = k2 := by omega
            subst this
            exact Or.inr h4.symm
theorem k_dataNamedBy {P : Nat → Bool} {p : Int64 → mH → Prop} (hC : CR h i S) (hp : p (lOr (fun c => dec (isD S P c)) 64) h) : mG (Kd sL (d + 2)) 19 [.inr (.inr (.inl (i, 0))), .inr (.inl (lOr P 64))] h p := by
  refine ke_X0_dataNamedBy ?_
  refine EX.go (Kd_mono _ _) [false, true, false, true, false, false, false, false] 40 0 ?_
  dsimp only [wpc_s, wsl_t, wsl_f, gD_0, gD_s, ↓denB_n, pI_s, pG_s, pU_n, cb_X0_dataNamedBy_0, cb_X0_dataNamedBy_1, cb_X0_dataNamedBy_2, cb_X0_dataNamedBy_3, cb_X0_dataNamedBy_4, cb_X0_dataNamedBy_5, cb_X0_dataNamedBy_6, cb_X0_dataNamedBy_7, ↓ev_lconst_0, ↓ev_lstore_n_3, ↓ev_iconst_1, ↓ev_istore_5, ↓ev_iload_5, ↓ev_bipush_64, ↓ev_icmp_ge, ↓ev_iconst_0, ↓ev_istore_6, ↓ev_iload_6, ↓ev_iconst_4, ↓ev_lload_n_1, ↓ev_calls_2_0_1, ↓ev_calls_2_1_1, ↓ev_calls_2_2_1, ↓ev_calls_2_3_1, ↓ev_calls_2_4_1, ↓ev_if_eq, ↓ev_lload_n_3, ↓ev_lconst_1, ↓ev_aload_n_0, ↓ev_callv_3_0_1, ↓ev_callv_3_1_1, ↓ev_callv_3_2_1, ↓ev_callv_3_3_1, ↓ev_callv_3_4_1, ↓ev_lshl, ↓ev_lor, ↓ev_iinc_6_1, ↓ev_goto, ↓ev_iinc_5_1, ↓ev_ldc2_18446744073709551614, ↓ev_land, ↓ev_lret, Nat.reduceAdd]
  suffices H : ∀ (f k : Nat) (x : Int64) (o : Option mV), k + f = 64 → 1 ≤ k → (∀ c, c < 64 → tbit x c = dec (∃ t j, 1 ≤ t ∧ t < k ∧ j < 4 ∧ P t = true ∧ dt S t j = c)) → EX (Kd sL (d + 1)) sL md_X0_dataNamedBy (pG p) 1 [some (.inr (.inr (.inl (i, 0)))), some (.inr (.inl (lOr P 64))), none, some (.inr (.inl x)), none, some (.inl (nI k)), o] [] h by
    refine H 63 1 (lN 0) _ (by omega) (Nat.le_refl 1) (fun c _ => ?_)
    rw [tbit_0]
    refine (Eq.symm ?_)
    rw [dec_f]
    rintro ⟨d, j, h1, h2, -⟩
    omega
  intro f
  induction f with
  | zero =>
    intro k x o hk hak hx
    refine EX.go (Kd_mono _ _) [false, true, false, true, false, false, false, false] 40 1 ?_
    dsimp only [wpc_s, wsl_t, wsl_f, gD_0, gD_s, ↓denB_n, pI_s, pG_s, pU_n, cb_X0_dataNamedBy_0, cb_X0_dataNamedBy_1, cb_X0_dataNamedBy_2, cb_X0_dataNamedBy_3, cb_X0_dataNamedBy_4, cb_X0_dataNamedBy_5, cb_X0_dataNamedBy_6, cb_X0_dataNamedBy_7, ↓ev_lconst_0, ↓ev_lstore_n_3, ↓ev_iconst_1, ↓ev_istore_5, ↓ev_iload_5, ↓ev_bipush_64, ↓ev_icmp_ge, ↓ev_iconst_0, ↓ev_istore_6, ↓ev_iload_6, ↓ev_iconst_4, ↓ev_lload_n_1, ↓ev_calls_2_0_1, ↓ev_calls_2_1_1, ↓ev_calls_2_2_1, ↓ev_calls_2_3_1, ↓ev_calls_2_4_1, ↓ev_if_eq, ↓ev_lload_n_3, ↓ev_lconst_1, ↓ev_aload_n_0, ↓ev_callv_3_0_1, ↓ev_callv_3_1_1, ↓ev_callv_3_2_1, ↓ev_callv_3_3_1, ↓ev_callv_3_4_1, ↓ev_lshl, ↓ev_lor, ↓ev_iinc_6_1, ↓ev_goto, ↓ev_iinc_5_1, ↓ev_ldc2_18446744073709551614, ↓ev_land, ↓ev_lret, Nat.reduceAdd]
    try simp (disch := omega) only [pk_mul, nI_add, n_lt0, n_le0, n_eq0, n_ge0, n_gt0, n_lt, n_le, n_eq, n_in, n_div, n_rem, n_rem2, n_m1, nI_clamp, bz_0, bz_1, tI_0, tI_bz, n4, n16, eq_self, Nat.reduceLT, Nat.reduceLeDiff, Nat.reduceEqDiff, Nat.reduceAdd, Nat.reduceMul, Nat.reduceDiv, Nat.reduceMod, Nat.le_refl, decide_eq_false_iff_not, Classical.not_not, true_and, and_true, false_and, and_false, not_true_eq_false, not_false_eq_true, forall_const, true_implies, false_implies, implies_true, ne_eq]
    refine ⟨fun _ => ?_, fun c => absurd (show 64 ≤ k by omega) c⟩
    rw [show x &&& lN 18446744073709551614 = lOr (fun c => dec (isD S P c)) 64 from lOr_eq (fun c hc => ?_)]
    · exact hp
    · rw [tbit_and, hx c hc, tbit_m2 c hc, dec_dec, dec_and]
      apply dec_iff
      rw [show k = 64 by omega]
      unfold isD
      exact And.comm
  | succ f ih =>
    intro k x o hk hak hx
    refine EX.go (Kd_mono _ _) [false, true, false, true, false, false, false, false] 40 1 ?_
    dsimp only [wpc_s, wsl_t, wsl_f, gD_0, gD_s, ↓denB_n, pI_s, pG_s, pU_n, cb_X0_dataNamedBy_0, cb_X0_dataNamedBy_1, cb_X0_dataNamedBy_2, cb_X0_dataNamedBy_3, cb_X0_dataNamedBy_4, cb_X0_dataNamedBy_5, cb_X0_dataNamedBy_6, cb_X0_dataNamedBy_7, ↓ev_lconst_0, ↓ev_lstore_n_3, ↓ev_iconst_1, ↓ev_istore_5, ↓ev_iload_5, ↓ev_bipush_64, ↓ev_icmp_ge, ↓ev_iconst_0, ↓ev_istore_6, ↓ev_iload_6, ↓ev_iconst_4, ↓ev_lload_n_1, ↓ev_calls_2_0_1, ↓ev_calls_2_1_1, ↓ev_calls_2_2_1, ↓ev_calls_2_3_1, ↓ev_calls_2_4_1, ↓ev_if_eq, ↓ev_lload_n_3, ↓ev_lconst_1, ↓ev_aload_n_0, ↓ev_callv_3_0_1, ↓ev_callv_3_1_1, ↓ev_callv_3_2_1, ↓ev_callv_3_3_1, ↓ev_callv_3_4_1, ↓ev_lshl, ↓ev_lor, ↓ev_iinc_6_1, ↓ev_goto, ↓ev_iinc_5_1, ↓ev_ldc2_18446744073709551614, ↓ev_land, ↓ev_lret, Nat.reduceAdd]
    try simp (disch := omega) only [pk_mul, nI_add, n_lt0, n_le0, n_eq0, n_ge0, n_gt0, n_lt, n_le, n_eq, n_in, n_div, n_rem, n_rem2, n_m1, nI_clamp, bz_0, bz_1, tI_0, tI_bz, n4, n16, eq_self, Nat.reduceLT, Nat.reduceLeDiff, Nat.reduceEqDiff, Nat.reduceAdd, Nat.reduceMul, Nat.reduceDiv, Nat.reduceMod, Nat.le_refl, decide_eq_false_iff_not, Classical.not_not, true_and, and_true, false_and, and_false, not_true_eq_false, not_false_eq_true, forall_const, true_implies, false_implies, implies_true, ne_eq]
    refine ⟨fun c => absurd c (by omega), fun _ => ?_⟩
    suffices H2 : ∀ (f2 k2 : Nat) (x : Int64), k2 + f2 = 4 → (∀ c, c < 64 → tbit x c = dec ((∃ t j, 1 ≤ t ∧ t < k ∧ j < 4 ∧ P t = true ∧ dt S t j = c) ∨ ∃ j, j < k2 ∧ P k = true ∧ dt S k j = c)) → EX (Kd sL (d + 1)) sL md_X0_dataNamedBy (pG p) 3 [some (.inr (.inr (.inl (i, 0)))), some (.inr (.inl (lOr P 64))), none, some (.inr (.inl x)), none, some (.inl (nI k)), some (.inl (nI k2))] [] h by
      refine H2 4 0 x rfl (fun c hc => ?_)
      rw [hx c hc]
      apply dec_iff
      constructor
      · exact Or.inl
      · rintro (q | ⟨j, hj, -⟩)
        · exact q
        · omega
    intro f2
    induction f2 with
    | zero =>
      intro k2 x hk2 hx
      refine EX.go (Kd_mono _ _) [false, true, false, true, false, false, false, false] 40 3 ?_
      dsimp only [wpc_s, wsl_t, wsl_f, gD_0, gD_s, ↓denB_n, pI_s, pG_s, pU_n, cb_X0_dataNamedBy_0, cb_X0_dataNamedBy_1, cb_X0_dataNamedBy_2, cb_X0_dataNamedBy_3, cb_X0_dataNamedBy_4, cb_X0_dataNamedBy_5, cb_X0_dataNamedBy_6, cb_X0_dataNamedBy_7, ↓ev_lconst_0, ↓ev_lstore_n_3, ↓ev_iconst_1, ↓ev_istore_5, ↓ev_iload_5, ↓ev_bipush_64, ↓ev_icmp_ge, ↓ev_iconst_0, ↓ev_istore_6, ↓ev_iload_6, ↓ev_iconst_4, ↓ev_lload_n_1, ↓ev_calls_2_0_1, ↓ev_calls_2_1_1, ↓ev_calls_2_2_1, ↓ev_calls_2_3_1, ↓ev_calls_2_4_1, ↓ev_if_eq, ↓ev_lload_n_3, ↓ev_lconst_1, ↓ev_aload_n_0, ↓ev_callv_3_0_1, ↓ev_callv_3_1_1, ↓ev_callv_3_2_1, ↓ev_callv_3_3_1, ↓ev_callv_3_4_1, ↓ev_lshl, ↓ev_lor, ↓ev_iinc_6_1, ↓ev_goto, ↓ev_iinc_5_1, ↓ev_ldc2_18446744073709551614, ↓ev_land, ↓ev_lret, Nat.reduceAdd]
      try simp (disch := omega) only [pk_mul, nI_add, n_lt0, n_le0, n_eq0, n_ge0, n_gt0, n_lt, n_le, n_eq, n_in, n_div, n_rem, n_rem2, n_m1, nI_clamp, bz_0, bz_1, tI_0, tI_bz, n4, n16, eq_self, Nat.reduceLT, Nat.reduceLeDiff, Nat.reduceEqDiff, Nat.reduceAdd, Nat.reduceMul, Nat.reduceDiv, Nat.reduceMod, Nat.le_refl, decide_eq_false_iff_not, Classical.not_not, true_and, and_true, false_and, and_false, not_true_eq_false, not_false_eq_true, forall_const, true_implies, false_implies, implies_true, ne_eq]
      refine ⟨fun _ => ?_, fun c => absurd (show 4 ≤ k2 by omega) c⟩
      refine ih (k + 1) x _ (by omega) (by omega) (fun c hc => ?_)
      rw [hx c hc]
      apply dec_iff
      constructor
      · rintro (⟨d, j, h1, h2, h3, h4⟩ | ⟨j, hj, h4⟩)
        · exact ⟨d, j, h1, by omega, h3, h4⟩
        · exact ⟨k, j, hak, by omega, by omega, h4⟩
      · rintro ⟨d, j, h1, h2, h3, h4⟩
        rcases Nat.lt_or_ge d k with q | q
        · exact Or.inl ⟨d, j, h1, q, h3, h4⟩
        · have : d = k := by omega
          subst this
          exact Or.inr ⟨j, by omega, h4⟩
    | succ f2 ih2 =>
      intro k2 x hk2 hx
      refine EX.go (Kd_mono _ _) [false, true, false, true, false, false, false, false] 40 3 ?_
      dsimp only [wpc_s, wsl_t, wsl_f, gD_0, gD_s, ↓denB_n, pI_s, pG_s, pU_n, cb_X0_dataNamedBy_0, cb_X0_dataNamedBy_1, cb_X0_dataNamedBy_2, cb_X0_dataNamedBy_3, cb_X0_dataNamedBy_4, cb_X0_dataNamedBy_5, cb_X0_dataNamedBy_6, cb_X0_dataNamedBy_7, ↓ev_lconst_0, ↓ev_lstore_n_3, ↓ev_iconst_1, ↓ev_istore_5, ↓ev_iload_5, ↓ev_bipush_64, ↓ev_icmp_ge, ↓ev_iconst_0, ↓ev_istore_6, ↓ev_iload_6, ↓ev_iconst_4, ↓ev_lload_n_1, ↓ev_calls_2_0_1, ↓ev_calls_2_1_1, ↓ev_calls_2_2_1, ↓ev_calls_2_3_1, ↓ev_calls_2_4_1, ↓ev_if_eq, ↓ev_lload_n_3, ↓ev_lconst_1, ↓ev_aload_n_0, ↓ev_callv_3_0_1, ↓ev_callv_3_1_1, ↓ev_callv_3_2_1, ↓ev_callv_3_3_1, ↓ev_callv_3_4_1, ↓ev_lshl, ↓ev_lor, ↓ev_iinc_6_1, ↓ev_goto, ↓ev_iinc_5_1, ↓ev_ldc2_18446744073709551614, ↓ev_land, ↓ev_lret, Nat.reduceAdd]
      try simp (disch := omega) only [pk_mul, nI_add, n_lt0, n_le0, n_eq0, n_ge0, n_gt0, n_lt, n_le, n_eq, n_in, n_div, n_rem, n_rem2, n_m1, nI_clamp, bz_0, bz_1, tI_0, tI_bz, n4, n16, eq_self, Nat.reduceLT, Nat.reduceLeDiff, Nat.reduceEqDiff, Nat.reduceAdd, Nat.reduceMul, Nat.reduceDiv, Nat.reduceMod, Nat.le_refl, decide_eq_false_iff_not, Classical.not_not, true_and, and_true, false_and, and_false, not_true_eq_false, not_false_eq_true, forall_const, true_implies, false_implies, implies_true, ne_eq]
      refine ⟨fun c => absurd c (by omega), fun _ => ?_⟩
      refine k_isIn (by omega) ?_
      try simp (disch := omega) only [pk_mul, nI_add, n_lt0, n_le0, n_eq0, n_ge0, n_gt0, n_lt, n_le, n_eq, n_in, n_div, n_rem, n_rem2, n_m1, nI_clamp, bz_0, bz_1, tI_0, tI_bz, n4, n16, eq_self, Nat.reduceLT, Nat.reduceLeDiff, Nat.reduceEqDiff, Nat.reduceAdd, Nat.reduceMul, Nat.reduceDiv, Nat.reduceMod, Nat.le_refl, decide_eq_false_iff_not, Classical.not_not, true_and, and_true, false_and, and_false, not_true_eq_false, not_false_eq_true, forall_const, true_implies, false_implies, implies_true, ne_eq]
      refine ⟨fun c => ?_, fun c => ?_⟩
      · refine ih (k + 1) x _ (by omega) (by omega) (fun e he => ?_)
        rw [hx e he]
        apply dec_iff
        constructor
        · rintro (⟨d, j, h1, h2, h3, h4⟩ | ⟨j, hj, h4, -⟩)
          · exact ⟨d, j, h1, by omega, h3, h4⟩
          · rw [c] at h4; cases h4
        · rintro ⟨d, j, h1, h2, h3, h4, h5⟩
          rcases Nat.lt_or_ge d k with q | q
          · exact Or.inl ⟨d, j, h1, q, h3, h4, h5⟩
          · rw [show d = k by omega, c] at h4; cases h4
      · have hPk : P k = true := by simpa using c
        refine k_dataAt hC (by omega) (by omega) ?_
        try simp (disch := omega) only [pk_mul, nI_add, n_lt0, n_le0, n_eq0, n_ge0, n_gt0, n_lt, n_le, n_eq, n_in, n_div, n_rem, n_rem2, n_m1, nI_clamp, bz_0, bz_1, tI_0, tI_bz, n4, n16, eq_self, Nat.reduceLT, Nat.reduceLeDiff, Nat.reduceEqDiff, Nat.reduceAdd, Nat.reduceMul, Nat.reduceDiv, Nat.reduceMod, Nat.le_refl, decide_eq_false_iff_not, Classical.not_not, true_and, and_true, false_and, and_false, not_true_eq_false, not_false_eq_true, forall_const, true_implies, false_implies, implies_true, ne_eq]
        refine ih2 (k2 + 1) _ (by omega) (fun c hc => ?_)
        rw [tbit_or, hx c hc, tbit_shl (dt_lt _ _ _), dec_dec, dec_or]
        apply dec_iff
        constructor
        · rintro ((q | ⟨j, hj, h4⟩) | q)
          · exact Or.inl q
          · exact Or.inr ⟨j, by omega, h4⟩
          · exact Or.inr ⟨k2, by omega, hPk, q.symm⟩
        · rintro (q | ⟨j, hj, h3, h4⟩)
          · exact Or.inl (Or.inl q)
          · rcases Nat.lt_or_ge j k2 with q | q
            · exact Or.inl (Or.inr ⟨j, q, h3, h4⟩)
            · have : j = k2 := by omega
              subst this
              exact Or.inr h4.symm
/-- what a holder holds -/
def hld (S : St) (dd c : Nat) : Prop := isT S dd (dd + 1) c ∨ isD S (fun t => dec (isT S dd (dd + 1) t)) c
theorem k_heldBy {dd : Nat} {p : Int64 → mH → Prop} (hC : CR h i S) (hd : dd < 14) (hp : p (lOr (fun c => dec (hld S dd c)) 64) h) : mG (Kd sL (d + 3)) 20 [.inr (.inr (.inl (i, 0))), .inl (nI dd)] h p := by
  refine ke_X0_heldBy ?_
  refine EX.go (Kd_mono _ _) [false, false, false, false] 40 0 ?_
  dsimp only [wpc_s, wsl_t, wsl_f, gD_0, gD_s, ↓denB_n, pI_s, pG_s, pU_n, cb_X0_heldBy_0, cb_X0_heldBy_1, cb_X0_heldBy_2, cb_X0_heldBy_3, ↓ev_iload_n_1, ↓ev_if_ge, ↓ev_lconst_0, ↓ev_goto, ↓ev_aload_n_0, ↓ev_iconst_1, ↓ev_iadd, ↓ev_callv_3_0_2, ↓ev_callv_3_1_2, ↓ev_callv_3_2_2, ↓ev_callv_3_3_2, ↓ev_callv_3_4_2, ↓ev_lstore_n_2, ↓ev_lload_n_2, ↓ev_callv_2_0_2, ↓ev_callv_2_1_2, ↓ev_callv_2_2_2, ↓ev_callv_2_3_2, ↓ev_callv_2_4_2, ↓ev_lor, ↓ev_lret, Nat.reduceAdd]
  try simp (disch := omega) only [pk_mul, nI_add, n_lt0, n_le0, n_eq0, n_ge0, n_gt0, n_lt, n_le, n_eq, n_in, n_div, n_rem, n_rem2, n_m1, nI_clamp, bz_0, bz_1, tI_0, tI_bz, n4, n16, eq_self, Nat.reduceLT, Nat.reduceLeDiff, Nat.reduceEqDiff, Nat.reduceAdd, Nat.reduceMul, Nat.reduceDiv, Nat.reduceMod, Nat.le_refl, decide_eq_false_iff_not, Classical.not_not, true_and, and_true, false_and, and_false, not_true_eq_false, not_false_eq_true, forall_const, true_implies, false_implies, implies_true, ne_eq]
  refine k_tablesOf hC (by omega) (by omega) ?_
  refine k_dataNamedBy hC ?_
  rw [show lOr (fun t => dec (isT S dd (dd + 1) t)) 64 ||| lOr (fun c => dec (isD S (fun t => dec (isT S dd (dd + 1) t)) c)) 64 = lOr (fun c => dec (hld S dd c)) 64 from lOr_eq (fun c hc => ?_)]
  · exact hp
  · rw [tbit_or, tbit_lOr _ 64 c (by omega), tbit_lOr _ 64 c (by omega)]
    simp only [hc, decide_true, Bool.true_and]
    exact dec_or
theorem k_heldBy_none {p : Int64 → mH → Prop} (hC : CR h i S) (hp : p (lN 0) h) : mG (Kd sL (d + 3)) 20 [.inr (.inr (.inl (i, 0))), .inl (-1)] h p := by
  refine ke_X0_heldBy ?_
  refine EX.go (Kd_mono _ _) [false, false, false, false] 40 0 ?_
  dsimp only [wpc_s, wsl_t, wsl_f, gD_0, gD_s, ↓denB_n, pI_s, pG_s, pU_n, cb_X0_heldBy_0, cb_X0_heldBy_1, cb_X0_heldBy_2, cb_X0_heldBy_3, ↓ev_iload_n_1, ↓ev_if_ge, ↓ev_lconst_0, ↓ev_goto, ↓ev_aload_n_0, ↓ev_iconst_1, ↓ev_iadd, ↓ev_callv_3_0_2, ↓ev_callv_3_1_2, ↓ev_callv_3_2_2, ↓ev_callv_3_3_2, ↓ev_callv_3_4_2, ↓ev_lstore_n_2, ↓ev_lload_n_2, ↓ev_callv_2_0_2, ↓ev_callv_2_1_2, ↓ev_callv_2_2_2, ↓ev_callv_2_3_2, ↓ev_callv_2_4_2, ↓ev_lor, ↓ev_lret, Nat.reduceAdd]
  have e0 : lN 0 = lOr (fun _ => false) 64 := by
    rw [eq_comm, lOr_0]
    exact fun _ _ => rfl
  refine ⟨fun c => absurd c (by decide), fun _ => ?_⟩
  rw [e0]
  refine k_dataNamedBy hC ?_
  rw [show lOr (fun _ => false) 64 ||| lOr (fun c => dec (isD S (fun _ => false) c)) 64 = lN 0 from ?_]
  · exact hp
  · apply tbit_ext
    intro c hc
    rw [tbit_or, tbit_lOr _ 64 c (by omega), tbit_lOr _ 64 c (by omega), tbit_0]
    have : dec (isD S (fun _ => false) c) = false := by
      rw [dec_f]
      rintro ⟨-, t, k, -, -, -, z, -⟩
      cases z
    simp [this]
/-! counting -/
def icn (a b : Nat) : Nat := if a = b then 1 else 0
def cn4 (S : St) (t c : Nat) : Nat := fb_sm (fun k => icn (dt S t k) c) 4
noncomputable def nmc (S : St) (c : Nat) : Nat := fb_sm (fun t => if dec (isT S 0 14 t) then cn4 S t c else 0) 64
def rf4 (S : St) (dd c : Nat) : Nat := fb_sm (fun k => icn (tb S dd k) c) 4
def rfc (S : St) (c : Nat) : Nat := fb_sm (fun dd => rf4 S dd c) 14
/-- the true count -/
noncomputable def tru (S : St) (c : Nat) : Nat := rfc S c + nmc S c
theorem upd_icn {f : Nat → Int32} {k : Nat} {g : Nat → Nat} (hf : ∀ c, 1 ≤ c → c < 64 → f c = nI (g c)) : ∀ c, 1 ≤ c → c < 64 → upd f k (f k + nI 1) c = nI (g c + icn k c) := by
  intro c h1 h2
  by_cases e : c = k
  · subst e
    rw [pk_us, hf c h1 h2, nI_add]
    simp [icn]
  · rw [pk_un e, hf c h1 h2]
    simp [icn, Ne.symm e]
theorem k_countCells {p : mH → Prop} (hC : CR h i S) (hp : ∀ h', Oi i h h' → CR h' i S → (∀ c, 1 ≤ c → c < 64 → h' (.inl (i, 6)) c = nI (nmc S c)) → p h') : mU (Kd sL (d + 3)) 21 [.inr (.inr (.inl (i, 0)))] h p := by
  refine ke_X0_countCells ?_
  refine EX.go (Kd_mono _ _) [false, true, false, true, false, false, false, false] 40 0 ?_
  dsimp only [wpc_s, wsl_t, wsl_f, gD_0, gD_s, ↓denB_n, pI_s, pG_s, pU_n, cb_X0_countCells_0, cb_X0_countCells_1, cb_X0_countCells_2, cb_X0_countCells_3, cb_X0_countCells_4, cb_X0_countCells_5, cb_X0_countCells_6, cb_X0_countCells_7, ↓ev_aload_n_0, ↓ev_getf_0_7, ↓ev_iconst_0, ↓ev_calls_2_0_0, ↓ev_calls_2_1_0, ↓ev_calls_2_2_0, ↓ev_calls_2_3_0, ↓ev_calls_2_4_0, ↓ev_bipush_14, ↓ev_callv_3_0_2, ↓ev_callv_3_1_2, ↓ev_callv_3_2_2, ↓ev_callv_3_3_2, ↓ev_callv_3_4_2, ↓ev_lstore_n_1, ↓ev_iconst_1, ↓ev_istore_n_3, ↓ev_iload_n_3, ↓ev_bipush_64, ↓ev_icmp_ge, ↓ev_istore_4, ↓ev_iload_4, ↓ev_iconst_4, ↓ev_lload_n_1, ↓ev_calls_2_0_1, ↓ev_calls_2_1_1, ↓ev_calls_2_2_1, ↓ev_calls_2_3_1, ↓ev_calls_2_4_1, ↓ev_if_eq, ↓ev_callv_3_0_1, ↓ev_callv_3_1_1, ↓ev_callv_3_2_1, ↓ev_callv_3_3_1, ↓ev_callv_3_4_1, ↓ev_dup2, ↓ev_iald_m1, ↓ev_iald_m2, ↓ev_iald_m3, ↓ev_iald_m4, ↓ev_iald_m5, ↓ev_iald_m6, ↓ev_iadd, ↓ev_iast_m1, ↓ev_iast_m2, ↓ev_iast_m3, ↓ev_iast_m4, ↓ev_iast_m5, ↓ev_iast_m6, ↓ev_iinc_4_1, ↓ev_goto, ↓ev_iinc_3_1, ↓ev_ret, Nat.reduceAdd]
  refine k_fill2 (r := .inl (i, 6)) (n := 64) rfl (by decide) (fun g hg => ?_)
  refine k_tablesOf (hC.pt6 g) (by decide) (by decide) ?_
  suffices H : ∀ (f k : Nat) (g : Nat → Int32) (o : Option mV), k + f = 64 → 1 ≤ k → (∀ c, 1 ≤ c → c < 64 → g c = nI (fb_sm (fun t => if dec (isT S 0 14 t) then cn4 S t c else 0) k)) → EX (Kd sL (d + 2)) sL md_X0_countCells (pU p) 1 [some (.inr (.inr (.inl (i, 0)))), some (.inr (.inl (lOr (fun t => dec (isT S 0 14 t)) 64))), none, some (.inl (nI k)), o] [] (hpt h (.inl (i, 6)) g) by
    refine H 63 1 g _ (by omega) (Nat.le_refl 1) (fun c h1 h2 => ?_)
    rw [hg c h2]
    have e0 : dec (isT S 0 14 0) = false := by rw [dec_f]; exact fun z => z.1 rfl
    simp [fb_sm, e0]
  intro f
  induction f with
  | zero =>
    intro k g o hk h1 hg
    refine EX.go (Kd_mono _ _) [false, true, false, true, false, false, false, false] 40 1 ?_
    dsimp only [wpc_s, wsl_t, wsl_f, gD_0, gD_s, ↓denB_n, pI_s, pG_s, pU_n, cb_X0_countCells_0, cb_X0_countCells_1, cb_X0_countCells_2, cb_X0_countCells_3, cb_X0_countCells_4, cb_X0_countCells_5, cb_X0_countCells_6, cb_X0_countCells_7, ↓ev_aload_n_0, ↓ev_getf_0_7, ↓ev_iconst_0, ↓ev_calls_2_0_0, ↓ev_calls_2_1_0, ↓ev_calls_2_2_0, ↓ev_calls_2_3_0, ↓ev_calls_2_4_0, ↓ev_bipush_14, ↓ev_callv_3_0_2, ↓ev_callv_3_1_2, ↓ev_callv_3_2_2, ↓ev_callv_3_3_2, ↓ev_callv_3_4_2, ↓ev_lstore_n_1, ↓ev_iconst_1, ↓ev_istore_n_3, ↓ev_iload_n_3, ↓ev_bipush_64, ↓ev_icmp_ge, ↓ev_istore_4, ↓ev_iload_4, ↓ev_iconst_4, ↓ev_lload_n_1, ↓ev_calls_2_0_1, ↓ev_calls_2_1_1, ↓ev_calls_2_2_1, ↓ev_calls_2_3_1, ↓ev_calls_2_4_1, ↓ev_if_eq, ↓ev_callv_3_0_1, ↓ev_callv_3_1_1, ↓ev_callv_3_2_1, ↓ev_callv_3_3_1, ↓ev_callv_3_4_1, ↓ev_dup2, ↓ev_iald_m1, ↓ev_iald_m2, ↓ev_iald_m3, ↓ev_iald_m4, ↓ev_iald_m5, ↓ev_iald_m6, ↓ev_iadd, ↓ev_iast_m1, ↓ev_iast_m2, ↓ev_iast_m3, ↓ev_iast_m4, ↓ev_iast_m5, ↓ev_iast_m6, ↓ev_iinc_4_1, ↓ev_goto, ↓ev_iinc_3_1, ↓ev_ret, Nat.reduceAdd]
    try simp (disch := omega) only [pk_mul, nI_add, n_lt0, n_le0, n_eq0, n_ge0, n_gt0, n_lt, n_le, n_eq, n_in, n_div, n_rem, n_rem2, n_m1, nI_clamp, bz_0, bz_1, tI_0, tI_bz, n4, n16, eq_self, Nat.reduceLT, Nat.reduceLeDiff, Nat.reduceEqDiff, Nat.reduceAdd, Nat.reduceMul, Nat.reduceDiv, Nat.reduceMod, Nat.le_refl, decide_eq_false_iff_not, Classical.not_not, true_and, and_true, false_and, and_false, not_true_eq_false, not_false_eq_true, forall_const, true_implies, false_implies, implies_true, ne_eq]
    refine ⟨fun _ => ?_, fun c => absurd (show 64 ≤ k by omega) c⟩
    rw [hup_hpt]
    refine hp _ Oi.pt (hC.pt6 _) (fun c h1 h2 => ?_)
    rw [hpt_self, pk_un (by omega), hg c h1 h2, show k = 64 by omega]
    rfl
  | succ f ih =>
    intro k g o hk h1 hg
    refine EX.go (Kd_mono _ _) [false, true, false, true, false, false, false, false] 40 1 ?_
    dsimp only [wpc_s, wsl_t, wsl_f, gD_0, gD_s, ↓denB_n, pI_s, pG_s, pU_n, cb_X0_countCells_0, cb_X0_countCells_1, cb_X0_countCells_2, cb_X0_countCells_3, cb_X0_countCells_4, cb_X0_countCells_5, cb_X0_countCells_6, cb_X0_countCells_7, ↓ev_aload_n_0, ↓ev_getf_0_7, ↓ev_iconst_0, ↓ev_calls_2_0_0, ↓ev_calls_2_1_0, ↓ev_calls_2_2_0, ↓ev_calls_2_3_0, ↓ev_calls_2_4_0, ↓ev_bipush_14, ↓ev_callv_3_0_2, ↓ev_callv_3_1_2, ↓ev_callv_3_2_2, ↓ev_callv_3_3_2, ↓ev_callv_3_4_2, ↓ev_lstore_n_1, ↓ev_iconst_1, ↓ev_istore_n_3, ↓ev_iload_n_3, ↓ev_bipush_64, ↓ev_icmp_ge, ↓ev_istore_4, ↓ev_iload_4, ↓ev_iconst_4, ↓ev_lload_n_1, ↓ev_calls_2_0_1, ↓ev_calls_2_1_1, ↓ev_calls_2_2_1, ↓ev_calls_2_3_1, ↓ev_calls_2_4_1, ↓ev_if_eq, ↓ev_callv_3_0_1, ↓ev_callv_3_1_1, ↓ev_callv_3_2_1, ↓ev_callv_3_3_1, ↓ev_callv_3_4_1, ↓ev_dup2, ↓ev_iald_m1, ↓ev_iald_m2, ↓ev_iald_m3, ↓ev_iald_m4, ↓ev_iald_m5, ↓ev_iald_m6, ↓ev_iadd, ↓ev_iast_m1, ↓ev_iast_m2, ↓ev_iast_m3, ↓ev_iast_m4, ↓ev_iast_m5, ↓ev_iast_m6, ↓ev_iinc_4_1, ↓ev_goto, ↓ev_iinc_3_1, ↓ev_ret, Nat.reduceAdd]
    try simp (disch := omega) only [pk_mul, nI_add, n_lt0, n_le0, n_eq0, n_ge0, n_gt0, n_lt, n_le, n_eq, n_in, n_div, n_rem, n_rem2, n_m1, nI_clamp, bz_0, bz_1, tI_0, tI_bz, n4, n16, eq_self, Nat.reduceLT, Nat.reduceLeDiff, Nat.reduceEqDiff, Nat.reduceAdd, Nat.reduceMul, Nat.reduceDiv, Nat.reduceMod, Nat.le_refl, decide_eq_false_iff_not, Classical.not_not, true_and, and_true, false_and, and_false, not_true_eq_false, not_false_eq_true, forall_const, true_implies, false_implies, implies_true, ne_eq]
    refine ⟨fun c => absurd c (by omega), fun _ => ?_⟩
    suffices H2 : ∀ (f2 k2 : Nat) (g : Nat → Int32), k2 + f2 = 4 → (∀ c, 1 ≤ c → c < 64 → g c = nI (fb_sm (fun t => if dec (isT S 0 14 t) then cn4 S t c else 0) k + (if dec (isT S 0 14 k) then fb_sm (fun j => icn (dt S k j) c) k2 else 0))) → EX (Kd sL (d + 2)) sL md_X0_countCells (pU p) 3 [some (.inr (.inr (.inl (i, 0)))), some (.inr (.inl (lOr (fun t => dec (isT S 0 14 t)) 64))), none, some (.inl (nI k)), some (.inl (nI k2))] [] (hpt h (.inl (i, 6)) g) by
      refine H2 4 0 g rfl (fun c h1 h2 => ?_)
      rw [hg c h1 h2]
      simp [fb_sm]
    intro f2
    induction f2 with
    | zero =>
      intro k2 g hk2 hg
      refine EX.go (Kd_mono _ _) [false, true, false, true, false, false, false, false] 40 3 ?_
      dsimp only [wpc_s, wsl_t, wsl_f, gD_0, gD_s, ↓denB_n, pI_s, pG_s, pU_n, cb_X0_countCells_0, cb_X0_countCells_1, cb_X0_countCells_2, cb_X0_countCells_3, cb_X0_countCells_4, cb_X0_countCells_5, cb_X0_countCells_6, cb_X0_countCells_7, ↓ev_aload_n_0, ↓ev_getf_0_7, ↓ev_iconst_0, ↓ev_calls_2_0_0, ↓ev_calls_2_1_0, ↓ev_calls_2_2_0, ↓ev_calls_2_3_0, ↓ev_calls_2_4_0, ↓ev_bipush_14, ↓ev_callv_3_0_2, ↓ev_callv_3_1_2, ↓ev_callv_3_2_2, ↓ev_callv_3_3_2, ↓ev_callv_3_4_2, ↓ev_lstore_n_1, ↓ev_iconst_1, ↓ev_istore_n_3, ↓ev_iload_n_3, ↓ev_bipush_64, ↓ev_icmp_ge, ↓ev_istore_4, ↓ev_iload_4, ↓ev_iconst_4, ↓ev_lload_n_1, ↓ev_calls_2_0_1, ↓ev_calls_2_1_1, ↓ev_calls_2_2_1, ↓ev_calls_2_3_1, ↓ev_calls_2_4_1, ↓ev_if_eq, ↓ev_callv_3_0_1, ↓ev_callv_3_1_1, ↓ev_callv_3_2_1, ↓ev_callv_3_3_1, ↓ev_callv_3_4_1, ↓ev_dup2, ↓ev_iald_m1, ↓ev_iald_m2, ↓ev_iald_m3, ↓ev_iald_m4, ↓ev_iald_m5, ↓ev_iald_m6, ↓ev_iadd, ↓ev_iast_m1, ↓ev_iast_m2, ↓ev_iast_m3, ↓ev_iast_m4, ↓ev_iast_m5, ↓ev_iast_m6, ↓ev_iinc_4_1, ↓ev_goto, ↓ev_iinc_3_1, ↓ev_ret, Nat.reduceAdd]
      try simp (disch := omega) only [pk_mul, nI_add, n_lt0, n_le0, n_eq0, n_ge0, n_gt0, n_lt, n_le, n_eq, n_in, n_div, n_rem, n_rem2, n_m1, nI_clamp, bz_0, bz_1, tI_0, tI_bz, n4, n16, eq_self, Nat.reduceLT, Nat.reduceLeDiff, Nat.reduceEqDiff, Nat.reduceAdd, Nat.reduceMul, Nat.reduceDiv, Nat.reduceMod, Nat.le_refl, decide_eq_false_iff_not, Classical.not_not, true_and, and_true, false_and, and_false, not_true_eq_false, not_false_eq_true, forall_const, true_implies, false_implies, implies_true, ne_eq]
      refine ⟨fun _ => ?_, fun c => absurd (show 4 ≤ k2 by omega) c⟩
      refine ih (k + 1) g _ (by omega) (by omega) (fun c h1 h2 => ?_)
      rw [hg c h1 h2, fb_sm_succ, show k2 = 4 by omega]
      rfl
    | succ f2 ih2 =>
      intro k2 g hk2 hg
      refine EX.go (Kd_mono _ _) [false, true, false, true, false, false, false, false] 40 3 ?_
      dsimp only [wpc_s, wsl_t, wsl_f, gD_0, gD_s, ↓denB_n, pI_s, pG_s, pU_n, cb_X0_countCells_0, cb_X0_countCells_1, cb_X0_countCells_2, cb_X0_countCells_3, cb_X0_countCells_4, cb_X0_countCells_5, cb_X0_countCells_6, cb_X0_countCells_7, ↓ev_aload_n_0, ↓ev_getf_0_7, ↓ev_iconst_0, ↓ev_calls_2_0_0, ↓ev_calls_2_1_0, ↓ev_calls_2_2_0, ↓ev_calls_2_3_0, ↓ev_calls_2_4_0, ↓ev_bipush_14, ↓ev_callv_3_0_2, ↓ev_callv_3_1_2, ↓ev_callv_3_2_2, ↓ev_callv_3_3_2, ↓ev_callv_3_4_2, ↓ev_lstore_n_1, ↓ev_iconst_1, ↓ev_istore_n_3, ↓ev_iload_n_3, ↓ev_bipush_64, ↓ev_icmp_ge, ↓ev_istore_4, ↓ev_iload_4, ↓ev_iconst_4, ↓ev_lload_n_1, ↓ev_calls_2_0_1, ↓ev_calls_2_1_1, ↓ev_calls_2_2_1, ↓ev_calls_2_3_1, ↓ev_calls_2_4_1, ↓ev_if_eq, ↓ev_callv_3_0_1, ↓ev_callv_3_1_1, ↓ev_callv_3_2_1, ↓ev_callv_3_3_1, ↓ev_callv_3_4_1, ↓ev_dup2, ↓ev_iald_m1, ↓ev_iald_m2, ↓ev_iald_m3, ↓ev_iald_m4, ↓ev_iald_m5, ↓ev_iald_m6, ↓ev_iadd, ↓ev_iast_m1, ↓ev_iast_m2, ↓ev_iast_m3, ↓ev_iast_m4, ↓ev_iast_m5, ↓ev_iast_m6, ↓ev_iinc_4_1, ↓ev_goto, ↓ev_iinc_3_1, ↓ev_ret, Nat.reduceAdd]
      try simp (disch := omega) only [pk_mul, nI_add, n_lt0, n_le0, n_eq0, n_ge0, n_gt0, n_lt, n_le, n_eq, n_in, n_div, n_rem, n_rem2, n_m1, nI_clamp, bz_0, bz_1, tI_0, tI_bz, n4, n16, eq_self, Nat.reduceLT, Nat.reduceLeDiff, Nat.reduceEqDiff, Nat.reduceAdd, Nat.reduceMul, Nat.reduceDiv, Nat.reduceMod, Nat.le_refl, decide_eq_false_iff_not, Classical.not_not, true_and, and_true, false_and, and_false, not_true_eq_false, not_false_eq_true, forall_const, true_implies, false_implies, implies_true, ne_eq]
      refine ⟨fun c => absurd c (by omega), fun _ => ?_⟩
      refine k_isIn (by omega) ?_
      try simp (disch := omega) only [pk_mul, nI_add, n_lt0, n_le0, n_eq0, n_ge0, n_gt0, n_lt, n_le, n_eq, n_in, n_div, n_rem, n_rem2, n_m1, nI_clamp, bz_0, bz_1, tI_0, tI_bz, n4, n16, eq_self, Nat.reduceLT, Nat.reduceLeDiff, Nat.reduceEqDiff, Nat.reduceAdd, Nat.reduceMul, Nat.reduceDiv, Nat.reduceMod, Nat.le_refl, decide_eq_false_iff_not, Classical.not_not, true_and, and_true, false_and, and_false, not_true_eq_false, not_false_eq_true, forall_const, true_implies, false_implies, implies_true, ne_eq]
      refine ⟨fun c => ?_, fun c => ?_⟩
      · refine ih (k + 1) g _ (by omega) (by omega) (fun e h1 h2 => ?_)
        rw [hg e h1 h2, fb_sm_succ, c]
        rfl
      · have hPk : dec (isT S 0 14 k) = true := by simpa using c
        refine k_dataAt (hC.pt6 g) (by omega) (by omega) ?_
        have hdl := dt_lt S k k2
        try simp (disch := omega) only [pk_mul, nI_add, n_lt0, n_le0, n_eq0, n_ge0, n_gt0, n_lt, n_le, n_eq, n_in, n_div, n_rem, n_rem2, n_m1, nI_clamp, bz_0, bz_1, tI_0, tI_bz, n4, n16, eq_self, Nat.reduceLT, Nat.reduceLeDiff, Nat.reduceEqDiff, Nat.reduceAdd, Nat.reduceMul, Nat.reduceDiv, Nat.reduceMod, Nat.le_refl, decide_eq_false_iff_not, Classical.not_not, true_and, and_true, false_and, and_false, not_true_eq_false, not_false_eq_true, forall_const, true_implies, false_implies, implies_true, ne_eq, hup_hpt, hpt_self]
        refine ⟨by omega, by omega, ih2 (k2 + 1) _ (by omega) (fun c h1 h2 => ?_)⟩
        rw [upd_icn hg c h1 h2, hPk]
        simp only [if_true, fb_sm_succ, Nat.add_assoc]
theorem k_countTrue {p : mH → Prop} (hC : CR h i S) (hp : ∀ h', Oi i h h' → CR h' i S → (∀ c, 1 ≤ c → c < 64 → h' (.inl (i, 6)) c = nI (tru S c)) → p h') : mU (Kd sL (d + 4)) 22 [.inr (.inr (.inl (i, 0)))] h p := by
  refine ke_X0_countTrue ?_
  refine EX.go (Kd_mono _ _) [false, true, false, true, false, false, false] 40 0 ?_
  dsimp only [wpc_s, wsl_t, wsl_f, gD_0, gD_s, ↓denB_n, pI_s, pG_s, pU_n, cb_X0_countTrue_0, cb_X0_countTrue_1, cb_X0_countTrue_2, cb_X0_countTrue_3, cb_X0_countTrue_4, cb_X0_countTrue_5, cb_X0_countTrue_6, ↓ev_aload_n_0, ↓ev_callv_1_0_0, ↓ev_callv_1_1_0, ↓ev_callv_1_2_0, ↓ev_callv_1_3_0, ↓ev_callv_1_4_0, ↓ev_iconst_0, ↓ev_istore_n_1, ↓ev_iload_n_1, ↓ev_bipush_14, ↓ev_icmp_ge, ↓ev_istore_n_2, ↓ev_iload_n_2, ↓ev_iconst_4, ↓ev_getf_0_7, ↓ev_callv_3_0_1, ↓ev_callv_3_1_1, ↓ev_callv_3_2_1, ↓ev_callv_3_3_1, ↓ev_callv_3_4_1, ↓ev_dup2, ↓ev_iald_m1, ↓ev_iald_m2, ↓ev_iald_m3, ↓ev_iald_m4, ↓ev_iald_m5, ↓ev_iald_m6, ↓ev_iconst_1, ↓ev_iadd, ↓ev_iast_m1, ↓ev_iast_m2, ↓ev_iast_m3, ↓ev_iast_m4, ↓ev_iast_m5, ↓ev_iast_m6, ↓ev_iinc_2_1, ↓ev_goto, ↓ev_iinc_1_1, ↓ev_ret, Nat.reduceAdd]
  refine k_countCells hC (fun h1 hO hC hf => ?_)
  suffices H : ∀ (f k : Nat) (g : Nat → Int32) (o : Option mV), k + f = 14 → (∀ c, 1 ≤ c → c < 64 → g c = nI (nmc S c + fb_sm (fun dd => rf4 S dd c) k)) → EX (Kd sL (d + 3)) sL md_X0_countTrue (pU p) 1 [some (.inr (.inr (.inl (i, 0)))), some (.inl (nI k)), o] [] (hpt h1 (.inl (i, 6)) g) by
    have := H 14 0 (h1 (.inl (i, 6))) none (by omega) (fun c e1 e2 => by rw [hf c e1 e2]; simp [fb_sm])
    rwa [hpt_eta] at this
  intro f
  induction f with
  | zero =>
    intro k g o hk hg
    refine EX.go (Kd_mono _ _) [false, true, false, true, false, false, false] 40 1 ?_
    dsimp only [wpc_s, wsl_t, wsl_f, gD_0, gD_s, ↓denB_n, pI_s, pG_s, pU_n, cb_X0_countTrue_0, cb_X0_countTrue_1, cb_X0_countTrue_2, cb_X0_countTrue_3, cb_X0_countTrue_4, cb_X0_countTrue_5, cb_X0_countTrue_6, ↓ev_aload_n_0, ↓ev_callv_1_0_0, ↓ev_callv_1_1_0, ↓ev_callv_1_2_0, ↓ev_callv_1_3_0, ↓ev_callv_1_4_0, ↓ev_iconst_0, ↓ev_istore_n_1, ↓ev_iload_n_1, ↓ev_bipush_14, ↓ev_icmp_ge, ↓ev_istore_n_2, ↓ev_iload_n_2, ↓ev_iconst_4, ↓ev_getf_0_7, ↓ev_callv_3_0_1, ↓ev_callv_3_1_1, ↓ev_callv_3_2_1, ↓ev_callv_3_3_1, ↓ev_callv_3_4_1, ↓ev_dup2, ↓ev_iald_m1, ↓ev_iald_m2, ↓ev_iald_m3, ↓ev_iald_m4, ↓ev_iald_m5, ↓ev_iald_m6, ↓ev_iconst_1, ↓ev_iadd, ↓ev_iast_m1, ↓ev_iast_m2, ↓ev_iast_m3, ↓ev_iast_m4, ↓ev_iast_m5, ↓ev_iast_m6, ↓ev_iinc_2_1, ↓ev_goto, ↓ev_iinc_1_1, ↓ev_ret, Nat.reduceAdd]
    try simp (disch := omega) only [pk_mul, nI_add, n_lt0, n_le0, n_eq0, n_ge0, n_gt0, n_lt, n_le, n_eq, n_in, n_div, n_rem, n_rem2, n_m1, nI_clamp, bz_0, bz_1, tI_0, tI_bz, n4, n16, eq_self, Nat.reduceLT, Nat.reduceLeDiff, Nat.reduceEqDiff, Nat.reduceAdd, Nat.reduceMul, Nat.reduceDiv, Nat.reduceMod, Nat.le_refl, decide_eq_false_iff_not, Classical.not_not, true_and, and_true, false_and, and_false, not_true_eq_false, not_false_eq_true, forall_const, true_implies, false_implies, implies_true, ne_eq]
    refine ⟨fun _ => ?_, fun c => absurd (show 14 ≤ k by omega) c⟩
    rw [hup_hpt]
    refine hp _ (hO.tr Oi.pt) (hC.pt6 _) (fun c e1 e2 => ?_)
    rw [hpt_self, pk_un (by omega), hg c e1 e2, show k = 14 by omega]
    unfold tru rfc
    rw [Nat.add_comm]
  | succ f ih =>
    intro k g o hk hg
    refine EX.go (Kd_mono _ _) [false, true, false, true, false, false, false] 40 1 ?_
    dsimp only [wpc_s, wsl_t, wsl_f, gD_0, gD_s, ↓denB_n, pI_s, pG_s, pU_n, cb_X0_countTrue_0, cb_X0_countTrue_1, cb_X0_countTrue_2, cb_X0_countTrue_3, cb_X0_countTrue_4, cb_X0_countTrue_5, cb_X0_countTrue_6, ↓ev_aload_n_0, ↓ev_callv_1_0_0, ↓ev_callv_1_1_0, ↓ev_callv_1_2_0, ↓ev_callv_1_3_0, ↓ev_callv_1_4_0, ↓ev_iconst_0, ↓ev_istore_n_1, ↓ev_iload_n_1, ↓ev_bipush_14, ↓ev_icmp_ge, ↓ev_istore_n_2, ↓ev_iload_n_2, ↓ev_iconst_4, ↓ev_getf_0_7, ↓ev_callv_3_0_1, ↓ev_callv_3_1_1, ↓ev_callv_3_2_1, ↓ev_callv_3_3_1, ↓ev_callv_3_4_1, ↓ev_dup2, ↓ev_iald_m1, ↓ev_iald_m2, ↓ev_iald_m3, ↓ev_iald_m4, ↓ev_iald_m5, ↓ev_iald_m6, ↓ev_iconst_1, ↓ev_iadd, ↓ev_iast_m1, ↓ev_iast_m2, ↓ev_iast_m3, ↓ev_iast_m4, ↓ev_iast_m5, ↓ev_iast_m6, ↓ev_iinc_2_1, ↓ev_goto, ↓ev_iinc_1_1, ↓ev_ret, Nat.reduceAdd]
    try simp (disch := omega) only [pk_mul, nI_add, n_lt0, n_le0, n_eq0, n_ge0, n_gt0, n_lt, n_le, n_eq, n_in, n_div, n_rem, n_rem2, n_m1, nI_clamp, bz_0, bz_1, tI_0, tI_bz, n4, n16, eq_self, Nat.reduceLT, Nat.reduceLeDiff, Nat.reduceEqDiff, Nat.reduceAdd, Nat.reduceMul, Nat.reduceDiv, Nat.reduceMod, Nat.le_refl, decide_eq_false_iff_not, Classical.not_not, true_and, and_true, false_and, and_false, not_true_eq_false, not_false_eq_true, forall_const, true_implies, false_implies, implies_true, ne_eq]
    refine ⟨fun c => absurd c (by omega), fun _ => ?_⟩
    suffices H2 : ∀ (f2 k2 : Nat) (g : Nat → Int32), k2 + f2 = 4 → (∀ c, 1 ≤ c → c < 64 → g c = nI (nmc S c + fb_sm (fun dd => rf4 S dd c) k + fb_sm (fun j => icn (tb S k j) c) k2)) → EX (Kd sL (d + 3)) sL md_X0_countTrue (pU p) 3 [some (.inr (.inr (.inl (i, 0)))), some (.inl (nI k)), some (.inl (nI k2))] [] (hpt h1 (.inl (i, 6)) g) by
      refine H2 4 0 g rfl (fun c e1 e2 => ?_)
      rw [hg c e1 e2]
      simp [fb_sm]
    intro f2
    induction f2 with
    | zero =>
      intro k2 g hk2 hg
      refine EX.go (Kd_mono _ _) [false, true, false, true, false, false, false] 40 3 ?_
      dsimp only [wpc_s, wsl_t, wsl_f, gD_0, gD_s, ↓denB_n, pI_s, pG_s, pU_n, cb_X0_countTrue_0, cb_X0_countTrue_1, cb_X0_countTrue_2, cb_X0_countTrue_3, cb_X0_countTrue_4, cb_X0_countTrue_5, cb_X0_countTrue_6, ↓ev_aload_n_0, ↓ev_callv_1_0_0, ↓ev_callv_1_1_0, ↓ev_callv_1_2_0, ↓ev_callv_1_3_0, ↓ev_callv_1_4_0, ↓ev_iconst_0, ↓ev_istore_n_1, ↓ev_iload_n_1, ↓ev_bipush_14, ↓ev_icmp_ge, ↓ev_istore_n_2, ↓ev_iload_n_2, ↓ev_iconst_4, ↓ev_getf_0_7, ↓ev_callv_3_0_1, ↓ev_callv_3_1_1, ↓ev_callv_3_2_1, ↓ev_callv_3_3_1, ↓ev_callv_3_4_1, ↓ev_dup2, ↓ev_iald_m1, ↓ev_iald_m2, ↓ev_iald_m3, ↓ev_iald_m4, ↓ev_iald_m5, ↓ev_iald_m6, ↓ev_iconst_1, ↓ev_iadd, ↓ev_iast_m1, ↓ev_iast_m2, ↓ev_iast_m3, ↓ev_iast_m4, ↓ev_iast_m5, ↓ev_iast_m6, ↓ev_iinc_2_1, ↓ev_goto, ↓ev_iinc_1_1, ↓ev_ret, Nat.reduceAdd]
      try simp (disch := omega) only [pk_mul, nI_add, n_lt0, n_le0, n_eq0, n_ge0, n_gt0, n_lt, n_le, n_eq, n_in, n_div, n_rem, n_rem2, n_m1, nI_clamp, bz_0, bz_1, tI_0, tI_bz, n4, n16, eq_self, Nat.reduceLT, Nat.reduceLeDiff, Nat.reduceEqDiff, Nat.reduceAdd, Nat.reduceMul, Nat.reduceDiv, Nat.reduceMod, Nat.le_refl, decide_eq_false_iff_not, Classical.not_not, true_and, and_true, false_and, and_false, not_true_eq_false, not_false_eq_true, forall_const, true_implies, false_implies, implies_true, ne_eq]
      refine ⟨fun _ => ?_, fun c => absurd (show 4 ≤ k2 by omega) c⟩
      refine ih (k + 1) g _ (by omega) (fun c e1 e2 => ?_)
      rw [hg c e1 e2, fb_sm_succ, show k2 = 4 by omega, Nat.add_assoc]
      rfl
    | succ f2 ih2 =>
      intro k2 g hk2 hg
      refine EX.go (Kd_mono _ _) [false, true, false, true, false, false, false] 40 3 ?_
      dsimp only [wpc_s, wsl_t, wsl_f, gD_0, gD_s, ↓denB_n, pI_s, pG_s, pU_n, cb_X0_countTrue_0, cb_X0_countTrue_1, cb_X0_countTrue_2, cb_X0_countTrue_3, cb_X0_countTrue_4, cb_X0_countTrue_5, cb_X0_countTrue_6, ↓ev_aload_n_0, ↓ev_callv_1_0_0, ↓ev_callv_1_1_0, ↓ev_callv_1_2_0, ↓ev_callv_1_3_0, ↓ev_callv_1_4_0, ↓ev_iconst_0, ↓ev_istore_n_1, ↓ev_iload_n_1, ↓ev_bipush_14, ↓ev_icmp_ge, ↓ev_istore_n_2, ↓ev_iload_n_2, ↓ev_iconst_4, ↓ev_getf_0_7, ↓ev_callv_3_0_1, ↓ev_callv_3_1_1, ↓ev_callv_3_2_1, ↓ev_callv_3_3_1, ↓ev_callv_3_4_1, ↓ev_dup2, ↓ev_iald_m1, ↓ev_iald_m2, ↓ev_iald_m3, ↓ev_iald_m4, ↓ev_iald_m5, ↓ev_iald_m6, ↓ev_iconst_1, ↓ev_iadd, ↓ev_iast_m1, ↓ev_iast_m2, ↓ev_iast_m3, ↓ev_iast_m4, ↓ev_iast_m5, ↓ev_iast_m6, ↓ev_iinc_2_1, ↓ev_goto, ↓ev_iinc_1_1, ↓ev_ret, Nat.reduceAdd]
      try simp (disch := omega) only [pk_mul, nI_add, n_lt0, n_le0, n_eq0, n_ge0, n_gt0, n_lt, n_le, n_eq, n_in, n_div, n_rem, n_rem2, n_m1, nI_clamp, bz_0, bz_1, tI_0, tI_bz, n4, n16, eq_self, Nat.reduceLT, Nat.reduceLeDiff, Nat.reduceEqDiff, Nat.reduceAdd, Nat.reduceMul, Nat.reduceDiv, Nat.reduceMod, Nat.le_refl, decide_eq_false_iff_not, Classical.not_not, true_and, and_true, false_and, and_false, not_true_eq_false, not_false_eq_true, forall_const, true_implies, false_implies, implies_true, ne_eq]
      refine ⟨fun c => absurd c (by omega), fun _ => ?_⟩
      refine k_tableAt (hC.pt6 g) (by omega) (by omega) ?_
      have hdl := tb_lt S k k2
      try simp (disch := omega) only [pk_mul, nI_add, n_lt0, n_le0, n_eq0, n_ge0, n_gt0, n_lt, n_le, n_eq, n_in, n_div, n_rem, n_rem2, n_m1, nI_clamp, bz_0, bz_1, tI_0, tI_bz, n4, n16, eq_self, Nat.reduceLT, Nat.reduceLeDiff, Nat.reduceEqDiff, Nat.reduceAdd, Nat.reduceMul, Nat.reduceDiv, Nat.reduceMod, Nat.le_refl, decide_eq_false_iff_not, Classical.not_not, true_and, and_true, false_and, and_false, not_true_eq_false, not_false_eq_true, forall_const, true_implies, false_implies, implies_true, ne_eq, hup_hpt, hpt_self]
      refine ⟨by omega, by omega, ih2 (k2 + 1) _ (by omega) (fun c e1 e2 => ?_)⟩
      rw [upd_icn hg c e1 e2]
      simp only [fb_sm_succ, Nat.add_assoc]
end CNT
end
section
/-! ===== class Image: sets of clusters, repair, copies, chains ===== -/
section IM2
variable {sL d : Nat} {h : mH} {i : Fin 3} {S : St}
theorem fb4_le (f : Nat → Nat) (c : Nat) : fb_sm (fun k => icn (f k) c) 4 ≤ 4 := by
  have := fb_sm_bound (f := fun k => icn (f k) c) (c := 1) (n := 4) (fun k _ => by unfold icn; split <;> omega)
  omega
theorem tru_le (S : St) (c : Nat) : tru S c ≤ 312 := by
  have h1 : rfc S c ≤ 14 * 4 := fb_sm_bound (fun k _ => fb4_le _ _)
  have h2 : nmc S c ≤ 64 * 4 := fb_sm_bound (fun k _ => by
    split
    · exact fb4_le _ _
    · omega)
  unfold tru
  omega
theorem nmc_le (S : St) (c : Nat) : nmc S c ≤ 312 := by
  have := tru_le S c
  unfold tru at this
  omega
theorem lOr_1 {P : Nat → Bool} (h : P 0 = false) : lOr P 1 = lN 0 := by simp [lOr, h]
noncomputable def lackP (S : St) (c : Nat) : Bool := dec (1 ≤ c ∧ S c < nI (tru S c))
noncomputable def leakP (S : St) (c : Nat) : Bool := dec (1 ≤ c ∧ nI (tru S c) < S c)
noncomputable def freeP (S : St) (c : Nat) : Bool := dec (1 ≤ c ∧ S c = 0)
noncomputable def sharP (S : St) (c : Nat) : Bool := dec (1 ≤ c ∧ 1 < nmc S c)
theorem dec0 {q : Prop} : dec (1 ≤ 0 ∧ q) = false := by
  rw [dec_f]
  exact fun z => absurd z.1 (by decide)
theorem k_lackSet {p : Int64 → mH → Prop} (hC : CR h i S) (hp : ∀ h', Oi i h h' → CR h' i S → p (lOr (lackP S) 64) h') : mG (Kd sL (d + 5)) 24 [.inr (.inr (.inl (i, 0)))] h p := by
  refine ke_X0_lackSet ?_
  refine EX.go (Kd_mono _ _) [false, true, false, false, false, false] 40 0 ?_
  dsimp only [wpc_s, wsl_t, wsl_f, gD_0, gD_s, ↓denB_n, pI_s, pG_s, pU_n, cb_X0_lackSet_0, cb_X0_lackSet_1, cb_X0_lackSet_2, cb_X0_lackSet_3, cb_X0_lackSet_4, cb_X0_lackSet_5, ↓ev_aload_n_0, ↓ev_callv_1_0_0, ↓ev_callv_1_1_0, ↓ev_callv_1_2_0, ↓ev_callv_1_3_0, ↓ev_callv_1_4_0, ↓ev_lconst_0, ↓ev_lstore_n_1, ↓ev_iconst_1, ↓ev_istore_n_3, ↓ev_iload_n_3, ↓ev_bipush_64, ↓ev_icmp_ge, ↓ev_getf_0_1, ↓ev_iald_m1, ↓ev_iald_m2, ↓ev_iald_m3, ↓ev_iald_m4, ↓ev_iald_m5, ↓ev_iald_m6, ↓ev_getf_0_7, ↓ev_lload_n_1, ↓ev_lconst_1, ↓ev_lshl, ↓ev_lor, ↓ev_iinc_3_1, ↓ev_goto, ↓ev_lret, Nat.reduceAdd]
  refine k_countTrue hC (fun h1 hO hC hf => ?_)
  suffices H : ∀ (f k : Nat), k + f = 64 → 1 ≤ k → EX (Kd sL (d + 4)) sL md_X0_lackSet (pG p) 1 [some (.inr (.inr (.inl (i, 0)))), some (.inr (.inl (lOr (lackP S) k))), none, some (.inl (nI k))] [] h1 by
    have := H 63 1 (by omega) (Nat.le_refl 1)
    rwa [lOr_1 dec0] at this
  intro f
  induction f with
  | zero =>
    intro k hk h1
    refine EX.go (Kd_mono _ _) [false, true, false, false, false, false] 40 1 ?_
    dsimp only [wpc_s, wsl_t, wsl_f, gD_0, gD_s, ↓denB_n, pI_s, pG_s, pU_n, cb_X0_lackSet_0, cb_X0_lackSet_1, cb_X0_lackSet_2, cb_X0_lackSet_3, cb_X0_lackSet_4, cb_X0_lackSet_5, ↓ev_aload_n_0, ↓ev_callv_1_0_0, ↓ev_callv_1_1_0, ↓ev_callv_1_2_0, ↓ev_callv_1_3_0, ↓ev_callv_1_4_0, ↓ev_lconst_0, ↓ev_lstore_n_1, ↓ev_iconst_1, ↓ev_istore_n_3, ↓ev_iload_n_3, ↓ev_bipush_64, ↓ev_icmp_ge, ↓ev_getf_0_1, ↓ev_iald_m1, ↓ev_iald_m2, ↓ev_iald_m3, ↓ev_iald_m4, ↓ev_iald_m5, ↓ev_iald_m6, ↓ev_getf_0_7, ↓ev_lload_n_1, ↓ev_lconst_1, ↓ev_lshl, ↓ev_lor, ↓ev_iinc_3_1, ↓ev_goto, ↓ev_lret, Nat.reduceAdd]
    try simp (disch := omega) only [pk_mul, nI_add, n_lt0, n_le0, n_eq0, n_ge0, n_gt0, n_lt, n_le, n_eq, n_in, n_div, n_rem, n_rem2, n_m1, nI_clamp, bz_0, bz_1, tI_0, tI_bz, n4, n16, eq_self, Nat.reduceLT, Nat.reduceLeDiff, Nat.reduceEqDiff, Nat.reduceAdd, Nat.reduceMul, Nat.reduceDiv, Nat.reduceMod, Nat.le_refl, decide_eq_false_iff_not, Classical.not_not, true_and, and_true, false_and, and_false, not_true_eq_false, not_false_eq_true, forall_const, true_implies, false_implies, implies_true, ne_eq]
    refine ⟨fun _ => ?_, fun c => absurd (show 64 ≤ k by omega) c⟩
    rw [show k = 64 by omega]
    exact hp _ hO hC
  | succ f ih =>
    intro k hk hk1
    refine EX.go (Kd_mono _ _) [false, true, false, false, false, false] 40 1 ?_
    dsimp only [wpc_s, wsl_t, wsl_f, gD_0, gD_s, ↓denB_n, pI_s, pG_s, pU_n, cb_X0_lackSet_0, cb_X0_lackSet_1, cb_X0_lackSet_2, cb_X0_lackSet_3, cb_X0_lackSet_4, cb_X0_lackSet_5, ↓ev_aload_n_0, ↓ev_callv_1_0_0, ↓ev_callv_1_1_0, ↓ev_callv_1_2_0, ↓ev_callv_1_3_0, ↓ev_callv_1_4_0, ↓ev_lconst_0, ↓ev_lstore_n_1, ↓ev_iconst_1, ↓ev_istore_n_3, ↓ev_iload_n_3, ↓ev_bipush_64, ↓ev_icmp_ge, ↓ev_getf_0_1, ↓ev_iald_m1, ↓ev_iald_m2, ↓ev_iald_m3, ↓ev_iald_m4, ↓ev_iald_m5, ↓ev_iald_m6, ↓ev_getf_0_7, ↓ev_lload_n_1, ↓ev_lconst_1, ↓ev_lshl, ↓ev_lor, ↓ev_iinc_3_1, ↓ev_goto, ↓ev_lret, Nat.reduceAdd]
    have e1 : h1 (.inl (i, 2)) k = S k := hC.2.1 k (by omega)
    have e2 := hf k hk1 (by omega)
    try simp (disch := omega) only [pk_mul, nI_add, n_lt0, n_le0, n_eq0, n_ge0, n_gt0, n_lt, n_le, n_eq, n_in, n_div, n_rem, n_rem2, n_m1, nI_clamp, bz_0, bz_1, tI_0, tI_bz, n4, n16, eq_self, Nat.reduceLT, Nat.reduceLeDiff, Nat.reduceEqDiff, Nat.reduceAdd, Nat.reduceMul, Nat.reduceDiv, Nat.reduceMod, Nat.le_refl, decide_eq_false_iff_not, Classical.not_not, true_and, and_true, false_and, and_false, not_true_eq_false, not_false_eq_true, forall_const, true_implies, false_implies, implies_true, ne_eq, e1, e2]
    have ih2 := ih (k + 1) (by omega) (by omega)
    rw [lOr] at ih2
    refine ⟨fun c => absurd c (by omega), fun _ => ⟨by omega, by omega, fun c => ?_, fun c => ?_⟩⟩
    · rw [if_neg (by rw [Bool.not_eq_true, lackP, dec_f]; exact fun z => Int32.not_lt.mpr c z.2)] at ih2
      exact ih2
    · rw [if_pos (by rw [lackP, dec_t]; exact ⟨hk1, Int32.not_le.mp c⟩)] at ih2
      exact ih2
theorem k_leakSet {p : Int64 → mH → Prop} (hC : CR h i S) (hp : ∀ h', Oi i h h' → CR h' i S → p (lOr (leakP S) 64) h') : mG (Kd sL (d + 5)) 23 [.inr (.inr (.inl (i, 0)))] h p := by
  refine ke_X0_leakSet ?_
  refine EX.go (Kd_mono _ _) [false, true, false, false, false, false] 40 0 ?_
  dsimp only [wpc_s, wsl_t, wsl_f, gD_0, gD_s, ↓denB_n, pI_s, pG_s, pU_n, cb_X0_leakSet_0, cb_X0_leakSet_1, cb_X0_leakSet_2, cb_X0_leakSet_3, cb_X0_leakSet_4, cb_X0_leakSet_5, ↓ev_aload_n_0, ↓ev_callv_1_0_0, ↓ev_callv_1_1_0, ↓ev_callv_1_2_0, ↓ev_callv_1_3_0, ↓ev_callv_1_4_0, ↓ev_lconst_0, ↓ev_lstore_n_1, ↓ev_iconst_1, ↓ev_istore_n_3, ↓ev_iload_n_3, ↓ev_bipush_64, ↓ev_icmp_ge, ↓ev_getf_0_1, ↓ev_iald_m1, ↓ev_iald_m2, ↓ev_iald_m3, ↓ev_iald_m4, ↓ev_iald_m5, ↓ev_iald_m6, ↓ev_getf_0_7, ↓ev_icmp_le, ↓ev_lload_n_1, ↓ev_lconst_1, ↓ev_lshl, ↓ev_lor, ↓ev_iinc_3_1, ↓ev_goto, ↓ev_lret, Nat.reduceAdd]
  refine k_countTrue hC (fun h1 hO hC hf => ?_)
  suffices H : ∀ (f k : Nat), k + f = 64 → 1 ≤ k → EX (Kd sL (d + 4)) sL md_X0_leakSet (pG p) 1 [some (.inr (.inr (.inl (i, 0)))), some (.inr (.inl (lOr (leakP S) k))), none, some (.inl (nI k))] [] h1 by
    have := H 63 1 (by omega) (Nat.le_refl 1)
    rwa [lOr_1 dec0] at this
  intro f
  induction f with
  | zero =>
    intro k hk h1
    refine EX.go (Kd_mono _ _) [false, true, false, false, false, false] 40 1 ?_
    dsimp only [wpc_s, wsl_t, wsl_f, gD_0, gD_s, ↓denB_n, pI_s, pG_s, pU_n, cb_X0_leakSet_0, cb_X0_leakSet_1, cb_X0_leakSet_2, cb_X0_leakSet_3, cb_X0_leakSet_4, cb_X0_leakSet_5, ↓ev_aload_n_0, ↓ev_callv_1_0_0, ↓ev_callv_1_1_0, ↓ev_callv_1_2_0, ↓ev_callv_1_3_0, ↓ev_callv_1_4_0, ↓ev_lconst_0, ↓ev_lstore_n_1, ↓ev_iconst_1, ↓ev_istore_n_3, ↓ev_iload_n_3, ↓ev_bipush_64, ↓ev_icmp_ge, ↓ev_getf_0_1, ↓ev_iald_m1, ↓ev_iald_m2, ↓ev_iald_m3, ↓ev_iald_m4, ↓ev_iald_m5, ↓ev_iald_m6, ↓ev_getf_0_7, ↓ev_icmp_le, ↓ev_lload_n_1, ↓ev_lconst_1, ↓ev_lshl, ↓ev_lor, ↓ev_iinc_3_1, ↓ev_goto, ↓ev_lret, Nat.reduceAdd]
    try simp (disch := omega) only [pk_mul, nI_add, n_lt0, n_le0, n_eq0, n_ge0, n_gt0, n_lt, n_le, n_eq, n_in, n_div, n_rem, n_rem2, n_m1, nI_clamp, bz_0, bz_1, tI_0, tI_bz, n4, n16, eq_self, Nat.reduceLT, Nat.reduceLeDiff, Nat.reduceEqDiff, Nat.reduceAdd, Nat.reduceMul, Nat.reduceDiv, Nat.reduceMod, Nat.le_refl, decide_eq_false_iff_not, Classical.not_not, true_and, and_true, false_and, and_false, not_true_eq_false, not_false_eq_true, forall_const, true_implies, false_implies, implies_true, ne_eq]
    refine ⟨fun _ => ?_, fun c => absurd (show 64 ≤ k by omega) c⟩
    rw [show k = 64 by omega]
    exact hp _ hO hC
  | succ f ih =>
    intro k hk hk1
    refine EX.go (Kd_mono _ _) [false, true, false, false, false, false] 40 1 ?_
    dsimp only [wpc_s, wsl_t, wsl_f, gD_0, gD_s, ↓denB_n, pI_s, pG_s, pU_n, cb_X0_leakSet_0, cb_X0_leakSet_1, cb_X0_leakSet_2, cb_X0_leakSet_3, cb_X0_leakSet_4, cb_X0_leakSet_5, ↓ev_aload_n_0, ↓ev_callv_1_0_0, ↓ev_callv_1_1_0, ↓ev_callv_1_2_0, ↓ev_callv_1_3_0, ↓ev_callv_1_4_0, ↓ev_lconst_0, ↓ev_lstore_n_1, ↓ev_iconst_1, ↓ev_istore_n_3, ↓ev_iload_n_3, ↓ev_bipush_64, ↓ev_icmp_ge, ↓ev_getf_0_1, ↓ev_iald_m1, ↓ev_iald_m2, ↓ev_iald_m3, ↓ev_iald_m4, ↓ev_iald_m5, ↓ev_iald_m6, ↓ev_getf_0_7, ↓ev_icmp_le, ↓ev_lload_n_1, ↓ev_lconst_1, ↓ev_lshl, ↓ev_lor, ↓ev_iinc_3_1, ↓ev_goto, ↓ev_lret, Nat.reduceAdd]
    have e1 : h1 (.inl (i, 2)) k = S k := hC.2.1 k (by omega)
    have e2 := hf k hk1 (by omega)
    try simp (disch := omega) only [pk_mul, nI_add, n_lt0, n_le0, n_eq0, n_ge0, n_gt0, n_lt, n_le, n_eq, n_in, n_div, n_rem, n_rem2, n_m1, nI_clamp, bz_0, bz_1, tI_0, tI_bz, n4, n16, eq_self, Nat.reduceLT, Nat.reduceLeDiff, Nat.reduceEqDiff, Nat.reduceAdd, Nat.reduceMul, Nat.reduceDiv, Nat.reduceMod, Nat.le_refl, decide_eq_false_iff_not, Classical.not_not, true_and, and_true, false_and, and_false, not_true_eq_false, not_false_eq_true, forall_const, true_implies, false_implies, implies_true, ne_eq, e1, e2]
    have ih2 := ih (k + 1) (by omega) (by omega)
    rw [lOr] at ih2
    refine ⟨fun c => absurd c (by omega), fun _ => ⟨by omega, by omega, fun c => ?_, fun c => ?_⟩⟩
    · rw [if_neg (by rw [Bool.not_eq_true, leakP, dec_f]; exact fun z => Int32.not_lt.mpr c z.2)] at ih2
      exact ih2
    · rw [if_pos (by rw [leakP, dec_t]; exact ⟨hk1, Int32.not_le.mp c⟩)] at ih2
      exact ih2
theorem k_freeSet {p : Int64 → mH → Prop} (hC : CR h i S) (hp : p (lOr (freeP S) 64) h) : mG (Kd sL (d + 1)) 25 [.inr (.inr (.inl (i, 0)))] h p := by
  refine ke_X0_freeSet ?_
  refine EX.go (Kd_mono _ _) [false, true, false, false, false, false] 40 0 ?_
  dsimp only [wpc_s, wsl_t, wsl_f, gD_0, gD_s, ↓denB_n, pI_s, pG_s, pU_n, cb_X0_freeSet_0, cb_X0_freeSet_1, cb_X0_freeSet_2, cb_X0_freeSet_3, cb_X0_freeSet_4, cb_X0_freeSet_5, ↓ev_lconst_0, ↓ev_lstore_n_1, ↓ev_iconst_1, ↓ev_istore_n_3, ↓ev_iload_n_3, ↓ev_bipush_64, ↓ev_icmp_ge, ↓ev_aload_n_0, ↓ev_getf_0_1, ↓ev_iald_m1, ↓ev_iald_m2, ↓ev_iald_m3, ↓ev_iald_m4, ↓ev_iald_m5, ↓ev_iald_m6, ↓ev_if_ne, ↓ev_lload_n_1, ↓ev_lconst_1, ↓ev_lshl, ↓ev_lor, ↓ev_iinc_3_1, ↓ev_goto, ↓ev_lret, Nat.reduceAdd]
  suffices H : ∀ (f k : Nat), k + f = 64 → 1 ≤ k → EX (Kd sL d) sL md_X0_freeSet (pG p) 1 [some (.inr (.inr (.inl (i, 0)))), some (.inr (.inl (lOr (freeP S) k))), none, some (.inl (nI k))] [] h by
    have := H 63 1 (by omega) (Nat.le_refl 1)
    rwa [lOr_1 dec0] at this
  intro f
  induction f with
  | zero =>
    intro k hk h1
    refine EX.go (Kd_mono _ _) [false, true, false, false, false, false] 40 1 ?_
    dsimp only [wpc_s, wsl_t, wsl_f, gD_0, gD_s, ↓denB_n, pI_s, pG_s, pU_n, cb_X0_freeSet_0, cb_X0_freeSet_1, cb_X0_freeSet_2, cb_X0_freeSet_3, cb_X0_freeSet_4, cb_X0_freeSet_5, ↓ev_lconst_0, ↓ev_lstore_n_1, ↓ev_iconst_1, ↓ev_istore_n_3, ↓ev_iload_n_3, ↓ev_bipush_64, ↓ev_icmp_ge, ↓ev_aload_n_0, ↓ev_getf_0_1, ↓ev_iald_m1, ↓ev_iald_m2, ↓ev_iald_m3, ↓ev_iald_m4, ↓ev_iald_m5, ↓ev_iald_m6, ↓ev_if_ne, ↓ev_lload_n_1, ↓ev_lconst_1, ↓ev_lshl, ↓ev_lor, ↓ev_iinc_3_1, ↓ev_goto, ↓ev_lret, Nat.reduceAdd]
    try simp (disch := omega) only [pk_mul, nI_add, n_lt0, n_le0, n_eq0, n_ge0, n_gt0, n_lt, n_le, n_eq, n_in, n_div, n_rem, n_rem2, n_m1, nI_clamp, bz_0, bz_1, tI_0, tI_bz, n4, n16, eq_self, Nat.reduceLT, Nat.reduceLeDiff, Nat.reduceEqDiff, Nat.reduceAdd, Nat.reduceMul, Nat.reduceDiv, Nat.reduceMod, Nat.le_refl, decide_eq_false_iff_not, Classical.not_not, true_and, and_true, false_and, and_false, not_true_eq_false, not_false_eq_true, forall_const, true_implies, false_implies, implies_true, ne_eq]
    refine ⟨fun _ => ?_, fun c => absurd (show 64 ≤ k by omega) c⟩
    rw [show k = 64 by omega]
    exact hp
  | succ f ih =>
    intro k hk hk1
    refine EX.go (Kd_mono _ _) [false, true, false, false, false, false] 40 1 ?_
    dsimp only [wpc_s, wsl_t, wsl_f, gD_0, gD_s, ↓denB_n, pI_s, pG_s, pU_n, cb_X0_freeSet_0, cb_X0_freeSet_1, cb_X0_freeSet_2, cb_X0_freeSet_3, cb_X0_freeSet_4, cb_X0_freeSet_5, ↓ev_lconst_0, ↓ev_lstore_n_1, ↓ev_iconst_1, ↓ev_istore_n_3, ↓ev_iload_n_3, ↓ev_bipush_64, ↓ev_icmp_ge, ↓ev_aload_n_0, ↓ev_getf_0_1, ↓ev_iald_m1, ↓ev_iald_m2, ↓ev_iald_m3, ↓ev_iald_m4, ↓ev_iald_m5, ↓ev_iald_m6, ↓ev_if_ne, ↓ev_lload_n_1, ↓ev_lconst_1, ↓ev_lshl, ↓ev_lor, ↓ev_iinc_3_1, ↓ev_goto, ↓ev_lret, Nat.reduceAdd]
    have e1 : h (.inl (i, 2)) k = S k := hC.2.1 k (by omega)
    try simp (disch := omega) only [pk_mul, nI_add, n_lt0, n_le0, n_eq0, n_ge0, n_gt0, n_lt, n_le, n_eq, n_in, n_div, n_rem, n_rem2, n_m1, nI_clamp, bz_0, bz_1, tI_0, tI_bz, n4, n16, eq_self, Nat.reduceLT, Nat.reduceLeDiff, Nat.reduceEqDiff, Nat.reduceAdd, Nat.reduceMul, Nat.reduceDiv, Nat.reduceMod, Nat.le_refl, decide_eq_false_iff_not, Classical.not_not, true_and, and_true, false_and, and_false, not_true_eq_false, not_false_eq_true, forall_const, true_implies, false_implies, implies_true, ne_eq, e1]
    have ih2 := ih (k + 1) (by omega) (by omega)
    rw [lOr] at ih2
    refine ⟨fun c => absurd c (by omega), fun _ => ⟨by omega, fun c => ?_, fun c => ?_⟩⟩
    · rw [if_neg (by rw [Bool.not_eq_true, freeP, dec_f]; exact fun z => c z.2)] at ih2
      exact ih2
    · rw [if_pos (by rw [freeP, dec_t]; exact ⟨hk1, c⟩)] at ih2
      exact ih2
theorem k_sharedData {p : Int64 → mH → Prop} (hC : CR h i S) (hp : ∀ h', Oi i h h' → CR h' i S → p (lOr (sharP S) 64) h') : mG (Kd sL (d + 4)) 26 [.inr (.inr (.inl (i, 0)))] h p := by
  refine ke_X0_sharedData ?_
  refine EX.go (Kd_mono _ _) [false, true, false, false, false, false] 40 0 ?_
  dsimp only [wpc_s, wsl_t, wsl_f, gD_0, gD_s, ↓denB_n, pI_s, pG_s, pU_n, cb_X0_sharedData_0, cb_X0_sharedData_1, cb_X0_sharedData_2, cb_X0_sharedData_3, cb_X0_sharedData_4, cb_X0_sharedData_5, ↓ev_aload_n_0, ↓ev_callv_1_0_0, ↓ev_callv_1_1_0, ↓ev_callv_1_2_0, ↓ev_callv_1_3_0, ↓ev_callv_1_4_0, ↓ev_lconst_0, ↓ev_lstore_n_1, ↓ev_iconst_1, ↓ev_istore_n_3, ↓ev_iload_n_3, ↓ev_bipush_64, ↓ev_icmp_ge, ↓ev_getf_0_7, ↓ev_iald_m1, ↓ev_iald_m2, ↓ev_iald_m3, ↓ev_iald_m4, ↓ev_iald_m5, ↓ev_iald_m6, ↓ev_icmp_le, ↓ev_lload_n_1, ↓ev_lconst_1, ↓ev_lshl, ↓ev_lor, ↓ev_iinc_3_1, ↓ev_goto, ↓ev_lret, Nat.reduceAdd]
  refine k_countCells hC (fun h1 hO hC hf => ?_)
  suffices H : ∀ (f k : Nat), k + f = 64 → 1 ≤ k → EX (Kd sL (d + 3)) sL md_X0_sharedData (pG p) 1 [some (.inr (.inr (.inl (i, 0)))), some (.inr (.inl (lOr (sharP S) k))), none, some (.inl (nI k))] [] h1 by
    have := H 63 1 (by omega) (Nat.le_refl 1)
    rwa [lOr_1 dec0] at this
  intro f
  induction f with
  | zero =>
    intro k hk h1
    refine EX.go (Kd_mono _ _) [false, true, false, false, false, false] 40 1 ?_
    dsimp only [wpc_s, wsl_t, wsl_f, gD_0, gD_s, ↓denB_n, pI_s, pG_s, pU_n, cb_X0_sharedData_0, cb_X0_sharedData_1, cb_X0_sharedData_2, cb_X0_sharedData_3, cb_X0_sharedData_4, cb_X0_sharedData_5, ↓ev_aload_n_0, ↓ev_callv_1_0_0, ↓ev_callv_1_1_0, ↓ev_callv_1_2_0, ↓ev_callv_1_3_0, ↓ev_callv_1_4_0, ↓ev_lconst_0, ↓ev_lstore_n_1, ↓ev_iconst_1, ↓ev_istore_n_3, ↓ev_iload_n_3, ↓ev_bipush_64, ↓ev_icmp_ge, ↓ev_getf_0_7, ↓ev_iald_m1, ↓ev_iald_m2, ↓ev_iald_m3, ↓ev_iald_m4, ↓ev_iald_m5, ↓ev_iald_m6, ↓ev_icmp_le, ↓ev_lload_n_1, ↓ev_lconst_1, ↓ev_lshl, ↓ev_lor, ↓ev_iinc_3_1, ↓ev_goto, ↓ev_lret, Nat.reduceAdd]
    try simp (disch := omega) only [pk_mul, nI_add, n_lt0, n_le0, n_eq0, n_ge0, n_gt0, n_lt, n_le, n_eq, n_in, n_div, n_rem, n_rem2, n_m1, nI_clamp, bz_0, bz_1, tI_0, tI_bz, n4, n16, eq_self, Nat.reduceLT, Nat.reduceLeDiff, Nat.reduceEqDiff, Nat.reduceAdd, Nat.reduceMul, Nat.reduceDiv, Nat.reduceMod, Nat.le_refl, decide_eq_false_iff_not, Classical.not_not, true_and, and_true, false_and, and_false, not_true_eq_false, not_false_eq_true, forall_const, true_implies, false_implies, implies_true, ne_eq]
    refine ⟨fun _ => ?_, fun c => absurd (show 64 ≤ k by omega) c⟩
    rw [show k = 64 by omega]
    exact hp _ hO hC
  | succ f ih =>
    intro k hk hk1
    refine EX.go (Kd_mono _ _) [false, true, false, false, false, false] 40 1 ?_
    dsimp only [wpc_s, wsl_t, wsl_f, gD_0, gD_s, ↓denB_n, pI_s, pG_s, pU_n, cb_X0_sharedData_0, cb_X0_sharedData_1, cb_X0_sharedData_2, cb_X0_sharedData_3, cb_X0_sharedData_4, cb_X0_sharedData_5, ↓ev_aload_n_0, ↓ev_callv_1_0_0, ↓ev_callv_1_1_0, ↓ev_callv_1_2_0, ↓ev_callv_1_3_0, ↓ev_callv_1_4_0, ↓ev_lconst_0, ↓ev_lstore_n_1, ↓ev_iconst_1, ↓ev_istore_n_3, ↓ev_iload_n_3, ↓ev_bipush_64, ↓ev_icmp_ge, ↓ev_getf_0_7, ↓ev_iald_m1, ↓ev_iald_m2, ↓ev_iald_m3, ↓ev_iald_m4, ↓ev_iald_m5, ↓ev_iald_m6, ↓ev_icmp_le, ↓ev_lload_n_1, ↓ev_lconst_1, ↓ev_lshl, ↓ev_lor, ↓ev_iinc_3_1, ↓ev_goto, ↓ev_lret, Nat.reduceAdd]
    have e2 := hf k hk1 (by omega)
    have hle := nmc_le S k
    try simp (disch := omega) only [pk_mul, nI_add, n_lt0, n_le0, n_eq0, n_ge0, n_gt0, n_lt, n_le, n_eq, n_in, n_div, n_rem, n_rem2, n_m1, nI_clamp, bz_0, bz_1, tI_0, tI_bz, n4, n16, eq_self, Nat.reduceLT, Nat.reduceLeDiff, Nat.reduceEqDiff, Nat.reduceAdd, Nat.reduceMul, Nat.reduceDiv, Nat.reduceMod, Nat.le_refl, decide_eq_false_iff_not, Classical.not_not, true_and, and_true, false_and, and_false, not_true_eq_false, not_false_eq_true, forall_const, true_implies, false_implies, implies_true, ne_eq, e2]
    have ih2 := ih (k + 1) (by omega) (by omega)
    rw [lOr] at ih2
    refine ⟨fun c => absurd c (by omega), fun _ => ⟨by omega, fun c => ?_, fun c => ?_⟩⟩
    · rw [if_neg (by rw [Bool.not_eq_true, sharP, dec_f]; exact fun z => absurd z.2 (by omega))] at ih2
      exact ih2
    · rw [if_pos (by rw [sharP, dec_t]; exact ⟨hk1, by omega⟩)] at ih2
      exact ih2
/-- the counts become true -/
noncomputable def mnd (S : St) : St := fun j => if 1 ≤ j ∧ j < 64 then nI (tru S j) else S j
theorem mnd_hi {S : St} {j : Nat} (h : 64 ≤ j) : mnd S j = S j := by
  unfold mnd
  rw [if_neg (by omega)]
/-- what is read off two states that are the same from 64 on -/
theorem hi_same {S S' : St} (h : ∀ j, 64 ≤ j → S' j = S j) : mn S' = mn S ∧ (∀ x, prs S' x = prs S x) ∧ (∀ x k, tb S' x k = tb S x k) ∧ (∀ t k, dt S' t k = dt S t k) ∧ (∀ l, bk S' l = bk S l) ∧ (∀ s, sn S' s = sn S s) ∧ S' 399 = S 399 := by
  have e1 : mn S' = mn S := by unfold mn; rw [h 320 (by decide)]
  have e2 : ∀ x, prs S' x = prs S x := fun x => by unfold prs; rw [e1, h (377 + x) (by omega)]
  refine ⟨e1, e2, fun x k => ?_, fun t k => ?_, fun l => ?_, fun s => ?_, h 399 (by decide)⟩
  · unfold tb; rw [e2, h (327 + 4 * x + k) (by omega)]
  · unfold dt; rw [h (64 + 4 * t + k) (by omega)]
  · unfold bk; rw [e1, h (321 + l) (by omega)]
  · unfold sn; rw [h (383 + s) (by omega), h (391 + s) (by omega)]
theorem CR.cnt {S' : St} (hC : CR h i S) (hs : ∀ j, 64 ≤ j → S' j = S j) {f : Nat → Int32} (hf : ∀ j, j < 64 → f j = S' j) : CR (hpt h (.inl (i, 2)) f) i S' := by
  obtain ⟨e1, e2, e3, e4, e5, e6, e7⟩ := hi_same hs
  obtain ⟨h1, h2, h3, h4, h5, h6, h7, h8⟩ := hC
  refine ⟨fun j hj => ?_, fun j hj => ?_, fun x k hx hk => ?_, fun l hl => ?_, fun s hs' => ?_, ?_, ?_, ?_⟩
  · rw [hpt_ne (by simp), h1 j hj, hs _ (by omega)]
  · rw [hpt_self, hf j hj]
  · rw [hpt_ne (by simp), h3 x k hx hk, e3]
  · rw [hpt_ne (by simp), h4 l hl, e5]
  · rw [hpt_ne (by simp), h5 s hs', e6]
  · rw [hpt_ne (by simp), h6, e1]
  · rw [e1]; exact h7
  · rw [hpt_ne (by simp), h8, e7]
noncomputable def mndP (S : St) (c : Nat) : Bool := dec (1 ≤ c ∧ ¬ S c = nI (tru S c))
theorem k_mendCounts {p : Int32 → mH → Prop} (hC : CR h i S) (hp : ∀ h', Oi i h h' → CR h' i (mnd S) → p (nI (fb_ct (mndP S) 64)) h') : mI (Kd sL (d + 5)) 27 [.inr (.inr (.inl (i, 0)))] h p := by
  refine ke_X0_mendCounts ?_
  refine EX.go (Kd_mono _ _) [false, true, false, false, false, false] 40 0 ?_
  dsimp only [wpc_s, wsl_t, wsl_f, gD_0, gD_s, ↓denB_n, pI_s, pG_s, pU_n, cb_X0_mendCounts_0, cb_X0_mendCounts_1, cb_X0_mendCounts_2, cb_X0_mendCounts_3, cb_X0_mendCounts_4, cb_X0_mendCounts_5, ↓ev_aload_n_0, ↓ev_callv_1_0_0, ↓ev_callv_1_1_0, ↓ev_callv_1_2_0, ↓ev_callv_1_3_0, ↓ev_callv_1_4_0, ↓ev_iconst_0, ↓ev_istore_n_1, ↓ev_iconst_1, ↓ev_istore_n_2, ↓ev_iload_n_2, ↓ev_bipush_64, ↓ev_icmp_ge, ↓ev_getf_0_1, ↓ev_iald_m1, ↓ev_iald_m2, ↓ev_iald_m3, ↓ev_iald_m4, ↓ev_iald_m5, ↓ev_iald_m6, ↓ev_getf_0_7, ↓ev_icmp_eq, ↓ev_iast_m1, ↓ev_iast_m2, ↓ev_iast_m3, ↓ev_iast_m4, ↓ev_iast_m5, ↓ev_iast_m6, ↓ev_iinc_1_1, ↓ev_iinc_2_1, ↓ev_goto, ↓ev_iload_n_1, ↓ev_iret, Nat.reduceAdd]
  refine k_countTrue hC (fun h1 hO hC hf => ?_)
  suffices H : ∀ (f k : Nat) (g : Nat → Int32), k + f = 64 → 1 ≤ k → (∀ j, j < 64 → g j = if 1 ≤ j ∧ j < k then nI (tru S j) else S j) → EX (Kd sL (d + 4)) sL md_X0_mendCounts (pI p) 1 [some (.inr (.inr (.inl (i, 0)))), some (.inl (nI (fb_ct (mndP S) k))), some (.inl (nI k))] [] (hpt h1 (.inl (i, 2)) g) by
    have := H 63 1 (h1 (.inl (i, 2))) (by omega) (Nat.le_refl 1) (fun j hj => by rw [hC.2.1 j hj, if_neg (by omega)])
    rw [hpt_eta] at this
    have e0 : fb_ct (mndP S) 1 = 0 := by
      have e9 : mndP S 0 = false := dec0
      simp [fb_ct, e9]
    rwa [e0] at this
  intro f
  induction f with
  | zero =>
    intro k g hk h1 hg
    refine EX.go (Kd_mono _ _) [false, true, false, false, false, false] 40 1 ?_
    dsimp only [wpc_s, wsl_t, wsl_f, gD_0, gD_s, ↓denB_n, pI_s, pG_s, pU_n, cb_X0_mendCounts_0, cb_X0_mendCounts_1, cb_X0_mendCounts_2, cb_X0_mendCounts_3, cb_X0_mendCounts_4, cb_X0_mendCounts_5, ↓ev_aload_n_0, ↓ev_callv_1_0_0, ↓ev_callv_1_1_0, ↓ev_callv_1_2_0, ↓ev_callv_1_3_0, ↓ev_callv_1_4_0, ↓ev_iconst_0, ↓ev_istore_n_1, ↓ev_iconst_1, ↓ev_istore_n_2, ↓ev_iload_n_2, ↓ev_bipush_64, ↓ev_icmp_ge, ↓ev_getf_0_1, ↓ev_iald_m1, ↓ev_iald_m2, ↓ev_iald_m3, ↓ev_iald_m4, ↓ev_iald_m5, ↓ev_iald_m6, ↓ev_getf_0_7, ↓ev_icmp_eq, ↓ev_iast_m1, ↓ev_iast_m2, ↓ev_iast_m3, ↓ev_iast_m4, ↓ev_iast_m5, ↓ev_iast_m6, ↓ev_iinc_1_1, ↓ev_iinc_2_1, ↓ev_goto, ↓ev_iload_n_1, ↓ev_iret, Nat.reduceAdd]
    try simp (disch := omega) only [pk_mul, nI_add, n_lt0, n_le0, n_eq0, n_ge0, n_gt0, n_lt, n_le, n_eq, n_in, n_div, n_rem, n_rem2, n_m1, nI_clamp, bz_0, bz_1, tI_0, tI_bz, n4, n16, eq_self, Nat.reduceLT, Nat.reduceLeDiff, Nat.reduceEqDiff, Nat.reduceAdd, Nat.reduceMul, Nat.reduceDiv, Nat.reduceMod, Nat.le_refl, decide_eq_false_iff_not, Classical.not_not, true_and, and_true, false_and, and_false, not_true_eq_false, not_false_eq_true, forall_const, true_implies, false_implies, implies_true, ne_eq]
    refine ⟨fun _ => ?_, fun c => absurd (show 64 ≤ k by omega) c⟩
    rw [show k = 64 by omega]
    refine hp _ (hO.tr Oi.pt) (hC.cnt (fun j hj => mnd_hi hj) (fun j hj => ?_))
    rw [hg j hj, show k = 64 by omega]
    rfl
  | succ f ih =>
    intro k g hk hk1 hg
    refine EX.go (Kd_mono _ _) [false, true, false, false, false, false] 40 1 ?_
    dsimp only [wpc_s, wsl_t, wsl_f, gD_0, gD_s, ↓denB_n, pI_s, pG_s, pU_n, cb_X0_mendCounts_0, cb_X0_mendCounts_1, cb_X0_mendCounts_2, cb_X0_mendCounts_3, cb_X0_mendCounts_4, cb_X0_mendCounts_5, ↓ev_aload_n_0, ↓ev_callv_1_0_0, ↓ev_callv_1_1_0, ↓ev_callv_1_2_0, ↓ev_callv_1_3_0, ↓ev_callv_1_4_0, ↓ev_iconst_0, ↓ev_istore_n_1, ↓ev_iconst_1, ↓ev_istore_n_2, ↓ev_iload_n_2, ↓ev_bipush_64, ↓ev_icmp_ge, ↓ev_getf_0_1, ↓ev_iald_m1, ↓ev_iald_m2, ↓ev_iald_m3, ↓ev_iald_m4, ↓ev_iald_m5, ↓ev_iald_m6, ↓ev_getf_0_7, ↓ev_icmp_eq, ↓ev_iast_m1, ↓ev_iast_m2, ↓ev_iast_m3, ↓ev_iast_m4, ↓ev_iast_m5, ↓ev_iast_m6, ↓ev_iinc_1_1, ↓ev_iinc_2_1, ↓ev_goto, ↓ev_iload_n_1, ↓ev_iret, Nat.reduceAdd]
    have e1 : g k = S k := by rw [hg k (by omega), if_neg (by omega)]
    have e2 := hf k hk1 (by omega)
    have e3 : hpt h1 (.inl (i, 2)) g (.inl (i, 6)) = h1 (.inl (i, 6)) := hpt_ne (by simp)
    have hle := tru_le S k
    try simp (disch := omega) only [pk_mul, nI_add, n_lt0, n_le0, n_eq0, n_ge0, n_gt0, n_lt, n_le, n_eq, n_in, n_div, n_rem, n_rem2, n_m1, nI_clamp, bz_0, bz_1, tI_0, tI_bz, n4, n16, eq_self, Nat.reduceLT, Nat.reduceLeDiff, Nat.reduceEqDiff, Nat.reduceAdd, Nat.reduceMul, Nat.reduceDiv, Nat.reduceMod, Nat.le_refl, decide_eq_false_iff_not, Classical.not_not, true_and, and_true, false_and, and_false, not_true_eq_false, not_false_eq_true, forall_const, true_implies, false_implies, implies_true, ne_eq, hpt_self, e1, e2, e3, hup_hpt]
    refine ⟨fun c => absurd c (by omega), fun _ => ⟨by omega, by omega, fun c => ?_, fun c => ⟨by omega, by omega, ?_⟩⟩⟩
    · have ih2 := ih (k + 1) g (by omega) (by omega) (fun j hj => by
        rw [hg j hj]
        by_cases q : j = k
        · subst q; rw [if_neg (by omega), if_pos (by omega), c]
        · by_cases q2 : 1 ≤ j ∧ j < k
          · rw [if_pos q2, if_pos (by omega)]
          · rw [if_neg q2, if_neg (by omega)])
      rw [fb_ct_succ, if_neg (by rw [Bool.not_eq_true, mndP, dec_f]; exact fun z => z.2 c)] at ih2
      exact ih2
    · have ih2 := ih (k + 1) (upd g k (nI (tru S k))) (by omega) (by omega) (fun j hj => by
        by_cases q : j = k
        · subst q; rw [pk_us, if_pos (by omega)]
        · rw [pk_un q, hg j hj]
          by_cases q2 : 1 ≤ j ∧ j < k
          · rw [if_pos q2, if_pos (by omega)]
          · rw [if_neg q2, if_neg (by omega)])
      rw [fb_ct_succ, if_pos (by rw [mndP, dec_t]; exact ⟨hk1, c⟩)] at ih2
      exact ih2
theorem k_copyFrom {j : Fin 3} {p : mH → Prop} (hC : CR h j S) (hp : ∀ h', Oi i h h' → CR h' i S → p h') : mU (Kd sL (d + 1)) 0 [.inr (.inr (.inl (i, 0))), .inr (.inr (.inl (j, 0)))] h p := by
  refine ke_X0_copyFrom ?_
  refine EX.go (Kd_mono _ _) [false] 40 0 ?_
  dsimp only [wpc_s, wsl_t, wsl_f, gD_0, gD_s, ↓denB_n, pI_s, pG_s, pU_n, cb_X0_copyFrom_0, ↓ev_aload_n_1, ↓ev_getf_0_0, ↓ev_iconst_0, ↓ev_aload_n_0, ↓ev_alen_m1, ↓ev_alen_m2, ↓ev_alen_m3, ↓ev_alen_m4, ↓ev_alen_m5, ↓ev_alen_m6, ↓ev_getf_0_1, ↓ev_getf_0_2, ↓ev_getf_0_3, ↓ev_getf_0_4, ↓ev_getf_0_5, ↓ev_putf_0_5, ↓ev_getf_0_6, ↓ev_putf_0_6, ↓ev_ret, Nat.reduceAdd]
  refine ev_copy rfl rfl (by decide) (by decide) (by decide) (by decide) (by decide) (by decide) ?_
  dsimp only [wpc_s, wsl_t, wsl_f, gD_0, gD_s, ↓denB_n, pI_s, pG_s, pU_n, cb_X0_copyFrom_0, ↓ev_aload_n_1, ↓ev_getf_0_0, ↓ev_iconst_0, ↓ev_aload_n_0, ↓ev_alen_m1, ↓ev_alen_m2, ↓ev_alen_m3, ↓ev_alen_m4, ↓ev_alen_m5, ↓ev_alen_m6, ↓ev_getf_0_1, ↓ev_getf_0_2, ↓ev_getf_0_3, ↓ev_getf_0_4, ↓ev_getf_0_5, ↓ev_putf_0_5, ↓ev_getf_0_6, ↓ev_putf_0_6, ↓ev_ret, Nat.reduceAdd]
  refine ev_copy rfl rfl (by decide) (by decide) (by decide) (by decide) (by decide) (by decide) ?_
  dsimp only [wpc_s, wsl_t, wsl_f, gD_0, gD_s, ↓denB_n, pI_s, pG_s, pU_n, cb_X0_copyFrom_0, ↓ev_aload_n_1, ↓ev_getf_0_0, ↓ev_iconst_0, ↓ev_aload_n_0, ↓ev_alen_m1, ↓ev_alen_m2, ↓ev_alen_m3, ↓ev_alen_m4, ↓ev_alen_m5, ↓ev_alen_m6, ↓ev_getf_0_1, ↓ev_getf_0_2, ↓ev_getf_0_3, ↓ev_getf_0_4, ↓ev_getf_0_5, ↓ev_putf_0_5, ↓ev_getf_0_6, ↓ev_putf_0_6, ↓ev_ret, Nat.reduceAdd]
  refine ev_copy rfl rfl (by decide) (by decide) (by decide) (by decide) (by decide) (by decide) ?_
  dsimp only [wpc_s, wsl_t, wsl_f, gD_0, gD_s, ↓denB_n, pI_s, pG_s, pU_n, cb_X0_copyFrom_0, ↓ev_aload_n_1, ↓ev_getf_0_0, ↓ev_iconst_0, ↓ev_aload_n_0, ↓ev_alen_m1, ↓ev_alen_m2, ↓ev_alen_m3, ↓ev_alen_m4, ↓ev_alen_m5, ↓ev_alen_m6, ↓ev_getf_0_1, ↓ev_getf_0_2, ↓ev_getf_0_3, ↓ev_getf_0_4, ↓ev_getf_0_5, ↓ev_putf_0_5, ↓ev_getf_0_6, ↓ev_putf_0_6, ↓ev_ret, Nat.reduceAdd]
  refine ev_copy rfl rfl (by decide) (by decide) (by decide) (by decide) (by decide) (by decide) ?_
  dsimp only [wpc_s, wsl_t, wsl_f, gD_0, gD_s, ↓denB_n, pI_s, pG_s, pU_n, cb_X0_copyFrom_0, ↓ev_aload_n_1, ↓ev_getf_0_0, ↓ev_iconst_0, ↓ev_aload_n_0, ↓ev_alen_m1, ↓ev_alen_m2, ↓ev_alen_m3, ↓ev_alen_m4, ↓ev_alen_m5, ↓ev_alen_m6, ↓ev_getf_0_1, ↓ev_getf_0_2, ↓ev_getf_0_3, ↓ev_getf_0_4, ↓ev_getf_0_5, ↓ev_putf_0_5, ↓ev_getf_0_6, ↓ev_putf_0_6, ↓ev_ret, Nat.reduceAdd]
  refine ev_copy rfl rfl (by decide) (by decide) (by decide) (by decide) (by decide) (by decide) ?_
  dsimp only [wpc_s, wsl_t, wsl_f, gD_0, gD_s, ↓denB_n, pI_s, pG_s, pU_n, cb_X0_copyFrom_0, ↓ev_aload_n_1, ↓ev_getf_0_0, ↓ev_iconst_0, ↓ev_aload_n_0, ↓ev_alen_m1, ↓ev_alen_m2, ↓ev_alen_m3, ↓ev_alen_m4, ↓ev_alen_m5, ↓ev_alen_m6, ↓ev_getf_0_1, ↓ev_getf_0_2, ↓ev_getf_0_3, ↓ev_getf_0_4, ↓ev_getf_0_5, ↓ev_putf_0_5, ↓ev_getf_0_6, ↓ev_putf_0_6, ↓ev_ret, Nat.reduceAdd]
  obtain ⟨h1, h2, h3, h4, h5, h6, h7, h8⟩ := hC
  refine hp _ ?_ ?_
  · intro r hr
    have q0 := hr 0
    have q1 := hr 1
    have q2 := hr 2
    have q3 := hr 3
    have q4 := hr 4
    have q5 := hr 5
    funext k
    simp [hup, hcp, q0, q1, q2, q3, q4, q5]
  · refine ⟨fun k hk => ?_, fun k hk => ?_, fun x k hx hk => ?_, fun l hl => ?_, fun s hs => ?_, ?_, h7, ?_⟩
    · rw [← h1 k hk]
      simp [hup, hcp, nI_clamp, hk]
    · rw [← h2 k hk]
      simp [hup, hcp, nI_clamp, hk]
    · have hb : 4 * x + k < 56 := by omega
      rw [← h3 x k hx hk]
      simp [hup, hcp, nI_clamp, hb]
    · rw [← h4 l hl]
      simp [hup, hcp, nI_clamp, hl]
    · rw [← h5 s hs]
      simp [hup, hcp, nI_clamp, hs]
    · rw [← h6]
      simp [hup, hcp]
    · rw [← h8]
      simp [hup, hcp]
theorem k_atOld {s pl l : Nat} {p : Int32 → mH → Prop} (hC : CR h i S) (hs : s < 8) (hpl : pl < 64) (hl : sn S s = nI l) (hlm : l < mn S) (hp : p (if dof S (6 + s) (pl / 4) = 0 then rdf S 6 (bk S l) pl else S (64 + (4 * dof S (6 + s) (pl / 4) + pl % 4))) h) : mI (Kd sL (d + 3)) 14 [.inr (.inr (.inl (i, 0))), .inl (nI s), .inl (nI pl)] h p := by
  refine ke_X0_atOld ?_
  refine EX.go (Kd_mono _ _) [false, false, false, false, false, false] 40 0 ?_
  dsimp only [wpc_s, wsl_t, wsl_f, gD_0, gD_s, ↓denB_n, pI_s, pG_s, pU_n, cb_X0_atOld_0, cb_X0_atOld_1, cb_X0_atOld_2, cb_X0_atOld_3, cb_X0_atOld_4, cb_X0_atOld_5, ↓ev_aload_n_0, ↓ev_bipush_6, ↓ev_iload_n_1, ↓ev_iadd, ↓ev_iload_n_2, ↓ev_iconst_4, ↓ev_idiv, ↓ev_callv_3_0_1, ↓ev_callv_3_1_1, ↓ev_callv_3_2_1, ↓ev_callv_3_3_1, ↓ev_callv_3_4_1, ↓ev_istore_n_3, ↓ev_iload_n_3, ↓ev_if_eq, ↓ev_getf_0_0, ↓ev_imul, ↓ev_irem, ↓ev_iald_m1, ↓ev_iald_m2, ↓ev_iald_m3, ↓ev_iald_m4, ↓ev_iald_m5, ↓ev_iald_m6, ↓ev_iret, ↓ev_getf_0_4, ↓ev_istore_4, ↓ev_iload_4, ↓ev_callv_2_0_1, ↓ev_callv_2_1_1, ↓ev_callv_2_2_1, ↓ev_callv_2_3_1, ↓ev_callv_2_4_1, ↓ev_getf_0_3, ↓ev_goto, ↓ev_iconst_0, Nat.reduceAdd]
  try simp (disch := omega) only [pk_mul, nI_add, n_lt0, n_le0, n_eq0, n_ge0, n_gt0, n_lt, n_le, n_eq, n_in, n_div, n_rem, n_rem2, n_m1, nI_clamp, bz_0, bz_1, tI_0, tI_bz, n4, n16, eq_self, Nat.reduceLT, Nat.reduceLeDiff, Nat.reduceEqDiff, Nat.reduceAdd, Nat.reduceMul, Nat.reduceDiv, Nat.reduceMod, Nat.le_refl, decide_eq_false_iff_not, Classical.not_not, true_and, and_true, false_and, and_false, not_true_eq_false, not_false_eq_true, forall_const, true_implies, false_implies, implies_true, ne_eq]
  refine k_dataOf hC (by omega) (by omega) ?_
  have hdl := dof_lt S (6 + s) (pl / 4)
  have e : h (.inl (i, 1)) (dof S (6 + s) (pl / 4) * 4 + pl % 4) = S (64 + (4 * dof S (6 + s) (pl / 4) + pl % 4)) := by rw [hC.1 _ (by omega), Nat.mul_comm]
  have e5 : h (.inl (i, 5)) s = nI l := by rw [hC.2.2.2.2.1 s hs, hl]
  have hm6 := hC.2.2.2.2.2.2.1
  try simp (disch := omega) only [pk_mul, nI_add, n_lt0, n_le0, n_eq0, n_ge0, n_gt0, n_lt, n_le, n_eq, n_in, n_div, n_rem, n_rem2, n_m1, nI_clamp, bz_0, bz_1, tI_0, tI_bz, n4, n16, eq_self, Nat.reduceLT, Nat.reduceLeDiff, Nat.reduceEqDiff, Nat.reduceAdd, Nat.reduceMul, Nat.reduceDiv, Nat.reduceMod, Nat.le_refl, decide_eq_false_iff_not, Classical.not_not, true_and, and_true, false_and, and_false, not_true_eq_false, not_false_eq_true, forall_const, true_implies, false_implies, implies_true, ne_eq, e, e5]
  refine ⟨fun c => ⟨hs, ?_⟩, fun c => ⟨by omega, ?_⟩⟩
  · rw [if_pos c] at hp
    refine k_hasLayer hC ?_
    try simp (disch := omega) only [pk_mul, nI_add, n_lt0, n_le0, n_eq0, n_ge0, n_gt0, n_lt, n_le, n_eq, n_in, n_div, n_rem, n_rem2, n_m1, nI_clamp, bz_0, bz_1, tI_0, tI_bz, n4, n16, eq_self, Nat.reduceLT, Nat.reduceLeDiff, Nat.reduceEqDiff, Nat.reduceAdd, Nat.reduceMul, Nat.reduceDiv, Nat.reduceMod, Nat.le_refl, decide_eq_false_iff_not, Classical.not_not, true_and, and_true, false_and, and_false, not_true_eq_false, not_false_eq_true, forall_const, true_implies, false_implies, implies_true, ne_eq]
    refine ⟨fun c2 => absurd hlm c2, fun _ => ⟨by omega, ?_⟩⟩
    rw [hC.2.2.2.1 l (by omega)]
    exact k_at hC hpl hp
  · rwa [if_neg c] at hp
/-- how many layers are below, by at most f -/
def cbl (S : St) : Nat → Int32 → Nat
  | 0, _ => 0
  | f + 1, l => if 0 ≤ l ∧ l < nI 6 then cbl S f (bk S l.toNatClampNeg) + 1 else 0
/-- x is l, or stands on it by less than f layers -/
def sto (S : St) : Nat → Int32 → Int32 → Bool
  | 0, _, _ => false
  | f + 1, x, l => if 0 ≤ x ∧ x < nI 6 then (if x = l then true else sto S f (bk S x.toNatClampNeg) l) else false
theorem k_layersBelow {l : Nat} {p : Int32 → mH → Prop} (hC : CR h i S) (hl : l < 6) (hp : p (nI (cbl S 6 (bk S l))) h) : mI (Kd sL (d + 1)) 7 [.inr (.inr (.inl (i, 0))), .inl (nI l)] h p := by
  refine ke_X0_layersBelow ?_
  refine EX.go (Kd_mono _ _) [false, true, false, false, false, false] 40 0 ?_
  dsimp only [wpc_s, wsl_t, wsl_f, gD_0, gD_s, ↓denB_n, pI_s, pG_s, pU_n, cb_X0_layersBelow_0, cb_X0_layersBelow_1, cb_X0_layersBelow_2, cb_X0_layersBelow_3, cb_X0_layersBelow_4, cb_X0_layersBelow_5, ↓ev_iconst_0, ↓ev_istore_n_2, ↓ev_aload_n_0, ↓ev_getf_0_3, ↓ev_iload_n_1, ↓ev_iald_m1, ↓ev_iald_m2, ↓ev_iald_m3, ↓ev_iald_m4, ↓ev_iald_m5, ↓ev_iald_m6, ↓ev_istore_n_3, ↓ev_iload_n_3, ↓ev_if_lt, ↓ev_bipush_6, ↓ev_icmp_ge, ↓ev_iload_n_2, ↓ev_iinc_2_1, ↓ev_goto, ↓ev_iret, Nat.reduceAdd]
  have e : h (.inl (i, 4)) l = bk S l := hC.2.2.2.1 l hl
  try simp (disch := omega) only [pk_mul, nI_add, n_lt0, n_le0, n_eq0, n_ge0, n_gt0, n_lt, n_le, n_eq, n_in, n_div, n_rem, n_rem2, n_m1, nI_clamp, bz_0, bz_1, tI_0, tI_bz, n4, n16, eq_self, Nat.reduceLT, Nat.reduceLeDiff, Nat.reduceEqDiff, Nat.reduceAdd, Nat.reduceMul, Nat.reduceDiv, Nat.reduceMod, Nat.le_refl, decide_eq_false_iff_not, Classical.not_not, true_and, and_true, false_and, and_false, not_true_eq_false, not_false_eq_true, forall_const, true_implies, false_implies, implies_true, ne_eq, e]
  refine ⟨hl, ?_⟩
  suffices H : ∀ (f k : Nat) (x : Int32), k + f = 6 → p (nI (k + cbl S f x)) h → EX (Kd sL d) sL md_X0_layersBelow (pI p) 1 [some (.inr (.inr (.inl (i, 0)))), some (.inl (nI l)), some (.inl (nI k)), some (.inl x)] [] h from H 6 0 _ rfl (by simpa using hp)
  intro f
  induction f with
  | zero =>
    intro k x hk hp
    refine EX.go (Kd_mono _ _) [false, true, false, false, false, false] 40 1 ?_
    dsimp only [wpc_s, wsl_t, wsl_f, gD_0, gD_s, ↓denB_n, pI_s, pG_s, pU_n, cb_X0_layersBelow_0, cb_X0_layersBelow_1, cb_X0_layersBelow_2, cb_X0_layersBelow_3, cb_X0_layersBelow_4, cb_X0_layersBelow_5, ↓ev_iconst_0, ↓ev_istore_n_2, ↓ev_aload_n_0, ↓ev_getf_0_3, ↓ev_iload_n_1, ↓ev_iald_m1, ↓ev_iald_m2, ↓ev_iald_m3, ↓ev_iald_m4, ↓ev_iald_m5, ↓ev_iald_m6, ↓ev_istore_n_3, ↓ev_iload_n_3, ↓ev_if_lt, ↓ev_bipush_6, ↓ev_icmp_ge, ↓ev_iload_n_2, ↓ev_iinc_2_1, ↓ev_goto, ↓ev_iret, Nat.reduceAdd]
    try simp (disch := omega) only [pk_mul, nI_add, n_lt0, n_le0, n_eq0, n_ge0, n_gt0, n_lt, n_le, n_eq, n_in, n_div, n_rem, n_rem2, n_m1, nI_clamp, bz_0, bz_1, tI_0, tI_bz, n4, n16, eq_self, Nat.reduceLT, Nat.reduceLeDiff, Nat.reduceEqDiff, Nat.reduceAdd, Nat.reduceMul, Nat.reduceDiv, Nat.reduceMod, Nat.le_refl, decide_eq_false_iff_not, Classical.not_not, true_and, and_true, false_and, and_false, not_true_eq_false, not_false_eq_true, forall_const, true_implies, false_implies, implies_true, ne_eq]
    exact ⟨fun _ => hp, fun _ => ⟨fun _ => hp, fun _ => ⟨fun _ => hp, fun c => absurd (show 6 ≤ k by omega) c⟩⟩⟩
  | succ f ih =>
    intro k x hk hp
    refine EX.go (Kd_mono _ _) [false, true, false, false, false, false] 40 1 ?_
    dsimp only [wpc_s, wsl_t, wsl_f, gD_0, gD_s, ↓denB_n, pI_s, pG_s, pU_n, cb_X0_layersBelow_0, cb_X0_layersBelow_1, cb_X0_layersBelow_2, cb_X0_layersBelow_3, cb_X0_layersBelow_4, cb_X0_layersBelow_5, ↓ev_iconst_0, ↓ev_istore_n_2, ↓ev_aload_n_0, ↓ev_getf_0_3, ↓ev_iload_n_1, ↓ev_iald_m1, ↓ev_iald_m2, ↓ev_iald_m3, ↓ev_iald_m4, ↓ev_iald_m5, ↓ev_iald_m6, ↓ev_istore_n_3, ↓ev_iload_n_3, ↓ev_if_lt, ↓ev_bipush_6, ↓ev_icmp_ge, ↓ev_iload_n_2, ↓ev_iinc_2_1, ↓ev_goto, ↓ev_iret, Nat.reduceAdd]
    refine ⟨fun c => ?_, fun c => ⟨fun c2 => ?_, fun c2 => ⟨fun c3 => ?_, fun c3 => ?_⟩⟩⟩
    · rwa [cbl, if_neg (fun z => Int32.not_lt.mpr z.1 c)] at hp
    · rwa [cbl, if_neg (fun z => Int32.not_lt.mpr c2 z.2)] at hp
    · try simp (disch := omega) only [pk_mul, nI_add, n_lt0, n_le0, n_eq0, n_ge0, n_gt0, n_lt, n_le, n_eq, n_in, n_div, n_rem, n_rem2, n_m1, nI_clamp, bz_0, bz_1, tI_0, tI_bz, n4, n16, eq_self, Nat.reduceLT, Nat.reduceLeDiff, Nat.reduceEqDiff, Nat.reduceAdd, Nat.reduceMul, Nat.reduceDiv, Nat.reduceMod, Nat.le_refl, decide_eq_false_iff_not, Classical.not_not, true_and, and_true, false_and, and_false, not_true_eq_false, not_false_eq_true, forall_const, true_implies, false_implies, implies_true, ne_eq] at c3
      omega
    · obtain ⟨y, hy, rfl⟩ := (i_cases x).resolve_left c
      have hy6 : y < 6 := by
        have := c2
        try simp (disch := omega) only [pk_mul, nI_add, n_lt0, n_le0, n_eq0, n_ge0, n_gt0, n_lt, n_le, n_eq, n_in, n_div, n_rem, n_rem2, n_m1, nI_clamp, bz_0, bz_1, tI_0, tI_bz, n4, n16, eq_self, Nat.reduceLT, Nat.reduceLeDiff, Nat.reduceEqDiff, Nat.reduceAdd, Nat.reduceMul, Nat.reduceDiv, Nat.reduceMod, Nat.le_refl, decide_eq_false_iff_not, Classical.not_not, true_and, and_true, false_and, and_false, not_true_eq_false, not_false_eq_true, forall_const, true_implies, false_implies, implies_true, ne_eq] at this
        omega
      have e : h (.inl (i, 4)) y = bk S y := hC.2.2.2.1 y hy6
      try simp (disch := omega) only [pk_mul, nI_add, n_lt0, n_le0, n_eq0, n_ge0, n_gt0, n_lt, n_le, n_eq, n_in, n_div, n_rem, n_rem2, n_m1, nI_clamp, bz_0, bz_1, tI_0, tI_bz, n4, n16, eq_self, Nat.reduceLT, Nat.reduceLeDiff, Nat.reduceEqDiff, Nat.reduceAdd, Nat.reduceMul, Nat.reduceDiv, Nat.reduceMod, Nat.le_refl, decide_eq_false_iff_not, Classical.not_not, true_and, and_true, false_and, and_false, not_true_eq_false, not_false_eq_true, forall_const, true_implies, false_implies, implies_true, ne_eq, e]
      refine ⟨hy6, ih (k + 1) _ (by omega) ?_⟩
      rw [cbl, if_pos ⟨Int32.not_lt.mp c, Int32.not_le.mp c2⟩, nI_clamp hy] at hp
      rwa [show k + 1 + cbl S f (bk S y) = k + (cbl S f (bk S y) + 1) by omega]
theorem k_standsOn {x l : Int32} {p : Int32 → mH → Prop} (hC : CR h i S) (hp : p (tI (sto S 6 x l)) h) : mI (Kd sL (d + 1)) 8 [.inr (.inr (.inl (i, 0))), .inl x, .inl l] h p := by
  refine ke_X0_standsOn ?_
  refine EX.go (Kd_mono _ _) [false, true, false, false, false, false, false, false] 40 0 ?_
  dsimp only [wpc_s, wsl_t, wsl_f, gD_0, gD_s, ↓denB_n, pI_s, pG_s, pU_n, cb_X0_standsOn_0, cb_X0_standsOn_1, cb_X0_standsOn_2, cb_X0_standsOn_3, cb_X0_standsOn_4, cb_X0_standsOn_5, cb_X0_standsOn_6, cb_X0_standsOn_7, ↓ev_iload_n_1, ↓ev_istore_n_3, ↓ev_iconst_0, ↓ev_istore_4, ↓ev_iload_4, ↓ev_bipush_6, ↓ev_icmp_ge, ↓ev_iload_n_3, ↓ev_if_lt, ↓ev_iload_n_2, ↓ev_icmp_ne, ↓ev_iconst_1, ↓ev_zret, ↓ev_aload_n_0, ↓ev_getf_0_3, ↓ev_iald_m1, ↓ev_iald_m2, ↓ev_iald_m3, ↓ev_iald_m4, ↓ev_iald_m5, ↓ev_iald_m6, ↓ev_iinc_4_1, ↓ev_goto, Nat.reduceAdd]
  suffices H : ∀ (f k : Nat) (z : Int32), k + f = 6 → p (tI (sto S f z l)) h → EX (Kd sL d) sL md_X0_standsOn (pI p) 1 [some (.inr (.inr (.inl (i, 0)))), some (.inl x), some (.inl l), some (.inl z), some (.inl (nI k))] [] h from H 6 0 _ rfl hp
  intro f
  induction f with
  | zero =>
    intro k z hk hp
    refine EX.go (Kd_mono _ _) [false, true, false, false, false, false, false, false] 40 1 ?_
    dsimp only [wpc_s, wsl_t, wsl_f, gD_0, gD_s, ↓denB_n, pI_s, pG_s, pU_n, cb_X0_standsOn_0, cb_X0_standsOn_1, cb_X0_standsOn_2, cb_X0_standsOn_3, cb_X0_standsOn_4, cb_X0_standsOn_5, cb_X0_standsOn_6, cb_X0_standsOn_7, ↓ev_iload_n_1, ↓ev_istore_n_3, ↓ev_iconst_0, ↓ev_istore_4, ↓ev_iload_4, ↓ev_bipush_6, ↓ev_icmp_ge, ↓ev_iload_n_3, ↓ev_if_lt, ↓ev_iload_n_2, ↓ev_icmp_ne, ↓ev_iconst_1, ↓ev_zret, ↓ev_aload_n_0, ↓ev_getf_0_3, ↓ev_iald_m1, ↓ev_iald_m2, ↓ev_iald_m3, ↓ev_iald_m4, ↓ev_iald_m5, ↓ev_iald_m6, ↓ev_iinc_4_1, ↓ev_goto, Nat.reduceAdd]
    try simp (disch := omega) only [pk_mul, nI_add, n_lt0, n_le0, n_eq0, n_ge0, n_gt0, n_lt, n_le, n_eq, n_in, n_div, n_rem, n_rem2, n_m1, nI_clamp, bz_0, bz_1, tI_0, tI_bz, n4, n16, eq_self, Nat.reduceLT, Nat.reduceLeDiff, Nat.reduceEqDiff, Nat.reduceAdd, Nat.reduceMul, Nat.reduceDiv, Nat.reduceMod, Nat.le_refl, decide_eq_false_iff_not, Classical.not_not, true_and, and_true, false_and, and_false, not_true_eq_false, not_false_eq_true, forall_const, true_implies, false_implies, implies_true, ne_eq]
    exact ⟨fun _ => hp, fun c => absurd (show 6 ≤ k by omega) c⟩
  | succ f ih =>
    intro k z hk hp
    refine EX.go (Kd_mono _ _) [false, true, false, false, false, false, false, false] 40 1 ?_
    dsimp only [wpc_s, wsl_t, wsl_f, gD_0, gD_s, ↓denB_n, pI_s, pG_s, pU_n, cb_X0_standsOn_0, cb_X0_standsOn_1, cb_X0_standsOn_2, cb_X0_standsOn_3, cb_X0_standsOn_4, cb_X0_standsOn_5, cb_X0_standsOn_6, cb_X0_standsOn_7, ↓ev_iload_n_1, ↓ev_istore_n_3, ↓ev_iconst_0, ↓ev_istore_4, ↓ev_iload_4, ↓ev_bipush_6, ↓ev_icmp_ge, ↓ev_iload_n_3, ↓ev_if_lt, ↓ev_iload_n_2, ↓ev_icmp_ne, ↓ev_iconst_1, ↓ev_zret, ↓ev_aload_n_0, ↓ev_getf_0_3, ↓ev_iald_m1, ↓ev_iald_m2, ↓ev_iald_m3, ↓ev_iald_m4, ↓ev_iald_m5, ↓ev_iald_m6, ↓ev_iinc_4_1, ↓ev_goto, Nat.reduceAdd]
    try simp (disch := omega) only [pk_mul, nI_add, n_lt0, n_le0, n_eq0, n_ge0, n_gt0, n_lt, n_le, n_eq, n_in, n_div, n_rem, n_rem2, n_m1, nI_clamp, bz_0, bz_1, tI_0, tI_bz, n4, n16, eq_self, Nat.reduceLT, Nat.reduceLeDiff, Nat.reduceEqDiff, Nat.reduceAdd, Nat.reduceMul, Nat.reduceDiv, Nat.reduceMod, Nat.le_refl, decide_eq_false_iff_not, Classical.not_not, true_and, and_true, false_and, and_false, not_true_eq_false, not_false_eq_true, forall_const, true_implies, false_implies, implies_true, ne_eq]
    refine ⟨fun c => absurd c (by omega), fun _ => ⟨fun c => ?_, fun c => ⟨fun c2 => ?_, fun c2 => ?_⟩⟩⟩
    · rwa [sto, if_neg (fun z => Int32.not_lt.mpr z.1 c)] at hp
    · rwa [sto, if_neg (fun z => Int32.not_lt.mpr c2 z.2)] at hp
    · rw [sto, if_pos ⟨Int32.not_lt.mp c, Int32.not_le.mp c2⟩] at hp
      refine ⟨fun c3 => ?_, fun c3 => ?_⟩
      · rw [if_neg c3] at hp
        obtain ⟨y, hy, rfl⟩ := (i_cases z).resolve_left c
        have hy6 : y < 6 := by
          have := c2
          try simp (disch := omega) only [pk_mul, nI_add, n_lt0, n_le0, n_eq0, n_ge0, n_gt0, n_lt, n_le, n_eq, n_in, n_div, n_rem, n_rem2, n_m1, nI_clamp, bz_0, bz_1, tI_0, tI_bz, n4, n16, eq_self, Nat.reduceLT, Nat.reduceLeDiff, Nat.reduceEqDiff, Nat.reduceAdd, Nat.reduceMul, Nat.reduceDiv, Nat.reduceMod, Nat.le_refl, decide_eq_false_iff_not, Classical.not_not, true_and, and_true, false_and, and_false, not_true_eq_false, not_false_eq_true, forall_const, true_implies, false_implies, implies_true, ne_eq] at this
          omega
        have e : h (.inl (i, 4)) y = bk S y := hC.2.2.2.1 y hy6
        try simp (disch := omega) only [pk_mul, nI_add, n_lt0, n_le0, n_eq0, n_ge0, n_gt0, n_lt, n_le, n_eq, n_in, n_div, n_rem, n_rem2, n_m1, nI_clamp, bz_0, bz_1, tI_0, tI_bz, n4, n16, eq_self, Nat.reduceLT, Nat.reduceLeDiff, Nat.reduceEqDiff, Nat.reduceAdd, Nat.reduceMul, Nat.reduceDiv, Nat.reduceMod, Nat.le_refl, decide_eq_false_iff_not, Classical.not_not, true_and, and_true, false_and, and_false, not_true_eq_false, not_false_eq_true, forall_const, true_implies, false_implies, implies_true, ne_eq, e]
        rw [nI_clamp hy] at hp
        exact ⟨hy6, ih (k + 1) _ (by omega) hp⟩
      · rwa [if_pos c3] at hp
/-- one more layer -/
def addL (S : St) (b : Int32) : St := upd (upd S (321 + mn S) b) 320 (nI (mn S + 1))
theorem k_addLayer {b : Int32} {p : Int32 → mH → Prop} (hC : CR h i S) (hm : mn S < 6) (h0 : ∀ k, k < 4 → S (327 + 4 * mn S + k) = nI 0) (hp : ∀ h', Oi i h h' → CR h' i (addL S b) → p (nI (mn S)) h') : mI (Kd sL (d + 1)) 4 [.inr (.inr (.inl (i, 0))), .inl b] h p := by
  refine ke_X0_addLayer ?_
  refine EX.go (Kd_mono _ _) [false, false, false] 40 0 ?_
  dsimp only [wpc_s, wsl_t, wsl_f, gD_0, gD_s, ↓denB_n, pI_s, pG_s, pU_n, cb_X0_addLayer_0, cb_X0_addLayer_1, cb_X0_addLayer_2, ↓ev_aload_n_0, ↓ev_getf_0_5, ↓ev_istore_n_2, ↓ev_iload_n_2, ↓ev_bipush_6, ↓ev_icmp_lt, ↓ev_iconst_m1, ↓ev_iret, ↓ev_getf_0_3, ↓ev_iload_n_1, ↓ev_iast_m1, ↓ev_iast_m2, ↓ev_iast_m3, ↓ev_iast_m4, ↓ev_iast_m5, ↓ev_iast_m6, ↓ev_dup, ↓ev_dupr, ↓ev_iconst_1, ↓ev_iadd, ↓ev_putf_0_5, Nat.reduceAdd]
  have e6 : h (.inl (i, 0)) 5 = nI (mn S) := hC.2.2.2.2.2.1
  have e7 : ∀ v, hup h (.inl (i, 4)) (mn S) v (.inl (i, 0)) 5 = nI (mn S) := fun v => by rw [hup_other (by simp), e6]
  try simp (disch := omega) only [pk_mul, nI_add, n_lt0, n_le0, n_eq0, n_ge0, n_gt0, n_lt, n_le, n_eq, n_in, n_div, n_rem, n_rem2, n_m1, nI_clamp, bz_0, bz_1, tI_0, tI_bz, n4, n16, eq_self, Nat.reduceLT, Nat.reduceLeDiff, Nat.reduceEqDiff, Nat.reduceAdd, Nat.reduceMul, Nat.reduceDiv, Nat.reduceMod, Nat.le_refl, decide_eq_false_iff_not, Classical.not_not, true_and, and_true, false_and, and_false, not_true_eq_false, not_false_eq_true, forall_const, true_implies, false_implies, implies_true, ne_eq, e6, e7]
  refine ⟨fun _ => ⟨hm, ?_⟩, fun c => absurd hm c⟩
  obtain ⟨h1, h2, h3, h4, h5, -, h7, h8⟩ := hC
  have m1 : mn (addL S b) = mn S + 1 := by
    unfold addL
    show (upd _ 320 _ 320).toNatClampNeg = _
    rw [pk_us, nI_clamp (by omega)]
  have hlo : ∀ j, j ≠ 320 → j ≠ 321 + mn S → addL S b j = S j := fun j a1 a2 => by unfold addL; rw [pk_un a1, pk_un a2]
  have hbk : addL S b (321 + mn S) = b := by unfold addL; rw [pk_un (by omega), pk_us]
  have hpr : ∀ x, prs (addL S b) x = if x = mn S then true else prs S x := by
    intro x
    unfold prs
    rw [m1]
    by_cases q : x < 6
    · rw [if_pos q, if_pos q]
      by_cases q2 : x = mn S
      · subst q2; simp
      · rw [if_neg q2]
        congr 1
        apply propext
        omega
    · rw [if_neg q, if_neg q, if_neg (by omega), hlo (377 + x) (by omega) (by omega)]
  refine hp _ (Oi.up.tr Oi.up) ⟨fun j hj => ?_, fun j hj => ?_, fun x k hx hk => ?_, fun l hl => ?_, fun s hs => ?_, ?_, ?_, ?_⟩
  · rw [hup_other (by simp), hup_other (by simp), h1 j hj, hlo _ (by omega) (by omega)]
  · rw [hup_other (by simp), hup_other (by simp), h2 j hj, hlo _ (by omega) (by omega)]
  · rw [hup_other (by simp), hup_other (by simp), h3 x k hx hk]
    unfold tb
    rw [hpr, hlo (327 + 4 * x + k) (by omega) (by omega)]
    by_cases q2 : x = mn S
    · subst q2
      have : prs S (mn S) = false := by unfold prs; rw [if_pos hm]; simp
      rw [this, h0 k hk]
      simp [cl_n]
    · rw [if_neg q2]
  · rw [hup_other (by simp)]
    unfold bk
    rw [m1]
    by_cases q2 : l = mn S
    · subst q2
      rw [if_pos (by omega), hbk]
      simp [hup]
    · rw [hlo _ (by omega) (by omega)]
      have : hup h (.inl (i, 4)) (mn S) b (.inl (i, 4)) l = h (.inl (i, 4)) l := by simp [hup, q2]
      rw [this, h4 l hl]
      unfold bk
      by_cases q3 : l < mn S
      · rw [if_pos q3, if_pos (by omega)]
      · rw [if_neg q3, if_neg (by omega)]
  · rw [hup_other (by simp), hup_other (by simp), h5 s hs]
    unfold sn
    rw [hlo _ (by omega) (by omega), hlo _ (by omega) (by omega)]
  · rw [m1]
    simp [hup]
  · omega
  · have : hup (hup h (.inl (i, 4)) (mn S) b) (.inl (i, 0)) 5 (nI (mn S + 1)) (.inl (i, 0)) 6 = h (.inl (i, 0)) 6 := by simp [hup]
    rw [this, h8, hlo _ (by omega) (by omega)]
/-- the least like one, of a set -/
def lsA (S : St) (P : Nat → Bool) (dd e : Nat) : Prop := (e = dd ∨ (1 ≤ e ∧ e < dd ∧ P e = true ∧ alk S e dd)) ∧ ∀ j, 1 ≤ j → j < e → ¬ (P j = true ∧ alk S j dd)
theorem k_leastAlike {P : Nat → Bool} {dd : Nat} {p : Int32 → mH → Prop} (hC : CR h i S) (hd : dd < 64) (hp : ∀ e, e < 64 → lsA S P dd e → p (nI e) h) : mI (Kd sL (d + 2)) 17 [.inr (.inr (.inl (i, 0))), .inr (.inl (lOr P 64)), .inl (nI dd)] h p := by
  refine ke_X0_leastAlike ?_
  refine EX.go (Kd_mono _ _) [false, true, false, false, false, false, false] 40 0 ?_
  dsimp only [wpc_s, wsl_t, wsl_f, gD_0, gD_s, ↓denB_n, pI_s, pG_s, pU_n, cb_X0_leastAlike_0, cb_X0_leastAlike_1, cb_X0_leastAlike_2, cb_X0_leastAlike_3, cb_X0_leastAlike_4, cb_X0_leastAlike_5, cb_X0_leastAlike_6, ↓ev_iconst_1, ↓ev_istore_4, ↓ev_iload_4, ↓ev_iload_n_3, ↓ev_icmp_ge, ↓ev_lload_n_1, ↓ev_calls_2_0_1, ↓ev_calls_2_1_1, ↓ev_calls_2_2_1, ↓ev_calls_2_3_1, ↓ev_calls_2_4_1, ↓ev_if_eq, ↓ev_aload_n_0, ↓ev_callv_3_0_1, ↓ev_callv_3_1_1, ↓ev_callv_3_2_1, ↓ev_callv_3_3_1, ↓ev_callv_3_4_1, ↓ev_iret, ↓ev_iinc_4_1, ↓ev_goto, Nat.reduceAdd]
  suffices H : ∀ (f k : Nat), k + f = dd ∨ (f = 0 ∧ dd ≤ k) → 1 ≤ k → k ≤ dd + 1 → (∀ j, 1 ≤ j → j < k → ¬ (P j = true ∧ alk S j dd)) → EX (Kd sL (d + 1)) sL md_X0_leastAlike (pI p) 1 [some (.inr (.inr (.inl (i, 0)))), some (.inr (.inl (lOr P 64))), none, some (.inl (nI dd)), some (.inl (nI k))] [] h from H (dd - 1) 1 (by omega) (Nat.le_refl 1) (by omega) (fun j h1 h2 => by omega)
  intro f
  induction f with
  | zero =>
    intro k hk h1 h2 hj
    refine EX.go (Kd_mono _ _) [false, true, false, false, false, false, false] 40 1 ?_
    dsimp only [wpc_s, wsl_t, wsl_f, gD_0, gD_s, ↓denB_n, pI_s, pG_s, pU_n, cb_X0_leastAlike_0, cb_X0_leastAlike_1, cb_X0_leastAlike_2, cb_X0_leastAlike_3, cb_X0_leastAlike_4, cb_X0_leastAlike_5, cb_X0_leastAlike_6, ↓ev_iconst_1, ↓ev_istore_4, ↓ev_iload_4, ↓ev_iload_n_3, ↓ev_icmp_ge, ↓ev_lload_n_1, ↓ev_calls_2_0_1, ↓ev_calls_2_1_1, ↓ev_calls_2_2_1, ↓ev_calls_2_3_1, ↓ev_calls_2_4_1, ↓ev_if_eq, ↓ev_aload_n_0, ↓ev_callv_3_0_1, ↓ev_callv_3_1_1, ↓ev_callv_3_2_1, ↓ev_callv_3_3_1, ↓ev_callv_3_4_1, ↓ev_iret, ↓ev_iinc_4_1, ↓ev_goto, Nat.reduceAdd]
    try simp (disch := omega) only [pk_mul, nI_add, n_lt0, n_le0, n_eq0, n_ge0, n_gt0, n_lt, n_le, n_eq, n_in, n_div, n_rem, n_rem2, n_m1, nI_clamp, bz_0, bz_1, tI_0, tI_bz, n4, n16, eq_self, Nat.reduceLT, Nat.reduceLeDiff, Nat.reduceEqDiff, Nat.reduceAdd, Nat.reduceMul, Nat.reduceDiv, Nat.reduceMod, Nat.le_refl, decide_eq_false_iff_not, Classical.not_not, true_and, and_true, false_and, and_false, not_true_eq_false, not_false_eq_true, forall_const, true_implies, false_implies, implies_true, ne_eq]
    refine ⟨fun _ => hp dd hd ⟨Or.inl rfl, fun j e1 e2 => hj j e1 (by omega)⟩, fun c => absurd (show dd ≤ k by omega) c⟩
  | succ f ih =>
    intro k hk h1 h2 hj
    refine EX.go (Kd_mono _ _) [false, true, false, false, false, false, false] 40 1 ?_
    dsimp only [wpc_s, wsl_t, wsl_f, gD_0, gD_s, ↓denB_n, pI_s, pG_s, pU_n, cb_X0_leastAlike_0, cb_X0_leastAlike_1, cb_X0_leastAlike_2, cb_X0_leastAlike_3, cb_X0_leastAlike_4, cb_X0_leastAlike_5, cb_X0_leastAlike_6, ↓ev_iconst_1, ↓ev_istore_4, ↓ev_iload_4, ↓ev_iload_n_3, ↓ev_icmp_ge, ↓ev_lload_n_1, ↓ev_calls_2_0_1, ↓ev_calls_2_1_1, ↓ev_calls_2_2_1, ↓ev_calls_2_3_1, ↓ev_calls_2_4_1, ↓ev_if_eq, ↓ev_aload_n_0, ↓ev_callv_3_0_1, ↓ev_callv_3_1_1, ↓ev_callv_3_2_1, ↓ev_callv_3_3_1, ↓ev_callv_3_4_1, ↓ev_iret, ↓ev_iinc_4_1, ↓ev_goto, Nat.reduceAdd]
    try simp (disch := omega) only [pk_mul, nI_add, n_lt0, n_le0, n_eq0, n_ge0, n_gt0, n_lt, n_le, n_eq, n_in, n_div, n_rem, n_rem2, n_m1, nI_clamp, bz_0, bz_1, tI_0, tI_bz, n4, n16, eq_self, Nat.reduceLT, Nat.reduceLeDiff, Nat.reduceEqDiff, Nat.reduceAdd, Nat.reduceMul, Nat.reduceDiv, Nat.reduceMod, Nat.le_refl, decide_eq_false_iff_not, Classical.not_not, true_and, and_true, false_and, and_false, not_true_eq_false, not_false_eq_true, forall_const, true_implies, false_implies, implies_true, ne_eq]
    refine ⟨fun c => absurd c (by omega), fun _ => ?_⟩
    have nxt : ¬ (P k = true ∧ alk S k dd) → EX (Kd sL (d + 1)) sL md_X0_leastAlike (pI p) 1 [some (.inr (.inr (.inl (i, 0)))), some (.inr (.inl (lOr P 64))), none, some (.inl (nI dd)), some (.inl (nI (k + 1)))] [] h := fun hn => ih (k + 1) (by omega) (by omega) (by omega) (fun j e1 e2 => by
      rcases Nat.lt_or_ge j k with q | q
      · exact hj j e1 q
      · rw [show j = k by omega]; exact hn)
    refine k_isIn (by omega) ?_
    try simp (disch := omega) only [pk_mul, nI_add, n_lt0, n_le0, n_eq0, n_ge0, n_gt0, n_lt, n_le, n_eq, n_in, n_div, n_rem, n_rem2, n_m1, nI_clamp, bz_0, bz_1, tI_0, tI_bz, n4, n16, eq_self, Nat.reduceLT, Nat.reduceLeDiff, Nat.reduceEqDiff, Nat.reduceAdd, Nat.reduceMul, Nat.reduceDiv, Nat.reduceMod, Nat.le_refl, decide_eq_false_iff_not, Classical.not_not, true_and, and_true, false_and, and_false, not_true_eq_false, not_false_eq_true, forall_const, true_implies, false_implies, implies_true, ne_eq]
    refine ⟨fun c => nxt (fun z => by rw [c] at z; cases z.1), fun c => ?_⟩
    refine k_alike hC (by omega) hd ?_
    try simp (disch := omega) only [pk_mul, nI_add, n_lt0, n_le0, n_eq0, n_ge0, n_gt0, n_lt, n_le, n_eq, n_in, n_div, n_rem, n_rem2, n_m1, nI_clamp, bz_0, bz_1, tI_0, tI_bz, n4, n16, eq_self, Nat.reduceLT, Nat.reduceLeDiff, Nat.reduceEqDiff, Nat.reduceAdd, Nat.reduceMul, Nat.reduceDiv, Nat.reduceMod, Nat.le_refl, decide_eq_false_iff_not, Classical.not_not, true_and, and_true, false_and, and_false, not_true_eq_false, not_false_eq_true, forall_const, true_implies, false_implies, implies_true, ne_eq, dec_f]
    exact ⟨fun c2 => nxt (fun z => c2 z.2), fun c2 => hp k (by omega) ⟨Or.inr ⟨h1, by omega, by simpa using c, c2⟩, hj⟩⟩
end IM2
end
section
/-! ===== deeds, abstractly: a state, how many writes were done, 0 going on, 1 torn, 2 full ===== -/
abbrev Sg : Type := St × Nat × Nat
def gt (L : Nat) (f : St → St) (σ : Sg) : Sg := if σ.2.2 = 0 then (if L ≤ σ.2.1 then (σ.1, σ.2.1, 1) else (f σ.1, σ.2.1 + 1, 0)) else σ
def nwf (S : St) : Nat → Nat → Nat
  | 0, c => c
  | f + 1, c => if S c = 0 then c else nwf S f (c + 1)
/-- the least cluster with count 0; 64: none -/
def nw (S : St) : Nat := nwf S 63 1
theorem nwf_le (S : St) : ∀ f c, c ≤ nwf S f c ∧ nwf S f c ≤ c + f
  | 0, c => ⟨Nat.le_refl _, Nat.le_refl _⟩
  | f + 1, c => by
    unfold nwf
    split
    · omega
    · have := nwf_le S f (c + 1)
      omega
theorem nw_le (S : St) : 1 ≤ nw S ∧ nw S ≤ 64 := by
  have := nwf_le S 63 1
  unfold nw
  omega
/-- a new cluster: its number, 0: none (full now, or halted before) -/
def ncl (σ : Sg) : Nat × Sg := if σ.2.2 = 0 then (if nw σ.1 = 64 then (0, (σ.1, σ.2.1, 2)) else (nw σ.1, σ)) else (0, σ)
theorem ncl_lt (σ : Sg) : (ncl σ).1 < 64 := by
  have := nw_le σ.1
  unfold ncl
  split
  · split
    · exact (show 0 < 64 by decide)
    · show nw σ.1 < 64; omega
  · exact (show 0 < 64 by decide)
def addc (L c : Nat) (v : Int32) (σ : Sg) : Sg := if c = 0 then σ else gt L (fun S => upd S c (S c + v)) σ
def cp4 (S : St) (a b : Nat) : St := fun j => if 64 + 4 * b ≤ j ∧ j < 64 + 4 * b + 4 then S (64 + 4 * a + (j - (64 + 4 * b))) else S j
def incF (L old : Nat) : Nat → Sg → Sg
  | 0, σ => σ
  | k + 1, σ => addc L (dt (incF L old k σ).1 old k) (nI 1) (incF L old k σ)
def own2 (L l i old n : Nat) (σ : Sg) : Sg := addc L old (-1) (gt L (fun S => upd S (327 + 4 * l + i) (nI n)) (incF L old 4 (gt L (fun S => cp4 S old n) (gt L (fun S => upd S n (nI 1)) σ))))
def own (L l i : Nat) (σ : Sg) : Nat × Sg := if ¬ tb σ.1 l i = 0 ∧ σ.1 (tb σ.1 l i) ≤ nI 1 then (tb σ.1 l i, σ) else ((ncl σ).1, own2 L l i (tb σ.1 l i) (ncl σ).1 (ncl σ).2)
def filF (S : St) (l b m : Nat) : Nat → St
  | 0 => S
  | k + 1 => upd (filF S l b m k) (64 + (4 * m + k)) (rdf (filF S l b m k) 6 (nI l) (4 * b + k))
def wp2 (L l b t old m : Nat) (σ : Sg) : Sg := addc L old (-1) (gt L (fun S => upd S (64 + (4 * t + b % 4)) (nI m)) (gt L (fun S => filF S l b m 4) (gt L (fun S => upd S m (nI 1)) σ)))
def wp1 (L l p : Nat) (v : Int32) (t : Nat) (σ : Sg) : Sg := if dt σ.1 t (p / 4 % 4) = 0 ∨ ¬ σ.1 (dt σ.1 t (p / 4 % 4)) ≤ nI 1
  then gt L (fun S => upd S (64 + (4 * (ncl σ).1 + p % 4)) v) (wp2 L l (p / 4) t (dt σ.1 t (p / 4 % 4)) (ncl σ).1 (ncl σ).2)
  else gt L (fun S => upd S (64 + (4 * dt σ.1 t (p / 4 % 4) + p % 4)) v) σ
def wpl (L l p : Nat) (v : Int32) (σ : Sg) : Sg := wp1 L l p v (own L l (p / 4 / 4) σ).1 (own L l (p / 4 / 4) σ).2
/-! the class's side -/
def hk (k : Nat) : Int32 := if k = 0 then 0 else if k = 1 then -1005 else -1002
def TR (h : mH) (L : Nat) (σ : Sg) : Prop := CR h 2 σ.1 ∧ h (.inr 2) 5 = nI L ∧ h (.inr 2) 6 = nI σ.2.1 ∧ h (.inr 2) 7 = hk σ.2.2 ∧ σ.2.1 ≤ L ∧ L ≤ 1000000 ∧ σ.2.2 ≤ 2
/-- only the image thought of, how many were done, the halt -/
def OT (h h' : mH) : Prop := (∀ r, (∀ q, r ≠ .inl (2, q)) → r ≠ .inr 2 → h' r = h r) ∧ ∀ j, j < 6 → h' (.inr 2) j = h (.inr 2) j
theorem OT.rf {h : mH} : OT h h := ⟨fun _ _ _ => rfl, fun _ _ => rfl⟩
theorem OT.tr {h h1 h2 : mH} (a : OT h h1) (b : OT h1 h2) : OT h h2 := ⟨fun r p q => (b.1 r p q).trans (a.1 r p q), fun j hj => (b.2 j hj).trans (a.2 j hj)⟩
theorem OT.oi {h h' : mH} (a : Oi 2 h h') : OT h h' := ⟨fun r p _ => a r p, fun j _ => by rw [a.oth]⟩
theorem OT.up {h : mH} {k : Nat} {v : Int32} (hk : 6 ≤ k) : OT h (hup h (.inr 2) k v) := ⟨fun r _ q => by funext j; exact hup_other q j, fun j hj => by simp [hup]; omega⟩
theorem CR.up2 {h : mH} {i : Fin 3} {S : St} (hC : CR h i S) (n k : Nat) (v : Int32) : CR (hup h (.inr n) k v) i S := by
  obtain ⟨h1, h2, h3, h4, h5, h6, h7, h8⟩ := hC
  have e : ∀ q, hup h (.inr n) k v (.inl (i, q)) = h (.inl (i, q)) := fun q => by funext j; exact hup_other (by simp) j
  refine ⟨?_, ?_, ?_, ?_, ?_, ?_, h7, ?_⟩
  all_goals (rw [e]; assumption)
theorem lo_same {S : St} {j : Nat} {v : Int32} (hj : j < 320) : mn (upd S j v) = mn S ∧ (∀ x, prs (upd S j v) x = prs S x) ∧ (∀ x k, tb (upd S j v) x k = tb S x k) ∧ (∀ l, bk (upd S j v) l = bk S l) ∧ (∀ s, sn (upd S j v) s = sn S s) ∧ upd S j v 399 = S 399 := by
  have e1 : mn (upd S j v) = mn S := by unfold mn; rw [pk_un (by omega)]
  have e2 : ∀ x, prs (upd S j v) x = prs S x := fun x => by unfold prs; rw [e1, pk_un (by omega)]
  refine ⟨e1, e2, fun x k => ?_, fun l => ?_, fun s => ?_, pk_un (by omega)⟩
  · unfold tb; rw [e2, pk_un (by omega)]
  · unfold bk; rw [e1, pk_un (by omega)]
  · unfold sn; rw [pk_un (by omega), pk_un (by omega)]
theorem hup_same {h : mH} {r : mRef} {k : Nat} {v : Int32} : hup h r k v r k = v := by simp [hup]
theorem hup_idx {h : mH} {r : mRef} {k k' : Nat} {v : Int32} (hn : k' ≠ k) : hup h r k v r k' = h r k' := by simp [hup, hn]
theorem CR.cnt1 {h : mH} {i : Fin 3} {S : St} (hC : CR h i S) {c : Nat} (hc : c < 64) (v : Int32) : CR (hup h (.inl (i, 2)) c v) i (upd S c v) := by
  obtain ⟨e1, e2, e3, e5, e6, e7⟩ := lo_same (S := S) (v := v) (show c < 320 by omega)
  obtain ⟨h1, h2, h3, h4, h5, h6, h7, h8⟩ := hC
  refine ⟨fun j hj => ?_, fun j hj => ?_, fun x k hx hk => ?_, fun l hl => ?_, fun s hs => ?_, ?_, ?_, ?_⟩
  · rw [hup_other (by simp), h1 j hj, pk_un (by omega)]
  · by_cases q : j = c
    · subst q; rw [hup_same, pk_us]
    · rw [hup_idx q, h2 j hj, pk_un q]
  · rw [hup_other (by simp), h3 x k hx hk, e3]
  · rw [hup_other (by simp), h4 l hl, e5]
  · rw [hup_other (by simp), h5 s hs, e6]
  · rw [hup_other (by simp), h6, e1]
  · rw [e1]; exact h7
  · rw [hup_other (by simp), h8, e7]
theorem CR.cel1 {h : mH} {i : Fin 3} {S : St} (hC : CR h i S) {j : Nat} (hc : j < 256) (v : Int32) : CR (hup h (.inl (i, 1)) j v) i (upd S (64 + j) v) := by
  obtain ⟨e1, e2, e3, e5, e6, e7⟩ := lo_same (S := S) (v := v) (show 64 + j < 320 by omega)
  obtain ⟨h1, h2, h3, h4, h5, h6, h7, h8⟩ := hC
  refine ⟨fun j' hj => ?_, fun j' hj => ?_, fun x k hx hk => ?_, fun l hl => ?_, fun s hs => ?_, ?_, ?_, ?_⟩
  · by_cases q : j' = j
    · subst q; rw [hup_same, pk_us]
    · rw [hup_idx q, h1 j' hj, pk_un (by omega)]
  · rw [hup_other (by simp), h2 j' hj, pk_un (by omega)]
  · rw [hup_other (by simp), h3 x k hx hk, e3]
  · rw [hup_other (by simp), h4 l hl, e5]
  · rw [hup_other (by simp), h5 s hs, e6]
  · rw [hup_other (by simp), h6, e1]
  · rw [e1]; exact h7
  · rw [hup_other (by simp), h8, e7]
theorem CR.dir1 {h : mH} {i : Fin 3} {S : St} (hC : CR h i S) {l k n : Nat} (hl : l < mn S) (hk : k < 4) (hn : n < 64) : CR (hup h (.inl (i, 3)) (4 * l + k) (nI n)) i (upd S (327 + 4 * l + k) (nI n)) := by
  obtain ⟨h1, h2, h3, h4, h5, h6, h7, h8⟩ := hC
  have e1 : mn (upd S (327 + 4 * l + k) (nI n)) = mn S := by unfold mn; rw [pk_un (by omega)]
  have e2 : ∀ x, prs (upd S (327 + 4 * l + k) (nI n)) x = prs S x := fun x => by
    unfold prs
    rw [e1]
    by_cases q : x < 6
    · rw [if_pos q, if_pos q]
    · rw [if_neg q, if_neg q, pk_un (by omega)]
  refine ⟨fun j hj => ?_, fun j hj => ?_, fun x k' hx hk' => ?_, fun l' hl' => ?_, fun s hs => ?_, ?_, ?_, ?_⟩
  · rw [hup_other (by simp), h1 j hj, pk_un (by omega)]
  · rw [hup_other (by simp), h2 j hj, pk_un (by omega)]
  · unfold tb
    rw [e2]
    by_cases q : x = l ∧ k' = k
    · obtain ⟨rfl, rfl⟩ := q
      have : prs S x = true := by unfold prs; rw [if_pos (by omega)]; simpa using hl
      rw [hup_same, this, if_pos rfl, pk_us, cl_n hn]
    · rw [hup_idx (by omega), h3 x k' hx hk', pk_un (by omega)]
      rfl
  · rw [hup_other (by simp), h4 l' hl']; unfold bk; rw [e1, pk_un (by omega)]
  · rw [hup_other (by simp), h5 s hs]; unfold sn; rw [pk_un (by omega), pk_un (by omega)]
  · rw [hup_other (by simp), h6, e1]
  · rw [e1]; exact h7
  · rw [hup_other (by simp), h8, pk_un (by omega)]
theorem hk_0 {k : Nat} (h : k ≤ 2) : (hk k = 0) = (k = 0) := by
  apply propext
  rcases (show k = 0 ∨ k = 1 ∨ k = 2 by omega) with rfl | rfl | rfl <;> decide
theorem hk_2 {k : Nat} (h : k ≤ 2) : (hk k = -1002) = (k = 2) := by
  apply propext
  rcases (show k = 0 ∨ k = 1 ∨ k = 2 by omega) with rfl | rfl | rfl <;> decide
theorem hk_1 {k : Nat} (h : k ≤ 2) : (hk k = -1005) = (k = 1) := by
  apply propext
  rcases (show k = 0 ∨ k = 1 ∨ k = 2 by omega) with rfl | rfl | rfl <;> decide
section THO
variable {sL d L : Nat} {h : mH} {σ : Sg}
theorem k_step {p : Int32 → mH → Prop} (hT : TR h L σ) (h0 : ∀ h', OT h h' → TR h' L (gt L (fun S => S) σ) → ¬ (σ.2.2 = 0 ∧ σ.2.1 < L) → p (nI 0) h') (h1 : ∀ h', OT h h' → σ.2.2 = 0 → σ.2.1 < L → TR h' L (σ.1, σ.2.1 + 1, 0) → p (nI 1) h') : mI (Kd sL (d + 1)) 36 [.inr (.inr (.inr 2))] h p := by
  refine ke_X2_step ?_
  refine EX.go (Kd_mono _ _) [false, false, false, false, false, false] 40 0 ?_
  dsimp only [wpc_s, wsl_t, wsl_f, gD_0, gD_s, ↓denB_n, pI_s, pG_s, pU_n, cb_X2_step_0, cb_X2_step_1, cb_X2_step_2, cb_X2_step_3, cb_X2_step_4, cb_X2_step_5, ↓ev_aload_n_0, ↓ev_getf_2_7, ↓ev_if_ne, ↓ev_getf_2_6, ↓ev_getf_2_5, ↓ev_icmp_lt, ↓ev_sipush_m1005, ↓ev_putf_2_7, ↓ev_if_eq, ↓ev_iconst_0, ↓ev_zret, ↓ev_dup, ↓ev_dupr, ↓ev_iconst_1, ↓ev_iadd, ↓ev_putf_2_6, Nat.reduceAdd]
  obtain ⟨hC, e5, e6, e7, hle, hL, hk3⟩ := hT
  have e7' : ∀ k v, hup h (.inr 2) k v (.inr 2) k = v := fun k v => hup_same
  rw [e7, e5, e6]
  try simp (disch := omega) only [pk_mul, nI_add, n_lt0, n_le0, n_eq0, n_ge0, n_gt0, n_lt, n_le, n_eq, n_in, n_div, n_rem, n_rem2, n_m1, nI_clamp, bz_0, bz_1, tI_0, tI_bz, n4, n16, eq_self, Nat.reduceLT, Nat.reduceLeDiff, Nat.reduceEqDiff, Nat.reduceAdd, Nat.reduceMul, Nat.reduceDiv, Nat.reduceMod, Nat.le_refl, decide_eq_false_iff_not, Classical.not_not, true_and, and_true, false_and, and_false, not_true_eq_false, not_false_eq_true, forall_const, true_implies, false_implies, implies_true, ne_eq, hk_0]
  refine ⟨fun c => ⟨fun c2 => absurd c2 c, fun _ => h0 h OT.rf ?_ (fun z => c z.1)⟩, fun c => ⟨fun c2 => ⟨fun _ => ?_, fun c3 => absurd c c3⟩, fun c2 => ?_⟩⟩
  · unfold gt
    rw [if_neg c]
    exact ⟨hC, e5, e6, e7, hle, hL, hk3⟩
  · refine h1 _ (OT.up (by decide)) c c2 ⟨hC.up2 _ _ _, ?_, ?_, ?_, (show σ.2.1 + 1 ≤ L by omega), hL, (show 0 ≤ 2 by decide)⟩
    · rw [hup_idx (by decide), e5]
    · rw [hup_same]
    · rw [hup_idx (by decide), e7, c]
  · rw [hup_same]
    refine ⟨fun c3 => absurd c3 (by decide), fun _ => h0 _ (OT.up (by decide)) ?_ (fun z => c2 z.2)⟩
    unfold gt
    rw [if_pos c, if_pos (by omega)]
    refine ⟨hC.up2 _ _ _, ?_, ?_, ?_, hle, hL, (show 1 ≤ 2 by decide)⟩
    · rw [hup_idx (by decide), e5]
    · rw [hup_idx (by decide), e6]
    · rw [hup_same]; rfl
theorem gt_no {f : St → St} (hn : ¬ (σ.2.2 = 0 ∧ σ.2.1 < L)) : gt L f σ = gt L (fun S => S) σ := by
  unfold gt
  by_cases c : σ.2.2 = 0
  · rw [if_pos c, if_pos c, if_pos (by omega), if_pos (by omega)]
  · rw [if_neg c, if_neg c]
theorem gt_yes {f : St → St} (h0 : σ.2.2 = 0) (h1 : σ.2.1 < L) : gt L f σ = (f σ.1, σ.2.1 + 1, 0) := by
  unfold gt
  rw [if_pos h0, if_neg (by omega)]
theorem k_addToCount {c : Nat} {v : Int32} {p : mH → Prop} (hT : TR h L σ) (hc : c < 64) (hp : ∀ h', OT h h' → TR h' L (addc L c v σ) → p h') : mU (Kd sL (d + 2)) 37 [.inr (.inr (.inr 2)), .inl (nI c), .inl v] h p := by
  refine ke_X2_addToCount ?_
  refine EX.go (Kd_mono _ _) [false, false, false, false] 40 0 ?_
  dsimp only [wpc_s, wsl_t, wsl_f, gD_0, gD_s, ↓denB_n, pI_s, pG_s, pU_n, cb_X2_addToCount_0, cb_X2_addToCount_1, cb_X2_addToCount_2, cb_X2_addToCount_3, ↓ev_iload_n_1, ↓ev_if_eq, ↓ev_aload_n_0, ↓ev_callv_1_0_1, ↓ev_callv_1_1_1, ↓ev_callv_1_2_1, ↓ev_callv_1_3_1, ↓ev_callv_1_4_1, ↓ev_getf_2_0, ↓ev_getf_0_1, ↓ev_dup2, ↓ev_iald_m1, ↓ev_iald_m2, ↓ev_iald_m3, ↓ev_iald_m4, ↓ev_iald_m5, ↓ev_iald_m6, ↓ev_iald_o3, ↓ev_iload_n_2, ↓ev_iadd, ↓ev_iast_m1, ↓ev_iast_m2, ↓ev_iast_m3, ↓ev_iast_m4, ↓ev_iast_m5, ↓ev_iast_m6, ↓ev_iast_o3, ↓ev_ret, Nat.reduceAdd]
  try simp (disch := omega) only [pk_mul, nI_add, n_lt0, n_le0, n_eq0, n_ge0, n_gt0, n_lt, n_le, n_eq, n_in, n_div, n_rem, n_rem2, n_m1, nI_clamp, bz_0, bz_1, tI_0, tI_bz, n4, n16, eq_self, Nat.reduceLT, Nat.reduceLeDiff, Nat.reduceEqDiff, Nat.reduceAdd, Nat.reduceMul, Nat.reduceDiv, Nat.reduceMod, Nat.le_refl, decide_eq_false_iff_not, Classical.not_not, true_and, and_true, false_and, and_false, not_true_eq_false, not_false_eq_true, forall_const, true_implies, false_implies, implies_true, ne_eq]
  unfold addc at hp
  refine ⟨fun c0 => ?_, fun c0 => ?_⟩
  · rw [if_pos c0] at hp
    exact hp h OT.rf hT
  · rw [if_neg c0] at hp
    refine k_step hT (fun h1 o1 t1 hn => ?_) (fun h1 o1 z0 z1 t1 => ?_)
    · rw [gt_no hn] at hp
      exact ⟨fun _ => hp h1 o1 t1, fun c2 => absurd rfl c2⟩
    · rw [gt_yes z0 z1] at hp
      refine ⟨fun c2 => absurd c2 (by decide), fun _ => ?_⟩
      have e : h1 (.inl (2, 2)) c = σ.1 c := t1.1.2.1 c hc
      try simp (disch := omega) only [pk_mul, nI_add, n_lt0, n_le0, n_eq0, n_ge0, n_gt0, n_lt, n_le, n_eq, n_in, n_div, n_rem, n_rem2, n_m1, nI_clamp, bz_0, bz_1, tI_0, tI_bz, n4, n16, eq_self, Nat.reduceLT, Nat.reduceLeDiff, Nat.reduceEqDiff, Nat.reduceAdd, Nat.reduceMul, Nat.reduceDiv, Nat.reduceMod, Nat.le_refl, decide_eq_false_iff_not, Classical.not_not, true_and, and_true, false_and, and_false, not_true_eq_false, not_false_eq_true, forall_const, true_implies, false_implies, implies_true, ne_eq, e]
      exact ⟨hc, hc, hp _ (o1.tr (OT.oi Oi.up)) ⟨t1.1.cnt1 hc _, by rw [hup_other (by simp)]; exact t1.2.1, by rw [hup_other (by simp)]; exact t1.2.2.1, by rw [hup_other (by simp)]; exact t1.2.2.2.1, t1.2.2.2.2⟩⟩
theorem k_newCluster {p : Int32 → mH → Prop} (hT : TR h L σ) (hp : ∀ h', OT h h' → TR h' L (ncl σ).2 → p (nI (ncl σ).1) h') : mI (Kd sL (d + 1)) 38 [.inr (.inr (.inr 2))] h p := by
  refine ke_X2_newCluster ?_
  refine EX.go (Kd_mono _ _) [false, false, false, true, false, false, false, false] 40 0 ?_
  dsimp only [wpc_s, wsl_t, wsl_f, gD_0, gD_s, ↓denB_n, pI_s, pG_s, pU_n, cb_X2_newCluster_0, cb_X2_newCluster_1, cb_X2_newCluster_2, cb_X2_newCluster_3, cb_X2_newCluster_4, cb_X2_newCluster_5, cb_X2_newCluster_6, cb_X2_newCluster_7, ↓ev_aload_n_0, ↓ev_getf_2_7, ↓ev_if_eq, ↓ev_iconst_0, ↓ev_iret, ↓ev_iconst_1, ↓ev_istore_n_1, ↓ev_iload_n_1, ↓ev_bipush_64, ↓ev_icmp_ge, ↓ev_getf_2_0, ↓ev_getf_0_1, ↓ev_iald_m1, ↓ev_iald_m2, ↓ev_iald_m3, ↓ev_iald_m4, ↓ev_iald_m5, ↓ev_iald_m6, ↓ev_iald_o3, ↓ev_if_ne, ↓ev_iinc_1_1, ↓ev_goto, ↓ev_sipush_m1002, ↓ev_putf_2_7, Nat.reduceAdd]
  obtain ⟨hC, e5, e6, e7, hle, hL, hk3⟩ := id hT
  rw [e7]
  try simp (disch := omega) only [pk_mul, nI_add, n_lt0, n_le0, n_eq0, n_ge0, n_gt0, n_lt, n_le, n_eq, n_in, n_div, n_rem, n_rem2, n_m1, nI_clamp, bz_0, bz_1, tI_0, tI_bz, n4, n16, eq_self, Nat.reduceLT, Nat.reduceLeDiff, Nat.reduceEqDiff, Nat.reduceAdd, Nat.reduceMul, Nat.reduceDiv, Nat.reduceMod, Nat.le_refl, decide_eq_false_iff_not, Classical.not_not, true_and, and_true, false_and, and_false, not_true_eq_false, not_false_eq_true, forall_const, true_implies, false_implies, implies_true, ne_eq, hk_0]
  unfold ncl at hp
  refine ⟨fun c => ?_, fun c => ?_⟩
  · rw [if_pos c] at hp
    suffices H : ∀ (f k : Nat), k + f = 64 → 1 ≤ k → nw σ.1 = nwf σ.1 f k → EX (Kd sL d) sL md_X2_newCluster (pI p) 3 [some (.inr (.inr (.inr 2))), some (.inl (nI k))] [] h from H 63 1 rfl (Nat.le_refl 1) rfl
    intro f
    induction f with
    | zero =>
      intro k hk h1 hw
      refine EX.go (Kd_mono _ _) [false, false, false, true, false, false, false, false] 40 3 ?_
      dsimp only [wpc_s, wsl_t, wsl_f, gD_0, gD_s, ↓denB_n, pI_s, pG_s, pU_n, cb_X2_newCluster_0, cb_X2_newCluster_1, cb_X2_newCluster_2, cb_X2_newCluster_3, cb_X2_newCluster_4, cb_X2_newCluster_5, cb_X2_newCluster_6, cb_X2_newCluster_7, ↓ev_aload_n_0, ↓ev_getf_2_7, ↓ev_if_eq, ↓ev_iconst_0, ↓ev_iret, ↓ev_iconst_1, ↓ev_istore_n_1, ↓ev_iload_n_1, ↓ev_bipush_64, ↓ev_icmp_ge, ↓ev_getf_2_0, ↓ev_getf_0_1, ↓ev_iald_m1, ↓ev_iald_m2, ↓ev_iald_m3, ↓ev_iald_m4, ↓ev_iald_m5, ↓ev_iald_m6, ↓ev_iald_o3, ↓ev_if_ne, ↓ev_iinc_1_1, ↓ev_goto, ↓ev_sipush_m1002, ↓ev_putf_2_7, Nat.reduceAdd]
      try simp (disch := omega) only [pk_mul, nI_add, n_lt0, n_le0, n_eq0, n_ge0, n_gt0, n_lt, n_le, n_eq, n_in, n_div, n_rem, n_rem2, n_m1, nI_clamp, bz_0, bz_1, tI_0, tI_bz, n4, n16, eq_self, Nat.reduceLT, Nat.reduceLeDiff, Nat.reduceEqDiff, Nat.reduceAdd, Nat.reduceMul, Nat.reduceDiv, Nat.reduceMod, Nat.le_refl, decide_eq_false_iff_not, Classical.not_not, true_and, and_true, false_and, and_false, not_true_eq_false, not_false_eq_true, forall_const, true_implies, false_implies, implies_true, ne_eq]
      refine ⟨fun _ => ?_, fun c2 => absurd (show 64 ≤ k by omega) c2⟩
      rw [if_pos (by rw [hw]; show k = 64; omega)] at hp
      refine hp _ (OT.up (by decide)) ⟨hC.up2 _ _ _, ?_, ?_, ?_, hle, hL, (show 2 ≤ 2 by decide)⟩
      · rw [hup_idx (by decide), e5]
      · rw [hup_idx (by decide), e6]
      · rw [hup_same]; rfl
    | succ f ih =>
      intro k hk h1 hw
      refine EX.go (Kd_mono _ _) [false, false, false, true, false, false, false, false] 40 3 ?_
      dsimp only [wpc_s, wsl_t, wsl_f, gD_0, gD_s, ↓denB_n, pI_s, pG_s, pU_n, cb_X2_newCluster_0, cb_X2_newCluster_1, cb_X2_newCluster_2, cb_X2_newCluster_3, cb_X2_newCluster_4, cb_X2_newCluster_5, cb_X2_newCluster_6, cb_X2_newCluster_7, ↓ev_aload_n_0, ↓ev_getf_2_7, ↓ev_if_eq, ↓ev_iconst_0, ↓ev_iret, ↓ev_iconst_1, ↓ev_istore_n_1, ↓ev_iload_n_1, ↓ev_bipush_64, ↓ev_icmp_ge, ↓ev_getf_2_0, ↓ev_getf_0_1, ↓ev_iald_m1, ↓ev_iald_m2, ↓ev_iald_m3, ↓ev_iald_m4, ↓ev_iald_m5, ↓ev_iald_m6, ↓ev_iald_o3, ↓ev_if_ne, ↓ev_iinc_1_1, ↓ev_goto, ↓ev_sipush_m1002, ↓ev_putf_2_7, Nat.reduceAdd]
      have e : h (.inl (2, 2)) k = σ.1 k := hC.2.1 k (by omega)
      try simp (disch := omega) only [pk_mul, nI_add, n_lt0, n_le0, n_eq0, n_ge0, n_gt0, n_lt, n_le, n_eq, n_in, n_div, n_rem, n_rem2, n_m1, nI_clamp, bz_0, bz_1, tI_0, tI_bz, n4, n16, eq_self, Nat.reduceLT, Nat.reduceLeDiff, Nat.reduceEqDiff, Nat.reduceAdd, Nat.reduceMul, Nat.reduceDiv, Nat.reduceMod, Nat.le_refl, decide_eq_false_iff_not, Classical.not_not, true_and, and_true, false_and, and_false, not_true_eq_false, not_false_eq_true, forall_const, true_implies, false_implies, implies_true, ne_eq, e]
      unfold nwf at hw
      refine ⟨fun c2 => absurd c2 (by omega), fun _ => ⟨by omega, fun c2 => ?_, fun c2 => ?_⟩⟩
      · rw [if_neg c2] at hw
        exact ih (k + 1) (by omega) (by omega) hw
      · rw [if_pos c2] at hw
        rw [hw, if_neg (by omega)] at hp
        exact hp h OT.rf hT
  · rw [if_neg c] at hp
    exact hp h OT.rf hT
end THO
end
