-- ===== PART A: goes FIRST, ahead of the names: the tables' words, and 'selects' of the private methods out of them =====
/-- a private method of a class that the tables say can be made, by its rows of tables_1 -/
def lw_okq (q : MethodName × Nat) : Prop := (q.1.cls ≠ "java/lang/invoke/MethodHandle" ∧ q.1.cls ≠ "java/lang/invoke/VarHandle") ∧ Cond.instantiable q.1.cls q.2 ∈ tables_1 ∧ Cond.privateMethod q.1 ∈ tables_1 ∧ Cond.instanceMethod q.1 ∈ tables_1
theorem lw_p0 : lw_okq (⟨"NineSails", "isSail", "(I)Z"⟩, 19) := ⟨⟨by decide +kernel, by decide +kernel⟩, List.mem_of_getElem? (i := 17) (by decide +kernel), List.mem_of_getElem? (i := 267) (by decide +kernel), List.mem_of_getElem? (i := 268) (by decide +kernel)⟩
theorem lw_p1 : lw_okq (⟨"NineSails", "may", "(LNineSails$Scene;I)Z"⟩, 19) := ⟨⟨by decide +kernel, by decide +kernel⟩, List.mem_of_getElem? (i := 17) (by decide +kernel), List.mem_of_getElem? (i := 275) (by decide +kernel), List.mem_of_getElem? (i := 276) (by decide +kernel)⟩
theorem lw_p2 : lw_okq (⟨"NineSails$Reader", "readClause", "()Z"⟩, 5) := ⟨⟨by decide +kernel, by decide +kernel⟩, List.mem_of_getElem? (i := 77) (by decide +kernel), List.mem_of_getElem? (i := 314) (by decide +kernel), List.mem_of_getElem? (i := 315) (by decide +kernel)⟩
theorem lw_p3 : lw_okq (⟨"NineSails$Reader", "wordBegun", "()I"⟩, 5) := ⟨⟨by decide +kernel, by decide +kernel⟩, List.mem_of_getElem? (i := 77) (by decide +kernel), List.mem_of_getElem? (i := 318) (by decide +kernel), List.mem_of_getElem? (i := 319) (by decide +kernel)⟩
theorem lw_p4 : lw_okq (⟨"NineSails$Reader", "sign", "()I"⟩, 5) := ⟨⟨by decide +kernel, by decide +kernel⟩, List.mem_of_getElem? (i := 77) (by decide +kernel), List.mem_of_getElem? (i := 322) (by decide +kernel), List.mem_of_getElem? (i := 323) (by decide +kernel)⟩
theorem lw_p5 : lw_okq (⟨"NineSails$Reader", "passWord", "(Ljava/lang/String;)Z"⟩, 5) := ⟨⟨by decide +kernel, by decide +kernel⟩, List.mem_of_getElem? (i := 77) (by decide +kernel), List.mem_of_getElem? (i := 333) (by decide +kernel), List.mem_of_getElem? (i := 334) (by decide +kernel)⟩
theorem lw_p6 : lw_okq (⟨"NineSails$Reader", "pass", "(I)Z"⟩, 5) := ⟨⟨by decide +kernel, by decide +kernel⟩, List.mem_of_getElem? (i := 77) (by decide +kernel), List.mem_of_getElem? (i := 385) (by decide +kernel), List.mem_of_getElem? (i := 386) (by decide +kernel)⟩
theorem lw_p7 : lw_okq (⟨"NineSails$Reader", "passWindFigure", "()Z"⟩, 5) := ⟨⟨by decide +kernel, by decide +kernel⟩, List.mem_of_getElem? (i := 77) (by decide +kernel), List.mem_of_getElem? (i := 389) (by decide +kernel), List.mem_of_getElem? (i := 390) (by decide +kernel)⟩
theorem lw_p8 : lw_okq (⟨"NineSails$Reader", "passNumber", "()Z"⟩, 5) := ⟨⟨by decide +kernel, by decide +kernel⟩, List.mem_of_getElem? (i := 77) (by decide +kernel), List.mem_of_getElem? (i := 396) (by decide +kernel), List.mem_of_getElem? (i := 397) (by decide +kernel)⟩
theorem lw_p9 : lw_okq (⟨"NineSails$Reader", "readEither", "(I)Z"⟩, 5) := ⟨⟨by decide +kernel, by decide +kernel⟩, List.mem_of_getElem? (i := 77) (by decide +kernel), List.mem_of_getElem? (i := 400) (by decide +kernel), List.mem_of_getElem? (i := 401) (by decide +kernel)⟩
theorem lw_p10 : lw_okq (⟨"NineSails$Reader", "readFactor", "(I)Z"⟩, 5) := ⟨⟨by decide +kernel, by decide +kernel⟩, List.mem_of_getElem? (i := 77) (by decide +kernel), List.mem_of_getElem? (i := 404) (by decide +kernel), List.mem_of_getElem? (i := 405) (by decide +kernel)⟩
theorem lw_p11 : lw_okq (⟨"NineSails$Reader", "readTest", "()Z"⟩, 5) := ⟨⟨by decide +kernel, by decide +kernel⟩, List.mem_of_getElem? (i := 77) (by decide +kernel), List.mem_of_getElem? (i := 412) (by decide +kernel), List.mem_of_getElem? (i := 413) (by decide +kernel)⟩
theorem lw_p12 : lw_okq (⟨"NineSails", "pace", "(IIII)I"⟩, 19) := ⟨⟨by decide +kernel, by decide +kernel⟩, List.mem_of_getElem? (i := 17) (by decide +kernel), List.mem_of_getElem? (i := 430) (by decide +kernel), List.mem_of_getElem? (i := 431) (by decide +kernel)⟩
theorem lw_p13 : lw_okq (⟨"NineSails", "holding", "()LNineSails$Race;"⟩, 19) := ⟨⟨by decide +kernel, by decide +kernel⟩, List.mem_of_getElem? (i := 17) (by decide +kernel), List.mem_of_getElem? (i := 434) (by decide +kernel), List.mem_of_getElem? (i := 435) (by decide +kernel)⟩
theorem lw_p14 : lw_okq (⟨"NineSails", "ruleOf", "(I)LNineSails$Rule;"⟩, 19) := ⟨⟨by decide +kernel, by decide +kernel⟩, List.mem_of_getElem? (i := 17) (by decide +kernel), List.mem_of_getElem? (i := 455) (by decide +kernel), List.mem_of_getElem? (i := 456) (by decide +kernel)⟩
theorem lw_p15 : lw_okq (⟨"NineSails", "choice", "(LNineSails$Rule;LNineSails$Scene;)I"⟩, 19) := ⟨⟨by decide +kernel, by decide +kernel⟩, List.mem_of_getElem? (i := 17) (by decide +kernel), List.mem_of_getElem? (i := 470) (by decide +kernel), List.mem_of_getElem? (i := 471) (by decide +kernel)⟩
def lw_privs_1 : List (MethodName × Nat) := [(⟨"NineSails", "isSail", "(I)Z"⟩, 19), (⟨"NineSails", "may", "(LNineSails$Scene;I)Z"⟩, 19), (⟨"NineSails$Reader", "readClause", "()Z"⟩, 5), (⟨"NineSails$Reader", "wordBegun", "()I"⟩, 5), (⟨"NineSails$Reader", "sign", "()I"⟩, 5), (⟨"NineSails$Reader", "passWord", "(Ljava/lang/String;)Z"⟩, 5), (⟨"NineSails$Reader", "pass", "(I)Z"⟩, 5), (⟨"NineSails$Reader", "passWindFigure", "()Z"⟩, 5), (⟨"NineSails$Reader", "passNumber", "()Z"⟩, 5), (⟨"NineSails$Reader", "readEither", "(I)Z"⟩, 5), (⟨"NineSails$Reader", "readFactor", "(I)Z"⟩, 5), (⟨"NineSails$Reader", "readTest", "()Z"⟩, 5), (⟨"NineSails", "pace", "(IIII)I"⟩, 19), (⟨"NineSails", "holding", "()LNineSails$Race;"⟩, 19), (⟨"NineSails", "ruleOf", "(I)LNineSails$Rule;"⟩, 19), (⟨"NineSails", "choice", "(LNineSails$Rule;LNineSails$Scene;)I"⟩, 19)]
theorem lw_r1 : ∀ q ∈ lw_privs_1, lw_okq q := List.forall_mem_cons.mpr ⟨lw_p0, List.forall_mem_cons.mpr ⟨lw_p1, List.forall_mem_cons.mpr ⟨lw_p2, List.forall_mem_cons.mpr ⟨lw_p3, List.forall_mem_cons.mpr ⟨lw_p4, List.forall_mem_cons.mpr ⟨lw_p5, List.forall_mem_cons.mpr ⟨lw_p6, List.forall_mem_cons.mpr ⟨lw_p7, List.forall_mem_cons.mpr ⟨lw_p8, List.forall_mem_cons.mpr ⟨lw_p9, List.forall_mem_cons.mpr ⟨lw_p10, List.forall_mem_cons.mpr ⟨lw_p11, List.forall_mem_cons.mpr ⟨lw_p12, List.forall_mem_cons.mpr ⟨lw_p13, List.forall_mem_cons.mpr ⟨lw_p14, List.forall_mem_cons.mpr ⟨lw_p15, fun _ h => absurd h List.not_mem_nil⟩⟩⟩⟩⟩⟩⟩⟩⟩⟩⟩⟩⟩⟩⟩⟩
theorem lw_p16 : lw_okq (⟨"NineSails", "fastest", "(LNineSails$Scene;I)I"⟩, 19) := ⟨⟨by decide +kernel, by decide +kernel⟩, List.mem_of_getElem? (i := 17) (by decide +kernel), List.mem_of_getElem? (i := 474) (by decide +kernel), List.mem_of_getElem? (i := 475) (by decide +kernel)⟩
theorem lw_p17 : lw_okq (⟨"NineSails", "asUp", "(LNineSails$Scene;)I"⟩, 19) := ⟨⟨by decide +kernel, by decide +kernel⟩, List.mem_of_getElem? (i := 17) (by decide +kernel), List.mem_of_getElem? (i := 478) (by decide +kernel), List.mem_of_getElem? (i := 479) (by decide +kernel)⟩
theorem lw_p18 : lw_okq (⟨"NineSails", "worthiest", "(LNineSails$Rule;LNineSails$Scene;)I"⟩, 19) := ⟨⟨by decide +kernel, by decide +kernel⟩, List.mem_of_getElem? (i := 17) (by decide +kernel), List.mem_of_getElem? (i := 482) (by decide +kernel), List.mem_of_getElem? (i := 483) (by decide +kernel)⟩
theorem lw_p19 : lw_okq (⟨"NineSails", "asTold", "(LNineSails$Rule;LNineSails$Scene;I)I"⟩, 19) := ⟨⟨by decide +kernel, by decide +kernel⟩, List.mem_of_getElem? (i := 17) (by decide +kernel), List.mem_of_getElem? (i := 486) (by decide +kernel), List.mem_of_getElem? (i := 487) (by decide +kernel)⟩
theorem lw_p20 : lw_okq (⟨"NineSails", "milesBy", "(LNineSails$Scene;I)I"⟩, 19) := ⟨⟨by decide +kernel, by decide +kernel⟩, List.mem_of_getElem? (i := 17) (by decide +kernel), List.mem_of_getElem? (i := 497) (by decide +kernel), List.mem_of_getElem? (i := 498) (by decide +kernel)⟩
theorem lw_p21 : lw_okq (⟨"NineSails", "ahead", "(ILNineSails$Rule;II)J"⟩, 19) := ⟨⟨by decide +kernel, by decide +kernel⟩, List.mem_of_getElem? (i := 17) (by decide +kernel), List.mem_of_getElem? (i := 519) (by decide +kernel), List.mem_of_getElem? (i := 520) (by decide +kernel)⟩
theorem lw_p22 : lw_okq (⟨"NineSails", "usefulSails", "()I"⟩, 19) := ⟨⟨by decide +kernel, by decide +kernel⟩, List.mem_of_getElem? (i := 17) (by decide +kernel), List.mem_of_getElem? (i := 547) (by decide +kernel), List.mem_of_getElem? (i := 548) (by decide +kernel)⟩
theorem lw_p23 : lw_okq (⟨"NineSails", "bestWith", "(II)J"⟩, 19) := ⟨⟨by decide +kernel, by decide +kernel⟩, List.mem_of_getElem? (i := 17) (by decide +kernel), List.mem_of_getElem? (i := 572) (by decide +kernel), List.mem_of_getElem? (i := 573) (by decide +kernel)⟩
theorem lw_p24 : lw_okq (⟨"NineSails", "tapeOf", "(I)LNineSails$Tape;"⟩, 19) := ⟨⟨by decide +kernel, by decide +kernel⟩, List.mem_of_getElem? (i := 17) (by decide +kernel), List.mem_of_getElem? (i := 596) (by decide +kernel), List.mem_of_getElem? (i := 597) (by decide +kernel)⟩
theorem lw_p25 : lw_okq (⟨"NineSails", "perform", "(LNineSails$Rule;IIII)I"⟩, 19) := ⟨⟨by decide +kernel, by decide +kernel⟩, List.mem_of_getElem? (i := 17) (by decide +kernel), List.mem_of_getElem? (i := 613) (by decide +kernel), List.mem_of_getElem? (i := 614) (by decide +kernel)⟩
theorem lw_p26 : lw_okq (⟨"NineSailsModel", "in", "(III)Z"⟩, 69) := ⟨⟨by decide +kernel, by decide +kernel⟩, List.mem_of_getElem? (i := 664) (by decide +kernel), List.mem_of_getElem? (i := 883) (by decide +kernel), List.mem_of_getElem? (i := 884) (by decide +kernel)⟩
theorem lw_p27 : lw_okq (⟨"NineSailsModel", "isSail", "(I)Z"⟩, 69) := ⟨⟨by decide +kernel, by decide +kernel⟩, List.mem_of_getElem? (i := 664) (by decide +kernel), List.mem_of_getElem? (i := 891) (by decide +kernel), List.mem_of_getElem? (i := 892) (by decide +kernel)⟩
theorem lw_p28 : lw_okq (⟨"NineSailsModel", "has", "(II)Z"⟩, 69) := ⟨⟨by decide +kernel, by decide +kernel⟩, List.mem_of_getElem? (i := 664) (by decide +kernel), List.mem_of_getElem? (i := 895) (by decide +kernel), List.mem_of_getElem? (i := 896) (by decide +kernel)⟩
theorem lw_p29 : lw_okq (⟨"NineSailsModel", "mayBe", "(IIIII)Z"⟩, 69) := ⟨⟨by decide +kernel, by decide +kernel⟩, List.mem_of_getElem? (i := 664) (by decide +kernel), List.mem_of_getElem? (i := 903) (by decide +kernel), List.mem_of_getElem? (i := 904) (by decide +kernel)⟩
theorem lw_p30 : lw_okq (⟨"NineSailsModel", "goesText", "(I)Z"⟩, 69) := ⟨⟨by decide +kernel, by decide +kernel⟩, List.mem_of_getElem? (i := 664) (by decide +kernel), List.mem_of_getElem? (i := 927) (by decide +kernel), List.mem_of_getElem? (i := 928) (by decide +kernel)⟩
theorem lw_p31 : lw_okq (⟨"NineSailsModel", "takesClause", "(I)Z"⟩, 69) := ⟨⟨by decide +kernel, by decide +kernel⟩, List.mem_of_getElem? (i := 664) (by decide +kernel), List.mem_of_getElem? (i := 931) (by decide +kernel), List.mem_of_getElem? (i := 932) (by decide +kernel)⟩
def lw_privs_2 : List (MethodName × Nat) := [(⟨"NineSails", "fastest", "(LNineSails$Scene;I)I"⟩, 19), (⟨"NineSails", "asUp", "(LNineSails$Scene;)I"⟩, 19), (⟨"NineSails", "worthiest", "(LNineSails$Rule;LNineSails$Scene;)I"⟩, 19), (⟨"NineSails", "asTold", "(LNineSails$Rule;LNineSails$Scene;I)I"⟩, 19), (⟨"NineSails", "milesBy", "(LNineSails$Scene;I)I"⟩, 19), (⟨"NineSails", "ahead", "(ILNineSails$Rule;II)J"⟩, 19), (⟨"NineSails", "usefulSails", "()I"⟩, 19), (⟨"NineSails", "bestWith", "(II)J"⟩, 19), (⟨"NineSails", "tapeOf", "(I)LNineSails$Tape;"⟩, 19), (⟨"NineSails", "perform", "(LNineSails$Rule;IIII)I"⟩, 19), (⟨"NineSailsModel", "in", "(III)Z"⟩, 69), (⟨"NineSailsModel", "isSail", "(I)Z"⟩, 69), (⟨"NineSailsModel", "has", "(II)Z"⟩, 69), (⟨"NineSailsModel", "mayBe", "(IIIII)Z"⟩, 69), (⟨"NineSailsModel", "goesText", "(I)Z"⟩, 69), (⟨"NineSailsModel", "takesClause", "(I)Z"⟩, 69)]
theorem lw_r2 : ∀ q ∈ lw_privs_2, lw_okq q := List.forall_mem_cons.mpr ⟨lw_p16, List.forall_mem_cons.mpr ⟨lw_p17, List.forall_mem_cons.mpr ⟨lw_p18, List.forall_mem_cons.mpr ⟨lw_p19, List.forall_mem_cons.mpr ⟨lw_p20, List.forall_mem_cons.mpr ⟨lw_p21, List.forall_mem_cons.mpr ⟨lw_p22, List.forall_mem_cons.mpr ⟨lw_p23, List.forall_mem_cons.mpr ⟨lw_p24, List.forall_mem_cons.mpr ⟨lw_p25, List.forall_mem_cons.mpr ⟨lw_p26, List.forall_mem_cons.mpr ⟨lw_p27, List.forall_mem_cons.mpr ⟨lw_p28, List.forall_mem_cons.mpr ⟨lw_p29, List.forall_mem_cons.mpr ⟨lw_p30, List.forall_mem_cons.mpr ⟨lw_p31, fun _ h => absurd h List.not_mem_nil⟩⟩⟩⟩⟩⟩⟩⟩⟩⟩⟩⟩⟩⟩⟩⟩
theorem lw_p32 : lw_okq (⟨"NineSailsModel", "takesHead", "(I)Z"⟩, 69) := ⟨⟨by decide +kernel, by decide +kernel⟩, List.mem_of_getElem? (i := 664) (by decide +kernel), List.mem_of_getElem? (i := 935) (by decide +kernel), List.mem_of_getElem? (i := 936) (by decide +kernel)⟩
theorem lw_p33 : lw_okq (⟨"NineSailsModel", "next", "()I"⟩, 69) := ⟨⟨by decide +kernel, by decide +kernel⟩, List.mem_of_getElem? (i := 664) (by decide +kernel), List.mem_of_getElem? (i := 939) (by decide +kernel), List.mem_of_getElem? (i := 940) (by decide +kernel)⟩
theorem lw_p34 : lw_okq (⟨"NineSailsModel", "takesWord", "(II)Z"⟩, 69) := ⟨⟨by decide +kernel, by decide +kernel⟩, List.mem_of_getElem? (i := 664) (by decide +kernel), List.mem_of_getElem? (i := 943) (by decide +kernel), List.mem_of_getElem? (i := 944) (by decide +kernel)⟩
theorem lw_p35 : lw_okq (⟨"NineSailsModel", "takesSign", "(I)Z"⟩, 69) := ⟨⟨by decide +kernel, by decide +kernel⟩, List.mem_of_getElem? (i := 664) (by decide +kernel), List.mem_of_getElem? (i := 947) (by decide +kernel), List.mem_of_getElem? (i := 948) (by decide +kernel)⟩
theorem lw_p36 : lw_okq (⟨"NineSailsModel", "takesFigure", "(I)Z"⟩, 69) := ⟨⟨by decide +kernel, by decide +kernel⟩, List.mem_of_getElem? (i := 664) (by decide +kernel), List.mem_of_getElem? (i := 954) (by decide +kernel), List.mem_of_getElem? (i := 955) (by decide +kernel)⟩
theorem lw_p37 : lw_okq (⟨"NineSailsModel", "takesNumber", "()Z"⟩, 69) := ⟨⟨by decide +kernel, by decide +kernel⟩, List.mem_of_getElem? (i := 664) (by decide +kernel), List.mem_of_getElem? (i := 958) (by decide +kernel), List.mem_of_getElem? (i := 959) (by decide +kernel)⟩
theorem lw_p38 : lw_okq (⟨"NineSailsModel", "isDigit", "()Z"⟩, 69) := ⟨⟨by decide +kernel, by decide +kernel⟩, List.mem_of_getElem? (i := 664) (by decide +kernel), List.mem_of_getElem? (i := 962) (by decide +kernel), List.mem_of_getElem? (i := 963) (by decide +kernel)⟩
theorem lw_p39 : lw_okq (⟨"NineSailsModel", "takesE", "(I)Z"⟩, 69) := ⟨⟨by decide +kernel, by decide +kernel⟩, List.mem_of_getElem? (i := 664) (by decide +kernel), List.mem_of_getElem? (i := 966) (by decide +kernel), List.mem_of_getElem? (i := 967) (by decide +kernel)⟩
theorem lw_p40 : lw_okq (⟨"NineSailsModel", "takesTest", "()Z"⟩, 69) := ⟨⟨by decide +kernel, by decide +kernel⟩, List.mem_of_getElem? (i := 664) (by decide +kernel), List.mem_of_getElem? (i := 970) (by decide +kernel), List.mem_of_getElem? (i := 971) (by decide +kernel)⟩
theorem lw_p41 : lw_okq (⟨"NineSailsModel", "place", "(I)I"⟩, 69) := ⟨⟨by decide +kernel, by decide +kernel⟩, List.mem_of_getElem? (i := 664) (by decide +kernel), List.mem_of_getElem? (i := 974) (by decide +kernel), List.mem_of_getElem? (i := 975) (by decide +kernel)⟩
theorem lw_p42 : lw_okq (⟨"NineSailsModel", "put", "(I)V"⟩, 69) := ⟨⟨by decide +kernel, by decide +kernel⟩, List.mem_of_getElem? (i := 664) (by decide +kernel), List.mem_of_getElem? (i := 978) (by decide +kernel), List.mem_of_getElem? (i := 979) (by decide +kernel)⟩
theorem lw_p43 : lw_okq (⟨"NineSailsModel", "settleNots", "()V"⟩, 69) := ⟨⟨by decide +kernel, by decide +kernel⟩, List.mem_of_getElem? (i := 664) (by decide +kernel), List.mem_of_getElem? (i := 982) (by decide +kernel), List.mem_of_getElem? (i := 983) (by decide +kernel)⟩
theorem lw_p44 : lw_okq (⟨"NineSailsModel", "settle", "(I)V"⟩, 69) := ⟨⟨by decide +kernel, by decide +kernel⟩, List.mem_of_getElem? (i := 664) (by decide +kernel), List.mem_of_getElem? (i := 986) (by decide +kernel), List.mem_of_getElem? (i := 987) (by decide +kernel)⟩
theorem lw_p45 : lw_okq (⟨"NineSailsModel", "isWind", "(I)Z"⟩, 69) := ⟨⟨by decide +kernel, by decide +kernel⟩, List.mem_of_getElem? (i := 664) (by decide +kernel), List.mem_of_getElem? (i := 994) (by decide +kernel), List.mem_of_getElem? (i := 995) (by decide +kernel)⟩
theorem lw_p46 : lw_okq (⟨"NineSailsModel", "sumOf", "(IIII)I"⟩, 69) := ⟨⟨by decide +kernel, by decide +kernel⟩, List.mem_of_getElem? (i := 664) (by decide +kernel), List.mem_of_getElem? (i := 998) (by decide +kernel), List.mem_of_getElem? (i := 999) (by decide +kernel)⟩
theorem lw_p47 : lw_okq (⟨"NineSailsModel", "first", "()I"⟩, 69) := ⟨⟨by decide +kernel, by decide +kernel⟩, List.mem_of_getElem? (i := 664) (by decide +kernel), List.mem_of_getElem? (i := 1002) (by decide +kernel), List.mem_of_getElem? (i := 1003) (by decide +kernel)⟩
def lw_privs_3 : List (MethodName × Nat) := [(⟨"NineSailsModel", "takesHead", "(I)Z"⟩, 69), (⟨"NineSailsModel", "next", "()I"⟩, 69), (⟨"NineSailsModel", "takesWord", "(II)Z"⟩, 69), (⟨"NineSailsModel", "takesSign", "(I)Z"⟩, 69), (⟨"NineSailsModel", "takesFigure", "(I)Z"⟩, 69), (⟨"NineSailsModel", "takesNumber", "()Z"⟩, 69), (⟨"NineSailsModel", "isDigit", "()Z"⟩, 69), (⟨"NineSailsModel", "takesE", "(I)Z"⟩, 69), (⟨"NineSailsModel", "takesTest", "()Z"⟩, 69), (⟨"NineSailsModel", "place", "(I)I"⟩, 69), (⟨"NineSailsModel", "put", "(I)V"⟩, 69), (⟨"NineSailsModel", "settleNots", "()V"⟩, 69), (⟨"NineSailsModel", "settle", "(I)V"⟩, 69), (⟨"NineSailsModel", "isWind", "(I)Z"⟩, 69), (⟨"NineSailsModel", "sumOf", "(IIII)I"⟩, 69), (⟨"NineSailsModel", "first", "()I"⟩, 69)]
theorem lw_r3 : ∀ q ∈ lw_privs_3, lw_okq q := List.forall_mem_cons.mpr ⟨lw_p32, List.forall_mem_cons.mpr ⟨lw_p33, List.forall_mem_cons.mpr ⟨lw_p34, List.forall_mem_cons.mpr ⟨lw_p35, List.forall_mem_cons.mpr ⟨lw_p36, List.forall_mem_cons.mpr ⟨lw_p37, List.forall_mem_cons.mpr ⟨lw_p38, List.forall_mem_cons.mpr ⟨lw_p39, List.forall_mem_cons.mpr ⟨lw_p40, List.forall_mem_cons.mpr ⟨lw_p41, List.forall_mem_cons.mpr ⟨lw_p42, List.forall_mem_cons.mpr ⟨lw_p43, List.forall_mem_cons.mpr ⟨lw_p44, List.forall_mem_cons.mpr ⟨lw_p45, List.forall_mem_cons.mpr ⟨lw_p46, List.forall_mem_cons.mpr ⟨lw_p47, fun _ h => absurd h List.not_mem_nil⟩⟩⟩⟩⟩⟩⟩⟩⟩⟩⟩⟩⟩⟩⟩⟩
theorem lw_p48 : lw_okq (⟨"NineSailsModel", "behind", "()I"⟩, 69) := ⟨⟨by decide +kernel, by decide +kernel⟩, List.mem_of_getElem? (i := 664) (by decide +kernel), List.mem_of_getElem? (i := 1006) (by decide +kernel), List.mem_of_getElem? (i := 1007) (by decide +kernel)⟩
theorem lw_p49 : lw_okq (⟨"NineSailsModel", "holds", "(IIII)Z"⟩, 69) := ⟨⟨by decide +kernel, by decide +kernel⟩, List.mem_of_getElem? (i := 664) (by decide +kernel), List.mem_of_getElem? (i := 1010) (by decide +kernel), List.mem_of_getElem? (i := 1011) (by decide +kernel)⟩
theorem lw_p50 : lw_okq (⟨"NineSailsModel", "layFollows", "()V"⟩, 69) := ⟨⟨by decide +kernel, by decide +kernel⟩, List.mem_of_getElem? (i := 664) (by decide +kernel), List.mem_of_getElem? (i := 1018) (by decide +kernel), List.mem_of_getElem? (i := 1019) (by decide +kernel)⟩
theorem lw_p51 : lw_okq (⟨"NineSailsModel", "last", "(II)I"⟩, 69) := ⟨⟨by decide +kernel, by decide +kernel⟩, List.mem_of_getElem? (i := 664) (by decide +kernel), List.mem_of_getElem? (i := 1022) (by decide +kernel), List.mem_of_getElem? (i := 1023) (by decide +kernel)⟩
theorem lw_p52 : lw_okq (⟨"NineSailsModel", "isRule", "(I)Z"⟩, 69) := ⟨⟨by decide +kernel, by decide +kernel⟩, List.mem_of_getElem? (i := 664) (by decide +kernel), List.mem_of_getElem? (i := 1034) (by decide +kernel), List.mem_of_getElem? (i := 1035) (by decide +kernel)⟩
theorem lw_p53 : lw_okq (⟨"NineSailsModel", "asIs", "()V"⟩, 69) := ⟨⟨by decide +kernel, by decide +kernel⟩, List.mem_of_getElem? (i := 664) (by decide +kernel), List.mem_of_getElem? (i := 1046) (by decide +kernel), List.mem_of_getElem? (i := 1047) (by decide +kernel)⟩
theorem lw_p54 : lw_okq (⟨"NineSailsModel", "pickOf", "(IIIII)I"⟩, 69) := ⟨⟨by decide +kernel, by decide +kernel⟩, List.mem_of_getElem? (i := 664) (by decide +kernel), List.mem_of_getElem? (i := 1050) (by decide +kernel), List.mem_of_getElem? (i := 1051) (by decide +kernel)⟩
theorem lw_p55 : lw_okq (⟨"NineSailsModel", "plain", "(II)I"⟩, 69) := ⟨⟨by decide +kernel, by decide +kernel⟩, List.mem_of_getElem? (i := 664) (by decide +kernel), List.mem_of_getElem? (i := 1054) (by decide +kernel), List.mem_of_getElem? (i := 1055) (by decide +kernel)⟩
theorem lw_p56 : lw_okq (⟨"NineSailsModel", "may", "(III)Z"⟩, 69) := ⟨⟨by decide +kernel, by decide +kernel⟩, List.mem_of_getElem? (i := 664) (by decide +kernel), List.mem_of_getElem? (i := 1058) (by decide +kernel), List.mem_of_getElem? (i := 1059) (by decide +kernel)⟩
theorem lw_p57 : lw_okq (⟨"NineSailsModel", "fastest", "(IIII)I"⟩, 69) := ⟨⟨by decide +kernel, by decide +kernel⟩, List.mem_of_getElem? (i := 664) (by decide +kernel), List.mem_of_getElem? (i := 1062) (by decide +kernel), List.mem_of_getElem? (i := 1063) (by decide +kernel)⟩
theorem lw_p58 : lw_okq (⟨"NineSailsModel", "dearest", "(IIIII)I"⟩, 69) := ⟨⟨by decide +kernel, by decide +kernel⟩, List.mem_of_getElem? (i := 664) (by decide +kernel), List.mem_of_getElem? (i := 1066) (by decide +kernel), List.mem_of_getElem? (i := 1067) (by decide +kernel)⟩
theorem lw_p59 : lw_okq (⟨"NineSailsModel", "milesOf", "(IIII)I"⟩, 69) := ⟨⟨by decide +kernel, by decide +kernel⟩, List.mem_of_getElem? (i := 664) (by decide +kernel), List.mem_of_getElem? (i := 1074) (by decide +kernel), List.mem_of_getElem? (i := 1075) (by decide +kernel)⟩
theorem lw_p60 : lw_okq (⟨"NineSailsModel", "isHours", "(I)Z"⟩, 69) := ⟨⟨by decide +kernel, by decide +kernel⟩, List.mem_of_getElem? (i := 664) (by decide +kernel), List.mem_of_getElem? (i := 1082) (by decide +kernel), List.mem_of_getElem? (i := 1083) (by decide +kernel)⟩
theorem lw_p61 : lw_okq (⟨"NineSailsModel", "goAll", "(IIIII)V"⟩, 69) := ⟨⟨by decide +kernel, by decide +kernel⟩, List.mem_of_getElem? (i := 664) (by decide +kernel), List.mem_of_getElem? (i := 1087) (by decide +kernel), List.mem_of_getElem? (i := 1088) (by decide +kernel)⟩
theorem lw_p62 : lw_okq (⟨"NineSailsModel", "enter", "(III)V"⟩, 69) := ⟨⟨by decide +kernel, by decide +kernel⟩, List.mem_of_getElem? (i := 664) (by decide +kernel), List.mem_of_getElem? (i := 1093) (by decide +kernel), List.mem_of_getElem? (i := 1094) (by decide +kernel)⟩
theorem lw_p63 : lw_okq (⟨"NineSailsModel", "lowest", "(JI)J"⟩, 69) := ⟨⟨by decide +kernel, by decide +kernel⟩, List.mem_of_getElem? (i := 664) (by decide +kernel), List.mem_of_getElem? (i := 1097) (by decide +kernel), List.mem_of_getElem? (i := 1098) (by decide +kernel)⟩
def lw_privs_4 : List (MethodName × Nat) := [(⟨"NineSailsModel", "behind", "()I"⟩, 69), (⟨"NineSailsModel", "holds", "(IIII)Z"⟩, 69), (⟨"NineSailsModel", "layFollows", "()V"⟩, 69), (⟨"NineSailsModel", "last", "(II)I"⟩, 69), (⟨"NineSailsModel", "isRule", "(I)Z"⟩, 69), (⟨"NineSailsModel", "asIs", "()V"⟩, 69), (⟨"NineSailsModel", "pickOf", "(IIIII)I"⟩, 69), (⟨"NineSailsModel", "plain", "(II)I"⟩, 69), (⟨"NineSailsModel", "may", "(III)Z"⟩, 69), (⟨"NineSailsModel", "fastest", "(IIII)I"⟩, 69), (⟨"NineSailsModel", "dearest", "(IIIII)I"⟩, 69), (⟨"NineSailsModel", "milesOf", "(IIII)I"⟩, 69), (⟨"NineSailsModel", "isHours", "(I)Z"⟩, 69), (⟨"NineSailsModel", "goAll", "(IIIII)V"⟩, 69), (⟨"NineSailsModel", "enter", "(III)V"⟩, 69), (⟨"NineSailsModel", "lowest", "(JI)J"⟩, 69)]
theorem lw_r4 : ∀ q ∈ lw_privs_4, lw_okq q := List.forall_mem_cons.mpr ⟨lw_p48, List.forall_mem_cons.mpr ⟨lw_p49, List.forall_mem_cons.mpr ⟨lw_p50, List.forall_mem_cons.mpr ⟨lw_p51, List.forall_mem_cons.mpr ⟨lw_p52, List.forall_mem_cons.mpr ⟨lw_p53, List.forall_mem_cons.mpr ⟨lw_p54, List.forall_mem_cons.mpr ⟨lw_p55, List.forall_mem_cons.mpr ⟨lw_p56, List.forall_mem_cons.mpr ⟨lw_p57, List.forall_mem_cons.mpr ⟨lw_p58, List.forall_mem_cons.mpr ⟨lw_p59, List.forall_mem_cons.mpr ⟨lw_p60, List.forall_mem_cons.mpr ⟨lw_p61, List.forall_mem_cons.mpr ⟨lw_p62, List.forall_mem_cons.mpr ⟨lw_p63, fun _ h => absurd h List.not_mem_nil⟩⟩⟩⟩⟩⟩⟩⟩⟩⟩⟩⟩⟩⟩⟩⟩
theorem lw_p64 : lw_okq (⟨"NineSailsModel", "divisor", "(JJ)J"⟩, 69) := ⟨⟨by decide +kernel, by decide +kernel⟩, List.mem_of_getElem? (i := 664) (by decide +kernel), List.mem_of_getElem? (i := 1101) (by decide +kernel), List.mem_of_getElem? (i := 1102) (by decide +kernel)⟩
theorem lw_p65 : lw_okq (⟨"NineSailsModel", "ones", "(I)I"⟩, 69) := ⟨⟨by decide +kernel, by decide +kernel⟩, List.mem_of_getElem? (i := 664) (by decide +kernel), List.mem_of_getElem? (i := 1117) (by decide +kernel), List.mem_of_getElem? (i := 1118) (by decide +kernel)⟩
theorem lw_p66 : lw_okq (⟨"NineSailsModel", "isTape", "(I)Z"⟩, 69) := ⟨⟨by decide +kernel, by decide +kernel⟩, List.mem_of_getElem? (i := 664) (by decide +kernel), List.mem_of_getElem? (i := 1149) (by decide +kernel), List.mem_of_getElem? (i := 1150) (by decide +kernel)⟩
theorem lw_p67 : lw_okq (⟨"NineSailsModel", "picksAct", "(II)I"⟩, 69) := ⟨⟨by decide +kernel, by decide +kernel⟩, List.mem_of_getElem? (i := 664) (by decide +kernel), List.mem_of_getElem? (i := 1165) (by decide +kernel), List.mem_of_getElem? (i := 1166) (by decide +kernel)⟩
theorem lw_p68 : lw_okq (⟨"NineSailsModel", "body", "(I)V"⟩, 69) := ⟨⟨by decide +kernel, by decide +kernel⟩, List.mem_of_getElem? (i := 664) (by decide +kernel), List.mem_of_getElem? (i := 1169) (by decide +kernel), List.mem_of_getElem? (i := 1170) (by decide +kernel)⟩
theorem lw_p69 : lw_okq (⟨"NineSailsModel", "plainPicks", "(II)I"⟩, 69) := ⟨⟨by decide +kernel, by decide +kernel⟩, List.mem_of_getElem? (i := 664) (by decide +kernel), List.mem_of_getElem? (i := 1173) (by decide +kernel), List.mem_of_getElem? (i := 1174) (by decide +kernel)⟩
theorem lw_p70 : lw_okq (⟨"NineSailsModel", "reefsAct", "(II)I"⟩, 69) := ⟨⟨by decide +kernel, by decide +kernel⟩, List.mem_of_getElem? (i := 664) (by decide +kernel), List.mem_of_getElem? (i := 1177) (by decide +kernel), List.mem_of_getElem? (i := 1178) (by decide +kernel)⟩
theorem lw_p71 : lw_okq (⟨"NineSailsModel", "tableReefs", "(II)I"⟩, 69) := ⟨⟨by decide +kernel, by decide +kernel⟩, List.mem_of_getElem? (i := 664) (by decide +kernel), List.mem_of_getElem? (i := 1181) (by decide +kernel), List.mem_of_getElem? (i := 1182) (by decide +kernel)⟩
theorem lw_p72 : lw_okq (⟨"NineSailsModel", "plainReefs", "(II)I"⟩, 69) := ⟨⟨by decide +kernel, by decide +kernel⟩, List.mem_of_getElem? (i := 664) (by decide +kernel), List.mem_of_getElem? (i := 1185) (by decide +kernel), List.mem_of_getElem? (i := 1186) (by decide +kernel)⟩
theorem lw_p73 : lw_okq (⟨"NineSailsModel", "tellsAct", "(II)I"⟩, 69) := ⟨⟨by decide +kernel, by decide +kernel⟩, List.mem_of_getElem? (i := 664) (by decide +kernel), List.mem_of_getElem? (i := 1189) (by decide +kernel), List.mem_of_getElem? (i := 1190) (by decide +kernel)⟩
theorem lw_p74 : lw_okq (⟨"NineSailsModel", "plainTells", "(II)I"⟩, 69) := ⟨⟨by decide +kernel, by decide +kernel⟩, List.mem_of_getElem? (i := 664) (by decide +kernel), List.mem_of_getElem? (i := 1193) (by decide +kernel), List.mem_of_getElem? (i := 1194) (by decide +kernel)⟩
theorem lw_p75 : lw_okq (⟨"NineSailsModel", "narrow", "(IJ)J"⟩, 69) := ⟨⟨by decide +kernel, by decide +kernel⟩, List.mem_of_getElem? (i := 664) (by decide +kernel), List.mem_of_getElem? (i := 1217) (by decide +kernel), List.mem_of_getElem? (i := 1218) (by decide +kernel)⟩
def lw_privs_5 : List (MethodName × Nat) := [(⟨"NineSailsModel", "divisor", "(JJ)J"⟩, 69), (⟨"NineSailsModel", "ones", "(I)I"⟩, 69), (⟨"NineSailsModel", "isTape", "(I)Z"⟩, 69), (⟨"NineSailsModel", "picksAct", "(II)I"⟩, 69), (⟨"NineSailsModel", "body", "(I)V"⟩, 69), (⟨"NineSailsModel", "plainPicks", "(II)I"⟩, 69), (⟨"NineSailsModel", "reefsAct", "(II)I"⟩, 69), (⟨"NineSailsModel", "tableReefs", "(II)I"⟩, 69), (⟨"NineSailsModel", "plainReefs", "(II)I"⟩, 69), (⟨"NineSailsModel", "tellsAct", "(II)I"⟩, 69), (⟨"NineSailsModel", "plainTells", "(II)I"⟩, 69), (⟨"NineSailsModel", "narrow", "(IJ)J"⟩, 69)]
theorem lw_r5 : ∀ q ∈ lw_privs_5, lw_okq q := List.forall_mem_cons.mpr ⟨lw_p64, List.forall_mem_cons.mpr ⟨lw_p65, List.forall_mem_cons.mpr ⟨lw_p66, List.forall_mem_cons.mpr ⟨lw_p67, List.forall_mem_cons.mpr ⟨lw_p68, List.forall_mem_cons.mpr ⟨lw_p69, List.forall_mem_cons.mpr ⟨lw_p70, List.forall_mem_cons.mpr ⟨lw_p71, List.forall_mem_cons.mpr ⟨lw_p72, List.forall_mem_cons.mpr ⟨lw_p73, List.forall_mem_cons.mpr ⟨lw_p74, List.forall_mem_cons.mpr ⟨lw_p75, fun _ h => absurd h List.not_mem_nil⟩⟩⟩⟩⟩⟩⟩⟩⟩⟩⟩⟩
def lw_privs : List (MethodName × Nat) := lw_privs_1 ++ (lw_privs_2 ++ (lw_privs_3 ++ (lw_privs_4 ++ (lw_privs_5))))
def lw_tbl : List Cond := k2_sels lw_privs ++ tables_1
theorem lw_privs_ok : ∀ q ∈ lw_privs, lw_okq q := by
  show ∀ q ∈ lw_privs_1 ++ (lw_privs_2 ++ (lw_privs_3 ++ (lw_privs_4 ++ (lw_privs_5)))), lw_okq q
  exact List.forall_mem_append.mpr ⟨lw_r1, List.forall_mem_append.mpr ⟨lw_r2, List.forall_mem_append.mpr ⟨lw_r3, List.forall_mem_append.mpr ⟨lw_r4, lw_r5⟩⟩⟩⟩
def RX0 : String := "NineSails$Race"
def TX0 : u_T := fun k => match k with
  | 0 => ("NineSails$Race", "clauses", "I", false)
  | 1 => ("NineSails$Race", "words", "[I", true)
  | 2 => ("NineSails$Race", "numbers", "[I", true)
  | 3 => ("NineSails$Race", "pairs", "[I", true)
  | 4 => ("NineSails$Race", "ends", "[I", true)
  | 5 => ("NineSails$Race", "codes", "[I", true)
  | 6 => ("NineSails$Race", "codeCount", "I", false)
  | 7 => ("NineSails$Race", "loss", "I", false)
  | _ => ("NineSails$Race", "odds", "[I", true)
def tyX0 : Nat → FieldType := fun k => match k with
  | 0 => .int
  | 1 => .array .int
  | 2 => .array .int
  | 3 => .array .int
  | 4 => .array .int
  | 5 => .array .int
  | 6 => .int
  | 7 => .int
  | _ => .array .int
abbrev wsX00 : List Cond := u_ws RX0 TX0 9
theorem nmX0 : ∀ a, a < 9 → ∀ b, b < 9 → a ≠ b → (TX0 a).2.1 ≠ (TX0 b).2.1 := by decide +kernel
theorem tyX0_ok : ∀ k, k < 9 → parseFieldDescriptor (TX0 k).2.2.1 = some (tyX0 k) := by decide +kernel
abbrev cX0_init : ByteArray := prog_2_method_1_code
def yX0_init : MethodName := ⟨RX0, "<init>", "()V"⟩
abbrev cX0_clear : ByteArray := prog_2_method_2_code
def yX0_clear : MethodName := ⟨RX0, "clear", "()V"⟩
abbrev cX0_put : ByteArray := prog_2_method_3_code
def yX0_put : MethodName := ⟨RX0, "put", "(I)V"⟩
abbrev cX0_close : ByteArray := prog_2_method_4_code
def yX0_close : MethodName := ⟨RX0, "close", "(III)V"⟩
abbrev cX0_settle : ByteArray := prog_2_method_5_code
def yX0_settle : MethodName := ⟨RX0, "settle", "()V"⟩
abbrev cX0_last : ByteArray := prog_2_method_6_code
def yX0_last : MethodName := ⟨RX0, "last", "(II)I"⟩
abbrev cX0_total : ByteArray := prog_2_method_7_code
def yX0_total : MethodName := ⟨RX0, "total", "(IIIII)I"⟩
def RX1 : String := "NineSails$Reader"
def TX1 : u_T := fun k => match k with
  | 0 => ("NineSails$Reader", "text", "[I", true)
  | 1 => ("NineSails$Reader", "length", "I", false)
  | 2 => ("NineSails$Reader", "place", "I", false)
  | 3 => ("NineSails$Reader", "number", "I", false)
  | _ => ("NineSails$Reader", "race", "LNineSails$Race;", false)
def tyX1 : Nat → FieldType := fun k => match k with
  | 0 => .array .int
  | 1 => .int
  | 2 => .int
  | 3 => .int
  | _ => .object "NineSails$Race"
abbrev wsX10 : List Cond := u_ws RX1 TX1 5
theorem nmX1 : ∀ a, a < 5 → ∀ b, b < 5 → a ≠ b → (TX1 a).2.1 ≠ (TX1 b).2.1 := by decide +kernel
theorem tyX1_ok : ∀ k, k < 5 → parseFieldDescriptor (TX1 k).2.2.1 = some (tyX1 k) := by decide +kernel
abbrev cX1_init : ByteArray := prog_3_method_1_code
def yX1_init : MethodName := ⟨RX1, "<init>", "()V"⟩
abbrev cX1_take : ByteArray := prog_3_method_2_code
def yX1_take : MethodName := ⟨RX1, "take", "(I)V"⟩
abbrev cX1_fault : ByteArray := prog_3_method_3_code
def yX1_fault : MethodName := ⟨RX1, "fault", "(LNineSails$Race;)I"⟩
abbrev cX1_readClause : ByteArray := prog_3_method_4_code
def yX1_readClause : MethodName := ⟨RX1, "readClause", "()Z"⟩
abbrev cX1_wordBegun : ByteArray := prog_3_method_5_code
def yX1_wordBegun : MethodName := ⟨RX1, "wordBegun", "()I"⟩
abbrev cX1_wordOf : ByteArray := prog_3_method_6_code
def yX1_wordOf : MethodName := ⟨RX1, "wordOf", "(I)Ljava/lang/String;"⟩
abbrev cX1_readEither : ByteArray := prog_3_method_7_code
def yX1_readEither : MethodName := ⟨RX1, "readEither", "(I)Z"⟩
abbrev cX1_readFactor : ByteArray := prog_3_method_8_code
def yX1_readFactor : MethodName := ⟨RX1, "readFactor", "(I)Z"⟩
abbrev cX1_readTest : ByteArray := prog_3_method_9_code
def yX1_readTest : MethodName := ⟨RX1, "readTest", "()Z"⟩
abbrev cX1_sign : ByteArray := prog_3_method_10_code
def yX1_sign : MethodName := ⟨RX1, "sign", "()I"⟩
abbrev cX1_pass : ByteArray := prog_3_method_11_code
def yX1_pass : MethodName := ⟨RX1, "pass", "(I)Z"⟩
abbrev cX1_passWord : ByteArray := prog_3_method_12_code
def yX1_passWord : MethodName := ⟨RX1, "passWord", "(Ljava/lang/String;)Z"⟩
abbrev cX1_whichOf : ByteArray := prog_3_method_13_code
def yX1_whichOf : MethodName := ⟨RX1, "whichOf", "(IIIII)I"⟩
abbrev cX1_passWindFigure : ByteArray := prog_3_method_14_code
def yX1_passWindFigure : MethodName := ⟨RX1, "passWindFigure", "()Z"⟩
abbrev cX1_passNumber : ByteArray := prog_3_method_15_code
def yX1_passNumber : MethodName := ⟨RX1, "passNumber", "()Z"⟩
def RX2 : String := "NineSails$Rule"
def TX2 : u_T := fun k => match k with
  | 0 => ("NineSails$Rule", "number", "I", true)
  | 1 => ("NineSails$Rule", "kind", "I", true)
  | 2 => ("NineSails$Rule", "v", "I", false)
  | 3 => ("NineSails$Rule", "lines", "[I", true)
  | _ => ("NineSails$Rule", "row", "[I", true)
def tyX2 : Nat → FieldType := fun k => match k with
  | 0 => .int
  | 1 => .int
  | 2 => .int
  | 3 => .array .int
  | _ => .array .int
abbrev wsX20 : List Cond := u_ws RX2 TX2 5
theorem nmX2 : ∀ a, a < 5 → ∀ b, b < 5 → a ≠ b → (TX2 a).2.1 ≠ (TX2 b).2.1 := by decide +kernel
theorem tyX2_ok : ∀ k, k < 5 → parseFieldDescriptor (TX2 k).2.2.1 = some (tyX2 k) := by decide +kernel
abbrev cX2_init : ByteArray := prog_4_method_1_code
def yX2_init : MethodName := ⟨RX2, "<init>", "(III)V"⟩
def RX3 : String := "NineSails$Scene"
def TX3 : u_T := fun k => match k with
  | 0 => ("NineSails$Scene", "up", "I", false)
  | 1 => ("NineSails$Scene", "wind", "I", false)
  | 2 => ("NineSails$Scene", "hour", "I", false)
  | 3 => ("NineSails$Scene", "miles", "I", false)
  | 4 => ("NineSails$Scene", "hands", "I", false)
  | 5 => ("NineSails$Scene", "sails", "I", false)
  | 6 => ("NineSails$Scene", "whole", "I", false)
  | 7 => ("NineSails$Scene", "aboard", "I", false)
  | 8 => ("NineSails$Scene", "race", "I", false)
  | 9 => ("NineSails$Scene", "gusts", "I", false)
  | _ => ("NineSails$Scene", "squall", "[I", true)
def tyX3 : Nat → FieldType := fun k => match k with
  | 0 => .int
  | 1 => .int
  | 2 => .int
  | 3 => .int
  | 4 => .int
  | 5 => .int
  | 6 => .int
  | 7 => .int
  | 8 => .int
  | 9 => .int
  | _ => .array .int
abbrev wsX30 : List Cond := u_ws RX3 TX3 11
theorem nmX3 : ∀ a, a < 11 → ∀ b, b < 11 → a ≠ b → (TX3 a).2.1 ≠ (TX3 b).2.1 := by decide +kernel
theorem tyX3_ok : ∀ k, k < 11 → parseFieldDescriptor (TX3 k).2.2.1 = some (tyX3 k) := by decide +kernel
abbrev cX3_init : ByteArray := prog_5_method_1_code
def yX3_init : MethodName := ⟨RX3, "<init>", "()V"⟩
abbrev cX3_become : ByteArray := prog_5_method_2_code
def yX3_become : MethodName := ⟨RX3, "become", "(LNineSails$Scene;)V"⟩
def RX4 : String := "NineSails$Tape"
def TX4 : u_T := fun k => match k with
  | 0 => ("NineSails$Tape", "sort", "I", false)
  | 1 => ("NineSails$Tape", "length", "I", false)
  | _ => ("NineSails$Tape", "items", "[J", true)
def tyX4 : Nat → FieldType := fun k => match k with
  | 0 => .int
  | 1 => .int
  | _ => .array .long
abbrev wsX40 : List Cond := u_ws RX4 TX4 3
theorem nmX4 : ∀ a, a < 3 → ∀ b, b < 3 → a ≠ b → (TX4 a).2.1 ≠ (TX4 b).2.1 := by decide +kernel
theorem tyX4_ok : ∀ k, k < 3 → parseFieldDescriptor (TX4 k).2.2.1 = some (tyX4 k) := by decide +kernel
abbrev cX4_init : ByteArray := prog_6_method_1_code
def yX4_init : MethodName := ⟨RX4, "<init>", "()V"⟩
abbrev cX4_begin : ByteArray := prog_6_method_2_code
def yX4_begin : MethodName := ⟨RX4, "begin", "(II)V"⟩
abbrev cX4_fitted : ByteArray := prog_6_method_3_code
def yX4_fitted : MethodName := ⟨RX4, "fitted", "(J)J"⟩
abbrev cX4_reaches : ByteArray := prog_6_method_4_code
def yX4_reaches : MethodName := ⟨RX4, "reaches", "(II)Z"⟩
def RX5 : String := "NineSails"
def TX5 : u_T := fun k => match k with
  | 0 => ("NineSails", "now", "LNineSails$Scene;", true)
  | 1 => ("NineSails", "kept", "LNineSails$Scene;", true)
  | 2 => ("NineSails", "trial", "LNineSails$Scene;", true)
  | 3 => ("NineSails", "imaged", "Z", false)
  | 4 => ("NineSails", "weights", "[I", true)
  | 5 => ("NineSails", "needs", "[I", true)
  | 6 => ("NineSails", "reader", "LNineSails$Reader;", true)
  | 7 => ("NineSails", "races", "[LNineSails$Race;", true)
  | 8 => ("NineSails", "calm", "LNineSails$Race;", true)
  | 9 => ("NineSails", "raceCount", "I", false)
  | 10 => ("NineSails", "paces", "[I", true)
  | 11 => ("NineSails", "rules", "[LNineSails$Rule;", true)
  | 12 => ("NineSails", "ruleCount", "I", false)
  | 13 => ("NineSails", "anyHold", "LNineSails$Rule;", true)
  | 14 => ("NineSails", "anyWatch", "LNineSails$Rule;", true)
  | 15 => ("NineSails", "bestRow", "[I", true)
  | 16 => ("NineSails", "tapes", "[LNineSails$Tape;", true)
  | 17 => ("NineSails", "bodies", "[I", true)
  | _ => ("NineSails", "bodyCount", "I", false)
def tyX5 : Nat → FieldType := fun k => match k with
  | 0 => .object "NineSails$Scene"
  | 1 => .object "NineSails$Scene"
  | 2 => .object "NineSails$Scene"
  | 3 => .boolean
  | 4 => .array .int
  | 5 => .array .int
  | 6 => .object "NineSails$Reader"
  | 7 => .array (.object "NineSails$Race")
  | 8 => .object "NineSails$Race"
  | 9 => .int
  | 10 => .array .int
  | 11 => .array (.object "NineSails$Rule")
  | 12 => .int
  | 13 => .object "NineSails$Rule"
  | 14 => .object "NineSails$Rule"
  | 15 => .array .int
  | 16 => .array (.object "NineSails$Tape")
  | 17 => .array .int
  | _ => .int
abbrev wsX50 : List Cond := u_ws RX5 TX5 19
theorem nmX5 : ∀ a, a < 19 → ∀ b, b < 19 → a ≠ b → (TX5 a).2.1 ≠ (TX5 b).2.1 := by decide +kernel
theorem tyX5_ok : ∀ k, k < 19 → parseFieldDescriptor (TX5 k).2.2.1 = some (tyX5 k) := by decide +kernel
abbrev cX5_init : ByteArray := prog_1_method_1_code
def yX5_init : MethodName := ⟨RX5, "<init>", "()V"⟩
abbrev cX5_sail : ByteArray := prog_1_method_2_code
def yX5_sail : MethodName := ⟨RX5, "sail", "(II)I"⟩
abbrev cX5_make : ByteArray := prog_1_method_3_code
def yX5_make : MethodName := ⟨RX5, "make", "(IIZ)I"⟩
abbrev cX5_of : ByteArray := prog_1_method_4_code
def yX5_of : MethodName := ⟨RX5, "of", "(II)I"⟩
abbrev cX5_set : ByteArray := prog_1_method_5_code
def yX5_set : MethodName := ⟨RX5, "set", "(II)I"⟩
abbrev cX5_hoist : ByteArray := prog_1_method_6_code
def yX5_hoist : MethodName := ⟨RX5, "hoist", "(I)I"⟩
abbrev cX5_ship : ByteArray := prog_1_method_7_code
def yX5_ship : MethodName := ⟨RX5, "ship", "(I)I"⟩
abbrev cX5_feed : ByteArray := prog_1_method_8_code
def yX5_feed : MethodName := ⟨RX5, "feed", "(II)I"⟩
abbrev cX5_race : ByteArray := prog_1_method_9_code
def yX5_race : MethodName := ⟨RX5, "race", "()I"⟩
abbrev cX5_speed : ByteArray := prog_1_method_10_code
def yX5_speed : MethodName := ⟨RX5, "speed", "(IIII)I"⟩
abbrev cX5_follows : ByteArray := prog_1_method_11_code
def yX5_follows : MethodName := ⟨RX5, "follows", "(II)I"⟩
abbrev cX5_rule : ByteArray := prog_1_method_12_code
def yX5_rule : MethodName := ⟨RX5, "rule", "(II)I"⟩
abbrev cX5_line : ByteArray := prog_1_method_13_code
def yX5_line : MethodName := ⟨RX5, "line", "(III)I"⟩
abbrev cX5_told : ByteArray := prog_1_method_14_code
def yX5_told : MethodName := ⟨RX5, "told", "(III)I"⟩
abbrev cX5_picks : ByteArray := prog_1_method_15_code
def yX5_picks : MethodName := ⟨RX5, "picks", "(I)I"⟩
abbrev cX5_go : ByteArray := prog_1_method_16_code
def yX5_go : MethodName := ⟨RX5, "go", "(IZI)I"⟩
abbrev cX5_mean : ByteArray := prog_1_method_17_code
def yX5_mean : MethodName := ⟨RX5, "mean", "(III)J"⟩
abbrev cX5_sure : ByteArray := prog_1_method_18_code
def yX5_sure : MethodName := ⟨RX5, "sure", "(IIII)J"⟩
abbrev cX5_edge : ByteArray := prog_1_method_19_code
def yX5_edge : MethodName := ⟨RX5, "edge", "(I)I"⟩
abbrev cX5_few : ByteArray := prog_1_method_20_code
def yX5_few : MethodName := ⟨RX5, "few", "(III)I"⟩
abbrev cX5_torn : ByteArray := prog_1_method_21_code
def yX5_torn : MethodName := ⟨RX5, "torn", "(IIII)J"⟩
abbrev cX5_sleep : ByteArray := prog_1_method_22_code
def yX5_sleep : MethodName := ⟨RX5, "sleep", "(III)J"⟩
abbrev cX5_lines : ByteArray := prog_1_method_23_code
def yX5_lines : MethodName := ⟨RX5, "lines", "(II)I"⟩
abbrev cX5_squall : ByteArray := prog_1_method_24_code
def yX5_squall : MethodName := ⟨RX5, "squall", "(I)I"⟩
abbrev cX5_made : ByteArray := prog_1_method_25_code
def yX5_made : MethodName := ⟨RX5, "made", "(I)I"⟩
abbrev cX5_worst : ByteArray := prog_1_method_26_code
def yX5_worst : MethodName := ⟨RX5, "worst", "(II)I"⟩
abbrev cX5_judge : ByteArray := prog_1_method_27_code
def yX5_judge : MethodName := ⟨RX5, "judge", "(II)I"⟩
abbrev cX5_image : ByteArray := prog_1_method_28_code
def yX5_image : MethodName := ⟨RX5, "image", "()I"⟩
abbrev cX5_undo : ByteArray := prog_1_method_29_code
def yX5_undo : MethodName := ⟨RX5, "undo", "()I"⟩
abbrev cX5_act : ByteArray := prog_1_method_30_code
def yX5_act : MethodName := ⟨RX5, "act", "(III)I"⟩
abbrev cX5_trace : ByteArray := prog_1_method_31_code
def yX5_trace : MethodName := ⟨RX5, "trace", "(I)I"⟩
abbrev cX5_taken : ByteArray := prog_1_method_32_code
def yX5_taken : MethodName := ⟨RX5, "taken", "(II)I"⟩
abbrev cX5_count : ByteArray := prog_1_method_33_code
def yX5_count : MethodName := ⟨RX5, "count", "(I)I"⟩
abbrev cX5_tape : ByteArray := prog_1_method_34_code
def yX5_tape : MethodName := ⟨RX5, "tape", "(III)I"⟩
abbrev cX5_item : ByteArray := prog_1_method_35_code
def yX5_item : MethodName := ⟨RX5, "item", "(IIJ)I"⟩
abbrev cX5_read : ByteArray := prog_1_method_36_code
def yX5_read : MethodName := ⟨RX5, "read", "(II)J"⟩
abbrev cX5_shift : ByteArray := prog_1_method_37_code
def yX5_shift : MethodName := ⟨RX5, "shift", "(IIIII)I"⟩
abbrev cX5_isSail : ByteArray := prog_1_method_38_code
def yX5_isSail : MethodName := ⟨RX5, "isSail", "(I)Z"⟩
abbrev cX5_isWind : ByteArray := prog_1_method_39_code
def yX5_isWind : MethodName := ⟨RX5, "isWind", "(I)Z"⟩
abbrev cX5_isTellable : ByteArray := prog_1_method_40_code
def yX5_isTellable : MethodName := ⟨RX5, "isTellable", "(I)Z"⟩
abbrev cX5_isHours : ByteArray := prog_1_method_41_code
def yX5_isHours : MethodName := ⟨RX5, "isHours", "(I)Z"⟩
abbrev cX5_isPart : ByteArray := prog_1_method_42_code
def yX5_isPart : MethodName := ⟨RX5, "isPart", "(I)Z"⟩
abbrev cX5_shown : ByteArray := prog_1_method_43_code
def yX5_shown : MethodName := ⟨RX5, "shown", "(I)I"⟩
abbrev cX5_ruleOf : ByteArray := prog_1_method_44_code
def yX5_ruleOf : MethodName := ⟨RX5, "ruleOf", "(I)LNineSails$Rule;"⟩
abbrev cX5_tapeOf : ByteArray := prog_1_method_45_code
def yX5_tapeOf : MethodName := ⟨RX5, "tapeOf", "(I)LNineSails$Tape;"⟩
abbrev cX5_holding : ByteArray := prog_1_method_46_code
def yX5_holding : MethodName := ⟨RX5, "holding", "()LNineSails$Race;"⟩
abbrev cX5_pace : ByteArray := prog_1_method_47_code
def yX5_pace : MethodName := ⟨RX5, "pace", "(IIII)I"⟩
abbrev cX5_may : ByteArray := prog_1_method_48_code
def yX5_may : MethodName := ⟨RX5, "may", "(LNineSails$Scene;I)Z"⟩
abbrev cX5_usefulSails : ByteArray := prog_1_method_49_code
def yX5_usefulSails : MethodName := ⟨RX5, "usefulSails", "()I"⟩
abbrev cX5_milesBy : ByteArray := prog_1_method_50_code
def yX5_milesBy : MethodName := ⟨RX5, "milesBy", "(LNineSails$Scene;I)I"⟩
abbrev cX5_choice : ByteArray := prog_1_method_51_code
def yX5_choice : MethodName := ⟨RX5, "choice", "(LNineSails$Rule;LNineSails$Scene;)I"⟩
abbrev cX5_rowAt : ByteArray := prog_1_method_52_code
def yX5_rowAt : MethodName := ⟨RX5, "rowAt", "(LNineSails$Rule;I)I"⟩
abbrev cX5_asUp : ByteArray := prog_1_method_53_code
def yX5_asUp : MethodName := ⟨RX5, "asUp", "(LNineSails$Scene;)I"⟩
abbrev cX5_fastest : ByteArray := prog_1_method_54_code
def yX5_fastest : MethodName := ⟨RX5, "fastest", "(LNineSails$Scene;I)I"⟩
abbrev cX5_worthiest : ByteArray := prog_1_method_55_code
def yX5_worthiest : MethodName := ⟨RX5, "worthiest", "(LNineSails$Rule;LNineSails$Scene;)I"⟩
abbrev cX5_asTold : ByteArray := prog_1_method_56_code
def yX5_asTold : MethodName := ⟨RX5, "asTold", "(LNineSails$Rule;LNineSails$Scene;I)I"⟩
abbrev cX5_ahead : ByteArray := prog_1_method_57_code
def yX5_ahead : MethodName := ⟨RX5, "ahead", "(ILNineSails$Rule;II)J"⟩
abbrev cX5_bestWith : ByteArray := prog_1_method_58_code
def yX5_bestWith : MethodName := ⟨RX5, "bestWith", "(II)J"⟩
abbrev cX5_isEarlierRow : ByteArray := prog_1_method_59_code
def yX5_isEarlierRow : MethodName := ⟨RX5, "isEarlierRow", "([I[I)Z"⟩
abbrev cX5_lowest : ByteArray := prog_1_method_60_code
def yX5_lowest : MethodName := ⟨RX5, "lowest", "(JJI)J"⟩
abbrev cX5_perform : ByteArray := prog_1_method_61_code
def yX5_perform : MethodName := ⟨RX5, "perform", "(LNineSails$Rule;IIII)I"⟩
def RX6 : String := "NineSailsModel"
def TX6 : u_T := fun k => match k with
  | 0 => ("NineSailsModel", "sails", "I", false)
  | 1 => ("NineSailsModel", "whole", "I", false)
  | 2 => ("NineSailsModel", "aboard", "I", false)
  | 3 => ("NineSailsModel", "awake", "I", false)
  | 4 => ("NineSailsModel", "up", "I", false)
  | 5 => ("NineSailsModel", "wind", "I", false)
  | 6 => ("NineSailsModel", "hour", "I", false)
  | 7 => ("NineSailsModel", "miles", "I", false)
  | 8 => ("NineSailsModel", "weight", "[I", true)
  | 9 => ("NineSailsModel", "hands", "[I", true)
  | 10 => ("NineSailsModel", "races", "I", false)
  | 11 => ("NineSailsModel", "the", "I", false)
  | 12 => ("NineSailsModel", "fed", "I", false)
  | 13 => ("NineSailsModel", "at", "I", false)
  | 14 => ("NineSailsModel", "digits", "I", false)
  | 15 => ("NineSailsModel", "text", "[I", true)
  | 16 => ("NineSailsModel", "clauses", "[I", true)
  | 17 => ("NineSailsModel", "word", "[I", true)
  | 18 => ("NineSailsModel", "number", "[I", true)
  | 19 => ("NineSailsModel", "both", "[I", true)
  | 20 => ("NineSailsModel", "from", "[I", true)
  | 21 => ("NineSailsModel", "to", "[I", true)
  | 22 => ("NineSailsModel", "sign", "[I", true)
  | 23 => ("NineSailsModel", "waits", "[I", true)
  | 24 => ("NineSailsModel", "signs", "I", false)
  | 25 => ("NineSailsModel", "waiting", "I", false)
  | 26 => ("NineSailsModel", "open", "I", false)
  | 27 => ("NineSailsModel", "pile", "[Z", true)
  | 28 => ("NineSailsModel", "follow", "[I", true)
  | 29 => ("NineSailsModel", "rules", "I", false)
  | 30 => ("NineSailsModel", "kind", "[I", true)
  | 31 => ("NineSailsModel", "v", "[I", true)
  | 32 => ("NineSailsModel", "line", "[I", true)
  | 33 => ("NineSailsModel", "rowOf", "[I", true)
  | 34 => ("NineSailsModel", "onBoard", "I", false)
  | 35 => ("NineSailsModel", "manyAwake", "I", false)
  | 36 => ("NineSailsModel", "upAt", "[I", true)
  | 37 => ("NineSailsModel", "windAt", "[I", true)
  | 38 => ("NineSailsModel", "wholeAt", "[I", true)
  | 39 => ("NineSailsModel", "milesAt", "[I", true)
  | 40 => ("NineSailsModel", "pickAt", "[I", true)
  | 41 => ("NineSailsModel", "tearAt", "[I", true)
  | 42 => ("NineSailsModel", "branch", "[I", true)
  | 43 => ("NineSailsModel", "weightAt", "[J", true)
  | 44 => ("NineSailsModel", "sum", "J", false)
  | 45 => ("NineSailsModel", "atLeast", "J", false)
  | 46 => ("NineSailsModel", "below", "J", false)
  | 47 => ("NineSailsModel", "least", "I", false)
  | 48 => ("NineSailsModel", "bestLine", "[I", true)
  | 49 => ("NineSailsModel", "winds", "I", false)
  | 50 => ("NineSailsModel", "squall", "[I", true)
  | 51 => ("NineSailsModel", "hasImage", "Z", false)
  | 52 => ("NineSailsModel", "imageThe", "I", false)
  | 53 => ("NineSailsModel", "imageSails", "I", false)
  | 54 => ("NineSailsModel", "imageWhole", "I", false)
  | 55 => ("NineSailsModel", "imageAboard", "I", false)
  | 56 => ("NineSailsModel", "imageAwake", "I", false)
  | 57 => ("NineSailsModel", "imageUp", "I", false)
  | 58 => ("NineSailsModel", "imageWind", "I", false)
  | 59 => ("NineSailsModel", "imageHour", "I", false)
  | 60 => ("NineSailsModel", "imageMiles", "I", false)
  | 61 => ("NineSailsModel", "imageWinds", "I", false)
  | 62 => ("NineSailsModel", "imageSquall", "[I", true)
  | 63 => ("NineSailsModel", "ran", "I", false)
  | 64 => ("NineSailsModel", "bodies", "[I", true)
  | 65 => ("NineSailsModel", "sort", "[I", true)
  | 66 => ("NineSailsModel", "length", "[I", true)
  | 67 => ("NineSailsModel", "item", "[J", true)
  | _ => ("NineSailsModel", "aside", "[J", true)
def tyX6 : Nat → FieldType := fun k => match k with
  | 0 => .int
  | 1 => .int
  | 2 => .int
  | 3 => .int
  | 4 => .int
  | 5 => .int
  | 6 => .int
  | 7 => .int
  | 8 => .array .int
  | 9 => .array .int
  | 10 => .int
  | 11 => .int
  | 12 => .int
  | 13 => .int
  | 14 => .int
  | 15 => .array .int
  | 16 => .array .int
  | 17 => .array .int
  | 18 => .array .int
  | 19 => .array .int
  | 20 => .array .int
  | 21 => .array .int
  | 22 => .array .int
  | 23 => .array .int
  | 24 => .int
  | 25 => .int
  | 26 => .int
  | 27 => .array .boolean
  | 28 => .array .int
  | 29 => .int
  | 30 => .array .int
  | 31 => .array .int
  | 32 => .array .int
  | 33 => .array .int
  | 34 => .int
  | 35 => .int
  | 36 => .array .int
  | 37 => .array .int
  | 38 => .array .int
  | 39 => .array .int
  | 40 => .array .int
  | 41 => .array .int
  | 42 => .array .int
  | 43 => .array .long
  | 44 => .long
  | 45 => .long
  | 46 => .long
  | 47 => .int
  | 48 => .array .int
  | 49 => .int
  | 50 => .array .int
  | 51 => .boolean
  | 52 => .int
  | 53 => .int
  | 54 => .int
  | 55 => .int
  | 56 => .int
  | 57 => .int
  | 58 => .int
  | 59 => .int
  | 60 => .int
  | 61 => .int
  | 62 => .array .int
  | 63 => .int
  | 64 => .array .int
  | 65 => .array .int
  | 66 => .array .int
  | 67 => .array .long
  | _ => .array .long
abbrev wsX60 : List Cond := u_ws RX6 TX6 69
theorem nmX6 : ∀ a, a < 69 → ∀ b, b < 69 → a ≠ b → (TX6 a).2.1 ≠ (TX6 b).2.1 := by decide +kernel
theorem tyX6_ok : ∀ k, k < 69 → parseFieldDescriptor (TX6 k).2.2.1 = some (tyX6 k) := by decide +kernel
abbrev cX6_init : ByteArray := prog_8_method_1_code
def yX6_init : MethodName := ⟨RX6, "<init>", "()V"⟩
abbrev cX6_in : ByteArray := prog_8_method_2_code
def yX6_in : MethodName := ⟨RX6, "in", "(III)Z"⟩
abbrev cX6_has : ByteArray := prog_8_method_3_code
def yX6_has : MethodName := ⟨RX6, "has", "(II)Z"⟩
abbrev cX6_isSail : ByteArray := prog_8_method_4_code
def yX6_isSail : MethodName := ⟨RX6, "isSail", "(I)Z"⟩
abbrev cX6_isWind : ByteArray := prog_8_method_5_code
def yX6_isWind : MethodName := ⟨RX6, "isWind", "(I)Z"⟩
abbrev cX6_sail : ByteArray := prog_8_method_6_code
def yX6_sail : MethodName := ⟨RX6, "sail", "(II)I"⟩
abbrev cX6_make : ByteArray := prog_8_method_7_code
def yX6_make : MethodName := ⟨RX6, "make", "(IIZ)I"⟩
abbrev cX6_mayBe : ByteArray := prog_8_method_8_code
def yX6_mayBe : MethodName := ⟨RX6, "mayBe", "(IIIII)Z"⟩
abbrev cX6_of : ByteArray := prog_8_method_9_code
def yX6_of : MethodName := ⟨RX6, "of", "(II)I"⟩
abbrev cX6_set : ByteArray := prog_8_method_10_code
def yX6_set : MethodName := ⟨RX6, "set", "(II)I"⟩
abbrev cX6_hoist : ByteArray := prog_8_method_11_code
def yX6_hoist : MethodName := ⟨RX6, "hoist", "(I)I"⟩
abbrev cX6_ship : ByteArray := prog_8_method_12_code
def yX6_ship : MethodName := ⟨RX6, "ship", "(I)I"⟩
abbrev cX6_feed : ByteArray := prog_8_method_13_code
def yX6_feed : MethodName := ⟨RX6, "feed", "(II)I"⟩
abbrev cX6_next : ByteArray := prog_8_method_14_code
def yX6_next : MethodName := ⟨RX6, "next", "()I"⟩
abbrev cX6_takesSign : ByteArray := prog_8_method_15_code
def yX6_takesSign : MethodName := ⟨RX6, "takesSign", "(I)Z"⟩
abbrev cX6_takesWord : ByteArray := prog_8_method_16_code
def yX6_takesWord : MethodName := ⟨RX6, "takesWord", "(II)Z"⟩
abbrev cX6_isDigit : ByteArray := prog_8_method_17_code
def yX6_isDigit : MethodName := ⟨RX6, "isDigit", "()Z"⟩
abbrev cX6_takesNumber : ByteArray := prog_8_method_18_code
def yX6_takesNumber : MethodName := ⟨RX6, "takesNumber", "()Z"⟩
abbrev cX6_put : ByteArray := prog_8_method_19_code
def yX6_put : MethodName := ⟨RX6, "put", "(I)V"⟩
abbrev cX6_settleNots : ByteArray := prog_8_method_20_code
def yX6_settleNots : MethodName := ⟨RX6, "settleNots", "()V"⟩
abbrev cX6_settle : ByteArray := prog_8_method_21_code
def yX6_settle : MethodName := ⟨RX6, "settle", "(I)V"⟩
abbrev cX6_place : ByteArray := prog_8_method_22_code
def yX6_place : MethodName := ⟨RX6, "place", "(I)I"⟩
abbrev cX6_takesTest : ByteArray := prog_8_method_23_code
def yX6_takesTest : MethodName := ⟨RX6, "takesTest", "()Z"⟩
abbrev cX6_takesE : ByteArray := prog_8_method_24_code
def yX6_takesE : MethodName := ⟨RX6, "takesE", "(I)Z"⟩
abbrev cX6_takesFigure : ByteArray := prog_8_method_25_code
def yX6_takesFigure : MethodName := ⟨RX6, "takesFigure", "(I)Z"⟩
abbrev cX6_takesHead : ByteArray := prog_8_method_26_code
def yX6_takesHead : MethodName := ⟨RX6, "takesHead", "(I)Z"⟩
abbrev cX6_takesClause : ByteArray := prog_8_method_27_code
def yX6_takesClause : MethodName := ⟨RX6, "takesClause", "(I)Z"⟩
abbrev cX6_goesText : ByteArray := prog_8_method_28_code
def yX6_goesText : MethodName := ⟨RX6, "goesText", "(I)Z"⟩
abbrev cX6_race : ByteArray := prog_8_method_29_code
def yX6_race : MethodName := ⟨RX6, "race", "()I"⟩
abbrev cX6_first : ByteArray := prog_8_method_30_code
def yX6_first : MethodName := ⟨RX6, "first", "()I"⟩
abbrev cX6_behind : ByteArray := prog_8_method_31_code
def yX6_behind : MethodName := ⟨RX6, "behind", "()I"⟩
abbrev cX6_last : ByteArray := prog_8_method_32_code
def yX6_last : MethodName := ⟨RX6, "last", "(II)I"⟩
abbrev cX6_holds : ByteArray := prog_8_method_33_code
def yX6_holds : MethodName := ⟨RX6, "holds", "(IIII)Z"⟩
abbrev cX6_sumOf : ByteArray := prog_8_method_34_code
def yX6_sumOf : MethodName := ⟨RX6, "sumOf", "(IIII)I"⟩
abbrev cX6_speed : ByteArray := prog_8_method_35_code
def yX6_speed : MethodName := ⟨RX6, "speed", "(IIII)I"⟩
abbrev cX6_layFollows : ByteArray := prog_8_method_36_code
def yX6_layFollows : MethodName := ⟨RX6, "layFollows", "()V"⟩
abbrev cX6_follows : ByteArray := prog_8_method_37_code
def yX6_follows : MethodName := ⟨RX6, "follows", "(II)I"⟩
abbrev cX6_isRule : ByteArray := prog_8_method_38_code
def yX6_isRule : MethodName := ⟨RX6, "isRule", "(I)Z"⟩
abbrev cX6_rule : ByteArray := prog_8_method_39_code
def yX6_rule : MethodName := ⟨RX6, "rule", "(II)I"⟩
abbrev cX6_line : ByteArray := prog_8_method_40_code
def yX6_line : MethodName := ⟨RX6, "line", "(III)I"⟩
abbrev cX6_told : ByteArray := prog_8_method_41_code
def yX6_told : MethodName := ⟨RX6, "told", "(III)I"⟩
abbrev cX6_may : ByteArray := prog_8_method_42_code
def yX6_may : MethodName := ⟨RX6, "may", "(III)Z"⟩
abbrev cX6_plain : ByteArray := prog_8_method_43_code
def yX6_plain : MethodName := ⟨RX6, "plain", "(II)I"⟩
abbrev cX6_fastest : ByteArray := prog_8_method_44_code
def yX6_fastest : MethodName := ⟨RX6, "fastest", "(IIII)I"⟩
abbrev cX6_dearest : ByteArray := prog_8_method_45_code
def yX6_dearest : MethodName := ⟨RX6, "dearest", "(IIIII)I"⟩
abbrev cX6_pickOf : ByteArray := prog_8_method_46_code
def yX6_pickOf : MethodName := ⟨RX6, "pickOf", "(IIIII)I"⟩
abbrev cX6_asIs : ByteArray := prog_8_method_47_code
def yX6_asIs : MethodName := ⟨RX6, "asIs", "()V"⟩
abbrev cX6_picks : ByteArray := prog_8_method_48_code
def yX6_picks : MethodName := ⟨RX6, "picks", "(I)I"⟩
abbrev cX6_milesOf : ByteArray := prog_8_method_49_code
def yX6_milesOf : MethodName := ⟨RX6, "milesOf", "(IIII)I"⟩
abbrev cX6_go : ByteArray := prog_8_method_50_code
def yX6_go : MethodName := ⟨RX6, "go", "(IZI)I"⟩
abbrev cX6_enter : ByteArray := prog_8_method_51_code
def yX6_enter : MethodName := ⟨RX6, "enter", "(III)V"⟩
abbrev cX6_goAll : ByteArray := prog_8_method_52_code
def yX6_goAll : MethodName := ⟨RX6, "goAll", "(IIIII)V"⟩
abbrev cX6_divisor : ByteArray := prog_8_method_53_code
def yX6_divisor : MethodName := ⟨RX6, "divisor", "(JJ)J"⟩
abbrev cX6_lowest : ByteArray := prog_8_method_54_code
def yX6_lowest : MethodName := ⟨RX6, "lowest", "(JI)J"⟩
abbrev cX6_isHours : ByteArray := prog_8_method_55_code
def yX6_isHours : MethodName := ⟨RX6, "isHours", "(I)Z"⟩
abbrev cX6_mean : ByteArray := prog_8_method_56_code
def yX6_mean : MethodName := ⟨RX6, "mean", "(III)J"⟩
abbrev cX6_sure : ByteArray := prog_8_method_57_code
def yX6_sure : MethodName := ⟨RX6, "sure", "(IIII)J"⟩
abbrev cX6_edge : ByteArray := prog_8_method_58_code
def yX6_edge : MethodName := ⟨RX6, "edge", "(I)I"⟩
abbrev cX6_ones : ByteArray := prog_8_method_59_code
def yX6_ones : MethodName := ⟨RX6, "ones", "(I)I"⟩
abbrev cX6_few : ByteArray := prog_8_method_60_code
def yX6_few : MethodName := ⟨RX6, "few", "(III)I"⟩
abbrev cX6_torn : ByteArray := prog_8_method_61_code
def yX6_torn : MethodName := ⟨RX6, "torn", "(IIII)J"⟩
abbrev cX6_sleep : ByteArray := prog_8_method_62_code
def yX6_sleep : MethodName := ⟨RX6, "sleep", "(III)J"⟩
abbrev cX6_lines : ByteArray := prog_8_method_63_code
def yX6_lines : MethodName := ⟨RX6, "lines", "(II)I"⟩
abbrev cX6_squall : ByteArray := prog_8_method_64_code
def yX6_squall : MethodName := ⟨RX6, "squall", "(I)I"⟩
abbrev cX6_made : ByteArray := prog_8_method_65_code
def yX6_made : MethodName := ⟨RX6, "made", "(I)I"⟩
abbrev cX6_worst : ByteArray := prog_8_method_66_code
def yX6_worst : MethodName := ⟨RX6, "worst", "(II)I"⟩
abbrev cX6_judge : ByteArray := prog_8_method_67_code
def yX6_judge : MethodName := ⟨RX6, "judge", "(II)I"⟩
abbrev cX6_image : ByteArray := prog_8_method_68_code
def yX6_image : MethodName := ⟨RX6, "image", "()I"⟩
abbrev cX6_undo : ByteArray := prog_8_method_69_code
def yX6_undo : MethodName := ⟨RX6, "undo", "()I"⟩
abbrev cX6_body : ByteArray := prog_8_method_70_code
def yX6_body : MethodName := ⟨RX6, "body", "(I)V"⟩
abbrev cX6_plainPicks : ByteArray := prog_8_method_71_code
def yX6_plainPicks : MethodName := ⟨RX6, "plainPicks", "(II)I"⟩
abbrev cX6_picksAct : ByteArray := prog_8_method_72_code
def yX6_picksAct : MethodName := ⟨RX6, "picksAct", "(II)I"⟩
abbrev cX6_plainReefs : ByteArray := prog_8_method_73_code
def yX6_plainReefs : MethodName := ⟨RX6, "plainReefs", "(II)I"⟩
abbrev cX6_tableReefs : ByteArray := prog_8_method_74_code
def yX6_tableReefs : MethodName := ⟨RX6, "tableReefs", "(II)I"⟩
abbrev cX6_reefsAct : ByteArray := prog_8_method_75_code
def yX6_reefsAct : MethodName := ⟨RX6, "reefsAct", "(II)I"⟩
abbrev cX6_plainTells : ByteArray := prog_8_method_76_code
def yX6_plainTells : MethodName := ⟨RX6, "plainTells", "(II)I"⟩
abbrev cX6_tellsAct : ByteArray := prog_8_method_77_code
def yX6_tellsAct : MethodName := ⟨RX6, "tellsAct", "(II)I"⟩
abbrev cX6_act : ByteArray := prog_8_method_78_code
def yX6_act : MethodName := ⟨RX6, "act", "(III)I"⟩
abbrev cX6_trace : ByteArray := prog_8_method_79_code
def yX6_trace : MethodName := ⟨RX6, "trace", "(I)I"⟩
abbrev cX6_taken : ByteArray := prog_8_method_80_code
def yX6_taken : MethodName := ⟨RX6, "taken", "(II)I"⟩
abbrev cX6_count : ByteArray := prog_8_method_81_code
def yX6_count : MethodName := ⟨RX6, "count", "(I)I"⟩
abbrev cX6_isTape : ByteArray := prog_8_method_82_code
def yX6_isTape : MethodName := ⟨RX6, "isTape", "(I)Z"⟩
abbrev cX6_tape : ByteArray := prog_8_method_83_code
def yX6_tape : MethodName := ⟨RX6, "tape", "(III)I"⟩
abbrev cX6_narrow : ByteArray := prog_8_method_84_code
def yX6_narrow : MethodName := ⟨RX6, "narrow", "(IJ)J"⟩
abbrev cX6_item : ByteArray := prog_8_method_85_code
def yX6_item : MethodName := ⟨RX6, "item", "(IIJ)I"⟩
abbrev cX6_read : ByteArray := prog_8_method_86_code
def yX6_read : MethodName := ⟨RX6, "read", "(II)J"⟩
abbrev cX6_shift : ByteArray := prog_8_method_87_code
def yX6_shift : MethodName := ⟨RX6, "shift", "(IIIII)I"⟩
def RJ6 : String := "java/lang/Integer"
abbrev cJ6_bitCount_0f7a4 : ByteArray := prog_9_method_49_code
def yJ6_bitCount_0f7a4 : MethodName := ⟨RJ6, "bitCount", "(I)I"⟩
def RJ9 : String := "java/lang/Math"
abbrev cJ9_abs_067f4 : ByteArray := prog_10_method_61_code
def yJ9_abs_067f4 : MethodName := ⟨RJ9, "abs", "(J)J"⟩
abbrev cJ9_max_7cf53 : ByteArray := prog_10_method_65_code
def yJ9_max_7cf53 : MethodName := ⟨RJ9, "max", "(II)I"⟩
abbrev cJ9_min_7cf53 : ByteArray := prog_10_method_69_code
def yJ9_min_7cf53 : MethodName := ⟨RJ9, "min", "(II)I"⟩
abbrev cJ9_min_f86c9 : ByteArray := prog_10_method_70_code
def yJ9_min_f86c9 : MethodName := ⟨RJ9, "min", "(JJ)J"⟩
def RJ0 : String := "java/lang/String"
abbrev cJ0_length_8abf5 : ByteArray := prog_11_method_54_code
def yJ0_length_8abf5 : MethodName := ⟨RJ0, "length", "()I"⟩
abbrev cJ0_charAt_5068e : ByteArray := prog_11_method_56_code
def yJ0_charAt_5068e : MethodName := ⟨RJ0, "charAt", "(I)C"⟩
abbrev cJ0_coder_7d493 : ByteArray := prog_11_method_152_code
def yJ0_coder_7d493 : MethodName := ⟨RJ0, "coder", "()B"⟩
abbrev cJ0_isLatin1_aae02 : ByteArray := prog_11_method_154_code
def yJ0_isLatin1_aae02 : MethodName := ⟨RJ0, "isLatin1", "()Z"⟩
abbrev cJ0_checkIndex_df160 : ByteArray := prog_11_method_155_code
def yJ0_checkIndex_df160 : MethodName := ⟨RJ0, "checkIndex", "(II)V"⟩
def RJ1 : String := "java/lang/StringLatin1"
abbrev cJ1_charAt_3b067 : ByteArray := prog_12_method_2_code
def yJ1_charAt_3b067 : MethodName := ⟨RJ1, "charAt", "([BI)C"⟩
def RJ2 : String := "java/lang/StringUTF16"
abbrev cJ2_getChar_3b067 : ByteArray := prog_13_method_5_code
def yJ2_getChar_3b067 : MethodName := ⟨RJ2, "getChar", "([BI)C"⟩
abbrev cJ2_length_9d52b : ByteArray := prog_13_method_6_code
def yJ2_length_9d52b : MethodName := ⟨RJ2, "length", "([B)I"⟩
abbrev cJ2_charAt_3b067 : ByteArray := prog_13_method_83_code
def yJ2_charAt_3b067 : MethodName := ⟨RJ2, "charAt", "([BI)C"⟩
abbrev cJ2_checkIndex_2214a : ByteArray := prog_13_method_91_code
def yJ2_checkIndex_2214a : MethodName := ⟨RJ2, "checkIndex", "(I[B)V"⟩
def RJ10 : String := "java/lang/System"
def RJ7 : String := "java/util/Arrays"
abbrev cJ7_fill_d0a16 : ByteArray := prog_15_method_101_code
def yJ7_fill_d0a16 : MethodName := ⟨RJ7, "fill", "([JJ)V"⟩
abbrev cJ7_fill_53178 : ByteArray := prog_15_method_103_code
def yJ7_fill_53178 : MethodName := ⟨RJ7, "fill", "([II)V"⟩
def RJ3 : String := "jdk/internal/util/Preconditions"
abbrev cJ3_checkIndex_8e157 : ByteArray := prog_16_method_11_code
def yJ3_checkIndex_8e157 : MethodName := ⟨RJ3, "checkIndex", "(IILjava/util/function/BiFunction;)I"⟩
def RL : String := "NineSailsLaw"
abbrev cL_law : ByteArray := code
def yL_law : MethodName := ⟨RL, "law", "([I)Z"⟩

abbrev vwCl : List vw_C := [(RX0, TX0, 9), (RX1, TX1, 5), (RX2, TX2, 5), (RX3, TX3, 11), (RX4, TX4, 3), (RX5, TX5, 19), (RX6, TX6, 69)]
/-- the tables' words that hold on and on -/
def aTs : List Jvm.Cond := lw_tbl.filter goodWord
theorem aTs_good : ∀ w ∈ aTs, goodWord w = true := fun w h => (List.mem_filter.mp h).2
theorem aTs_tbl : ∀ w ∈ aTs, w ∈ lw_tbl := fun w h => (List.mem_filter.mp h).1
theorem aTs_of {w : Jvm.Cond} (h : w ∈ lw_tbl) (g : goodWord w = true) : w ∈ aTs := List.mem_filter.mpr ⟨h, g⟩
theorem aInT {w : Jvm.Cond} (h : w ∈ tables_1) : w ∈ lw_tbl := List.mem_append_right _ h
theorem aLt1 {w : Jvm.Cond} (h : w ∈ tables_1_1) : w ∈ lw_tbl := aInT (List.mem_append_left _ h)
theorem aLt2 {w : Jvm.Cond} (h : w ∈ tables_1_2) : w ∈ lw_tbl := aInT (List.mem_append_right _ (List.mem_append_left _ h))
theorem aLt3 {w : Jvm.Cond} (h : w ∈ tables_1_3) : w ∈ lw_tbl := aInT (List.mem_append_right _ (List.mem_append_right _ (List.mem_append_left _ h)))
theorem aLt4 {w : Jvm.Cond} (h : w ∈ tables_1_4) : w ∈ lw_tbl := aInT (List.mem_append_right _ (List.mem_append_right _ (List.mem_append_right _ (List.mem_append_left _ h))))
theorem aLt5 {w : Jvm.Cond} (h : w ∈ tables_1_5) : w ∈ lw_tbl := aInT (List.mem_append_right _ (List.mem_append_right _ (List.mem_append_right _ (List.mem_append_right _ (List.mem_append_left _ h)))))
theorem aLt6 {w : Jvm.Cond} (h : w ∈ tables_1_6) : w ∈ lw_tbl := aInT (List.mem_append_right _ (List.mem_append_right _ (List.mem_append_right _ (List.mem_append_right _ (List.mem_append_right _ h)))))
theorem aIn1 (i : Nat) {w : Jvm.Cond} (h : tables_1_1[i]? = some w) (g : goodWord w = true) : w ∈ aTs := aTs_of (aLt1 (List.mem_of_getElem? h)) g
theorem aIn2 (i : Nat) {w : Jvm.Cond} (h : tables_1_2[i]? = some w) (g : goodWord w = true) : w ∈ aTs := aTs_of (aLt2 (List.mem_of_getElem? h)) g
theorem aIn3 (i : Nat) {w : Jvm.Cond} (h : tables_1_3[i]? = some w) (g : goodWord w = true) : w ∈ aTs := aTs_of (aLt3 (List.mem_of_getElem? h)) g
theorem aIn4 (i : Nat) {w : Jvm.Cond} (h : tables_1_4[i]? = some w) (g : goodWord w = true) : w ∈ aTs := aTs_of (aLt4 (List.mem_of_getElem? h)) g
theorem aIn5 (i : Nat) {w : Jvm.Cond} (h : tables_1_5[i]? = some w) (g : goodWord w = true) : w ∈ aTs := aTs_of (aLt5 (List.mem_of_getElem? h)) g
theorem aIn6 (i : Nat) {w : Jvm.Cond} (h : tables_1_6[i]? = some w) (g : goodWord w = true) : w ∈ aTs := aTs_of (aLt6 (List.mem_of_getElem? h)) g
theorem aInS (i : Nat) {q : MethodName × Nat} (h : lw_privs[i]? = some q) : Cond.selects q.1.cls q.1 q.1 ∈ aTs := aTs_of (List.mem_append_left _ (List.mem_map.mpr ⟨q, List.mem_of_getElem? h, rfl⟩)) rfl
