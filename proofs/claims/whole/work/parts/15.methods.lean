abbrev aTyl (cy : Nat → ClassId) : List (ClassId × FieldType) := [(cy 7, .int), (cy 8, .long), (cy 9, .boolean), (cy 10, .object "NineSails$Race"), (cy 11, .object "NineSails$Rule"), (cy 12, .object "NineSails$Tape")]
abbrev aAO : List String := ["NineSails$Race", "NineSails$Rule", "NineSails$Tape"]
abbrev aNW : List aNt := [("NineSails", 11, yX3_init, "NineSails"), ("NineSails", 33, yX1_init, "NineSails"), ("NineSails", 80, yX4_init, "NineSails"), ("NineSails$Reader", 103, yX5_isWind, "NineSails")]
abbrev aSF (fv : Value) : List (String × String × String × Value) := [("NineSails", "ABOVE", "[I", .ref 1000), ("NineSails", "BODIES", "[I", .ref 1001), ("NineSails", "WHOLE_ODDS", "[J", .ref 1002), ("java/lang/String", "COMPACT_STRINGS", "Z", .int 1), ("jdk/internal/util/Preconditions", "SIOOBE_FORMATTER", "Ljava/util/function/BiFunction;", fv)]
abbrev aSK : List (String × Nat × String × Nat) := [("NineSails$Reader", 73, "go ", 2000), ("NineSails$Reader", 75, "tear ", 2001), ("NineSails$Reader", 77, "lose ", 2002), ("NineSails$Reader", 79, "wind ", 2003)]
def aFk (c k : Nat) : Nat := (([[0, 2, 2, 2, 2, 2, 0, 0, 2], [2, 0, 0, 0, 2], [0, 0, 0, 2, 2], [0, 0, 0, 0, 0, 0, 0, 0, 0, 0, 2], [0, 0, 2], [2, 2, 2, 3, 2, 2, 2, 2, 2, 0, 2, 2, 0, 2, 2, 2, 2, 2, 0], [0, 0, 0, 0, 0, 0, 0, 0, 2, 2, 0, 0, 0, 0, 0, 2, 2, 2, 2, 2, 2, 2, 2, 2, 0, 0, 0, 2, 2, 0, 2, 2, 2, 2, 0, 0, 2, 2, 2, 2, 2, 2, 2, 2, 1, 1, 1, 0, 2, 0, 2, 3, 0, 0, 0, 0, 0, 0, 0, 0, 0, 0, 2, 0, 2, 2, 2, 2, 2]] : List (List Nat)).getD c []).getD k 0
def mtN (y : Nat) : aMt := (bif Nat.blt y 93 then (bif Nat.blt y 46 then (bif Nat.blt y 23 then (bif Nat.blt y 11 then (bif Nat.blt y 5 then (bif Nat.blt y 2 then (bif Nat.blt y 1 then (yX0_init, cX0_init, 1, none) else (yX0_clear, cX0_clear, 1, none)) else (bif Nat.blt y 3 then (yX0_put, cX0_put, 2, none) else (bif Nat.blt y 4 then (yX0_close, cX0_close, 4, none) else (yX0_settle, cX0_settle, 5, none)))) else (bif Nat.blt y 8 then (bif Nat.blt y 6 then (yX0_last, cX0_last, 4, (some .int)) else (bif Nat.blt y 7 then (yX0_total, cX0_total, 17, (some .int)) else (yX1_init, cX1_init, 1, none))) else (bif Nat.blt y 9 then (yX1_take, cX1_take, 2, none) else (bif Nat.blt y 10 then (yX1_fault, cX1_fault, 3, (some .int)) else (yX1_readClause, cX1_readClause, 5, (some .boolean)))))) else (bif Nat.blt y 17 then (bif Nat.blt y 14 then (bif Nat.blt y 12 then (yX1_wordBegun, cX1_wordBegun, 1, (some .int)) else (bif Nat.blt y 13 then (yX1_wordOf, cX1_wordOf, 1, (some (.object "java/lang/String"))) else (yX1_readEither, cX1_readEither, 4, (some .boolean)))) else (bif Nat.blt y 15 then (yX1_readFactor, cX1_readFactor, 2, (some .boolean)) else (bif Nat.blt y 16 then (yX1_readTest, cX1_readTest, 3, (some .boolean)) else (yX1_sign, cX1_sign, 1, (some .int))))) else (bif Nat.blt y 20 then (bif Nat.blt y 18 then (yX1_pass, cX1_pass, 2, (some .boolean)) else (bif Nat.blt y 19 then (yX1_passWord, cX1_passWord, 3, (some .boolean)) else (yX1_whichOf, cX1_whichOf, 5, (some .int)))) else (bif Nat.blt y 21 then (yX1_passWindFigure, cX1_passWindFigure, 2, (some .boolean)) else (bif Nat.blt y 22 then (yX1_passNumber, cX1_passNumber, 3, (some .boolean)) else (yX2_init, cX2_init, 4, none)))))) else (bif Nat.blt y 34 then (bif Nat.blt y 28 then (bif Nat.blt y 25 then (bif Nat.blt y 24 then (yX3_init, cX3_init, 1, none) else (yX3_become, cX3_become, 2, none)) else (bif Nat.blt y 26 then (yX4_init, cX4_init, 1, none) else (bif Nat.blt y 27 then (yX4_begin, cX4_begin, 3, none) else (yX4_fitted, cX4_fitted, 3, (some .long))))) else (bif Nat.blt y 31 then (bif Nat.blt y 29 then (yX4_reaches, cX4_reaches, 3, (some .boolean)) else (bif Nat.blt y 30 then (yX5_init, cX5_init, 2, none) else (yX5_sail, cX5_sail, 4, (some .int)))) else (bif Nat.blt y 32 then (yX5_make, cX5_make, 7, (some .int)) else (bif Nat.blt y 33 then (yX5_of, cX5_of, 3, (some .int)) else (yX5_set, cX5_set, 5, (some .int)))))) else (bif Nat.blt y 40 then (bif Nat.blt y 37 then (bif Nat.blt y 35 then (yX5_hoist, cX5_hoist, 3, (some .int)) else (bif Nat.blt y 36 then (yX5_ship, cX5_ship, 2, (some .int)) else (yX5_feed, cX5_feed, 4, (some .int)))) else (bif Nat.blt y 38 then (yX5_race, cX5_race, 2, (some .int)) else (bif Nat.blt y 39 then (yX5_speed, cX5_speed, 5, (some .int)) else (yX5_follows, cX5_follows, 3, (some .int))))) else (bif Nat.blt y 43 then (bif Nat.blt y 41 then (yX5_rule, cX5_rule, 3, (some .int)) else (bif Nat.blt y 42 then (yX5_line, cX5_line, 6, (some .int)) else (yX5_told, cX5_told, 6, (some .int)))) else (bif Nat.blt y 44 then (yX5_picks, cX5_picks, 3, (some .int)) else (bif Nat.blt y 45 then (yX5_go, cX5_go, 9, (some .int)) else (yX5_mean, cX5_mean, 5, (some .long)))))))) else (bif Nat.blt y 69 then (bif Nat.blt y 57 then (bif Nat.blt y 51 then (bif Nat.blt y 48 then (bif Nat.blt y 47 then (yX5_sure, cX5_sure, 6, (some .long)) else (yX5_edge, cX5_edge, 8, (some .int))) else (bif Nat.blt y 49 then (yX5_few, cX5_few, 12, (some .int)) else (bif Nat.blt y 50 then (yX5_torn, cX5_torn, 8, (some .long)) else (yX5_sleep, cX5_sleep, 7, (some .long))))) else (bif Nat.blt y 54 then (bif Nat.blt y 52 then (yX5_lines, cX5_lines, 8, (some .int)) else (bif Nat.blt y 53 then (yX5_squall, cX5_squall, 2, (some .int)) else (yX5_made, cX5_made, 6, (some .int)))) else (bif Nat.blt y 55 then (yX5_worst, cX5_worst, 4, (some .int)) else (bif Nat.blt y 56 then (yX5_judge, cX5_judge, 7, (some .int)) else (yX5_image, cX5_image, 1, (some .int)))))) else (bif Nat.blt y 63 then (bif Nat.blt y 60 then (bif Nat.blt y 58 then (yX5_undo, cX5_undo, 5, (some .int)) else (bif Nat.blt y 59 then (yX5_act, cX5_act, 5, (some .int)) else (yX5_trace, cX5_trace, 2, (some .int)))) else (bif Nat.blt y 61 then (yX5_taken, cX5_taken, 6, (some .int)) else (bif Nat.blt y 62 then (yX5_count, cX5_count, 2, (some .int)) else (yX5_tape, cX5_tape, 5, (some .int))))) else (bif Nat.blt y 66 then (bif Nat.blt y 64 then (yX5_item, cX5_item, 6, (some .int)) else (bif Nat.blt y 65 then (yX5_read, cX5_read, 4, (some .long)) else (yX5_shift, cX5_shift, 8, (some .int)))) else (bif Nat.blt y 67 then (yX5_isSail, cX5_isSail, 2, (some .boolean)) else (bif Nat.blt y 68 then (yX5_isWind, cX5_isWind, 1, (some .boolean)) else (yX5_isTellable, cX5_isTellable, 1, (some .boolean))))))) else (bif Nat.blt y 81 then (bif Nat.blt y 75 then (bif Nat.blt y 72 then (bif Nat.blt y 70 then (yX5_isHours, cX5_isHours, 1, (some .boolean)) else (bif Nat.blt y 71 then (yX5_isPart, cX5_isPart, 1, (some .boolean)) else (yX5_shown, cX5_shown, 1, (some .int)))) else (bif Nat.blt y 73 then (yX5_ruleOf, cX5_ruleOf, 2, (some (.object "NineSails$Rule"))) else (bif Nat.blt y 74 then (yX5_tapeOf, cX5_tapeOf, 2, (some (.object "NineSails$Tape"))) else (yX5_holding, cX5_holding, 1, (some (.object "NineSails$Race")))))) else (bif Nat.blt y 78 then (bif Nat.blt y 76 then (yX5_pace, cX5_pace, 8, (some .int)) else (bif Nat.blt y 77 then (yX5_may, cX5_may, 3, (some .boolean)) else (yX5_usefulSails, cX5_usefulSails, 3, (some .int)))) else (bif Nat.blt y 79 then (yX5_milesBy, cX5_milesBy, 4, (some .int)) else (bif Nat.blt y 80 then (yX5_choice, cX5_choice, 5, (some .int)) else (yX5_rowAt, cX5_rowAt, 2, (some .int)))))) else (bif Nat.blt y 87 then (bif Nat.blt y 84 then (bif Nat.blt y 82 then (yX5_asUp, cX5_asUp, 2, (some .int)) else (bif Nat.blt y 83 then (yX5_fastest, cX5_fastest, 7, (some .int)) else (yX5_worthiest, cX5_worthiest, 8, (some .int)))) else (bif Nat.blt y 85 then (yX5_asTold, cX5_asTold, 5, (some .int)) else (bif Nat.blt y 86 then (yX5_ahead, cX5_ahead, 22, (some .long)) else (yX5_bestWith, cX5_bestWith, 11, (some .long))))) else (bif Nat.blt y 90 then (bif Nat.blt y 88 then (yX5_isEarlierRow, cX5_isEarlierRow, 3, (some .boolean)) else (bif Nat.blt y 89 then (yX5_lowest, cX5_lowest, 12, (some .long)) else (yX5_perform, cX5_perform, 11, (some .int)))) else (bif Nat.blt y 91 then (yX6_init, cX6_init, 1, none) else (bif Nat.blt y 92 then (yX6_in, cX6_in, 4, (some .boolean)) else (yX6_has, cX6_has, 3, (some .boolean))))))))) else (bif Nat.blt y 140 then (bif Nat.blt y 116 then (bif Nat.blt y 104 then (bif Nat.blt y 98 then (bif Nat.blt y 95 then (bif Nat.blt y 94 then (yX6_isSail, cX6_isSail, 2, (some .boolean)) else (yX6_isWind, cX6_isWind, 2, (some .boolean))) else (bif Nat.blt y 96 then (yX6_sail, cX6_sail, 3, (some .int)) else (bif Nat.blt y 97 then (yX6_make, cX6_make, 6, (some .int)) else (yX6_mayBe, cX6_mayBe, 6, (some .boolean))))) else (bif Nat.blt y 101 then (bif Nat.blt y 99 then (yX6_of, cX6_of, 3, (some .int)) else (bif Nat.blt y 100 then (yX6_set, cX6_set, 4, (some .int)) else (yX6_hoist, cX6_hoist, 3, (some .int)))) else (bif Nat.blt y 102 then (yX6_ship, cX6_ship, 2, (some .int)) else (bif Nat.blt y 103 then (yX6_feed, cX6_feed, 4, (some .int)) else (yX6_next, cX6_next, 1, (some .int)))))) else (bif Nat.blt y 110 then (bif Nat.blt y 107 then (bif Nat.blt y 105 then (yX6_takesSign, cX6_takesSign, 2, (some .boolean)) else (bif Nat.blt y 106 then (yX6_takesWord, cX6_takesWord, 4, (some .boolean)) else (yX6_isDigit, cX6_isDigit, 1, (some .boolean)))) else (bif Nat.blt y 108 then (yX6_takesNumber, cX6_takesNumber, 2, (some .boolean)) else (bif Nat.blt y 109 then (yX6_put, cX6_put, 2, none) else (yX6_settleNots, cX6_settleNots, 1, none)))) else (bif Nat.blt y 113 then (bif Nat.blt y 111 then (yX6_settle, cX6_settle, 2, none) else (bif Nat.blt y 112 then (yX6_place, cX6_place, 2, (some .int)) else (yX6_takesTest, cX6_takesTest, 3, (some .boolean)))) else (bif Nat.blt y 114 then (yX6_takesE, cX6_takesE, 4, (some .boolean)) else (bif Nat.blt y 115 then (yX6_takesFigure, cX6_takesFigure, 2, (some .boolean)) else (yX6_takesHead, cX6_takesHead, 2, (some .boolean))))))) else (bif Nat.blt y 128 then (bif Nat.blt y 122 then (bif Nat.blt y 119 then (bif Nat.blt y 117 then (yX6_takesClause, cX6_takesClause, 2, (some .boolean)) else (bif Nat.blt y 118 then (yX6_goesText, cX6_goesText, 3, (some .boolean)) else (yX6_race, cX6_race, 2, (some .int)))) else (bif Nat.blt y 120 then (yX6_first, cX6_first, 1, (some .int)) else (bif Nat.blt y 121 then (yX6_behind, cX6_behind, 1, (some .int)) else (yX6_last, cX6_last, 5, (some .int))))) else (bif Nat.blt y 125 then (bif Nat.blt y 123 then (yX6_holds, cX6_holds, 10, (some .boolean)) else (bif Nat.blt y 124 then (yX6_sumOf, cX6_sumOf, 7, (some .int)) else (yX6_speed, cX6_speed, 5, (some .int)))) else (bif Nat.blt y 126 then (yX6_layFollows, cX6_layFollows, 5, none) else (bif Nat.blt y 127 then (yX6_follows, cX6_follows, 3, (some .int)) else (yX6_isRule, cX6_isRule, 2, (some .boolean)))))) else (bif Nat.blt y 134 then (bif Nat.blt y 131 then (bif Nat.blt y 129 then (yX6_rule, cX6_rule, 4, (some .int)) else (bif Nat.blt y 130 then (yX6_line, cX6_line, 5, (some .int)) else (yX6_told, cX6_told, 5, (some .int)))) else (bif Nat.blt y 132 then (yX6_may, cX6_may, 4, (some .boolean)) else (bif Nat.blt y 133 then (yX6_plain, cX6_plain, 3, (some .int)) else (yX6_fastest, cX6_fastest, 9, (some .int))))) else (bif Nat.blt y 137 then (bif Nat.blt y 135 then (yX6_dearest, cX6_dearest, 11, (some .int)) else (bif Nat.blt y 136 then (yX6_pickOf, cX6_pickOf, 7, (some .int)) else (yX6_asIs, cX6_asIs, 1, none))) else (bif Nat.blt y 138 then (yX6_picks, cX6_picks, 3, (some .int)) else (bif Nat.blt y 139 then (yX6_milesOf, cX6_milesOf, 5, (some .int)) else (yX6_go, cX6_go, 7, (some .int)))))))) else (bif Nat.blt y 163 then (bif Nat.blt y 151 then (bif Nat.blt y 145 then (bif Nat.blt y 142 then (bif Nat.blt y 141 then (yX6_enter, cX6_enter, 4, none) else (yX6_goAll, cX6_goAll, 11, none)) else (bif Nat.blt y 143 then (yX6_divisor, cX6_divisor, 11, (some .long)) else (bif Nat.blt y 144 then (yX6_lowest, cX6_lowest, 6, (some .long)) else (yX6_isHours, cX6_isHours, 2, (some .boolean))))) else (bif Nat.blt y 148 then (bif Nat.blt y 146 then (yX6_mean, cX6_mean, 4, (some .long)) else (bif Nat.blt y 147 then (yX6_sure, cX6_sure, 5, (some .long)) else (yX6_edge, cX6_edge, 6, (some .int)))) else (bif Nat.blt y 149 then (yX6_ones, cX6_ones, 4, (some .int)) else (bif Nat.blt y 150 then (yX6_few, cX6_few, 8, (some .int)) else (yX6_torn, cX6_torn, 7, (some .long)))))) else (bif Nat.blt y 157 then (bif Nat.blt y 154 then (bif Nat.blt y 152 then (yX6_sleep, cX6_sleep, 6, (some .long)) else (bif Nat.blt y 153 then (yX6_lines, cX6_lines, 10, (some .int)) else (yX6_squall, cX6_squall, 2, (some .int)))) else (bif Nat.blt y 155 then (yX6_made, cX6_made, 6, (some .int)) else (bif Nat.blt y 156 then (yX6_worst, cX6_worst, 3, (some .int)) else (yX6_judge, cX6_judge, 6, (some .int))))) else (bif Nat.blt y 160 then (bif Nat.blt y 158 then (yX6_image, cX6_image, 2, (some .int)) else (bif Nat.blt y 159 then (yX6_undo, cX6_undo, 3, (some .int)) else (yX6_body, cX6_body, 2, none))) else (bif Nat.blt y 161 then (yX6_plainPicks, cX6_plainPicks, 3, (some .int)) else (bif Nat.blt y 162 then (yX6_picksAct, cX6_picksAct, 3, (some .int)) else (yX6_plainReefs, cX6_plainReefs, 3, (some .int))))))) else (bif Nat.blt y 175 then (bif Nat.blt y 169 then (bif Nat.blt y 166 then (bif Nat.blt y 164 then (yX6_tableReefs, cX6_tableReefs, 3, (some .int)) else (bif Nat.blt y 165 then (yX6_reefsAct, cX6_reefsAct, 4, (some .int)) else (yX6_plainTells, cX6_plainTells, 3, (some .int)))) else (bif Nat.blt y 167 then (yX6_tellsAct, cX6_tellsAct, 4, (some .int)) else (bif Nat.blt y 168 then (yX6_act, cX6_act, 4, (some .int)) else (yX6_trace, cX6_trace, 2, (some .int))))) else (bif Nat.blt y 172 then (bif Nat.blt y 170 then (yX6_taken, cX6_taken, 4, (some .int)) else (bif Nat.blt y 171 then (yX6_count, cX6_count, 2, (some .int)) else (yX6_isTape, cX6_isTape, 2, (some .boolean)))) else (bif Nat.blt y 173 then (yX6_tape, cX6_tape, 5, (some .int)) else (bif Nat.blt y 174 then (yX6_narrow, cX6_narrow, 4, (some .long)) else (yX6_item, cX6_item, 5, (some .int)))))) else (bif Nat.blt y 181 then (bif Nat.blt y 178 then (bif Nat.blt y 176 then (yX6_read, cX6_read, 3, (some .long)) else (bif Nat.blt y 177 then (yX6_shift, cX6_shift, 7, (some .int)) else (yJ6_bitCount_0f7a4, cJ6_bitCount_0f7a4, 1, (some .int)))) else (bif Nat.blt y 179 then (yJ0_length_8abf5, cJ0_length_8abf5, 1, (some .int)) else (bif Nat.blt y 180 then (yJ0_charAt_5068e, cJ0_charAt_5068e, 2, (some .char)) else (yJ0_coder_7d493, cJ0_coder_7d493, 1, (some .byte))))) else (bif Nat.blt y 184 then (bif Nat.blt y 182 then (yJ0_isLatin1_aae02, cJ0_isLatin1_aae02, 1, (some .boolean)) else (bif Nat.blt y 183 then (yJ0_checkIndex_df160, cJ0_checkIndex_df160, 2, none) else (yJ1_charAt_3b067, cJ1_charAt_3b067, 2, (some .char)))) else (bif Nat.blt y 185 then (yJ7_fill_d0a16, cJ7_fill_d0a16, 5, none) else (bif Nat.blt y 186 then (yJ7_fill_53178, cJ7_fill_53178, 4, none) else (yJ3_checkIndex_8e157, cJ3_checkIndex_8e157, 3, (some .int))))))))))
theorem mo0 : ((mtN 0).1.cls ≠ "java/lang/invoke/MethodHandle" ∧ (mtN 0).1.cls ≠ "java/lang/invoke/VarHandle" ∧ (parseMethodDescriptor (mtN 0).1.desc).map (fun d => d.parameters.length) = some 0) ∧ (mtN 0).2.2.1 ≤ 45 ∧ plainName (mtN 0).1.cls = true := by decide +kernel
theorem mc0 : Cond.code (mtN 0).1 (mtN 0).2.1 (mtN 0).2.2.1 (mtN 0).2.2.2 ∈ aTs := (aIn1 104 rfl rfl)
theorem mi0 : Cond.initialized (mtN 0).1.cls ∈ aTs := (aIn1 4 rfl rfl)
theorem mo1 : ((mtN 1).1.cls ≠ "java/lang/invoke/MethodHandle" ∧ (mtN 1).1.cls ≠ "java/lang/invoke/VarHandle" ∧ (parseMethodDescriptor (mtN 1).1.desc).map (fun d => d.parameters.length) = some 0) ∧ (mtN 1).2.2.1 ≤ 45 ∧ plainName (mtN 1).1.cls = true := by decide +kernel
theorem mc1 : Cond.code (mtN 1).1 (mtN 1).2.1 (mtN 1).2.2.1 (mtN 1).2.2.2 ∈ aTs := (aIn2 72 rfl rfl)
theorem mi1 : Cond.initialized (mtN 1).1.cls ∈ aTs := (aIn1 4 rfl rfl)
theorem mo2 : ((mtN 2).1.cls ≠ "java/lang/invoke/MethodHandle" ∧ (mtN 2).1.cls ≠ "java/lang/invoke/VarHandle" ∧ (parseMethodDescriptor (mtN 2).1.desc).map (fun d => d.parameters.length) = some 1) ∧ (mtN 2).2.2.1 ≤ 45 ∧ plainName (mtN 2).1.cls = true := by decide +kernel
theorem mc2 : Cond.code (mtN 2).1 (mtN 2).2.1 (mtN 2).2.2.1 (mtN 2).2.2.2 ∈ aTs := (aIn2 170 rfl rfl)
theorem mi2 : Cond.initialized (mtN 2).1.cls ∈ aTs := (aIn1 4 rfl rfl)
theorem mo3 : ((mtN 3).1.cls ≠ "java/lang/invoke/MethodHandle" ∧ (mtN 3).1.cls ≠ "java/lang/invoke/VarHandle" ∧ (parseMethodDescriptor (mtN 3).1.desc).map (fun d => d.parameters.length) = some 3) ∧ (mtN 3).2.2.1 ≤ 45 ∧ plainName (mtN 3).1.cls = true := by decide +kernel
theorem mc3 : Cond.code (mtN 3).1 (mtN 3).2.1 (mtN 3).2.2.1 (mtN 3).2.2.2 ∈ aTs := (aIn2 181 rfl rfl)
theorem mi3 : Cond.initialized (mtN 3).1.cls ∈ aTs := (aIn1 4 rfl rfl)
theorem mo4 : ((mtN 4).1.cls ≠ "java/lang/invoke/MethodHandle" ∧ (mtN 4).1.cls ≠ "java/lang/invoke/VarHandle" ∧ (parseMethodDescriptor (mtN 4).1.desc).map (fun d => d.parameters.length) = some 0) ∧ (mtN 4).2.2.1 ≤ 45 ∧ plainName (mtN 4).1.cls = true := by decide +kernel
theorem mc4 : Cond.code (mtN 4).1 (mtN 4).2.1 (mtN 4).2.2.1 (mtN 4).2.2.2 ∈ aTs := (aIn1 109 rfl rfl)
theorem mi4 : Cond.initialized (mtN 4).1.cls ∈ aTs := (aIn1 4 rfl rfl)
theorem mo5 : ((mtN 5).1.cls ≠ "java/lang/invoke/MethodHandle" ∧ (mtN 5).1.cls ≠ "java/lang/invoke/VarHandle" ∧ (parseMethodDescriptor (mtN 5).1.desc).map (fun d => d.parameters.length) = some 2) ∧ (mtN 5).2.2.1 ≤ 45 ∧ plainName (mtN 5).1.cls = true := by decide +kernel
theorem mc5 : Cond.code (mtN 5).1 (mtN 5).2.1 (mtN 5).2.2.1 (mtN 5).2.2.2 ∈ aTs := (aIn1 113 rfl rfl)
theorem mi5 : Cond.initialized (mtN 5).1.cls ∈ aTs := (aIn1 4 rfl rfl)
theorem mo6 : ((mtN 6).1.cls ≠ "java/lang/invoke/MethodHandle" ∧ (mtN 6).1.cls ≠ "java/lang/invoke/VarHandle" ∧ (parseMethodDescriptor (mtN 6).1.desc).map (fun d => d.parameters.length) = some 5) ∧ (mtN 6).2.2.1 ≤ 45 ∧ plainName (mtN 6).1.cls = true := by decide +kernel
theorem mc6 : Cond.code (mtN 6).1 (mtN 6).2.1 (mtN 6).2.2.1 (mtN 6).2.2.2 ∈ aTs := (aIn2 200 rfl rfl)
theorem mi6 : Cond.initialized (mtN 6).1.cls ∈ aTs := (aIn1 4 rfl rfl)
theorem mo7 : ((mtN 7).1.cls ≠ "java/lang/invoke/MethodHandle" ∧ (mtN 7).1.cls ≠ "java/lang/invoke/VarHandle" ∧ (parseMethodDescriptor (mtN 7).1.desc).map (fun d => d.parameters.length) = some 0) ∧ (mtN 7).2.2.1 ≤ 45 ∧ plainName (mtN 7).1.cls = true := by decide +kernel
theorem mc7 : Cond.code (mtN 7).1 (mtN 7).2.1 (mtN 7).2.2.1 (mtN 7).2.2.2 ∈ aTs := (aIn1 80 rfl rfl)
theorem mi7 : Cond.initialized (mtN 7).1.cls ∈ aTs := (aIn1 3 rfl rfl)
theorem mo8 : ((mtN 8).1.cls ≠ "java/lang/invoke/MethodHandle" ∧ (mtN 8).1.cls ≠ "java/lang/invoke/VarHandle" ∧ (parseMethodDescriptor (mtN 8).1.desc).map (fun d => d.parameters.length) = some 1) ∧ (mtN 8).2.2.1 ≤ 45 ∧ plainName (mtN 8).1.cls = true := by decide +kernel
theorem mc8 : Cond.code (mtN 8).1 (mtN 8).2.1 (mtN 8).2.2.1 (mtN 8).2.2.2 ∈ aTs := (aIn2 60 rfl rfl)
theorem mi8 : Cond.initialized (mtN 8).1.cls ∈ aTs := (aIn1 3 rfl rfl)
theorem mo9 : ((mtN 9).1.cls ≠ "java/lang/invoke/MethodHandle" ∧ (mtN 9).1.cls ≠ "java/lang/invoke/VarHandle" ∧ (parseMethodDescriptor (mtN 9).1.desc).map (fun d => d.parameters.length) = some 1) ∧ (mtN 9).2.2.1 ≤ 45 ∧ plainName (mtN 9).1.cls = true := by decide +kernel
theorem mc9 : Cond.code (mtN 9).1 (mtN 9).2.1 (mtN 9).2.2.1 (mtN 9).2.2.2 ∈ aTs := (aIn2 68 rfl rfl)
theorem mi9 : Cond.initialized (mtN 9).1.cls ∈ aTs := (aIn1 3 rfl rfl)
theorem mo10 : ((mtN 10).1.cls ≠ "java/lang/invoke/MethodHandle" ∧ (mtN 10).1.cls ≠ "java/lang/invoke/VarHandle" ∧ (parseMethodDescriptor (mtN 10).1.desc).map (fun d => d.parameters.length) = some 0) ∧ (mtN 10).2.2.1 ≤ 45 ∧ plainName (mtN 10).1.cls = true := by decide +kernel
theorem mc10 : Cond.code (mtN 10).1 (mtN 10).2.1 (mtN 10).2.2.1 (mtN 10).2.2.2 ∈ aTs := (aIn2 76 rfl rfl)
theorem mi10 : Cond.initialized (mtN 10).1.cls ∈ aTs := (aIn1 3 rfl rfl)
theorem mo11 : ((mtN 11).1.cls ≠ "java/lang/invoke/MethodHandle" ∧ (mtN 11).1.cls ≠ "java/lang/invoke/VarHandle" ∧ (parseMethodDescriptor (mtN 11).1.desc).map (fun d => d.parameters.length) = some 0) ∧ (mtN 11).2.2.1 ≤ 45 ∧ plainName (mtN 11).1.cls = true := by decide +kernel
theorem mc11 : Cond.code (mtN 11).1 (mtN 11).2.1 (mtN 11).2.2.1 (mtN 11).2.2.2 ∈ aTs := (aIn2 80 rfl rfl)
theorem mi11 : Cond.initialized (mtN 11).1.cls ∈ aTs := (aIn1 3 rfl rfl)
theorem mo12 : ((mtN 12).1.cls ≠ "java/lang/invoke/MethodHandle" ∧ (mtN 12).1.cls ≠ "java/lang/invoke/VarHandle" ∧ (parseMethodDescriptor (mtN 12).1.desc).map (fun d => d.parameters.length) = some 1) ∧ (mtN 12).2.2.1 ≤ 45 ∧ plainName (mtN 12).1.cls = true := by decide +kernel
theorem mc12 : Cond.code (mtN 12).1 (mtN 12).2.1 (mtN 12).2.2.1 (mtN 12).2.2.2 ∈ aTs := (aIn2 87 rfl rfl)
theorem mi12 : Cond.initialized (mtN 12).1.cls ∈ aTs := (aIn1 3 rfl rfl)
theorem mo13 : ((mtN 13).1.cls ≠ "java/lang/invoke/MethodHandle" ∧ (mtN 13).1.cls ≠ "java/lang/invoke/VarHandle" ∧ (parseMethodDescriptor (mtN 13).1.desc).map (fun d => d.parameters.length) = some 1) ∧ (mtN 13).2.2.1 ≤ 45 ∧ plainName (mtN 13).1.cls = true := by decide +kernel
theorem mc13 : Cond.code (mtN 13).1 (mtN 13).2.1 (mtN 13).2.2.1 (mtN 13).2.2.2 ∈ aTs := (aIn2 162 rfl rfl)
theorem mi13 : Cond.initialized (mtN 13).1.cls ∈ aTs := (aIn1 3 rfl rfl)
theorem mo14 : ((mtN 14).1.cls ≠ "java/lang/invoke/MethodHandle" ∧ (mtN 14).1.cls ≠ "java/lang/invoke/VarHandle" ∧ (parseMethodDescriptor (mtN 14).1.desc).map (fun d => d.parameters.length) = some 1) ∧ (mtN 14).2.2.1 ≤ 45 ∧ plainName (mtN 14).1.cls = true := by decide +kernel
theorem mc14 : Cond.code (mtN 14).1 (mtN 14).2.1 (mtN 14).2.2.1 (mtN 14).2.2.2 ∈ aTs := (aIn2 166 rfl rfl)
theorem mi14 : Cond.initialized (mtN 14).1.cls ∈ aTs := (aIn1 3 rfl rfl)
theorem mo15 : ((mtN 15).1.cls ≠ "java/lang/invoke/MethodHandle" ∧ (mtN 15).1.cls ≠ "java/lang/invoke/VarHandle" ∧ (parseMethodDescriptor (mtN 15).1.desc).map (fun d => d.parameters.length) = some 0) ∧ (mtN 15).2.2.1 ≤ 45 ∧ plainName (mtN 15).1.cls = true := by decide +kernel
theorem mc15 : Cond.code (mtN 15).1 (mtN 15).2.1 (mtN 15).2.2.1 (mtN 15).2.2.2 ∈ aTs := (aIn2 174 rfl rfl)
theorem mi15 : Cond.initialized (mtN 15).1.cls ∈ aTs := (aIn1 3 rfl rfl)
theorem mo16 : ((mtN 16).1.cls ≠ "java/lang/invoke/MethodHandle" ∧ (mtN 16).1.cls ≠ "java/lang/invoke/VarHandle" ∧ (parseMethodDescriptor (mtN 16).1.desc).map (fun d => d.parameters.length) = some 0) ∧ (mtN 16).2.2.1 ≤ 45 ∧ plainName (mtN 16).1.cls = true := by decide +kernel
theorem mc16 : Cond.code (mtN 16).1 (mtN 16).2.1 (mtN 16).2.2.1 (mtN 16).2.2.2 ∈ aTs := (aIn2 84 rfl rfl)
theorem mi16 : Cond.initialized (mtN 16).1.cls ∈ aTs := (aIn1 3 rfl rfl)
theorem mo17 : ((mtN 17).1.cls ≠ "java/lang/invoke/MethodHandle" ∧ (mtN 17).1.cls ≠ "java/lang/invoke/VarHandle" ∧ (parseMethodDescriptor (mtN 17).1.desc).map (fun d => d.parameters.length) = some 1) ∧ (mtN 17).2.2.1 ≤ 45 ∧ plainName (mtN 17).1.cls = true := by decide +kernel
theorem mc17 : Cond.code (mtN 17).1 (mtN 17).2.1 (mtN 17).2.2.1 (mtN 17).2.2.2 ∈ aTs := (aIn2 147 rfl rfl)
theorem mi17 : Cond.initialized (mtN 17).1.cls ∈ aTs := (aIn1 3 rfl rfl)
theorem mo18 : ((mtN 18).1.cls ≠ "java/lang/invoke/MethodHandle" ∧ (mtN 18).1.cls ≠ "java/lang/invoke/VarHandle" ∧ (parseMethodDescriptor (mtN 18).1.desc).map (fun d => d.parameters.length) = some 1) ∧ (mtN 18).2.2.1 ≤ 45 ∧ plainName (mtN 18).1.cls = true := by decide +kernel
theorem mc18 : Cond.code (mtN 18).1 (mtN 18).2.1 (mtN 18).2.2.1 (mtN 18).2.2.2 ∈ aTs := (aIn2 95 rfl rfl)
theorem mi18 : Cond.initialized (mtN 18).1.cls ∈ aTs := (aIn1 3 rfl rfl)
theorem mo19 : ((mtN 19).1.cls ≠ "java/lang/invoke/MethodHandle" ∧ (mtN 19).1.cls ≠ "java/lang/invoke/VarHandle" ∧ (parseMethodDescriptor (mtN 19).1.desc).map (fun d => d.parameters.length) = some 5) ∧ (mtN 19).2.2.1 ≤ 45 ∧ plainName (mtN 19).1.cls = true := by decide +kernel
theorem mc19 : Cond.code (mtN 19).1 (mtN 19).2.1 (mtN 19).2.2.1 (mtN 19).2.2.2 ∈ aTs := (aIn2 177 rfl rfl)
theorem mi19 : Cond.initialized (mtN 19).1.cls ∈ aTs := (aIn1 3 rfl rfl)
theorem mo20 : ((mtN 20).1.cls ≠ "java/lang/invoke/MethodHandle" ∧ (mtN 20).1.cls ≠ "java/lang/invoke/VarHandle" ∧ (parseMethodDescriptor (mtN 20).1.desc).map (fun d => d.parameters.length) = some 0) ∧ (mtN 20).2.2.1 ≤ 45 ∧ plainName (mtN 20).1.cls = true := by decide +kernel
theorem mc20 : Cond.code (mtN 20).1 (mtN 20).2.1 (mtN 20).2.2.1 (mtN 20).2.2.2 ∈ aTs := (aIn2 151 rfl rfl)
theorem mi20 : Cond.initialized (mtN 20).1.cls ∈ aTs := (aIn1 3 rfl rfl)
theorem mo21 : ((mtN 21).1.cls ≠ "java/lang/invoke/MethodHandle" ∧ (mtN 21).1.cls ≠ "java/lang/invoke/VarHandle" ∧ (parseMethodDescriptor (mtN 21).1.desc).map (fun d => d.parameters.length) = some 0) ∧ (mtN 21).2.2.1 ≤ 45 ∧ plainName (mtN 21).1.cls = true := by decide +kernel
theorem mc21 : Cond.code (mtN 21).1 (mtN 21).2.1 (mtN 21).2.2.1 (mtN 21).2.2.2 ∈ aTs := (aIn2 158 rfl rfl)
theorem mi21 : Cond.initialized (mtN 21).1.cls ∈ aTs := (aIn1 3 rfl rfl)
theorem mo22 : ((mtN 22).1.cls ≠ "java/lang/invoke/MethodHandle" ∧ (mtN 22).1.cls ≠ "java/lang/invoke/VarHandle" ∧ (parseMethodDescriptor (mtN 22).1.desc).map (fun d => d.parameters.length) = some 3) ∧ (mtN 22).2.2.1 ≤ 45 ∧ plainName (mtN 22).1.cls = true := by decide +kernel
theorem mc22 : Cond.code (mtN 22).1 (mtN 22).2.1 (mtN 22).2.2.1 (mtN 22).2.2.2 ∈ aTs := (aIn1 152 rfl rfl)
theorem mi22 : Cond.initialized (mtN 22).1.cls ∈ aTs := (aIn1 6 rfl rfl)
theorem mo23 : ((mtN 23).1.cls ≠ "java/lang/invoke/MethodHandle" ∧ (mtN 23).1.cls ≠ "java/lang/invoke/VarHandle" ∧ (parseMethodDescriptor (mtN 23).1.desc).map (fun d => d.parameters.length) = some 0) ∧ (mtN 23).2.2.1 ≤ 45 ∧ plainName (mtN 23).1.cls = true := by decide +kernel
theorem mc23 : Cond.code (mtN 23).1 (mtN 23).2.1 (mtN 23).2.2.1 (mtN 23).2.2.2 ∈ aTs := (aIn1 28 rfl rfl)
theorem mi23 : Cond.initialized (mtN 23).1.cls ∈ aTs := (aIn1 2 rfl rfl)
theorem mo24 : ((mtN 24).1.cls ≠ "java/lang/invoke/MethodHandle" ∧ (mtN 24).1.cls ≠ "java/lang/invoke/VarHandle" ∧ (parseMethodDescriptor (mtN 24).1.desc).map (fun d => d.parameters.length) = some 1) ∧ (mtN 24).2.2.1 ≤ 45 ∧ plainName (mtN 24).1.cls = true := by decide +kernel
theorem mc24 : Cond.code (mtN 24).1 (mtN 24).2.1 (mtN 24).2.2.1 (mtN 24).2.2.2 ∈ aTs := (aIn3 34 rfl rfl)
theorem mi24 : Cond.initialized (mtN 24).1.cls ∈ aTs := (aIn1 2 rfl rfl)
theorem mo25 : ((mtN 25).1.cls ≠ "java/lang/invoke/MethodHandle" ∧ (mtN 25).1.cls ≠ "java/lang/invoke/VarHandle" ∧ (parseMethodDescriptor (mtN 25).1.desc).map (fun d => d.parameters.length) = some 0) ∧ (mtN 25).2.2.1 ≤ 45 ∧ plainName (mtN 25).1.cls = true := by decide +kernel
theorem mc25 : Cond.code (mtN 25).1 (mtN 25).2.1 (mtN 25).2.2.1 (mtN 25).2.2.2 ∈ aTs := (aIn1 183 rfl rfl)
theorem mi25 : Cond.initialized (mtN 25).1.cls ∈ aTs := (aIn1 8 rfl rfl)
theorem mo26 : ((mtN 26).1.cls ≠ "java/lang/invoke/MethodHandle" ∧ (mtN 26).1.cls ≠ "java/lang/invoke/VarHandle" ∧ (parseMethodDescriptor (mtN 26).1.desc).map (fun d => d.parameters.length) = some 2) ∧ (mtN 26).2.2.1 ≤ 45 ∧ plainName (mtN 26).1.cls = true := by decide +kernel
theorem mc26 : Cond.code (mtN 26).1 (mtN 26).2.1 (mtN 26).2.2.1 (mtN 26).2.2.2 ∈ aTs := (aIn3 159 rfl rfl)
theorem mi26 : Cond.initialized (mtN 26).1.cls ∈ aTs := (aIn1 8 rfl rfl)
theorem mo27 : ((mtN 27).1.cls ≠ "java/lang/invoke/MethodHandle" ∧ (mtN 27).1.cls ≠ "java/lang/invoke/VarHandle" ∧ (parseMethodDescriptor (mtN 27).1.desc).map (fun d => d.parameters.length) = some 1) ∧ (mtN 27).2.2.1 ≤ 45 ∧ plainName (mtN 27).1.cls = true := by decide +kernel
theorem mc27 : Cond.code (mtN 27).1 (mtN 27).2.1 (mtN 27).2.2.1 (mtN 27).2.2.2 ∈ aTs := (aIn3 170 rfl rfl)
theorem mi27 : Cond.initialized (mtN 27).1.cls ∈ aTs := (aIn1 8 rfl rfl)
theorem mo28 : ((mtN 28).1.cls ≠ "java/lang/invoke/MethodHandle" ∧ (mtN 28).1.cls ≠ "java/lang/invoke/VarHandle" ∧ (parseMethodDescriptor (mtN 28).1.desc).map (fun d => d.parameters.length) = some 2) ∧ (mtN 28).2.2.1 ≤ 45 ∧ plainName (mtN 28).1.cls = true := by decide +kernel
theorem mc28 : Cond.code (mtN 28).1 (mtN 28).2.1 (mtN 28).2.2.1 (mtN 28).2.2.2 ∈ aTs := (aIn3 182 rfl rfl)
theorem mi28 : Cond.initialized (mtN 28).1.cls ∈ aTs := (aIn1 8 rfl rfl)
theorem mo29 : ((mtN 29).1.cls ≠ "java/lang/invoke/MethodHandle" ∧ (mtN 29).1.cls ≠ "java/lang/invoke/VarHandle" ∧ (parseMethodDescriptor (mtN 29).1.desc).map (fun d => d.parameters.length) = some 0) ∧ (mtN 29).2.2.1 ≤ 45 ∧ plainName (mtN 29).1.cls = true := by decide +kernel
theorem mc29 : Cond.code (mtN 29).1 (mtN 29).2.1 (mtN 29).2.2.1 (mtN 29).2.2.2 ∈ aTs := (aIn1 20 rfl rfl)
theorem mi29 : Cond.initialized (mtN 29).1.cls ∈ aTs := (aIn1 1 rfl rfl)
theorem mo30 : ((mtN 30).1.cls ≠ "java/lang/invoke/MethodHandle" ∧ (mtN 30).1.cls ≠ "java/lang/invoke/VarHandle" ∧ (parseMethodDescriptor (mtN 30).1.desc).map (fun d => d.parameters.length) = some 2) ∧ (mtN 30).2.2.1 ≤ 45 ∧ plainName (mtN 30).1.cls = true := by decide +kernel
theorem mc30 : Cond.code (mtN 30).1 (mtN 30).2.1 (mtN 30).2.2.1 (mtN 30).2.2.2 ∈ aTs := (aIn2 21 rfl rfl)
theorem mi30 : Cond.initialized (mtN 30).1.cls ∈ aTs := (aIn1 1 rfl rfl)
theorem mo31 : ((mtN 31).1.cls ≠ "java/lang/invoke/MethodHandle" ∧ (mtN 31).1.cls ≠ "java/lang/invoke/VarHandle" ∧ (parseMethodDescriptor (mtN 31).1.desc).map (fun d => d.parameters.length) = some 3) ∧ (mtN 31).2.2.1 ≤ 45 ∧ plainName (mtN 31).1.cls = true := by decide +kernel
theorem mc31 : Cond.code (mtN 31).1 (mtN 31).2.1 (mtN 31).2.2.1 (mtN 31).2.2.2 ∈ aTs := (aIn2 25 rfl rfl)
theorem mi31 : Cond.initialized (mtN 31).1.cls ∈ aTs := (aIn1 1 rfl rfl)
theorem mo32 : ((mtN 32).1.cls ≠ "java/lang/invoke/MethodHandle" ∧ (mtN 32).1.cls ≠ "java/lang/invoke/VarHandle" ∧ (parseMethodDescriptor (mtN 32).1.desc).map (fun d => d.parameters.length) = some 2) ∧ (mtN 32).2.2.1 ≤ 45 ∧ plainName (mtN 32).1.cls = true := by decide +kernel
theorem mc32 : Cond.code (mtN 32).1 (mtN 32).2.1 (mtN 32).2.2.1 (mtN 32).2.2.2 ∈ aTs := (aIn2 33 rfl rfl)
theorem mi32 : Cond.initialized (mtN 32).1.cls ∈ aTs := (aIn1 1 rfl rfl)
theorem mo33 : ((mtN 33).1.cls ≠ "java/lang/invoke/MethodHandle" ∧ (mtN 33).1.cls ≠ "java/lang/invoke/VarHandle" ∧ (parseMethodDescriptor (mtN 33).1.desc).map (fun d => d.parameters.length) = some 2) ∧ (mtN 33).2.2.1 ≤ 45 ∧ plainName (mtN 33).1.cls = true := by decide +kernel
theorem mc33 : Cond.code (mtN 33).1 (mtN 33).2.1 (mtN 33).2.2.1 (mtN 33).2.2.2 ∈ aTs := (aIn2 41 rfl rfl)
theorem mi33 : Cond.initialized (mtN 33).1.cls ∈ aTs := (aIn1 1 rfl rfl)
theorem mo34 : ((mtN 34).1.cls ≠ "java/lang/invoke/MethodHandle" ∧ (mtN 34).1.cls ≠ "java/lang/invoke/VarHandle" ∧ (parseMethodDescriptor (mtN 34).1.desc).map (fun d => d.parameters.length) = some 1) ∧ (mtN 34).2.2.1 ≤ 45 ∧ plainName (mtN 34).1.cls = true := by decide +kernel
theorem mc34 : Cond.code (mtN 34).1 (mtN 34).2.1 (mtN 34).2.2.1 (mtN 34).2.2.2 ∈ aTs := (aIn2 45 rfl rfl)
theorem mi34 : Cond.initialized (mtN 34).1.cls ∈ aTs := (aIn1 1 rfl rfl)
theorem mo35 : ((mtN 35).1.cls ≠ "java/lang/invoke/MethodHandle" ∧ (mtN 35).1.cls ≠ "java/lang/invoke/VarHandle" ∧ (parseMethodDescriptor (mtN 35).1.desc).map (fun d => d.parameters.length) = some 1) ∧ (mtN 35).2.2.1 ≤ 45 ∧ plainName (mtN 35).1.cls = true := by decide +kernel
theorem mc35 : Cond.code (mtN 35).1 (mtN 35).2.1 (mtN 35).2.2.1 (mtN 35).2.2.2 ∈ aTs := (aIn2 52 rfl rfl)
theorem mi35 : Cond.initialized (mtN 35).1.cls ∈ aTs := (aIn1 1 rfl rfl)
theorem mo36 : ((mtN 36).1.cls ≠ "java/lang/invoke/MethodHandle" ∧ (mtN 36).1.cls ≠ "java/lang/invoke/VarHandle" ∧ (parseMethodDescriptor (mtN 36).1.desc).map (fun d => d.parameters.length) = some 2) ∧ (mtN 36).2.2.1 ≤ 45 ∧ plainName (mtN 36).1.cls = true := by decide +kernel
theorem mc36 : Cond.code (mtN 36).1 (mtN 36).2.1 (mtN 36).2.2.1 (mtN 36).2.2.2 ∈ aTs := (aIn2 56 rfl rfl)
theorem mi36 : Cond.initialized (mtN 36).1.cls ∈ aTs := (aIn1 1 rfl rfl)
theorem mo37 : ((mtN 37).1.cls ≠ "java/lang/invoke/MethodHandle" ∧ (mtN 37).1.cls ≠ "java/lang/invoke/VarHandle" ∧ (parseMethodDescriptor (mtN 37).1.desc).map (fun d => d.parameters.length) = some 0) ∧ (mtN 37).2.2.1 ≤ 45 ∧ plainName (mtN 37).1.cls = true := by decide +kernel
theorem mc37 : Cond.code (mtN 37).1 (mtN 37).2.1 (mtN 37).2.2.1 (mtN 37).2.2.2 ∈ aTs := (aIn2 64 rfl rfl)
theorem mi37 : Cond.initialized (mtN 37).1.cls ∈ aTs := (aIn1 1 rfl rfl)
theorem mo38 : ((mtN 38).1.cls ≠ "java/lang/invoke/MethodHandle" ∧ (mtN 38).1.cls ≠ "java/lang/invoke/VarHandle" ∧ (parseMethodDescriptor (mtN 38).1.desc).map (fun d => d.parameters.length) = some 4) ∧ (mtN 38).2.2.1 ≤ 45 ∧ plainName (mtN 38).1.cls = true := by decide +kernel
theorem mc38 : Cond.code (mtN 38).1 (mtN 38).2.1 (mtN 38).2.2.1 (mtN 38).2.2.2 ∈ aTs := (aIn2 187 rfl rfl)
theorem mi38 : Cond.initialized (mtN 38).1.cls ∈ aTs := (aIn1 1 rfl rfl)
theorem mo39 : ((mtN 39).1.cls ≠ "java/lang/invoke/MethodHandle" ∧ (mtN 39).1.cls ≠ "java/lang/invoke/VarHandle" ∧ (parseMethodDescriptor (mtN 39).1.desc).map (fun d => d.parameters.length) = some 2) ∧ (mtN 39).2.2.1 ≤ 45 ∧ plainName (mtN 39).1.cls = true := by decide +kernel
theorem mc39 : Cond.code (mtN 39).1 (mtN 39).2.1 (mtN 39).2.2.1 (mtN 39).2.2.2 ∈ aTs := (aIn2 205 rfl rfl)
theorem mi39 : Cond.initialized (mtN 39).1.cls ∈ aTs := (aIn1 1 rfl rfl)
theorem mo40 : ((mtN 40).1.cls ≠ "java/lang/invoke/MethodHandle" ∧ (mtN 40).1.cls ≠ "java/lang/invoke/VarHandle" ∧ (parseMethodDescriptor (mtN 40).1.desc).map (fun d => d.parameters.length) = some 2) ∧ (mtN 40).2.2.1 ≤ 45 ∧ plainName (mtN 40).1.cls = true := by decide +kernel
theorem mc40 : Cond.code (mtN 40).1 (mtN 40).2.1 (mtN 40).2.2.1 (mtN 40).2.2.2 ∈ aTs := (aIn2 209 rfl rfl)
theorem mi40 : Cond.initialized (mtN 40).1.cls ∈ aTs := (aIn1 1 rfl rfl)
theorem mo41 : ((mtN 41).1.cls ≠ "java/lang/invoke/MethodHandle" ∧ (mtN 41).1.cls ≠ "java/lang/invoke/VarHandle" ∧ (parseMethodDescriptor (mtN 41).1.desc).map (fun d => d.parameters.length) = some 3) ∧ (mtN 41).2.2.1 ≤ 45 ∧ plainName (mtN 41).1.cls = true := by decide +kernel
theorem mc41 : Cond.code (mtN 41).1 (mtN 41).2.1 (mtN 41).2.2.1 (mtN 41).2.2.2 ∈ aTs := (aIn2 213 rfl rfl)
theorem mi41 : Cond.initialized (mtN 41).1.cls ∈ aTs := (aIn1 1 rfl rfl)
theorem mo42 : ((mtN 42).1.cls ≠ "java/lang/invoke/MethodHandle" ∧ (mtN 42).1.cls ≠ "java/lang/invoke/VarHandle" ∧ (parseMethodDescriptor (mtN 42).1.desc).map (fun d => d.parameters.length) = some 3) ∧ (mtN 42).2.2.1 ≤ 45 ∧ plainName (mtN 42).1.cls = true := by decide +kernel
theorem mc42 : Cond.code (mtN 42).1 (mtN 42).2.1 (mtN 42).2.2.1 (mtN 42).2.2.2 ∈ aTs := (aIn2 224 rfl rfl)
theorem mi42 : Cond.initialized (mtN 42).1.cls ∈ aTs := (aIn1 1 rfl rfl)
theorem mo43 : ((mtN 43).1.cls ≠ "java/lang/invoke/MethodHandle" ∧ (mtN 43).1.cls ≠ "java/lang/invoke/VarHandle" ∧ (parseMethodDescriptor (mtN 43).1.desc).map (fun d => d.parameters.length) = some 1) ∧ (mtN 43).2.2.1 ≤ 45 ∧ plainName (mtN 43).1.cls = true := by decide +kernel
theorem mc43 : Cond.code (mtN 43).1 (mtN 43).2.1 (mtN 43).2.2.1 (mtN 43).2.2.2 ∈ aTs := (aIn2 228 rfl rfl)
theorem mi43 : Cond.initialized (mtN 43).1.cls ∈ aTs := (aIn1 1 rfl rfl)
theorem mo44 : ((mtN 44).1.cls ≠ "java/lang/invoke/MethodHandle" ∧ (mtN 44).1.cls ≠ "java/lang/invoke/VarHandle" ∧ (parseMethodDescriptor (mtN 44).1.desc).map (fun d => d.parameters.length) = some 3) ∧ (mtN 44).2.2.1 ≤ 45 ∧ plainName (mtN 44).1.cls = true := by decide +kernel
theorem mc44 : Cond.code (mtN 44).1 (mtN 44).2.1 (mtN 44).2.2.1 (mtN 44).2.2.2 ∈ aTs := (aIn3 15 rfl rfl)
theorem mi44 : Cond.initialized (mtN 44).1.cls ∈ aTs := (aIn1 1 rfl rfl)
theorem mo45 : ((mtN 45).1.cls ≠ "java/lang/invoke/MethodHandle" ∧ (mtN 45).1.cls ≠ "java/lang/invoke/VarHandle" ∧ (parseMethodDescriptor (mtN 45).1.desc).map (fun d => d.parameters.length) = some 3) ∧ (mtN 45).2.2.1 ≤ 45 ∧ plainName (mtN 45).1.cls = true := by decide +kernel
theorem mc45 : Cond.code (mtN 45).1 (mtN 45).2.1 (mtN 45).2.2.1 (mtN 45).2.2.2 ∈ aTs := (aIn3 23 rfl rfl)
theorem mi45 : Cond.initialized (mtN 45).1.cls ∈ aTs := (aIn1 1 rfl rfl)
theorem mo46 : ((mtN 46).1.cls ≠ "java/lang/invoke/MethodHandle" ∧ (mtN 46).1.cls ≠ "java/lang/invoke/VarHandle" ∧ (parseMethodDescriptor (mtN 46).1.desc).map (fun d => d.parameters.length) = some 4) ∧ (mtN 46).2.2.1 ≤ 45 ∧ plainName (mtN 46).1.cls = true := by decide +kernel
theorem mc46 : Cond.code (mtN 46).1 (mtN 46).2.1 (mtN 46).2.2.1 (mtN 46).2.2.2 ∈ aTs := (aIn3 57 rfl rfl)
theorem mi46 : Cond.initialized (mtN 46).1.cls ∈ aTs := (aIn1 1 rfl rfl)
theorem mo47 : ((mtN 47).1.cls ≠ "java/lang/invoke/MethodHandle" ∧ (mtN 47).1.cls ≠ "java/lang/invoke/VarHandle" ∧ (parseMethodDescriptor (mtN 47).1.desc).map (fun d => d.parameters.length) = some 1) ∧ (mtN 47).2.2.1 ≤ 45 ∧ plainName (mtN 47).1.cls = true := by decide +kernel
theorem mc47 : Cond.code (mtN 47).1 (mtN 47).2.1 (mtN 47).2.2.1 (mtN 47).2.2.2 ∈ aTs := (aIn3 61 rfl rfl)
theorem mi47 : Cond.initialized (mtN 47).1.cls ∈ aTs := (aIn1 1 rfl rfl)
theorem mo48 : ((mtN 48).1.cls ≠ "java/lang/invoke/MethodHandle" ∧ (mtN 48).1.cls ≠ "java/lang/invoke/VarHandle" ∧ (parseMethodDescriptor (mtN 48).1.desc).map (fun d => d.parameters.length) = some 3) ∧ (mtN 48).2.2.1 ≤ 45 ∧ plainName (mtN 48).1.cls = true := by decide +kernel
theorem mc48 : Cond.code (mtN 48).1 (mtN 48).2.1 (mtN 48).2.2.1 (mtN 48).2.2.2 ∈ aTs := (aIn3 65 rfl rfl)
theorem mi48 : Cond.initialized (mtN 48).1.cls ∈ aTs := (aIn1 1 rfl rfl)
theorem mo49 : ((mtN 49).1.cls ≠ "java/lang/invoke/MethodHandle" ∧ (mtN 49).1.cls ≠ "java/lang/invoke/VarHandle" ∧ (parseMethodDescriptor (mtN 49).1.desc).map (fun d => d.parameters.length) = some 4) ∧ (mtN 49).2.2.1 ≤ 45 ∧ plainName (mtN 49).1.cls = true := by decide +kernel
theorem mc49 : Cond.code (mtN 49).1 (mtN 49).2.1 (mtN 49).2.2.1 (mtN 49).2.2.2 ∈ aTs := (aIn3 79 rfl rfl)
theorem mi49 : Cond.initialized (mtN 49).1.cls ∈ aTs := (aIn1 1 rfl rfl)
theorem mo50 : ((mtN 50).1.cls ≠ "java/lang/invoke/MethodHandle" ∧ (mtN 50).1.cls ≠ "java/lang/invoke/VarHandle" ∧ (parseMethodDescriptor (mtN 50).1.desc).map (fun d => d.parameters.length) = some 3) ∧ (mtN 50).2.2.1 ≤ 45 ∧ plainName (mtN 50).1.cls = true := by decide +kernel
theorem mc50 : Cond.code (mtN 50).1 (mtN 50).2.1 (mtN 50).2.2.1 (mtN 50).2.2.2 ∈ aTs := (aIn3 83 rfl rfl)
theorem mi50 : Cond.initialized (mtN 50).1.cls ∈ aTs := (aIn1 1 rfl rfl)
theorem mo51 : ((mtN 51).1.cls ≠ "java/lang/invoke/MethodHandle" ∧ (mtN 51).1.cls ≠ "java/lang/invoke/VarHandle" ∧ (parseMethodDescriptor (mtN 51).1.desc).map (fun d => d.parameters.length) = some 2) ∧ (mtN 51).2.2.1 ≤ 45 ∧ plainName (mtN 51).1.cls = true := by decide +kernel
theorem mc51 : Cond.code (mtN 51).1 (mtN 51).2.1 (mtN 51).2.2.1 (mtN 51).2.2.2 ∈ aTs := (aIn3 90 rfl rfl)
theorem mi51 : Cond.initialized (mtN 51).1.cls ∈ aTs := (aIn1 1 rfl rfl)
theorem mo52 : ((mtN 52).1.cls ≠ "java/lang/invoke/MethodHandle" ∧ (mtN 52).1.cls ≠ "java/lang/invoke/VarHandle" ∧ (parseMethodDescriptor (mtN 52).1.desc).map (fun d => d.parameters.length) = some 1) ∧ (mtN 52).2.2.1 ≤ 45 ∧ plainName (mtN 52).1.cls = true := by decide +kernel
theorem mc52 : Cond.code (mtN 52).1 (mtN 52).2.1 (mtN 52).2.2.1 (mtN 52).2.2.2 ∈ aTs := (aIn3 102 rfl rfl)
theorem mi52 : Cond.initialized (mtN 52).1.cls ∈ aTs := (aIn1 1 rfl rfl)
theorem mo53 : ((mtN 53).1.cls ≠ "java/lang/invoke/MethodHandle" ∧ (mtN 53).1.cls ≠ "java/lang/invoke/VarHandle" ∧ (parseMethodDescriptor (mtN 53).1.desc).map (fun d => d.parameters.length) = some 1) ∧ (mtN 53).2.2.1 ≤ 45 ∧ plainName (mtN 53).1.cls = true := by decide +kernel
theorem mc53 : Cond.code (mtN 53).1 (mtN 53).2.1 (mtN 53).2.2.1 (mtN 53).2.2.2 ∈ aTs := (aIn3 106 rfl rfl)
theorem mi53 : Cond.initialized (mtN 53).1.cls ∈ aTs := (aIn1 1 rfl rfl)
theorem mo54 : ((mtN 54).1.cls ≠ "java/lang/invoke/MethodHandle" ∧ (mtN 54).1.cls ≠ "java/lang/invoke/VarHandle" ∧ (parseMethodDescriptor (mtN 54).1.desc).map (fun d => d.parameters.length) = some 2) ∧ (mtN 54).2.2.1 ≤ 45 ∧ plainName (mtN 54).1.cls = true := by decide +kernel
theorem mc54 : Cond.code (mtN 54).1 (mtN 54).2.1 (mtN 54).2.2.1 (mtN 54).2.2.2 ∈ aTs := (aIn3 110 rfl rfl)
theorem mi54 : Cond.initialized (mtN 54).1.cls ∈ aTs := (aIn1 1 rfl rfl)
theorem mo55 : ((mtN 55).1.cls ≠ "java/lang/invoke/MethodHandle" ∧ (mtN 55).1.cls ≠ "java/lang/invoke/VarHandle" ∧ (parseMethodDescriptor (mtN 55).1.desc).map (fun d => d.parameters.length) = some 2) ∧ (mtN 55).2.2.1 ≤ 45 ∧ plainName (mtN 55).1.cls = true := by decide +kernel
theorem mc55 : Cond.code (mtN 55).1 (mtN 55).2.1 (mtN 55).2.2.1 (mtN 55).2.2.2 ∈ aTs := (aIn3 114 rfl rfl)
theorem mi55 : Cond.initialized (mtN 55).1.cls ∈ aTs := (aIn1 1 rfl rfl)
theorem mo56 : ((mtN 56).1.cls ≠ "java/lang/invoke/MethodHandle" ∧ (mtN 56).1.cls ≠ "java/lang/invoke/VarHandle" ∧ (parseMethodDescriptor (mtN 56).1.desc).map (fun d => d.parameters.length) = some 0) ∧ (mtN 56).2.2.1 ≤ 45 ∧ plainName (mtN 56).1.cls = true := by decide +kernel
theorem mc56 : Cond.code (mtN 56).1 (mtN 56).2.1 (mtN 56).2.2.1 (mtN 56).2.2.2 ∈ aTs := (aIn3 123 rfl rfl)
theorem mi56 : Cond.initialized (mtN 56).1.cls ∈ aTs := (aIn1 1 rfl rfl)
theorem mo57 : ((mtN 57).1.cls ≠ "java/lang/invoke/MethodHandle" ∧ (mtN 57).1.cls ≠ "java/lang/invoke/VarHandle" ∧ (parseMethodDescriptor (mtN 57).1.desc).map (fun d => d.parameters.length) = some 0) ∧ (mtN 57).2.2.1 ≤ 45 ∧ plainName (mtN 57).1.cls = true := by decide +kernel
theorem mc57 : Cond.code (mtN 57).1 (mtN 57).2.1 (mtN 57).2.2.1 (mtN 57).2.2.2 ∈ aTs := (aIn3 127 rfl rfl)
theorem mi57 : Cond.initialized (mtN 57).1.cls ∈ aTs := (aIn1 1 rfl rfl)
theorem mo58 : ((mtN 58).1.cls ≠ "java/lang/invoke/MethodHandle" ∧ (mtN 58).1.cls ≠ "java/lang/invoke/VarHandle" ∧ (parseMethodDescriptor (mtN 58).1.desc).map (fun d => d.parameters.length) = some 3) ∧ (mtN 58).2.2.1 ≤ 45 ∧ plainName (mtN 58).1.cls = true := by decide +kernel
theorem mc58 : Cond.code (mtN 58).1 (mtN 58).2.1 (mtN 58).2.2.1 (mtN 58).2.2.2 ∈ aTs := (aIn3 131 rfl rfl)
theorem mi58 : Cond.initialized (mtN 58).1.cls ∈ aTs := (aIn1 1 rfl rfl)
theorem mo59 : ((mtN 59).1.cls ≠ "java/lang/invoke/MethodHandle" ∧ (mtN 59).1.cls ≠ "java/lang/invoke/VarHandle" ∧ (parseMethodDescriptor (mtN 59).1.desc).map (fun d => d.parameters.length) = some 1) ∧ (mtN 59).2.2.1 ≤ 45 ∧ plainName (mtN 59).1.cls = true := by decide +kernel
theorem mc59 : Cond.code (mtN 59).1 (mtN 59).2.1 (mtN 59).2.2.1 (mtN 59).2.2.2 ∈ aTs := (aIn3 143 rfl rfl)
theorem mi59 : Cond.initialized (mtN 59).1.cls ∈ aTs := (aIn1 1 rfl rfl)
theorem mo60 : ((mtN 60).1.cls ≠ "java/lang/invoke/MethodHandle" ∧ (mtN 60).1.cls ≠ "java/lang/invoke/VarHandle" ∧ (parseMethodDescriptor (mtN 60).1.desc).map (fun d => d.parameters.length) = some 2) ∧ (mtN 60).2.2.1 ≤ 45 ∧ plainName (mtN 60).1.cls = true := by decide +kernel
theorem mc60 : Cond.code (mtN 60).1 (mtN 60).2.1 (mtN 60).2.2.1 (mtN 60).2.2.2 ∈ aTs := (aIn3 147 rfl rfl)
theorem mi60 : Cond.initialized (mtN 60).1.cls ∈ aTs := (aIn1 1 rfl rfl)
theorem mo61 : ((mtN 61).1.cls ≠ "java/lang/invoke/MethodHandle" ∧ (mtN 61).1.cls ≠ "java/lang/invoke/VarHandle" ∧ (parseMethodDescriptor (mtN 61).1.desc).map (fun d => d.parameters.length) = some 1) ∧ (mtN 61).2.2.1 ≤ 45 ∧ plainName (mtN 61).1.cls = true := by decide +kernel
theorem mc61 : Cond.code (mtN 61).1 (mtN 61).2.1 (mtN 61).2.2.1 (mtN 61).2.2.2 ∈ aTs := (aIn3 151 rfl rfl)
theorem mi61 : Cond.initialized (mtN 61).1.cls ∈ aTs := (aIn1 1 rfl rfl)
theorem mo62 : ((mtN 62).1.cls ≠ "java/lang/invoke/MethodHandle" ∧ (mtN 62).1.cls ≠ "java/lang/invoke/VarHandle" ∧ (parseMethodDescriptor (mtN 62).1.desc).map (fun d => d.parameters.length) = some 3) ∧ (mtN 62).2.2.1 ≤ 45 ∧ plainName (mtN 62).1.cls = true := by decide +kernel
theorem mc62 : Cond.code (mtN 62).1 (mtN 62).2.1 (mtN 62).2.2.1 (mtN 62).2.2.2 ∈ aTs := (aIn3 155 rfl rfl)
theorem mi62 : Cond.initialized (mtN 62).1.cls ∈ aTs := (aIn1 1 rfl rfl)
theorem mo63 : ((mtN 63).1.cls ≠ "java/lang/invoke/MethodHandle" ∧ (mtN 63).1.cls ≠ "java/lang/invoke/VarHandle" ∧ (parseMethodDescriptor (mtN 63).1.desc).map (fun d => d.parameters.length) = some 3) ∧ (mtN 63).2.2.1 ≤ 45 ∧ plainName (mtN 63).1.cls = true := by decide +kernel
theorem mc63 : Cond.code (mtN 63).1 (mtN 63).2.1 (mtN 63).2.2.1 (mtN 63).2.2.2 ∈ aTs := (aIn3 166 rfl rfl)
theorem mi63 : Cond.initialized (mtN 63).1.cls ∈ aTs := (aIn1 1 rfl rfl)
theorem mo64 : ((mtN 64).1.cls ≠ "java/lang/invoke/MethodHandle" ∧ (mtN 64).1.cls ≠ "java/lang/invoke/VarHandle" ∧ (parseMethodDescriptor (mtN 64).1.desc).map (fun d => d.parameters.length) = some 2) ∧ (mtN 64).2.2.1 ≤ 45 ∧ plainName (mtN 64).1.cls = true := by decide +kernel
theorem mc64 : Cond.code (mtN 64).1 (mtN 64).2.1 (mtN 64).2.2.1 (mtN 64).2.2.2 ∈ aTs := (aIn3 174 rfl rfl)
theorem mi64 : Cond.initialized (mtN 64).1.cls ∈ aTs := (aIn1 1 rfl rfl)
theorem mo65 : ((mtN 65).1.cls ≠ "java/lang/invoke/MethodHandle" ∧ (mtN 65).1.cls ≠ "java/lang/invoke/VarHandle" ∧ (parseMethodDescriptor (mtN 65).1.desc).map (fun d => d.parameters.length) = some 5) ∧ (mtN 65).2.2.1 ≤ 45 ∧ plainName (mtN 65).1.cls = true := by decide +kernel
theorem mc65 : Cond.code (mtN 65).1 (mtN 65).2.1 (mtN 65).2.2.1 (mtN 65).2.2.2 ∈ aTs := (aIn3 178 rfl rfl)
theorem mi65 : Cond.initialized (mtN 65).1.cls ∈ aTs := (aIn1 1 rfl rfl)
theorem mo66 : ((mtN 66).1.cls ≠ "java/lang/invoke/MethodHandle" ∧ (mtN 66).1.cls ≠ "java/lang/invoke/VarHandle" ∧ (parseMethodDescriptor (mtN 66).1.desc).map (fun d => d.parameters.length) = some 1) ∧ (mtN 66).2.2.1 ≤ 45 ∧ plainName (mtN 66).1.cls = true := by decide +kernel
theorem mc66 : Cond.code (mtN 66).1 (mtN 66).2.1 (mtN 66).2.2.1 (mtN 66).2.2.2 ∈ aTs := (aIn2 29 rfl rfl)
theorem mi66 : Cond.initialized (mtN 66).1.cls ∈ aTs := (aIn1 1 rfl rfl)
theorem mo67 : ((mtN 67).1.cls ≠ "java/lang/invoke/MethodHandle" ∧ (mtN 67).1.cls ≠ "java/lang/invoke/VarHandle" ∧ (parseMethodDescriptor (mtN 67).1.desc).map (fun d => d.parameters.length) = some 1) ∧ (mtN 67).2.2.1 ≤ 45 ∧ plainName (mtN 67).1.cls = true := by decide +kernel
theorem mc67 : Cond.code (mtN 67).1 (mtN 67).2.1 (mtN 67).2.2.1 (mtN 67).2.2.2 ∈ aTs := (aIn2 154 rfl rfl)
theorem mi67 : Cond.initialized (mtN 67).1.cls ∈ aTs := (aIn1 1 rfl rfl)
theorem mo68 : ((mtN 68).1.cls ≠ "java/lang/invoke/MethodHandle" ∧ (mtN 68).1.cls ≠ "java/lang/invoke/VarHandle" ∧ (parseMethodDescriptor (mtN 68).1.desc).map (fun d => d.parameters.length) = some 1) ∧ (mtN 68).2.2.1 ≤ 45 ∧ plainName (mtN 68).1.cls = true := by decide +kernel
theorem mc68 : Cond.code (mtN 68).1 (mtN 68).2.1 (mtN 68).2.2.1 (mtN 68).2.2.2 ∈ aTs := (aIn2 220 rfl rfl)
theorem mi68 : Cond.initialized (mtN 68).1.cls ∈ aTs := (aIn1 1 rfl rfl)
theorem mo69 : ((mtN 69).1.cls ≠ "java/lang/invoke/MethodHandle" ∧ (mtN 69).1.cls ≠ "java/lang/invoke/VarHandle" ∧ (parseMethodDescriptor (mtN 69).1.desc).map (fun d => d.parameters.length) = some 1) ∧ (mtN 69).2.2.1 ≤ 45 ∧ plainName (mtN 69).1.cls = true := by decide +kernel
theorem mc69 : Cond.code (mtN 69).1 (mtN 69).2.1 (mtN 69).2.2.1 (mtN 69).2.2.2 ∈ aTs := (aIn3 26 rfl rfl)
theorem mi69 : Cond.initialized (mtN 69).1.cls ∈ aTs := (aIn1 1 rfl rfl)
theorem mo70 : ((mtN 70).1.cls ≠ "java/lang/invoke/MethodHandle" ∧ (mtN 70).1.cls ≠ "java/lang/invoke/VarHandle" ∧ (parseMethodDescriptor (mtN 70).1.desc).map (fun d => d.parameters.length) = some 1) ∧ (mtN 70).2.2.1 ≤ 45 ∧ plainName (mtN 70).1.cls = true := by decide +kernel
theorem mc70 : Cond.code (mtN 70).1 (mtN 70).2.1 (mtN 70).2.2.1 (mtN 70).2.2.2 ∈ aTs := (aIn3 29 rfl rfl)
theorem mi70 : Cond.initialized (mtN 70).1.cls ∈ aTs := (aIn1 1 rfl rfl)
theorem mo71 : ((mtN 71).1.cls ≠ "java/lang/invoke/MethodHandle" ∧ (mtN 71).1.cls ≠ "java/lang/invoke/VarHandle" ∧ (parseMethodDescriptor (mtN 71).1.desc).map (fun d => d.parameters.length) = some 1) ∧ (mtN 71).2.2.1 ≤ 45 ∧ plainName (mtN 71).1.cls = true := by decide +kernel
theorem mc71 : Cond.code (mtN 71).1 (mtN 71).2.1 (mtN 71).2.2.1 (mtN 71).2.2.2 ∈ aTs := (aIn2 48 rfl rfl)
theorem mi71 : Cond.initialized (mtN 71).1.cls ∈ aTs := (aIn1 1 rfl rfl)
theorem mo72 : ((mtN 72).1.cls ≠ "java/lang/invoke/MethodHandle" ∧ (mtN 72).1.cls ≠ "java/lang/invoke/VarHandle" ∧ (parseMethodDescriptor (mtN 72).1.desc).map (fun d => d.parameters.length) = some 1) ∧ (mtN 72).2.2.1 ≤ 45 ∧ plainName (mtN 72).1.cls = true := by decide +kernel
theorem mc72 : Cond.code (mtN 72).1 (mtN 72).2.1 (mtN 72).2.2.1 (mtN 72).2.2.2 ∈ aTs := (aIn2 217 rfl rfl)
theorem mi72 : Cond.initialized (mtN 72).1.cls ∈ aTs := (aIn1 1 rfl rfl)
theorem mo73 : ((mtN 73).1.cls ≠ "java/lang/invoke/MethodHandle" ∧ (mtN 73).1.cls ≠ "java/lang/invoke/VarHandle" ∧ (parseMethodDescriptor (mtN 73).1.desc).map (fun d => d.parameters.length) = some 1) ∧ (mtN 73).2.2.1 ≤ 45 ∧ plainName (mtN 73).1.cls = true := by decide +kernel
theorem mc73 : Cond.code (mtN 73).1 (mtN 73).2.1 (mtN 73).2.2.1 (mtN 73).2.2.2 ∈ aTs := (aIn3 118 rfl rfl)
theorem mi73 : Cond.initialized (mtN 73).1.cls ∈ aTs := (aIn1 1 rfl rfl)
theorem mo74 : ((mtN 74).1.cls ≠ "java/lang/invoke/MethodHandle" ∧ (mtN 74).1.cls ≠ "java/lang/invoke/VarHandle" ∧ (parseMethodDescriptor (mtN 74).1.desc).map (fun d => d.parameters.length) = some 0) ∧ (mtN 74).2.2.1 ≤ 45 ∧ plainName (mtN 74).1.cls = true := by decide +kernel
theorem mc74 : Cond.code (mtN 74).1 (mtN 74).2.1 (mtN 74).2.2.1 (mtN 74).2.2.2 ∈ aTs := (aIn2 196 rfl rfl)
theorem mi74 : Cond.initialized (mtN 74).1.cls ∈ aTs := (aIn1 1 rfl rfl)
theorem mo75 : ((mtN 75).1.cls ≠ "java/lang/invoke/MethodHandle" ∧ (mtN 75).1.cls ≠ "java/lang/invoke/VarHandle" ∧ (parseMethodDescriptor (mtN 75).1.desc).map (fun d => d.parameters.length) = some 4) ∧ (mtN 75).2.2.1 ≤ 45 ∧ plainName (mtN 75).1.cls = true := by decide +kernel
theorem mc75 : Cond.code (mtN 75).1 (mtN 75).2.1 (mtN 75).2.2.1 (mtN 75).2.2.2 ∈ aTs := (aIn2 192 rfl rfl)
theorem mi75 : Cond.initialized (mtN 75).1.cls ∈ aTs := (aIn1 1 rfl rfl)
theorem mo76 : ((mtN 76).1.cls ≠ "java/lang/invoke/MethodHandle" ∧ (mtN 76).1.cls ≠ "java/lang/invoke/VarHandle" ∧ (parseMethodDescriptor (mtN 76).1.desc).map (fun d => d.parameters.length) = some 2) ∧ (mtN 76).2.2.1 ≤ 45 ∧ plainName (mtN 76).1.cls = true := by decide +kernel
theorem mc76 : Cond.code (mtN 76).1 (mtN 76).2.1 (mtN 76).2.2.1 (mtN 76).2.2.2 ∈ aTs := (aIn2 37 rfl rfl)
theorem mi76 : Cond.initialized (mtN 76).1.cls ∈ aTs := (aIn1 1 rfl rfl)
theorem mo77 : ((mtN 77).1.cls ≠ "java/lang/invoke/MethodHandle" ∧ (mtN 77).1.cls ≠ "java/lang/invoke/VarHandle" ∧ (parseMethodDescriptor (mtN 77).1.desc).map (fun d => d.parameters.length) = some 0) ∧ (mtN 77).2.2.1 ≤ 45 ∧ plainName (mtN 77).1.cls = true := by decide +kernel
theorem mc77 : Cond.code (mtN 77).1 (mtN 77).2.1 (mtN 77).2.2.1 (mtN 77).2.2.2 ∈ aTs := (aIn3 69 rfl rfl)
theorem mi77 : Cond.initialized (mtN 77).1.cls ∈ aTs := (aIn1 1 rfl rfl)
theorem mo78 : ((mtN 78).1.cls ≠ "java/lang/invoke/MethodHandle" ∧ (mtN 78).1.cls ≠ "java/lang/invoke/VarHandle" ∧ (parseMethodDescriptor (mtN 78).1.desc).map (fun d => d.parameters.length) = some 2) ∧ (mtN 78).2.2.1 ≤ 45 ∧ plainName (mtN 78).1.cls = true := by decide +kernel
theorem mc78 : Cond.code (mtN 78).1 (mtN 78).2.1 (mtN 78).2.2.1 (mtN 78).2.2.2 ∈ aTs := (aIn3 19 rfl rfl)
theorem mi78 : Cond.initialized (mtN 78).1.cls ∈ aTs := (aIn1 1 rfl rfl)
theorem mo79 : ((mtN 79).1.cls ≠ "java/lang/invoke/MethodHandle" ∧ (mtN 79).1.cls ≠ "java/lang/invoke/VarHandle" ∧ (parseMethodDescriptor (mtN 79).1.desc).map (fun d => d.parameters.length) = some 2) ∧ (mtN 79).2.2.1 ≤ 45 ∧ plainName (mtN 79).1.cls = true := by decide +kernel
theorem mc79 : Cond.code (mtN 79).1 (mtN 79).2.1 (mtN 79).2.2.1 (mtN 79).2.2.2 ∈ aTs := (aIn2 232 rfl rfl)
theorem mi79 : Cond.initialized (mtN 79).1.cls ∈ aTs := (aIn1 1 rfl rfl)
theorem mo80 : ((mtN 80).1.cls ≠ "java/lang/invoke/MethodHandle" ∧ (mtN 80).1.cls ≠ "java/lang/invoke/VarHandle" ∧ (parseMethodDescriptor (mtN 80).1.desc).map (fun d => d.parameters.length) = some 2) ∧ (mtN 80).2.2.1 ≤ 45 ∧ plainName (mtN 80).1.cls = true := by decide +kernel
theorem mc80 : Cond.code (mtN 80).1 (mtN 80).2.1 (mtN 80).2.2.1 (mtN 80).2.2.2 ∈ aTs := (aIn3 11 rfl rfl)
theorem mi80 : Cond.initialized (mtN 80).1.cls ∈ aTs := (aIn1 1 rfl rfl)
theorem mo81 : ((mtN 81).1.cls ≠ "java/lang/invoke/MethodHandle" ∧ (mtN 81).1.cls ≠ "java/lang/invoke/VarHandle" ∧ (parseMethodDescriptor (mtN 81).1.desc).map (fun d => d.parameters.length) = some 1) ∧ (mtN 81).2.2.1 ≤ 45 ∧ plainName (mtN 81).1.cls = true := by decide +kernel
theorem mc81 : Cond.code (mtN 81).1 (mtN 81).2.1 (mtN 81).2.2.1 (mtN 81).2.2.2 ∈ aTs := (aIn3 0 rfl rfl)
theorem mi81 : Cond.initialized (mtN 81).1.cls ∈ aTs := (aIn1 1 rfl rfl)
theorem mo82 : ((mtN 82).1.cls ≠ "java/lang/invoke/MethodHandle" ∧ (mtN 82).1.cls ≠ "java/lang/invoke/VarHandle" ∧ (parseMethodDescriptor (mtN 82).1.desc).map (fun d => d.parameters.length) = some 2) ∧ (mtN 82).2.2.1 ≤ 45 ∧ plainName (mtN 82).1.cls = true := by decide +kernel
theorem mc82 : Cond.code (mtN 82).1 (mtN 82).2.1 (mtN 82).2.2.1 (mtN 82).2.2.2 ∈ aTs := (aIn2 236 rfl rfl)
theorem mi82 : Cond.initialized (mtN 82).1.cls ∈ aTs := (aIn1 1 rfl rfl)
theorem mo83 : ((mtN 83).1.cls ≠ "java/lang/invoke/MethodHandle" ∧ (mtN 83).1.cls ≠ "java/lang/invoke/VarHandle" ∧ (parseMethodDescriptor (mtN 83).1.desc).map (fun d => d.parameters.length) = some 2) ∧ (mtN 83).2.2.1 ≤ 45 ∧ plainName (mtN 83).1.cls = true := by decide +kernel
theorem mc83 : Cond.code (mtN 83).1 (mtN 83).2.1 (mtN 83).2.2.1 (mtN 83).2.2.2 ∈ aTs := (aIn3 4 rfl rfl)
theorem mi83 : Cond.initialized (mtN 83).1.cls ∈ aTs := (aIn1 1 rfl rfl)
theorem mo84 : ((mtN 84).1.cls ≠ "java/lang/invoke/MethodHandle" ∧ (mtN 84).1.cls ≠ "java/lang/invoke/VarHandle" ∧ (parseMethodDescriptor (mtN 84).1.desc).map (fun d => d.parameters.length) = some 3) ∧ (mtN 84).2.2.1 ≤ 45 ∧ plainName (mtN 84).1.cls = true := by decide +kernel
theorem mc84 : Cond.code (mtN 84).1 (mtN 84).2.1 (mtN 84).2.2.1 (mtN 84).2.2.2 ∈ aTs := (aIn3 8 rfl rfl)
theorem mi84 : Cond.initialized (mtN 84).1.cls ∈ aTs := (aIn1 1 rfl rfl)
theorem mo85 : ((mtN 85).1.cls ≠ "java/lang/invoke/MethodHandle" ∧ (mtN 85).1.cls ≠ "java/lang/invoke/VarHandle" ∧ (parseMethodDescriptor (mtN 85).1.desc).map (fun d => d.parameters.length) = some 4) ∧ (mtN 85).2.2.1 ≤ 45 ∧ plainName (mtN 85).1.cls = true := by decide +kernel
theorem mc85 : Cond.code (mtN 85).1 (mtN 85).2.1 (mtN 85).2.2.1 (mtN 85).2.2.2 ∈ aTs := (aIn3 41 rfl rfl)
theorem mi85 : Cond.initialized (mtN 85).1.cls ∈ aTs := (aIn1 1 rfl rfl)
theorem mo86 : ((mtN 86).1.cls ≠ "java/lang/invoke/MethodHandle" ∧ (mtN 86).1.cls ≠ "java/lang/invoke/VarHandle" ∧ (parseMethodDescriptor (mtN 86).1.desc).map (fun d => d.parameters.length) = some 2) ∧ (mtN 86).2.2.1 ≤ 45 ∧ plainName (mtN 86).1.cls = true := by decide +kernel
theorem mc86 : Cond.code (mtN 86).1 (mtN 86).2.1 (mtN 86).2.2.1 (mtN 86).2.2.2 ∈ aTs := (aIn3 94 rfl rfl)
theorem mi86 : Cond.initialized (mtN 86).1.cls ∈ aTs := (aIn1 1 rfl rfl)
theorem mo87 : ((mtN 87).1.cls ≠ "java/lang/invoke/MethodHandle" ∧ (mtN 87).1.cls ≠ "java/lang/invoke/VarHandle" ∧ (parseMethodDescriptor (mtN 87).1.desc).map (fun d => d.parameters.length) = some 2) ∧ (mtN 87).2.2.1 ≤ 45 ∧ plainName (mtN 87).1.cls = true := by decide +kernel
theorem mc87 : Cond.code (mtN 87).1 (mtN 87).2.1 (mtN 87).2.2.1 (mtN 87).2.2.2 ∈ aTs := (aIn3 97 rfl rfl)
theorem mi87 : Cond.initialized (mtN 87).1.cls ∈ aTs := (aIn1 1 rfl rfl)
theorem mo88 : ((mtN 88).1.cls ≠ "java/lang/invoke/MethodHandle" ∧ (mtN 88).1.cls ≠ "java/lang/invoke/VarHandle" ∧ (parseMethodDescriptor (mtN 88).1.desc).map (fun d => d.parameters.length) = some 3) ∧ (mtN 88).2.2.1 ≤ 45 ∧ plainName (mtN 88).1.cls = true := by decide +kernel
theorem mc88 : Cond.code (mtN 88).1 (mtN 88).2.1 (mtN 88).2.2.1 (mtN 88).2.2.2 ∈ aTs := (aIn3 50 rfl rfl)
theorem mi88 : Cond.initialized (mtN 88).1.cls ∈ aTs := (aIn1 1 rfl rfl)
theorem mo89 : ((mtN 89).1.cls ≠ "java/lang/invoke/MethodHandle" ∧ (mtN 89).1.cls ≠ "java/lang/invoke/VarHandle" ∧ (parseMethodDescriptor (mtN 89).1.desc).map (fun d => d.parameters.length) = some 5) ∧ (mtN 89).2.2.1 ≤ 45 ∧ plainName (mtN 89).1.cls = true := by decide +kernel
theorem mc89 : Cond.code (mtN 89).1 (mtN 89).2.1 (mtN 89).2.2.1 (mtN 89).2.2.2 ∈ aTs := (aIn3 135 rfl rfl)
theorem mi89 : Cond.initialized (mtN 89).1.cls ∈ aTs := (aIn1 1 rfl rfl)
theorem mo90 : ((mtN 90).1.cls ≠ "java/lang/invoke/MethodHandle" ∧ (mtN 90).1.cls ≠ "java/lang/invoke/VarHandle" ∧ (parseMethodDescriptor (mtN 90).1.desc).map (fun d => d.parameters.length) = some 0) ∧ (mtN 90).2.2.1 ≤ 45 ∧ plainName (mtN 90).1.cls = true := by decide +kernel
theorem mc90 : Cond.code (mtN 90).1 (mtN 90).2.1 (mtN 90).2.2.1 (mtN 90).2.2.2 ∈ aTs := (aIn3 187 rfl rfl)
theorem mi90 : Cond.initialized (mtN 90).1.cls ∈ aTs := (aIn1 9 rfl rfl)
theorem mo91 : ((mtN 91).1.cls ≠ "java/lang/invoke/MethodHandle" ∧ (mtN 91).1.cls ≠ "java/lang/invoke/VarHandle" ∧ (parseMethodDescriptor (mtN 91).1.desc).map (fun d => d.parameters.length) = some 3) ∧ (mtN 91).2.2.1 ≤ 45 ∧ plainName (mtN 91).1.cls = true := by decide +kernel
theorem mc91 : Cond.code (mtN 91).1 (mtN 91).2.1 (mtN 91).2.2.1 (mtN 91).2.2.2 ∈ aTs := (aIn4 165 rfl rfl)
theorem mi91 : Cond.initialized (mtN 91).1.cls ∈ aTs := (aIn1 9 rfl rfl)
theorem mo92 : ((mtN 92).1.cls ≠ "java/lang/invoke/MethodHandle" ∧ (mtN 92).1.cls ≠ "java/lang/invoke/VarHandle" ∧ (parseMethodDescriptor (mtN 92).1.desc).map (fun d => d.parameters.length) = some 2) ∧ (mtN 92).2.2.1 ≤ 45 ∧ plainName (mtN 92).1.cls = true := by decide +kernel
theorem mc92 : Cond.code (mtN 92).1 (mtN 92).2.1 (mtN 92).2.2.1 (mtN 92).2.2.2 ∈ aTs := (aIn4 177 rfl rfl)
theorem mi92 : Cond.initialized (mtN 92).1.cls ∈ aTs := (aIn1 9 rfl rfl)
theorem mo93 : ((mtN 93).1.cls ≠ "java/lang/invoke/MethodHandle" ∧ (mtN 93).1.cls ≠ "java/lang/invoke/VarHandle" ∧ (parseMethodDescriptor (mtN 93).1.desc).map (fun d => d.parameters.length) = some 1) ∧ (mtN 93).2.2.1 ≤ 45 ∧ plainName (mtN 93).1.cls = true := by decide +kernel
theorem mc93 : Cond.code (mtN 93).1 (mtN 93).2.1 (mtN 93).2.2.1 (mtN 93).2.2.2 ∈ aTs := (aIn4 173 rfl rfl)
theorem mi93 : Cond.initialized (mtN 93).1.cls ∈ aTs := (aIn1 9 rfl rfl)
theorem mo94 : ((mtN 94).1.cls ≠ "java/lang/invoke/MethodHandle" ∧ (mtN 94).1.cls ≠ "java/lang/invoke/VarHandle" ∧ (parseMethodDescriptor (mtN 94).1.desc).map (fun d => d.parameters.length) = some 1) ∧ (mtN 94).2.2.1 ≤ 45 ∧ plainName (mtN 94).1.cls = true := by decide +kernel
theorem mc94 : Cond.code (mtN 94).1 (mtN 94).2.1 (mtN 94).2.2.1 (mtN 94).2.2.2 ∈ aTs := (aIn5 36 rfl rfl)
theorem mi94 : Cond.initialized (mtN 94).1.cls ∈ aTs := (aIn1 9 rfl rfl)
theorem mo95 : ((mtN 95).1.cls ≠ "java/lang/invoke/MethodHandle" ∧ (mtN 95).1.cls ≠ "java/lang/invoke/VarHandle" ∧ (parseMethodDescriptor (mtN 95).1.desc).map (fun d => d.parameters.length) = some 2) ∧ (mtN 95).2.2.1 ≤ 45 ∧ plainName (mtN 95).1.cls = true := by decide +kernel
theorem mc95 : Cond.code (mtN 95).1 (mtN 95).2.1 (mtN 95).2.2.1 (mtN 95).2.2.2 ∈ aTs := (aIn4 161 rfl rfl)
theorem mi95 : Cond.initialized (mtN 95).1.cls ∈ aTs := (aIn1 9 rfl rfl)
theorem mo96 : ((mtN 96).1.cls ≠ "java/lang/invoke/MethodHandle" ∧ (mtN 96).1.cls ≠ "java/lang/invoke/VarHandle" ∧ (parseMethodDescriptor (mtN 96).1.desc).map (fun d => d.parameters.length) = some 3) ∧ (mtN 96).2.2.1 ≤ 45 ∧ plainName (mtN 96).1.cls = true := by decide +kernel
theorem mc96 : Cond.code (mtN 96).1 (mtN 96).2.1 (mtN 96).2.2.1 (mtN 96).2.2.2 ∈ aTs := (aIn4 169 rfl rfl)
theorem mi96 : Cond.initialized (mtN 96).1.cls ∈ aTs := (aIn1 9 rfl rfl)
theorem mo97 : ((mtN 97).1.cls ≠ "java/lang/invoke/MethodHandle" ∧ (mtN 97).1.cls ≠ "java/lang/invoke/VarHandle" ∧ (parseMethodDescriptor (mtN 97).1.desc).map (fun d => d.parameters.length) = some 5) ∧ (mtN 97).2.2.1 ≤ 45 ∧ plainName (mtN 97).1.cls = true := by decide +kernel
theorem mc97 : Cond.code (mtN 97).1 (mtN 97).2.1 (mtN 97).2.2.1 (mtN 97).2.2.2 ∈ aTs := (aIn4 185 rfl rfl)
theorem mi97 : Cond.initialized (mtN 97).1.cls ∈ aTs := (aIn1 9 rfl rfl)
theorem mo98 : ((mtN 98).1.cls ≠ "java/lang/invoke/MethodHandle" ∧ (mtN 98).1.cls ≠ "java/lang/invoke/VarHandle" ∧ (parseMethodDescriptor (mtN 98).1.desc).map (fun d => d.parameters.length) = some 2) ∧ (mtN 98).2.2.1 ≤ 45 ∧ plainName (mtN 98).1.cls = true := by decide +kernel
theorem mc98 : Cond.code (mtN 98).1 (mtN 98).2.1 (mtN 98).2.2.1 (mtN 98).2.2.2 ∈ aTs := (aIn4 181 rfl rfl)
theorem mi98 : Cond.initialized (mtN 98).1.cls ∈ aTs := (aIn1 9 rfl rfl)
theorem mo99 : ((mtN 99).1.cls ≠ "java/lang/invoke/MethodHandle" ∧ (mtN 99).1.cls ≠ "java/lang/invoke/VarHandle" ∧ (parseMethodDescriptor (mtN 99).1.desc).map (fun d => d.parameters.length) = some 2) ∧ (mtN 99).2.2.1 ≤ 45 ∧ plainName (mtN 99).1.cls = true := by decide +kernel
theorem mc99 : Cond.code (mtN 99).1 (mtN 99).2.1 (mtN 99).2.2.1 (mtN 99).2.2.2 ∈ aTs := (aIn4 189 rfl rfl)
theorem mi99 : Cond.initialized (mtN 99).1.cls ∈ aTs := (aIn1 9 rfl rfl)
theorem mo100 : ((mtN 100).1.cls ≠ "java/lang/invoke/MethodHandle" ∧ (mtN 100).1.cls ≠ "java/lang/invoke/VarHandle" ∧ (parseMethodDescriptor (mtN 100).1.desc).map (fun d => d.parameters.length) = some 1) ∧ (mtN 100).2.2.1 ≤ 45 ∧ plainName (mtN 100).1.cls = true := by decide +kernel
theorem mc100 : Cond.code (mtN 100).1 (mtN 100).2.1 (mtN 100).2.2.1 (mtN 100).2.2.2 ∈ aTs := (aIn4 193 rfl rfl)
theorem mi100 : Cond.initialized (mtN 100).1.cls ∈ aTs := (aIn1 9 rfl rfl)
theorem mo101 : ((mtN 101).1.cls ≠ "java/lang/invoke/MethodHandle" ∧ (mtN 101).1.cls ≠ "java/lang/invoke/VarHandle" ∧ (parseMethodDescriptor (mtN 101).1.desc).map (fun d => d.parameters.length) = some 1) ∧ (mtN 101).2.2.1 ≤ 45 ∧ plainName (mtN 101).1.cls = true := by decide +kernel
theorem mc101 : Cond.code (mtN 101).1 (mtN 101).2.1 (mtN 101).2.2.1 (mtN 101).2.2.2 ∈ aTs := (aIn4 197 rfl rfl)
theorem mi101 : Cond.initialized (mtN 101).1.cls ∈ aTs := (aIn1 9 rfl rfl)
theorem mo102 : ((mtN 102).1.cls ≠ "java/lang/invoke/MethodHandle" ∧ (mtN 102).1.cls ≠ "java/lang/invoke/VarHandle" ∧ (parseMethodDescriptor (mtN 102).1.desc).map (fun d => d.parameters.length) = some 2) ∧ (mtN 102).2.2.1 ≤ 45 ∧ plainName (mtN 102).1.cls = true := by decide +kernel
theorem mc102 : Cond.code (mtN 102).1 (mtN 102).2.1 (mtN 102).2.2.1 (mtN 102).2.2.2 ∈ aTs := (aIn4 201 rfl rfl)
theorem mi102 : Cond.initialized (mtN 102).1.cls ∈ aTs := (aIn1 9 rfl rfl)
theorem mo103 : ((mtN 103).1.cls ≠ "java/lang/invoke/MethodHandle" ∧ (mtN 103).1.cls ≠ "java/lang/invoke/VarHandle" ∧ (parseMethodDescriptor (mtN 103).1.desc).map (fun d => d.parameters.length) = some 0) ∧ (mtN 103).2.2.1 ≤ 45 ∧ plainName (mtN 103).1.cls = true := by decide +kernel
theorem mc103 : Cond.code (mtN 103).1 (mtN 103).2.1 (mtN 103).2.2.1 (mtN 103).2.2.2 ∈ aTs := (aIn4 221 rfl rfl)
theorem mi103 : Cond.initialized (mtN 103).1.cls ∈ aTs := (aIn1 9 rfl rfl)
theorem mo104 : ((mtN 104).1.cls ≠ "java/lang/invoke/MethodHandle" ∧ (mtN 104).1.cls ≠ "java/lang/invoke/VarHandle" ∧ (parseMethodDescriptor (mtN 104).1.desc).map (fun d => d.parameters.length) = some 1) ∧ (mtN 104).2.2.1 ≤ 45 ∧ plainName (mtN 104).1.cls = true := by decide +kernel
theorem mc104 : Cond.code (mtN 104).1 (mtN 104).2.1 (mtN 104).2.2.1 (mtN 104).2.2.2 ∈ aTs := (aIn4 229 rfl rfl)
theorem mi104 : Cond.initialized (mtN 104).1.cls ∈ aTs := (aIn1 9 rfl rfl)
theorem mo105 : ((mtN 105).1.cls ≠ "java/lang/invoke/MethodHandle" ∧ (mtN 105).1.cls ≠ "java/lang/invoke/VarHandle" ∧ (parseMethodDescriptor (mtN 105).1.desc).map (fun d => d.parameters.length) = some 2) ∧ (mtN 105).2.2.1 ≤ 45 ∧ plainName (mtN 105).1.cls = true := by decide +kernel
theorem mc105 : Cond.code (mtN 105).1 (mtN 105).2.1 (mtN 105).2.2.1 (mtN 105).2.2.2 ∈ aTs := (aIn4 225 rfl rfl)
theorem mi105 : Cond.initialized (mtN 105).1.cls ∈ aTs := (aIn1 9 rfl rfl)
theorem mo106 : ((mtN 106).1.cls ≠ "java/lang/invoke/MethodHandle" ∧ (mtN 106).1.cls ≠ "java/lang/invoke/VarHandle" ∧ (parseMethodDescriptor (mtN 106).1.desc).map (fun d => d.parameters.length) = some 0) ∧ (mtN 106).2.2.1 ≤ 45 ∧ plainName (mtN 106).1.cls = true := by decide +kernel
theorem mc106 : Cond.code (mtN 106).1 (mtN 106).2.1 (mtN 106).2.2.1 (mtN 106).2.2.2 ∈ aTs := (aIn5 4 rfl rfl)
theorem mi106 : Cond.initialized (mtN 106).1.cls ∈ aTs := (aIn1 9 rfl rfl)
theorem mo107 : ((mtN 107).1.cls ≠ "java/lang/invoke/MethodHandle" ∧ (mtN 107).1.cls ≠ "java/lang/invoke/VarHandle" ∧ (parseMethodDescriptor (mtN 107).1.desc).map (fun d => d.parameters.length) = some 0) ∧ (mtN 107).2.2.1 ≤ 45 ∧ plainName (mtN 107).1.cls = true := by decide +kernel
theorem mc107 : Cond.code (mtN 107).1 (mtN 107).2.1 (mtN 107).2.2.1 (mtN 107).2.2.2 ∈ aTs := (aIn5 0 rfl rfl)
theorem mi107 : Cond.initialized (mtN 107).1.cls ∈ aTs := (aIn1 9 rfl rfl)
theorem mo108 : ((mtN 108).1.cls ≠ "java/lang/invoke/MethodHandle" ∧ (mtN 108).1.cls ≠ "java/lang/invoke/VarHandle" ∧ (parseMethodDescriptor (mtN 108).1.desc).map (fun d => d.parameters.length) = some 1) ∧ (mtN 108).2.2.1 ≤ 45 ∧ plainName (mtN 108).1.cls = true := by decide +kernel
theorem mc108 : Cond.code (mtN 108).1 (mtN 108).2.1 (mtN 108).2.2.1 (mtN 108).2.2.2 ∈ aTs := (aIn5 20 rfl rfl)
theorem mi108 : Cond.initialized (mtN 108).1.cls ∈ aTs := (aIn1 9 rfl rfl)
theorem mo109 : ((mtN 109).1.cls ≠ "java/lang/invoke/MethodHandle" ∧ (mtN 109).1.cls ≠ "java/lang/invoke/VarHandle" ∧ (parseMethodDescriptor (mtN 109).1.desc).map (fun d => d.parameters.length) = some 0) ∧ (mtN 109).2.2.1 ≤ 45 ∧ plainName (mtN 109).1.cls = true := by decide +kernel
theorem mc109 : Cond.code (mtN 109).1 (mtN 109).2.1 (mtN 109).2.2.1 (mtN 109).2.2.2 ∈ aTs := (aIn5 24 rfl rfl)
theorem mi109 : Cond.initialized (mtN 109).1.cls ∈ aTs := (aIn1 9 rfl rfl)
theorem mo110 : ((mtN 110).1.cls ≠ "java/lang/invoke/MethodHandle" ∧ (mtN 110).1.cls ≠ "java/lang/invoke/VarHandle" ∧ (parseMethodDescriptor (mtN 110).1.desc).map (fun d => d.parameters.length) = some 1) ∧ (mtN 110).2.2.1 ≤ 45 ∧ plainName (mtN 110).1.cls = true := by decide +kernel
theorem mc110 : Cond.code (mtN 110).1 (mtN 110).2.1 (mtN 110).2.2.1 (mtN 110).2.2.2 ∈ aTs := (aIn5 28 rfl rfl)
theorem mi110 : Cond.initialized (mtN 110).1.cls ∈ aTs := (aIn1 9 rfl rfl)
theorem mo111 : ((mtN 111).1.cls ≠ "java/lang/invoke/MethodHandle" ∧ (mtN 111).1.cls ≠ "java/lang/invoke/VarHandle" ∧ (parseMethodDescriptor (mtN 111).1.desc).map (fun d => d.parameters.length) = some 1) ∧ (mtN 111).2.2.1 ≤ 45 ∧ plainName (mtN 111).1.cls = true := by decide +kernel
theorem mc111 : Cond.code (mtN 111).1 (mtN 111).2.1 (mtN 111).2.2.1 (mtN 111).2.2.2 ∈ aTs := (aIn5 16 rfl rfl)
theorem mi111 : Cond.initialized (mtN 111).1.cls ∈ aTs := (aIn1 9 rfl rfl)
theorem mo112 : ((mtN 112).1.cls ≠ "java/lang/invoke/MethodHandle" ∧ (mtN 112).1.cls ≠ "java/lang/invoke/VarHandle" ∧ (parseMethodDescriptor (mtN 112).1.desc).map (fun d => d.parameters.length) = some 0) ∧ (mtN 112).2.2.1 ≤ 45 ∧ plainName (mtN 112).1.cls = true := by decide +kernel
theorem mc112 : Cond.code (mtN 112).1 (mtN 112).2.1 (mtN 112).2.2.1 (mtN 112).2.2.2 ∈ aTs := (aIn5 12 rfl rfl)
theorem mi112 : Cond.initialized (mtN 112).1.cls ∈ aTs := (aIn1 9 rfl rfl)
theorem mo113 : ((mtN 113).1.cls ≠ "java/lang/invoke/MethodHandle" ∧ (mtN 113).1.cls ≠ "java/lang/invoke/VarHandle" ∧ (parseMethodDescriptor (mtN 113).1.desc).map (fun d => d.parameters.length) = some 1) ∧ (mtN 113).2.2.1 ≤ 45 ∧ plainName (mtN 113).1.cls = true := by decide +kernel
theorem mc113 : Cond.code (mtN 113).1 (mtN 113).2.1 (mtN 113).2.2.1 (mtN 113).2.2.2 ∈ aTs := (aIn5 8 rfl rfl)
theorem mi113 : Cond.initialized (mtN 113).1.cls ∈ aTs := (aIn1 9 rfl rfl)
theorem mo114 : ((mtN 114).1.cls ≠ "java/lang/invoke/MethodHandle" ∧ (mtN 114).1.cls ≠ "java/lang/invoke/VarHandle" ∧ (parseMethodDescriptor (mtN 114).1.desc).map (fun d => d.parameters.length) = some 1) ∧ (mtN 114).2.2.1 ≤ 45 ∧ plainName (mtN 114).1.cls = true := by decide +kernel
theorem mc114 : Cond.code (mtN 114).1 (mtN 114).2.1 (mtN 114).2.2.1 (mtN 114).2.2.2 ∈ aTs := (aIn4 236 rfl rfl)
theorem mi114 : Cond.initialized (mtN 114).1.cls ∈ aTs := (aIn1 9 rfl rfl)
theorem mo115 : ((mtN 115).1.cls ≠ "java/lang/invoke/MethodHandle" ∧ (mtN 115).1.cls ≠ "java/lang/invoke/VarHandle" ∧ (parseMethodDescriptor (mtN 115).1.desc).map (fun d => d.parameters.length) = some 1) ∧ (mtN 115).2.2.1 ≤ 45 ∧ plainName (mtN 115).1.cls = true := by decide +kernel
theorem mc115 : Cond.code (mtN 115).1 (mtN 115).2.1 (mtN 115).2.2.1 (mtN 115).2.2.2 ∈ aTs := (aIn4 217 rfl rfl)
theorem mi115 : Cond.initialized (mtN 115).1.cls ∈ aTs := (aIn1 9 rfl rfl)
theorem mo116 : ((mtN 116).1.cls ≠ "java/lang/invoke/MethodHandle" ∧ (mtN 116).1.cls ≠ "java/lang/invoke/VarHandle" ∧ (parseMethodDescriptor (mtN 116).1.desc).map (fun d => d.parameters.length) = some 1) ∧ (mtN 116).2.2.1 ≤ 45 ∧ plainName (mtN 116).1.cls = true := by decide +kernel
theorem mc116 : Cond.code (mtN 116).1 (mtN 116).2.1 (mtN 116).2.2.1 (mtN 116).2.2.2 ∈ aTs := (aIn4 213 rfl rfl)
theorem mi116 : Cond.initialized (mtN 116).1.cls ∈ aTs := (aIn1 9 rfl rfl)
theorem mo117 : ((mtN 117).1.cls ≠ "java/lang/invoke/MethodHandle" ∧ (mtN 117).1.cls ≠ "java/lang/invoke/VarHandle" ∧ (parseMethodDescriptor (mtN 117).1.desc).map (fun d => d.parameters.length) = some 1) ∧ (mtN 117).2.2.1 ≤ 45 ∧ plainName (mtN 117).1.cls = true := by decide +kernel
theorem mc117 : Cond.code (mtN 117).1 (mtN 117).2.1 (mtN 117).2.2.1 (mtN 117).2.2.2 ∈ aTs := (aIn4 209 rfl rfl)
theorem mi117 : Cond.initialized (mtN 117).1.cls ∈ aTs := (aIn1 9 rfl rfl)
theorem mo118 : ((mtN 118).1.cls ≠ "java/lang/invoke/MethodHandle" ∧ (mtN 118).1.cls ≠ "java/lang/invoke/VarHandle" ∧ (parseMethodDescriptor (mtN 118).1.desc).map (fun d => d.parameters.length) = some 0) ∧ (mtN 118).2.2.1 ≤ 45 ∧ plainName (mtN 118).1.cls = true := by decide +kernel
theorem mc118 : Cond.code (mtN 118).1 (mtN 118).2.1 (mtN 118).2.2.1 (mtN 118).2.2.2 ∈ aTs := (aIn4 205 rfl rfl)
theorem mi118 : Cond.initialized (mtN 118).1.cls ∈ aTs := (aIn1 9 rfl rfl)
theorem mo119 : ((mtN 119).1.cls ≠ "java/lang/invoke/MethodHandle" ∧ (mtN 119).1.cls ≠ "java/lang/invoke/VarHandle" ∧ (parseMethodDescriptor (mtN 119).1.desc).map (fun d => d.parameters.length) = some 0) ∧ (mtN 119).2.2.1 ≤ 45 ∧ plainName (mtN 119).1.cls = true := by decide +kernel
theorem mc119 : Cond.code (mtN 119).1 (mtN 119).2.1 (mtN 119).2.2.1 (mtN 119).2.2.2 ∈ aTs := (aIn5 44 rfl rfl)
theorem mi119 : Cond.initialized (mtN 119).1.cls ∈ aTs := (aIn1 9 rfl rfl)
theorem mo120 : ((mtN 120).1.cls ≠ "java/lang/invoke/MethodHandle" ∧ (mtN 120).1.cls ≠ "java/lang/invoke/VarHandle" ∧ (parseMethodDescriptor (mtN 120).1.desc).map (fun d => d.parameters.length) = some 0) ∧ (mtN 120).2.2.1 ≤ 45 ∧ plainName (mtN 120).1.cls = true := by decide +kernel
theorem mc120 : Cond.code (mtN 120).1 (mtN 120).2.1 (mtN 120).2.2.1 (mtN 120).2.2.2 ∈ aTs := (aIn5 48 rfl rfl)
theorem mi120 : Cond.initialized (mtN 120).1.cls ∈ aTs := (aIn1 9 rfl rfl)
theorem mo121 : ((mtN 121).1.cls ≠ "java/lang/invoke/MethodHandle" ∧ (mtN 121).1.cls ≠ "java/lang/invoke/VarHandle" ∧ (parseMethodDescriptor (mtN 121).1.desc).map (fun d => d.parameters.length) = some 2) ∧ (mtN 121).2.2.1 ≤ 45 ∧ plainName (mtN 121).1.cls = true := by decide +kernel
theorem mc121 : Cond.code (mtN 121).1 (mtN 121).2.1 (mtN 121).2.2.1 (mtN 121).2.2.2 ∈ aTs := (aIn5 64 rfl rfl)
theorem mi121 : Cond.initialized (mtN 121).1.cls ∈ aTs := (aIn1 9 rfl rfl)
theorem mo122 : ((mtN 122).1.cls ≠ "java/lang/invoke/MethodHandle" ∧ (mtN 122).1.cls ≠ "java/lang/invoke/VarHandle" ∧ (parseMethodDescriptor (mtN 122).1.desc).map (fun d => d.parameters.length) = some 4) ∧ (mtN 122).2.2.1 ≤ 45 ∧ plainName (mtN 122).1.cls = true := by decide +kernel
theorem mc122 : Cond.code (mtN 122).1 (mtN 122).2.1 (mtN 122).2.2.1 (mtN 122).2.2.2 ∈ aTs := (aIn5 52 rfl rfl)
theorem mi122 : Cond.initialized (mtN 122).1.cls ∈ aTs := (aIn1 9 rfl rfl)
theorem mo123 : ((mtN 123).1.cls ≠ "java/lang/invoke/MethodHandle" ∧ (mtN 123).1.cls ≠ "java/lang/invoke/VarHandle" ∧ (parseMethodDescriptor (mtN 123).1.desc).map (fun d => d.parameters.length) = some 4) ∧ (mtN 123).2.2.1 ≤ 45 ∧ plainName (mtN 123).1.cls = true := by decide +kernel
theorem mc123 : Cond.code (mtN 123).1 (mtN 123).2.1 (mtN 123).2.2.1 (mtN 123).2.2.2 ∈ aTs := (aIn5 40 rfl rfl)
theorem mi123 : Cond.initialized (mtN 123).1.cls ∈ aTs := (aIn1 9 rfl rfl)
theorem mo124 : ((mtN 124).1.cls ≠ "java/lang/invoke/MethodHandle" ∧ (mtN 124).1.cls ≠ "java/lang/invoke/VarHandle" ∧ (parseMethodDescriptor (mtN 124).1.desc).map (fun d => d.parameters.length) = some 4) ∧ (mtN 124).2.2.1 ≤ 45 ∧ plainName (mtN 124).1.cls = true := by decide +kernel
theorem mc124 : Cond.code (mtN 124).1 (mtN 124).2.1 (mtN 124).2.2.1 (mtN 124).2.2.2 ∈ aTs := (aIn5 32 rfl rfl)
theorem mi124 : Cond.initialized (mtN 124).1.cls ∈ aTs := (aIn1 9 rfl rfl)
theorem mo125 : ((mtN 125).1.cls ≠ "java/lang/invoke/MethodHandle" ∧ (mtN 125).1.cls ≠ "java/lang/invoke/VarHandle" ∧ (parseMethodDescriptor (mtN 125).1.desc).map (fun d => d.parameters.length) = some 0) ∧ (mtN 125).2.2.1 ≤ 45 ∧ plainName (mtN 125).1.cls = true := by decide +kernel
theorem mc125 : Cond.code (mtN 125).1 (mtN 125).2.1 (mtN 125).2.2.1 (mtN 125).2.2.2 ∈ aTs := (aIn5 60 rfl rfl)
theorem mi125 : Cond.initialized (mtN 125).1.cls ∈ aTs := (aIn1 9 rfl rfl)
theorem mo126 : ((mtN 126).1.cls ≠ "java/lang/invoke/MethodHandle" ∧ (mtN 126).1.cls ≠ "java/lang/invoke/VarHandle" ∧ (parseMethodDescriptor (mtN 126).1.desc).map (fun d => d.parameters.length) = some 2) ∧ (mtN 126).2.2.1 ≤ 45 ∧ plainName (mtN 126).1.cls = true := by decide +kernel
theorem mc126 : Cond.code (mtN 126).1 (mtN 126).2.1 (mtN 126).2.2.1 (mtN 126).2.2.2 ∈ aTs := (aIn5 56 rfl rfl)
theorem mi126 : Cond.initialized (mtN 126).1.cls ∈ aTs := (aIn1 9 rfl rfl)
theorem mo127 : ((mtN 127).1.cls ≠ "java/lang/invoke/MethodHandle" ∧ (mtN 127).1.cls ≠ "java/lang/invoke/VarHandle" ∧ (parseMethodDescriptor (mtN 127).1.desc).map (fun d => d.parameters.length) = some 1) ∧ (mtN 127).2.2.1 ≤ 45 ∧ plainName (mtN 127).1.cls = true := by decide +kernel
theorem mc127 : Cond.code (mtN 127).1 (mtN 127).2.1 (mtN 127).2.2.1 (mtN 127).2.2.2 ∈ aTs := (aIn5 76 rfl rfl)
theorem mi127 : Cond.initialized (mtN 127).1.cls ∈ aTs := (aIn1 9 rfl rfl)
theorem mo128 : ((mtN 128).1.cls ≠ "java/lang/invoke/MethodHandle" ∧ (mtN 128).1.cls ≠ "java/lang/invoke/VarHandle" ∧ (parseMethodDescriptor (mtN 128).1.desc).map (fun d => d.parameters.length) = some 2) ∧ (mtN 128).2.2.1 ≤ 45 ∧ plainName (mtN 128).1.cls = true := by decide +kernel
theorem mc128 : Cond.code (mtN 128).1 (mtN 128).2.1 (mtN 128).2.2.1 (mtN 128).2.2.2 ∈ aTs := (aIn5 68 rfl rfl)
theorem mi128 : Cond.initialized (mtN 128).1.cls ∈ aTs := (aIn1 9 rfl rfl)
theorem mo129 : ((mtN 129).1.cls ≠ "java/lang/invoke/MethodHandle" ∧ (mtN 129).1.cls ≠ "java/lang/invoke/VarHandle" ∧ (parseMethodDescriptor (mtN 129).1.desc).map (fun d => d.parameters.length) = some 3) ∧ (mtN 129).2.2.1 ≤ 45 ∧ plainName (mtN 129).1.cls = true := by decide +kernel
theorem mc129 : Cond.code (mtN 129).1 (mtN 129).2.1 (mtN 129).2.2.1 (mtN 129).2.2.2 ∈ aTs := (aIn5 72 rfl rfl)
theorem mi129 : Cond.initialized (mtN 129).1.cls ∈ aTs := (aIn1 9 rfl rfl)
theorem mo130 : ((mtN 130).1.cls ≠ "java/lang/invoke/MethodHandle" ∧ (mtN 130).1.cls ≠ "java/lang/invoke/VarHandle" ∧ (parseMethodDescriptor (mtN 130).1.desc).map (fun d => d.parameters.length) = some 3) ∧ (mtN 130).2.2.1 ≤ 45 ∧ plainName (mtN 130).1.cls = true := by decide +kernel
theorem mc130 : Cond.code (mtN 130).1 (mtN 130).2.1 (mtN 130).2.2.1 (mtN 130).2.2.2 ∈ aTs := (aIn5 80 rfl rfl)
theorem mi130 : Cond.initialized (mtN 130).1.cls ∈ aTs := (aIn1 9 rfl rfl)
theorem mo131 : ((mtN 131).1.cls ≠ "java/lang/invoke/MethodHandle" ∧ (mtN 131).1.cls ≠ "java/lang/invoke/VarHandle" ∧ (parseMethodDescriptor (mtN 131).1.desc).map (fun d => d.parameters.length) = some 3) ∧ (mtN 131).2.2.1 ≤ 45 ∧ plainName (mtN 131).1.cls = true := by decide +kernel
theorem mc131 : Cond.code (mtN 131).1 (mtN 131).2.1 (mtN 131).2.2.1 (mtN 131).2.2.2 ∈ aTs := (aIn5 100 rfl rfl)
theorem mi131 : Cond.initialized (mtN 131).1.cls ∈ aTs := (aIn1 9 rfl rfl)
theorem mo132 : ((mtN 132).1.cls ≠ "java/lang/invoke/MethodHandle" ∧ (mtN 132).1.cls ≠ "java/lang/invoke/VarHandle" ∧ (parseMethodDescriptor (mtN 132).1.desc).map (fun d => d.parameters.length) = some 2) ∧ (mtN 132).2.2.1 ≤ 45 ∧ plainName (mtN 132).1.cls = true := by decide +kernel
theorem mc132 : Cond.code (mtN 132).1 (mtN 132).2.1 (mtN 132).2.2.1 (mtN 132).2.2.2 ∈ aTs := (aIn5 96 rfl rfl)
theorem mi132 : Cond.initialized (mtN 132).1.cls ∈ aTs := (aIn1 9 rfl rfl)
theorem mo133 : ((mtN 133).1.cls ≠ "java/lang/invoke/MethodHandle" ∧ (mtN 133).1.cls ≠ "java/lang/invoke/VarHandle" ∧ (parseMethodDescriptor (mtN 133).1.desc).map (fun d => d.parameters.length) = some 4) ∧ (mtN 133).2.2.1 ≤ 45 ∧ plainName (mtN 133).1.cls = true := by decide +kernel
theorem mc133 : Cond.code (mtN 133).1 (mtN 133).2.1 (mtN 133).2.2.1 (mtN 133).2.2.2 ∈ aTs := (aIn5 104 rfl rfl)
theorem mi133 : Cond.initialized (mtN 133).1.cls ∈ aTs := (aIn1 9 rfl rfl)
theorem mo134 : ((mtN 134).1.cls ≠ "java/lang/invoke/MethodHandle" ∧ (mtN 134).1.cls ≠ "java/lang/invoke/VarHandle" ∧ (parseMethodDescriptor (mtN 134).1.desc).map (fun d => d.parameters.length) = some 5) ∧ (mtN 134).2.2.1 ≤ 45 ∧ plainName (mtN 134).1.cls = true := by decide +kernel
theorem mc134 : Cond.code (mtN 134).1 (mtN 134).2.1 (mtN 134).2.2.1 (mtN 134).2.2.2 ∈ aTs := (aIn5 108 rfl rfl)
theorem mi134 : Cond.initialized (mtN 134).1.cls ∈ aTs := (aIn1 9 rfl rfl)
theorem mo135 : ((mtN 135).1.cls ≠ "java/lang/invoke/MethodHandle" ∧ (mtN 135).1.cls ≠ "java/lang/invoke/VarHandle" ∧ (parseMethodDescriptor (mtN 135).1.desc).map (fun d => d.parameters.length) = some 5) ∧ (mtN 135).2.2.1 ≤ 45 ∧ plainName (mtN 135).1.cls = true := by decide +kernel
theorem mc135 : Cond.code (mtN 135).1 (mtN 135).2.1 (mtN 135).2.2.1 (mtN 135).2.2.2 ∈ aTs := (aIn5 92 rfl rfl)
theorem mi135 : Cond.initialized (mtN 135).1.cls ∈ aTs := (aIn1 9 rfl rfl)
theorem mo136 : ((mtN 136).1.cls ≠ "java/lang/invoke/MethodHandle" ∧ (mtN 136).1.cls ≠ "java/lang/invoke/VarHandle" ∧ (parseMethodDescriptor (mtN 136).1.desc).map (fun d => d.parameters.length) = some 0) ∧ (mtN 136).2.2.1 ≤ 45 ∧ plainName (mtN 136).1.cls = true := by decide +kernel
theorem mc136 : Cond.code (mtN 136).1 (mtN 136).2.1 (mtN 136).2.2.1 (mtN 136).2.2.2 ∈ aTs := (aIn5 88 rfl rfl)
theorem mi136 : Cond.initialized (mtN 136).1.cls ∈ aTs := (aIn1 9 rfl rfl)
theorem mo137 : ((mtN 137).1.cls ≠ "java/lang/invoke/MethodHandle" ∧ (mtN 137).1.cls ≠ "java/lang/invoke/VarHandle" ∧ (parseMethodDescriptor (mtN 137).1.desc).map (fun d => d.parameters.length) = some 1) ∧ (mtN 137).2.2.1 ≤ 45 ∧ plainName (mtN 137).1.cls = true := by decide +kernel
theorem mc137 : Cond.code (mtN 137).1 (mtN 137).2.1 (mtN 137).2.2.1 (mtN 137).2.2.2 ∈ aTs := (aIn5 84 rfl rfl)
theorem mi137 : Cond.initialized (mtN 137).1.cls ∈ aTs := (aIn1 9 rfl rfl)
theorem mo138 : ((mtN 138).1.cls ≠ "java/lang/invoke/MethodHandle" ∧ (mtN 138).1.cls ≠ "java/lang/invoke/VarHandle" ∧ (parseMethodDescriptor (mtN 138).1.desc).map (fun d => d.parameters.length) = some 4) ∧ (mtN 138).2.2.1 ≤ 45 ∧ plainName (mtN 138).1.cls = true := by decide +kernel
theorem mc138 : Cond.code (mtN 138).1 (mtN 138).2.1 (mtN 138).2.2.1 (mtN 138).2.2.2 ∈ aTs := (aIn5 116 rfl rfl)
theorem mi138 : Cond.initialized (mtN 138).1.cls ∈ aTs := (aIn1 9 rfl rfl)
theorem mo139 : ((mtN 139).1.cls ≠ "java/lang/invoke/MethodHandle" ∧ (mtN 139).1.cls ≠ "java/lang/invoke/VarHandle" ∧ (parseMethodDescriptor (mtN 139).1.desc).map (fun d => d.parameters.length) = some 3) ∧ (mtN 139).2.2.1 ≤ 45 ∧ plainName (mtN 139).1.cls = true := by decide +kernel
theorem mc139 : Cond.code (mtN 139).1 (mtN 139).2.1 (mtN 139).2.2.1 (mtN 139).2.2.2 ∈ aTs := (aIn5 112 rfl rfl)
theorem mi139 : Cond.initialized (mtN 139).1.cls ∈ aTs := (aIn1 9 rfl rfl)
theorem mo140 : ((mtN 140).1.cls ≠ "java/lang/invoke/MethodHandle" ∧ (mtN 140).1.cls ≠ "java/lang/invoke/VarHandle" ∧ (parseMethodDescriptor (mtN 140).1.desc).map (fun d => d.parameters.length) = some 3) ∧ (mtN 140).2.2.1 ≤ 45 ∧ plainName (mtN 140).1.cls = true := by decide +kernel
theorem mc140 : Cond.code (mtN 140).1 (mtN 140).2.1 (mtN 140).2.2.1 (mtN 140).2.2.2 ∈ aTs := (aIn5 135 rfl rfl)
theorem mi140 : Cond.initialized (mtN 140).1.cls ∈ aTs := (aIn1 9 rfl rfl)
theorem mo141 : ((mtN 141).1.cls ≠ "java/lang/invoke/MethodHandle" ∧ (mtN 141).1.cls ≠ "java/lang/invoke/VarHandle" ∧ (parseMethodDescriptor (mtN 141).1.desc).map (fun d => d.parameters.length) = some 5) ∧ (mtN 141).2.2.1 ≤ 45 ∧ plainName (mtN 141).1.cls = true := by decide +kernel
theorem mc141 : Cond.code (mtN 141).1 (mtN 141).2.1 (mtN 141).2.2.1 (mtN 141).2.2.2 ∈ aTs := (aIn5 129 rfl rfl)
theorem mi141 : Cond.initialized (mtN 141).1.cls ∈ aTs := (aIn1 9 rfl rfl)
theorem mo142 : ((mtN 142).1.cls ≠ "java/lang/invoke/MethodHandle" ∧ (mtN 142).1.cls ≠ "java/lang/invoke/VarHandle" ∧ (parseMethodDescriptor (mtN 142).1.desc).map (fun d => d.parameters.length) = some 2) ∧ (mtN 142).2.2.1 ≤ 45 ∧ plainName (mtN 142).1.cls = true := by decide +kernel
theorem mc142 : Cond.code (mtN 142).1 (mtN 142).2.1 (mtN 142).2.2.1 (mtN 142).2.2.2 ∈ aTs := (aIn5 143 rfl rfl)
theorem mi142 : Cond.initialized (mtN 142).1.cls ∈ aTs := (aIn1 9 rfl rfl)
theorem mo143 : ((mtN 143).1.cls ≠ "java/lang/invoke/MethodHandle" ∧ (mtN 143).1.cls ≠ "java/lang/invoke/VarHandle" ∧ (parseMethodDescriptor (mtN 143).1.desc).map (fun d => d.parameters.length) = some 2) ∧ (mtN 143).2.2.1 ≤ 45 ∧ plainName (mtN 143).1.cls = true := by decide +kernel
theorem mc143 : Cond.code (mtN 143).1 (mtN 143).2.1 (mtN 143).2.2.1 (mtN 143).2.2.2 ∈ aTs := (aIn5 139 rfl rfl)
theorem mi143 : Cond.initialized (mtN 143).1.cls ∈ aTs := (aIn1 9 rfl rfl)
theorem mo144 : ((mtN 144).1.cls ≠ "java/lang/invoke/MethodHandle" ∧ (mtN 144).1.cls ≠ "java/lang/invoke/VarHandle" ∧ (parseMethodDescriptor (mtN 144).1.desc).map (fun d => d.parameters.length) = some 1) ∧ (mtN 144).2.2.1 ≤ 45 ∧ plainName (mtN 144).1.cls = true := by decide +kernel
theorem mc144 : Cond.code (mtN 144).1 (mtN 144).2.1 (mtN 144).2.2.1 (mtN 144).2.2.2 ∈ aTs := (aIn5 124 rfl rfl)
theorem mi144 : Cond.initialized (mtN 144).1.cls ∈ aTs := (aIn1 9 rfl rfl)
theorem mo145 : ((mtN 145).1.cls ≠ "java/lang/invoke/MethodHandle" ∧ (mtN 145).1.cls ≠ "java/lang/invoke/VarHandle" ∧ (parseMethodDescriptor (mtN 145).1.desc).map (fun d => d.parameters.length) = some 3) ∧ (mtN 145).2.2.1 ≤ 45 ∧ plainName (mtN 145).1.cls = true := by decide +kernel
theorem mc145 : Cond.code (mtN 145).1 (mtN 145).2.1 (mtN 145).2.2.1 (mtN 145).2.2.2 ∈ aTs := (aIn5 120 rfl rfl)
theorem mi145 : Cond.initialized (mtN 145).1.cls ∈ aTs := (aIn1 9 rfl rfl)
theorem mo146 : ((mtN 146).1.cls ≠ "java/lang/invoke/MethodHandle" ∧ (mtN 146).1.cls ≠ "java/lang/invoke/VarHandle" ∧ (parseMethodDescriptor (mtN 146).1.desc).map (fun d => d.parameters.length) = some 4) ∧ (mtN 146).2.2.1 ≤ 45 ∧ plainName (mtN 146).1.cls = true := by decide +kernel
theorem mc146 : Cond.code (mtN 146).1 (mtN 146).2.1 (mtN 146).2.2.1 (mtN 146).2.2.2 ∈ aTs := (aIn5 147 rfl rfl)
theorem mi146 : Cond.initialized (mtN 146).1.cls ∈ aTs := (aIn1 9 rfl rfl)
theorem mo147 : ((mtN 147).1.cls ≠ "java/lang/invoke/MethodHandle" ∧ (mtN 147).1.cls ≠ "java/lang/invoke/VarHandle" ∧ (parseMethodDescriptor (mtN 147).1.desc).map (fun d => d.parameters.length) = some 1) ∧ (mtN 147).2.2.1 ≤ 45 ∧ plainName (mtN 147).1.cls = true := by decide +kernel
theorem mc147 : Cond.code (mtN 147).1 (mtN 147).2.1 (mtN 147).2.2.1 (mtN 147).2.2.2 ∈ aTs := (aIn5 151 rfl rfl)
theorem mi147 : Cond.initialized (mtN 147).1.cls ∈ aTs := (aIn1 9 rfl rfl)
theorem mo148 : ((mtN 148).1.cls ≠ "java/lang/invoke/MethodHandle" ∧ (mtN 148).1.cls ≠ "java/lang/invoke/VarHandle" ∧ (parseMethodDescriptor (mtN 148).1.desc).map (fun d => d.parameters.length) = some 1) ∧ (mtN 148).2.2.1 ≤ 45 ∧ plainName (mtN 148).1.cls = true := by decide +kernel
theorem mc148 : Cond.code (mtN 148).1 (mtN 148).2.1 (mtN 148).2.2.1 (mtN 148).2.2.2 ∈ aTs := (aIn5 159 rfl rfl)
theorem mi148 : Cond.initialized (mtN 148).1.cls ∈ aTs := (aIn1 9 rfl rfl)
theorem mo149 : ((mtN 149).1.cls ≠ "java/lang/invoke/MethodHandle" ∧ (mtN 149).1.cls ≠ "java/lang/invoke/VarHandle" ∧ (parseMethodDescriptor (mtN 149).1.desc).map (fun d => d.parameters.length) = some 3) ∧ (mtN 149).2.2.1 ≤ 45 ∧ plainName (mtN 149).1.cls = true := by decide +kernel
theorem mc149 : Cond.code (mtN 149).1 (mtN 149).2.1 (mtN 149).2.2.1 (mtN 149).2.2.2 ∈ aTs := (aIn5 155 rfl rfl)
theorem mi149 : Cond.initialized (mtN 149).1.cls ∈ aTs := (aIn1 9 rfl rfl)
theorem mo150 : ((mtN 150).1.cls ≠ "java/lang/invoke/MethodHandle" ∧ (mtN 150).1.cls ≠ "java/lang/invoke/VarHandle" ∧ (parseMethodDescriptor (mtN 150).1.desc).map (fun d => d.parameters.length) = some 4) ∧ (mtN 150).2.2.1 ≤ 45 ∧ plainName (mtN 150).1.cls = true := by decide +kernel
theorem mc150 : Cond.code (mtN 150).1 (mtN 150).2.1 (mtN 150).2.2.1 (mtN 150).2.2.2 ∈ aTs := (aIn5 163 rfl rfl)
theorem mi150 : Cond.initialized (mtN 150).1.cls ∈ aTs := (aIn1 9 rfl rfl)
theorem mo151 : ((mtN 151).1.cls ≠ "java/lang/invoke/MethodHandle" ∧ (mtN 151).1.cls ≠ "java/lang/invoke/VarHandle" ∧ (parseMethodDescriptor (mtN 151).1.desc).map (fun d => d.parameters.length) = some 3) ∧ (mtN 151).2.2.1 ≤ 45 ∧ plainName (mtN 151).1.cls = true := by decide +kernel
theorem mc151 : Cond.code (mtN 151).1 (mtN 151).2.1 (mtN 151).2.2.1 (mtN 151).2.2.2 ∈ aTs := (aIn5 167 rfl rfl)
theorem mi151 : Cond.initialized (mtN 151).1.cls ∈ aTs := (aIn1 9 rfl rfl)
theorem mo152 : ((mtN 152).1.cls ≠ "java/lang/invoke/MethodHandle" ∧ (mtN 152).1.cls ≠ "java/lang/invoke/VarHandle" ∧ (parseMethodDescriptor (mtN 152).1.desc).map (fun d => d.parameters.length) = some 2) ∧ (mtN 152).2.2.1 ≤ 45 ∧ plainName (mtN 152).1.cls = true := by decide +kernel
theorem mc152 : Cond.code (mtN 152).1 (mtN 152).2.1 (mtN 152).2.2.1 (mtN 152).2.2.2 ∈ aTs := (aIn5 171 rfl rfl)
theorem mi152 : Cond.initialized (mtN 152).1.cls ∈ aTs := (aIn1 9 rfl rfl)
theorem mo153 : ((mtN 153).1.cls ≠ "java/lang/invoke/MethodHandle" ∧ (mtN 153).1.cls ≠ "java/lang/invoke/VarHandle" ∧ (parseMethodDescriptor (mtN 153).1.desc).map (fun d => d.parameters.length) = some 1) ∧ (mtN 153).2.2.1 ≤ 45 ∧ plainName (mtN 153).1.cls = true := by decide +kernel
theorem mc153 : Cond.code (mtN 153).1 (mtN 153).2.1 (mtN 153).2.2.1 (mtN 153).2.2.2 ∈ aTs := (aIn5 175 rfl rfl)
theorem mi153 : Cond.initialized (mtN 153).1.cls ∈ aTs := (aIn1 9 rfl rfl)
theorem mo154 : ((mtN 154).1.cls ≠ "java/lang/invoke/MethodHandle" ∧ (mtN 154).1.cls ≠ "java/lang/invoke/VarHandle" ∧ (parseMethodDescriptor (mtN 154).1.desc).map (fun d => d.parameters.length) = some 1) ∧ (mtN 154).2.2.1 ≤ 45 ∧ plainName (mtN 154).1.cls = true := by decide +kernel
theorem mc154 : Cond.code (mtN 154).1 (mtN 154).2.1 (mtN 154).2.2.1 (mtN 154).2.2.2 ∈ aTs := (aIn5 179 rfl rfl)
theorem mi154 : Cond.initialized (mtN 154).1.cls ∈ aTs := (aIn1 9 rfl rfl)
theorem mo155 : ((mtN 155).1.cls ≠ "java/lang/invoke/MethodHandle" ∧ (mtN 155).1.cls ≠ "java/lang/invoke/VarHandle" ∧ (parseMethodDescriptor (mtN 155).1.desc).map (fun d => d.parameters.length) = some 2) ∧ (mtN 155).2.2.1 ≤ 45 ∧ plainName (mtN 155).1.cls = true := by decide +kernel
theorem mc155 : Cond.code (mtN 155).1 (mtN 155).2.1 (mtN 155).2.2.1 (mtN 155).2.2.2 ∈ aTs := (aIn5 183 rfl rfl)
theorem mi155 : Cond.initialized (mtN 155).1.cls ∈ aTs := (aIn1 9 rfl rfl)
theorem mo156 : ((mtN 156).1.cls ≠ "java/lang/invoke/MethodHandle" ∧ (mtN 156).1.cls ≠ "java/lang/invoke/VarHandle" ∧ (parseMethodDescriptor (mtN 156).1.desc).map (fun d => d.parameters.length) = some 2) ∧ (mtN 156).2.2.1 ≤ 45 ∧ plainName (mtN 156).1.cls = true := by decide +kernel
theorem mc156 : Cond.code (mtN 156).1 (mtN 156).2.1 (mtN 156).2.2.1 (mtN 156).2.2.2 ∈ aTs := (aIn5 187 rfl rfl)
theorem mi156 : Cond.initialized (mtN 156).1.cls ∈ aTs := (aIn1 9 rfl rfl)
theorem mo157 : ((mtN 157).1.cls ≠ "java/lang/invoke/MethodHandle" ∧ (mtN 157).1.cls ≠ "java/lang/invoke/VarHandle" ∧ (parseMethodDescriptor (mtN 157).1.desc).map (fun d => d.parameters.length) = some 0) ∧ (mtN 157).2.2.1 ≤ 45 ∧ plainName (mtN 157).1.cls = true := by decide +kernel
theorem mc157 : Cond.code (mtN 157).1 (mtN 157).2.1 (mtN 157).2.2.1 (mtN 157).2.2.2 ∈ aTs := (aIn5 195 rfl rfl)
theorem mi157 : Cond.initialized (mtN 157).1.cls ∈ aTs := (aIn1 9 rfl rfl)
theorem mo158 : ((mtN 158).1.cls ≠ "java/lang/invoke/MethodHandle" ∧ (mtN 158).1.cls ≠ "java/lang/invoke/VarHandle" ∧ (parseMethodDescriptor (mtN 158).1.desc).map (fun d => d.parameters.length) = some 0) ∧ (mtN 158).2.2.1 ≤ 45 ∧ plainName (mtN 158).1.cls = true := by decide +kernel
theorem mc158 : Cond.code (mtN 158).1 (mtN 158).2.1 (mtN 158).2.2.1 (mtN 158).2.2.2 ∈ aTs := (aIn5 199 rfl rfl)
theorem mi158 : Cond.initialized (mtN 158).1.cls ∈ aTs := (aIn1 9 rfl rfl)
theorem mo159 : ((mtN 159).1.cls ≠ "java/lang/invoke/MethodHandle" ∧ (mtN 159).1.cls ≠ "java/lang/invoke/VarHandle" ∧ (parseMethodDescriptor (mtN 159).1.desc).map (fun d => d.parameters.length) = some 1) ∧ (mtN 159).2.2.1 ≤ 45 ∧ plainName (mtN 159).1.cls = true := by decide +kernel
theorem mc159 : Cond.code (mtN 159).1 (mtN 159).2.1 (mtN 159).2.2.1 (mtN 159).2.2.2 ∈ aTs := (aIn5 211 rfl rfl)
theorem mi159 : Cond.initialized (mtN 159).1.cls ∈ aTs := (aIn1 9 rfl rfl)
theorem mo160 : ((mtN 160).1.cls ≠ "java/lang/invoke/MethodHandle" ∧ (mtN 160).1.cls ≠ "java/lang/invoke/VarHandle" ∧ (parseMethodDescriptor (mtN 160).1.desc).map (fun d => d.parameters.length) = some 2) ∧ (mtN 160).2.2.1 ≤ 45 ∧ plainName (mtN 160).1.cls = true := by decide +kernel
theorem mc160 : Cond.code (mtN 160).1 (mtN 160).2.1 (mtN 160).2.2.1 (mtN 160).2.2.2 ∈ aTs := (aIn5 215 rfl rfl)
theorem mi160 : Cond.initialized (mtN 160).1.cls ∈ aTs := (aIn1 9 rfl rfl)
theorem mo161 : ((mtN 161).1.cls ≠ "java/lang/invoke/MethodHandle" ∧ (mtN 161).1.cls ≠ "java/lang/invoke/VarHandle" ∧ (parseMethodDescriptor (mtN 161).1.desc).map (fun d => d.parameters.length) = some 2) ∧ (mtN 161).2.2.1 ≤ 45 ∧ plainName (mtN 161).1.cls = true := by decide +kernel
theorem mc161 : Cond.code (mtN 161).1 (mtN 161).2.1 (mtN 161).2.2.1 (mtN 161).2.2.2 ∈ aTs := (aIn5 207 rfl rfl)
theorem mi161 : Cond.initialized (mtN 161).1.cls ∈ aTs := (aIn1 9 rfl rfl)
theorem mo162 : ((mtN 162).1.cls ≠ "java/lang/invoke/MethodHandle" ∧ (mtN 162).1.cls ≠ "java/lang/invoke/VarHandle" ∧ (parseMethodDescriptor (mtN 162).1.desc).map (fun d => d.parameters.length) = some 2) ∧ (mtN 162).2.2.1 ≤ 45 ∧ plainName (mtN 162).1.cls = true := by decide +kernel
theorem mc162 : Cond.code (mtN 162).1 (mtN 162).2.1 (mtN 162).2.2.1 (mtN 162).2.2.2 ∈ aTs := (aIn5 227 rfl rfl)
theorem mi162 : Cond.initialized (mtN 162).1.cls ∈ aTs := (aIn1 9 rfl rfl)
theorem mo163 : ((mtN 163).1.cls ≠ "java/lang/invoke/MethodHandle" ∧ (mtN 163).1.cls ≠ "java/lang/invoke/VarHandle" ∧ (parseMethodDescriptor (mtN 163).1.desc).map (fun d => d.parameters.length) = some 2) ∧ (mtN 163).2.2.1 ≤ 45 ∧ plainName (mtN 163).1.cls = true := by decide +kernel
theorem mc163 : Cond.code (mtN 163).1 (mtN 163).2.1 (mtN 163).2.2.1 (mtN 163).2.2.2 ∈ aTs := (aIn5 223 rfl rfl)
theorem mi163 : Cond.initialized (mtN 163).1.cls ∈ aTs := (aIn1 9 rfl rfl)
theorem mo164 : ((mtN 164).1.cls ≠ "java/lang/invoke/MethodHandle" ∧ (mtN 164).1.cls ≠ "java/lang/invoke/VarHandle" ∧ (parseMethodDescriptor (mtN 164).1.desc).map (fun d => d.parameters.length) = some 2) ∧ (mtN 164).2.2.1 ≤ 45 ∧ plainName (mtN 164).1.cls = true := by decide +kernel
theorem mc164 : Cond.code (mtN 164).1 (mtN 164).2.1 (mtN 164).2.2.1 (mtN 164).2.2.2 ∈ aTs := (aIn5 219 rfl rfl)
theorem mi164 : Cond.initialized (mtN 164).1.cls ∈ aTs := (aIn1 9 rfl rfl)
theorem mo165 : ((mtN 165).1.cls ≠ "java/lang/invoke/MethodHandle" ∧ (mtN 165).1.cls ≠ "java/lang/invoke/VarHandle" ∧ (parseMethodDescriptor (mtN 165).1.desc).map (fun d => d.parameters.length) = some 2) ∧ (mtN 165).2.2.1 ≤ 45 ∧ plainName (mtN 165).1.cls = true := by decide +kernel
theorem mc165 : Cond.code (mtN 165).1 (mtN 165).2.1 (mtN 165).2.2.1 (mtN 165).2.2.2 ∈ aTs := (aIn5 235 rfl rfl)
theorem mi165 : Cond.initialized (mtN 165).1.cls ∈ aTs := (aIn1 9 rfl rfl)
theorem mo166 : ((mtN 166).1.cls ≠ "java/lang/invoke/MethodHandle" ∧ (mtN 166).1.cls ≠ "java/lang/invoke/VarHandle" ∧ (parseMethodDescriptor (mtN 166).1.desc).map (fun d => d.parameters.length) = some 2) ∧ (mtN 166).2.2.1 ≤ 45 ∧ plainName (mtN 166).1.cls = true := by decide +kernel
theorem mc166 : Cond.code (mtN 166).1 (mtN 166).2.1 (mtN 166).2.2.1 (mtN 166).2.2.2 ∈ aTs := (aIn5 231 rfl rfl)
theorem mi166 : Cond.initialized (mtN 166).1.cls ∈ aTs := (aIn1 9 rfl rfl)
theorem mo167 : ((mtN 167).1.cls ≠ "java/lang/invoke/MethodHandle" ∧ (mtN 167).1.cls ≠ "java/lang/invoke/VarHandle" ∧ (parseMethodDescriptor (mtN 167).1.desc).map (fun d => d.parameters.length) = some 3) ∧ (mtN 167).2.2.1 ≤ 45 ∧ plainName (mtN 167).1.cls = true := by decide +kernel
theorem mc167 : Cond.code (mtN 167).1 (mtN 167).2.1 (mtN 167).2.2.1 (mtN 167).2.2.2 ∈ aTs := (aIn5 203 rfl rfl)
theorem mi167 : Cond.initialized (mtN 167).1.cls ∈ aTs := (aIn1 9 rfl rfl)
theorem mo168 : ((mtN 168).1.cls ≠ "java/lang/invoke/MethodHandle" ∧ (mtN 168).1.cls ≠ "java/lang/invoke/VarHandle" ∧ (parseMethodDescriptor (mtN 168).1.desc).map (fun d => d.parameters.length) = some 1) ∧ (mtN 168).2.2.1 ≤ 45 ∧ plainName (mtN 168).1.cls = true := by decide +kernel
theorem mc168 : Cond.code (mtN 168).1 (mtN 168).2.1 (mtN 168).2.2.1 (mtN 168).2.2.2 ∈ aTs := (aIn5 239 rfl rfl)
theorem mi168 : Cond.initialized (mtN 168).1.cls ∈ aTs := (aIn1 9 rfl rfl)
theorem mo169 : ((mtN 169).1.cls ≠ "java/lang/invoke/MethodHandle" ∧ (mtN 169).1.cls ≠ "java/lang/invoke/VarHandle" ∧ (parseMethodDescriptor (mtN 169).1.desc).map (fun d => d.parameters.length) = some 2) ∧ (mtN 169).2.2.1 ≤ 45 ∧ plainName (mtN 169).1.cls = true := by decide +kernel
theorem mc169 : Cond.code (mtN 169).1 (mtN 169).2.1 (mtN 169).2.2.1 (mtN 169).2.2.2 ∈ aTs := (aIn6 3 rfl rfl)
theorem mi169 : Cond.initialized (mtN 169).1.cls ∈ aTs := (aIn1 9 rfl rfl)
theorem mo170 : ((mtN 170).1.cls ≠ "java/lang/invoke/MethodHandle" ∧ (mtN 170).1.cls ≠ "java/lang/invoke/VarHandle" ∧ (parseMethodDescriptor (mtN 170).1.desc).map (fun d => d.parameters.length) = some 1) ∧ (mtN 170).2.2.1 ≤ 45 ∧ plainName (mtN 170).1.cls = true := by decide +kernel
theorem mc170 : Cond.code (mtN 170).1 (mtN 170).2.1 (mtN 170).2.2.1 (mtN 170).2.2.2 ∈ aTs := (aIn6 7 rfl rfl)
theorem mi170 : Cond.initialized (mtN 170).1.cls ∈ aTs := (aIn1 9 rfl rfl)
theorem mo171 : ((mtN 171).1.cls ≠ "java/lang/invoke/MethodHandle" ∧ (mtN 171).1.cls ≠ "java/lang/invoke/VarHandle" ∧ (parseMethodDescriptor (mtN 171).1.desc).map (fun d => d.parameters.length) = some 1) ∧ (mtN 171).2.2.1 ≤ 45 ∧ plainName (mtN 171).1.cls = true := by decide +kernel
theorem mc171 : Cond.code (mtN 171).1 (mtN 171).2.1 (mtN 171).2.2.1 (mtN 171).2.2.2 ∈ aTs := (aIn5 191 rfl rfl)
theorem mi171 : Cond.initialized (mtN 171).1.cls ∈ aTs := (aIn1 9 rfl rfl)
theorem mo172 : ((mtN 172).1.cls ≠ "java/lang/invoke/MethodHandle" ∧ (mtN 172).1.cls ≠ "java/lang/invoke/VarHandle" ∧ (parseMethodDescriptor (mtN 172).1.desc).map (fun d => d.parameters.length) = some 3) ∧ (mtN 172).2.2.1 ≤ 45 ∧ plainName (mtN 172).1.cls = true := by decide +kernel
theorem mc172 : Cond.code (mtN 172).1 (mtN 172).2.1 (mtN 172).2.2.1 (mtN 172).2.2.2 ∈ aTs := (aIn6 11 rfl rfl)
theorem mi172 : Cond.initialized (mtN 172).1.cls ∈ aTs := (aIn1 9 rfl rfl)
theorem mo173 : ((mtN 173).1.cls ≠ "java/lang/invoke/MethodHandle" ∧ (mtN 173).1.cls ≠ "java/lang/invoke/VarHandle" ∧ (parseMethodDescriptor (mtN 173).1.desc).map (fun d => d.parameters.length) = some 2) ∧ (mtN 173).2.2.1 ≤ 45 ∧ plainName (mtN 173).1.cls = true := by decide +kernel
theorem mc173 : Cond.code (mtN 173).1 (mtN 173).2.1 (mtN 173).2.2.1 (mtN 173).2.2.2 ∈ aTs := (aIn6 19 rfl rfl)
theorem mi173 : Cond.initialized (mtN 173).1.cls ∈ aTs := (aIn1 9 rfl rfl)
theorem mo174 : ((mtN 174).1.cls ≠ "java/lang/invoke/MethodHandle" ∧ (mtN 174).1.cls ≠ "java/lang/invoke/VarHandle" ∧ (parseMethodDescriptor (mtN 174).1.desc).map (fun d => d.parameters.length) = some 3) ∧ (mtN 174).2.2.1 ≤ 45 ∧ plainName (mtN 174).1.cls = true := by decide +kernel
theorem mc174 : Cond.code (mtN 174).1 (mtN 174).2.1 (mtN 174).2.2.1 (mtN 174).2.2.2 ∈ aTs := (aIn6 15 rfl rfl)
theorem mi174 : Cond.initialized (mtN 174).1.cls ∈ aTs := (aIn1 9 rfl rfl)
theorem mo175 : ((mtN 175).1.cls ≠ "java/lang/invoke/MethodHandle" ∧ (mtN 175).1.cls ≠ "java/lang/invoke/VarHandle" ∧ (parseMethodDescriptor (mtN 175).1.desc).map (fun d => d.parameters.length) = some 2) ∧ (mtN 175).2.2.1 ≤ 45 ∧ plainName (mtN 175).1.cls = true := by decide +kernel
theorem mc175 : Cond.code (mtN 175).1 (mtN 175).2.1 (mtN 175).2.2.1 (mtN 175).2.2.2 ∈ aTs := (aIn6 23 rfl rfl)
theorem mi175 : Cond.initialized (mtN 175).1.cls ∈ aTs := (aIn1 9 rfl rfl)
theorem mo176 : ((mtN 176).1.cls ≠ "java/lang/invoke/MethodHandle" ∧ (mtN 176).1.cls ≠ "java/lang/invoke/VarHandle" ∧ (parseMethodDescriptor (mtN 176).1.desc).map (fun d => d.parameters.length) = some 5) ∧ (mtN 176).2.2.1 ≤ 45 ∧ plainName (mtN 176).1.cls = true := by decide +kernel
theorem mc176 : Cond.code (mtN 176).1 (mtN 176).2.1 (mtN 176).2.2.1 (mtN 176).2.2.2 ∈ aTs := (aIn6 27 rfl rfl)
theorem mi176 : Cond.initialized (mtN 176).1.cls ∈ aTs := (aIn1 9 rfl rfl)
theorem mo177 : ((mtN 177).1.cls ≠ "java/lang/invoke/MethodHandle" ∧ (mtN 177).1.cls ≠ "java/lang/invoke/VarHandle" ∧ (parseMethodDescriptor (mtN 177).1.desc).map (fun d => d.parameters.length) = some 1) ∧ (mtN 177).2.2.1 ≤ 45 ∧ plainName (mtN 177).1.cls = true := by decide +kernel
theorem mc177 : Cond.code (mtN 177).1 (mtN 177).2.1 (mtN 177).2.2.1 (mtN 177).2.2.2 ∈ aTs := (aIn3 72 rfl rfl)
theorem mi177 : Cond.initialized (mtN 177).1.cls ∈ aTs := (aIn1 15 rfl rfl)
theorem mo178 : ((mtN 178).1.cls ≠ "java/lang/invoke/MethodHandle" ∧ (mtN 178).1.cls ≠ "java/lang/invoke/VarHandle" ∧ (parseMethodDescriptor (mtN 178).1.desc).map (fun d => d.parameters.length) = some 0) ∧ (mtN 178).2.2.1 ≤ 45 ∧ plainName (mtN 178).1.cls = true := by decide +kernel
theorem mc178 : Cond.code (mtN 178).1 (mtN 178).2.1 (mtN 178).2.2.1 (mtN 178).2.2.2 ∈ aTs := (aIn2 99 rfl rfl)
theorem mi178 : Cond.initialized (mtN 178).1.cls ∈ aTs := (aIn1 10 rfl rfl)
theorem mo179 : ((mtN 179).1.cls ≠ "java/lang/invoke/MethodHandle" ∧ (mtN 179).1.cls ≠ "java/lang/invoke/VarHandle" ∧ (parseMethodDescriptor (mtN 179).1.desc).map (fun d => d.parameters.length) = some 1) ∧ (mtN 179).2.2.1 ≤ 45 ∧ plainName (mtN 179).1.cls = true := by decide +kernel
theorem mc179 : Cond.code (mtN 179).1 (mtN 179).2.1 (mtN 179).2.2.1 (mtN 179).2.2.2 ∈ aTs := (aIn2 109 rfl rfl)
theorem mi179 : Cond.initialized (mtN 179).1.cls ∈ aTs := (aIn1 10 rfl rfl)
theorem mo180 : ((mtN 180).1.cls ≠ "java/lang/invoke/MethodHandle" ∧ (mtN 180).1.cls ≠ "java/lang/invoke/VarHandle" ∧ (parseMethodDescriptor (mtN 180).1.desc).map (fun d => d.parameters.length) = some 0) ∧ (mtN 180).2.2.1 ≤ 45 ∧ plainName (mtN 180).1.cls = true := by decide +kernel
theorem mc180 : Cond.code (mtN 180).1 (mtN 180).2.1 (mtN 180).2.2.1 (mtN 180).2.2.2 ∈ aTs := (aIn2 103 rfl rfl)
theorem mi180 : Cond.initialized (mtN 180).1.cls ∈ aTs := (aIn1 10 rfl rfl)
theorem mo181 : ((mtN 181).1.cls ≠ "java/lang/invoke/MethodHandle" ∧ (mtN 181).1.cls ≠ "java/lang/invoke/VarHandle" ∧ (parseMethodDescriptor (mtN 181).1.desc).map (fun d => d.parameters.length) = some 0) ∧ (mtN 181).2.2.1 ≤ 45 ∧ plainName (mtN 181).1.cls = true := by decide +kernel
theorem mc181 : Cond.code (mtN 181).1 (mtN 181).2.1 (mtN 181).2.2.1 (mtN 181).2.2.2 ∈ aTs := (aIn2 113 rfl rfl)
theorem mi181 : Cond.initialized (mtN 181).1.cls ∈ aTs := (aIn1 10 rfl rfl)
theorem mo182 : ((mtN 182).1.cls ≠ "java/lang/invoke/MethodHandle" ∧ (mtN 182).1.cls ≠ "java/lang/invoke/VarHandle" ∧ (parseMethodDescriptor (mtN 182).1.desc).map (fun d => d.parameters.length) = some 2) ∧ (mtN 182).2.2.1 ≤ 45 ∧ plainName (mtN 182).1.cls = true := by decide +kernel
theorem mc182 : Cond.code (mtN 182).1 (mtN 182).2.1 (mtN 182).2.2.1 (mtN 182).2.2.2 ∈ aTs := (aIn2 119 rfl rfl)
theorem mi182 : Cond.initialized (mtN 182).1.cls ∈ aTs := (aIn1 10 rfl rfl)
theorem mo183 : ((mtN 183).1.cls ≠ "java/lang/invoke/MethodHandle" ∧ (mtN 183).1.cls ≠ "java/lang/invoke/VarHandle" ∧ (parseMethodDescriptor (mtN 183).1.desc).map (fun d => d.parameters.length) = some 2) ∧ (mtN 183).2.2.1 ≤ 45 ∧ plainName (mtN 183).1.cls = true := by decide +kernel
theorem mc183 : Cond.code (mtN 183).1 (mtN 183).2.1 (mtN 183).2.2.1 (mtN 183).2.2.2 ∈ aTs := (aIn2 116 rfl rfl)
theorem mi183 : Cond.initialized (mtN 183).1.cls ∈ aTs := (aIn1 11 rfl rfl)
theorem mo184 : ((mtN 184).1.cls ≠ "java/lang/invoke/MethodHandle" ∧ (mtN 184).1.cls ≠ "java/lang/invoke/VarHandle" ∧ (parseMethodDescriptor (mtN 184).1.desc).map (fun d => d.parameters.length) = some 2) ∧ (mtN 184).2.2.1 ≤ 45 ∧ plainName (mtN 184).1.cls = true := by decide +kernel
theorem mc184 : Cond.code (mtN 184).1 (mtN 184).2.1 (mtN 184).2.2.1 (mtN 184).2.2.2 ∈ aTs := (aIn3 162 rfl rfl)
theorem mi184 : Cond.initialized (mtN 184).1.cls ∈ aTs := (aIn1 7 rfl rfl)
theorem mo185 : ((mtN 185).1.cls ≠ "java/lang/invoke/MethodHandle" ∧ (mtN 185).1.cls ≠ "java/lang/invoke/VarHandle" ∧ (parseMethodDescriptor (mtN 185).1.desc).map (fun d => d.parameters.length) = some 2) ∧ (mtN 185).2.2.1 ≤ 45 ∧ plainName (mtN 185).1.cls = true := by decide +kernel
theorem mc185 : Cond.code (mtN 185).1 (mtN 185).2.1 (mtN 185).2.2.1 (mtN 185).2.2.2 ∈ aTs := (aIn1 156 rfl rfl)
theorem mi185 : Cond.initialized (mtN 185).1.cls ∈ aTs := (aIn1 7 rfl rfl)
theorem mo186 : ((mtN 186).1.cls ≠ "java/lang/invoke/MethodHandle" ∧ (mtN 186).1.cls ≠ "java/lang/invoke/VarHandle" ∧ (parseMethodDescriptor (mtN 186).1.desc).map (fun d => d.parameters.length) = some 3) ∧ (mtN 186).2.2.1 ≤ 45 ∧ plainName (mtN 186).1.cls = true := by decide +kernel
theorem mc186 : Cond.code (mtN 186).1 (mtN 186).2.1 (mtN 186).2.2.1 (mtN 186).2.2.2 ∈ aTs := (aIn2 124 rfl rfl)
theorem mi186 : Cond.initialized (mtN 186).1.cls ∈ aTs := (aIn1 12 rfl rfl)
