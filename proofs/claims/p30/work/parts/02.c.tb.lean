def TB : List Cond := lw_tbl.filter goodWord
theorem TB_in {w : Cond} (h : w ∈ TB) : w ∈ lw_tbl := (List.mem_filter.mp h).1
theorem TB_good {w : Cond} (h : w ∈ TB) : goodWord w = true := (List.mem_filter.mp h).2
theorem TB_self {c : Cond} (h : c ∈ TB) : GoodIn TB (c :: TB) := fun w hw => (List.mem_cons.mp hw).elim (fun e => by rw [e]; exact ⟨h, good_of_word (TB_good h)⟩) (fun h9 => ⟨h9, good_of_word (TB_good h9)⟩)
theorem TB_v {own C : String} {idx : Nat} {y : MethodName} {ws : List Cond} (h1 : Cond.methodLink own idx y ∈ TB) (h2 : Cond.instanceMethod y ∈ TB) (h3 : Cond.selects C y y ∈ TB) (h4 : Cond.initialized C ∈ TB) (h5 : GoodIn TB ws) : GoodIn TB (wsV own idx C y ws) := by
  intro w hw
  unfold wsV at hw
  simp only [List.cons_append, List.nil_append, List.mem_cons] at hw
  rcases hw with rfl | rfl | rfl | rfl | hw
  · exact ⟨h1, good_of_word (TB_good h1)⟩
  · exact ⟨h2, good_of_word (TB_good h2)⟩
  · exact ⟨h3, good_of_word (TB_good h3)⟩
  · exact ⟨h4, good_of_word (TB_good h4)⟩
  · exact h5 w hw
theorem TB_s {own : String} {idx : Nat} {y : MethodName} {ws : List Cond} (h1 : Cond.methodLink own idx y ∈ TB) (h2 : Cond.static y ∈ TB) (h4 : Cond.initialized y.cls ∈ TB) (h5 : GoodIn TB ws) : GoodIn TB (va_wsS own idx y ws) := by
  intro w hw
  unfold va_wsS at hw
  simp only [List.cons_append, List.nil_append, List.mem_cons] at hw
  rcases hw with rfl | rfl | rfl | hw
  · exact ⟨h1, good_of_word (TB_good h1)⟩
  · exact ⟨h2, good_of_word (TB_good h2)⟩
  · exact ⟨h4, good_of_word (TB_good h4)⟩
  · exact h5 w hw
theorem tb_0 : (.classLink RL 8 RX5 : Cond) ∈ TB := List.mem_filter.mpr ⟨by decide +kernel, by decide +kernel⟩
theorem tb_1 : (.instantiable RX5 7 : Cond) ∈ TB := List.mem_filter.mpr ⟨by decide +kernel, by decide +kernel⟩
theorem tb_2 : (.initialized RX5 : Cond) ∈ TB := List.mem_filter.mpr ⟨by decide +kernel, by decide +kernel⟩
theorem tb_3 : (.constantLong RL 215 (3434254022) : Cond) ∈ TB := List.mem_filter.mpr ⟨by decide +kernel, by decide +kernel⟩
theorem tb_4 : (.constantLong RL 217 (821) : Cond) ∈ TB := List.mem_filter.mpr ⟨by decide +kernel, by decide +kernel⟩
theorem tb_5 : (.constantLong RL 219 (400) : Cond) ∈ TB := List.mem_filter.mpr ⟨by decide +kernel, by decide +kernel⟩
theorem tb_6 : (.methodLink RL 196 yX5_init : Cond) ∈ TB := List.mem_filter.mpr ⟨by decide +kernel, by decide +kernel⟩
theorem tb_7 : (.instanceMethod yX5_init : Cond) ∈ TB := List.mem_filter.mpr ⟨by decide +kernel, by decide +kernel⟩
theorem tb_8 : (.code yX5_init cX5_init 1 none : Cond) ∈ TB := List.mem_filter.mpr ⟨List.mem_of_getElem? (i := 40) (by decide +kernel), by decide +kernel⟩
theorem tb_9 : (.methodLink RX5 1 objectInit : Cond) ∈ TB := List.mem_filter.mpr ⟨by decide +kernel, by decide +kernel⟩
theorem tb_10 : (.instanceMethod objectInit : Cond) ∈ TB := List.mem_filter.mpr ⟨by decide +kernel, by decide +kernel⟩
theorem tb_11 : (.code objectInit ⟨#[0xb1]⟩ 1 none : Cond) ∈ TB := List.mem_filter.mpr ⟨List.mem_of_getElem? (i := 43) (by decide +kernel), by decide +kernel⟩
theorem tb_12 : (.classLink RX5 7 RX1 : Cond) ∈ TB := List.mem_filter.mpr ⟨by decide +kernel, by decide +kernel⟩
theorem tb_13 : (.instantiable RX1 1 : Cond) ∈ TB := List.mem_filter.mpr ⟨by decide +kernel, by decide +kernel⟩
theorem tb_14 : (.initialized RX1 : Cond) ∈ TB := List.mem_filter.mpr ⟨by decide +kernel, by decide +kernel⟩
theorem tb_15 : (.fieldLink RX5 10 "PassedTraits" "land" "LPassedTraits$Land;" : Cond) ∈ TB := List.mem_filter.mpr ⟨by decide +kernel, by decide +kernel⟩
theorem tb_16 : (.classLink RX5 16 RX2 : Cond) ∈ TB := List.mem_filter.mpr ⟨by decide +kernel, by decide +kernel⟩
theorem tb_17 : (.instantiable RX2 3 : Cond) ∈ TB := List.mem_filter.mpr ⟨by decide +kernel, by decide +kernel⟩
theorem tb_18 : (.initialized RX2 : Cond) ∈ TB := List.mem_filter.mpr ⟨by decide +kernel, by decide +kernel⟩
theorem tb_19 : (.fieldLink RX5 19 "PassedTraits" "past" "LPassedTraits$Past;" : Cond) ∈ TB := List.mem_filter.mpr ⟨by decide +kernel, by decide +kernel⟩
theorem tb_20 : (.classLink RX5 23 RX4 : Cond) ∈ TB := List.mem_filter.mpr ⟨by decide +kernel, by decide +kernel⟩
theorem tb_21 : (.instantiable RX4 2 : Cond) ∈ TB := List.mem_filter.mpr ⟨by decide +kernel, by decide +kernel⟩
theorem tb_22 : (.initialized RX4 : Cond) ∈ TB := List.mem_filter.mpr ⟨by decide +kernel, by decide +kernel⟩
theorem tb_23 : (.fieldLink RX5 26 "PassedTraits" "text" "LPassedTraits$ReportText;" : Cond) ∈ TB := List.mem_filter.mpr ⟨by decide +kernel, by decide +kernel⟩
theorem tb_24 : (.classLink RX5 30 RX0 : Cond) ∈ TB := List.mem_filter.mpr ⟨by decide +kernel, by decide +kernel⟩
theorem tb_25 : (.instantiable RX0 16 : Cond) ∈ TB := List.mem_filter.mpr ⟨by decide +kernel, by decide +kernel⟩
theorem tb_26 : (.initialized RX0 : Cond) ∈ TB := List.mem_filter.mpr ⟨by decide +kernel, by decide +kernel⟩
theorem tb_27 : (.fieldLink RX5 33 "PassedTraits" "histories" "LPassedTraits$Histories;" : Cond) ∈ TB := List.mem_filter.mpr ⟨by decide +kernel, by decide +kernel⟩
theorem tb_28 : (.classLink RX5 37 RX3 : Cond) ∈ TB := List.mem_filter.mpr ⟨by decide +kernel, by decide +kernel⟩
theorem tb_29 : (.instantiable RX3 2 : Cond) ∈ TB := List.mem_filter.mpr ⟨by decide +kernel, by decide +kernel⟩
theorem tb_30 : (.initialized RX3 : Cond) ∈ TB := List.mem_filter.mpr ⟨by decide +kernel, by decide +kernel⟩
theorem tb_31 : (.fieldLink RX5 40 "PassedTraits" "rehearsal" "LPassedTraits$Rehearsal;" : Cond) ∈ TB := List.mem_filter.mpr ⟨by decide +kernel, by decide +kernel⟩
theorem tb_32 : (.classLink RX5 44 "[[I" : Cond) ∈ TB := List.mem_filter.mpr ⟨by decide +kernel, by decide +kernel⟩
theorem tb_33 : (.arrayClass .int : Cond) ∈ TB := List.mem_filter.mpr ⟨by decide +kernel, by decide +kernel⟩
theorem tb_34 : (.fieldLink RX5 46 "PassedTraits" "slots" "[[I" : Cond) ∈ TB := List.mem_filter.mpr ⟨by decide +kernel, by decide +kernel⟩
theorem tb_35 : (.arrayClass .boolean : Cond) ∈ TB := List.mem_filter.mpr ⟨by decide +kernel, by decide +kernel⟩
theorem tb_36 : (.fieldLink RX5 49 "PassedTraits" "saved" "[Z" : Cond) ∈ TB := List.mem_filter.mpr ⟨by decide +kernel, by decide +kernel⟩
theorem tb_37 : (.methodLink RX5 9 yX1_init : Cond) ∈ TB := List.mem_filter.mpr ⟨by decide +kernel, by decide +kernel⟩
theorem tb_38 : (.instanceMethod yX1_init : Cond) ∈ TB := List.mem_filter.mpr ⟨by decide +kernel, by decide +kernel⟩
theorem tb_39 : (.code yX1_init cX1_init 1 none : Cond) ∈ TB := List.mem_filter.mpr ⟨List.mem_of_getElem? (i := 48) (by decide +kernel), by decide +kernel⟩
theorem tb_40 : (.methodLink RX1 5 objectInit : Cond) ∈ TB := List.mem_filter.mpr ⟨by decide +kernel, by decide +kernel⟩
theorem tb_41 : (.fieldLink RX1 11 "PassedTraits$Land" "cells" "[I" : Cond) ∈ TB := List.mem_filter.mpr ⟨by decide +kernel, by decide +kernel⟩
theorem tb_42 : (.methodLink RX1 15 yJ7_fill_53178 : Cond) ∈ TB := List.mem_filter.mpr ⟨by decide +kernel, by decide +kernel⟩
theorem tb_43 : (.static yJ7_fill_53178 : Cond) ∈ TB := List.mem_filter.mpr ⟨by decide +kernel, by decide +kernel⟩
theorem tb_44 : (.initialized RJ7 : Cond) ∈ TB := List.mem_filter.mpr ⟨by decide +kernel, by decide +kernel⟩
theorem tb_45 : (.code yJ7_fill_53178 cJ7_fill_53178 4 none : Cond) ∈ TB := List.mem_filter.mpr ⟨List.mem_of_getElem? (i := 52) (by decide +kernel), by decide +kernel⟩
theorem tb_46 : (.methodLink RX5 18 yX2_init : Cond) ∈ TB := List.mem_filter.mpr ⟨by decide +kernel, by decide +kernel⟩
theorem tb_47 : (.instanceMethod yX2_init : Cond) ∈ TB := List.mem_filter.mpr ⟨by decide +kernel, by decide +kernel⟩
theorem tb_48 : (.code yX2_init cX2_init 1 none : Cond) ∈ TB := List.mem_filter.mpr ⟨List.mem_of_getElem? (i := 62) (by decide +kernel), by decide +kernel⟩
theorem tb_49 : (.methodLink RX2 1 objectInit : Cond) ∈ TB := List.mem_filter.mpr ⟨by decide +kernel, by decide +kernel⟩
theorem tb_50 : (.classLink RX2 11 "[[I" : Cond) ∈ TB := List.mem_filter.mpr ⟨by decide +kernel, by decide +kernel⟩
theorem tb_51 : (.fieldLink RX2 13 "PassedTraits$Past" "states" "[[I" : Cond) ∈ TB := List.mem_filter.mpr ⟨by decide +kernel, by decide +kernel⟩
theorem tb_52 : (.fieldLink RX2 16 "PassedTraits$Past" "oldest" "I" : Cond) ∈ TB := List.mem_filter.mpr ⟨by decide +kernel, by decide +kernel⟩
theorem tb_53 : (.fieldLink RX2 20 "PassedTraits$Past" "count" "I" : Cond) ∈ TB := List.mem_filter.mpr ⟨by decide +kernel, by decide +kernel⟩
theorem tb_54 : (.methodLink RX5 25 yX4_init : Cond) ∈ TB := List.mem_filter.mpr ⟨by decide +kernel, by decide +kernel⟩
theorem tb_55 : (.instanceMethod yX4_init : Cond) ∈ TB := List.mem_filter.mpr ⟨by decide +kernel, by decide +kernel⟩
theorem tb_56 : (.code yX4_init cX4_init 1 none : Cond) ∈ TB := List.mem_filter.mpr ⟨List.mem_of_getElem? (i := 80) (by decide +kernel), by decide +kernel⟩
theorem tb_57 : (.methodLink RX4 3 objectInit : Cond) ∈ TB := List.mem_filter.mpr ⟨by decide +kernel, by decide +kernel⟩
theorem tb_58 : (.arrayClass .char : Cond) ∈ TB := List.mem_filter.mpr ⟨by decide +kernel, by decide +kernel⟩
theorem tb_59 : (.fieldLink RX4 11 "PassedTraits$ReportText" "signs" "[C" : Cond) ∈ TB := List.mem_filter.mpr ⟨by decide +kernel, by decide +kernel⟩
theorem tb_60 : (.fieldLink RX4 15 "PassedTraits$ReportText" "length" "I" : Cond) ∈ TB := List.mem_filter.mpr ⟨by decide +kernel, by decide +kernel⟩
theorem tb_61 : (.methodLink RX5 32 yX0_init : Cond) ∈ TB := List.mem_filter.mpr ⟨by decide +kernel, by decide +kernel⟩
theorem tb_62 : (.instanceMethod yX0_init : Cond) ∈ TB := List.mem_filter.mpr ⟨by decide +kernel, by decide +kernel⟩
theorem tb_63 : (.code yX0_init cX0_init 1 none : Cond) ∈ TB := List.mem_filter.mpr ⟨List.mem_of_getElem? (i := 94) (by decide +kernel), by decide +kernel⟩
theorem tb_64 : (.methodLink RX0 3 objectInit : Cond) ∈ TB := List.mem_filter.mpr ⟨by decide +kernel, by decide +kernel⟩
theorem tb_65 : (.fieldLink RX0 9 "PassedTraits$Histories" "from" "[I" : Cond) ∈ TB := List.mem_filter.mpr ⟨by decide +kernel, by decide +kernel⟩
theorem tb_66 : (.fieldLink RX0 15 "PassedTraits$Histories" "to" "[I" : Cond) ∈ TB := List.mem_filter.mpr ⟨by decide +kernel, by decide +kernel⟩
theorem tb_67 : (.fieldLink RX0 18 "PassedTraits$Histories" "lengths" "[I" : Cond) ∈ TB := List.mem_filter.mpr ⟨by decide +kernel, by decide +kernel⟩
theorem tb_68 : (.fieldLink RX0 21 "PassedTraits$Histories" "earliest" "[I" : Cond) ∈ TB := List.mem_filter.mpr ⟨by decide +kernel, by decide +kernel⟩
theorem tb_69 : (.fieldLink RX0 24 "PassedTraits$Histories" "latest" "[I" : Cond) ∈ TB := List.mem_filter.mpr ⟨by decide +kernel, by decide +kernel⟩
theorem tb_70 : (.fieldLink RX0 27 "PassedTraits$Histories" "years" "[I" : Cond) ∈ TB := List.mem_filter.mpr ⟨by decide +kernel, by decide +kernel⟩
theorem tb_71 : (.fieldLink RX0 30 "PassedTraits$Histories" "explained" "[I" : Cond) ∈ TB := List.mem_filter.mpr ⟨by decide +kernel, by decide +kernel⟩
theorem tb_72 : (.fieldLink RX0 33 "PassedTraits$Histories" "together" "[I" : Cond) ∈ TB := List.mem_filter.mpr ⟨by decide +kernel, by decide +kernel⟩
theorem tb_73 : (.methodLink RX5 39 yX3_init : Cond) ∈ TB := List.mem_filter.mpr ⟨by decide +kernel, by decide +kernel⟩
theorem tb_74 : (.instanceMethod yX3_init : Cond) ∈ TB := List.mem_filter.mpr ⟨by decide +kernel, by decide +kernel⟩
theorem tb_75 : (.code yX3_init cX3_init 1 none : Cond) ∈ TB := List.mem_filter.mpr ⟨List.mem_of_getElem? (i := 153) (by decide +kernel), by decide +kernel⟩
theorem tb_76 : (.methodLink RX3 3 objectInit : Cond) ∈ TB := List.mem_filter.mpr ⟨by decide +kernel, by decide +kernel⟩
theorem tb_77 : (.classLink RX3 9 RX1 : Cond) ∈ TB := List.mem_filter.mpr ⟨by decide +kernel, by decide +kernel⟩
theorem tb_78 : (.fieldLink RX3 12 "PassedTraits$Rehearsal" "copy" "LPassedTraits$Land;" : Cond) ∈ TB := List.mem_filter.mpr ⟨by decide +kernel, by decide +kernel⟩
theorem tb_79 : (.classLink RX3 18 RX0 : Cond) ∈ TB := List.mem_filter.mpr ⟨by decide +kernel, by decide +kernel⟩
theorem tb_80 : (.fieldLink RX3 21 "PassedTraits$Rehearsal" "histories" "LPassedTraits$Histories;" : Cond) ∈ TB := List.mem_filter.mpr ⟨by decide +kernel, by decide +kernel⟩
theorem tb_81 : (.methodLink RX3 11 yX1_init : Cond) ∈ TB := List.mem_filter.mpr ⟨by decide +kernel, by decide +kernel⟩
theorem tb_82 : (.methodLink RX3 20 yX0_init : Cond) ∈ TB := List.mem_filter.mpr ⟨by decide +kernel, by decide +kernel⟩
theorem tb_83 : (.methodLink RL 197 yL_cell : Cond) ∈ TB := List.mem_filter.mpr ⟨by decide +kernel, by decide +kernel⟩
theorem tb_84 : (.static yL_cell : Cond) ∈ TB := List.mem_filter.mpr ⟨by decide +kernel, by decide +kernel⟩
theorem tb_85 : (.initialized RL : Cond) ∈ TB := List.mem_filter.mpr ⟨by decide +kernel, by decide +kernel⟩
theorem tb_86 : (.code yL_cell cL_cell 2 (some .int) : Cond) ∈ TB := List.mem_filter.mpr ⟨List.mem_of_getElem? (i := 777) (by decide +kernel), by decide +kernel⟩
theorem tb_87 : (.constant RL 164 (15518437) : Cond) ∈ TB := List.mem_filter.mpr ⟨by decide +kernel, by decide +kernel⟩
theorem tb_88 : (.constant RL 165 (2147483647) : Cond) ∈ TB := List.mem_filter.mpr ⟨by decide +kernel, by decide +kernel⟩
theorem tb_89 : (.methodLink RL 201 yL_refuses : Cond) ∈ TB := List.mem_filter.mpr ⟨by decide +kernel, by decide +kernel⟩
theorem tb_90 : (.static yL_refuses : Cond) ∈ TB := List.mem_filter.mpr ⟨by decide +kernel, by decide +kernel⟩
theorem tb_91 : (.code yL_refuses cL_refuses 5 (some .boolean) : Cond) ∈ TB := List.mem_filter.mpr ⟨List.mem_of_getElem? (i := 782) (by decide +kernel), by decide +kernel⟩
theorem tb_92 : (.constant RL 18 (-9999002) : Cond) ∈ TB := List.mem_filter.mpr ⟨by decide +kernel, by decide +kernel⟩
theorem tb_93 : (.constant RL 15 (-9999001) : Cond) ∈ TB := List.mem_filter.mpr ⟨by decide +kernel, by decide +kernel⟩
theorem tb_94 : (.constant RL 37 (-9999003) : Cond) ∈ TB := List.mem_filter.mpr ⟨by decide +kernel, by decide +kernel⟩
theorem tb_95 : (.constantLong RL 182 (1000000) : Cond) ∈ TB := List.mem_filter.mpr ⟨by decide +kernel, by decide +kernel⟩
theorem tb_96 : (.constantLong RL 184 (-1) : Cond) ∈ TB := List.mem_filter.mpr ⟨by decide +kernel, by decide +kernel⟩
theorem tb_97 : (.methodLink RL 166 yL_call : Cond) ∈ TB := List.mem_filter.mpr ⟨by decide +kernel, by decide +kernel⟩
theorem tb_98 : (.static yL_call : Cond) ∈ TB := List.mem_filter.mpr ⟨by decide +kernel, by decide +kernel⟩
theorem tb_99 : (.code yL_call cL_call 5 (some .int) : Cond) ∈ TB := List.mem_filter.mpr ⟨List.mem_of_getElem? (i := 467) (by decide +kernel), by decide +kernel⟩
theorem tb_100 : (.methodLink RL 98 yL_tryAppend : Cond) ∈ TB := List.mem_filter.mpr ⟨by decide +kernel, by decide +kernel⟩
theorem tb_101 : (.static yL_tryAppend : Cond) ∈ TB := List.mem_filter.mpr ⟨by decide +kernel, by decide +kernel⟩
theorem tb_102 : (.codeWith yL_tryAppend cL_tryAppend 3 (some .int) [(0, 5, 6, 16), (0, 5, 10, 35)] : Cond) ∈ TB := List.mem_filter.mpr ⟨by decide +kernel, by decide +kernel⟩
theorem tb_103 : (.classLink RL 16 "java/lang/IllegalArgumentException" : Cond) ∈ TB := List.mem_filter.mpr ⟨by decide +kernel, by decide +kernel⟩
theorem tb_104 : (.classLink RL 35 "java/lang/IllegalStateException" : Cond) ∈ TB := List.mem_filter.mpr ⟨by decide +kernel, by decide +kernel⟩
theorem tb_105 : (.methodLink RL 31 yX5_append : Cond) ∈ TB := List.mem_filter.mpr ⟨by decide +kernel, by decide +kernel⟩
theorem tb_106 : (.instanceMethod yX5_append : Cond) ∈ TB := List.mem_filter.mpr ⟨by decide +kernel, by decide +kernel⟩
theorem tb_107 : (.selects RX5 yX5_append yX5_append : Cond) ∈ TB := List.mem_filter.mpr ⟨by decide +kernel, by decide +kernel⟩
theorem tb_108 : (.code yX5_append cX5_append 2 (some .int) : Cond) ∈ TB := List.mem_filter.mpr ⟨List.mem_of_getElem? (i := 475) (by decide +kernel), by decide +kernel⟩
theorem tb_109 : (.classLink RX5 53 "java/lang/IllegalArgumentException" : Cond) ∈ TB := List.mem_filter.mpr ⟨by decide +kernel, by decide +kernel⟩
theorem tb_110 : (.initialized "java/lang/IllegalArgumentException" : Cond) ∈ TB := List.mem_filter.mpr ⟨by decide +kernel, by decide +kernel⟩
theorem tb_111 : (.classLink RX5 64 "java/lang/IllegalStateException" : Cond) ∈ TB := List.mem_filter.mpr ⟨by decide +kernel, by decide +kernel⟩
theorem tb_112 : (.initialized "java/lang/IllegalStateException" : Cond) ∈ TB := List.mem_filter.mpr ⟨by decide +kernel, by decide +kernel⟩
theorem tb_113 : (.methodLink RX5 60 yX4_isFull : Cond) ∈ TB := List.mem_filter.mpr ⟨by decide +kernel, by decide +kernel⟩
theorem tb_114 : (.instanceMethod yX4_isFull : Cond) ∈ TB := List.mem_filter.mpr ⟨by decide +kernel, by decide +kernel⟩
theorem tb_115 : (.selects RX4 yX4_isFull yX4_isFull : Cond) ∈ TB := List.mem_filter.mpr ⟨by decide +kernel, by decide +kernel⟩
theorem tb_116 : (.code yX4_isFull cX4_isFull 1 (some .boolean) : Cond) ∈ TB := List.mem_filter.mpr ⟨List.mem_of_getElem? (i := 480) (by decide +kernel), by decide +kernel⟩
theorem tb_117 : (.methodLink RX5 69 yX4_add : Cond) ∈ TB := List.mem_filter.mpr ⟨by decide +kernel, by decide +kernel⟩
theorem tb_118 : (.instanceMethod yX4_add : Cond) ∈ TB := List.mem_filter.mpr ⟨by decide +kernel, by decide +kernel⟩
theorem tb_119 : (.selects RX4 yX4_add yX4_add : Cond) ∈ TB := List.mem_filter.mpr ⟨by decide +kernel, by decide +kernel⟩
theorem tb_120 : (.code yX4_add cX4_add 2 (some .int) : Cond) ∈ TB := List.mem_filter.mpr ⟨List.mem_of_getElem? (i := 500) (by decide +kernel), by decide +kernel⟩
theorem tb_121 : (.methodLink RL 104 yL_tryAbout : Cond) ∈ TB := List.mem_filter.mpr ⟨by decide +kernel, by decide +kernel⟩
theorem tb_122 : (.static yL_tryAbout : Cond) ∈ TB := List.mem_filter.mpr ⟨by decide +kernel, by decide +kernel⟩
theorem tb_123 : (.codeWith yL_tryAbout cL_tryAbout 3 (some .int) [(0, 5, 6, 16)] : Cond) ∈ TB := List.mem_filter.mpr ⟨by decide +kernel, by decide +kernel⟩
theorem tb_124 : (.methodLink RL 38 yX5_about : Cond) ∈ TB := List.mem_filter.mpr ⟨by decide +kernel, by decide +kernel⟩
theorem tb_125 : (.instanceMethod yX5_about : Cond) ∈ TB := List.mem_filter.mpr ⟨by decide +kernel, by decide +kernel⟩
theorem tb_126 : (.selects RX5 yX5_about yX5_about : Cond) ∈ TB := List.mem_filter.mpr ⟨by decide +kernel, by decide +kernel⟩
theorem tb_127 : (.code yX5_about cX5_about 2 (some .int) : Cond) ∈ TB := List.mem_filter.mpr ⟨List.mem_of_getElem? (i := 508) (by decide +kernel), by decide +kernel⟩
theorem tb_128 : (.methodLink RX5 80 yX1_townCount : Cond) ∈ TB := List.mem_filter.mpr ⟨by decide +kernel, by decide +kernel⟩
theorem tb_129 : (.instanceMethod yX1_townCount : Cond) ∈ TB := List.mem_filter.mpr ⟨by decide +kernel, by decide +kernel⟩
theorem tb_130 : (.selects RX1 yX1_townCount yX1_townCount : Cond) ∈ TB := List.mem_filter.mpr ⟨by decide +kernel, by decide +kernel⟩
theorem tb_131 : (.code yX1_townCount cX1_townCount 1 (some .int) : Cond) ∈ TB := List.mem_filter.mpr ⟨List.mem_of_getElem? (i := 216) (by decide +kernel), by decide +kernel⟩
theorem tb_132 : (.methodLink RX5 83 yX1_roadCount : Cond) ∈ TB := List.mem_filter.mpr ⟨by decide +kernel, by decide +kernel⟩
theorem tb_133 : (.instanceMethod yX1_roadCount : Cond) ∈ TB := List.mem_filter.mpr ⟨by decide +kernel, by decide +kernel⟩
theorem tb_134 : (.selects RX1 yX1_roadCount yX1_roadCount : Cond) ∈ TB := List.mem_filter.mpr ⟨by decide +kernel, by decide +kernel⟩
theorem tb_135 : (.code yX1_roadCount cX1_roadCount 4 (some .int) : Cond) ∈ TB := List.mem_filter.mpr ⟨List.mem_of_getElem? (i := 413) (by decide +kernel), by decide +kernel⟩
theorem tb_136 : (.methodLink RX1 35 yX1_roadLength : Cond) ∈ TB := List.mem_filter.mpr ⟨by decide +kernel, by decide +kernel⟩
theorem tb_137 : (.instanceMethod yX1_roadLength : Cond) ∈ TB := List.mem_filter.mpr ⟨by decide +kernel, by decide +kernel⟩
theorem tb_138 : (.selects RX1 yX1_roadLength yX1_roadLength : Cond) ∈ TB := List.mem_filter.mpr ⟨by decide +kernel, by decide +kernel⟩
theorem tb_139 : (.code yX1_roadLength cX1_roadLength 3 (some .int) : Cond) ∈ TB := List.mem_filter.mpr ⟨List.mem_of_getElem? (i := 252) (by decide +kernel), by decide +kernel⟩
theorem tb_140 : (.methodLink RX1 31 yX1_isTown : Cond) ∈ TB := List.mem_filter.mpr ⟨by decide +kernel, by decide +kernel⟩
theorem tb_141 : (.instanceMethod yX1_isTown : Cond) ∈ TB := List.mem_filter.mpr ⟨by decide +kernel, by decide +kernel⟩
theorem tb_142 : (.selects RX1 yX1_isTown yX1_isTown : Cond) ∈ TB := List.mem_filter.mpr ⟨by decide +kernel, by decide +kernel⟩
theorem tb_143 : (.code yX1_isTown cX1_isTown 2 (some .boolean) : Cond) ∈ TB := List.mem_filter.mpr ⟨List.mem_of_getElem? (i := 228) (by decide +kernel), by decide +kernel⟩
theorem tb_144 : (.methodLink RX5 86 yX1_reportedPairs : Cond) ∈ TB := List.mem_filter.mpr ⟨by decide +kernel, by decide +kernel⟩
theorem tb_145 : (.instanceMethod yX1_reportedPairs : Cond) ∈ TB := List.mem_filter.mpr ⟨by decide +kernel, by decide +kernel⟩
theorem tb_146 : (.selects RX1 yX1_reportedPairs yX1_reportedPairs : Cond) ∈ TB := List.mem_filter.mpr ⟨by decide +kernel, by decide +kernel⟩
theorem tb_147 : (.code yX1_reportedPairs cX1_reportedPairs 4 (some .int) : Cond) ∈ TB := List.mem_filter.mpr ⟨List.mem_of_getElem? (i := 514) (by decide +kernel), by decide +kernel⟩
theorem tb_148 : (.methodLink RX1 46 yX1_isReported : Cond) ∈ TB := List.mem_filter.mpr ⟨by decide +kernel, by decide +kernel⟩
theorem tb_149 : (.instanceMethod yX1_isReported : Cond) ∈ TB := List.mem_filter.mpr ⟨by decide +kernel, by decide +kernel⟩
theorem tb_150 : (.selects RX1 yX1_isReported yX1_isReported : Cond) ∈ TB := List.mem_filter.mpr ⟨by decide +kernel, by decide +kernel⟩
theorem tb_151 : (.code yX1_isReported cX1_isReported 3 (some .boolean) : Cond) ∈ TB := List.mem_filter.mpr ⟨List.mem_of_getElem? (i := 220) (by decide +kernel), by decide +kernel⟩
theorem tb_152 : (.methodLink RX1 42 yX1_reportedYear : Cond) ∈ TB := List.mem_filter.mpr ⟨by decide +kernel, by decide +kernel⟩
theorem tb_153 : (.instanceMethod yX1_reportedYear : Cond) ∈ TB := List.mem_filter.mpr ⟨by decide +kernel, by decide +kernel⟩
theorem tb_154 : (.selects RX1 yX1_reportedYear yX1_reportedYear : Cond) ∈ TB := List.mem_filter.mpr ⟨by decide +kernel, by decide +kernel⟩
theorem tb_155 : (.code yX1_reportedYear cX1_reportedYear 4 (some .int) : Cond) ∈ TB := List.mem_filter.mpr ⟨List.mem_of_getElem? (i := 224) (by decide +kernel), by decide +kernel⟩
theorem tb_156 : (.static yX5_isTrait : Cond) ∈ TB := List.mem_filter.mpr ⟨by decide +kernel, by decide +kernel⟩
theorem tb_157 : (.code yX5_isTrait cX5_isTrait 1 (some .boolean) : Cond) ∈ TB := List.mem_filter.mpr ⟨List.mem_of_getElem? (i := 231) (by decide +kernel), by decide +kernel⟩
theorem tb_158 : (.methodLink RX5 89 yX1_contradictions : Cond) ∈ TB := List.mem_filter.mpr ⟨by decide +kernel, by decide +kernel⟩
theorem tb_159 : (.instanceMethod yX1_contradictions : Cond) ∈ TB := List.mem_filter.mpr ⟨by decide +kernel, by decide +kernel⟩
theorem tb_160 : (.selects RX1 yX1_contradictions yX1_contradictions : Cond) ∈ TB := List.mem_filter.mpr ⟨by decide +kernel, by decide +kernel⟩
theorem tb_161 : (.code yX1_contradictions cX1_contradictions 4 (some .int) : Cond) ∈ TB := List.mem_filter.mpr ⟨List.mem_of_getElem? (i := 459) (by decide +kernel), by decide +kernel⟩
theorem tb_162 : (.methodLink RX1 50 yX1_isContradicted : Cond) ∈ TB := List.mem_filter.mpr ⟨by decide +kernel, by decide +kernel⟩
theorem tb_163 : (.instanceMethod yX1_isContradicted : Cond) ∈ TB := List.mem_filter.mpr ⟨by decide +kernel, by decide +kernel⟩
theorem tb_164 : (.selects RX1 yX1_isContradicted yX1_isContradicted : Cond) ∈ TB := List.mem_filter.mpr ⟨by decide +kernel, by decide +kernel⟩
theorem tb_165 : (.code yX1_isContradicted cX1_isContradicted 4 (some .boolean) : Cond) ∈ TB := List.mem_filter.mpr ⟨List.mem_of_getElem? (i := 463) (by decide +kernel), by decide +kernel⟩
theorem tb_166 : (.methodLink RX5 92 yX0_inventedTraits : Cond) ∈ TB := List.mem_filter.mpr ⟨by decide +kernel, by decide +kernel⟩
theorem tb_167 : (.instanceMethod yX0_inventedTraits : Cond) ∈ TB := List.mem_filter.mpr ⟨by decide +kernel, by decide +kernel⟩
theorem tb_168 : (.selects RX0 yX0_inventedTraits yX0_inventedTraits : Cond) ∈ TB := List.mem_filter.mpr ⟨by decide +kernel, by decide +kernel⟩
theorem tb_169 : (.code yX0_inventedTraits cX0_inventedTraits 4 (some .int) : Cond) ∈ TB := List.mem_filter.mpr ⟨List.mem_of_getElem? (i := 519) (by decide +kernel), by decide +kernel⟩
theorem tb_170 : (.methodLink RX0 36 yX0_study : Cond) ∈ TB := List.mem_filter.mpr ⟨by decide +kernel, by decide +kernel⟩
theorem tb_171 : (.instanceMethod yX0_study : Cond) ∈ TB := List.mem_filter.mpr ⟨by decide +kernel, by decide +kernel⟩
theorem tb_172 : (.selects RX0 yX0_study yX0_study : Cond) ∈ TB := List.mem_filter.mpr ⟨by decide +kernel, by decide +kernel⟩
theorem tb_173 : (.code yX0_study cX0_study 3 (some .int) : Cond) ∈ TB := List.mem_filter.mpr ⟨List.mem_of_getElem? (i := 240) (by decide +kernel), by decide +kernel⟩
theorem tb_174 : (.methodLink RX0 52 Lib.Math.min.name : Cond) ∈ TB := List.mem_filter.mpr ⟨by decide +kernel, by decide +kernel⟩
theorem tb_175 : (.static Lib.Math.min.name : Cond) ∈ TB := List.mem_filter.mpr ⟨by decide +kernel, by decide +kernel⟩
theorem tb_176 : (.initialized "java/lang/Math" : Cond) ∈ TB := List.mem_filter.mpr ⟨by decide +kernel, by decide +kernel⟩
theorem tb_177 : (.code Lib.Math.min.name Lib.Math.min.code 2 (some .int) : Cond) ∈ TB := List.mem_filter.mpr ⟨List.mem_of_getElem? (i := 244) (by decide +kernel), by decide +kernel⟩
theorem tb_178 : (.fieldLink RX0 55 "PassedTraits$Histories" "towns" "I" : Cond) ∈ TB := List.mem_filter.mpr ⟨by decide +kernel, by decide +kernel⟩
theorem tb_179 : (.fieldLink RX0 59 "PassedTraits$Histories" "fewest" "I" : Cond) ∈ TB := List.mem_filter.mpr ⟨by decide +kernel, by decide +kernel⟩
theorem tb_180 : (.fieldLink RX0 62 "PassedTraits$Histories" "origins" "I" : Cond) ∈ TB := List.mem_filter.mpr ⟨by decide +kernel, by decide +kernel⟩
theorem tb_181 : (.methodLink RX0 46 yX1_townCount : Cond) ∈ TB := List.mem_filter.mpr ⟨by decide +kernel, by decide +kernel⟩
theorem tb_182 : (.methodLink RX0 65 yX0_takeRoads : Cond) ∈ TB := List.mem_filter.mpr ⟨by decide +kernel, by decide +kernel⟩
theorem tb_183 : (.instanceMethod yX0_takeRoads : Cond) ∈ TB := List.mem_filter.mpr ⟨by decide +kernel, by decide +kernel⟩
theorem tb_184 : (.selects RX0 yX0_takeRoads yX0_takeRoads : Cond) ∈ TB := List.mem_filter.mpr ⟨by decide +kernel, by decide +kernel⟩
theorem tb_185 : (.code yX0_takeRoads cX0_takeRoads 5 none : Cond) ∈ TB := List.mem_filter.mpr ⟨List.mem_of_getElem? (i := 248) (by decide +kernel), by decide +kernel⟩
theorem tb_186 : (.fieldLink RX0 93 "PassedTraits$Histories" "roads" "I" : Cond) ∈ TB := List.mem_filter.mpr ⟨by decide +kernel, by decide +kernel⟩
theorem tb_187 : (.methodLink RX0 96 yX1_roadLength : Cond) ∈ TB := List.mem_filter.mpr ⟨by decide +kernel, by decide +kernel⟩
theorem tb_188 : (.methodLink RX0 69 yX0_takeReports : Cond) ∈ TB := List.mem_filter.mpr ⟨by decide +kernel, by decide +kernel⟩
theorem tb_189 : (.instanceMethod yX0_takeReports : Cond) ∈ TB := List.mem_filter.mpr ⟨by decide +kernel, by decide +kernel⟩
theorem tb_190 : (.selects RX0 yX0_takeReports yX0_takeReports : Cond) ∈ TB := List.mem_filter.mpr ⟨by decide +kernel, by decide +kernel⟩
theorem tb_191 : (.code yX0_takeReports cX0_takeReports 5 (some .boolean) : Cond) ∈ TB := List.mem_filter.mpr ⟨List.mem_of_getElem? (i := 256) (by decide +kernel), by decide +kernel⟩
theorem tb_192 : (.fieldLink RX0 86 "PassedTraits$Histories" "known" "I" : Cond) ∈ TB := List.mem_filter.mpr ⟨by decide +kernel, by decide +kernel⟩
theorem tb_193 : (.methodLink RX0 89 yX1_reportedYear : Cond) ∈ TB := List.mem_filter.mpr ⟨by decide +kernel, by decide +kernel⟩
theorem tb_194 : (.methodLink RX0 73 yX0_explainAlone : Cond) ∈ TB := List.mem_filter.mpr ⟨by decide +kernel, by decide +kernel⟩
theorem tb_195 : (.instanceMethod yX0_explainAlone : Cond) ∈ TB := List.mem_filter.mpr ⟨by decide +kernel, by decide +kernel⟩
theorem tb_196 : (.selects RX0 yX0_explainAlone yX0_explainAlone : Cond) ∈ TB := List.mem_filter.mpr ⟨by decide +kernel, by decide +kernel⟩
theorem tb_197 : (.code yX0_explainAlone cX0_explainAlone 2 none : Cond) ∈ TB := List.mem_filter.mpr ⟨List.mem_of_getElem? (i := 261) (by decide +kernel), by decide +kernel⟩
theorem tb_198 : (.methodLink RX0 79 yX0_inventIn : Cond) ∈ TB := List.mem_filter.mpr ⟨by decide +kernel, by decide +kernel⟩
theorem tb_199 : (.instanceMethod yX0_inventIn : Cond) ∈ TB := List.mem_filter.mpr ⟨by decide +kernel, by decide +kernel⟩
theorem tb_200 : (.selects RX0 yX0_inventIn yX0_inventIn : Cond) ∈ TB := List.mem_filter.mpr ⟨by decide +kernel, by decide +kernel⟩
theorem tb_201 : (.code yX0_inventIn cX0_inventIn 3 none : Cond) ∈ TB := List.mem_filter.mpr ⟨List.mem_of_getElem? (i := 265) (by decide +kernel), by decide +kernel⟩
theorem tb_202 : (.methodLink RX0 83 yX0_spread : Cond) ∈ TB := List.mem_filter.mpr ⟨by decide +kernel, by decide +kernel⟩
theorem tb_203 : (.instanceMethod yX0_spread : Cond) ∈ TB := List.mem_filter.mpr ⟨by decide +kernel, by decide +kernel⟩
theorem tb_204 : (.selects RX0 yX0_spread yX0_spread : Cond) ∈ TB := List.mem_filter.mpr ⟨by decide +kernel, by decide +kernel⟩
theorem tb_205 : (.code yX0_spread cX0_spread 6 none : Cond) ∈ TB := List.mem_filter.mpr ⟨List.mem_of_getElem? (i := 269) (by decide +kernel), by decide +kernel⟩
theorem tb_206 : (.methodLink RX0 120 yX0_passOn : Cond) ∈ TB := List.mem_filter.mpr ⟨by decide +kernel, by decide +kernel⟩
theorem tb_207 : (.instanceMethod yX0_passOn : Cond) ∈ TB := List.mem_filter.mpr ⟨by decide +kernel, by decide +kernel⟩
theorem tb_208 : (.selects RX0 yX0_passOn yX0_passOn : Cond) ∈ TB := List.mem_filter.mpr ⟨by decide +kernel, by decide +kernel⟩
theorem tb_209 : (.code yX0_passOn cX0_passOn 5 (some .boolean) : Cond) ∈ TB := List.mem_filter.mpr ⟨List.mem_of_getElem? (i := 273) (by decide +kernel), by decide +kernel⟩
theorem tb_210 : (.methodLink RX0 99 yX0_knownInTime : Cond) ∈ TB := List.mem_filter.mpr ⟨by decide +kernel, by decide +kernel⟩
theorem tb_211 : (.instanceMethod yX0_knownInTime : Cond) ∈ TB := List.mem_filter.mpr ⟨by decide +kernel, by decide +kernel⟩
theorem tb_212 : (.selects RX0 yX0_knownInTime yX0_knownInTime : Cond) ∈ TB := List.mem_filter.mpr ⟨by decide +kernel, by decide +kernel⟩
theorem tb_213 : (.code yX0_knownInTime cX0_knownInTime 3 (some .int) : Cond) ∈ TB := List.mem_filter.mpr ⟨List.mem_of_getElem? (i := 277) (by decide +kernel), by decide +kernel⟩
theorem tb_214 : (.methodLink RX0 76 yX0_weighSets : Cond) ∈ TB := List.mem_filter.mpr ⟨by decide +kernel, by decide +kernel⟩
theorem tb_215 : (.instanceMethod yX0_weighSets : Cond) ∈ TB := List.mem_filter.mpr ⟨by decide +kernel, by decide +kernel⟩
theorem tb_216 : (.selects RX0 yX0_weighSets yX0_weighSets : Cond) ∈ TB := List.mem_filter.mpr ⟨by decide +kernel, by decide +kernel⟩
theorem tb_217 : (.code yX0_weighSets cX0_weighSets 4 none : Cond) ∈ TB := List.mem_filter.mpr ⟨List.mem_of_getElem? (i := 281) (by decide +kernel), by decide +kernel⟩
theorem tb_218 : (.methodLink RX0 102 yX0_weigh : Cond) ∈ TB := List.mem_filter.mpr ⟨by decide +kernel, by decide +kernel⟩
theorem tb_219 : (.instanceMethod yX0_weigh : Cond) ∈ TB := List.mem_filter.mpr ⟨by decide +kernel, by decide +kernel⟩
theorem tb_220 : (.selects RX0 yX0_weigh yX0_weigh : Cond) ∈ TB := List.mem_filter.mpr ⟨by decide +kernel, by decide +kernel⟩
theorem tb_221 : (.code yX0_weigh cX0_weigh 3 none : Cond) ∈ TB := List.mem_filter.mpr ⟨List.mem_of_getElem? (i := 285) (by decide +kernel), by decide +kernel⟩
theorem tb_222 : (.fieldLink RX0 111 "PassedTraits$Histories" "always" "I" : Cond) ∈ TB := List.mem_filter.mpr ⟨by decide +kernel, by decide +kernel⟩
theorem tb_223 : (.fieldLink RX0 114 "PassedTraits$Histories" "sometimes" "I" : Cond) ∈ TB := List.mem_filter.mpr ⟨by decide +kernel, by decide +kernel⟩
theorem tb_224 : (.fieldLink RX0 117 "PassedTraits$Histories" "leastSets" "I" : Cond) ∈ TB := List.mem_filter.mpr ⟨by decide +kernel, by decide +kernel⟩
theorem tb_225 : (.methodLink RX0 105 yJ6_bitCount_0f7a4 : Cond) ∈ TB := List.mem_filter.mpr ⟨by decide +kernel, by decide +kernel⟩
theorem tb_226 : (.static yJ6_bitCount_0f7a4 : Cond) ∈ TB := List.mem_filter.mpr ⟨by decide +kernel, by decide +kernel⟩
theorem tb_227 : (.initialized RJ6 : Cond) ∈ TB := List.mem_filter.mpr ⟨by decide +kernel, by decide +kernel⟩
theorem tb_228 : (.code yJ6_bitCount_0f7a4 cJ6_bitCount_0f7a4 1 (some .int) : Cond) ∈ TB := List.mem_filter.mpr ⟨List.mem_of_getElem? (i := 288) (by decide +kernel), by decide +kernel⟩
theorem tb_229 : (.constant RJ6 265 (1431655765) : Cond) ∈ TB := List.mem_filter.mpr ⟨by decide +kernel, by decide +kernel⟩
theorem tb_230 : (.constant RJ6 266 (858993459) : Cond) ∈ TB := List.mem_filter.mpr ⟨by decide +kernel, by decide +kernel⟩
theorem tb_231 : (.constant RJ6 267 (252645135) : Cond) ∈ TB := List.mem_filter.mpr ⟨by decide +kernel, by decide +kernel⟩
theorem tb_232 : (.methodLink RX5 96 yX0_allInventions : Cond) ∈ TB := List.mem_filter.mpr ⟨by decide +kernel, by decide +kernel⟩
theorem tb_233 : (.instanceMethod yX0_allInventions : Cond) ∈ TB := List.mem_filter.mpr ⟨by decide +kernel, by decide +kernel⟩
theorem tb_234 : (.selects RX0 yX0_allInventions yX0_allInventions : Cond) ∈ TB := List.mem_filter.mpr ⟨by decide +kernel, by decide +kernel⟩
theorem tb_235 : (.code yX0_allInventions cX0_allInventions 4 (some .int) : Cond) ∈ TB := List.mem_filter.mpr ⟨List.mem_of_getElem? (i := 429) (by decide +kernel), by decide +kernel⟩
theorem tb_236 : (.methodLink RX0 40 Lib.Math.max.name : Cond) ∈ TB := List.mem_filter.mpr ⟨by decide +kernel, by decide +kernel⟩
theorem tb_237 : (.static Lib.Math.max.name : Cond) ∈ TB := List.mem_filter.mpr ⟨by decide +kernel, by decide +kernel⟩
theorem tb_238 : (.code Lib.Math.max.name Lib.Math.max.code 2 (some .int) : Cond) ∈ TB := List.mem_filter.mpr ⟨List.mem_of_getElem? (i := 294) (by decide +kernel), by decide +kernel⟩
theorem tb_239 : (.methodLink RL 107 yL_tryRoad : Cond) ∈ TB := List.mem_filter.mpr ⟨by decide +kernel, by decide +kernel⟩
theorem tb_240 : (.static yL_tryRoad : Cond) ∈ TB := List.mem_filter.mpr ⟨by decide +kernel, by decide +kernel⟩
theorem tb_241 : (.codeWith yL_tryRoad cL_tryRoad 4 (some .int) [(0, 6, 7, 13)] : Cond) ∈ TB := List.mem_filter.mpr ⟨by decide +kernel, by decide +kernel⟩
theorem tb_242 : (.classLink RL 13 "java/lang/IndexOutOfBoundsException" : Cond) ∈ TB := List.mem_filter.mpr ⟨by decide +kernel, by decide +kernel⟩
theorem tb_243 : (.methodLink RL 41 yX5_road : Cond) ∈ TB := List.mem_filter.mpr ⟨by decide +kernel, by decide +kernel⟩
theorem tb_244 : (.instanceMethod yX5_road : Cond) ∈ TB := List.mem_filter.mpr ⟨by decide +kernel, by decide +kernel⟩
theorem tb_245 : (.selects RX5 yX5_road yX5_road : Cond) ∈ TB := List.mem_filter.mpr ⟨by decide +kernel, by decide +kernel⟩
theorem tb_246 : (.code yX5_road cX5_road 3 (some .int) : Cond) ∈ TB := List.mem_filter.mpr ⟨List.mem_of_getElem? (i := 529) (by decide +kernel), by decide +kernel⟩
theorem tb_247 : (.methodLink RX5 101 yX5_needTown : Cond) ∈ TB := List.mem_filter.mpr ⟨by decide +kernel, by decide +kernel⟩
theorem tb_248 : (.instanceMethod yX5_needTown : Cond) ∈ TB := List.mem_filter.mpr ⟨by decide +kernel, by decide +kernel⟩
theorem tb_249 : (.selects RX5 yX5_needTown yX5_needTown : Cond) ∈ TB := List.mem_filter.mpr ⟨by decide +kernel, by decide +kernel⟩
theorem tb_250 : (.code yX5_needTown cX5_needTown 2 none : Cond) ∈ TB := List.mem_filter.mpr ⟨List.mem_of_getElem? (i := 533) (by decide +kernel), by decide +kernel⟩
theorem tb_251 : (.classLink RX5 257 "java/lang/IndexOutOfBoundsException" : Cond) ∈ TB := List.mem_filter.mpr ⟨by decide +kernel, by decide +kernel⟩
theorem tb_252 : (.initialized "java/lang/IndexOutOfBoundsException" : Cond) ∈ TB := List.mem_filter.mpr ⟨by decide +kernel, by decide +kernel⟩
theorem tb_253 : (.methodLink RX5 254 yX1_isTown : Cond) ∈ TB := List.mem_filter.mpr ⟨by decide +kernel, by decide +kernel⟩
theorem tb_254 : (.methodLink RX5 105 yX1_roadLength : Cond) ∈ TB := List.mem_filter.mpr ⟨by decide +kernel, by decide +kernel⟩
theorem tb_255 : (.methodLink RL 111 yL_tryNeighbor : Cond) ∈ TB := List.mem_filter.mpr ⟨by decide +kernel, by decide +kernel⟩
theorem tb_256 : (.static yL_tryNeighbor : Cond) ∈ TB := List.mem_filter.mpr ⟨by decide +kernel, by decide +kernel⟩
theorem tb_257 : (.codeWith yL_tryNeighbor cL_tryNeighbor 4 (some .int) [(0, 6, 7, 13), (0, 6, 11, 16)] : Cond) ∈ TB := List.mem_filter.mpr ⟨by decide +kernel, by decide +kernel⟩
theorem tb_258 : (.methodLink RL 45 yX5_neighbor : Cond) ∈ TB := List.mem_filter.mpr ⟨by decide +kernel, by decide +kernel⟩
theorem tb_259 : (.instanceMethod yX5_neighbor : Cond) ∈ TB := List.mem_filter.mpr ⟨by decide +kernel, by decide +kernel⟩
theorem tb_260 : (.selects RX5 yX5_neighbor yX5_neighbor : Cond) ∈ TB := List.mem_filter.mpr ⟨by decide +kernel, by decide +kernel⟩
theorem tb_261 : (.code yX5_neighbor cX5_neighbor 3 (some .int) : Cond) ∈ TB := List.mem_filter.mpr ⟨List.mem_of_getElem? (i := 559) (by decide +kernel), by decide +kernel⟩
theorem tb_262 : (.methodLink RX5 109 yX5_needCount : Cond) ∈ TB := List.mem_filter.mpr ⟨by decide +kernel, by decide +kernel⟩
theorem tb_263 : (.static yX5_needCount : Cond) ∈ TB := List.mem_filter.mpr ⟨by decide +kernel, by decide +kernel⟩
theorem tb_264 : (.code yX5_needCount cX5_needCount 1 none : Cond) ∈ TB := List.mem_filter.mpr ⟨List.mem_of_getElem? (i := 562) (by decide +kernel), by decide +kernel⟩
theorem tb_265 : (.methodLink RX5 112 yX1_townBeside : Cond) ∈ TB := List.mem_filter.mpr ⟨by decide +kernel, by decide +kernel⟩
theorem tb_266 : (.instanceMethod yX1_townBeside : Cond) ∈ TB := List.mem_filter.mpr ⟨by decide +kernel, by decide +kernel⟩
theorem tb_267 : (.selects RX1 yX1_townBeside yX1_townBeside : Cond) ∈ TB := List.mem_filter.mpr ⟨by decide +kernel, by decide +kernel⟩
theorem tb_268 : (.code yX1_townBeside cX1_townBeside 5 (some .int) : Cond) ∈ TB := List.mem_filter.mpr ⟨List.mem_of_getElem? (i := 567) (by decide +kernel), by decide +kernel⟩
theorem tb_269 : (.methodLink RL 114 yL_tryFound : Cond) ∈ TB := List.mem_filter.mpr ⟨by decide +kernel, by decide +kernel⟩
theorem tb_270 : (.static yL_tryFound : Cond) ∈ TB := List.mem_filter.mpr ⟨by decide +kernel, by decide +kernel⟩
theorem tb_271 : (.codeWith yL_tryFound cL_tryFound 2 (some .int) [(0, 4, 5, 35)] : Cond) ∈ TB := List.mem_filter.mpr ⟨by decide +kernel, by decide +kernel⟩
theorem tb_272 : (.methodLink RL 48 yX5_found : Cond) ∈ TB := List.mem_filter.mpr ⟨by decide +kernel, by decide +kernel⟩
theorem tb_273 : (.instanceMethod yX5_found : Cond) ∈ TB := List.mem_filter.mpr ⟨by decide +kernel, by decide +kernel⟩
theorem tb_274 : (.selects RX5 yX5_found yX5_found : Cond) ∈ TB := List.mem_filter.mpr ⟨by decide +kernel, by decide +kernel⟩
theorem tb_275 : (.code yX5_found cX5_found 1 (some .int) : Cond) ∈ TB := List.mem_filter.mpr ⟨List.mem_of_getElem? (i := 574) (by decide +kernel), by decide +kernel⟩
theorem tb_276 : (.methodLink RX5 124 yX2_remember : Cond) ∈ TB := List.mem_filter.mpr ⟨by decide +kernel, by decide +kernel⟩
theorem tb_277 : (.instanceMethod yX2_remember : Cond) ∈ TB := List.mem_filter.mpr ⟨by decide +kernel, by decide +kernel⟩
theorem tb_278 : (.selects RX2 yX2_remember yX2_remember : Cond) ∈ TB := List.mem_filter.mpr ⟨by decide +kernel, by decide +kernel⟩
theorem tb_279 : (.code yX2_remember cX2_remember 2 none : Cond) ∈ TB := List.mem_filter.mpr ⟨List.mem_of_getElem? (i := 579) (by decide +kernel), by decide +kernel⟩
theorem tb_280 : (.methodLink RX2 23 yX1_writeTo : Cond) ∈ TB := List.mem_filter.mpr ⟨by decide +kernel, by decide +kernel⟩
theorem tb_281 : (.instanceMethod yX1_writeTo : Cond) ∈ TB := List.mem_filter.mpr ⟨by decide +kernel, by decide +kernel⟩
theorem tb_282 : (.selects RX1 yX1_writeTo yX1_writeTo : Cond) ∈ TB := List.mem_filter.mpr ⟨by decide +kernel, by decide +kernel⟩
theorem tb_283 : (.code yX1_writeTo cX1_writeTo 2 none : Cond) ∈ TB := List.mem_filter.mpr ⟨List.mem_of_getElem? (i := 205) (by decide +kernel), by decide +kernel⟩
theorem tb_284 : (.methodLink RX1 21 arraycopyName : Cond) ∈ TB := List.mem_filter.mpr ⟨by decide +kernel, by decide +kernel⟩
theorem tb_285 : (.native arraycopyName : Cond) ∈ TB := List.mem_filter.mpr ⟨by decide +kernel, by decide +kernel⟩
theorem tb_286 : (.static arraycopyName : Cond) ∈ TB := List.mem_filter.mpr ⟨by decide +kernel, by decide +kernel⟩
theorem tb_287 : (.initialized "java/lang/System" : Cond) ∈ TB := List.mem_filter.mpr ⟨by decide +kernel, by decide +kernel⟩
theorem tb_288 : (.methodLink RX5 128 yX1_addTown : Cond) ∈ TB := List.mem_filter.mpr ⟨by decide +kernel, by decide +kernel⟩
theorem tb_289 : (.instanceMethod yX1_addTown : Cond) ∈ TB := List.mem_filter.mpr ⟨by decide +kernel, by decide +kernel⟩
theorem tb_290 : (.selects RX1 yX1_addTown yX1_addTown : Cond) ∈ TB := List.mem_filter.mpr ⟨by decide +kernel, by decide +kernel⟩
theorem tb_291 : (.code yX1_addTown cX1_addTown 2 (some .int) : Cond) ∈ TB := List.mem_filter.mpr ⟨List.mem_of_getElem? (i := 393) (by decide +kernel), by decide +kernel⟩
theorem tb_292 : (.methodLink RL 118 yL_tryLay : Cond) ∈ TB := List.mem_filter.mpr ⟨by decide +kernel, by decide +kernel⟩
theorem tb_293 : (.static yL_tryLay : Cond) ∈ TB := List.mem_filter.mpr ⟨by decide +kernel, by decide +kernel⟩
theorem tb_294 : (.codeWith yL_tryLay cL_tryLay 5 (some .int) [(0, 7, 8, 13), (0, 7, 13, 16), (0, 7, 18, 35)] : Cond) ∈ TB := List.mem_filter.mpr ⟨by decide +kernel, by decide +kernel⟩
theorem tb_295 : (.methodLink RL 52 yX5_lay : Cond) ∈ TB := List.mem_filter.mpr ⟨by decide +kernel, by decide +kernel⟩
theorem tb_296 : (.instanceMethod yX5_lay : Cond) ∈ TB := List.mem_filter.mpr ⟨by decide +kernel, by decide +kernel⟩
theorem tb_297 : (.selects RX5 yX5_lay yX5_lay : Cond) ∈ TB := List.mem_filter.mpr ⟨by decide +kernel, by decide +kernel⟩
theorem tb_298 : (.code yX5_lay cX5_lay 4 (some .int) : Cond) ∈ TB := List.mem_filter.mpr ⟨List.mem_of_getElem? (i := 588) (by decide +kernel), by decide +kernel⟩
theorem tb_299 : (.methodLink RX5 131 yX5_needPossibleRoad : Cond) ∈ TB := List.mem_filter.mpr ⟨by decide +kernel, by decide +kernel⟩
theorem tb_300 : (.instanceMethod yX5_needPossibleRoad : Cond) ∈ TB := List.mem_filter.mpr ⟨by decide +kernel, by decide +kernel⟩
theorem tb_301 : (.selects RX5 yX5_needPossibleRoad yX5_needPossibleRoad : Cond) ∈ TB := List.mem_filter.mpr ⟨by decide +kernel, by decide +kernel⟩
theorem tb_302 : (.code yX5_needPossibleRoad cX5_needPossibleRoad 4 none : Cond) ∈ TB := List.mem_filter.mpr ⟨List.mem_of_getElem? (i := 592) (by decide +kernel), by decide +kernel⟩
theorem tb_303 : (.methodLink RX5 207 yX5_isLength : Cond) ∈ TB := List.mem_filter.mpr ⟨by decide +kernel, by decide +kernel⟩
theorem tb_304 : (.static yX5_isLength : Cond) ∈ TB := List.mem_filter.mpr ⟨by decide +kernel, by decide +kernel⟩
theorem tb_305 : (.code yX5_isLength cX5_isLength 1 (some .boolean) : Cond) ∈ TB := List.mem_filter.mpr ⟨List.mem_of_getElem? (i := 404) (by decide +kernel), by decide +kernel⟩
theorem tb_306 : (.methodLink RX5 264 yX1_canJoin : Cond) ∈ TB := List.mem_filter.mpr ⟨by decide +kernel, by decide +kernel⟩
theorem tb_307 : (.instanceMethod yX1_canJoin : Cond) ∈ TB := List.mem_filter.mpr ⟨by decide +kernel, by decide +kernel⟩
theorem tb_308 : (.selects RX1 yX1_canJoin yX1_canJoin : Cond) ∈ TB := List.mem_filter.mpr ⟨by decide +kernel, by decide +kernel⟩
theorem tb_309 : (.code yX1_canJoin cX1_canJoin 4 (some .boolean) : Cond) ∈ TB := List.mem_filter.mpr ⟨List.mem_of_getElem? (i := 401) (by decide +kernel), by decide +kernel⟩
theorem tb_310 : (.methodLink RX1 56 yX1_roadsAt : Cond) ∈ TB := List.mem_filter.mpr ⟨by decide +kernel, by decide +kernel⟩
theorem tb_311 : (.instanceMethod yX1_roadsAt : Cond) ∈ TB := List.mem_filter.mpr ⟨by decide +kernel, by decide +kernel⟩
theorem tb_312 : (.selects RX1 yX1_roadsAt yX1_roadsAt : Cond) ∈ TB := List.mem_filter.mpr ⟨by decide +kernel, by decide +kernel⟩
theorem tb_313 : (.code yX1_roadsAt cX1_roadsAt 4 (some .int) : Cond) ∈ TB := List.mem_filter.mpr ⟨List.mem_of_getElem? (i := 409) (by decide +kernel), by decide +kernel⟩
theorem tb_314 : (.methodLink RX1 60 yX1_roadCount : Cond) ∈ TB := List.mem_filter.mpr ⟨by decide +kernel, by decide +kernel⟩
theorem tb_315 : (.methodLink RX5 135 yX1_join : Cond) ∈ TB := List.mem_filter.mpr ⟨by decide +kernel, by decide +kernel⟩
theorem tb_316 : (.instanceMethod yX1_join : Cond) ∈ TB := List.mem_filter.mpr ⟨by decide +kernel, by decide +kernel⟩
theorem tb_317 : (.selects RX1 yX1_join yX1_join : Cond) ∈ TB := List.mem_filter.mpr ⟨by decide +kernel, by decide +kernel⟩
theorem tb_318 : (.code yX1_join cX1_join 4 (some .boolean) : Cond) ∈ TB := List.mem_filter.mpr ⟨List.mem_of_getElem? (i := 397) (by decide +kernel), by decide +kernel⟩
theorem tb_319 : (.methodLink RX1 64 yX1_canJoin : Cond) ∈ TB := List.mem_filter.mpr ⟨by decide +kernel, by decide +kernel⟩
theorem tb_320 : (.methodLink RX1 68 yX1_setRoad : Cond) ∈ TB := List.mem_filter.mpr ⟨by decide +kernel, by decide +kernel⟩
theorem tb_321 : (.instanceMethod yX1_setRoad : Cond) ∈ TB := List.mem_filter.mpr ⟨by decide +kernel, by decide +kernel⟩
theorem tb_322 : (.selects RX1 yX1_setRoad yX1_setRoad : Cond) ∈ TB := List.mem_filter.mpr ⟨by decide +kernel, by decide +kernel⟩
theorem tb_323 : (.code yX1_setRoad cX1_setRoad 4 none : Cond) ∈ TB := List.mem_filter.mpr ⟨List.mem_of_getElem? (i := 417) (by decide +kernel), by decide +kernel⟩
theorem tb_324 : (.methodLink RL 122 yL_tryTear : Cond) ∈ TB := List.mem_filter.mpr ⟨by decide +kernel, by decide +kernel⟩
theorem tb_325 : (.static yL_tryTear : Cond) ∈ TB := List.mem_filter.mpr ⟨by decide +kernel, by decide +kernel⟩
theorem tb_326 : (.codeWith yL_tryTear cL_tryTear 4 (some .int) [(0, 6, 7, 13), (0, 6, 11, 35)] : Cond) ∈ TB := List.mem_filter.mpr ⟨by decide +kernel, by decide +kernel⟩
theorem tb_327 : (.methodLink RL 56 yX5_tear : Cond) ∈ TB := List.mem_filter.mpr ⟨by decide +kernel, by decide +kernel⟩
theorem tb_328 : (.instanceMethod yX5_tear : Cond) ∈ TB := List.mem_filter.mpr ⟨by decide +kernel, by decide +kernel⟩
theorem tb_329 : (.selects RX5 yX5_tear yX5_tear : Cond) ∈ TB := List.mem_filter.mpr ⟨by decide +kernel, by decide +kernel⟩
theorem tb_330 : (.code yX5_tear cX5_tear 3 (some .int) : Cond) ∈ TB := List.mem_filter.mpr ⟨List.mem_of_getElem? (i := 604) (by decide +kernel), by decide +kernel⟩
theorem tb_331 : (.methodLink RX5 141 yX1_cut : Cond) ∈ TB := List.mem_filter.mpr ⟨by decide +kernel, by decide +kernel⟩
theorem tb_332 : (.instanceMethod yX1_cut : Cond) ∈ TB := List.mem_filter.mpr ⟨by decide +kernel, by decide +kernel⟩
theorem tb_333 : (.selects RX1 yX1_cut yX1_cut : Cond) ∈ TB := List.mem_filter.mpr ⟨by decide +kernel, by decide +kernel⟩
theorem tb_334 : (.code yX1_cut cX1_cut 4 (some .int) : Cond) ∈ TB := List.mem_filter.mpr ⟨List.mem_of_getElem? (i := 421) (by decide +kernel), by decide +kernel⟩
theorem tb_335 : (.methodLink RL 125 yL_trySeeAll : Cond) ∈ TB := List.mem_filter.mpr ⟨by decide +kernel, by decide +kernel⟩
theorem tb_336 : (.static yL_trySeeAll : Cond) ∈ TB := List.mem_filter.mpr ⟨by decide +kernel, by decide +kernel⟩
theorem tb_337 : (.codeWith yL_trySeeAll cL_trySeeAll 2 (some .int) [(0, 4, 5, 35)] : Cond) ∈ TB := List.mem_filter.mpr ⟨by decide +kernel, by decide +kernel⟩
theorem tb_338 : (.methodLink RL 59 yX5_seeAll : Cond) ∈ TB := List.mem_filter.mpr ⟨by decide +kernel, by decide +kernel⟩
theorem tb_339 : (.instanceMethod yX5_seeAll : Cond) ∈ TB := List.mem_filter.mpr ⟨by decide +kernel, by decide +kernel⟩
theorem tb_340 : (.selects RX5 yX5_seeAll yX5_seeAll : Cond) ∈ TB := List.mem_filter.mpr ⟨by decide +kernel, by decide +kernel⟩
theorem tb_341 : (.code yX5_seeAll cX5_seeAll 1 (some .int) : Cond) ∈ TB := List.mem_filter.mpr ⟨List.mem_of_getElem? (i := 613) (by decide +kernel), by decide +kernel⟩
theorem tb_342 : (.methodLink RX5 77 yX4_firstError : Cond) ∈ TB := List.mem_filter.mpr ⟨by decide +kernel, by decide +kernel⟩
theorem tb_343 : (.instanceMethod yX4_firstError : Cond) ∈ TB := List.mem_filter.mpr ⟨by decide +kernel, by decide +kernel⟩
theorem tb_344 : (.selects RX4 yX4_firstError yX4_firstError : Cond) ∈ TB := List.mem_filter.mpr ⟨by decide +kernel, by decide +kernel⟩
theorem tb_345 : (.code yX4_firstError cX4_firstError 3 (some .int) : Cond) ∈ TB := List.mem_filter.mpr ⟨List.mem_of_getElem? (i := 617) (by decide +kernel), by decide +kernel⟩
theorem tb_346 : (.methodLink RX4 19 yX4_signAt : Cond) ∈ TB := List.mem_filter.mpr ⟨by decide +kernel, by decide +kernel⟩
theorem tb_347 : (.instanceMethod yX4_signAt : Cond) ∈ TB := List.mem_filter.mpr ⟨by decide +kernel, by decide +kernel⟩
theorem tb_348 : (.selects RX4 yX4_signAt yX4_signAt : Cond) ∈ TB := List.mem_filter.mpr ⟨by decide +kernel, by decide +kernel⟩
theorem tb_349 : (.code yX4_signAt cX4_signAt 2 (some .int) : Cond) ∈ TB := List.mem_filter.mpr ⟨List.mem_of_getElem? (i := 621) (by decide +kernel), by decide +kernel⟩
theorem tb_350 : (.methodLink RX4 23 yX4_awaitedBehind : Cond) ∈ TB := List.mem_filter.mpr ⟨by decide +kernel, by decide +kernel⟩
theorem tb_351 : (.static yX4_awaitedBehind : Cond) ∈ TB := List.mem_filter.mpr ⟨by decide +kernel, by decide +kernel⟩
theorem tb_352 : (.code yX4_awaitedBehind cX4_awaitedBehind 3 (some .int) : Cond) ∈ TB := List.mem_filter.mpr ⟨List.mem_of_getElem? (i := 624) (by decide +kernel), by decide +kernel⟩
theorem tb_353 : (.methodLink RX5 156 yX4_noteIn : Cond) ∈ TB := List.mem_filter.mpr ⟨by decide +kernel, by decide +kernel⟩
theorem tb_354 : (.instanceMethod yX4_noteIn : Cond) ∈ TB := List.mem_filter.mpr ⟨by decide +kernel, by decide +kernel⟩
theorem tb_355 : (.selects RX4 yX4_noteIn yX4_noteIn : Cond) ∈ TB := List.mem_filter.mpr ⟨by decide +kernel, by decide +kernel⟩
theorem tb_356 : (.code yX4_noteIn cX4_noteIn 8 (some .int) : Cond) ∈ TB := List.mem_filter.mpr ⟨List.mem_of_getElem? (i := 630) (by decide +kernel), by decide +kernel⟩
theorem tb_357 : (.methodLink RX4 31 yX1_note : Cond) ∈ TB := List.mem_filter.mpr ⟨by decide +kernel, by decide +kernel⟩
theorem tb_358 : (.instanceMethod yX1_note : Cond) ∈ TB := List.mem_filter.mpr ⟨by decide +kernel, by decide +kernel⟩
theorem tb_359 : (.selects RX1 yX1_note yX1_note : Cond) ∈ TB := List.mem_filter.mpr ⟨by decide +kernel, by decide +kernel⟩
theorem tb_360 : (.code yX1_note cX1_note 8 (some .int) : Cond) ∈ TB := List.mem_filter.mpr ⟨List.mem_of_getElem? (i := 303) (by decide +kernel), by decide +kernel⟩
theorem tb_361 : (.static yX5_isYear : Cond) ∈ TB := List.mem_filter.mpr ⟨by decide +kernel, by decide +kernel⟩
theorem tb_362 : (.code yX5_isYear cX5_isYear 1 (some .boolean) : Cond) ∈ TB := List.mem_filter.mpr ⟨List.mem_of_getElem? (i := 306) (by decide +kernel), by decide +kernel⟩
theorem tb_363 : (.methodLink RL 128 yL_tryForget : Cond) ∈ TB := List.mem_filter.mpr ⟨by decide +kernel, by decide +kernel⟩
theorem tb_364 : (.static yL_tryForget : Cond) ∈ TB := List.mem_filter.mpr ⟨by decide +kernel, by decide +kernel⟩
theorem tb_365 : (.codeWith yL_tryForget cL_tryForget 4 (some .int) [(0, 6, 7, 13), (0, 6, 11, 16)] : Cond) ∈ TB := List.mem_filter.mpr ⟨by decide +kernel, by decide +kernel⟩
theorem tb_366 : (.methodLink RL 62 yX5_forget : Cond) ∈ TB := List.mem_filter.mpr ⟨by decide +kernel, by decide +kernel⟩
theorem tb_367 : (.instanceMethod yX5_forget : Cond) ∈ TB := List.mem_filter.mpr ⟨by decide +kernel, by decide +kernel⟩
theorem tb_368 : (.selects RX5 yX5_forget yX5_forget : Cond) ∈ TB := List.mem_filter.mpr ⟨by decide +kernel, by decide +kernel⟩
theorem tb_369 : (.code yX5_forget cX5_forget 3 (some .int) : Cond) ∈ TB := List.mem_filter.mpr ⟨List.mem_of_getElem? (i := 638) (by decide +kernel), by decide +kernel⟩
theorem tb_370 : (.methodLink RX5 115 yX5_needTrait : Cond) ∈ TB := List.mem_filter.mpr ⟨by decide +kernel, by decide +kernel⟩
theorem tb_371 : (.static yX5_needTrait : Cond) ∈ TB := List.mem_filter.mpr ⟨by decide +kernel, by decide +kernel⟩
theorem tb_372 : (.code yX5_needTrait cX5_needTrait 1 none : Cond) ∈ TB := List.mem_filter.mpr ⟨List.mem_of_getElem? (i := 641) (by decide +kernel), by decide +kernel⟩
theorem tb_373 : (.methodLink RX5 269 yX5_isTrait : Cond) ∈ TB := List.mem_filter.mpr ⟨by decide +kernel, by decide +kernel⟩
theorem tb_374 : (.methodLink RX5 159 yX1_drop : Cond) ∈ TB := List.mem_filter.mpr ⟨by decide +kernel, by decide +kernel⟩
theorem tb_375 : (.instanceMethod yX1_drop : Cond) ∈ TB := List.mem_filter.mpr ⟨by decide +kernel, by decide +kernel⟩
theorem tb_376 : (.selects RX1 yX1_drop yX1_drop : Cond) ∈ TB := List.mem_filter.mpr ⟨by decide +kernel, by decide +kernel⟩
theorem tb_377 : (.code yX1_drop cX1_drop 4 (some .int) : Cond) ∈ TB := List.mem_filter.mpr ⟨List.mem_of_getElem? (i := 298) (by decide +kernel), by decide +kernel⟩
theorem tb_378 : (.methodLink RL 131 yL_tryUndo : Cond) ∈ TB := List.mem_filter.mpr ⟨by decide +kernel, by decide +kernel⟩
theorem tb_379 : (.static yL_tryUndo : Cond) ∈ TB := List.mem_filter.mpr ⟨by decide +kernel, by decide +kernel⟩
theorem tb_380 : (.codeWith yL_tryUndo cL_tryUndo 2 (some .int) [(0, 4, 5, 35)] : Cond) ∈ TB := List.mem_filter.mpr ⟨by decide +kernel, by decide +kernel⟩
theorem tb_381 : (.methodLink RL 65 yX5_undo : Cond) ∈ TB := List.mem_filter.mpr ⟨by decide +kernel, by decide +kernel⟩
theorem tb_382 : (.instanceMethod yX5_undo : Cond) ∈ TB := List.mem_filter.mpr ⟨by decide +kernel, by decide +kernel⟩
theorem tb_383 : (.selects RX5 yX5_undo yX5_undo : Cond) ∈ TB := List.mem_filter.mpr ⟨by decide +kernel, by decide +kernel⟩
theorem tb_384 : (.code yX5_undo cX5_undo 1 (some .int) : Cond) ∈ TB := List.mem_filter.mpr ⟨List.mem_of_getElem? (i := 651) (by decide +kernel), by decide +kernel⟩
theorem tb_385 : (.methodLink RX5 162 yX2_isEmpty : Cond) ∈ TB := List.mem_filter.mpr ⟨by decide +kernel, by decide +kernel⟩
theorem tb_386 : (.instanceMethod yX2_isEmpty : Cond) ∈ TB := List.mem_filter.mpr ⟨by decide +kernel, by decide +kernel⟩
theorem tb_387 : (.selects RX2 yX2_isEmpty yX2_isEmpty : Cond) ∈ TB := List.mem_filter.mpr ⟨by decide +kernel, by decide +kernel⟩
theorem tb_388 : (.code yX2_isEmpty cX2_isEmpty 1 (some .boolean) : Cond) ∈ TB := List.mem_filter.mpr ⟨List.mem_of_getElem? (i := 655) (by decide +kernel), by decide +kernel⟩
theorem tb_389 : (.methodLink RX5 167 yX2_takeBack : Cond) ∈ TB := List.mem_filter.mpr ⟨by decide +kernel, by decide +kernel⟩
theorem tb_390 : (.instanceMethod yX2_takeBack : Cond) ∈ TB := List.mem_filter.mpr ⟨by decide +kernel, by decide +kernel⟩
theorem tb_391 : (.selects RX2 yX2_takeBack yX2_takeBack : Cond) ∈ TB := List.mem_filter.mpr ⟨by decide +kernel, by decide +kernel⟩
theorem tb_392 : (.code yX2_takeBack cX2_takeBack 2 (some .int) : Cond) ∈ TB := List.mem_filter.mpr ⟨List.mem_of_getElem? (i := 660) (by decide +kernel), by decide +kernel⟩
theorem tb_393 : (.methodLink RX2 27 yX1_readFrom : Cond) ∈ TB := List.mem_filter.mpr ⟨by decide +kernel, by decide +kernel⟩
theorem tb_394 : (.instanceMethod yX1_readFrom : Cond) ∈ TB := List.mem_filter.mpr ⟨by decide +kernel, by decide +kernel⟩
theorem tb_395 : (.selects RX1 yX1_readFrom yX1_readFrom : Cond) ∈ TB := List.mem_filter.mpr ⟨by decide +kernel, by decide +kernel⟩
theorem tb_396 : (.code yX1_readFrom cX1_readFrom 2 none : Cond) ∈ TB := List.mem_filter.mpr ⟨List.mem_of_getElem? (i := 664) (by decide +kernel), by decide +kernel⟩
theorem tb_397 : (.methodLink RL 134 yL_tryInventions : Cond) ∈ TB := List.mem_filter.mpr ⟨by decide +kernel, by decide +kernel⟩
theorem tb_398 : (.static yL_tryInventions : Cond) ∈ TB := List.mem_filter.mpr ⟨by decide +kernel, by decide +kernel⟩
theorem tb_399 : (.codeWith yL_tryInventions cL_tryInventions 3 (some .int) [(0, 5, 6, 16)] : Cond) ∈ TB := List.mem_filter.mpr ⟨by decide +kernel, by decide +kernel⟩
theorem tb_400 : (.methodLink RL 68 yX5_inventions : Cond) ∈ TB := List.mem_filter.mpr ⟨by decide +kernel, by decide +kernel⟩
theorem tb_401 : (.instanceMethod yX5_inventions : Cond) ∈ TB := List.mem_filter.mpr ⟨by decide +kernel, by decide +kernel⟩
theorem tb_402 : (.selects RX5 yX5_inventions yX5_inventions : Cond) ∈ TB := List.mem_filter.mpr ⟨by decide +kernel, by decide +kernel⟩
theorem tb_403 : (.code yX5_inventions cX5_inventions 2 (some .int) : Cond) ∈ TB := List.mem_filter.mpr ⟨List.mem_of_getElem? (i := 671) (by decide +kernel), by decide +kernel⟩
theorem tb_404 : (.methodLink RX5 170 yX0_study : Cond) ∈ TB := List.mem_filter.mpr ⟨by decide +kernel, by decide +kernel⟩
theorem tb_405 : (.methodLink RL 137 yL_tryInvented : Cond) ∈ TB := List.mem_filter.mpr ⟨by decide +kernel, by decide +kernel⟩
theorem tb_406 : (.static yL_tryInvented : Cond) ∈ TB := List.mem_filter.mpr ⟨by decide +kernel, by decide +kernel⟩
theorem tb_407 : (.codeWith yL_tryInvented cL_tryInvented 4 (some .int) [(0, 6, 7, 16)] : Cond) ∈ TB := List.mem_filter.mpr ⟨by decide +kernel, by decide +kernel⟩
theorem tb_408 : (.methodLink RL 71 yX5_invented : Cond) ∈ TB := List.mem_filter.mpr ⟨by decide +kernel, by decide +kernel⟩
theorem tb_409 : (.instanceMethod yX5_invented : Cond) ∈ TB := List.mem_filter.mpr ⟨by decide +kernel, by decide +kernel⟩
theorem tb_410 : (.selects RX5 yX5_invented yX5_invented : Cond) ∈ TB := List.mem_filter.mpr ⟨by decide +kernel, by decide +kernel⟩
theorem tb_411 : (.code yX5_invented cX5_invented 3 (some .int) : Cond) ∈ TB := List.mem_filter.mpr ⟨List.mem_of_getElem? (i := 679) (by decide +kernel), by decide +kernel⟩
theorem tb_412 : (.methodLink RL 140 yL_tryChoices : Cond) ∈ TB := List.mem_filter.mpr ⟨by decide +kernel, by decide +kernel⟩
theorem tb_413 : (.static yL_tryChoices : Cond) ∈ TB := List.mem_filter.mpr ⟨by decide +kernel, by decide +kernel⟩
theorem tb_414 : (.codeWith yL_tryChoices cL_tryChoices 3 (some .int) [(0, 5, 6, 16)] : Cond) ∈ TB := List.mem_filter.mpr ⟨by decide +kernel, by decide +kernel⟩
theorem tb_415 : (.methodLink RL 74 yX5_choices : Cond) ∈ TB := List.mem_filter.mpr ⟨by decide +kernel, by decide +kernel⟩
theorem tb_416 : (.instanceMethod yX5_choices : Cond) ∈ TB := List.mem_filter.mpr ⟨by decide +kernel, by decide +kernel⟩
theorem tb_417 : (.selects RX5 yX5_choices yX5_choices : Cond) ∈ TB := List.mem_filter.mpr ⟨by decide +kernel, by decide +kernel⟩
theorem tb_418 : (.code yX5_choices cX5_choices 2 (some .int) : Cond) ∈ TB := List.mem_filter.mpr ⟨List.mem_of_getElem? (i := 687) (by decide +kernel), by decide +kernel⟩
theorem tb_419 : (.methodLink RL 143 yL_trySince : Cond) ∈ TB := List.mem_filter.mpr ⟨by decide +kernel, by decide +kernel⟩
theorem tb_420 : (.static yL_trySince : Cond) ∈ TB := List.mem_filter.mpr ⟨by decide +kernel, by decide +kernel⟩
theorem tb_421 : (.codeWith yL_trySince cL_trySince 4 (some .int) [(0, 6, 7, 13), (0, 6, 11, 16)] : Cond) ∈ TB := List.mem_filter.mpr ⟨by decide +kernel, by decide +kernel⟩
theorem tb_422 : (.methodLink RL 77 yX5_since : Cond) ∈ TB := List.mem_filter.mpr ⟨by decide +kernel, by decide +kernel⟩
theorem tb_423 : (.instanceMethod yX5_since : Cond) ∈ TB := List.mem_filter.mpr ⟨by decide +kernel, by decide +kernel⟩
theorem tb_424 : (.selects RX5 yX5_since yX5_since : Cond) ∈ TB := List.mem_filter.mpr ⟨by decide +kernel, by decide +kernel⟩
theorem tb_425 : (.code yX5_since cX5_since 3 (some .int) : Cond) ∈ TB := List.mem_filter.mpr ⟨List.mem_of_getElem? (i := 694) (by decide +kernel), by decide +kernel⟩
theorem tb_426 : (.methodLink RX5 189 yX0_sinceWhen : Cond) ∈ TB := List.mem_filter.mpr ⟨by decide +kernel, by decide +kernel⟩
theorem tb_427 : (.instanceMethod yX0_sinceWhen : Cond) ∈ TB := List.mem_filter.mpr ⟨by decide +kernel, by decide +kernel⟩
theorem tb_428 : (.selects RX0 yX0_sinceWhen yX0_sinceWhen : Cond) ∈ TB := List.mem_filter.mpr ⟨by decide +kernel, by decide +kernel⟩
theorem tb_429 : (.code yX0_sinceWhen cX0_sinceWhen 4 (some .int) : Cond) ∈ TB := List.mem_filter.mpr ⟨List.mem_of_getElem? (i := 436) (by decide +kernel), by decide +kernel⟩
theorem tb_430 : (.methodLink RL 146 yL_tryReached : Cond) ∈ TB := List.mem_filter.mpr ⟨by decide +kernel, by decide +kernel⟩
theorem tb_431 : (.static yL_tryReached : Cond) ∈ TB := List.mem_filter.mpr ⟨by decide +kernel, by decide +kernel⟩
theorem tb_432 : (.codeWith yL_tryReached cL_tryReached 4 (some .int) [(0, 6, 7, 16)] : Cond) ∈ TB := List.mem_filter.mpr ⟨by decide +kernel, by decide +kernel⟩
theorem tb_433 : (.methodLink RL 80 yX5_reached : Cond) ∈ TB := List.mem_filter.mpr ⟨by decide +kernel, by decide +kernel⟩
theorem tb_434 : (.instanceMethod yX5_reached : Cond) ∈ TB := List.mem_filter.mpr ⟨by decide +kernel, by decide +kernel⟩
theorem tb_435 : (.selects RX5 yX5_reached yX5_reached : Cond) ∈ TB := List.mem_filter.mpr ⟨by decide +kernel, by decide +kernel⟩
theorem tb_436 : (.code yX5_reached cX5_reached 3 (some .int) : Cond) ∈ TB := List.mem_filter.mpr ⟨List.mem_of_getElem? (i := 702) (by decide +kernel), by decide +kernel⟩
theorem tb_437 : (.methodLink RX5 193 yX0_townInOrder : Cond) ∈ TB := List.mem_filter.mpr ⟨by decide +kernel, by decide +kernel⟩
theorem tb_438 : (.instanceMethod yX0_townInOrder : Cond) ∈ TB := List.mem_filter.mpr ⟨by decide +kernel, by decide +kernel⟩
theorem tb_439 : (.selects RX0 yX0_townInOrder yX0_townInOrder : Cond) ∈ TB := List.mem_filter.mpr ⟨by decide +kernel, by decide +kernel⟩
theorem tb_440 : (.code yX0_townInOrder cX0_townInOrder 5 (some .int) : Cond) ∈ TB := List.mem_filter.mpr ⟨List.mem_of_getElem? (i := 706) (by decide +kernel), by decide +kernel⟩
theorem tb_441 : (.methodLink RX0 124 yX0_townsBefore : Cond) ∈ TB := List.mem_filter.mpr ⟨by decide +kernel, by decide +kernel⟩
theorem tb_442 : (.instanceMethod yX0_townsBefore : Cond) ∈ TB := List.mem_filter.mpr ⟨by decide +kernel, by decide +kernel⟩
theorem tb_443 : (.selects RX0 yX0_townsBefore yX0_townsBefore : Cond) ∈ TB := List.mem_filter.mpr ⟨by decide +kernel, by decide +kernel⟩
theorem tb_444 : (.code yX0_townsBefore cX0_townsBefore 4 (some .int) : Cond) ∈ TB := List.mem_filter.mpr ⟨List.mem_of_getElem? (i := 710) (by decide +kernel), by decide +kernel⟩
theorem tb_445 : (.methodLink RL 149 yL_tryPassed : Cond) ∈ TB := List.mem_filter.mpr ⟨by decide +kernel, by decide +kernel⟩
theorem tb_446 : (.static yL_tryPassed : Cond) ∈ TB := List.mem_filter.mpr ⟨by decide +kernel, by decide +kernel⟩
theorem tb_447 : (.codeWith yL_tryPassed cL_tryPassed 5 (some .int) [(0, 7, 8, 13), (0, 7, 13, 16)] : Cond) ∈ TB := List.mem_filter.mpr ⟨by decide +kernel, by decide +kernel⟩
theorem tb_448 : (.methodLink RL 83 yX5_passed : Cond) ∈ TB := List.mem_filter.mpr ⟨by decide +kernel, by decide +kernel⟩
theorem tb_449 : (.instanceMethod yX5_passed : Cond) ∈ TB := List.mem_filter.mpr ⟨by decide +kernel, by decide +kernel⟩
theorem tb_450 : (.selects RX5 yX5_passed yX5_passed : Cond) ∈ TB := List.mem_filter.mpr ⟨by decide +kernel, by decide +kernel⟩
theorem tb_451 : (.code yX5_passed cX5_passed 4 (some .int) : Cond) ∈ TB := List.mem_filter.mpr ⟨List.mem_of_getElem? (i := 717) (by decide +kernel), by decide +kernel⟩
theorem tb_452 : (.methodLink RX5 196 yX0_canHavePassed : Cond) ∈ TB := List.mem_filter.mpr ⟨by decide +kernel, by decide +kernel⟩
theorem tb_453 : (.instanceMethod yX0_canHavePassed : Cond) ∈ TB := List.mem_filter.mpr ⟨by decide +kernel, by decide +kernel⟩
theorem tb_454 : (.selects RX0 yX0_canHavePassed yX0_canHavePassed : Cond) ∈ TB := List.mem_filter.mpr ⟨by decide +kernel, by decide +kernel⟩
theorem tb_455 : (.code yX0_canHavePassed cX0_canHavePassed 9 (some .boolean) : Cond) ∈ TB := List.mem_filter.mpr ⟨List.mem_of_getElem? (i := 721) (by decide +kernel), by decide +kernel⟩
theorem tb_456 : (.methodLink RX0 127 yX0_explainsByRoad : Cond) ∈ TB := List.mem_filter.mpr ⟨by decide +kernel, by decide +kernel⟩
theorem tb_457 : (.instanceMethod yX0_explainsByRoad : Cond) ∈ TB := List.mem_filter.mpr ⟨by decide +kernel, by decide +kernel⟩
theorem tb_458 : (.selects RX0 yX0_explainsByRoad yX0_explainsByRoad : Cond) ∈ TB := List.mem_filter.mpr ⟨by decide +kernel, by decide +kernel⟩
theorem tb_459 : (.code yX0_explainsByRoad cX0_explainsByRoad 7 (some .boolean) : Cond) ∈ TB := List.mem_filter.mpr ⟨List.mem_of_getElem? (i := 725) (by decide +kernel), by decide +kernel⟩
theorem tb_460 : (.methodLink RL 152 yL_tryIfLaid : Cond) ∈ TB := List.mem_filter.mpr ⟨by decide +kernel, by decide +kernel⟩
theorem tb_461 : (.static yL_tryIfLaid : Cond) ∈ TB := List.mem_filter.mpr ⟨by decide +kernel, by decide +kernel⟩
theorem tb_462 : (.codeWith yL_tryIfLaid cL_tryIfLaid 5 (some .int) [(0, 7, 8, 13), (0, 7, 13, 16), (0, 7, 18, 35)] : Cond) ∈ TB := List.mem_filter.mpr ⟨by decide +kernel, by decide +kernel⟩
theorem tb_463 : (.methodLink RL 86 yX5_ifLaid : Cond) ∈ TB := List.mem_filter.mpr ⟨by decide +kernel, by decide +kernel⟩
theorem tb_464 : (.instanceMethod yX5_ifLaid : Cond) ∈ TB := List.mem_filter.mpr ⟨by decide +kernel, by decide +kernel⟩
theorem tb_465 : (.selects RX5 yX5_ifLaid yX5_ifLaid : Cond) ∈ TB := List.mem_filter.mpr ⟨by decide +kernel, by decide +kernel⟩
theorem tb_466 : (.code yX5_ifLaid cX5_ifLaid 4 (some .int) : Cond) ∈ TB := List.mem_filter.mpr ⟨List.mem_of_getElem? (i := 732) (by decide +kernel), by decide +kernel⟩
theorem tb_467 : (.methodLink RX5 200 yX3_begin : Cond) ∈ TB := List.mem_filter.mpr ⟨by decide +kernel, by decide +kernel⟩
theorem tb_468 : (.instanceMethod yX3_begin : Cond) ∈ TB := List.mem_filter.mpr ⟨by decide +kernel, by decide +kernel⟩
theorem tb_469 : (.selects RX3 yX3_begin yX3_begin : Cond) ∈ TB := List.mem_filter.mpr ⟨by decide +kernel, by decide +kernel⟩
theorem tb_470 : (.code yX3_begin cX3_begin 2 none : Cond) ∈ TB := List.mem_filter.mpr ⟨List.mem_of_getElem? (i := 197) (by decide +kernel), by decide +kernel⟩
theorem tb_471 : (.methodLink RX3 25 yX1_takeOver : Cond) ∈ TB := List.mem_filter.mpr ⟨by decide +kernel, by decide +kernel⟩
theorem tb_472 : (.instanceMethod yX1_takeOver : Cond) ∈ TB := List.mem_filter.mpr ⟨by decide +kernel, by decide +kernel⟩
theorem tb_473 : (.selects RX1 yX1_takeOver yX1_takeOver : Cond) ∈ TB := List.mem_filter.mpr ⟨by decide +kernel, by decide +kernel⟩
theorem tb_474 : (.code yX1_takeOver cX1_takeOver 2 none : Cond) ∈ TB := List.mem_filter.mpr ⟨List.mem_of_getElem? (i := 201) (by decide +kernel), by decide +kernel⟩
theorem tb_475 : (.methodLink RX1 27 yX1_writeTo : Cond) ∈ TB := List.mem_filter.mpr ⟨by decide +kernel, by decide +kernel⟩
theorem tb_476 : (.methodLink RX5 203 yX3_inventionsWithRoad : Cond) ∈ TB := List.mem_filter.mpr ⟨by decide +kernel, by decide +kernel⟩
theorem tb_477 : (.instanceMethod yX3_inventionsWithRoad : Cond) ∈ TB := List.mem_filter.mpr ⟨by decide +kernel, by decide +kernel⟩
theorem tb_478 : (.selects RX3 yX3_inventionsWithRoad yX3_inventionsWithRoad : Cond) ∈ TB := List.mem_filter.mpr ⟨by decide +kernel, by decide +kernel⟩
theorem tb_479 : (.code yX3_inventionsWithRoad cX3_inventionsWithRoad 4 (some .int) : Cond) ∈ TB := List.mem_filter.mpr ⟨List.mem_of_getElem? (i := 736) (by decide +kernel), by decide +kernel⟩
theorem tb_480 : (.methodLink RX3 29 yX1_join : Cond) ∈ TB := List.mem_filter.mpr ⟨by decide +kernel, by decide +kernel⟩
theorem tb_481 : (.methodLink RX3 33 yX0_allInventions : Cond) ∈ TB := List.mem_filter.mpr ⟨by decide +kernel, by decide +kernel⟩
theorem tb_482 : (.methodLink RL 155 yL_tryBestRoad : Cond) ∈ TB := List.mem_filter.mpr ⟨by decide +kernel, by decide +kernel⟩
theorem tb_483 : (.static yL_tryBestRoad : Cond) ∈ TB := List.mem_filter.mpr ⟨by decide +kernel, by decide +kernel⟩
theorem tb_484 : (.codeWith yL_tryBestRoad cL_tryBestRoad 3 (some .int) [(0, 5, 6, 16)] : Cond) ∈ TB := List.mem_filter.mpr ⟨by decide +kernel, by decide +kernel⟩
theorem tb_485 : (.methodLink RL 89 yX5_bestRoad : Cond) ∈ TB := List.mem_filter.mpr ⟨by decide +kernel, by decide +kernel⟩
theorem tb_486 : (.instanceMethod yX5_bestRoad : Cond) ∈ TB := List.mem_filter.mpr ⟨by decide +kernel, by decide +kernel⟩
theorem tb_487 : (.selects RX5 yX5_bestRoad yX5_bestRoad : Cond) ∈ TB := List.mem_filter.mpr ⟨by decide +kernel, by decide +kernel⟩
theorem tb_488 : (.code yX5_bestRoad cX5_bestRoad 2 (some .int) : Cond) ∈ TB := List.mem_filter.mpr ⟨List.mem_of_getElem? (i := 743) (by decide +kernel), by decide +kernel⟩
theorem tb_489 : (.methodLink RX5 212 yX3_newRoad : Cond) ∈ TB := List.mem_filter.mpr ⟨by decide +kernel, by decide +kernel⟩
theorem tb_490 : (.instanceMethod yX3_newRoad : Cond) ∈ TB := List.mem_filter.mpr ⟨by decide +kernel, by decide +kernel⟩
theorem tb_491 : (.selects RX3 yX3_newRoad yX3_newRoad : Cond) ∈ TB := List.mem_filter.mpr ⟨by decide +kernel, by decide +kernel⟩
theorem tb_492 : (.code yX3_newRoad cX3_newRoad 7 (some .int) : Cond) ∈ TB := List.mem_filter.mpr ⟨List.mem_of_getElem? (i := 748) (by decide +kernel), by decide +kernel⟩
theorem tb_493 : (.methodLink RX3 37 yX1_townCount : Cond) ∈ TB := List.mem_filter.mpr ⟨by decide +kernel, by decide +kernel⟩
theorem tb_494 : (.methodLink RX3 41 yX1_roadLength : Cond) ∈ TB := List.mem_filter.mpr ⟨by decide +kernel, by decide +kernel⟩
theorem tb_495 : (.methodLink RX3 45 yX1_cut : Cond) ∈ TB := List.mem_filter.mpr ⟨by decide +kernel, by decide +kernel⟩
theorem tb_496 : (.methodLink RL 158 yL_tryKeep : Cond) ∈ TB := List.mem_filter.mpr ⟨by decide +kernel, by decide +kernel⟩
theorem tb_497 : (.static yL_tryKeep : Cond) ∈ TB := List.mem_filter.mpr ⟨by decide +kernel, by decide +kernel⟩
theorem tb_498 : (.codeWith yL_tryKeep cL_tryKeep 3 (some .int) [(0, 5, 6, 13)] : Cond) ∈ TB := List.mem_filter.mpr ⟨by decide +kernel, by decide +kernel⟩
theorem tb_499 : (.methodLink RL 92 yX5_save : Cond) ∈ TB := List.mem_filter.mpr ⟨by decide +kernel, by decide +kernel⟩
theorem tb_500 : (.instanceMethod yX5_save : Cond) ∈ TB := List.mem_filter.mpr ⟨by decide +kernel, by decide +kernel⟩
theorem tb_501 : (.selects RX5 yX5_save yX5_save : Cond) ∈ TB := List.mem_filter.mpr ⟨by decide +kernel, by decide +kernel⟩
theorem tb_502 : (.code yX5_save cX5_save 2 (some .int) : Cond) ∈ TB := List.mem_filter.mpr ⟨List.mem_of_getElem? (i := 756) (by decide +kernel), by decide +kernel⟩
theorem tb_503 : (.methodLink RX5 239 yX5_needSlot : Cond) ∈ TB := List.mem_filter.mpr ⟨by decide +kernel, by decide +kernel⟩
theorem tb_504 : (.static yX5_needSlot : Cond) ∈ TB := List.mem_filter.mpr ⟨by decide +kernel, by decide +kernel⟩
theorem tb_505 : (.code yX5_needSlot cX5_needSlot 1 none : Cond) ∈ TB := List.mem_filter.mpr ⟨List.mem_of_getElem? (i := 759) (by decide +kernel), by decide +kernel⟩
theorem tb_506 : (.methodLink RX5 242 yX1_writeTo : Cond) ∈ TB := List.mem_filter.mpr ⟨by decide +kernel, by decide +kernel⟩
theorem tb_507 : (.methodLink RL 161 yL_tryBack : Cond) ∈ TB := List.mem_filter.mpr ⟨by decide +kernel, by decide +kernel⟩
theorem tb_508 : (.static yL_tryBack : Cond) ∈ TB := List.mem_filter.mpr ⟨by decide +kernel, by decide +kernel⟩
theorem tb_509 : (.codeWith yL_tryBack cL_tryBack 3 (some .int) [(0, 5, 6, 13), (0, 5, 10, 35)] : Cond) ∈ TB := List.mem_filter.mpr ⟨by decide +kernel, by decide +kernel⟩
theorem tb_510 : (.methodLink RL 95 yX5_restore : Cond) ∈ TB := List.mem_filter.mpr ⟨by decide +kernel, by decide +kernel⟩
theorem tb_511 : (.instanceMethod yX5_restore : Cond) ∈ TB := List.mem_filter.mpr ⟨by decide +kernel, by decide +kernel⟩
theorem tb_512 : (.selects RX5 yX5_restore yX5_restore : Cond) ∈ TB := List.mem_filter.mpr ⟨by decide +kernel, by decide +kernel⟩
theorem tb_513 : (.code yX5_restore cX5_restore 2 (some .int) : Cond) ∈ TB := List.mem_filter.mpr ⟨List.mem_of_getElem? (i := 768) (by decide +kernel), by decide +kernel⟩
theorem tb_514 : (.methodLink RX5 248 yX1_readFrom : Cond) ∈ TB := List.mem_filter.mpr ⟨by decide +kernel, by decide +kernel⟩
theorem tb_515 : (.methodLink RX5 251 yX2_clear : Cond) ∈ TB := List.mem_filter.mpr ⟨by decide +kernel, by decide +kernel⟩
theorem tb_516 : (.instanceMethod yX2_clear : Cond) ∈ TB := List.mem_filter.mpr ⟨by decide +kernel, by decide +kernel⟩
theorem tb_517 : (.selects RX2 yX2_clear yX2_clear : Cond) ∈ TB := List.mem_filter.mpr ⟨by decide +kernel, by decide +kernel⟩
theorem tb_518 : (.code yX2_clear cX2_clear 1 none : Cond) ∈ TB := List.mem_filter.mpr ⟨List.mem_of_getElem? (i := 774) (by decide +kernel), by decide +kernel⟩
theorem tb_519 : (.methodLink RL 170 yL_tryReport : Cond) ∈ TB := List.mem_filter.mpr ⟨by decide +kernel, by decide +kernel⟩
theorem tb_520 : (.static yL_tryReport : Cond) ∈ TB := List.mem_filter.mpr ⟨by decide +kernel, by decide +kernel⟩
theorem tb_521 : (.codeWith yL_tryReport cL_tryReport 5 (some .int) [(0, 7, 8, 13), (0, 7, 13, 16)] : Cond) ∈ TB := List.mem_filter.mpr ⟨by decide +kernel, by decide +kernel⟩
theorem tb_522 : (.methodLink RL 7 yX5_report : Cond) ∈ TB := List.mem_filter.mpr ⟨by decide +kernel, by decide +kernel⟩
theorem tb_523 : (.instanceMethod yX5_report : Cond) ∈ TB := List.mem_filter.mpr ⟨by decide +kernel, by decide +kernel⟩
theorem tb_524 : (.selects RX5 yX5_report yX5_report : Cond) ∈ TB := List.mem_filter.mpr ⟨by decide +kernel, by decide +kernel⟩
theorem tb_525 : (.code yX5_report cX5_report 4 (some .int) : Cond) ∈ TB := List.mem_filter.mpr ⟨List.mem_of_getElem? (i := 789) (by decide +kernel), by decide +kernel⟩
theorem tb_526 : (.methodLink RX5 118 yX1_reportedYear : Cond) ∈ TB := List.mem_filter.mpr ⟨by decide +kernel, by decide +kernel⟩
theorem tb_527 : (.methodLink RL 174 yL_trySee : Cond) ∈ TB := List.mem_filter.mpr ⟨by decide +kernel, by decide +kernel⟩
theorem tb_528 : (.static yL_trySee : Cond) ∈ TB := List.mem_filter.mpr ⟨by decide +kernel, by decide +kernel⟩
theorem tb_529 : (.codeWith yL_trySee cL_trySee 6 (some .int) [(0, 9, 10, 13), (0, 9, 15, 16)] : Cond) ∈ TB := List.mem_filter.mpr ⟨by decide +kernel, by decide +kernel⟩
theorem tb_530 : (.methodLink RL 19 yX5_see : Cond) ∈ TB := List.mem_filter.mpr ⟨by decide +kernel, by decide +kernel⟩
theorem tb_531 : (.instanceMethod yX5_see : Cond) ∈ TB := List.mem_filter.mpr ⟨by decide +kernel, by decide +kernel⟩
theorem tb_532 : (.selects RX5 yX5_see yX5_see : Cond) ∈ TB := List.mem_filter.mpr ⟨by decide +kernel, by decide +kernel⟩
theorem tb_533 : (.code yX5_see cX5_see 5 (some .int) : Cond) ∈ TB := List.mem_filter.mpr ⟨List.mem_of_getElem? (i := 797) (by decide +kernel), by decide +kernel⟩
theorem tb_534 : (.methodLink RX5 144 yX5_isYear : Cond) ∈ TB := List.mem_filter.mpr ⟨by decide +kernel, by decide +kernel⟩
theorem tb_535 : (.methodLink RX5 150 yX1_note : Cond) ∈ TB := List.mem_filter.mpr ⟨by decide +kernel, by decide +kernel⟩
theorem tb_536 : (.methodLink RL 178 yL_tryScript : Cond) ∈ TB := List.mem_filter.mpr ⟨by decide +kernel, by decide +kernel⟩
theorem tb_537 : (.static yL_tryScript : Cond) ∈ TB := List.mem_filter.mpr ⟨by decide +kernel, by decide +kernel⟩
theorem tb_538 : (.codeWith yL_tryScript cL_tryScript 5 (some .int) [(0, 6, 7, 16)] : Cond) ∈ TB := List.mem_filter.mpr ⟨by decide +kernel, by decide +kernel⟩
theorem tb_539 : (.methodLink RL 23 yX5_runScript : Cond) ∈ TB := List.mem_filter.mpr ⟨by decide +kernel, by decide +kernel⟩
theorem tb_540 : (.instanceMethod yX5_runScript : Cond) ∈ TB := List.mem_filter.mpr ⟨by decide +kernel, by decide +kernel⟩
theorem tb_541 : (.selects RX5 yX5_runScript yX5_runScript : Cond) ∈ TB := List.mem_filter.mpr ⟨by decide +kernel, by decide +kernel⟩
theorem tb_542 : (.code yX5_runScript cX5_runScript 7 (some .int) : Cond) ∈ TB := List.mem_filter.mpr ⟨List.mem_of_getElem? (i := 314) (by decide +kernel), by decide +kernel⟩
theorem tb_543 : (.constantLong RX5 220 (1000000) : Cond) ∈ TB := List.mem_filter.mpr ⟨by decide +kernel, by decide +kernel⟩
theorem tb_544 : (.methodLink RX5 224 yX3_obeys : Cond) ∈ TB := List.mem_filter.mpr ⟨by decide +kernel, by decide +kernel⟩
theorem tb_545 : (.instanceMethod yX3_obeys : Cond) ∈ TB := List.mem_filter.mpr ⟨by decide +kernel, by decide +kernel⟩
theorem tb_546 : (.selects RX3 yX3_obeys yX3_obeys : Cond) ∈ TB := List.mem_filter.mpr ⟨by decide +kernel, by decide +kernel⟩
theorem tb_547 : (.code yX3_obeys cX3_obeys 5 (some .boolean) : Cond) ∈ TB := List.mem_filter.mpr ⟨List.mem_of_getElem? (i := 388) (by decide +kernel), by decide +kernel⟩
theorem tb_548 : (.constant RX3 75 (100000) : Cond) ∈ TB := List.mem_filter.mpr ⟨by decide +kernel, by decide +kernel⟩
theorem tb_549 : (.methodLink RX3 76 yX1_addTown : Cond) ∈ TB := List.mem_filter.mpr ⟨by decide +kernel, by decide +kernel⟩
theorem tb_550 : (.methodLink RX3 71 yX1_note : Cond) ∈ TB := List.mem_filter.mpr ⟨by decide +kernel, by decide +kernel⟩
theorem tb_551 : (.methodLink RX3 68 yX1_drop : Cond) ∈ TB := List.mem_filter.mpr ⟨by decide +kernel, by decide +kernel⟩
theorem tb_552 : (.methodLink RX3 59 yX0_study : Cond) ∈ TB := List.mem_filter.mpr ⟨by decide +kernel, by decide +kernel⟩
theorem tb_553 : (.methodLink RX3 83 yX3_isUpTo : Cond) ∈ TB := List.mem_filter.mpr ⟨by decide +kernel, by decide +kernel⟩
theorem tb_554 : (.static yX3_isUpTo : Cond) ∈ TB := List.mem_filter.mpr ⟨by decide +kernel, by decide +kernel⟩
theorem tb_555 : (.code yX3_isUpTo cX3_isUpTo 2 (some .boolean) : Cond) ∈ TB := List.mem_filter.mpr ⟨List.mem_of_getElem? (i := 425) (by decide +kernel), by decide +kernel⟩
theorem tb_556 : (.methodLink RX3 86 yX1_isTown : Cond) ∈ TB := List.mem_filter.mpr ⟨by decide +kernel, by decide +kernel⟩
theorem tb_557 : (.methodLink RX3 89 yX0_sinceWhen : Cond) ∈ TB := List.mem_filter.mpr ⟨by decide +kernel, by decide +kernel⟩
theorem tb_558 : (.methodLink RL 186 yL_trySimulate : Cond) ∈ TB := List.mem_filter.mpr ⟨by decide +kernel, by decide +kernel⟩
theorem tb_559 : (.static yL_trySimulate : Cond) ∈ TB := List.mem_filter.mpr ⟨by decide +kernel, by decide +kernel⟩
theorem tb_560 : (.codeWith yL_trySimulate cL_trySimulate 5 (some .int) [(0, 6, 7, 16)] : Cond) ∈ TB := List.mem_filter.mpr ⟨by decide +kernel, by decide +kernel⟩
theorem tb_561 : (.methodLink RL 27 yX5_simulate : Cond) ∈ TB := List.mem_filter.mpr ⟨by decide +kernel, by decide +kernel⟩
theorem tb_562 : (.instanceMethod yX5_simulate : Cond) ∈ TB := List.mem_filter.mpr ⟨by decide +kernel, by decide +kernel⟩
theorem tb_563 : (.selects RX5 yX5_simulate yX5_simulate : Cond) ∈ TB := List.mem_filter.mpr ⟨by decide +kernel, by decide +kernel⟩
theorem tb_564 : (.code yX5_simulate cX5_simulate 7 (some .int) : Cond) ∈ TB := List.mem_filter.mpr ⟨List.mem_of_getElem? (i := 444) (by decide +kernel), by decide +kernel⟩
theorem tb_565 : (.constantLong RX5 229 (6364136223846793005) : Cond) ∈ TB := List.mem_filter.mpr ⟨by decide +kernel, by decide +kernel⟩
theorem tb_566 : (.constantLong RX5 231 (1442695040888963407) : Cond) ∈ TB := List.mem_filter.mpr ⟨by decide +kernel, by decide +kernel⟩
theorem tb_567 : (.methodLink RX5 233 yX3_turn : Cond) ∈ TB := List.mem_filter.mpr ⟨by decide +kernel, by decide +kernel⟩
theorem tb_568 : (.instanceMethod yX3_turn : Cond) ∈ TB := List.mem_filter.mpr ⟨by decide +kernel, by decide +kernel⟩
theorem tb_569 : (.selects RX3 yX3_turn yX3_turn : Cond) ∈ TB := List.mem_filter.mpr ⟨by decide +kernel, by decide +kernel⟩
theorem tb_570 : (.code yX3_turn cX3_turn 6 none : Cond) ∈ TB := List.mem_filter.mpr ⟨List.mem_of_getElem? (i := 451) (by decide +kernel), by decide +kernel⟩
theorem tb_571 : (.methodLink RX5 236 yX3_summary : Cond) ∈ TB := List.mem_filter.mpr ⟨by decide +kernel, by decide +kernel⟩
theorem tb_572 : (.instanceMethod yX3_summary : Cond) ∈ TB := List.mem_filter.mpr ⟨by decide +kernel, by decide +kernel⟩
theorem tb_573 : (.selects RX3 yX3_summary yX3_summary : Cond) ∈ TB := List.mem_filter.mpr ⟨by decide +kernel, by decide +kernel⟩
theorem tb_574 : (.code yX3_summary cX3_summary 1 (some .int) : Cond) ∈ TB := List.mem_filter.mpr ⟨List.mem_of_getElem? (i := 455) (by decide +kernel), by decide +kernel⟩
theorem tb_575 : (.methodLink RX3 93 yX1_contradictions : Cond) ∈ TB := List.mem_filter.mpr ⟨by decide +kernel, by decide +kernel⟩
theorem tb_576 : (.methodLink RX3 96 yX1_roadCount : Cond) ∈ TB := List.mem_filter.mpr ⟨by decide +kernel, by decide +kernel⟩
theorem tb_577 : (.methodLink RL 190 yX5_errorPosition : Cond) ∈ TB := List.mem_filter.mpr ⟨by decide +kernel, by decide +kernel⟩
theorem tb_578 : (.instanceMethod yX5_errorPosition : Cond) ∈ TB := List.mem_filter.mpr ⟨by decide +kernel, by decide +kernel⟩
theorem tb_579 : (.selects RX5 yX5_errorPosition yX5_errorPosition : Cond) ∈ TB := List.mem_filter.mpr ⟨by decide +kernel, by decide +kernel⟩
theorem tb_580 : (.code yX5_errorPosition cX5_errorPosition 1 (some .int) : Cond) ∈ TB := List.mem_filter.mpr ⟨List.mem_of_getElem? (i := 806) (by decide +kernel), by decide +kernel⟩
theorem tb_581 : (.methodLink RL 205 yL_act : Cond) ∈ TB := List.mem_filter.mpr ⟨by decide +kernel, by decide +kernel⟩
theorem tb_582 : (.static yL_act : Cond) ∈ TB := List.mem_filter.mpr ⟨by decide +kernel, by decide +kernel⟩
theorem tb_583 : (.code yL_act cL_act 6 (some .int) : Cond) ∈ TB := List.mem_filter.mpr ⟨List.mem_of_getElem? (i := 815) (by decide +kernel), by decide +kernel⟩
theorem tb_584 : (.methodLink RL 193 yX5_clearText : Cond) ∈ TB := List.mem_filter.mpr ⟨by decide +kernel, by decide +kernel⟩
theorem tb_585 : (.instanceMethod yX5_clearText : Cond) ∈ TB := List.mem_filter.mpr ⟨by decide +kernel, by decide +kernel⟩
theorem tb_586 : (.selects RX5 yX5_clearText yX5_clearText : Cond) ∈ TB := List.mem_filter.mpr ⟨by decide +kernel, by decide +kernel⟩
theorem tb_587 : (.code yX5_clearText cX5_clearText 1 (some .int) : Cond) ∈ TB := List.mem_filter.mpr ⟨List.mem_of_getElem? (i := 819) (by decide +kernel), by decide +kernel⟩
theorem tb_588 : (.methodLink RX5 73 yX4_empty : Cond) ∈ TB := List.mem_filter.mpr ⟨by decide +kernel, by decide +kernel⟩
theorem tb_589 : (.instanceMethod yX4_empty : Cond) ∈ TB := List.mem_filter.mpr ⟨by decide +kernel, by decide +kernel⟩
theorem tb_590 : (.selects RX4 yX4_empty yX4_empty : Cond) ∈ TB := List.mem_filter.mpr ⟨by decide +kernel, by decide +kernel⟩
theorem tb_591 : (.code yX4_empty cX4_empty 2 (some .int) : Cond) ∈ TB := List.mem_filter.mpr ⟨List.mem_of_getElem? (i := 823) (by decide +kernel), by decide +kernel⟩
theorem tb_592 : (.methodLink RL 208 yL_alike : Cond) ∈ TB := List.mem_filter.mpr ⟨by decide +kernel, by decide +kernel⟩
theorem tb_593 : (.static yL_alike : Cond) ∈ TB := List.mem_filter.mpr ⟨by decide +kernel, by decide +kernel⟩
theorem tb_594 : (.code yL_alike cL_alike 6 (some .boolean) : Cond) ∈ TB := List.mem_filter.mpr ⟨List.mem_of_getElem? (i := 809) (by decide +kernel), by decide +kernel⟩
theorem tb_595 : (.methodLink RL 212 yL_holds : Cond) ∈ TB := List.mem_filter.mpr ⟨by decide +kernel, by decide +kernel⟩
theorem tb_596 : (.static yL_holds : Cond) ∈ TB := List.mem_filter.mpr ⟨by decide +kernel, by decide +kernel⟩
theorem tb_597 : (.code yL_holds cL_holds 19 (some .boolean) : Cond) ∈ TB := List.mem_filter.mpr ⟨List.mem_of_getElem? (i := 812) (by decide +kernel), by decide +kernel⟩
theorem tb_598 : (.methodLink RL 221 yX5_dearest : Cond) ∈ TB := List.mem_filter.mpr ⟨by decide +kernel, by decide +kernel⟩
theorem tb_599 : (.instanceMethod yX5_dearest : Cond) ∈ TB := List.mem_filter.mpr ⟨by decide +kernel, by decide +kernel⟩
theorem tb_600 : (.selects RX5 yX5_dearest yX5_dearest : Cond) ∈ TB := List.mem_filter.mpr ⟨by decide +kernel, by decide +kernel⟩
theorem tb_601 : (.code yX5_dearest cX5_dearest 1 (some .int) : Cond) ∈ TB := List.mem_filter.mpr ⟨List.mem_of_getElem? (i := 193) (by decide +kernel), by decide +kernel⟩
theorem tb_602 : (.methodLink RX5 215 yX3_costliestReport : Cond) ∈ TB := List.mem_filter.mpr ⟨by decide +kernel, by decide +kernel⟩
theorem tb_603 : (.instanceMethod yX3_costliestReport : Cond) ∈ TB := List.mem_filter.mpr ⟨by decide +kernel, by decide +kernel⟩
theorem tb_604 : (.selects RX3 yX3_costliestReport yX3_costliestReport : Cond) ∈ TB := List.mem_filter.mpr ⟨by decide +kernel, by decide +kernel⟩
theorem tb_605 : (.code yX3_costliestReport cX3_costliestReport 6 (some .int) : Cond) ∈ TB := List.mem_filter.mpr ⟨List.mem_of_getElem? (i := 212) (by decide +kernel), by decide +kernel⟩
theorem tb_606 : (.methodLink RX3 48 yX1_isReported : Cond) ∈ TB := List.mem_filter.mpr ⟨by decide +kernel, by decide +kernel⟩
theorem tb_607 : (.methodLink RX3 52 yX3_costOfReport : Cond) ∈ TB := List.mem_filter.mpr ⟨by decide +kernel, by decide +kernel⟩
theorem tb_608 : (.instanceMethod yX3_costOfReport : Cond) ∈ TB := List.mem_filter.mpr ⟨by decide +kernel, by decide +kernel⟩
theorem tb_609 : (.selects RX3 yX3_costOfReport yX3_costOfReport : Cond) ∈ TB := List.mem_filter.mpr ⟨by decide +kernel, by decide +kernel⟩
theorem tb_610 : (.code yX3_costOfReport cX3_costOfReport 7 (some .int) : Cond) ∈ TB := List.mem_filter.mpr ⟨List.mem_of_getElem? (i := 235) (by decide +kernel), by decide +kernel⟩
theorem tb_611 : (.methodLink RX3 63 Lib.Math.max.name : Cond) ∈ TB := List.mem_filter.mpr ⟨by decide +kernel, by decide +kernel⟩
theorem tb_612 : (.methodLink RX3 55 yX1_reportedYear : Cond) ∈ TB := List.mem_filter.mpr ⟨by decide +kernel, by decide +kernel⟩
theorem inT_X0 : ∀ w ∈ u_ws RX0 TX0 16, w ∈ TB := by decide +kernel
theorem inT_X1 : ∀ w ∈ u_ws RX1 TX1 1, w ∈ TB := by decide +kernel
theorem inT_X2 : ∀ w ∈ u_ws RX2 TX2 3, w ∈ TB := by decide +kernel
theorem inT_X3 : ∀ w ∈ u_ws RX3 TX3 2, w ∈ TB := by decide +kernel
theorem inT_X4 : ∀ w ∈ u_ws RX4 TX4 2, w ∈ TB := by decide +kernel
theorem inT_X5 : ∀ w ∈ u_ws RX5 TX5 7, w ∈ TB := by decide +kernel
theorem inT_X6 : ∀ w ∈ u_ws RX6 TX6 0, w ∈ TB := by decide +kernel
def wsX0_init : List Cond := .code yX0_init cX0_init 1 none :: TB
def wsX0_allInventions : List Cond := .code yX0_allInventions cX0_allInventions 4 (some .int) :: TB
def wsX0_inventedTraits : List Cond := .code yX0_inventedTraits cX0_inventedTraits 4 (some .int) :: TB
def wsX0_study : List Cond := .code yX0_study cX0_study 3 (some .int) :: TB
def wsX0_takeReports : List Cond := .code yX0_takeReports cX0_takeReports 5 (some .boolean) :: TB
def wsX0_takeRoads : List Cond := .code yX0_takeRoads cX0_takeRoads 5 none :: TB
def wsX0_explainAlone : List Cond := .code yX0_explainAlone cX0_explainAlone 2 none :: TB
def wsX0_weighSets : List Cond := .code yX0_weighSets cX0_weighSets 4 none :: TB
def wsX0_weigh : List Cond := .code yX0_weigh cX0_weigh 3 none :: TB
def wsX0_inventIn : List Cond := .code yX0_inventIn cX0_inventIn 3 none :: TB
def wsX0_spread : List Cond := .code yX0_spread cX0_spread 6 none :: TB
def wsX0_passOn : List Cond := .code yX0_passOn cX0_passOn 5 (some .boolean) :: TB
def wsX0_knownInTime : List Cond := .code yX0_knownInTime cX0_knownInTime 3 (some .int) :: TB
def wsX0_sinceWhen : List Cond := .code yX0_sinceWhen cX0_sinceWhen 4 (some .int) :: TB
def wsX0_townInOrder : List Cond := .code yX0_townInOrder cX0_townInOrder 5 (some .int) :: TB
def wsX0_townsBefore : List Cond := .code yX0_townsBefore cX0_townsBefore 4 (some .int) :: TB
def wsX0_canHavePassed : List Cond := .code yX0_canHavePassed cX0_canHavePassed 9 (some .boolean) :: TB
def wsX0_explainsByRoad : List Cond := .code yX0_explainsByRoad cX0_explainsByRoad 7 (some .boolean) :: TB
def wsX1_init : List Cond := .code yX1_init cX1_init 1 none :: TB
def wsX1_writeTo : List Cond := .code yX1_writeTo cX1_writeTo 2 none :: TB
def wsX1_readFrom : List Cond := .code yX1_readFrom cX1_readFrom 2 none :: TB
def wsX1_takeOver : List Cond := .code yX1_takeOver cX1_takeOver 2 none :: TB
def wsX1_townCount : List Cond := .code yX1_townCount cX1_townCount 1 (some .int) :: TB
def wsX1_isTown : List Cond := .code yX1_isTown cX1_isTown 2 (some .boolean) :: TB
def wsX1_roadLength : List Cond := .code yX1_roadLength cX1_roadLength 3 (some .int) :: TB
def wsX1_roadCount : List Cond := .code yX1_roadCount cX1_roadCount 4 (some .int) :: TB
def wsX1_roadsAt : List Cond := .code yX1_roadsAt cX1_roadsAt 4 (some .int) :: TB
def wsX1_townBeside : List Cond := .code yX1_townBeside cX1_townBeside 5 (some .int) :: TB
def wsX1_reportedYear : List Cond := .code yX1_reportedYear cX1_reportedYear 4 (some .int) :: TB
def wsX1_isReported : List Cond := .code yX1_isReported cX1_isReported 3 (some .boolean) :: TB
def wsX1_isContradicted : List Cond := .code yX1_isContradicted cX1_isContradicted 4 (some .boolean) :: TB
def wsX1_reportedPairs : List Cond := .code yX1_reportedPairs cX1_reportedPairs 4 (some .int) :: TB
def wsX1_contradictions : List Cond := .code yX1_contradictions cX1_contradictions 4 (some .int) :: TB
def wsX1_canJoin : List Cond := .code yX1_canJoin cX1_canJoin 4 (some .boolean) :: TB
def wsX1_addTown : List Cond := .code yX1_addTown cX1_addTown 2 (some .int) :: TB
def wsX1_join : List Cond := .code yX1_join cX1_join 4 (some .boolean) :: TB
def wsX1_cut : List Cond := .code yX1_cut cX1_cut 4 (some .int) :: TB
def wsX1_setRoad : List Cond := .code yX1_setRoad cX1_setRoad 4 none :: TB
def wsX1_note : List Cond := .code yX1_note cX1_note 8 (some .int) :: TB
def wsX1_drop : List Cond := .code yX1_drop cX1_drop 4 (some .int) :: TB
def wsX2_init : List Cond := .code yX2_init cX2_init 1 none :: TB
def wsX2_isEmpty : List Cond := .code yX2_isEmpty cX2_isEmpty 1 (some .boolean) :: TB
def wsX2_clear : List Cond := .code yX2_clear cX2_clear 1 none :: TB
def wsX2_remember : List Cond := .code yX2_remember cX2_remember 2 none :: TB
def wsX2_takeBack : List Cond := .code yX2_takeBack cX2_takeBack 2 (some .int) :: TB
def wsX3_init : List Cond := .code yX3_init cX3_init 1 none :: TB
def wsX3_begin : List Cond := .code yX3_begin cX3_begin 2 none :: TB
def wsX3_inventionsWithRoad : List Cond := .code yX3_inventionsWithRoad cX3_inventionsWithRoad 4 (some .int) :: TB
def wsX3_newRoad : List Cond := .code yX3_newRoad cX3_newRoad 7 (some .int) :: TB
def wsX3_costliestReport : List Cond := .code yX3_costliestReport cX3_costliestReport 6 (some .int) :: TB
def wsX3_costOfReport : List Cond := .code yX3_costOfReport cX3_costOfReport 7 (some .int) :: TB
def wsX3_obeys : List Cond := .code yX3_obeys cX3_obeys 5 (some .boolean) :: TB
def wsX3_isUpTo : List Cond := .code yX3_isUpTo cX3_isUpTo 2 (some .boolean) :: TB
def wsX3_turn : List Cond := .code yX3_turn cX3_turn 6 none :: TB
def wsX3_summary : List Cond := .code yX3_summary cX3_summary 1 (some .int) :: TB
def wsX4_init : List Cond := .code yX4_init cX4_init 1 none :: TB
def wsX4_isFull : List Cond := .code yX4_isFull cX4_isFull 1 (some .boolean) :: TB
def wsX4_add : List Cond := .code yX4_add cX4_add 2 (some .int) :: TB
def wsX4_empty : List Cond := .code yX4_empty cX4_empty 2 (some .int) :: TB
def wsX4_firstError : List Cond := .code yX4_firstError cX4_firstError 3 (some .int) :: TB
def wsX4_awaitedBehind : List Cond := .code yX4_awaitedBehind cX4_awaitedBehind 3 (some .int) :: TB
def wsX4_noteIn : List Cond := .code yX4_noteIn cX4_noteIn 8 (some .int) :: TB
def wsX4_signAt : List Cond := .code yX4_signAt cX4_signAt 2 (some .int) :: TB
def wsX5_init : List Cond := .code yX5_init cX5_init 1 none :: TB
def wsX5_append : List Cond := .code yX5_append cX5_append 2 (some .int) :: TB
def wsX5_clearText : List Cond := .code yX5_clearText cX5_clearText 1 (some .int) :: TB
def wsX5_errorPosition : List Cond := .code yX5_errorPosition cX5_errorPosition 1 (some .int) :: TB
def wsX5_about : List Cond := .code yX5_about cX5_about 2 (some .int) :: TB
def wsX5_road : List Cond := .code yX5_road cX5_road 3 (some .int) :: TB
def wsX5_neighbor : List Cond := .code yX5_neighbor cX5_neighbor 3 (some .int) :: TB
def wsX5_report : List Cond := .code yX5_report cX5_report 4 (some .int) :: TB
def wsX5_found : List Cond := .code yX5_found cX5_found 1 (some .int) :: TB
def wsX5_lay : List Cond := .code yX5_lay cX5_lay 4 (some .int) :: TB
def wsX5_tear : List Cond := .code yX5_tear cX5_tear 3 (some .int) :: TB
def wsX5_see : List Cond := .code yX5_see cX5_see 5 (some .int) :: TB
def wsX5_seeAll : List Cond := .code yX5_seeAll cX5_seeAll 1 (some .int) :: TB
def wsX5_forget : List Cond := .code yX5_forget cX5_forget 3 (some .int) :: TB
def wsX5_undo : List Cond := .code yX5_undo cX5_undo 1 (some .int) :: TB
def wsX5_inventions : List Cond := .code yX5_inventions cX5_inventions 2 (some .int) :: TB
def wsX5_invented : List Cond := .code yX5_invented cX5_invented 3 (some .int) :: TB
def wsX5_choices : List Cond := .code yX5_choices cX5_choices 2 (some .int) :: TB
def wsX5_since : List Cond := .code yX5_since cX5_since 3 (some .int) :: TB
def wsX5_reached : List Cond := .code yX5_reached cX5_reached 3 (some .int) :: TB
def wsX5_passed : List Cond := .code yX5_passed cX5_passed 4 (some .int) :: TB
def wsX5_ifLaid : List Cond := .code yX5_ifLaid cX5_ifLaid 4 (some .int) :: TB
def wsX5_bestRoad : List Cond := .code yX5_bestRoad cX5_bestRoad 2 (some .int) :: TB
def wsX5_dearest : List Cond := .code yX5_dearest cX5_dearest 1 (some .int) :: TB
def wsX5_runScript : List Cond := .code yX5_runScript cX5_runScript 7 (some .int) :: TB
def wsX5_simulate : List Cond := .code yX5_simulate cX5_simulate 7 (some .int) :: TB
def wsX5_save : List Cond := .code yX5_save cX5_save 2 (some .int) :: TB
def wsX5_restore : List Cond := .code yX5_restore cX5_restore 2 (some .int) :: TB
def wsX5_needTown : List Cond := .code yX5_needTown cX5_needTown 2 none :: TB
def wsX5_needPossibleRoad : List Cond := .code yX5_needPossibleRoad cX5_needPossibleRoad 4 none :: TB
def wsX5_needTrait : List Cond := .code yX5_needTrait cX5_needTrait 1 none :: TB
def wsX5_needCount : List Cond := .code yX5_needCount cX5_needCount 1 none :: TB
def wsX5_needSlot : List Cond := .code yX5_needSlot cX5_needSlot 1 none :: TB
def wsX5_isTrait : List Cond := .code yX5_isTrait cX5_isTrait 1 (some .boolean) :: TB
def wsX5_isYear : List Cond := .code yX5_isYear cX5_isYear 1 (some .boolean) :: TB
def wsX5_isLength : List Cond := .code yX5_isLength cX5_isLength 1 (some .boolean) :: TB
def wsJ6_bitCount_0f7a4 : List Cond := .code yJ6_bitCount_0f7a4 cJ6_bitCount_0f7a4 1 (some .int) :: TB
def wsJ9_max_7cf53 : List Cond := .code yJ9_max_7cf53 cJ9_max_7cf53 2 (some .int) :: TB
def wsJ9_min_7cf53 : List Cond := .code yJ9_min_7cf53 cJ9_min_7cf53 2 (some .int) :: TB
def wsJ7_fill_53178 : List Cond := .code yJ7_fill_53178 cJ7_fill_53178 4 none :: TB
def wsL_tryReport : List Cond := .codeWith yL_tryReport cL_tryReport 5 (some .int) [(0, 7, 8, 13), (0, 7, 13, 16)] :: TB
def wsL_trySee : List Cond := .codeWith yL_trySee cL_trySee 6 (some .int) [(0, 9, 10, 13), (0, 9, 15, 16)] :: TB
def wsL_tryScript : List Cond := .codeWith yL_tryScript cL_tryScript 5 (some .int) [(0, 6, 7, 16)] :: TB
def wsL_trySimulate : List Cond := .codeWith yL_trySimulate cL_trySimulate 5 (some .int) [(0, 6, 7, 16)] :: TB
def wsL_tryAppend : List Cond := .codeWith yL_tryAppend cL_tryAppend 3 (some .int) [(0, 5, 6, 16), (0, 5, 10, 35)] :: TB
def wsL_tryAbout : List Cond := .codeWith yL_tryAbout cL_tryAbout 3 (some .int) [(0, 5, 6, 16)] :: TB
def wsL_tryRoad : List Cond := .codeWith yL_tryRoad cL_tryRoad 4 (some .int) [(0, 6, 7, 13)] :: TB
def wsL_tryNeighbor : List Cond := .codeWith yL_tryNeighbor cL_tryNeighbor 4 (some .int) [(0, 6, 7, 13), (0, 6, 11, 16)] :: TB
def wsL_tryFound : List Cond := .codeWith yL_tryFound cL_tryFound 2 (some .int) [(0, 4, 5, 35)] :: TB
def wsL_tryLay : List Cond := .codeWith yL_tryLay cL_tryLay 5 (some .int) [(0, 7, 8, 13), (0, 7, 13, 16), (0, 7, 18, 35)] :: TB
def wsL_tryTear : List Cond := .codeWith yL_tryTear cL_tryTear 4 (some .int) [(0, 6, 7, 13), (0, 6, 11, 35)] :: TB
def wsL_trySeeAll : List Cond := .codeWith yL_trySeeAll cL_trySeeAll 2 (some .int) [(0, 4, 5, 35)] :: TB
def wsL_tryForget : List Cond := .codeWith yL_tryForget cL_tryForget 4 (some .int) [(0, 6, 7, 13), (0, 6, 11, 16)] :: TB
def wsL_tryUndo : List Cond := .codeWith yL_tryUndo cL_tryUndo 2 (some .int) [(0, 4, 5, 35)] :: TB
def wsL_tryInventions : List Cond := .codeWith yL_tryInventions cL_tryInventions 3 (some .int) [(0, 5, 6, 16)] :: TB
def wsL_tryInvented : List Cond := .codeWith yL_tryInvented cL_tryInvented 4 (some .int) [(0, 6, 7, 16)] :: TB
def wsL_tryChoices : List Cond := .codeWith yL_tryChoices cL_tryChoices 3 (some .int) [(0, 5, 6, 16)] :: TB
def wsL_trySince : List Cond := .codeWith yL_trySince cL_trySince 4 (some .int) [(0, 6, 7, 13), (0, 6, 11, 16)] :: TB
def wsL_tryReached : List Cond := .codeWith yL_tryReached cL_tryReached 4 (some .int) [(0, 6, 7, 16)] :: TB
def wsL_tryPassed : List Cond := .codeWith yL_tryPassed cL_tryPassed 5 (some .int) [(0, 7, 8, 13), (0, 7, 13, 16)] :: TB
def wsL_tryIfLaid : List Cond := .codeWith yL_tryIfLaid cL_tryIfLaid 5 (some .int) [(0, 7, 8, 13), (0, 7, 13, 16), (0, 7, 18, 35)] :: TB
def wsL_tryBestRoad : List Cond := .codeWith yL_tryBestRoad cL_tryBestRoad 3 (some .int) [(0, 5, 6, 16)] :: TB
def wsL_tryKeep : List Cond := .codeWith yL_tryKeep cL_tryKeep 3 (some .int) [(0, 5, 6, 13)] :: TB
def wsL_tryBack : List Cond := .codeWith yL_tryBack cL_tryBack 3 (some .int) [(0, 5, 6, 13), (0, 5, 10, 35)] :: TB
def wsL_call : List Cond := .code yL_call cL_call 5 (some .int) :: TB
def wsL_cell : List Cond := .code yL_cell cL_cell 2 (some .int) :: TB
def wsL_refuses : List Cond := .code yL_refuses cL_refuses 5 (some .boolean) :: TB
def wsL_alike : List Cond := .code yL_alike cL_alike 6 (some .boolean) :: TB
def wsL_holds : List Cond := .code yL_holds cL_holds 19 (some .boolean) :: TB
def wsL_act : List Cond := .code yL_act cL_act 6 (some .int) :: TB
