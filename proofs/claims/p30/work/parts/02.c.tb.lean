def TB : List Cond := lw_tbl.filter goodWord
theorem TB_in {w : Cond} (h : w ∈ TB) : w ∈ lw_tbl := (List.mem_filter.mp h).1
theorem TB_good {w : Cond} (h : w ∈ TB) : goodWord w = true := (List.mem_filter.mp h).2
theorem TB_self {c : Cond} (h : c ∈ TB) : GoodIn TB (c :: TB) := fun w hw => (List.mem_cons.mp hw).elim (fun e => by rw [e]; exact ⟨h, good_of_word (TB_good h)⟩) (fun h9 => ⟨h9, good_of_word (TB_good h9)⟩)
theorem TB_v {own C : String} {idx : Nat} {y : MethodName} {ws : List Cond} (h1 : Cond.methodLink own idx y ∈ TB) (h2 : Cond.instanceMethod y ∈ TB) (h3 : Cond.selects C y y ∈ TB) (h4 : Cond.initialized C ∈ TB) (h5 : GoodIn TB ws) : GoodIn TB (wsV own idx C y ws) := by
  intro w hw
  unfold wsV at hw
  simp only [List.cons_append, List.nil_append, List.mem_cons] at hw
  rcases hw with rfl | rfl | rfl | rfl | hw
  · exact ⟨h1, good_of_word (TB_good h1)⟩
  · exact ⟨h2, good_of_word (TB_good h2)⟩
  · exact ⟨h3, good_of_word (TB_good h3)⟩
  · exact ⟨h4, good_of_word (TB_good h4)⟩
  · exact h5 w hw
theorem TB_s {own : String} {idx : Nat} {y : MethodName} {ws : List Cond} (h1 : Cond.methodLink own idx y ∈ TB) (h2 : Cond.static y ∈ TB) (h4 : Cond.initialized y.cls ∈ TB) (h5 : GoodIn TB ws) : GoodIn TB (va_wsS own idx y ws) := by
  intro w hw
  unfold va_wsS at hw
  simp only [List.cons_append, List.nil_append, List.mem_cons] at hw
  rcases hw with rfl | rfl | rfl | hw
  · exact ⟨h1, good_of_word (TB_good h1)⟩
  · exact ⟨h2, good_of_word (TB_good h2)⟩
  · exact ⟨h4, good_of_word (TB_good h4)⟩
  · exact h5 w hw
theorem tb_0 : (.classLink RL 8 RX5 : Cond) ∈ TB := List.mem_filter.mpr ⟨by decide +kernel, by decide +kernel⟩
theorem tb_1 : (.instantiable RX5 7 : Cond) ∈ TB := List.mem_filter.mpr ⟨by decide +kernel, by decide +kernel⟩
theorem tb_2 : (.initialized RX5 : Cond) ∈ TB := List.mem_filter.mpr ⟨by decide +kernel, by decide +kernel⟩
theorem tb_3 : (.constantLong RL 215 (3434254022) : Cond) ∈ TB := List.mem_filter.mpr ⟨by decide +kernel, by decide +kernel⟩
theorem tb_4 : (.constantLong RL 217 (821) : Cond) ∈ TB := List.mem_filter.mpr ⟨by decide +kernel, by decide +kernel⟩
theorem tb_5 : (.constantLong RL 219 (400) : Cond) ∈ TB := List.mem_filter.mpr ⟨by decide +kernel, by decide +kernel⟩
theorem tb_6 : (.methodLink RL 196 yX5_init : Cond) ∈ TB := List.mem_filter.mpr ⟨by decide +kernel, by decide +kernel⟩
theorem tb_7 : (.instanceMethod yX5_init : Cond) ∈ TB := List.mem_filter.mpr ⟨by decide +kernel, by decide +kernel⟩
set_option maxRecDepth 100000 in
theorem tb_8 : (.code yX5_init cX5_init 1 none : Cond) ∈ TB := List.mem_filter.mpr ⟨List.mem_of_getElem? (i := 40) rfl, by decide +kernel⟩
theorem tb_9 : (.methodLink RX5 1 objectInit : Cond) ∈ TB := List.mem_filter.mpr ⟨by decide +kernel, by decide +kernel⟩
theorem tb_10 : (.instanceMethod objectInit : Cond) ∈ TB := List.mem_filter.mpr ⟨by decide +kernel, by decide +kernel⟩
set_option maxRecDepth 100000 in
theorem tb_11 : (.code objectInit ⟨#[0xb1]⟩ 1 none : Cond) ∈ TB := List.mem_filter.mpr ⟨List.mem_of_getElem? (i := 43) rfl, by decide +kernel⟩
theorem tb_12 : (.classLink RX5 7 RX1 : Cond) ∈ TB := List.mem_filter.mpr ⟨by decide +kernel, by decide +kernel⟩
theorem tb_13 : (.instantiable RX1 1 : Cond) ∈ TB := List.mem_filter.mpr ⟨by decide +kernel, by decide +kernel⟩
theorem tb_14 : (.initialized RX1 : Cond) ∈ TB := List.mem_filter.mpr ⟨by decide +kernel, by decide +kernel⟩
theorem tb_15 : (.fieldLink RX5 10 "PassedTraits" "land" "LPassedTraits$Land;" : Cond) ∈ TB := List.mem_filter.mpr ⟨by decide +kernel, by decide +kernel⟩
theorem tb_16 : (.classLink RX5 16 RX2 : Cond) ∈ TB := List.mem_filter.mpr ⟨by decide +kernel, by decide +kernel⟩
theorem tb_17 : (.instantiable RX2 3 : Cond) ∈ TB := List.mem_filter.mpr ⟨by decide +kernel, by decide +kernel⟩
theorem tb_18 : (.initialized RX2 : Cond) ∈ TB := List.mem_filter.mpr ⟨by decide +kernel, by decide +kernel⟩
theorem tb_19 : (.fieldLink RX5 19 "PassedTraits" "past" "LPassedTraits$Past;" : Cond) ∈ TB := List.mem_filter.mpr ⟨by decide +kernel, by decide +kernel⟩
theorem tb_20 : (.classLink RX5 23 RX4 : Cond) ∈ TB := List.mem_filter.mpr ⟨by decide +kernel, by decide +kernel⟩
theorem tb_21 : (.instantiable RX4 2 : Cond) ∈ TB := List.mem_filter.mpr ⟨by decide +kernel, by decide +kernel⟩
theorem tb_22 : (.initialized RX4 : Cond) ∈ TB := List.mem_filter.mpr ⟨by decide +kernel, by decide +kernel⟩
theorem tb_23 : (.fieldLink RX5 26 "PassedTraits" "text" "LPassedTraits$ReportText;" : Cond) ∈ TB := List.mem_filter.mpr ⟨by decide +kernel, by decide +kernel⟩
theorem tb_24 : (.classLink RX5 30 RX0 : Cond) ∈ TB := List.mem_filter.mpr ⟨by decide +kernel, by decide +kernel⟩
theorem tb_25 : (.instantiable RX0 16 : Cond) ∈ TB := List.mem_filter.mpr ⟨by decide +kernel, by decide +kernel⟩
theorem tb_26 : (.initialized RX0 : Cond) ∈ TB := List.mem_filter.mpr ⟨by decide +kernel, by decide +kernel⟩
theorem tb_27 : (.fieldLink RX5 33 "PassedTraits" "histories" "LPassedTraits$Histories;" : Cond) ∈ TB := List.mem_filter.mpr ⟨by decide +kernel, by decide +kernel⟩
theorem tb_28 : (.classLink RX5 37 RX3 : Cond) ∈ TB := List.mem_filter.mpr ⟨by decide +kernel, by decide +kernel⟩
theorem tb_29 : (.instantiable RX3 2 : Cond) ∈ TB := List.mem_filter.mpr ⟨by decide +kernel, by decide +kernel⟩
theorem tb_30 : (.initialized RX3 : Cond) ∈ TB := List.mem_filter.mpr ⟨by decide +kernel, by decide +kernel⟩
theorem tb_31 : (.fieldLink RX5 40 "PassedTraits" "rehearsal" "LPassedTraits$Rehearsal;" : Cond) ∈ TB := List.mem_filter.mpr ⟨by decide +kernel, by decide +kernel⟩
theorem tb_32 : (.classLink RX5 44 "[[I" : Cond) ∈ TB := List.mem_filter.mpr ⟨by decide +kernel, by decide +kernel⟩
theorem tb_33 : (.arrayClass .int : Cond) ∈ TB := List.mem_filter.mpr ⟨by decide +kernel, by decide +kernel⟩
theorem tb_34 : (.fieldLink RX5 46 "PassedTraits" "slots" "[[I" : Cond) ∈ TB := List.mem_filter.mpr ⟨by decide +kernel, by decide +kernel⟩
theorem tb_35 : (.arrayClass .boolean : Cond) ∈ TB := List.mem_filter.mpr ⟨by decide +kernel, by decide +kernel⟩
theorem tb_36 : (.fieldLink RX5 49 "PassedTraits" "saved" "[Z" : Cond) ∈ TB := List.mem_filter.mpr ⟨by decide +kernel, by decide +kernel⟩
theorem tb_37 : (.methodLink RX5 9 yX1_init : Cond) ∈ TB := List.mem_filter.mpr ⟨by decide +kernel, by decide +kernel⟩
theorem tb_38 : (.instanceMethod yX1_init : Cond) ∈ TB := List.mem_filter.mpr ⟨by decide +kernel, by decide +kernel⟩
set_option maxRecDepth 100000 in
theorem tb_39 : (.code yX1_init cX1_init 1 none : Cond) ∈ TB := List.mem_filter.mpr ⟨List.mem_of_getElem? (i := 48) rfl, by decide +kernel⟩
theorem tb_40 : (.methodLink RX1 5 objectInit : Cond) ∈ TB := List.mem_filter.mpr ⟨by decide +kernel, by decide +kernel⟩
theorem tb_41 : (.fieldLink RX1 11 "PassedTraits$Land" "cells" "[I" : Cond) ∈ TB := List.mem_filter.mpr ⟨by decide +kernel, by decide +kernel⟩
theorem tb_42 : (.methodLink RX1 15 yJ7_fill_53178 : Cond) ∈ TB := List.mem_filter.mpr ⟨by decide +kernel, by decide +kernel⟩
theorem tb_43 : (.static yJ7_fill_53178 : Cond) ∈ TB := List.mem_filter.mpr ⟨by decide +kernel, by decide +kernel⟩
theorem tb_44 : (.initialized RJ7 : Cond) ∈ TB := List.mem_filter.mpr ⟨by decide +kernel, by decide +kernel⟩
set_option maxRecDepth 100000 in
theorem tb_45 : (.code yJ7_fill_53178 cJ7_fill_53178 4 none : Cond) ∈ TB := List.mem_filter.mpr ⟨List.mem_of_getElem? (i := 52) rfl, by decide +kernel⟩
theorem tb_46 : (.methodLink RX5 18 yX2_init : Cond) ∈ TB := List.mem_filter.mpr ⟨by decide +kernel, by decide +kernel⟩
theorem tb_47 : (.instanceMethod yX2_init : Cond) ∈ TB := List.mem_filter.mpr ⟨by decide +kernel, by decide +kernel⟩
set_option maxRecDepth 100000 in
theorem tb_48 : (.code yX2_init cX2_init 1 none : Cond) ∈ TB := List.mem_filter.mpr ⟨List.mem_of_getElem? (i := 62) rfl, by decide +kernel⟩
theorem tb_49 : (.methodLink RX2 1 objectInit : Cond) ∈ TB := List.mem_filter.mpr ⟨by decide +kernel, by decide +kernel⟩
theorem tb_50 : (.classLink RX2 11 "[[I" : Cond) ∈ TB := List.mem_filter.mpr ⟨by decide +kernel, by decide +kernel⟩
theorem tb_51 : (.fieldLink RX2 13 "PassedTraits$Past" "states" "[[I" : Cond) ∈ TB := List.mem_filter.mpr ⟨by decide +kernel, by decide +kernel⟩
theorem tb_52 : (.fieldLink RX2 16 "PassedTraits$Past" "oldest" "I" : Cond) ∈ TB := List.mem_filter.mpr ⟨by decide +kernel, by decide +kernel⟩
theorem tb_53 : (.fieldLink RX2 20 "PassedTraits$Past" "count" "I" : Cond) ∈ TB := List.mem_filter.mpr ⟨by decide +kernel, by decide +kernel⟩
theorem tb_54 : (.methodLink RX5 25 yX4_init : Cond) ∈ TB := List.mem_filter.mpr ⟨by decide +kernel, by decide +kernel⟩
theorem tb_55 : (.instanceMethod yX4_init : Cond) ∈ TB := List.mem_filter.mpr ⟨by decide +kernel, by decide +kernel⟩
set_option maxRecDepth 100000 in
theorem tb_56 : (.code yX4_init cX4_init 1 none : Cond) ∈ TB := List.mem_filter.mpr ⟨List.mem_of_getElem? (i := 80) rfl, by decide +kernel⟩
theorem tb_57 : (.methodLink RX4 3 objectInit : Cond) ∈ TB := List.mem_filter.mpr ⟨by decide +kernel, by decide +kernel⟩
theorem tb_58 : (.arrayClass .char : Cond) ∈ TB := List.mem_filter.mpr ⟨by decide +kernel, by decide +kernel⟩
theorem tb_59 : (.fieldLink RX4 11 "PassedTraits$ReportText" "signs" "[C" : Cond) ∈ TB := List.mem_filter.mpr ⟨by decide +kernel, by decide +kernel⟩
theorem tb_60 : (.fieldLink RX4 15 "PassedTraits$ReportText" "length" "I" : Cond) ∈ TB := List.mem_filter.mpr ⟨by decide +kernel, by decide +kernel⟩
theorem tb_61 : (.methodLink RX5 32 yX0_init : Cond) ∈ TB := List.mem_filter.mpr ⟨by decide +kernel, by decide +kernel⟩
theorem tb_62 : (.instanceMethod yX0_init : Cond) ∈ TB := List.mem_filter.mpr ⟨by decide +kernel, by decide +kernel⟩
set_option maxRecDepth 100000 in
theorem tb_63 : (.code yX0_init cX0_init 1 none : Cond) ∈ TB := List.mem_filter.mpr ⟨List.mem_of_getElem? (i := 94) rfl, by decide +kernel⟩
theorem tb_64 : (.methodLink RX0 3 objectInit : Cond) ∈ TB := List.mem_filter.mpr ⟨by decide +kernel, by decide +kernel⟩
theorem tb_65 : (.fieldLink RX0 9 "PassedTraits$Histories" "from" "[I" : Cond) ∈ TB := List.mem_filter.mpr ⟨by decide +kernel, by decide +kernel⟩
theorem tb_66 : (.fieldLink RX0 15 "PassedTraits$Histories" "to" "[I" : Cond) ∈ TB := List.mem_filter.mpr ⟨by decide +kernel, by decide +kernel⟩
theorem tb_67 : (.fieldLink RX0 18 "PassedTraits$Histories" "lengths" "[I" : Cond) ∈ TB := List.mem_filter.mpr ⟨by decide +kernel, by decide +kernel⟩
theorem tb_68 : (.fieldLink RX0 21 "PassedTraits$Histories" "earliest" "[I" : Cond) ∈ TB := List.mem_filter.mpr ⟨by decide +kernel, by decide +kernel⟩
theorem tb_69 : (.fieldLink RX0 24 "PassedTraits$Histories" "latest" "[I" : Cond) ∈ TB := List.mem_filter.mpr ⟨by decide +kernel, by decide +kernel⟩
theorem tb_70 : (.fieldLink RX0 27 "PassedTraits$Histories" "years" "[I" : Cond) ∈ TB := List.mem_filter.mpr ⟨by decide +kernel, by decide +kernel⟩
theorem tb_71 : (.fieldLink RX0 30 "PassedTraits$Histories" "explained" "[I" : Cond) ∈ TB := List.mem_filter.mpr ⟨by decide +kernel, by decide +kernel⟩
theorem tb_72 : (.fieldLink RX0 33 "PassedTraits$Histories" "together" "[I" : Cond) ∈ TB := List.mem_filter.mpr ⟨by decide +kernel, by decide +kernel⟩
theorem tb_73 : (.methodLink RX5 39 yX3_init : Cond) ∈ TB := List.mem_filter.mpr ⟨by decide +kernel, by decide +kernel⟩
theorem tb_74 : (.instanceMethod yX3_init : Cond) ∈ TB := List.mem_filter.mpr ⟨by decide +kernel, by decide +kernel⟩
set_option maxRecDepth 100000 in
theorem tb_75 : (.code yX3_init cX3_init 1 none : Cond) ∈ TB := List.mem_filter.mpr ⟨List.mem_of_getElem? (i := 153) rfl, by decide +kernel⟩
theorem tb_76 : (.methodLink RX3 3 objectInit : Cond) ∈ TB := List.mem_filter.mpr ⟨by decide +kernel, by decide +kernel⟩
theorem tb_77 : (.classLink RX3 9 RX1 : Cond) ∈ TB := List.mem_filter.mpr ⟨by decide +kernel, by decide +kernel⟩
theorem tb_78 : (.fieldLink RX3 12 "PassedTraits$Rehearsal" "copy" "LPassedTraits$Land;" : Cond) ∈ TB := List.mem_filter.mpr ⟨by decide +kernel, by decide +kernel⟩
theorem tb_79 : (.classLink RX3 18 RX0 : Cond) ∈ TB := List.mem_filter.mpr ⟨by decide +kernel, by decide +kernel⟩
theorem tb_80 : (.fieldLink RX3 21 "PassedTraits$Rehearsal" "histories" "LPassedTraits$Histories;" : Cond) ∈ TB := List.mem_filter.mpr ⟨by decide +kernel, by decide +kernel⟩
theorem tb_81 : (.methodLink RX3 11 yX1_init : Cond) ∈ TB := List.mem_filter.mpr ⟨by decide +kernel, by decide +kernel⟩
theorem tb_82 : (.methodLink RX3 20 yX0_init : Cond) ∈ TB := List.mem_filter.mpr ⟨by decide +kernel, by decide +kernel⟩
theorem tb_83 : (.methodLink RL 197 yL_cell : Cond) ∈ TB := List.mem_filter.mpr ⟨by decide +kernel, by decide +kernel⟩
theorem tb_84 : (.static yL_cell : Cond) ∈ TB := List.mem_filter.mpr ⟨by decide +kernel, by decide +kernel⟩
theorem tb_85 : (.initialized RL : Cond) ∈ TB := List.mem_filter.mpr ⟨by decide +kernel, by decide +kernel⟩
set_option maxRecDepth 100000 in
theorem tb_86 : (.code yL_cell cL_cell 2 (some .int) : Cond) ∈ TB := List.mem_filter.mpr ⟨List.mem_of_getElem? (i := 777) rfl, by decide +kernel⟩
theorem tb_87 : (.constant RL 164 (15518437) : Cond) ∈ TB := List.mem_filter.mpr ⟨by decide +kernel, by decide +kernel⟩
theorem tb_88 : (.constant RL 165 (2147483647) : Cond) ∈ TB := List.mem_filter.mpr ⟨by decide +kernel, by decide +kernel⟩
theorem tb_89 : (.methodLink RL 201 yL_refuses : Cond) ∈ TB := List.mem_filter.mpr ⟨by decide +kernel, by decide +kernel⟩
theorem tb_90 : (.static yL_refuses : Cond) ∈ TB := List.mem_filter.mpr ⟨by decide +kernel, by decide +kernel⟩
set_option maxRecDepth 100000 in
theorem tb_91 : (.code yL_refuses cL_refuses 5 (some .boolean) : Cond) ∈ TB := List.mem_filter.mpr ⟨List.mem_of_getElem? (i := 782) rfl, by decide +kernel⟩
theorem tb_92 : (.constant RL 18 (-9999002) : Cond) ∈ TB := List.mem_filter.mpr ⟨by decide +kernel, by decide +kernel⟩
theorem tb_93 : (.constant RL 15 (-9999001) : Cond) ∈ TB := List.mem_filter.mpr ⟨by decide +kernel, by decide +kernel⟩
theorem tb_94 : (.constant RL 37 (-9999003) : Cond) ∈ TB := List.mem_filter.mpr ⟨by decide +kernel, by decide +kernel⟩
theorem tb_95 : (.constantLong RL 182 (1000000) : Cond) ∈ TB := List.mem_filter.mpr ⟨by decide +kernel, by decide +kernel⟩
theorem tb_96 : (.constantLong RL 184 (-1) : Cond) ∈ TB := List.mem_filter.mpr ⟨by decide +kernel, by decide +kernel⟩
theorem tb_97 : (.methodLink RL 166 yL_call : Cond) ∈ TB := List.mem_filter.mpr ⟨by decide +kernel, by decide +kernel⟩
theorem tb_98 : (.static yL_call : Cond) ∈ TB := List.mem_filter.mpr ⟨by decide +kernel, by decide +kernel⟩
set_option maxRecDepth 100000 in
theorem tb_99 : (.code yL_call cL_call 5 (some .int) : Cond) ∈ TB := List.mem_filter.mpr ⟨List.mem_of_getElem? (i := 467) rfl, by decide +kernel⟩
theorem tb_100 : (.methodLink RL 98 yL_tryAppend : Cond) ∈ TB := List.mem_filter.mpr ⟨by decide +kernel, by decide +kernel⟩
theorem tb_101 : (.static yL_tryAppend : Cond) ∈ TB := List.mem_filter.mpr ⟨by decide +kernel, by decide +kernel⟩
theorem tb_102 : (.codeWith yL_tryAppend cL_tryAppend 3 (some .int) [(0, 5, 6, 16), (0, 5, 10, 35)] : Cond) ∈ TB := List.mem_filter.mpr ⟨by decide +kernel, by decide +kernel⟩
theorem tb_103 : (.classLink RL 16 "java/lang/IllegalArgumentException" : Cond) ∈ TB := List.mem_filter.mpr ⟨by decide +kernel, by decide +kernel⟩
theorem tb_104 : (.classLink RL 35 "java/lang/IllegalStateException" : Cond) ∈ TB := List.mem_filter.mpr ⟨by decide +kernel, by decide +kernel⟩
theorem tb_105 : (.methodLink RL 31 yX5_append : Cond) ∈ TB := List.mem_filter.mpr ⟨by decide +kernel, by decide +kernel⟩
theorem tb_106 : (.instanceMethod yX5_append : Cond) ∈ TB := List.mem_filter.mpr ⟨by decide +kernel, by decide +kernel⟩
theorem tb_107 : (.selects RX5 yX5_append yX5_append : Cond) ∈ TB := List.mem_filter.mpr ⟨by decide +kernel, by decide +kernel⟩
set_option maxRecDepth 100000 in
theorem tb_108 : (.code yX5_append cX5_append 2 (some .int) : Cond) ∈ TB := List.mem_filter.mpr ⟨List.mem_of_getElem? (i := 475) rfl, by decide +kernel⟩
theorem tb_109 : (.classLink RX5 53 "java/lang/IllegalArgumentException" : Cond) ∈ TB := List.mem_filter.mpr ⟨by decide +kernel, by decide +kernel⟩
theorem tb_110 : (.initialized "java/lang/IllegalArgumentException" : Cond) ∈ TB := List.mem_filter.mpr ⟨by decide +kernel, by decide +kernel⟩
theorem tb_111 : (.classLink RX5 64 "java/lang/IllegalStateException" : Cond) ∈ TB := List.mem_filter.mpr ⟨by decide +kernel, by decide +kernel⟩
theorem tb_112 : (.initialized "java/lang/IllegalStateException" : Cond) ∈ TB := List.mem_filter.mpr ⟨by decide +kernel, by decide +kernel⟩
theorem tb_113 : (.methodLink RX5 60 yX4_isFull : Cond) ∈ TB := List.mem_filter.mpr ⟨by decide +kernel, by decide +kernel⟩
theorem tb_114 : (.instanceMethod yX4_isFull : Cond) ∈ TB := List.mem_filter.mpr ⟨by decide +kernel, by decide +kernel⟩
theorem tb_115 : (.selects RX4 yX4_isFull yX4_isFull : Cond) ∈ TB := List.mem_filter.mpr ⟨by decide +kernel, by decide +kernel⟩
set_option maxRecDepth 100000 in
theorem tb_116 : (.code yX4_isFull cX4_isFull 1 (some .boolean) : Cond) ∈ TB := List.mem_filter.mpr ⟨List.mem_of_getElem? (i := 480) rfl, by decide +kernel⟩
theorem tb_117 : (.methodLink RX5 69 yX4_add : Cond) ∈ TB := List.mem_filter.mpr ⟨by decide +kernel, by decide +kernel⟩
theorem tb_118 : (.instanceMethod yX4_add : Cond) ∈ TB := List.mem_filter.mpr ⟨by decide +kernel, by decide +kernel⟩
theorem tb_119 : (.selects RX4 yX4_add yX4_add : Cond) ∈ TB := List.mem_filter.mpr ⟨by decide +kernel, by decide +kernel⟩
set_option maxRecDepth 100000 in
theorem tb_120 : (.code yX4_add cX4_add 2 (some .int) : Cond) ∈ TB := List.mem_filter.mpr ⟨List.mem_of_getElem? (i := 500) rfl, by decide +kernel⟩
theorem tb_121 : (.methodLink RL 104 yL_tryAbout : Cond) ∈ TB := List.mem_filter.mpr ⟨by decide +kernel, by decide +kernel⟩
theorem tb_122 : (.static yL_tryAbout : Cond) ∈ TB := List.mem_filter.mpr ⟨by decide +kernel, by decide +kernel⟩
theorem tb_123 : (.codeWith yL_tryAbout cL_tryAbout 3 (some .int) [(0, 5, 6, 16)] : Cond) ∈ TB := List.mem_filter.mpr ⟨by decide +kernel, by decide +kernel⟩
theorem tb_124 : (.methodLink RL 38 yX5_about : Cond) ∈ TB := List.mem_filter.mpr ⟨by decide +kernel, by decide +kernel⟩
theorem tb_125 : (.instanceMethod yX5_about : Cond) ∈ TB := List.mem_filter.mpr ⟨by decide +kernel, by decide +kernel⟩
theorem tb_126 : (.selects RX5 yX5_about yX5_about : Cond) ∈ TB := List.mem_filter.mpr ⟨by decide +kernel, by decide +kernel⟩
set_option maxRecDepth 100000 in
theorem tb_127 : (.code yX5_about cX5_about 2 (some .int) : Cond) ∈ TB := List.mem_filter.mpr ⟨List.mem_of_getElem? (i := 508) rfl, by decide +kernel⟩
theorem tb_128 : (.methodLink RX5 80 yX1_townCount : Cond) ∈ TB := List.mem_filter.mpr ⟨by decide +kernel, by decide +kernel⟩
theorem tb_129 : (.instanceMethod yX1_townCount : Cond) ∈ TB := List.mem_filter.mpr ⟨by decide +kernel, by decide +kernel⟩
theorem tb_130 : (.selects RX1 yX1_townCount yX1_townCount : Cond) ∈ TB := List.mem_filter.mpr ⟨by decide +kernel, by decide +kernel⟩
set_option maxRecDepth 100000 in
theorem tb_131 : (.code yX1_townCount cX1_townCount 1 (some .int) : Cond) ∈ TB := List.mem_filter.mpr ⟨List.mem_of_getElem? (i := 216) rfl, by decide +kernel⟩
theorem tb_132 : (.methodLink RX5 83 yX1_roadCount : Cond) ∈ TB := List.mem_filter.mpr ⟨by decide +kernel, by decide +kernel⟩
theorem tb_133 : (.instanceMethod yX1_roadCount : Cond) ∈ TB := List.mem_filter.mpr ⟨by decide +kernel, by decide +kernel⟩
theorem tb_134 : (.selects RX1 yX1_roadCount yX1_roadCount : Cond) ∈ TB := List.mem_filter.mpr ⟨by decide +kernel, by decide +kernel⟩
set_option maxRecDepth 100000 in
theorem tb_135 : (.code yX1_roadCount cX1_roadCount 4 (some .int) : Cond) ∈ TB := List.mem_filter.mpr ⟨List.mem_of_getElem? (i := 413) rfl, by decide +kernel⟩
theorem tb_136 : (.methodLink RX1 35 yX1_roadLength : Cond) ∈ TB := List.mem_filter.mpr ⟨by decide +kernel, by decide +kernel⟩
theorem tb_137 : (.instanceMethod yX1_roadLength : Cond) ∈ TB := List.mem_filter.mpr ⟨by decide +kernel, by decide +kernel⟩
theorem tb_138 : (.selects RX1 yX1_roadLength yX1_roadLength : Cond) ∈ TB := List.mem_filter.mpr ⟨by decide +kernel, by decide +kernel⟩
set_option maxRecDepth 100000 in
theorem tb_139 : (.code yX1_roadLength cX1_roadLength 3 (some .int) : Cond) ∈ TB := List.mem_filter.mpr ⟨List.mem_of_getElem? (i := 252) rfl, by decide +kernel⟩
theorem tb_140 : (.methodLink RX1 31 yX1_isTown : Cond) ∈ TB := List.mem_filter.mpr ⟨by decide +kernel, by decide +kernel⟩
theorem tb_141 : (.instanceMethod yX1_isTown : Cond) ∈ TB := List.mem_filter.mpr ⟨by decide +kernel, by decide +kernel⟩
theorem tb_142 : (.selects RX1 yX1_isTown yX1_isTown : Cond) ∈ TB := List.mem_filter.mpr ⟨by decide +kernel, by decide +kernel⟩
set_option maxRecDepth 100000 in
theorem tb_143 : (.code yX1_isTown cX1_isTown 2 (some .boolean) : Cond) ∈ TB := List.mem_filter.mpr ⟨List.mem_of_getElem? (i := 228) rfl, by decide +kernel⟩
theorem tb_144 : (.methodLink RX5 86 yX1_reportedPairs : Cond) ∈ TB := List.mem_filter.mpr ⟨by decide +kernel, by decide +kernel⟩
theorem tb_145 : (.instanceMethod yX1_reportedPairs : Cond) ∈ TB := List.mem_filter.mpr ⟨by decide +kernel, by decide +kernel⟩
theorem tb_146 : (.selects RX1 yX1_reportedPairs yX1_reportedPairs : Cond) ∈ TB := List.mem_filter.mpr ⟨by decide +kernel, by decide +kernel⟩
set_option maxRecDepth 100000 in
theorem tb_147 : (.code yX1_reportedPairs cX1_reportedPairs 4 (some .int) : Cond) ∈ TB := List.mem_filter.mpr ⟨List.mem_of_getElem? (i := 514) rfl, by decide +kernel⟩
theorem tb_148 : (.methodLink RX1 46 yX1_isReported : Cond) ∈ TB := List.mem_filter.mpr ⟨by decide +kernel, by decide +kernel⟩
theorem tb_149 : (.instanceMethod yX1_isReported : Cond) ∈ TB := List.mem_filter.mpr ⟨by decide +kernel, by decide +kernel⟩
theorem tb_150 : (.selects RX1 yX1_isReported yX1_isReported : Cond) ∈ TB := List.mem_filter.mpr ⟨by decide +kernel, by decide +kernel⟩
set_option maxRecDepth 100000 in
theorem tb_151 : (.code yX1_isReported cX1_isReported 3 (some .boolean) : Cond) ∈ TB := List.mem_filter.mpr ⟨List.mem_of_getElem? (i := 220) rfl, by decide +kernel⟩
theorem tb_152 : (.methodLink RX1 42 yX1_reportedYear : Cond) ∈ TB := List.mem_filter.mpr ⟨by decide +kernel, by decide +kernel⟩
theorem tb_153 : (.instanceMethod yX1_reportedYear : Cond) ∈ TB := List.mem_filter.mpr ⟨by decide +kernel, by decide +kernel⟩
theorem tb_154 : (.selects RX1 yX1_reportedYear yX1_reportedYear : Cond) ∈ TB := List.mem_filter.mpr ⟨by decide +kernel, by decide +kernel⟩
set_option maxRecDepth 100000 in
theorem tb_155 : (.code yX1_reportedYear cX1_reportedYear 4 (some .int) : Cond) ∈ TB := List.mem_filter.mpr ⟨List.mem_of_getElem? (i := 224) rfl, by decide +kernel⟩
theorem tb_156 : (.static yX5_isTrait : Cond) ∈ TB := List.mem_filter.mpr ⟨by decide +kernel, by decide +kernel⟩
set_option maxRecDepth 100000 in
theorem tb_157 : (.code yX5_isTrait cX5_isTrait 1 (some .boolean) : Cond) ∈ TB := List.mem_filter.mpr ⟨List.mem_of_getElem? (i := 231) rfl, by decide +kernel⟩
theorem tb_158 : (.methodLink RX5 89 yX1_contradictions : Cond) ∈ TB := List.mem_filter.mpr ⟨by decide +kernel, by decide +kernel⟩
theorem tb_159 : (.instanceMethod yX1_contradictions : Cond) ∈ TB := List.mem_filter.mpr ⟨by decide +kernel, by decide +kernel⟩
theorem tb_160 : (.selects RX1 yX1_contradictions yX1_contradictions : Cond) ∈ TB := List.mem_filter.mpr ⟨by decide +kernel, by decide +kernel⟩
set_option maxRecDepth 100000 in
theorem tb_161 : (.code yX1_contradictions cX1_contradictions 4 (some .int) : Cond) ∈ TB := List.mem_filter.mpr ⟨List.mem_of_getElem? (i := 459) rfl, by decide +kernel⟩
theorem tb_162 : (.methodLink RX1 50 yX1_isContradicted : Cond) ∈ TB := List.mem_filter.mpr ⟨by decide +kernel, by decide +kernel⟩
theorem tb_163 : (.instanceMethod yX1_isContradicted : Cond) ∈ TB := List.mem_filter.mpr ⟨by decide +kernel, by decide +kernel⟩
theorem tb_164 : (.selects RX1 yX1_isContradicted yX1_isContradicted : Cond) ∈ TB := List.mem_filter.mpr ⟨by decide +kernel, by decide +kernel⟩
set_option maxRecDepth 100000 in
theorem tb_165 : (.code yX1_isContradicted cX1_isContradicted 4 (some .boolean) : Cond) ∈ TB := List.mem_filter.mpr ⟨List.mem_of_getElem? (i := 463) rfl, by decide +kernel⟩
theorem tb_166 : (.methodLink RX5 92 yX0_inventedTraits : Cond) ∈ TB := List.mem_filter.mpr ⟨by decide +kernel, by decide +kernel⟩
theorem tb_167 : (.instanceMethod yX0_inventedTraits : Cond) ∈ TB := List.mem_filter.mpr ⟨by decide +kernel, by decide +kernel⟩
theorem tb_168 : (.selects RX0 yX0_inventedTraits yX0_inventedTraits : Cond) ∈ TB := List.mem_filter.mpr ⟨by decide +kernel, by decide +kernel⟩
set_option maxRecDepth 100000 in
theorem tb_169 : (.code yX0_inventedTraits cX0_inventedTraits 4 (some .int) : Cond) ∈ TB := List.mem_filter.mpr ⟨List.mem_of_getElem? (i := 519) rfl, by decide +kernel⟩
theorem tb_170 : (.methodLink RX0 36 yX0_study : Cond) ∈ TB := List.mem_filter.mpr ⟨by decide +kernel, by decide +kernel⟩
theorem tb_171 : (.instanceMethod yX0_study : Cond) ∈ TB := List.mem_filter.mpr ⟨by decide +kernel, by decide +kernel⟩
theorem tb_172 : (.selects RX0 yX0_study yX0_study : Cond) ∈ TB := List.mem_filter.mpr ⟨by decide +kernel, by decide +kernel⟩
set_option maxRecDepth 100000 in
theorem tb_173 : (.code yX0_study cX0_study 3 (some .int) : Cond) ∈ TB := List.mem_filter.mpr ⟨List.mem_of_getElem? (i := 240) rfl, by decide +kernel⟩
theorem tb_174 : (.methodLink RX0 52 Lib.Math.min.name : Cond) ∈ TB := List.mem_filter.mpr ⟨by decide +kernel, by decide +kernel⟩
theorem tb_175 : (.static Lib.Math.min.name : Cond) ∈ TB := List.mem_filter.mpr ⟨by decide +kernel, by decide +kernel⟩
theorem tb_176 : (.initialized "java/lang/Math" : Cond) ∈ TB := List.mem_filter.mpr ⟨by decide +kernel, by decide +kernel⟩
set_option maxRecDepth 100000 in
theorem tb_177 : (.code Lib.Math.min.name Lib.Math.min.code 2 (some .int) : Cond) ∈ TB := List.mem_filter.mpr ⟨List.mem_of_getElem? (i := 244) rfl, by decide +kernel⟩
theorem tb_178 : (.fieldLink RX0 55 "PassedTraits$Histories" "towns" "I" : Cond) ∈ TB := List.mem_filter.mpr ⟨by decide +kernel, by decide +kernel⟩
theorem tb_179 : (.fieldLink RX0 59 "PassedTraits$Histories" "fewest" "I" : Cond) ∈ TB := List.mem_filter.mpr ⟨by decide +kernel, by decide +kernel⟩
theorem tb_180 : (.fieldLink RX0 62 "PassedTraits$Histories" "origins" "I" : Cond) ∈ TB := List.mem_filter.mpr ⟨by decide +kernel, by decide +kernel⟩
theorem tb_181 : (.methodLink RX0 46 yX1_townCount : Cond) ∈ TB := List.mem_filter.mpr ⟨by decide +kernel, by decide +kernel⟩
theorem tb_182 : (.methodLink RX0 65 yX0_takeRoads : Cond) ∈ TB := List.mem_filter.mpr ⟨by decide +kernel, by decide +kernel⟩
theorem tb_183 : (.instanceMethod yX0_takeRoads : Cond) ∈ TB := List.mem_filter.mpr ⟨by decide +kernel, by decide +kernel⟩
theorem tb_184 : (.selects RX0 yX0_takeRoads yX0_takeRoads : Cond) ∈ TB := List.mem_filter.mpr ⟨by decide +kernel, by decide +kernel⟩
set_option maxRecDepth 100000 in
theorem tb_185 : (.code yX0_takeRoads cX0_takeRoads 5 none : Cond) ∈ TB := List.mem_filter.mpr ⟨List.mem_of_getElem? (i := 248) rfl, by decide +kernel⟩
theorem tb_186 : (.fieldLink RX0 93 "PassedTraits$Histories" "roads" "I" : Cond) ∈ TB := List.mem_filter.mpr ⟨by decide +kernel, by decide +kernel⟩
theorem tb_187 : (.methodLink RX0 96 yX1_roadLength : Cond) ∈ TB := List.mem_filter.mpr ⟨by decide +kernel, by decide +kernel⟩
theorem tb_188 : (.methodLink RX0 69 yX0_takeReports : Cond) ∈ TB := List.mem_filter.mpr ⟨by decide +kernel, by decide +kernel⟩
theorem tb_189 : (.instanceMethod yX0_takeReports : Cond) ∈ TB := List.mem_filter.mpr ⟨by decide +kernel, by decide +kernel⟩
theorem tb_190 : (.selects RX0 yX0_takeReports yX0_takeReports : Cond) ∈ TB := List.mem_filter.mpr ⟨by decide +kernel, by decide +kernel⟩
set_option maxRecDepth 100000 in
theorem tb_191 : (.code yX0_takeReports cX0_takeReports 5 (some .boolean) : Cond) ∈ TB := List.mem_filter.mpr ⟨List.mem_of_getElem? (i := 256) rfl, by decide +kernel⟩
theorem tb_192 : (.fieldLink RX0 86 "PassedTraits$Histories" "known" "I" : Cond) ∈ TB := List.mem_filter.mpr ⟨by decide +kernel, by decide +kernel⟩
theorem tb_193 : (.methodLink RX0 89 yX1_reportedYear : Cond) ∈ TB := List.mem_filter.mpr ⟨by decide +kernel, by decide +kernel⟩
theorem tb_194 : (.methodLink RX0 73 yX0_explainAlone : Cond) ∈ TB := List.mem_filter.mpr ⟨by decide +kernel, by decide +kernel⟩
theorem tb_195 : (.instanceMethod yX0_explainAlone : Cond) ∈ TB := List.mem_filter.mpr ⟨by decide +kernel, by decide +kernel⟩
theorem tb_196 : (.selects RX0 yX0_explainAlone yX0_explainAlone : Cond) ∈ TB := List.mem_filter.mpr ⟨by decide +kernel, by decide +kernel⟩
set_option maxRecDepth 100000 in
theorem tb_197 : (.code yX0_explainAlone cX0_explainAlone 2 none : Cond) ∈ TB := List.mem_filter.mpr ⟨List.mem_of_getElem? (i := 261) rfl, by decide +kernel⟩
theorem tb_198 : (.methodLink RX0 79 yX0_inventIn : Cond) ∈ TB := List.mem_filter.mpr ⟨by decide +kernel, by decide +kernel⟩
theorem tb_199 : (.instanceMethod yX0_inventIn : Cond) ∈ TB := List.mem_filter.mpr ⟨by decide +kernel, by decide +kernel⟩
theorem tb_200 : (.selects RX0 yX0_inventIn yX0_inventIn : Cond) ∈ TB := List.mem_filter.mpr ⟨by decide +kernel, by decide +kernel⟩
set_option maxRecDepth 100000 in
theorem tb_201 : (.code yX0_inventIn cX0_inventIn 3 none : Cond) ∈ TB := List.mem_filter.mpr ⟨List.mem_of_getElem? (i := 265) rfl, by decide +kernel⟩
theorem tb_202 : (.methodLink RX0 83 yX0_spread : Cond) ∈ TB := List.mem_filter.mpr ⟨by decide +kernel, by decide +kernel⟩
theorem tb_203 : (.instanceMethod yX0_spread : Cond) ∈ TB := List.mem_filter.mpr ⟨by decide +kernel, by decide +kernel⟩
theorem tb_204 : (.selects RX0 yX0_spread yX0_spread : Cond) ∈ TB := List.mem_filter.mpr ⟨by decide +kernel, by decide +kernel⟩
set_option maxRecDepth 100000 in
theorem tb_205 : (.code yX0_spread cX0_spread 6 none : Cond) ∈ TB := List.mem_filter.mpr ⟨List.mem_of_getElem? (i := 269) rfl, by decide +kernel⟩
theorem tb_206 : (.methodLink RX0 120 yX0_passOn : Cond) ∈ TB := List.mem_filter.mpr ⟨by decide +kernel, by decide +kernel⟩
theorem tb_207 : (.instanceMethod yX0_passOn : Cond) ∈ TB := List.mem_filter.mpr ⟨by decide +kernel, by decide +kernel⟩
theorem tb_208 : (.selects RX0 yX0_passOn yX0_passOn : Cond) ∈ TB := List.mem_filter.mpr ⟨by decide +kernel, by decide +kernel⟩
set_option maxRecDepth 100000 in
theorem tb_209 : (.code yX0_passOn cX0_passOn 5 (some .boolean) : Cond) ∈ TB := List.mem_filter.mpr ⟨List.mem_of_getElem? (i := 273) rfl, by decide +kernel⟩
theorem tb_210 : (.methodLink RX0 99 yX0_knownInTime : Cond) ∈ TB := List.mem_filter.mpr ⟨by decide +kernel, by decide +kernel⟩
theorem tb_211 : (.instanceMethod yX0_knownInTime : Cond) ∈ TB := List.mem_filter.mpr ⟨by decide +kernel, by decide +kernel⟩
theorem tb_212 : (.selects RX0 yX0_knownInTime yX0_knownInTime : Cond) ∈ TB := List.mem_filter.mpr ⟨by decide +kernel, by decide +kernel⟩
set_option maxRecDepth 100000 in
theorem tb_213 : (.code yX0_knownInTime cX0_knownInTime 3 (some .int) : Cond) ∈ TB := List.mem_filter.mpr ⟨List.mem_of_getElem? (i := 277) rfl, by decide +kernel⟩
theorem tb_214 : (.methodLink RX0 76 yX0_weighSets : Cond) ∈ TB := List.mem_filter.mpr ⟨by decide +kernel, by decide +kernel⟩
theorem tb_215 : (.instanceMethod yX0_weighSets : Cond) ∈ TB := List.mem_filter.mpr ⟨by decide +kernel, by decide +kernel⟩
theorem tb_216 : (.selects RX0 yX0_weighSets yX0_weighSets : Cond) ∈ TB := List.mem_filter.mpr ⟨by decide +kernel, by decide +kernel⟩
set_option maxRecDepth 100000 in
theorem tb_217 : (.code yX0_weighSets cX0_weighSets 4 none : Cond) ∈ TB := List.mem_filter.mpr ⟨List.mem_of_getElem? (i := 281) rfl, by decide +kernel⟩
theorem tb_218 : (.methodLink RX0 102 yX0_weigh : Cond) ∈ TB := List.mem_filter.mpr ⟨by decide +kernel, by decide +kernel⟩
theorem tb_219 : (.instanceMethod yX0_weigh : Cond) ∈ TB := List.mem_filter.mpr ⟨by decide +kernel, by decide +kernel⟩
theorem tb_220 : (.selects RX0 yX0_weigh yX0_weigh : Cond) ∈ TB := List.mem_filter.mpr ⟨by decide +kernel, by decide +kernel⟩
set_option maxRecDepth 100000 in
theorem tb_221 : (.code yX0_weigh cX0_weigh 3 none : Cond) ∈ TB := List.mem_filter.mpr ⟨List.mem_of_getElem? (i := 285) rfl, by decide +kernel⟩
theorem tb_222 : (.fieldLink RX0 111 "PassedTraits$Histories" "always" "I" : Cond) ∈ TB := List.mem_filter.mpr ⟨by decide +kernel, by decide +kernel⟩
theorem tb_223 : (.fieldLink RX0 114 "PassedTraits$Histories" "sometimes" "I" : Cond) ∈ TB := List.mem_filter.mpr ⟨by decide +kernel, by decide +kernel⟩
theorem tb_224 : (.fieldLink RX0 117 "PassedTraits$Histories" "leastSets" "I" : Cond) ∈ TB := List.mem_filter.mpr ⟨by decide +kernel, by decide +kernel⟩
theorem tb_225 : (.methodLink RX0 105 yJ6_bitCount_0f7a4 : Cond) ∈ TB := List.mem_filter.mpr ⟨by decide +kernel, by decide +kernel⟩
theorem tb_226 : (.static yJ6_bitCount_0f7a4 : Cond) ∈ TB := List.mem_filter.mpr ⟨by decide +kernel, by decide +kernel⟩
theorem tb_227 : (.initialized RJ6 : Cond) ∈ TB := List.mem_filter.mpr ⟨by decide +kernel, by decide +kernel⟩
set_option maxRecDepth 100000 in
theorem tb_228 : (.code yJ6_bitCount_0f7a4 cJ6_bitCount_0f7a4 1 (some .int) : Cond) ∈ TB := List.mem_filter.mpr ⟨List.mem_of_getElem? (i := 288) rfl, by decide +kernel⟩
theorem tb_229 : (.constant RJ6 265 (1431655765) : Cond) ∈ TB := List.mem_filter.mpr ⟨by decide +kernel, by decide +kernel⟩
theorem tb_230 : (.constant RJ6 266 (858993459) : Cond) ∈ TB := List.mem_filter.mpr ⟨by decide +kernel, by decide +kernel⟩
theorem tb_231 : (.constant RJ6 267 (252645135) : Cond) ∈ TB := List.mem_filter.mpr ⟨by decide +kernel, by decide +kernel⟩
theorem tb_232 : (.methodLink RX5 96 yX0_allInventions : Cond) ∈ TB := List.mem_filter.mpr ⟨by decide +kernel, by decide +kernel⟩
theorem tb_233 : (.instanceMethod yX0_allInventions : Cond) ∈ TB := List.mem_filter.mpr ⟨by decide +kernel, by decide +kernel⟩
theorem tb_234 : (.selects RX0 yX0_allInventions yX0_allInventions : Cond) ∈ TB := List.mem_filter.mpr ⟨by decide +kernel, by decide +kernel⟩
set_option maxRecDepth 100000 in
theorem tb_235 : (.code yX0_allInventions cX0_allInventions 4 (some .int) : Cond) ∈ TB := List.mem_filter.mpr ⟨List.mem_of_getElem? (i := 429) rfl, by decide +kernel⟩
theorem tb_236 : (.methodLink RX0 40 Lib.Math.max.name : Cond) ∈ TB := List.mem_filter.mpr ⟨by decide +kernel, by decide +kernel⟩
theorem tb_237 : (.static Lib.Math.max.name : Cond) ∈ TB := List.mem_filter.mpr ⟨by decide +kernel, by decide +kernel⟩
set_option maxRecDepth 100000 in
theorem tb_238 : (.code Lib.Math.max.name Lib.Math.max.code 2 (some .int) : Cond) ∈ TB := List.mem_filter.mpr ⟨List.mem_of_getElem? (i := 294) rfl, by decide +kernel⟩
theorem tb_239 : (.methodLink RL 107 yL_tryRoad : Cond) ∈ TB := List.mem_filter.mpr ⟨by decide +kernel, by decide +kernel⟩
theorem tb_240 : (.static yL_tryRoad : Cond) ∈ TB := List.mem_filter.mpr ⟨by decide +kernel, by decide +kernel⟩
theorem tb_241 : (.codeWith yL_tryRoad cL_tryRoad 4 (some .int) [(0, 6, 7, 13)] : Cond) ∈ TB := List.mem_filter.mpr ⟨by decide +kernel, by decide +kernel⟩
theorem tb_242 : (.classLink RL 13 "java/lang/IndexOutOfBoundsException" : Cond) ∈ TB := List.mem_filter.mpr ⟨by decide +kernel, by decide +kernel⟩
theorem tb_243 : (.methodLink RL 41 yX5_road : Cond) ∈ TB := List.mem_filter.mpr ⟨by decide +kernel, by decide +kernel⟩
theorem tb_244 : (.instanceMethod yX5_road : Cond) ∈ TB := List.mem_filter.mpr ⟨by decide +kernel, by decide +kernel⟩
theorem tb_245 : (.selects RX5 yX5_road yX5_road : Cond) ∈ TB := List.mem_filter.mpr ⟨by decide +kernel, by decide +kernel⟩
set_option maxRecDepth 100000 in
theorem tb_246 : (.code yX5_road cX5_road 3 (some .int) : Cond) ∈ TB := List.mem_filter.mpr ⟨List.mem_of_getElem? (i := 529) rfl, by decide +kernel⟩
theorem tb_247 : (.methodLink RX5 101 yX5_needTown : Cond) ∈ TB := List.mem_filter.mpr ⟨by decide +kernel, by decide +kernel⟩
theorem tb_248 : (.instanceMethod yX5_needTown : Cond) ∈ TB := List.mem_filter.mpr ⟨by decide +kernel, by decide +kernel⟩
theorem tb_249 : (.selects RX5 yX5_needTown yX5_needTown : Cond) ∈ TB := List.mem_filter.mpr ⟨by decide +kernel, by decide +kernel⟩
set_option maxRecDepth 100000 in
theorem tb_250 : (.code yX5_needTown cX5_needTown 2 none : Cond) ∈ TB := List.mem_filter.mpr ⟨List.mem_of_getElem? (i := 533) rfl, by decide +kernel⟩
theorem tb_251 : (.classLink RX5 257 "java/lang/IndexOutOfBoundsException" : Cond) ∈ TB := List.mem_filter.mpr ⟨by decide +kernel, by decide +kernel⟩
theorem tb_252 : (.initialized "java/lang/IndexOutOfBoundsException" : Cond) ∈ TB := List.mem_filter.mpr ⟨by decide +kernel, by decide +kernel⟩
theorem tb_253 : (.methodLink RX5 254 yX1_isTown : Cond) ∈ TB := List.mem_filter.mpr ⟨by decide +kernel, by decide +kernel⟩
theorem tb_254 : (.methodLink RX5 105 yX1_roadLength : Cond) ∈ TB := List.mem_filter.mpr ⟨by decide +kernel, by decide +kernel⟩
theorem tb_255 : (.methodLink RL 111 yL_tryNeighbor : Cond) ∈ TB := List.mem_filter.mpr ⟨by decide +kernel, by decide +kernel⟩
theorem tb_256 : (.static yL_tryNeighbor : Cond) ∈ TB := List.mem_filter.mpr ⟨by decide +kernel, by decide +kernel⟩
theorem tb_257 : (.codeWith yL_tryNeighbor cL_tryNeighbor 4 (some .int) [(0, 6, 7, 13), (0, 6, 11, 16)] : Cond) ∈ TB := List.mem_filter.mpr ⟨by decide +kernel, by decide +kernel⟩
theorem tb_258 : (.methodLink RL 45 yX5_neighbor : Cond) ∈ TB := List.mem_filter.mpr ⟨by decide +kernel, by decide +kernel⟩
theorem tb_259 : (.instanceMethod yX5_neighbor : Cond) ∈ TB := List.mem_filter.mpr ⟨by decide +kernel, by decide +kernel⟩
theorem tb_260 : (.selects RX5 yX5_neighbor yX5_neighbor : Cond) ∈ TB := List.mem_filter.mpr ⟨by decide +kernel, by decide +kernel⟩
set_option maxRecDepth 100000 in
theorem tb_261 : (.code yX5_neighbor cX5_neighbor 3 (some .int) : Cond) ∈ TB := List.mem_filter.mpr ⟨List.mem_of_getElem? (i := 559) rfl, by decide +kernel⟩
theorem tb_262 : (.methodLink RX5 109 yX5_needCount : Cond) ∈ TB := List.mem_filter.mpr ⟨by decide +kernel, by decide +kernel⟩
theorem tb_263 : (.static yX5_needCount : Cond) ∈ TB := List.mem_filter.mpr ⟨by decide +kernel, by decide +kernel⟩
set_option maxRecDepth 100000 in
theorem tb_264 : (.code yX5_needCount cX5_needCount 1 none : Cond) ∈ TB := List.mem_filter.mpr ⟨List.mem_of_getElem? (i := 562) rfl, by decide +kernel⟩
theorem tb_265 : (.methodLink RX5 112 yX1_townBeside : Cond) ∈ TB := List.mem_filter.mpr ⟨by decide +kernel, by decide +kernel⟩
theorem tb_266 : (.instanceMethod yX1_townBeside : Cond) ∈ TB := List.mem_filter.mpr ⟨by decide +kernel, by decide +kernel⟩
theorem tb_267 : (.selects RX1 yX1_townBeside yX1_townBeside : Cond) ∈ TB := List.mem_filter.mpr ⟨by decide +kernel, by decide +kernel⟩
set_option maxRecDepth 100000 in
theorem tb_268 : (.code yX1_townBeside cX1_townBeside 5 (some .int) : Cond) ∈ TB := List.mem_filter.mpr ⟨List.mem_of_getElem? (i := 567) rfl, by decide +kernel⟩
theorem tb_269 : (.methodLink RL 114 yL_tryFound : Cond) ∈ TB := List.mem_filter.mpr ⟨by decide +kernel, by decide +kernel⟩
theorem tb_270 : (.static yL_tryFound : Cond) ∈ TB := List.mem_filter.mpr ⟨by decide +kernel, by decide +kernel⟩
theorem tb_271 : (.codeWith yL_tryFound cL_tryFound 2 (some .int) [(0, 4, 5, 35)] : Cond) ∈ TB := List.mem_filter.mpr ⟨by decide +kernel, by decide +kernel⟩
theorem tb_272 : (.methodLink RL 48 yX5_found : Cond) ∈ TB := List.mem_filter.mpr ⟨by decide +kernel, by decide +kernel⟩
theorem tb_273 : (.instanceMethod yX5_found : Cond) ∈ TB := List.mem_filter.mpr ⟨by decide +kernel, by decide +kernel⟩
theorem tb_274 : (.selects RX5 yX5_found yX5_found : Cond) ∈ TB := List.mem_filter.mpr ⟨by decide +kernel, by decide +kernel⟩
set_option maxRecDepth 100000 in
theorem tb_275 : (.code yX5_found cX5_found 1 (some .int) : Cond) ∈ TB := List.mem_filter.mpr ⟨List.mem_of_getElem? (i := 574) rfl, by decide +kernel⟩
theorem tb_276 : (.methodLink RX5 124 yX2_remember : Cond) ∈ TB := List.mem_filter.mpr ⟨by decide +kernel, by decide +kernel⟩
theorem tb_277 : (.instanceMethod yX2_remember : Cond) ∈ TB := List.mem_filter.mpr ⟨by decide +kernel, by decide +kernel⟩
theorem tb_278 : (.selects RX2 yX2_remember yX2_remember : Cond) ∈ TB := List.mem_filter.mpr ⟨by decide +kernel, by decide +kernel⟩
set_option maxRecDepth 100000 in
theorem tb_279 : (.code yX2_remember cX2_remember 2 none : Cond) ∈ TB := List.mem_filter.mpr ⟨List.mem_of_getElem? (i := 579) rfl, by decide +kernel⟩
theorem tb_280 : (.methodLink RX2 23 yX1_writeTo : Cond) ∈ TB := List.mem_filter.mpr ⟨by decide +kernel, by decide +kernel⟩
theorem tb_281 : (.instanceMethod yX1_writeTo : Cond) ∈ TB := List.mem_filter.mpr ⟨by decide +kernel, by decide +kernel⟩
theorem tb_282 : (.selects RX1 yX1_writeTo yX1_writeTo : Cond) ∈ TB := List.mem_filter.mpr ⟨by decide +kernel, by decide +kernel⟩
set_option maxRecDepth 100000 in
theorem tb_283 : (.code yX1_writeTo cX1_writeTo 2 none : Cond) ∈ TB := List.mem_filter.mpr ⟨List.mem_of_getElem? (i := 205) rfl, by decide +kernel⟩
theorem tb_284 : (.methodLink RX1 21 arraycopyName : Cond) ∈ TB := List.mem_filter.mpr ⟨by decide +kernel, by decide +kernel⟩
theorem tb_285 : (.native arraycopyName : Cond) ∈ TB := List.mem_filter.mpr ⟨by decide +kernel, by decide +kernel⟩
theorem tb_286 : (.static arraycopyName : Cond) ∈ TB := List.mem_filter.mpr ⟨by decide +kernel, by decide +kernel⟩
theorem tb_287 : (.initialized "java/lang/System" : Cond) ∈ TB := List.mem_filter.mpr ⟨by decide +kernel, by decide +kernel⟩
theorem tb_288 : (.methodLink RX5 128 yX1_addTown : Cond) ∈ TB := List.mem_filter.mpr ⟨by decide +kernel, by decide +kernel⟩
theorem tb_289 : (.instanceMethod yX1_addTown : Cond) ∈ TB := List.mem_filter.mpr ⟨by decide +kernel, by decide +kernel⟩
theorem tb_290 : (.selects RX1 yX1_addTown yX1_addTown : Cond) ∈ TB := List.mem_filter.mpr ⟨by decide +kernel, by decide +kernel⟩
set_option maxRecDepth 100000 in
theorem tb_291 : (.code yX1_addTown cX1_addTown 2 (some .int) : Cond) ∈ TB := List.mem_filter.mpr ⟨List.mem_of_getElem? (i := 393) rfl, by decide +kernel⟩
theorem tb_292 : (.methodLink RL 118 yL_tryLay : Cond) ∈ TB := List.mem_filter.mpr ⟨by decide +kernel, by decide +kernel⟩
theorem tb_293 : (.static yL_tryLay : Cond) ∈ TB := List.mem_filter.mpr ⟨by decide +kernel, by decide +kernel⟩
theorem tb_294 : (.codeWith yL_tryLay cL_tryLay 5 (some .int) [(0, 7, 8, 13), (0, 7, 13, 16), (0, 7, 18, 35)] : Cond) ∈ TB := List.mem_filter.mpr ⟨by decide +kernel, by decide +kernel⟩
theorem tb_295 : (.methodLink RL 52 yX5_lay : Cond) ∈ TB := List.mem_filter.mpr ⟨by decide +kernel, by decide +kernel⟩
theorem tb_296 : (.instanceMethod yX5_lay : Cond) ∈ TB := List.mem_filter.mpr ⟨by decide +kernel, by decide +kernel⟩
theorem tb_297 : (.selects RX5 yX5_lay yX5_lay : Cond) ∈ TB := List.mem_filter.mpr ⟨by decide +kernel, by decide +kernel⟩
set_option maxRecDepth 100000 in
theorem tb_298 : (.code yX5_lay cX5_lay 4 (some .int) : Cond) ∈ TB := List.mem_filter.mpr ⟨List.mem_of_getElem? (i := 588) rfl, by decide +kernel⟩
theorem tb_299 : (.methodLink RX5 131 yX5_needPossibleRoad : Cond) ∈ TB := List.mem_filter.mpr ⟨by decide +kernel, by decide +kernel⟩
theorem tb_300 : (.instanceMethod yX5_needPossibleRoad : Cond) ∈ TB := List.mem_filter.mpr ⟨by decide +kernel, by decide +kernel⟩
theorem tb_301 : (.selects RX5 yX5_needPossibleRoad yX5_needPossibleRoad : Cond) ∈ TB := List.mem_filter.mpr ⟨by decide +kernel, by decide +kernel⟩
set_option maxRecDepth 100000 in
theorem tb_302 : (.code yX5_needPossibleRoad cX5_needPossibleRoad 4 none : Cond) ∈ TB := List.mem_filter.mpr ⟨List.mem_of_getElem? (i := 592) rfl, by decide +kernel⟩
theorem tb_303 : (.methodLink RX5 207 yX5_isLength : Cond) ∈ TB := List.mem_filter.mpr ⟨by decide +kernel, by decide +kernel⟩
theorem tb_304 : (.static yX5_isLength : Cond) ∈ TB := List.mem_filter.mpr ⟨by decide +kernel, by decide +kernel⟩
set_option maxRecDepth 100000 in
theorem tb_305 : (.code yX5_isLength cX5_isLength 1 (some .boolean) : Cond) ∈ TB := List.mem_filter.mpr ⟨List.mem_of_getElem? (i := 404) rfl, by decide +kernel⟩
