def TB : List Cond := lw_tbl.filter goodWord
theorem TB_in {w : Cond} (h : w ∈ TB) : w ∈ lw_tbl := (List.mem_filter.mp h).1
theorem TB_good {w : Cond} (h : w ∈ TB) : goodWord w = true := (List.mem_filter.mp h).2
theorem TB_self {c : Cond} (h : c ∈ TB) : GoodIn TB (c :: TB) := fun w hw => (List.mem_cons.mp hw).elim (fun e => by rw [e]; exact ⟨h, good_of_word (TB_good h)⟩) (fun h9 => ⟨h9, good_of_word (TB_good h9)⟩)
theorem TB_v {own C : String} {idx : Nat} {y : MethodName} {ws : List Cond} (h1 : Cond.methodLink own idx y ∈ TB) (h2 : Cond.instanceMethod y ∈ TB) (h3 : Cond.selects C y y ∈ TB) (h4 : Cond.initialized C ∈ TB) (h5 : GoodIn TB ws) : GoodIn TB (wsV own idx C y ws) := by
  intro w hw
  unfold wsV at hw
  simp only [List.cons_append, List.nil_append, List.mem_cons] at hw
  rcases hw with rfl | rfl | rfl | rfl | hw
  · exact ⟨h1, good_of_word (TB_good h1)⟩
  · exact ⟨h2, good_of_word (TB_good h2)⟩
  · exact ⟨h3, good_of_word (TB_good h3)⟩
  · exact ⟨h4, good_of_word (TB_good h4)⟩
  · exact h5 w hw
theorem TB_s {own : String} {idx : Nat} {y : MethodName} {ws : List Cond} (h1 : Cond.methodLink own idx y ∈ TB) (h2 : Cond.static y ∈ TB) (h4 : Cond.initialized y.cls ∈ TB) (h5 : GoodIn TB ws) : GoodIn TB (va_wsS own idx y ws) := by
  intro w hw
  unfold va_wsS at hw
  simp only [List.cons_append, List.nil_append, List.mem_cons] at hw
  rcases hw with rfl | rfl | rfl | hw
  · exact ⟨h1, good_of_word (TB_good h1)⟩
  · exact ⟨h2, good_of_word (TB_good h2)⟩
  · exact ⟨h4, good_of_word (TB_good h4)⟩
  · exact h5 w hw
theorem tb_0 : (.classLink RL 8 RX5 : Cond) ∈ TB := List.mem_filter.mpr ⟨by decide +kernel, by decide +kernel⟩
theorem tb_1 : (.instantiable RX5 7 : Cond) ∈ TB := List.mem_filter.mpr ⟨by decide +kernel, by decide +kernel⟩
theorem tb_2 : (.initialized RX5 : Cond) ∈ TB := List.mem_filter.mpr ⟨by decide +kernel, by decide +kernel⟩
theorem tb_3 : (.classLink RL 96 RX6 : Cond) ∈ TB := List.mem_filter.mpr ⟨by decide +kernel, by decide +kernel⟩
theorem tb_4 : (.instantiable RX6 17 : Cond) ∈ TB := List.mem_filter.mpr ⟨by decide +kernel, by decide +kernel⟩
theorem tb_5 : (.initialized RX6 : Cond) ∈ TB := List.mem_filter.mpr ⟨by decide +kernel, by decide +kernel⟩
theorem tb_6 : (.arrayClass .long : Cond) ∈ TB := List.mem_filter.mpr ⟨by decide +kernel, by decide +kernel⟩
theorem tb_7 : (.constantLong RL 182 (4294967295) : Cond) ∈ TB := List.mem_filter.mpr ⟨by decide +kernel, by decide +kernel⟩
theorem tb_8 : (.methodLink RL 95 yX5_init : Cond) ∈ TB := List.mem_filter.mpr ⟨by decide +kernel, by decide +kernel⟩
theorem tb_9 : (.instanceMethod yX5_init : Cond) ∈ TB := List.mem_filter.mpr ⟨by decide +kernel, by decide +kernel⟩
theorem tb_10 : (.code yX5_init cX5_init 1 none : Cond) ∈ TB := List.mem_filter.mpr ⟨List.mem_of_getElem? (i := 61) (by decide +kernel), by decide +kernel⟩
theorem tb_11 : (.methodLink RX5 1 objectInit : Cond) ∈ TB := List.mem_filter.mpr ⟨by decide +kernel, by decide +kernel⟩
theorem tb_12 : (.instanceMethod objectInit : Cond) ∈ TB := List.mem_filter.mpr ⟨by decide +kernel, by decide +kernel⟩
theorem tb_13 : (.code objectInit ⟨#[0xb1]⟩ 1 none : Cond) ∈ TB := List.mem_filter.mpr ⟨List.mem_of_getElem? (i := 64) (by decide +kernel), by decide +kernel⟩
theorem tb_14 : (.classLink RX5 7 RX1 : Cond) ∈ TB := List.mem_filter.mpr ⟨by decide +kernel, by decide +kernel⟩
theorem tb_15 : (.instantiable RX1 1 : Cond) ∈ TB := List.mem_filter.mpr ⟨by decide +kernel, by decide +kernel⟩
theorem tb_16 : (.initialized RX1 : Cond) ∈ TB := List.mem_filter.mpr ⟨by decide +kernel, by decide +kernel⟩
theorem tb_17 : (.fieldLink RX5 10 "PassedTraits" "land" "LPassedTraits$Land;" : Cond) ∈ TB := List.mem_filter.mpr ⟨by decide +kernel, by decide +kernel⟩
theorem tb_18 : (.classLink RX5 16 RX2 : Cond) ∈ TB := List.mem_filter.mpr ⟨by decide +kernel, by decide +kernel⟩
theorem tb_19 : (.instantiable RX2 3 : Cond) ∈ TB := List.mem_filter.mpr ⟨by decide +kernel, by decide +kernel⟩
theorem tb_20 : (.initialized RX2 : Cond) ∈ TB := List.mem_filter.mpr ⟨by decide +kernel, by decide +kernel⟩
theorem tb_21 : (.fieldLink RX5 19 "PassedTraits" "past" "LPassedTraits$Past;" : Cond) ∈ TB := List.mem_filter.mpr ⟨by decide +kernel, by decide +kernel⟩
theorem tb_22 : (.classLink RX5 23 RX4 : Cond) ∈ TB := List.mem_filter.mpr ⟨by decide +kernel, by decide +kernel⟩
theorem tb_23 : (.instantiable RX4 2 : Cond) ∈ TB := List.mem_filter.mpr ⟨by decide +kernel, by decide +kernel⟩
theorem tb_24 : (.initialized RX4 : Cond) ∈ TB := List.mem_filter.mpr ⟨by decide +kernel, by decide +kernel⟩
theorem tb_25 : (.fieldLink RX5 26 "PassedTraits" "text" "LPassedTraits$ReportText;" : Cond) ∈ TB := List.mem_filter.mpr ⟨by decide +kernel, by decide +kernel⟩
theorem tb_26 : (.classLink RX5 30 RX0 : Cond) ∈ TB := List.mem_filter.mpr ⟨by decide +kernel, by decide +kernel⟩
theorem tb_27 : (.instantiable RX0 16 : Cond) ∈ TB := List.mem_filter.mpr ⟨by decide +kernel, by decide +kernel⟩
theorem tb_28 : (.initialized RX0 : Cond) ∈ TB := List.mem_filter.mpr ⟨by decide +kernel, by decide +kernel⟩
theorem tb_29 : (.fieldLink RX5 33 "PassedTraits" "histories" "LPassedTraits$Histories;" : Cond) ∈ TB := List.mem_filter.mpr ⟨by decide +kernel, by decide +kernel⟩
theorem tb_30 : (.classLink RX5 37 RX3 : Cond) ∈ TB := List.mem_filter.mpr ⟨by decide +kernel, by decide +kernel⟩
theorem tb_31 : (.instantiable RX3 2 : Cond) ∈ TB := List.mem_filter.mpr ⟨by decide +kernel, by decide +kernel⟩
theorem tb_32 : (.initialized RX3 : Cond) ∈ TB := List.mem_filter.mpr ⟨by decide +kernel, by decide +kernel⟩
theorem tb_33 : (.fieldLink RX5 40 "PassedTraits" "rehearsal" "LPassedTraits$Rehearsal;" : Cond) ∈ TB := List.mem_filter.mpr ⟨by decide +kernel, by decide +kernel⟩
theorem tb_34 : (.classLink RX5 44 "[[I" : Cond) ∈ TB := List.mem_filter.mpr ⟨by decide +kernel, by decide +kernel⟩
theorem tb_35 : (.arrayClass .int : Cond) ∈ TB := List.mem_filter.mpr ⟨by decide +kernel, by decide +kernel⟩
theorem tb_36 : (.fieldLink RX5 46 "PassedTraits" "slots" "[[I" : Cond) ∈ TB := List.mem_filter.mpr ⟨by decide +kernel, by decide +kernel⟩
theorem tb_37 : (.arrayClass .boolean : Cond) ∈ TB := List.mem_filter.mpr ⟨by decide +kernel, by decide +kernel⟩
theorem tb_38 : (.fieldLink RX5 49 "PassedTraits" "saved" "[Z" : Cond) ∈ TB := List.mem_filter.mpr ⟨by decide +kernel, by decide +kernel⟩
theorem tb_39 : (.methodLink RX5 9 yX1_init : Cond) ∈ TB := List.mem_filter.mpr ⟨by decide +kernel, by decide +kernel⟩
theorem tb_40 : (.instanceMethod yX1_init : Cond) ∈ TB := List.mem_filter.mpr ⟨by decide +kernel, by decide +kernel⟩
theorem tb_41 : (.code yX1_init cX1_init 1 none : Cond) ∈ TB := List.mem_filter.mpr ⟨List.mem_of_getElem? (i := 69) (by decide +kernel), by decide +kernel⟩
theorem tb_42 : (.methodLink RX1 5 objectInit : Cond) ∈ TB := List.mem_filter.mpr ⟨by decide +kernel, by decide +kernel⟩
theorem tb_43 : (.fieldLink RX1 11 "PassedTraits$Land" "cells" "[I" : Cond) ∈ TB := List.mem_filter.mpr ⟨by decide +kernel, by decide +kernel⟩
theorem tb_44 : (.methodLink RX1 15 yJ7_fill_53178 : Cond) ∈ TB := List.mem_filter.mpr ⟨by decide +kernel, by decide +kernel⟩
theorem tb_45 : (.static yJ7_fill_53178 : Cond) ∈ TB := List.mem_filter.mpr ⟨by decide +kernel, by decide +kernel⟩
theorem tb_46 : (.initialized RJ7 : Cond) ∈ TB := List.mem_filter.mpr ⟨by decide +kernel, by decide +kernel⟩
theorem tb_47 : (.code yJ7_fill_53178 cJ7_fill_53178 4 none : Cond) ∈ TB := List.mem_filter.mpr ⟨List.mem_of_getElem? (i := 73) (by decide +kernel), by decide +kernel⟩
theorem tb_48 : (.methodLink RX5 18 yX2_init : Cond) ∈ TB := List.mem_filter.mpr ⟨by decide +kernel, by decide +kernel⟩
theorem tb_49 : (.instanceMethod yX2_init : Cond) ∈ TB := List.mem_filter.mpr ⟨by decide +kernel, by decide +kernel⟩
theorem tb_50 : (.code yX2_init cX2_init 1 none : Cond) ∈ TB := List.mem_filter.mpr ⟨List.mem_of_getElem? (i := 83) (by decide +kernel), by decide +kernel⟩
theorem tb_51 : (.methodLink RX2 1 objectInit : Cond) ∈ TB := List.mem_filter.mpr ⟨by decide +kernel, by decide +kernel⟩
theorem tb_52 : (.classLink RX2 11 "[[I" : Cond) ∈ TB := List.mem_filter.mpr ⟨by decide +kernel, by decide +kernel⟩
theorem tb_53 : (.fieldLink RX2 13 "PassedTraits$Past" "states" "[[I" : Cond) ∈ TB := List.mem_filter.mpr ⟨by decide +kernel, by decide +kernel⟩
theorem tb_54 : (.fieldLink RX2 16 "PassedTraits$Past" "oldest" "I" : Cond) ∈ TB := List.mem_filter.mpr ⟨by decide +kernel, by decide +kernel⟩
theorem tb_55 : (.fieldLink RX2 20 "PassedTraits$Past" "count" "I" : Cond) ∈ TB := List.mem_filter.mpr ⟨by decide +kernel, by decide +kernel⟩
theorem tb_56 : (.methodLink RX5 25 yX4_init : Cond) ∈ TB := List.mem_filter.mpr ⟨by decide +kernel, by decide +kernel⟩
theorem tb_57 : (.instanceMethod yX4_init : Cond) ∈ TB := List.mem_filter.mpr ⟨by decide +kernel, by decide +kernel⟩
theorem tb_58 : (.code yX4_init cX4_init 1 none : Cond) ∈ TB := List.mem_filter.mpr ⟨List.mem_of_getElem? (i := 101) (by decide +kernel), by decide +kernel⟩
theorem tb_59 : (.methodLink RX4 3 objectInit : Cond) ∈ TB := List.mem_filter.mpr ⟨by decide +kernel, by decide +kernel⟩
theorem tb_60 : (.arrayClass .char : Cond) ∈ TB := List.mem_filter.mpr ⟨by decide +kernel, by decide +kernel⟩
theorem tb_61 : (.fieldLink RX4 11 "PassedTraits$ReportText" "signs" "[C" : Cond) ∈ TB := List.mem_filter.mpr ⟨by decide +kernel, by decide +kernel⟩
theorem tb_62 : (.fieldLink RX4 15 "PassedTraits$ReportText" "length" "I" : Cond) ∈ TB := List.mem_filter.mpr ⟨by decide +kernel, by decide +kernel⟩
theorem tb_63 : (.methodLink RX5 32 yX0_init : Cond) ∈ TB := List.mem_filter.mpr ⟨by decide +kernel, by decide +kernel⟩
theorem tb_64 : (.instanceMethod yX0_init : Cond) ∈ TB := List.mem_filter.mpr ⟨by decide +kernel, by decide +kernel⟩
theorem tb_65 : (.code yX0_init cX0_init 1 none : Cond) ∈ TB := List.mem_filter.mpr ⟨List.mem_of_getElem? (i := 115) (by decide +kernel), by decide +kernel⟩
theorem tb_66 : (.methodLink RX0 3 objectInit : Cond) ∈ TB := List.mem_filter.mpr ⟨by decide +kernel, by decide +kernel⟩
theorem tb_67 : (.fieldLink RX0 9 "PassedTraits$Histories" "from" "[I" : Cond) ∈ TB := List.mem_filter.mpr ⟨by decide +kernel, by decide +kernel⟩
theorem tb_68 : (.fieldLink RX0 15 "PassedTraits$Histories" "to" "[I" : Cond) ∈ TB := List.mem_filter.mpr ⟨by decide +kernel, by decide +kernel⟩
theorem tb_69 : (.fieldLink RX0 18 "PassedTraits$Histories" "lengths" "[I" : Cond) ∈ TB := List.mem_filter.mpr ⟨by decide +kernel, by decide +kernel⟩
theorem tb_70 : (.fieldLink RX0 21 "PassedTraits$Histories" "earliest" "[I" : Cond) ∈ TB := List.mem_filter.mpr ⟨by decide +kernel, by decide +kernel⟩
theorem tb_71 : (.fieldLink RX0 24 "PassedTraits$Histories" "latest" "[I" : Cond) ∈ TB := List.mem_filter.mpr ⟨by decide +kernel, by decide +kernel⟩
theorem tb_72 : (.fieldLink RX0 27 "PassedTraits$Histories" "years" "[I" : Cond) ∈ TB := List.mem_filter.mpr ⟨by decide +kernel, by decide +kernel⟩
theorem tb_73 : (.fieldLink RX0 30 "PassedTraits$Histories" "explained" "[I" : Cond) ∈ TB := List.mem_filter.mpr ⟨by decide +kernel, by decide +kernel⟩
theorem tb_74 : (.fieldLink RX0 33 "PassedTraits$Histories" "together" "[I" : Cond) ∈ TB := List.mem_filter.mpr ⟨by decide +kernel, by decide +kernel⟩
theorem tb_75 : (.methodLink RX5 39 yX3_init : Cond) ∈ TB := List.mem_filter.mpr ⟨by decide +kernel, by decide +kernel⟩
theorem tb_76 : (.instanceMethod yX3_init : Cond) ∈ TB := List.mem_filter.mpr ⟨by decide +kernel, by decide +kernel⟩
theorem tb_77 : (.code yX3_init cX3_init 1 none : Cond) ∈ TB := List.mem_filter.mpr ⟨List.mem_of_getElem? (i := 174) (by decide +kernel), by decide +kernel⟩
theorem tb_78 : (.methodLink RX3 3 objectInit : Cond) ∈ TB := List.mem_filter.mpr ⟨by decide +kernel, by decide +kernel⟩
theorem tb_79 : (.classLink RX3 9 RX1 : Cond) ∈ TB := List.mem_filter.mpr ⟨by decide +kernel, by decide +kernel⟩
theorem tb_80 : (.fieldLink RX3 12 "PassedTraits$Rehearsal" "copy" "LPassedTraits$Land;" : Cond) ∈ TB := List.mem_filter.mpr ⟨by decide +kernel, by decide +kernel⟩
theorem tb_81 : (.classLink RX3 18 RX0 : Cond) ∈ TB := List.mem_filter.mpr ⟨by decide +kernel, by decide +kernel⟩
theorem tb_82 : (.fieldLink RX3 21 "PassedTraits$Rehearsal" "histories" "LPassedTraits$Histories;" : Cond) ∈ TB := List.mem_filter.mpr ⟨by decide +kernel, by decide +kernel⟩
theorem tb_83 : (.methodLink RX3 11 yX1_init : Cond) ∈ TB := List.mem_filter.mpr ⟨by decide +kernel, by decide +kernel⟩
theorem tb_84 : (.methodLink RX3 20 yX0_init : Cond) ∈ TB := List.mem_filter.mpr ⟨by decide +kernel, by decide +kernel⟩
theorem tb_85 : (.methodLink RL 98 yX6_init : Cond) ∈ TB := List.mem_filter.mpr ⟨by decide +kernel, by decide +kernel⟩
theorem tb_86 : (.instanceMethod yX6_init : Cond) ∈ TB := List.mem_filter.mpr ⟨by decide +kernel, by decide +kernel⟩
theorem tb_87 : (.code yX6_init cX6_init 1 none : Cond) ∈ TB := List.mem_filter.mpr ⟨List.mem_of_getElem? (i := 824) (by decide +kernel), by decide +kernel⟩
theorem tb_88 : (.methodLink RX6 1 objectInit : Cond) ∈ TB := List.mem_filter.mpr ⟨by decide +kernel, by decide +kernel⟩
theorem tb_89 : (.fieldLink RX6 7 "PassedTraitsModel" "text" "[I" : Cond) ∈ TB := List.mem_filter.mpr ⟨by decide +kernel, by decide +kernel⟩
theorem tb_90 : (.fieldLink RX6 13 "PassedTraitsModel" "now" "[I" : Cond) ∈ TB := List.mem_filter.mpr ⟨by decide +kernel, by decide +kernel⟩
theorem tb_91 : (.fieldLink RX6 16 "PassedTraitsModel" "trial" "[I" : Cond) ∈ TB := List.mem_filter.mpr ⟨by decide +kernel, by decide +kernel⟩
theorem tb_92 : (.fieldLink RX6 19 "PassedTraitsModel" "diary" "[I" : Cond) ∈ TB := List.mem_filter.mpr ⟨by decide +kernel, by decide +kernel⟩
theorem tb_93 : (.fieldLink RX6 22 "PassedTraitsModel" "kept" "[I" : Cond) ∈ TB := List.mem_filter.mpr ⟨by decide +kernel, by decide +kernel⟩
theorem tb_94 : (.fieldLink RX6 25 "PassedTraitsModel" "isKept" "[Z" : Cond) ∈ TB := List.mem_filter.mpr ⟨by decide +kernel, by decide +kernel⟩
theorem tb_95 : (.fieldLink RX6 29 "PassedTraitsModel" "years" "[I" : Cond) ∈ TB := List.mem_filter.mpr ⟨by decide +kernel, by decide +kernel⟩
theorem tb_96 : (.fieldLink RX6 32 "PassedTraitsModel" "acts" "I" : Cond) ∈ TB := List.mem_filter.mpr ⟨by decide +kernel, by decide +kernel⟩
theorem tb_97 : (.methodLink RL 99 yL_append : Cond) ∈ TB := List.mem_filter.mpr ⟨by decide +kernel, by decide +kernel⟩
theorem tb_98 : (.static yL_append : Cond) ∈ TB := List.mem_filter.mpr ⟨by decide +kernel, by decide +kernel⟩
theorem tb_99 : (.initialized RL : Cond) ∈ TB := List.mem_filter.mpr ⟨by decide +kernel, by decide +kernel⟩
theorem tb_100 : (.codeWith yL_append cL_append 4 (some .int) [(0, 9, 12, 13), (0, 9, 15, 15)] : Cond) ∈ TB := List.mem_filter.mpr ⟨by decide +kernel, by decide +kernel⟩
theorem tb_101 : (.classLink RL 13 "java/lang/IllegalArgumentException" : Cond) ∈ TB := List.mem_filter.mpr ⟨by decide +kernel, by decide +kernel⟩
theorem tb_102 : (.classLink RL 15 "java/lang/IllegalStateException" : Cond) ∈ TB := List.mem_filter.mpr ⟨by decide +kernel, by decide +kernel⟩
theorem tb_103 : (.methodLink RL 7 yX5_append : Cond) ∈ TB := List.mem_filter.mpr ⟨by decide +kernel, by decide +kernel⟩
theorem tb_104 : (.instanceMethod yX5_append : Cond) ∈ TB := List.mem_filter.mpr ⟨by decide +kernel, by decide +kernel⟩
theorem tb_105 : (.selects RX5 yX5_append yX5_append : Cond) ∈ TB := List.mem_filter.mpr ⟨by decide +kernel, by decide +kernel⟩
theorem tb_106 : (.code yX5_append cX5_append 2 (some .int) : Cond) ∈ TB := List.mem_filter.mpr ⟨List.mem_of_getElem? (i := 360) (by decide +kernel), by decide +kernel⟩
theorem tb_107 : (.classLink RX5 53 "java/lang/IllegalArgumentException" : Cond) ∈ TB := List.mem_filter.mpr ⟨by decide +kernel, by decide +kernel⟩
theorem tb_108 : (.initialized "java/lang/IllegalArgumentException" : Cond) ∈ TB := List.mem_filter.mpr ⟨by decide +kernel, by decide +kernel⟩
theorem tb_109 : (.classLink RX5 64 "java/lang/IllegalStateException" : Cond) ∈ TB := List.mem_filter.mpr ⟨by decide +kernel, by decide +kernel⟩
theorem tb_110 : (.initialized "java/lang/IllegalStateException" : Cond) ∈ TB := List.mem_filter.mpr ⟨by decide +kernel, by decide +kernel⟩
theorem tb_111 : (.methodLink RX5 60 yX4_isFull : Cond) ∈ TB := List.mem_filter.mpr ⟨by decide +kernel, by decide +kernel⟩
theorem tb_112 : (.instanceMethod yX4_isFull : Cond) ∈ TB := List.mem_filter.mpr ⟨by decide +kernel, by decide +kernel⟩
theorem tb_113 : (.selects RX4 yX4_isFull yX4_isFull : Cond) ∈ TB := List.mem_filter.mpr ⟨by decide +kernel, by decide +kernel⟩
theorem tb_114 : (.code yX4_isFull cX4_isFull 1 (some .boolean) : Cond) ∈ TB := List.mem_filter.mpr ⟨List.mem_of_getElem? (i := 432) (by decide +kernel), by decide +kernel⟩
theorem tb_115 : (.methodLink RX5 69 yX4_add : Cond) ∈ TB := List.mem_filter.mpr ⟨by decide +kernel, by decide +kernel⟩
theorem tb_116 : (.instanceMethod yX4_add : Cond) ∈ TB := List.mem_filter.mpr ⟨by decide +kernel, by decide +kernel⟩
theorem tb_117 : (.selects RX4 yX4_add yX4_add : Cond) ∈ TB := List.mem_filter.mpr ⟨by decide +kernel, by decide +kernel⟩
theorem tb_118 : (.code yX4_add cX4_add 2 (some .int) : Cond) ∈ TB := List.mem_filter.mpr ⟨List.mem_of_getElem? (i := 452) (by decide +kernel), by decide +kernel⟩
theorem tb_119 : (.methodLink RL 104 yX6_append : Cond) ∈ TB := List.mem_filter.mpr ⟨by decide +kernel, by decide +kernel⟩
theorem tb_120 : (.instanceMethod yX6_append : Cond) ∈ TB := List.mem_filter.mpr ⟨by decide +kernel, by decide +kernel⟩
theorem tb_121 : (.selects RX6 yX6_append yX6_append : Cond) ∈ TB := List.mem_filter.mpr ⟨by decide +kernel, by decide +kernel⟩
theorem tb_122 : (.code yX6_append cX6_append 2 (some .int) : Cond) ∈ TB := List.mem_filter.mpr ⟨List.mem_of_getElem? (i := 885) (by decide +kernel), by decide +kernel⟩
theorem tb_123 : (.constantLong RX6 101 (255) : Cond) ∈ TB := List.mem_filter.mpr ⟨by decide +kernel, by decide +kernel⟩
theorem tb_124 : (.fieldLink RX6 103 "PassedTraitsModel" "size" "I" : Cond) ∈ TB := List.mem_filter.mpr ⟨by decide +kernel, by decide +kernel⟩
theorem tb_125 : (.methodLink RX6 39 yX6_in : Cond) ∈ TB := List.mem_filter.mpr ⟨by decide +kernel, by decide +kernel⟩
theorem tb_126 : (.static yX6_in : Cond) ∈ TB := List.mem_filter.mpr ⟨by decide +kernel, by decide +kernel⟩
theorem tb_127 : (.code yX6_in cX6_in 6 (some .boolean) : Cond) ∈ TB := List.mem_filter.mpr ⟨List.mem_of_getElem? (i := 889) (by decide +kernel), by decide +kernel⟩
theorem tb_128 : (.methodLink RX6 106 yX6_refused : Cond) ∈ TB := List.mem_filter.mpr ⟨by decide +kernel, by decide +kernel⟩
theorem tb_129 : (.instanceMethod yX6_refused : Cond) ∈ TB := List.mem_filter.mpr ⟨by decide +kernel, by decide +kernel⟩
theorem tb_130 : (.selects RX6 yX6_refused yX6_refused : Cond) ∈ TB := List.mem_filter.mpr ⟨by decide +kernel, by decide +kernel⟩
theorem tb_131 : (.code yX6_refused cX6_refused 2 (some .boolean) : Cond) ∈ TB := List.mem_filter.mpr ⟨List.mem_of_getElem? (i := 893) (by decide +kernel), by decide +kernel⟩
theorem tb_132 : (.fieldLink RX6 36 "PassedTraitsModel" "refusal" "I" : Cond) ∈ TB := List.mem_filter.mpr ⟨by decide +kernel, by decide +kernel⟩
theorem tb_133 : (.methodLink RL 105 yX6_thrown : Cond) ∈ TB := List.mem_filter.mpr ⟨by decide +kernel, by decide +kernel⟩
theorem tb_134 : (.instanceMethod yX6_thrown : Cond) ∈ TB := List.mem_filter.mpr ⟨by decide +kernel, by decide +kernel⟩
theorem tb_135 : (.selects RX6 yX6_thrown yX6_thrown : Cond) ∈ TB := List.mem_filter.mpr ⟨by decide +kernel, by decide +kernel⟩
theorem tb_136 : (.code yX6_thrown cX6_thrown 1 (some .int) : Cond) ∈ TB := List.mem_filter.mpr ⟨List.mem_of_getElem? (i := 881) (by decide +kernel), by decide +kernel⟩
theorem tb_137 : (.methodLink RL 108 yX5_clearText : Cond) ∈ TB := List.mem_filter.mpr ⟨by decide +kernel, by decide +kernel⟩
theorem tb_138 : (.instanceMethod yX5_clearText : Cond) ∈ TB := List.mem_filter.mpr ⟨by decide +kernel, by decide +kernel⟩
theorem tb_139 : (.selects RX5 yX5_clearText yX5_clearText : Cond) ∈ TB := List.mem_filter.mpr ⟨by decide +kernel, by decide +kernel⟩
theorem tb_140 : (.code yX5_clearText cX5_clearText 1 (some .int) : Cond) ∈ TB := List.mem_filter.mpr ⟨List.mem_of_getElem? (i := 214) (by decide +kernel), by decide +kernel⟩
theorem tb_141 : (.methodLink RX5 73 yX4_empty : Cond) ∈ TB := List.mem_filter.mpr ⟨by decide +kernel, by decide +kernel⟩
theorem tb_142 : (.instanceMethod yX4_empty : Cond) ∈ TB := List.mem_filter.mpr ⟨by decide +kernel, by decide +kernel⟩
theorem tb_143 : (.selects RX4 yX4_empty yX4_empty : Cond) ∈ TB := List.mem_filter.mpr ⟨by decide +kernel, by decide +kernel⟩
theorem tb_144 : (.code yX4_empty cX4_empty 2 (some .int) : Cond) ∈ TB := List.mem_filter.mpr ⟨List.mem_of_getElem? (i := 218) (by decide +kernel), by decide +kernel⟩
theorem tb_145 : (.methodLink RL 111 yX6_clearText : Cond) ∈ TB := List.mem_filter.mpr ⟨by decide +kernel, by decide +kernel⟩
theorem tb_146 : (.instanceMethod yX6_clearText : Cond) ∈ TB := List.mem_filter.mpr ⟨by decide +kernel, by decide +kernel⟩
theorem tb_147 : (.selects RX6 yX6_clearText yX6_clearText : Cond) ∈ TB := List.mem_filter.mpr ⟨by decide +kernel, by decide +kernel⟩
theorem tb_148 : (.code yX6_clearText cX6_clearText 2 (some .int) : Cond) ∈ TB := List.mem_filter.mpr ⟨List.mem_of_getElem? (i := 897) (by decide +kernel), by decide +kernel⟩
theorem tb_149 : (.methodLink RL 112 yX5_errorPosition : Cond) ∈ TB := List.mem_filter.mpr ⟨by decide +kernel, by decide +kernel⟩
theorem tb_150 : (.instanceMethod yX5_errorPosition : Cond) ∈ TB := List.mem_filter.mpr ⟨by decide +kernel, by decide +kernel⟩
theorem tb_151 : (.selects RX5 yX5_errorPosition yX5_errorPosition : Cond) ∈ TB := List.mem_filter.mpr ⟨by decide +kernel, by decide +kernel⟩
theorem tb_152 : (.code yX5_errorPosition cX5_errorPosition 1 (some .int) : Cond) ∈ TB := List.mem_filter.mpr ⟨List.mem_of_getElem? (i := 222) (by decide +kernel), by decide +kernel⟩
theorem tb_153 : (.methodLink RX5 77 yX4_firstError : Cond) ∈ TB := List.mem_filter.mpr ⟨by decide +kernel, by decide +kernel⟩
theorem tb_154 : (.instanceMethod yX4_firstError : Cond) ∈ TB := List.mem_filter.mpr ⟨by decide +kernel, by decide +kernel⟩
theorem tb_155 : (.selects RX4 yX4_firstError yX4_firstError : Cond) ∈ TB := List.mem_filter.mpr ⟨by decide +kernel, by decide +kernel⟩
theorem tb_156 : (.code yX4_firstError cX4_firstError 3 (some .int) : Cond) ∈ TB := List.mem_filter.mpr ⟨List.mem_of_getElem? (i := 226) (by decide +kernel), by decide +kernel⟩
theorem tb_157 : (.methodLink RX4 19 yX4_signAt : Cond) ∈ TB := List.mem_filter.mpr ⟨by decide +kernel, by decide +kernel⟩
theorem tb_158 : (.instanceMethod yX4_signAt : Cond) ∈ TB := List.mem_filter.mpr ⟨by decide +kernel, by decide +kernel⟩
theorem tb_159 : (.selects RX4 yX4_signAt yX4_signAt : Cond) ∈ TB := List.mem_filter.mpr ⟨by decide +kernel, by decide +kernel⟩
theorem tb_160 : (.code yX4_signAt cX4_signAt 2 (some .int) : Cond) ∈ TB := List.mem_filter.mpr ⟨List.mem_of_getElem? (i := 230) (by decide +kernel), by decide +kernel⟩
theorem tb_161 : (.methodLink RX4 23 yX4_awaitedBehind : Cond) ∈ TB := List.mem_filter.mpr ⟨by decide +kernel, by decide +kernel⟩
theorem tb_162 : (.static yX4_awaitedBehind : Cond) ∈ TB := List.mem_filter.mpr ⟨by decide +kernel, by decide +kernel⟩
theorem tb_163 : (.code yX4_awaitedBehind cX4_awaitedBehind 3 (some .int) : Cond) ∈ TB := List.mem_filter.mpr ⟨List.mem_of_getElem? (i := 233) (by decide +kernel), by decide +kernel⟩
theorem tb_164 : (.static yX5_isTrait : Cond) ∈ TB := List.mem_filter.mpr ⟨by decide +kernel, by decide +kernel⟩
theorem tb_165 : (.code yX5_isTrait cX5_isTrait 1 (some .boolean) : Cond) ∈ TB := List.mem_filter.mpr ⟨List.mem_of_getElem? (i := 236) (by decide +kernel), by decide +kernel⟩
theorem tb_166 : (.methodLink RL 115 yX6_errorPosition : Cond) ∈ TB := List.mem_filter.mpr ⟨by decide +kernel, by decide +kernel⟩
theorem tb_167 : (.instanceMethod yX6_errorPosition : Cond) ∈ TB := List.mem_filter.mpr ⟨by decide +kernel, by decide +kernel⟩
theorem tb_168 : (.selects RX6 yX6_errorPosition yX6_errorPosition : Cond) ∈ TB := List.mem_filter.mpr ⟨by decide +kernel, by decide +kernel⟩
theorem tb_169 : (.code yX6_errorPosition cX6_errorPosition 1 (some .int) : Cond) ∈ TB := List.mem_filter.mpr ⟨List.mem_of_getElem? (i := 901) (by decide +kernel), by decide +kernel⟩
theorem tb_170 : (.methodLink RX6 141 yX6_copyState : Cond) ∈ TB := List.mem_filter.mpr ⟨by decide +kernel, by decide +kernel⟩
theorem tb_171 : (.static yX6_copyState : Cond) ∈ TB := List.mem_filter.mpr ⟨by decide +kernel, by decide +kernel⟩
theorem tb_172 : (.code yX6_copyState cX6_copyState 5 none : Cond) ∈ TB := List.mem_filter.mpr ⟨List.mem_of_getElem? (i := 904) (by decide +kernel), by decide +kernel⟩
theorem tb_173 : (.methodLink RX6 145 yX6_readAll : Cond) ∈ TB := List.mem_filter.mpr ⟨by decide +kernel, by decide +kernel⟩
theorem tb_174 : (.instanceMethod yX6_readAll : Cond) ∈ TB := List.mem_filter.mpr ⟨by decide +kernel, by decide +kernel⟩
theorem tb_175 : (.selects RX6 yX6_readAll yX6_readAll : Cond) ∈ TB := List.mem_filter.mpr ⟨by decide +kernel, by decide +kernel⟩
theorem tb_176 : (.code yX6_readAll cX6_readAll 3 (some .int) : Cond) ∈ TB := List.mem_filter.mpr ⟨List.mem_of_getElem? (i := 908) (by decide +kernel), by decide +kernel⟩
theorem tb_177 : (.fieldLink RX6 110 "PassedTraitsModel" "spot" "I" : Cond) ∈ TB := List.mem_filter.mpr ⟨by decide +kernel, by decide +kernel⟩
theorem tb_178 : (.fieldLink RX6 134 "PassedTraitsModel" "out" "I" : Cond) ∈ TB := List.mem_filter.mpr ⟨by decide +kernel, by decide +kernel⟩
theorem tb_179 : (.methodLink RX6 137 yX6_readReport : Cond) ∈ TB := List.mem_filter.mpr ⟨by decide +kernel, by decide +kernel⟩
theorem tb_180 : (.instanceMethod yX6_readReport : Cond) ∈ TB := List.mem_filter.mpr ⟨by decide +kernel, by decide +kernel⟩
theorem tb_181 : (.selects RX6 yX6_readReport yX6_readReport : Cond) ∈ TB := List.mem_filter.mpr ⟨by decide +kernel, by decide +kernel⟩
theorem tb_182 : (.code yX6_readReport cX6_readReport 6 (some .boolean) : Cond) ∈ TB := List.mem_filter.mpr ⟨List.mem_of_getElem? (i := 912) (by decide +kernel), by decide +kernel⟩
theorem tb_183 : (.methodLink RX6 117 yX6_taken : Cond) ∈ TB := List.mem_filter.mpr ⟨by decide +kernel, by decide +kernel⟩
theorem tb_184 : (.instanceMethod yX6_taken : Cond) ∈ TB := List.mem_filter.mpr ⟨by decide +kernel, by decide +kernel⟩
theorem tb_185 : (.selects RX6 yX6_taken yX6_taken : Cond) ∈ TB := List.mem_filter.mpr ⟨by decide +kernel, by decide +kernel⟩
theorem tb_186 : (.code yX6_taken cX6_taken 4 (some .int) : Cond) ∈ TB := List.mem_filter.mpr ⟨List.mem_of_getElem? (i := 916) (by decide +kernel), by decide +kernel⟩
theorem tb_187 : (.methodLink RX6 113 yX6_sign : Cond) ∈ TB := List.mem_filter.mpr ⟨by decide +kernel, by decide +kernel⟩
theorem tb_188 : (.instanceMethod yX6_sign : Cond) ∈ TB := List.mem_filter.mpr ⟨by decide +kernel, by decide +kernel⟩
theorem tb_189 : (.selects RX6 yX6_sign yX6_sign : Cond) ∈ TB := List.mem_filter.mpr ⟨by decide +kernel, by decide +kernel⟩
theorem tb_190 : (.code yX6_sign cX6_sign 1 (some .int) : Cond) ∈ TB := List.mem_filter.mpr ⟨List.mem_of_getElem? (i := 920) (by decide +kernel), by decide +kernel⟩
theorem tb_191 : (.methodLink RX6 124 yX6_readYear : Cond) ∈ TB := List.mem_filter.mpr ⟨by decide +kernel, by decide +kernel⟩
theorem tb_192 : (.instanceMethod yX6_readYear : Cond) ∈ TB := List.mem_filter.mpr ⟨by decide +kernel, by decide +kernel⟩
theorem tb_193 : (.selects RX6 yX6_readYear yX6_readYear : Cond) ∈ TB := List.mem_filter.mpr ⟨by decide +kernel, by decide +kernel⟩
theorem tb_194 : (.code yX6_readYear cX6_readYear 2 (some .int) : Cond) ∈ TB := List.mem_filter.mpr ⟨List.mem_of_getElem? (i := 924) (by decide +kernel), by decide +kernel⟩
theorem tb_195 : (.constantLong RX6 120 (48) : Cond) ∈ TB := List.mem_filter.mpr ⟨by decide +kernel, by decide +kernel⟩
theorem tb_196 : (.constantLong RX6 122 (57) : Cond) ∈ TB := List.mem_filter.mpr ⟨by decide +kernel, by decide +kernel⟩
theorem tb_197 : (.methodLink RX6 127 yX6_isTown : Cond) ∈ TB := List.mem_filter.mpr ⟨by decide +kernel, by decide +kernel⟩
theorem tb_198 : (.static yX6_isTown : Cond) ∈ TB := List.mem_filter.mpr ⟨by decide +kernel, by decide +kernel⟩
theorem tb_199 : (.code yX6_isTown cX6_isTown 2 (some .boolean) : Cond) ∈ TB := List.mem_filter.mpr ⟨List.mem_of_getElem? (i := 929) (by decide +kernel), by decide +kernel⟩
theorem tb_200 : (.methodLink RX6 130 yX6_seeOn : Cond) ∈ TB := List.mem_filter.mpr ⟨by decide +kernel, by decide +kernel⟩
theorem tb_201 : (.static yX6_seeOn : Cond) ∈ TB := List.mem_filter.mpr ⟨by decide +kernel, by decide +kernel⟩
theorem tb_202 : (.code yX6_seeOn cX6_seeOn 7 (some .int) : Cond) ∈ TB := List.mem_filter.mpr ⟨List.mem_of_getElem? (i := 932) (by decide +kernel), by decide +kernel⟩
theorem tb_203 : (.methodLink RX6 49 yX6_at : Cond) ∈ TB := List.mem_filter.mpr ⟨by decide +kernel, by decide +kernel⟩
theorem tb_204 : (.static yX6_at : Cond) ∈ TB := List.mem_filter.mpr ⟨by decide +kernel, by decide +kernel⟩
theorem tb_205 : (.code yX6_at cX6_at 2 (some .int) : Cond) ∈ TB := List.mem_filter.mpr ⟨List.mem_of_getElem? (i := 935) (by decide +kernel), by decide +kernel⟩
theorem tb_206 : (.methodLink RL 116 yL_about : Cond) ∈ TB := List.mem_filter.mpr ⟨by decide +kernel, by decide +kernel⟩
theorem tb_207 : (.static yL_about : Cond) ∈ TB := List.mem_filter.mpr ⟨by decide +kernel, by decide +kernel⟩
theorem tb_208 : (.codeWith yL_about cL_about 4 (some .int) [(0, 9, 12, 13)] : Cond) ∈ TB := List.mem_filter.mpr ⟨by decide +kernel, by decide +kernel⟩
theorem tb_209 : (.methodLink RL 17 yX5_about : Cond) ∈ TB := List.mem_filter.mpr ⟨by decide +kernel, by decide +kernel⟩
theorem tb_210 : (.instanceMethod yX5_about : Cond) ∈ TB := List.mem_filter.mpr ⟨by decide +kernel, by decide +kernel⟩
theorem tb_211 : (.selects RX5 yX5_about yX5_about : Cond) ∈ TB := List.mem_filter.mpr ⟨by decide +kernel, by decide +kernel⟩
theorem tb_212 : (.code yX5_about cX5_about 2 (some .int) : Cond) ∈ TB := List.mem_filter.mpr ⟨List.mem_of_getElem? (i := 459) (by decide +kernel), by decide +kernel⟩
theorem tb_213 : (.methodLink RX5 80 yX1_townCount : Cond) ∈ TB := List.mem_filter.mpr ⟨by decide +kernel, by decide +kernel⟩
theorem tb_214 : (.instanceMethod yX1_townCount : Cond) ∈ TB := List.mem_filter.mpr ⟨by decide +kernel, by decide +kernel⟩
theorem tb_215 : (.selects RX1 yX1_townCount yX1_townCount : Cond) ∈ TB := List.mem_filter.mpr ⟨by decide +kernel, by decide +kernel⟩
theorem tb_216 : (.code yX1_townCount cX1_townCount 1 (some .int) : Cond) ∈ TB := List.mem_filter.mpr ⟨List.mem_of_getElem? (i := 263) (by decide +kernel), by decide +kernel⟩
theorem tb_217 : (.methodLink RX5 83 yX1_roadCount : Cond) ∈ TB := List.mem_filter.mpr ⟨by decide +kernel, by decide +kernel⟩
theorem tb_218 : (.instanceMethod yX1_roadCount : Cond) ∈ TB := List.mem_filter.mpr ⟨by decide +kernel, by decide +kernel⟩
theorem tb_219 : (.selects RX1 yX1_roadCount yX1_roadCount : Cond) ∈ TB := List.mem_filter.mpr ⟨by decide +kernel, by decide +kernel⟩
theorem tb_220 : (.code yX1_roadCount cX1_roadCount 4 (some .int) : Cond) ∈ TB := List.mem_filter.mpr ⟨List.mem_of_getElem? (i := 464) (by decide +kernel), by decide +kernel⟩
theorem tb_221 : (.methodLink RX1 35 yX1_roadLength : Cond) ∈ TB := List.mem_filter.mpr ⟨by decide +kernel, by decide +kernel⟩
theorem tb_222 : (.instanceMethod yX1_roadLength : Cond) ∈ TB := List.mem_filter.mpr ⟨by decide +kernel, by decide +kernel⟩
theorem tb_223 : (.selects RX1 yX1_roadLength yX1_roadLength : Cond) ∈ TB := List.mem_filter.mpr ⟨by decide +kernel, by decide +kernel⟩
theorem tb_224 : (.code yX1_roadLength cX1_roadLength 3 (some .int) : Cond) ∈ TB := List.mem_filter.mpr ⟨List.mem_of_getElem? (i := 297) (by decide +kernel), by decide +kernel⟩
theorem tb_225 : (.methodLink RX1 31 yX1_isTown : Cond) ∈ TB := List.mem_filter.mpr ⟨by decide +kernel, by decide +kernel⟩
theorem tb_226 : (.instanceMethod yX1_isTown : Cond) ∈ TB := List.mem_filter.mpr ⟨by decide +kernel, by decide +kernel⟩
theorem tb_227 : (.selects RX1 yX1_isTown yX1_isTown : Cond) ∈ TB := List.mem_filter.mpr ⟨by decide +kernel, by decide +kernel⟩
theorem tb_228 : (.code yX1_isTown cX1_isTown 2 (some .boolean) : Cond) ∈ TB := List.mem_filter.mpr ⟨List.mem_of_getElem? (i := 275) (by decide +kernel), by decide +kernel⟩
theorem tb_229 : (.methodLink RX5 86 yX1_reportedPairs : Cond) ∈ TB := List.mem_filter.mpr ⟨by decide +kernel, by decide +kernel⟩
theorem tb_230 : (.instanceMethod yX1_reportedPairs : Cond) ∈ TB := List.mem_filter.mpr ⟨by decide +kernel, by decide +kernel⟩
theorem tb_231 : (.selects RX1 yX1_reportedPairs yX1_reportedPairs : Cond) ∈ TB := List.mem_filter.mpr ⟨by decide +kernel, by decide +kernel⟩
theorem tb_232 : (.code yX1_reportedPairs cX1_reportedPairs 4 (some .int) : Cond) ∈ TB := List.mem_filter.mpr ⟨List.mem_of_getElem? (i := 469) (by decide +kernel), by decide +kernel⟩
theorem tb_233 : (.methodLink RX1 46 yX1_isReported : Cond) ∈ TB := List.mem_filter.mpr ⟨by decide +kernel, by decide +kernel⟩
theorem tb_234 : (.instanceMethod yX1_isReported : Cond) ∈ TB := List.mem_filter.mpr ⟨by decide +kernel, by decide +kernel⟩
theorem tb_235 : (.selects RX1 yX1_isReported yX1_isReported : Cond) ∈ TB := List.mem_filter.mpr ⟨by decide +kernel, by decide +kernel⟩
theorem tb_236 : (.code yX1_isReported cX1_isReported 3 (some .boolean) : Cond) ∈ TB := List.mem_filter.mpr ⟨List.mem_of_getElem? (i := 267) (by decide +kernel), by decide +kernel⟩
theorem tb_237 : (.methodLink RX1 42 yX1_reportedYear : Cond) ∈ TB := List.mem_filter.mpr ⟨by decide +kernel, by decide +kernel⟩
theorem tb_238 : (.instanceMethod yX1_reportedYear : Cond) ∈ TB := List.mem_filter.mpr ⟨by decide +kernel, by decide +kernel⟩
theorem tb_239 : (.selects RX1 yX1_reportedYear yX1_reportedYear : Cond) ∈ TB := List.mem_filter.mpr ⟨by decide +kernel, by decide +kernel⟩
theorem tb_240 : (.code yX1_reportedYear cX1_reportedYear 4 (some .int) : Cond) ∈ TB := List.mem_filter.mpr ⟨List.mem_of_getElem? (i := 271) (by decide +kernel), by decide +kernel⟩
theorem tb_241 : (.methodLink RX5 89 yX1_contradictions : Cond) ∈ TB := List.mem_filter.mpr ⟨by decide +kernel, by decide +kernel⟩
theorem tb_242 : (.instanceMethod yX1_contradictions : Cond) ∈ TB := List.mem_filter.mpr ⟨by decide +kernel, by decide +kernel⟩
theorem tb_243 : (.selects RX1 yX1_contradictions yX1_contradictions : Cond) ∈ TB := List.mem_filter.mpr ⟨by decide +kernel, by decide +kernel⟩
theorem tb_244 : (.code yX1_contradictions cX1_contradictions 4 (some .int) : Cond) ∈ TB := List.mem_filter.mpr ⟨List.mem_of_getElem? (i := 473) (by decide +kernel), by decide +kernel⟩
theorem tb_245 : (.methodLink RX1 50 yX1_isContradicted : Cond) ∈ TB := List.mem_filter.mpr ⟨by decide +kernel, by decide +kernel⟩
theorem tb_246 : (.instanceMethod yX1_isContradicted : Cond) ∈ TB := List.mem_filter.mpr ⟨by decide +kernel, by decide +kernel⟩
theorem tb_247 : (.selects RX1 yX1_isContradicted yX1_isContradicted : Cond) ∈ TB := List.mem_filter.mpr ⟨by decide +kernel, by decide +kernel⟩
theorem tb_248 : (.code yX1_isContradicted cX1_isContradicted 4 (some .boolean) : Cond) ∈ TB := List.mem_filter.mpr ⟨List.mem_of_getElem? (i := 477) (by decide +kernel), by decide +kernel⟩
theorem tb_249 : (.methodLink RX5 92 yX0_inventedTraits : Cond) ∈ TB := List.mem_filter.mpr ⟨by decide +kernel, by decide +kernel⟩
theorem tb_250 : (.instanceMethod yX0_inventedTraits : Cond) ∈ TB := List.mem_filter.mpr ⟨by decide +kernel, by decide +kernel⟩
theorem tb_251 : (.selects RX0 yX0_inventedTraits yX0_inventedTraits : Cond) ∈ TB := List.mem_filter.mpr ⟨by decide +kernel, by decide +kernel⟩
theorem tb_252 : (.code yX0_inventedTraits cX0_inventedTraits 4 (some .int) : Cond) ∈ TB := List.mem_filter.mpr ⟨List.mem_of_getElem? (i := 481) (by decide +kernel), by decide +kernel⟩
theorem tb_253 : (.methodLink RX0 36 yX0_study : Cond) ∈ TB := List.mem_filter.mpr ⟨by decide +kernel, by decide +kernel⟩
theorem tb_254 : (.instanceMethod yX0_study : Cond) ∈ TB := List.mem_filter.mpr ⟨by decide +kernel, by decide +kernel⟩
theorem tb_255 : (.selects RX0 yX0_study yX0_study : Cond) ∈ TB := List.mem_filter.mpr ⟨by decide +kernel, by decide +kernel⟩
theorem tb_256 : (.code yX0_study cX0_study 3 (some .int) : Cond) ∈ TB := List.mem_filter.mpr ⟨List.mem_of_getElem? (i := 285) (by decide +kernel), by decide +kernel⟩
theorem tb_257 : (.methodLink RX0 52 Lib.Math.min.name : Cond) ∈ TB := List.mem_filter.mpr ⟨by decide +kernel, by decide +kernel⟩
theorem tb_258 : (.static Lib.Math.min.name : Cond) ∈ TB := List.mem_filter.mpr ⟨by decide +kernel, by decide +kernel⟩
theorem tb_259 : (.initialized "java/lang/Math" : Cond) ∈ TB := List.mem_filter.mpr ⟨by decide +kernel, by decide +kernel⟩
theorem tb_260 : (.code Lib.Math.min.name Lib.Math.min.code 2 (some .int) : Cond) ∈ TB := List.mem_filter.mpr ⟨List.mem_of_getElem? (i := 289) (by decide +kernel), by decide +kernel⟩
theorem tb_261 : (.fieldLink RX0 55 "PassedTraits$Histories" "towns" "I" : Cond) ∈ TB := List.mem_filter.mpr ⟨by decide +kernel, by decide +kernel⟩
theorem tb_262 : (.fieldLink RX0 59 "PassedTraits$Histories" "fewest" "I" : Cond) ∈ TB := List.mem_filter.mpr ⟨by decide +kernel, by decide +kernel⟩
theorem tb_263 : (.fieldLink RX0 62 "PassedTraits$Histories" "origins" "I" : Cond) ∈ TB := List.mem_filter.mpr ⟨by decide +kernel, by decide +kernel⟩
theorem tb_264 : (.methodLink RX0 46 yX1_townCount : Cond) ∈ TB := List.mem_filter.mpr ⟨by decide +kernel, by decide +kernel⟩
theorem tb_265 : (.methodLink RX0 65 yX0_takeRoads : Cond) ∈ TB := List.mem_filter.mpr ⟨by decide +kernel, by decide +kernel⟩
theorem tb_266 : (.instanceMethod yX0_takeRoads : Cond) ∈ TB := List.mem_filter.mpr ⟨by decide +kernel, by decide +kernel⟩
theorem tb_267 : (.selects RX0 yX0_takeRoads yX0_takeRoads : Cond) ∈ TB := List.mem_filter.mpr ⟨by decide +kernel, by decide +kernel⟩
theorem tb_268 : (.code yX0_takeRoads cX0_takeRoads 5 none : Cond) ∈ TB := List.mem_filter.mpr ⟨List.mem_of_getElem? (i := 293) (by decide +kernel), by decide +kernel⟩
theorem tb_269 : (.fieldLink RX0 93 "PassedTraits$Histories" "roads" "I" : Cond) ∈ TB := List.mem_filter.mpr ⟨by decide +kernel, by decide +kernel⟩
theorem tb_270 : (.methodLink RX0 96 yX1_roadLength : Cond) ∈ TB := List.mem_filter.mpr ⟨by decide +kernel, by decide +kernel⟩
theorem tb_271 : (.methodLink RX0 69 yX0_takeReports : Cond) ∈ TB := List.mem_filter.mpr ⟨by decide +kernel, by decide +kernel⟩
theorem tb_272 : (.instanceMethod yX0_takeReports : Cond) ∈ TB := List.mem_filter.mpr ⟨by decide +kernel, by decide +kernel⟩
theorem tb_273 : (.selects RX0 yX0_takeReports yX0_takeReports : Cond) ∈ TB := List.mem_filter.mpr ⟨by decide +kernel, by decide +kernel⟩
theorem tb_274 : (.code yX0_takeReports cX0_takeReports 5 (some .boolean) : Cond) ∈ TB := List.mem_filter.mpr ⟨List.mem_of_getElem? (i := 301) (by decide +kernel), by decide +kernel⟩
theorem tb_275 : (.fieldLink RX0 86 "PassedTraits$Histories" "known" "I" : Cond) ∈ TB := List.mem_filter.mpr ⟨by decide +kernel, by decide +kernel⟩
theorem tb_276 : (.methodLink RX0 89 yX1_reportedYear : Cond) ∈ TB := List.mem_filter.mpr ⟨by decide +kernel, by decide +kernel⟩
theorem tb_277 : (.methodLink RX0 73 yX0_explainAlone : Cond) ∈ TB := List.mem_filter.mpr ⟨by decide +kernel, by decide +kernel⟩
theorem tb_278 : (.instanceMethod yX0_explainAlone : Cond) ∈ TB := List.mem_filter.mpr ⟨by decide +kernel, by decide +kernel⟩
theorem tb_279 : (.selects RX0 yX0_explainAlone yX0_explainAlone : Cond) ∈ TB := List.mem_filter.mpr ⟨by decide +kernel, by decide +kernel⟩
theorem tb_280 : (.code yX0_explainAlone cX0_explainAlone 2 none : Cond) ∈ TB := List.mem_filter.mpr ⟨List.mem_of_getElem? (i := 306) (by decide +kernel), by decide +kernel⟩
theorem tb_281 : (.methodLink RX0 79 yX0_inventIn : Cond) ∈ TB := List.mem_filter.mpr ⟨by decide +kernel, by decide +kernel⟩
theorem tb_282 : (.instanceMethod yX0_inventIn : Cond) ∈ TB := List.mem_filter.mpr ⟨by decide +kernel, by decide +kernel⟩
theorem tb_283 : (.selects RX0 yX0_inventIn yX0_inventIn : Cond) ∈ TB := List.mem_filter.mpr ⟨by decide +kernel, by decide +kernel⟩
theorem tb_284 : (.code yX0_inventIn cX0_inventIn 3 none : Cond) ∈ TB := List.mem_filter.mpr ⟨List.mem_of_getElem? (i := 310) (by decide +kernel), by decide +kernel⟩
theorem tb_285 : (.methodLink RX0 83 yX0_spread : Cond) ∈ TB := List.mem_filter.mpr ⟨by decide +kernel, by decide +kernel⟩
theorem tb_286 : (.instanceMethod yX0_spread : Cond) ∈ TB := List.mem_filter.mpr ⟨by decide +kernel, by decide +kernel⟩
theorem tb_287 : (.selects RX0 yX0_spread yX0_spread : Cond) ∈ TB := List.mem_filter.mpr ⟨by decide +kernel, by decide +kernel⟩
theorem tb_288 : (.code yX0_spread cX0_spread 6 none : Cond) ∈ TB := List.mem_filter.mpr ⟨List.mem_of_getElem? (i := 314) (by decide +kernel), by decide +kernel⟩
theorem tb_289 : (.methodLink RX0 120 yX0_passOn : Cond) ∈ TB := List.mem_filter.mpr ⟨by decide +kernel, by decide +kernel⟩
theorem tb_290 : (.instanceMethod yX0_passOn : Cond) ∈ TB := List.mem_filter.mpr ⟨by decide +kernel, by decide +kernel⟩
theorem tb_291 : (.selects RX0 yX0_passOn yX0_passOn : Cond) ∈ TB := List.mem_filter.mpr ⟨by decide +kernel, by decide +kernel⟩
theorem tb_292 : (.code yX0_passOn cX0_passOn 5 (some .boolean) : Cond) ∈ TB := List.mem_filter.mpr ⟨List.mem_of_getElem? (i := 318) (by decide +kernel), by decide +kernel⟩
theorem tb_293 : (.methodLink RX0 99 yX0_knownInTime : Cond) ∈ TB := List.mem_filter.mpr ⟨by decide +kernel, by decide +kernel⟩
theorem tb_294 : (.instanceMethod yX0_knownInTime : Cond) ∈ TB := List.mem_filter.mpr ⟨by decide +kernel, by decide +kernel⟩
theorem tb_295 : (.selects RX0 yX0_knownInTime yX0_knownInTime : Cond) ∈ TB := List.mem_filter.mpr ⟨by decide +kernel, by decide +kernel⟩
theorem tb_296 : (.code yX0_knownInTime cX0_knownInTime 3 (some .int) : Cond) ∈ TB := List.mem_filter.mpr ⟨List.mem_of_getElem? (i := 322) (by decide +kernel), by decide +kernel⟩
theorem tb_297 : (.methodLink RX0 76 yX0_weighSets : Cond) ∈ TB := List.mem_filter.mpr ⟨by decide +kernel, by decide +kernel⟩
theorem tb_298 : (.instanceMethod yX0_weighSets : Cond) ∈ TB := List.mem_filter.mpr ⟨by decide +kernel, by decide +kernel⟩
theorem tb_299 : (.selects RX0 yX0_weighSets yX0_weighSets : Cond) ∈ TB := List.mem_filter.mpr ⟨by decide +kernel, by decide +kernel⟩
theorem tb_300 : (.code yX0_weighSets cX0_weighSets 4 none : Cond) ∈ TB := List.mem_filter.mpr ⟨List.mem_of_getElem? (i := 326) (by decide +kernel), by decide +kernel⟩
theorem tb_301 : (.methodLink RX0 102 yX0_weigh : Cond) ∈ TB := List.mem_filter.mpr ⟨by decide +kernel, by decide +kernel⟩
theorem tb_302 : (.instanceMethod yX0_weigh : Cond) ∈ TB := List.mem_filter.mpr ⟨by decide +kernel, by decide +kernel⟩
theorem tb_303 : (.selects RX0 yX0_weigh yX0_weigh : Cond) ∈ TB := List.mem_filter.mpr ⟨by decide +kernel, by decide +kernel⟩
theorem tb_304 : (.code yX0_weigh cX0_weigh 3 none : Cond) ∈ TB := List.mem_filter.mpr ⟨List.mem_of_getElem? (i := 330) (by decide +kernel), by decide +kernel⟩
theorem tb_305 : (.fieldLink RX0 111 "PassedTraits$Histories" "always" "I" : Cond) ∈ TB := List.mem_filter.mpr ⟨by decide +kernel, by decide +kernel⟩
theorem tb_306 : (.fieldLink RX0 114 "PassedTraits$Histories" "sometimes" "I" : Cond) ∈ TB := List.mem_filter.mpr ⟨by decide +kernel, by decide +kernel⟩
theorem tb_307 : (.fieldLink RX0 117 "PassedTraits$Histories" "leastSets" "I" : Cond) ∈ TB := List.mem_filter.mpr ⟨by decide +kernel, by decide +kernel⟩
theorem tb_308 : (.methodLink RX0 105 yJ6_bitCount_0f7a4 : Cond) ∈ TB := List.mem_filter.mpr ⟨by decide +kernel, by decide +kernel⟩
theorem tb_309 : (.static yJ6_bitCount_0f7a4 : Cond) ∈ TB := List.mem_filter.mpr ⟨by decide +kernel, by decide +kernel⟩
theorem tb_310 : (.initialized RJ6 : Cond) ∈ TB := List.mem_filter.mpr ⟨by decide +kernel, by decide +kernel⟩
theorem tb_311 : (.code yJ6_bitCount_0f7a4 cJ6_bitCount_0f7a4 1 (some .int) : Cond) ∈ TB := List.mem_filter.mpr ⟨List.mem_of_getElem? (i := 333) (by decide +kernel), by decide +kernel⟩
theorem tb_312 : (.constant RJ6 265 (1431655765) : Cond) ∈ TB := List.mem_filter.mpr ⟨by decide +kernel, by decide +kernel⟩
theorem tb_313 : (.constant RJ6 266 (858993459) : Cond) ∈ TB := List.mem_filter.mpr ⟨by decide +kernel, by decide +kernel⟩
theorem tb_314 : (.constant RJ6 267 (252645135) : Cond) ∈ TB := List.mem_filter.mpr ⟨by decide +kernel, by decide +kernel⟩
theorem tb_315 : (.methodLink RX5 96 yX0_allInventions : Cond) ∈ TB := List.mem_filter.mpr ⟨by decide +kernel, by decide +kernel⟩
theorem tb_316 : (.instanceMethod yX0_allInventions : Cond) ∈ TB := List.mem_filter.mpr ⟨by decide +kernel, by decide +kernel⟩
theorem tb_317 : (.selects RX0 yX0_allInventions yX0_allInventions : Cond) ∈ TB := List.mem_filter.mpr ⟨by decide +kernel, by decide +kernel⟩
theorem tb_318 : (.code yX0_allInventions cX0_allInventions 4 (some .int) : Cond) ∈ TB := List.mem_filter.mpr ⟨List.mem_of_getElem? (i := 486) (by decide +kernel), by decide +kernel⟩
theorem tb_319 : (.methodLink RX0 40 Lib.Math.max.name : Cond) ∈ TB := List.mem_filter.mpr ⟨by decide +kernel, by decide +kernel⟩
theorem tb_320 : (.static Lib.Math.max.name : Cond) ∈ TB := List.mem_filter.mpr ⟨by decide +kernel, by decide +kernel⟩
theorem tb_321 : (.code Lib.Math.max.name Lib.Math.max.code 2 (some .int) : Cond) ∈ TB := List.mem_filter.mpr ⟨List.mem_of_getElem? (i := 339) (by decide +kernel), by decide +kernel⟩
theorem tb_322 : (.methodLink RL 118 yX6_about : Cond) ∈ TB := List.mem_filter.mpr ⟨by decide +kernel, by decide +kernel⟩
theorem tb_323 : (.instanceMethod yX6_about : Cond) ∈ TB := List.mem_filter.mpr ⟨by decide +kernel, by decide +kernel⟩
theorem tb_324 : (.selects RX6 yX6_about yX6_about : Cond) ∈ TB := List.mem_filter.mpr ⟨by decide +kernel, by decide +kernel⟩
theorem tb_325 : (.code yX6_about cX6_about 2 (some .int) : Cond) ∈ TB := List.mem_filter.mpr ⟨List.mem_of_getElem? (i := 939) (by decide +kernel), by decide +kernel⟩
theorem tb_326 : (.constantLong RX6 43 (5) : Cond) ∈ TB := List.mem_filter.mpr ⟨by decide +kernel, by decide +kernel⟩
theorem tb_327 : (.methodLink RX6 149 yX6_roads : Cond) ∈ TB := List.mem_filter.mpr ⟨by decide +kernel, by decide +kernel⟩
theorem tb_328 : (.static yX6_roads : Cond) ∈ TB := List.mem_filter.mpr ⟨by decide +kernel, by decide +kernel⟩
theorem tb_329 : (.code yX6_roads cX6_roads 3 (some .int) : Cond) ∈ TB := List.mem_filter.mpr ⟨List.mem_of_getElem? (i := 943) (by decide +kernel), by decide +kernel⟩
theorem tb_330 : (.methodLink RX6 152 yX6_countPairs : Cond) ∈ TB := List.mem_filter.mpr ⟨by decide +kernel, by decide +kernel⟩
theorem tb_331 : (.instanceMethod yX6_countPairs : Cond) ∈ TB := List.mem_filter.mpr ⟨by decide +kernel, by decide +kernel⟩
theorem tb_332 : (.selects RX6 yX6_countPairs yX6_countPairs : Cond) ∈ TB := List.mem_filter.mpr ⟨by decide +kernel, by decide +kernel⟩
theorem tb_333 : (.code yX6_countPairs cX6_countPairs 6 (some .int) : Cond) ∈ TB := List.mem_filter.mpr ⟨List.mem_of_getElem? (i := 947) (by decide +kernel), by decide +kernel⟩
theorem tb_334 : (.methodLink RX6 53 yX6_areAgainst : Cond) ∈ TB := List.mem_filter.mpr ⟨by decide +kernel, by decide +kernel⟩
theorem tb_335 : (.static yX6_areAgainst : Cond) ∈ TB := List.mem_filter.mpr ⟨by decide +kernel, by decide +kernel⟩
theorem tb_336 : (.code yX6_areAgainst cX6_areAgainst 3 (some .boolean) : Cond) ∈ TB := List.mem_filter.mpr ⟨List.mem_of_getElem? (i := 950) (by decide +kernel), by decide +kernel⟩
theorem tb_337 : (.methodLink RX6 156 yX6_traitsInvented : Cond) ∈ TB := List.mem_filter.mpr ⟨by decide +kernel, by decide +kernel⟩
theorem tb_338 : (.instanceMethod yX6_traitsInvented : Cond) ∈ TB := List.mem_filter.mpr ⟨by decide +kernel, by decide +kernel⟩
theorem tb_339 : (.selects RX6 yX6_traitsInvented yX6_traitsInvented : Cond) ∈ TB := List.mem_filter.mpr ⟨by decide +kernel, by decide +kernel⟩
theorem tb_340 : (.code yX6_traitsInvented cX6_traitsInvented 3 (some .int) : Cond) ∈ TB := List.mem_filter.mpr ⟨List.mem_of_getElem? (i := 954) (by decide +kernel), by decide +kernel⟩
theorem tb_341 : (.fieldLink RX6 61 "PassedTraitsModel" "least" "I" : Cond) ∈ TB := List.mem_filter.mpr ⟨by decide +kernel, by decide +kernel⟩
theorem tb_342 : (.methodLink RX6 94 yX6_findLeast : Cond) ∈ TB := List.mem_filter.mpr ⟨by decide +kernel, by decide +kernel⟩
theorem tb_343 : (.instanceMethod yX6_findLeast : Cond) ∈ TB := List.mem_filter.mpr ⟨by decide +kernel, by decide +kernel⟩
theorem tb_344 : (.selects RX6 yX6_findLeast yX6_findLeast : Cond) ∈ TB := List.mem_filter.mpr ⟨by decide +kernel, by decide +kernel⟩
theorem tb_345 : (.code yX6_findLeast cX6_findLeast 6 none : Cond) ∈ TB := List.mem_filter.mpr ⟨List.mem_of_getElem? (i := 958) (by decide +kernel), by decide +kernel⟩
theorem tb_346 : (.fieldLink RX6 64 "PassedTraitsModel" "origins" "I" : Cond) ∈ TB := List.mem_filter.mpr ⟨by decide +kernel, by decide +kernel⟩
theorem tb_347 : (.fieldLink RX6 67 "PassedTraitsModel" "ofAll" "I" : Cond) ∈ TB := List.mem_filter.mpr ⟨by decide +kernel, by decide +kernel⟩
theorem tb_348 : (.fieldLink RX6 70 "PassedTraitsModel" "ofSome" "I" : Cond) ∈ TB := List.mem_filter.mpr ⟨by decide +kernel, by decide +kernel⟩
theorem tb_349 : (.fieldLink RX6 73 "PassedTraitsModel" "sets" "I" : Cond) ∈ TB := List.mem_filter.mpr ⟨by decide +kernel, by decide +kernel⟩
theorem tb_350 : (.methodLink RX6 76 yX6_hasHistory : Cond) ∈ TB := List.mem_filter.mpr ⟨by decide +kernel, by decide +kernel⟩
theorem tb_351 : (.static yX6_hasHistory : Cond) ∈ TB := List.mem_filter.mpr ⟨by decide +kernel, by decide +kernel⟩
theorem tb_352 : (.code yX6_hasHistory cX6_hasHistory 4 (some .boolean) : Cond) ∈ TB := List.mem_filter.mpr ⟨List.mem_of_getElem? (i := 961) (by decide +kernel), by decide +kernel⟩
theorem tb_353 : (.methodLink RX6 80 yX6_ones : Cond) ∈ TB := List.mem_filter.mpr ⟨by decide +kernel, by decide +kernel⟩
theorem tb_354 : (.static yX6_ones : Cond) ∈ TB := List.mem_filter.mpr ⟨by decide +kernel, by decide +kernel⟩
theorem tb_355 : (.code yX6_ones cX6_ones 3 (some .int) : Cond) ∈ TB := List.mem_filter.mpr ⟨List.mem_of_getElem? (i := 964) (by decide +kernel), by decide +kernel⟩
theorem tb_356 : (.methodLink RX6 84 yX6_layOrigins : Cond) ∈ TB := List.mem_filter.mpr ⟨by decide +kernel, by decide +kernel⟩
theorem tb_357 : (.instanceMethod yX6_layOrigins : Cond) ∈ TB := List.mem_filter.mpr ⟨by decide +kernel, by decide +kernel⟩
theorem tb_358 : (.selects RX6 yX6_layOrigins yX6_layOrigins : Cond) ∈ TB := List.mem_filter.mpr ⟨by decide +kernel, by decide +kernel⟩
theorem tb_359 : (.code yX6_layOrigins cX6_layOrigins 5 none : Cond) ∈ TB := List.mem_filter.mpr ⟨List.mem_of_getElem? (i := 968) (by decide +kernel), by decide +kernel⟩
theorem tb_360 : (.constant RX6 57 (100000) : Cond) ∈ TB := List.mem_filter.mpr ⟨by decide +kernel, by decide +kernel⟩
theorem tb_361 : (.methodLink RX6 58 yX6_bound : Cond) ∈ TB := List.mem_filter.mpr ⟨by decide +kernel, by decide +kernel⟩
theorem tb_362 : (.static yX6_bound : Cond) ∈ TB := List.mem_filter.mpr ⟨by decide +kernel, by decide +kernel⟩
theorem tb_363 : (.code yX6_bound cX6_bound 3 (some .int) : Cond) ∈ TB := List.mem_filter.mpr ⟨List.mem_of_getElem? (i := 971) (by decide +kernel), by decide +kernel⟩
theorem tb_364 : (.methodLink RX6 88 yX6_spread : Cond) ∈ TB := List.mem_filter.mpr ⟨by decide +kernel, by decide +kernel⟩
theorem tb_365 : (.instanceMethod yX6_spread : Cond) ∈ TB := List.mem_filter.mpr ⟨by decide +kernel, by decide +kernel⟩
theorem tb_366 : (.selects RX6 yX6_spread yX6_spread : Cond) ∈ TB := List.mem_filter.mpr ⟨by decide +kernel, by decide +kernel⟩
theorem tb_367 : (.code yX6_spread cX6_spread 8 none : Cond) ∈ TB := List.mem_filter.mpr ⟨List.mem_of_getElem? (i := 976) (by decide +kernel), by decide +kernel⟩
theorem tb_368 : (.methodLink RX6 45 yX6_length : Cond) ∈ TB := List.mem_filter.mpr ⟨by decide +kernel, by decide +kernel⟩
theorem tb_369 : (.static yX6_length : Cond) ∈ TB := List.mem_filter.mpr ⟨by decide +kernel, by decide +kernel⟩
theorem tb_370 : (.code yX6_length cX6_length 3 (some .int) : Cond) ∈ TB := List.mem_filter.mpr ⟨List.mem_of_getElem? (i := 979) (by decide +kernel), by decide +kernel⟩
theorem tb_371 : (.methodLink RX6 91 yX6_allInTime : Cond) ∈ TB := List.mem_filter.mpr ⟨by decide +kernel, by decide +kernel⟩
theorem tb_372 : (.instanceMethod yX6_allInTime : Cond) ∈ TB := List.mem_filter.mpr ⟨by decide +kernel, by decide +kernel⟩
theorem tb_373 : (.selects RX6 yX6_allInTime yX6_allInTime : Cond) ∈ TB := List.mem_filter.mpr ⟨by decide +kernel, by decide +kernel⟩
theorem tb_374 : (.code yX6_allInTime cX6_allInTime 6 (some .boolean) : Cond) ∈ TB := List.mem_filter.mpr ⟨List.mem_of_getElem? (i := 983) (by decide +kernel), by decide +kernel⟩
theorem tb_375 : (.methodLink RX6 159 yX6_inventionsInAll : Cond) ∈ TB := List.mem_filter.mpr ⟨by decide +kernel, by decide +kernel⟩
theorem tb_376 : (.instanceMethod yX6_inventionsInAll : Cond) ∈ TB := List.mem_filter.mpr ⟨by decide +kernel, by decide +kernel⟩
theorem tb_377 : (.selects RX6 yX6_inventionsInAll yX6_inventionsInAll : Cond) ∈ TB := List.mem_filter.mpr ⟨by decide +kernel, by decide +kernel⟩
theorem tb_378 : (.code yX6_inventionsInAll cX6_inventionsInAll 4 (some .int) : Cond) ∈ TB := List.mem_filter.mpr ⟨List.mem_of_getElem? (i := 987) (by decide +kernel), by decide +kernel⟩
theorem tb_379 : (.methodLink RL 119 yL_road : Cond) ∈ TB := List.mem_filter.mpr ⟨by decide +kernel, by decide +kernel⟩
theorem tb_380 : (.static yL_road : Cond) ∈ TB := List.mem_filter.mpr ⟨by decide +kernel, by decide +kernel⟩
theorem tb_381 : (.codeWith yL_road cL_road 5 (some .int) [(0, 10, 13, 24)] : Cond) ∈ TB := List.mem_filter.mpr ⟨by decide +kernel, by decide +kernel⟩
theorem tb_382 : (.classLink RL 24 "java/lang/IndexOutOfBoundsException" : Cond) ∈ TB := List.mem_filter.mpr ⟨by decide +kernel, by decide +kernel⟩
theorem tb_383 : (.methodLink RL 20 yX5_road : Cond) ∈ TB := List.mem_filter.mpr ⟨by decide +kernel, by decide +kernel⟩
theorem tb_384 : (.instanceMethod yX5_road : Cond) ∈ TB := List.mem_filter.mpr ⟨by decide +kernel, by decide +kernel⟩
theorem tb_385 : (.selects RX5 yX5_road yX5_road : Cond) ∈ TB := List.mem_filter.mpr ⟨by decide +kernel, by decide +kernel⟩
theorem tb_386 : (.code yX5_road cX5_road 3 (some .int) : Cond) ∈ TB := List.mem_filter.mpr ⟨List.mem_of_getElem? (i := 496) (by decide +kernel), by decide +kernel⟩
theorem tb_387 : (.methodLink RX5 101 yX5_needTown : Cond) ∈ TB := List.mem_filter.mpr ⟨by decide +kernel, by decide +kernel⟩
theorem tb_388 : (.instanceMethod yX5_needTown : Cond) ∈ TB := List.mem_filter.mpr ⟨by decide +kernel, by decide +kernel⟩
theorem tb_389 : (.selects RX5 yX5_needTown yX5_needTown : Cond) ∈ TB := List.mem_filter.mpr ⟨by decide +kernel, by decide +kernel⟩
theorem tb_390 : (.code yX5_needTown cX5_needTown 2 none : Cond) ∈ TB := List.mem_filter.mpr ⟨List.mem_of_getElem? (i := 500) (by decide +kernel), by decide +kernel⟩
theorem tb_391 : (.classLink RX5 257 "java/lang/IndexOutOfBoundsException" : Cond) ∈ TB := List.mem_filter.mpr ⟨by decide +kernel, by decide +kernel⟩
theorem tb_392 : (.initialized "java/lang/IndexOutOfBoundsException" : Cond) ∈ TB := List.mem_filter.mpr ⟨by decide +kernel, by decide +kernel⟩
theorem tb_393 : (.methodLink RX5 254 yX1_isTown : Cond) ∈ TB := List.mem_filter.mpr ⟨by decide +kernel, by decide +kernel⟩
theorem tb_394 : (.methodLink RX5 105 yX1_roadLength : Cond) ∈ TB := List.mem_filter.mpr ⟨by decide +kernel, by decide +kernel⟩
theorem tb_395 : (.methodLink RL 122 yX6_road : Cond) ∈ TB := List.mem_filter.mpr ⟨by decide +kernel, by decide +kernel⟩
theorem tb_396 : (.instanceMethod yX6_road : Cond) ∈ TB := List.mem_filter.mpr ⟨by decide +kernel, by decide +kernel⟩
theorem tb_397 : (.selects RX6 yX6_road yX6_road : Cond) ∈ TB := List.mem_filter.mpr ⟨by decide +kernel, by decide +kernel⟩
theorem tb_398 : (.code yX6_road cX6_road 3 (some .int) : Cond) ∈ TB := List.mem_filter.mpr ⟨List.mem_of_getElem? (i := 991) (by decide +kernel), by decide +kernel⟩
theorem tb_399 : (.methodLink RX6 162 yX6_areTowns : Cond) ∈ TB := List.mem_filter.mpr ⟨by decide +kernel, by decide +kernel⟩
theorem tb_400 : (.static yX6_areTowns : Cond) ∈ TB := List.mem_filter.mpr ⟨by decide +kernel, by decide +kernel⟩
theorem tb_401 : (.code yX6_areTowns cX6_areTowns 3 (some .boolean) : Cond) ∈ TB := List.mem_filter.mpr ⟨List.mem_of_getElem? (i := 994) (by decide +kernel), by decide +kernel⟩
theorem tb_402 : (.methodLink RL 123 yL_neighbor : Cond) ∈ TB := List.mem_filter.mpr ⟨by decide +kernel, by decide +kernel⟩
theorem tb_403 : (.static yL_neighbor : Cond) ∈ TB := List.mem_filter.mpr ⟨by decide +kernel, by decide +kernel⟩
theorem tb_404 : (.codeWith yL_neighbor cL_neighbor 5 (some .int) [(0, 10, 13, 24), (0, 10, 17, 13)] : Cond) ∈ TB := List.mem_filter.mpr ⟨by decide +kernel, by decide +kernel⟩
theorem tb_405 : (.methodLink RL 26 yX5_neighbor : Cond) ∈ TB := List.mem_filter.mpr ⟨by decide +kernel, by decide +kernel⟩
theorem tb_406 : (.instanceMethod yX5_neighbor : Cond) ∈ TB := List.mem_filter.mpr ⟨by decide +kernel, by decide +kernel⟩
theorem tb_407 : (.selects RX5 yX5_neighbor yX5_neighbor : Cond) ∈ TB := List.mem_filter.mpr ⟨by decide +kernel, by decide +kernel⟩
theorem tb_408 : (.code yX5_neighbor cX5_neighbor 3 (some .int) : Cond) ∈ TB := List.mem_filter.mpr ⟨List.mem_of_getElem? (i := 525) (by decide +kernel), by decide +kernel⟩
theorem tb_409 : (.methodLink RX5 109 yX5_needCount : Cond) ∈ TB := List.mem_filter.mpr ⟨by decide +kernel, by decide +kernel⟩
theorem tb_410 : (.static yX5_needCount : Cond) ∈ TB := List.mem_filter.mpr ⟨by decide +kernel, by decide +kernel⟩
theorem tb_411 : (.code yX5_needCount cX5_needCount 1 none : Cond) ∈ TB := List.mem_filter.mpr ⟨List.mem_of_getElem? (i := 528) (by decide +kernel), by decide +kernel⟩
theorem tb_412 : (.methodLink RX5 112 yX1_townBeside : Cond) ∈ TB := List.mem_filter.mpr ⟨by decide +kernel, by decide +kernel⟩
theorem tb_413 : (.instanceMethod yX1_townBeside : Cond) ∈ TB := List.mem_filter.mpr ⟨by decide +kernel, by decide +kernel⟩
theorem tb_414 : (.selects RX1 yX1_townBeside yX1_townBeside : Cond) ∈ TB := List.mem_filter.mpr ⟨by decide +kernel, by decide +kernel⟩
theorem tb_415 : (.code yX1_townBeside cX1_townBeside 5 (some .int) : Cond) ∈ TB := List.mem_filter.mpr ⟨List.mem_of_getElem? (i := 533) (by decide +kernel), by decide +kernel⟩
theorem tb_416 : (.methodLink RL 125 yX6_neighbor : Cond) ∈ TB := List.mem_filter.mpr ⟨by decide +kernel, by decide +kernel⟩
theorem tb_417 : (.instanceMethod yX6_neighbor : Cond) ∈ TB := List.mem_filter.mpr ⟨by decide +kernel, by decide +kernel⟩
theorem tb_418 : (.selects RX6 yX6_neighbor yX6_neighbor : Cond) ∈ TB := List.mem_filter.mpr ⟨by decide +kernel, by decide +kernel⟩
theorem tb_419 : (.code yX6_neighbor cX6_neighbor 5 (some .int) : Cond) ∈ TB := List.mem_filter.mpr ⟨List.mem_of_getElem? (i := 998) (by decide +kernel), by decide +kernel⟩
theorem tb_420 : (.methodLink RL 126 yL_report : Cond) ∈ TB := List.mem_filter.mpr ⟨by decide +kernel, by decide +kernel⟩
theorem tb_421 : (.static yL_report : Cond) ∈ TB := List.mem_filter.mpr ⟨by decide +kernel, by decide +kernel⟩
theorem tb_422 : (.codeWith yL_report cL_report 6 (some .int) [(0, 12, 15, 24), (0, 12, 19, 13)] : Cond) ∈ TB := List.mem_filter.mpr ⟨by decide +kernel, by decide +kernel⟩
theorem tb_423 : (.methodLink RL 29 yX5_report : Cond) ∈ TB := List.mem_filter.mpr ⟨by decide +kernel, by decide +kernel⟩
theorem tb_424 : (.instanceMethod yX5_report : Cond) ∈ TB := List.mem_filter.mpr ⟨by decide +kernel, by decide +kernel⟩
theorem tb_425 : (.selects RX5 yX5_report yX5_report : Cond) ∈ TB := List.mem_filter.mpr ⟨by decide +kernel, by decide +kernel⟩
theorem tb_426 : (.code yX5_report cX5_report 4 (some .int) : Cond) ∈ TB := List.mem_filter.mpr ⟨List.mem_of_getElem? (i := 540) (by decide +kernel), by decide +kernel⟩
theorem tb_427 : (.methodLink RX5 115 yX5_needTrait : Cond) ∈ TB := List.mem_filter.mpr ⟨by decide +kernel, by decide +kernel⟩
theorem tb_428 : (.static yX5_needTrait : Cond) ∈ TB := List.mem_filter.mpr ⟨by decide +kernel, by decide +kernel⟩
theorem tb_429 : (.code yX5_needTrait cX5_needTrait 1 none : Cond) ∈ TB := List.mem_filter.mpr ⟨List.mem_of_getElem? (i := 543) (by decide +kernel), by decide +kernel⟩
theorem tb_430 : (.methodLink RX5 269 yX5_isTrait : Cond) ∈ TB := List.mem_filter.mpr ⟨by decide +kernel, by decide +kernel⟩
theorem tb_431 : (.methodLink RX5 118 yX1_reportedYear : Cond) ∈ TB := List.mem_filter.mpr ⟨by decide +kernel, by decide +kernel⟩
theorem tb_432 : (.methodLink RL 129 yX6_report : Cond) ∈ TB := List.mem_filter.mpr ⟨by decide +kernel, by decide +kernel⟩
theorem tb_433 : (.instanceMethod yX6_report : Cond) ∈ TB := List.mem_filter.mpr ⟨by decide +kernel, by decide +kernel⟩
theorem tb_434 : (.selects RX6 yX6_report yX6_report : Cond) ∈ TB := List.mem_filter.mpr ⟨by decide +kernel, by decide +kernel⟩
theorem tb_435 : (.code yX6_report cX6_report 4 (some .int) : Cond) ∈ TB := List.mem_filter.mpr ⟨List.mem_of_getElem? (i := 1002) (by decide +kernel), by decide +kernel⟩
theorem tb_436 : (.methodLink RX6 165 yX6_isTrait : Cond) ∈ TB := List.mem_filter.mpr ⟨by decide +kernel, by decide +kernel⟩
theorem tb_437 : (.static yX6_isTrait : Cond) ∈ TB := List.mem_filter.mpr ⟨by decide +kernel, by decide +kernel⟩
theorem tb_438 : (.code yX6_isTrait cX6_isTrait 1 (some .boolean) : Cond) ∈ TB := List.mem_filter.mpr ⟨List.mem_of_getElem? (i := 1005) (by decide +kernel), by decide +kernel⟩
theorem tb_439 : (.methodLink RL 130 yL_found : Cond) ∈ TB := List.mem_filter.mpr ⟨by decide +kernel, by decide +kernel⟩
theorem tb_440 : (.static yL_found : Cond) ∈ TB := List.mem_filter.mpr ⟨by decide +kernel, by decide +kernel⟩
theorem tb_441 : (.codeWith yL_found cL_found 3 (some .int) [(0, 8, 11, 15)] : Cond) ∈ TB := List.mem_filter.mpr ⟨by decide +kernel, by decide +kernel⟩
theorem tb_442 : (.methodLink RL 33 yX5_found : Cond) ∈ TB := List.mem_filter.mpr ⟨by decide +kernel, by decide +kernel⟩
theorem tb_443 : (.instanceMethod yX5_found : Cond) ∈ TB := List.mem_filter.mpr ⟨by decide +kernel, by decide +kernel⟩
theorem tb_444 : (.selects RX5 yX5_found yX5_found : Cond) ∈ TB := List.mem_filter.mpr ⟨by decide +kernel, by decide +kernel⟩
theorem tb_445 : (.code yX5_found cX5_found 1 (some .int) : Cond) ∈ TB := List.mem_filter.mpr ⟨List.mem_of_getElem? (i := 553) (by decide +kernel), by decide +kernel⟩
theorem tb_446 : (.methodLink RX5 124 yX2_remember : Cond) ∈ TB := List.mem_filter.mpr ⟨by decide +kernel, by decide +kernel⟩
theorem tb_447 : (.instanceMethod yX2_remember : Cond) ∈ TB := List.mem_filter.mpr ⟨by decide +kernel, by decide +kernel⟩
theorem tb_448 : (.selects RX2 yX2_remember yX2_remember : Cond) ∈ TB := List.mem_filter.mpr ⟨by decide +kernel, by decide +kernel⟩
theorem tb_449 : (.code yX2_remember cX2_remember 2 none : Cond) ∈ TB := List.mem_filter.mpr ⟨List.mem_of_getElem? (i := 558) (by decide +kernel), by decide +kernel⟩
theorem tb_450 : (.methodLink RX2 23 yX1_writeTo : Cond) ∈ TB := List.mem_filter.mpr ⟨by decide +kernel, by decide +kernel⟩
theorem tb_451 : (.instanceMethod yX1_writeTo : Cond) ∈ TB := List.mem_filter.mpr ⟨by decide +kernel, by decide +kernel⟩
theorem tb_452 : (.selects RX1 yX1_writeTo yX1_writeTo : Cond) ∈ TB := List.mem_filter.mpr ⟨by decide +kernel, by decide +kernel⟩
theorem tb_453 : (.code yX1_writeTo cX1_writeTo 2 none : Cond) ∈ TB := List.mem_filter.mpr ⟨List.mem_of_getElem? (i := 252) (by decide +kernel), by decide +kernel⟩
theorem tb_454 : (.methodLink RX1 21 arraycopyName : Cond) ∈ TB := List.mem_filter.mpr ⟨by decide +kernel, by decide +kernel⟩
theorem tb_455 : (.native arraycopyName : Cond) ∈ TB := List.mem_filter.mpr ⟨by decide +kernel, by decide +kernel⟩
theorem tb_456 : (.static arraycopyName : Cond) ∈ TB := List.mem_filter.mpr ⟨by decide +kernel, by decide +kernel⟩
theorem tb_457 : (.initialized "java/lang/System" : Cond) ∈ TB := List.mem_filter.mpr ⟨by decide +kernel, by decide +kernel⟩
theorem tb_458 : (.methodLink RX5 128 yX1_addTown : Cond) ∈ TB := List.mem_filter.mpr ⟨by decide +kernel, by decide +kernel⟩
theorem tb_459 : (.instanceMethod yX1_addTown : Cond) ∈ TB := List.mem_filter.mpr ⟨by decide +kernel, by decide +kernel⟩
theorem tb_460 : (.selects RX1 yX1_addTown yX1_addTown : Cond) ∈ TB := List.mem_filter.mpr ⟨by decide +kernel, by decide +kernel⟩
theorem tb_461 : (.code yX1_addTown cX1_addTown 2 (some .int) : Cond) ∈ TB := List.mem_filter.mpr ⟨List.mem_of_getElem? (i := 563) (by decide +kernel), by decide +kernel⟩
theorem tb_462 : (.methodLink RL 133 yX6_found : Cond) ∈ TB := List.mem_filter.mpr ⟨by decide +kernel, by decide +kernel⟩
theorem tb_463 : (.instanceMethod yX6_found : Cond) ∈ TB := List.mem_filter.mpr ⟨by decide +kernel, by decide +kernel⟩
theorem tb_464 : (.selects RX6 yX6_found yX6_found : Cond) ∈ TB := List.mem_filter.mpr ⟨by decide +kernel, by decide +kernel⟩
theorem tb_465 : (.code yX6_found cX6_found 1 (some .int) : Cond) ∈ TB := List.mem_filter.mpr ⟨List.mem_of_getElem? (i := 1009) (by decide +kernel), by decide +kernel⟩
theorem tb_466 : (.methodLink RX6 168 yX6_remember : Cond) ∈ TB := List.mem_filter.mpr ⟨by decide +kernel, by decide +kernel⟩
theorem tb_467 : (.instanceMethod yX6_remember : Cond) ∈ TB := List.mem_filter.mpr ⟨by decide +kernel, by decide +kernel⟩
theorem tb_468 : (.selects RX6 yX6_remember yX6_remember : Cond) ∈ TB := List.mem_filter.mpr ⟨by decide +kernel, by decide +kernel⟩
theorem tb_469 : (.code yX6_remember cX6_remember 2 none : Cond) ∈ TB := List.mem_filter.mpr ⟨List.mem_of_getElem? (i := 1013) (by decide +kernel), by decide +kernel⟩
theorem tb_470 : (.methodLink RL 134 yL_lay : Cond) ∈ TB := List.mem_filter.mpr ⟨by decide +kernel, by decide +kernel⟩
theorem tb_471 : (.static yL_lay : Cond) ∈ TB := List.mem_filter.mpr ⟨by decide +kernel, by decide +kernel⟩
theorem tb_472 : (.codeWith yL_lay cL_lay 6 (some .int) [(0, 12, 15, 24), (0, 12, 19, 13), (0, 12, 23, 15)] : Cond) ∈ TB := List.mem_filter.mpr ⟨by decide +kernel, by decide +kernel⟩
theorem tb_473 : (.methodLink RL 37 yX5_lay : Cond) ∈ TB := List.mem_filter.mpr ⟨by decide +kernel, by decide +kernel⟩
theorem tb_474 : (.instanceMethod yX5_lay : Cond) ∈ TB := List.mem_filter.mpr ⟨by decide +kernel, by decide +kernel⟩
theorem tb_475 : (.selects RX5 yX5_lay yX5_lay : Cond) ∈ TB := List.mem_filter.mpr ⟨by decide +kernel, by decide +kernel⟩
theorem tb_476 : (.code yX5_lay cX5_lay 4 (some .int) : Cond) ∈ TB := List.mem_filter.mpr ⟨List.mem_of_getElem? (i := 570) (by decide +kernel), by decide +kernel⟩
theorem tb_477 : (.methodLink RX5 131 yX5_needPossibleRoad : Cond) ∈ TB := List.mem_filter.mpr ⟨by decide +kernel, by decide +kernel⟩
theorem tb_478 : (.instanceMethod yX5_needPossibleRoad : Cond) ∈ TB := List.mem_filter.mpr ⟨by decide +kernel, by decide +kernel⟩
theorem tb_479 : (.selects RX5 yX5_needPossibleRoad yX5_needPossibleRoad : Cond) ∈ TB := List.mem_filter.mpr ⟨by decide +kernel, by decide +kernel⟩
theorem tb_480 : (.code yX5_needPossibleRoad cX5_needPossibleRoad 4 none : Cond) ∈ TB := List.mem_filter.mpr ⟨List.mem_of_getElem? (i := 574) (by decide +kernel), by decide +kernel⟩
theorem tb_481 : (.methodLink RX5 207 yX5_isLength : Cond) ∈ TB := List.mem_filter.mpr ⟨by decide +kernel, by decide +kernel⟩
theorem tb_482 : (.static yX5_isLength : Cond) ∈ TB := List.mem_filter.mpr ⟨by decide +kernel, by decide +kernel⟩
theorem tb_483 : (.code yX5_isLength cX5_isLength 1 (some .boolean) : Cond) ∈ TB := List.mem_filter.mpr ⟨List.mem_of_getElem? (i := 577) (by decide +kernel), by decide +kernel⟩
theorem tb_484 : (.methodLink RX5 264 yX1_canJoin : Cond) ∈ TB := List.mem_filter.mpr ⟨by decide +kernel, by decide +kernel⟩
theorem tb_485 : (.instanceMethod yX1_canJoin : Cond) ∈ TB := List.mem_filter.mpr ⟨by decide +kernel, by decide +kernel⟩
theorem tb_486 : (.selects RX1 yX1_canJoin yX1_canJoin : Cond) ∈ TB := List.mem_filter.mpr ⟨by decide +kernel, by decide +kernel⟩
theorem tb_487 : (.code yX1_canJoin cX1_canJoin 4 (some .boolean) : Cond) ∈ TB := List.mem_filter.mpr ⟨List.mem_of_getElem? (i := 582) (by decide +kernel), by decide +kernel⟩
theorem tb_488 : (.methodLink RX1 56 yX1_roadsAt : Cond) ∈ TB := List.mem_filter.mpr ⟨by decide +kernel, by decide +kernel⟩
theorem tb_489 : (.instanceMethod yX1_roadsAt : Cond) ∈ TB := List.mem_filter.mpr ⟨by decide +kernel, by decide +kernel⟩
theorem tb_490 : (.selects RX1 yX1_roadsAt yX1_roadsAt : Cond) ∈ TB := List.mem_filter.mpr ⟨by decide +kernel, by decide +kernel⟩
theorem tb_491 : (.code yX1_roadsAt cX1_roadsAt 4 (some .int) : Cond) ∈ TB := List.mem_filter.mpr ⟨List.mem_of_getElem? (i := 587) (by decide +kernel), by decide +kernel⟩
theorem tb_492 : (.methodLink RX1 60 yX1_roadCount : Cond) ∈ TB := List.mem_filter.mpr ⟨by decide +kernel, by decide +kernel⟩
theorem tb_493 : (.methodLink RX5 135 yX1_join : Cond) ∈ TB := List.mem_filter.mpr ⟨by decide +kernel, by decide +kernel⟩
theorem tb_494 : (.instanceMethod yX1_join : Cond) ∈ TB := List.mem_filter.mpr ⟨by decide +kernel, by decide +kernel⟩
theorem tb_495 : (.selects RX1 yX1_join yX1_join : Cond) ∈ TB := List.mem_filter.mpr ⟨by decide +kernel, by decide +kernel⟩
theorem tb_496 : (.code yX1_join cX1_join 4 (some .boolean) : Cond) ∈ TB := List.mem_filter.mpr ⟨List.mem_of_getElem? (i := 593) (by decide +kernel), by decide +kernel⟩
theorem tb_497 : (.methodLink RX1 64 yX1_canJoin : Cond) ∈ TB := List.mem_filter.mpr ⟨by decide +kernel, by decide +kernel⟩
theorem tb_498 : (.methodLink RX1 68 yX1_setRoad : Cond) ∈ TB := List.mem_filter.mpr ⟨by decide +kernel, by decide +kernel⟩
theorem tb_499 : (.instanceMethod yX1_setRoad : Cond) ∈ TB := List.mem_filter.mpr ⟨by decide +kernel, by decide +kernel⟩
theorem tb_500 : (.selects RX1 yX1_setRoad yX1_setRoad : Cond) ∈ TB := List.mem_filter.mpr ⟨by decide +kernel, by decide +kernel⟩
theorem tb_501 : (.code yX1_setRoad cX1_setRoad 4 none : Cond) ∈ TB := List.mem_filter.mpr ⟨List.mem_of_getElem? (i := 598) (by decide +kernel), by decide +kernel⟩
theorem tb_502 : (.methodLink RL 137 yX6_lay : Cond) ∈ TB := List.mem_filter.mpr ⟨by decide +kernel, by decide +kernel⟩
theorem tb_503 : (.instanceMethod yX6_lay : Cond) ∈ TB := List.mem_filter.mpr ⟨by decide +kernel, by decide +kernel⟩
theorem tb_504 : (.selects RX6 yX6_lay yX6_lay : Cond) ∈ TB := List.mem_filter.mpr ⟨by decide +kernel, by decide +kernel⟩
theorem tb_505 : (.code yX6_lay cX6_lay 4 (some .int) : Cond) ∈ TB := List.mem_filter.mpr ⟨List.mem_of_getElem? (i := 1017) (by decide +kernel), by decide +kernel⟩
theorem tb_506 : (.methodLink RX6 177 yX6_whyNotLay : Cond) ∈ TB := List.mem_filter.mpr ⟨by decide +kernel, by decide +kernel⟩
theorem tb_507 : (.static yX6_whyNotLay : Cond) ∈ TB := List.mem_filter.mpr ⟨by decide +kernel, by decide +kernel⟩
theorem tb_508 : (.code yX6_whyNotLay cX6_whyNotLay 5 (some .int) : Cond) ∈ TB := List.mem_filter.mpr ⟨List.mem_of_getElem? (i := 1020) (by decide +kernel), by decide +kernel⟩
theorem tb_509 : (.constantLong RX6 171 (99) : Cond) ∈ TB := List.mem_filter.mpr ⟨by decide +kernel, by decide +kernel⟩
theorem tb_510 : (.methodLink RX6 173 yX6_meet : Cond) ∈ TB := List.mem_filter.mpr ⟨by decide +kernel, by decide +kernel⟩
theorem tb_511 : (.static yX6_meet : Cond) ∈ TB := List.mem_filter.mpr ⟨by decide +kernel, by decide +kernel⟩
theorem tb_512 : (.code yX6_meet cX6_meet 4 (some .int) : Cond) ∈ TB := List.mem_filter.mpr ⟨List.mem_of_getElem? (i := 1024) (by decide +kernel), by decide +kernel⟩
theorem tb_513 : (.methodLink RX6 181 yX6_layOn : Cond) ∈ TB := List.mem_filter.mpr ⟨by decide +kernel, by decide +kernel⟩
theorem tb_514 : (.static yX6_layOn : Cond) ∈ TB := List.mem_filter.mpr ⟨by decide +kernel, by decide +kernel⟩
theorem tb_515 : (.code yX6_layOn cX6_layOn 4 (some .int) : Cond) ∈ TB := List.mem_filter.mpr ⟨List.mem_of_getElem? (i := 1027) (by decide +kernel), by decide +kernel⟩
theorem tb_516 : (.methodLink RL 138 yL_tear : Cond) ∈ TB := List.mem_filter.mpr ⟨by decide +kernel, by decide +kernel⟩
theorem tb_517 : (.static yL_tear : Cond) ∈ TB := List.mem_filter.mpr ⟨by decide +kernel, by decide +kernel⟩
theorem tb_518 : (.codeWith yL_tear cL_tear 5 (some .int) [(0, 10, 13, 24), (0, 10, 17, 15)] : Cond) ∈ TB := List.mem_filter.mpr ⟨by decide +kernel, by decide +kernel⟩
theorem tb_519 : (.methodLink RL 41 yX5_tear : Cond) ∈ TB := List.mem_filter.mpr ⟨by decide +kernel, by decide +kernel⟩
theorem tb_520 : (.instanceMethod yX5_tear : Cond) ∈ TB := List.mem_filter.mpr ⟨by decide +kernel, by decide +kernel⟩
theorem tb_521 : (.selects RX5 yX5_tear yX5_tear : Cond) ∈ TB := List.mem_filter.mpr ⟨by decide +kernel, by decide +kernel⟩
theorem tb_522 : (.code yX5_tear cX5_tear 3 (some .int) : Cond) ∈ TB := List.mem_filter.mpr ⟨List.mem_of_getElem? (i := 605) (by decide +kernel), by decide +kernel⟩
theorem tb_523 : (.methodLink RX5 141 yX1_cut : Cond) ∈ TB := List.mem_filter.mpr ⟨by decide +kernel, by decide +kernel⟩
theorem tb_524 : (.instanceMethod yX1_cut : Cond) ∈ TB := List.mem_filter.mpr ⟨by decide +kernel, by decide +kernel⟩
theorem tb_525 : (.selects RX1 yX1_cut yX1_cut : Cond) ∈ TB := List.mem_filter.mpr ⟨by decide +kernel, by decide +kernel⟩
theorem tb_526 : (.code yX1_cut cX1_cut 4 (some .int) : Cond) ∈ TB := List.mem_filter.mpr ⟨List.mem_of_getElem? (i := 610) (by decide +kernel), by decide +kernel⟩
theorem tb_527 : (.methodLink RL 140 yX6_tear : Cond) ∈ TB := List.mem_filter.mpr ⟨by decide +kernel, by decide +kernel⟩
theorem tb_528 : (.instanceMethod yX6_tear : Cond) ∈ TB := List.mem_filter.mpr ⟨by decide +kernel, by decide +kernel⟩
theorem tb_529 : (.selects RX6 yX6_tear yX6_tear : Cond) ∈ TB := List.mem_filter.mpr ⟨by decide +kernel, by decide +kernel⟩
theorem tb_530 : (.code yX6_tear cX6_tear 3 (some .int) : Cond) ∈ TB := List.mem_filter.mpr ⟨List.mem_of_getElem? (i := 1031) (by decide +kernel), by decide +kernel⟩
theorem tb_531 : (.methodLink RX6 184 yX6_tearOn : Cond) ∈ TB := List.mem_filter.mpr ⟨by decide +kernel, by decide +kernel⟩
theorem tb_532 : (.static yX6_tearOn : Cond) ∈ TB := List.mem_filter.mpr ⟨by decide +kernel, by decide +kernel⟩
theorem tb_533 : (.code yX6_tearOn cX6_tearOn 4 (some .int) : Cond) ∈ TB := List.mem_filter.mpr ⟨List.mem_of_getElem? (i := 1034) (by decide +kernel), by decide +kernel⟩
theorem tb_534 : (.methodLink RL 141 yL_see : Cond) ∈ TB := List.mem_filter.mpr ⟨by decide +kernel, by decide +kernel⟩
theorem tb_535 : (.static yL_see : Cond) ∈ TB := List.mem_filter.mpr ⟨by decide +kernel, by decide +kernel⟩
theorem tb_536 : (.codeWith yL_see cL_see 7 (some .int) [(0, 14, 17, 24), (0, 14, 21, 13)] : Cond) ∈ TB := List.mem_filter.mpr ⟨by decide +kernel, by decide +kernel⟩
theorem tb_537 : (.methodLink RL 44 yX5_see : Cond) ∈ TB := List.mem_filter.mpr ⟨by decide +kernel, by decide +kernel⟩
theorem tb_538 : (.instanceMethod yX5_see : Cond) ∈ TB := List.mem_filter.mpr ⟨by decide +kernel, by decide +kernel⟩
theorem tb_539 : (.selects RX5 yX5_see yX5_see : Cond) ∈ TB := List.mem_filter.mpr ⟨by decide +kernel, by decide +kernel⟩
theorem tb_540 : (.code yX5_see cX5_see 5 (some .int) : Cond) ∈ TB := List.mem_filter.mpr ⟨List.mem_of_getElem? (i := 617) (by decide +kernel), by decide +kernel⟩
theorem tb_541 : (.methodLink RX5 144 yX5_isYear : Cond) ∈ TB := List.mem_filter.mpr ⟨by decide +kernel, by decide +kernel⟩
theorem tb_542 : (.static yX5_isYear : Cond) ∈ TB := List.mem_filter.mpr ⟨by decide +kernel, by decide +kernel⟩
theorem tb_543 : (.code yX5_isYear cX5_isYear 1 (some .boolean) : Cond) ∈ TB := List.mem_filter.mpr ⟨List.mem_of_getElem? (i := 351) (by decide +kernel), by decide +kernel⟩
theorem tb_544 : (.methodLink RX5 150 yX1_note : Cond) ∈ TB := List.mem_filter.mpr ⟨by decide +kernel, by decide +kernel⟩
theorem tb_545 : (.instanceMethod yX1_note : Cond) ∈ TB := List.mem_filter.mpr ⟨by decide +kernel, by decide +kernel⟩
theorem tb_546 : (.selects RX1 yX1_note yX1_note : Cond) ∈ TB := List.mem_filter.mpr ⟨by decide +kernel, by decide +kernel⟩
theorem tb_547 : (.code yX1_note cX1_note 8 (some .int) : Cond) ∈ TB := List.mem_filter.mpr ⟨List.mem_of_getElem? (i := 348) (by decide +kernel), by decide +kernel⟩
theorem tb_548 : (.methodLink RL 144 yX6_see : Cond) ∈ TB := List.mem_filter.mpr ⟨by decide +kernel, by decide +kernel⟩
theorem tb_549 : (.instanceMethod yX6_see : Cond) ∈ TB := List.mem_filter.mpr ⟨by decide +kernel, by decide +kernel⟩
theorem tb_550 : (.selects RX6 yX6_see yX6_see : Cond) ∈ TB := List.mem_filter.mpr ⟨by decide +kernel, by decide +kernel⟩
theorem tb_551 : (.code yX6_see cX6_see 5 (some .int) : Cond) ∈ TB := List.mem_filter.mpr ⟨List.mem_of_getElem? (i := 1038) (by decide +kernel), by decide +kernel⟩
theorem tb_552 : (.methodLink RX6 189 yX6_isYear : Cond) ∈ TB := List.mem_filter.mpr ⟨by decide +kernel, by decide +kernel⟩
theorem tb_553 : (.static yX6_isYear : Cond) ∈ TB := List.mem_filter.mpr ⟨by decide +kernel, by decide +kernel⟩
theorem tb_554 : (.code yX6_isYear cX6_isYear 1 (some .boolean) : Cond) ∈ TB := List.mem_filter.mpr ⟨List.mem_of_getElem? (i := 1041) (by decide +kernel), by decide +kernel⟩
theorem tb_555 : (.constantLong RX6 187 (999) : Cond) ∈ TB := List.mem_filter.mpr ⟨by decide +kernel, by decide +kernel⟩
theorem tb_556 : (.methodLink RL 145 yL_seeAll : Cond) ∈ TB := List.mem_filter.mpr ⟨by decide +kernel, by decide +kernel⟩
theorem tb_557 : (.static yL_seeAll : Cond) ∈ TB := List.mem_filter.mpr ⟨by decide +kernel, by decide +kernel⟩
theorem tb_558 : (.codeWith yL_seeAll cL_seeAll 3 (some .int) [(0, 8, 11, 15)] : Cond) ∈ TB := List.mem_filter.mpr ⟨by decide +kernel, by decide +kernel⟩
theorem tb_559 : (.methodLink RL 48 yX5_seeAll : Cond) ∈ TB := List.mem_filter.mpr ⟨by decide +kernel, by decide +kernel⟩
theorem tb_560 : (.instanceMethod yX5_seeAll : Cond) ∈ TB := List.mem_filter.mpr ⟨by decide +kernel, by decide +kernel⟩
theorem tb_561 : (.selects RX5 yX5_seeAll yX5_seeAll : Cond) ∈ TB := List.mem_filter.mpr ⟨by decide +kernel, by decide +kernel⟩
theorem tb_562 : (.code yX5_seeAll cX5_seeAll 1 (some .int) : Cond) ∈ TB := List.mem_filter.mpr ⟨List.mem_of_getElem? (i := 627) (by decide +kernel), by decide +kernel⟩
theorem tb_563 : (.methodLink RX5 156 yX4_noteIn : Cond) ∈ TB := List.mem_filter.mpr ⟨by decide +kernel, by decide +kernel⟩
theorem tb_564 : (.instanceMethod yX4_noteIn : Cond) ∈ TB := List.mem_filter.mpr ⟨by decide +kernel, by decide +kernel⟩
theorem tb_565 : (.selects RX4 yX4_noteIn yX4_noteIn : Cond) ∈ TB := List.mem_filter.mpr ⟨by decide +kernel, by decide +kernel⟩
theorem tb_566 : (.code yX4_noteIn cX4_noteIn 8 (some .int) : Cond) ∈ TB := List.mem_filter.mpr ⟨List.mem_of_getElem? (i := 632) (by decide +kernel), by decide +kernel⟩
theorem tb_567 : (.methodLink RX4 31 yX1_note : Cond) ∈ TB := List.mem_filter.mpr ⟨by decide +kernel, by decide +kernel⟩
theorem tb_568 : (.methodLink RL 147 yX6_seeAll : Cond) ∈ TB := List.mem_filter.mpr ⟨by decide +kernel, by decide +kernel⟩
theorem tb_569 : (.instanceMethod yX6_seeAll : Cond) ∈ TB := List.mem_filter.mpr ⟨by decide +kernel, by decide +kernel⟩
theorem tb_570 : (.selects RX6 yX6_seeAll yX6_seeAll : Cond) ∈ TB := List.mem_filter.mpr ⟨by decide +kernel, by decide +kernel⟩
theorem tb_571 : (.code yX6_seeAll cX6_seeAll 1 (some .int) : Cond) ∈ TB := List.mem_filter.mpr ⟨List.mem_of_getElem? (i := 1046) (by decide +kernel), by decide +kernel⟩
theorem tb_572 : (.methodLink RL 148 yL_forget : Cond) ∈ TB := List.mem_filter.mpr ⟨by decide +kernel, by decide +kernel⟩
theorem tb_573 : (.static yL_forget : Cond) ∈ TB := List.mem_filter.mpr ⟨by decide +kernel, by decide +kernel⟩
theorem tb_574 : (.codeWith yL_forget cL_forget 5 (some .int) [(0, 10, 13, 24), (0, 10, 17, 13)] : Cond) ∈ TB := List.mem_filter.mpr ⟨by decide +kernel, by decide +kernel⟩
theorem tb_575 : (.methodLink RL 51 yX5_forget : Cond) ∈ TB := List.mem_filter.mpr ⟨by decide +kernel, by decide +kernel⟩
theorem tb_576 : (.instanceMethod yX5_forget : Cond) ∈ TB := List.mem_filter.mpr ⟨by decide +kernel, by decide +kernel⟩
theorem tb_577 : (.selects RX5 yX5_forget yX5_forget : Cond) ∈ TB := List.mem_filter.mpr ⟨by decide +kernel, by decide +kernel⟩
theorem tb_578 : (.code yX5_forget cX5_forget 3 (some .int) : Cond) ∈ TB := List.mem_filter.mpr ⟨List.mem_of_getElem? (i := 640) (by decide +kernel), by decide +kernel⟩
theorem tb_579 : (.methodLink RX5 159 yX1_drop : Cond) ∈ TB := List.mem_filter.mpr ⟨by decide +kernel, by decide +kernel⟩
theorem tb_580 : (.instanceMethod yX1_drop : Cond) ∈ TB := List.mem_filter.mpr ⟨by decide +kernel, by decide +kernel⟩
theorem tb_581 : (.selects RX1 yX1_drop yX1_drop : Cond) ∈ TB := List.mem_filter.mpr ⟨by decide +kernel, by decide +kernel⟩
theorem tb_582 : (.code yX1_drop cX1_drop 4 (some .int) : Cond) ∈ TB := List.mem_filter.mpr ⟨List.mem_of_getElem? (i := 343) (by decide +kernel), by decide +kernel⟩
theorem tb_583 : (.methodLink RL 150 yX6_forget : Cond) ∈ TB := List.mem_filter.mpr ⟨by decide +kernel, by decide +kernel⟩
theorem tb_584 : (.instanceMethod yX6_forget : Cond) ∈ TB := List.mem_filter.mpr ⟨by decide +kernel, by decide +kernel⟩
theorem tb_585 : (.selects RX6 yX6_forget yX6_forget : Cond) ∈ TB := List.mem_filter.mpr ⟨by decide +kernel, by decide +kernel⟩
theorem tb_586 : (.code yX6_forget cX6_forget 3 (some .int) : Cond) ∈ TB := List.mem_filter.mpr ⟨List.mem_of_getElem? (i := 1050) (by decide +kernel), by decide +kernel⟩
theorem tb_587 : (.methodLink RX6 192 yX6_forgetOn : Cond) ∈ TB := List.mem_filter.mpr ⟨by decide +kernel, by decide +kernel⟩
theorem tb_588 : (.static yX6_forgetOn : Cond) ∈ TB := List.mem_filter.mpr ⟨by decide +kernel, by decide +kernel⟩
theorem tb_589 : (.code yX6_forgetOn cX6_forgetOn 4 (some .int) : Cond) ∈ TB := List.mem_filter.mpr ⟨List.mem_of_getElem? (i := 1053) (by decide +kernel), by decide +kernel⟩
theorem tb_590 : (.methodLink RL 151 yL_undo : Cond) ∈ TB := List.mem_filter.mpr ⟨by decide +kernel, by decide +kernel⟩
theorem tb_591 : (.static yL_undo : Cond) ∈ TB := List.mem_filter.mpr ⟨by decide +kernel, by decide +kernel⟩
theorem tb_592 : (.codeWith yL_undo cL_undo 3 (some .int) [(0, 8, 11, 15)] : Cond) ∈ TB := List.mem_filter.mpr ⟨by decide +kernel, by decide +kernel⟩
theorem tb_593 : (.methodLink RL 54 yX5_undo : Cond) ∈ TB := List.mem_filter.mpr ⟨by decide +kernel, by decide +kernel⟩
theorem tb_594 : (.instanceMethod yX5_undo : Cond) ∈ TB := List.mem_filter.mpr ⟨by decide +kernel, by decide +kernel⟩
theorem tb_595 : (.selects RX5 yX5_undo yX5_undo : Cond) ∈ TB := List.mem_filter.mpr ⟨by decide +kernel, by decide +kernel⟩
theorem tb_596 : (.code yX5_undo cX5_undo 1 (some .int) : Cond) ∈ TB := List.mem_filter.mpr ⟨List.mem_of_getElem? (i := 648) (by decide +kernel), by decide +kernel⟩
theorem tb_597 : (.methodLink RX5 162 yX2_isEmpty : Cond) ∈ TB := List.mem_filter.mpr ⟨by decide +kernel, by decide +kernel⟩
theorem tb_598 : (.instanceMethod yX2_isEmpty : Cond) ∈ TB := List.mem_filter.mpr ⟨by decide +kernel, by decide +kernel⟩
theorem tb_599 : (.selects RX2 yX2_isEmpty yX2_isEmpty : Cond) ∈ TB := List.mem_filter.mpr ⟨by decide +kernel, by decide +kernel⟩
theorem tb_600 : (.code yX2_isEmpty cX2_isEmpty 1 (some .boolean) : Cond) ∈ TB := List.mem_filter.mpr ⟨List.mem_of_getElem? (i := 652) (by decide +kernel), by decide +kernel⟩
theorem tb_601 : (.methodLink RX5 167 yX2_takeBack : Cond) ∈ TB := List.mem_filter.mpr ⟨by decide +kernel, by decide +kernel⟩
theorem tb_602 : (.instanceMethod yX2_takeBack : Cond) ∈ TB := List.mem_filter.mpr ⟨by decide +kernel, by decide +kernel⟩
theorem tb_603 : (.selects RX2 yX2_takeBack yX2_takeBack : Cond) ∈ TB := List.mem_filter.mpr ⟨by decide +kernel, by decide +kernel⟩
theorem tb_604 : (.code yX2_takeBack cX2_takeBack 2 (some .int) : Cond) ∈ TB := List.mem_filter.mpr ⟨List.mem_of_getElem? (i := 657) (by decide +kernel), by decide +kernel⟩
theorem tb_605 : (.methodLink RX2 27 yX1_readFrom : Cond) ∈ TB := List.mem_filter.mpr ⟨by decide +kernel, by decide +kernel⟩
theorem tb_606 : (.instanceMethod yX1_readFrom : Cond) ∈ TB := List.mem_filter.mpr ⟨by decide +kernel, by decide +kernel⟩
theorem tb_607 : (.selects RX1 yX1_readFrom yX1_readFrom : Cond) ∈ TB := List.mem_filter.mpr ⟨by decide +kernel, by decide +kernel⟩
theorem tb_608 : (.code yX1_readFrom cX1_readFrom 2 none : Cond) ∈ TB := List.mem_filter.mpr ⟨List.mem_of_getElem? (i := 661) (by decide +kernel), by decide +kernel⟩
theorem tb_609 : (.methodLink RL 153 yX6_undo : Cond) ∈ TB := List.mem_filter.mpr ⟨by decide +kernel, by decide +kernel⟩
theorem tb_610 : (.instanceMethod yX6_undo : Cond) ∈ TB := List.mem_filter.mpr ⟨by decide +kernel, by decide +kernel⟩
theorem tb_611 : (.selects RX6 yX6_undo yX6_undo : Cond) ∈ TB := List.mem_filter.mpr ⟨by decide +kernel, by decide +kernel⟩
theorem tb_612 : (.code yX6_undo cX6_undo 1 (some .int) : Cond) ∈ TB := List.mem_filter.mpr ⟨List.mem_of_getElem? (i := 1057) (by decide +kernel), by decide +kernel⟩
theorem tb_613 : (.methodLink RL 154 yL_inventions : Cond) ∈ TB := List.mem_filter.mpr ⟨by decide +kernel, by decide +kernel⟩
theorem tb_614 : (.static yL_inventions : Cond) ∈ TB := List.mem_filter.mpr ⟨by decide +kernel, by decide +kernel⟩
theorem tb_615 : (.codeWith yL_inventions cL_inventions 4 (some .int) [(0, 9, 12, 13)] : Cond) ∈ TB := List.mem_filter.mpr ⟨by decide +kernel, by decide +kernel⟩
theorem tb_616 : (.methodLink RL 57 yX5_inventions : Cond) ∈ TB := List.mem_filter.mpr ⟨by decide +kernel, by decide +kernel⟩
theorem tb_617 : (.instanceMethod yX5_inventions : Cond) ∈ TB := List.mem_filter.mpr ⟨by decide +kernel, by decide +kernel⟩
theorem tb_618 : (.selects RX5 yX5_inventions yX5_inventions : Cond) ∈ TB := List.mem_filter.mpr ⟨by decide +kernel, by decide +kernel⟩
theorem tb_619 : (.code yX5_inventions cX5_inventions 2 (some .int) : Cond) ∈ TB := List.mem_filter.mpr ⟨List.mem_of_getElem? (i := 668) (by decide +kernel), by decide +kernel⟩
theorem tb_620 : (.methodLink RX5 170 yX0_study : Cond) ∈ TB := List.mem_filter.mpr ⟨by decide +kernel, by decide +kernel⟩
theorem tb_621 : (.methodLink RL 156 yX6_inventions : Cond) ∈ TB := List.mem_filter.mpr ⟨by decide +kernel, by decide +kernel⟩
theorem tb_622 : (.instanceMethod yX6_inventions : Cond) ∈ TB := List.mem_filter.mpr ⟨by decide +kernel, by decide +kernel⟩
theorem tb_623 : (.selects RX6 yX6_inventions yX6_inventions : Cond) ∈ TB := List.mem_filter.mpr ⟨by decide +kernel, by decide +kernel⟩
theorem tb_624 : (.code yX6_inventions cX6_inventions 2 (some .int) : Cond) ∈ TB := List.mem_filter.mpr ⟨List.mem_of_getElem? (i := 1061) (by decide +kernel), by decide +kernel⟩
theorem tb_625 : (.methodLink RL 157 yL_invented : Cond) ∈ TB := List.mem_filter.mpr ⟨by decide +kernel, by decide +kernel⟩
theorem tb_626 : (.static yL_invented : Cond) ∈ TB := List.mem_filter.mpr ⟨by decide +kernel, by decide +kernel⟩
theorem tb_627 : (.codeWith yL_invented cL_invented 5 (some .int) [(0, 10, 13, 13)] : Cond) ∈ TB := List.mem_filter.mpr ⟨by decide +kernel, by decide +kernel⟩
theorem tb_628 : (.methodLink RL 60 yX5_invented : Cond) ∈ TB := List.mem_filter.mpr ⟨by decide +kernel, by decide +kernel⟩
theorem tb_629 : (.instanceMethod yX5_invented : Cond) ∈ TB := List.mem_filter.mpr ⟨by decide +kernel, by decide +kernel⟩
theorem tb_630 : (.selects RX5 yX5_invented yX5_invented : Cond) ∈ TB := List.mem_filter.mpr ⟨by decide +kernel, by decide +kernel⟩
theorem tb_631 : (.code yX5_invented cX5_invented 3 (some .int) : Cond) ∈ TB := List.mem_filter.mpr ⟨List.mem_of_getElem? (i := 676) (by decide +kernel), by decide +kernel⟩
theorem tb_632 : (.methodLink RL 159 yX6_invented : Cond) ∈ TB := List.mem_filter.mpr ⟨by decide +kernel, by decide +kernel⟩
theorem tb_633 : (.instanceMethod yX6_invented : Cond) ∈ TB := List.mem_filter.mpr ⟨by decide +kernel, by decide +kernel⟩
theorem tb_634 : (.selects RX6 yX6_invented yX6_invented : Cond) ∈ TB := List.mem_filter.mpr ⟨by decide +kernel, by decide +kernel⟩
theorem tb_635 : (.code yX6_invented cX6_invented 3 (some .int) : Cond) ∈ TB := List.mem_filter.mpr ⟨List.mem_of_getElem? (i := 1065) (by decide +kernel), by decide +kernel⟩
theorem tb_636 : (.constantLong RX6 195 (2) : Cond) ∈ TB := List.mem_filter.mpr ⟨by decide +kernel, by decide +kernel⟩
theorem tb_637 : (.methodLink RL 160 yL_choices : Cond) ∈ TB := List.mem_filter.mpr ⟨by decide +kernel, by decide +kernel⟩
theorem tb_638 : (.static yL_choices : Cond) ∈ TB := List.mem_filter.mpr ⟨by decide +kernel, by decide +kernel⟩
theorem tb_639 : (.codeWith yL_choices cL_choices 4 (some .int) [(0, 9, 12, 13)] : Cond) ∈ TB := List.mem_filter.mpr ⟨by decide +kernel, by decide +kernel⟩
theorem tb_640 : (.methodLink RL 63 yX5_choices : Cond) ∈ TB := List.mem_filter.mpr ⟨by decide +kernel, by decide +kernel⟩
theorem tb_641 : (.instanceMethod yX5_choices : Cond) ∈ TB := List.mem_filter.mpr ⟨by decide +kernel, by decide +kernel⟩
theorem tb_642 : (.selects RX5 yX5_choices yX5_choices : Cond) ∈ TB := List.mem_filter.mpr ⟨by decide +kernel, by decide +kernel⟩
theorem tb_643 : (.code yX5_choices cX5_choices 2 (some .int) : Cond) ∈ TB := List.mem_filter.mpr ⟨List.mem_of_getElem? (i := 684) (by decide +kernel), by decide +kernel⟩
theorem tb_644 : (.methodLink RL 162 yX6_choices : Cond) ∈ TB := List.mem_filter.mpr ⟨by decide +kernel, by decide +kernel⟩
theorem tb_645 : (.instanceMethod yX6_choices : Cond) ∈ TB := List.mem_filter.mpr ⟨by decide +kernel, by decide +kernel⟩
theorem tb_646 : (.selects RX6 yX6_choices yX6_choices : Cond) ∈ TB := List.mem_filter.mpr ⟨by decide +kernel, by decide +kernel⟩
theorem tb_647 : (.code yX6_choices cX6_choices 2 (some .int) : Cond) ∈ TB := List.mem_filter.mpr ⟨List.mem_of_getElem? (i := 1070) (by decide +kernel), by decide +kernel⟩
theorem tb_648 : (.methodLink RL 163 yL_since : Cond) ∈ TB := List.mem_filter.mpr ⟨by decide +kernel, by decide +kernel⟩
theorem tb_649 : (.static yL_since : Cond) ∈ TB := List.mem_filter.mpr ⟨by decide +kernel, by decide +kernel⟩
theorem tb_650 : (.codeWith yL_since cL_since 5 (some .int) [(0, 10, 13, 24), (0, 10, 17, 13)] : Cond) ∈ TB := List.mem_filter.mpr ⟨by decide +kernel, by decide +kernel⟩
theorem tb_651 : (.methodLink RL 66 yX5_since : Cond) ∈ TB := List.mem_filter.mpr ⟨by decide +kernel, by decide +kernel⟩
theorem tb_652 : (.instanceMethod yX5_since : Cond) ∈ TB := List.mem_filter.mpr ⟨by decide +kernel, by decide +kernel⟩
theorem tb_653 : (.selects RX5 yX5_since yX5_since : Cond) ∈ TB := List.mem_filter.mpr ⟨by decide +kernel, by decide +kernel⟩
theorem tb_654 : (.code yX5_since cX5_since 3 (some .int) : Cond) ∈ TB := List.mem_filter.mpr ⟨List.mem_of_getElem? (i := 691) (by decide +kernel), by decide +kernel⟩
theorem tb_655 : (.methodLink RX5 189 yX0_sinceWhen : Cond) ∈ TB := List.mem_filter.mpr ⟨by decide +kernel, by decide +kernel⟩
theorem tb_656 : (.instanceMethod yX0_sinceWhen : Cond) ∈ TB := List.mem_filter.mpr ⟨by decide +kernel, by decide +kernel⟩
theorem tb_657 : (.selects RX0 yX0_sinceWhen yX0_sinceWhen : Cond) ∈ TB := List.mem_filter.mpr ⟨by decide +kernel, by decide +kernel⟩
theorem tb_658 : (.code yX0_sinceWhen cX0_sinceWhen 4 (some .int) : Cond) ∈ TB := List.mem_filter.mpr ⟨List.mem_of_getElem? (i := 695) (by decide +kernel), by decide +kernel⟩
theorem tb_659 : (.methodLink RL 165 yX6_since : Cond) ∈ TB := List.mem_filter.mpr ⟨by decide +kernel, by decide +kernel⟩
theorem tb_660 : (.instanceMethod yX6_since : Cond) ∈ TB := List.mem_filter.mpr ⟨by decide +kernel, by decide +kernel⟩
theorem tb_661 : (.selects RX6 yX6_since yX6_since : Cond) ∈ TB := List.mem_filter.mpr ⟨by decide +kernel, by decide +kernel⟩
theorem tb_662 : (.code yX6_since cX6_since 3 (some .int) : Cond) ∈ TB := List.mem_filter.mpr ⟨List.mem_of_getElem? (i := 1074) (by decide +kernel), by decide +kernel⟩
theorem tb_663 : (.methodLink RX6 197 yX6_sinceOn : Cond) ∈ TB := List.mem_filter.mpr ⟨by decide +kernel, by decide +kernel⟩
theorem tb_664 : (.instanceMethod yX6_sinceOn : Cond) ∈ TB := List.mem_filter.mpr ⟨by decide +kernel, by decide +kernel⟩
theorem tb_665 : (.selects RX6 yX6_sinceOn yX6_sinceOn : Cond) ∈ TB := List.mem_filter.mpr ⟨by decide +kernel, by decide +kernel⟩
theorem tb_666 : (.code yX6_sinceOn cX6_sinceOn 4 (some .int) : Cond) ∈ TB := List.mem_filter.mpr ⟨List.mem_of_getElem? (i := 1078) (by decide +kernel), by decide +kernel⟩
theorem tb_667 : (.methodLink RX6 98 yX6_layYears : Cond) ∈ TB := List.mem_filter.mpr ⟨by decide +kernel, by decide +kernel⟩
theorem tb_668 : (.instanceMethod yX6_layYears : Cond) ∈ TB := List.mem_filter.mpr ⟨by decide +kernel, by decide +kernel⟩
theorem tb_669 : (.selects RX6 yX6_layYears yX6_layYears : Cond) ∈ TB := List.mem_filter.mpr ⟨by decide +kernel, by decide +kernel⟩
theorem tb_670 : (.code yX6_layYears cX6_layYears 3 none : Cond) ∈ TB := List.mem_filter.mpr ⟨List.mem_of_getElem? (i := 1082) (by decide +kernel), by decide +kernel⟩
theorem tb_671 : (.methodLink RL 166 yL_reached : Cond) ∈ TB := List.mem_filter.mpr ⟨by decide +kernel, by decide +kernel⟩
theorem tb_672 : (.static yL_reached : Cond) ∈ TB := List.mem_filter.mpr ⟨by decide +kernel, by decide +kernel⟩
theorem tb_673 : (.codeWith yL_reached cL_reached 5 (some .int) [(0, 10, 13, 13)] : Cond) ∈ TB := List.mem_filter.mpr ⟨by decide +kernel, by decide +kernel⟩
theorem tb_674 : (.methodLink RL 69 yX5_reached : Cond) ∈ TB := List.mem_filter.mpr ⟨by decide +kernel, by decide +kernel⟩
theorem tb_675 : (.instanceMethod yX5_reached : Cond) ∈ TB := List.mem_filter.mpr ⟨by decide +kernel, by decide +kernel⟩
theorem tb_676 : (.selects RX5 yX5_reached yX5_reached : Cond) ∈ TB := List.mem_filter.mpr ⟨by decide +kernel, by decide +kernel⟩
theorem tb_677 : (.code yX5_reached cX5_reached 3 (some .int) : Cond) ∈ TB := List.mem_filter.mpr ⟨List.mem_of_getElem? (i := 702) (by decide +kernel), by decide +kernel⟩
theorem tb_678 : (.methodLink RX5 193 yX0_townInOrder : Cond) ∈ TB := List.mem_filter.mpr ⟨by decide +kernel, by decide +kernel⟩
theorem tb_679 : (.instanceMethod yX0_townInOrder : Cond) ∈ TB := List.mem_filter.mpr ⟨by decide +kernel, by decide +kernel⟩
theorem tb_680 : (.selects RX0 yX0_townInOrder yX0_townInOrder : Cond) ∈ TB := List.mem_filter.mpr ⟨by decide +kernel, by decide +kernel⟩
theorem tb_681 : (.code yX0_townInOrder cX0_townInOrder 5 (some .int) : Cond) ∈ TB := List.mem_filter.mpr ⟨List.mem_of_getElem? (i := 706) (by decide +kernel), by decide +kernel⟩
theorem tb_682 : (.methodLink RX0 124 yX0_townsBefore : Cond) ∈ TB := List.mem_filter.mpr ⟨by decide +kernel, by decide +kernel⟩
theorem tb_683 : (.instanceMethod yX0_townsBefore : Cond) ∈ TB := List.mem_filter.mpr ⟨by decide +kernel, by decide +kernel⟩
theorem tb_684 : (.selects RX0 yX0_townsBefore yX0_townsBefore : Cond) ∈ TB := List.mem_filter.mpr ⟨by decide +kernel, by decide +kernel⟩
theorem tb_685 : (.code yX0_townsBefore cX0_townsBefore 4 (some .int) : Cond) ∈ TB := List.mem_filter.mpr ⟨List.mem_of_getElem? (i := 710) (by decide +kernel), by decide +kernel⟩
theorem tb_686 : (.methodLink RL 168 yX6_reached : Cond) ∈ TB := List.mem_filter.mpr ⟨by decide +kernel, by decide +kernel⟩
theorem tb_687 : (.instanceMethod yX6_reached : Cond) ∈ TB := List.mem_filter.mpr ⟨by decide +kernel, by decide +kernel⟩
theorem tb_688 : (.selects RX6 yX6_reached yX6_reached : Cond) ∈ TB := List.mem_filter.mpr ⟨by decide +kernel, by decide +kernel⟩
theorem tb_689 : (.code yX6_reached cX6_reached 6 (some .int) : Cond) ∈ TB := List.mem_filter.mpr ⟨List.mem_of_getElem? (i := 1086) (by decide +kernel), by decide +kernel⟩
theorem tb_690 : (.methodLink RL 169 yL_passed : Cond) ∈ TB := List.mem_filter.mpr ⟨by decide +kernel, by decide +kernel⟩
theorem tb_691 : (.static yL_passed : Cond) ∈ TB := List.mem_filter.mpr ⟨by decide +kernel, by decide +kernel⟩
theorem tb_692 : (.codeWith yL_passed cL_passed 6 (some .int) [(0, 12, 15, 24), (0, 12, 19, 13)] : Cond) ∈ TB := List.mem_filter.mpr ⟨by decide +kernel, by decide +kernel⟩
theorem tb_693 : (.methodLink RL 72 yX5_passed : Cond) ∈ TB := List.mem_filter.mpr ⟨by decide +kernel, by decide +kernel⟩
theorem tb_694 : (.instanceMethod yX5_passed : Cond) ∈ TB := List.mem_filter.mpr ⟨by decide +kernel, by decide +kernel⟩
theorem tb_695 : (.selects RX5 yX5_passed yX5_passed : Cond) ∈ TB := List.mem_filter.mpr ⟨by decide +kernel, by decide +kernel⟩
theorem tb_696 : (.code yX5_passed cX5_passed 4 (some .int) : Cond) ∈ TB := List.mem_filter.mpr ⟨List.mem_of_getElem? (i := 717) (by decide +kernel), by decide +kernel⟩
theorem tb_697 : (.methodLink RX5 196 yX0_canHavePassed : Cond) ∈ TB := List.mem_filter.mpr ⟨by decide +kernel, by decide +kernel⟩
theorem tb_698 : (.instanceMethod yX0_canHavePassed : Cond) ∈ TB := List.mem_filter.mpr ⟨by decide +kernel, by decide +kernel⟩
theorem tb_699 : (.selects RX0 yX0_canHavePassed yX0_canHavePassed : Cond) ∈ TB := List.mem_filter.mpr ⟨by decide +kernel, by decide +kernel⟩
theorem tb_700 : (.code yX0_canHavePassed cX0_canHavePassed 9 (some .boolean) : Cond) ∈ TB := List.mem_filter.mpr ⟨List.mem_of_getElem? (i := 721) (by decide +kernel), by decide +kernel⟩
theorem tb_701 : (.methodLink RX0 127 yX0_explainsByRoad : Cond) ∈ TB := List.mem_filter.mpr ⟨by decide +kernel, by decide +kernel⟩
theorem tb_702 : (.instanceMethod yX0_explainsByRoad : Cond) ∈ TB := List.mem_filter.mpr ⟨by decide +kernel, by decide +kernel⟩
theorem tb_703 : (.selects RX0 yX0_explainsByRoad yX0_explainsByRoad : Cond) ∈ TB := List.mem_filter.mpr ⟨by decide +kernel, by decide +kernel⟩
theorem tb_704 : (.code yX0_explainsByRoad cX0_explainsByRoad 7 (some .boolean) : Cond) ∈ TB := List.mem_filter.mpr ⟨List.mem_of_getElem? (i := 725) (by decide +kernel), by decide +kernel⟩
theorem tb_705 : (.methodLink RL 171 yX6_passed : Cond) ∈ TB := List.mem_filter.mpr ⟨by decide +kernel, by decide +kernel⟩
theorem tb_706 : (.instanceMethod yX6_passed : Cond) ∈ TB := List.mem_filter.mpr ⟨by decide +kernel, by decide +kernel⟩
theorem tb_707 : (.selects RX6 yX6_passed yX6_passed : Cond) ∈ TB := List.mem_filter.mpr ⟨by decide +kernel, by decide +kernel⟩
theorem tb_708 : (.code yX6_passed cX6_passed 5 (some .int) : Cond) ∈ TB := List.mem_filter.mpr ⟨List.mem_of_getElem? (i := 1090) (by decide +kernel), by decide +kernel⟩
theorem tb_709 : (.methodLink RX6 200 yX6_comes : Cond) ∈ TB := List.mem_filter.mpr ⟨by decide +kernel, by decide +kernel⟩
theorem tb_710 : (.instanceMethod yX6_comes : Cond) ∈ TB := List.mem_filter.mpr ⟨by decide +kernel, by decide +kernel⟩
theorem tb_711 : (.selects RX6 yX6_comes yX6_comes : Cond) ∈ TB := List.mem_filter.mpr ⟨by decide +kernel, by decide +kernel⟩
theorem tb_712 : (.code yX6_comes cX6_comes 6 (some .boolean) : Cond) ∈ TB := List.mem_filter.mpr ⟨List.mem_of_getElem? (i := 1094) (by decide +kernel), by decide +kernel⟩
theorem tb_713 : (.methodLink RL 172 yL_ifLaid : Cond) ∈ TB := List.mem_filter.mpr ⟨by decide +kernel, by decide +kernel⟩
theorem tb_714 : (.static yL_ifLaid : Cond) ∈ TB := List.mem_filter.mpr ⟨by decide +kernel, by decide +kernel⟩
theorem tb_715 : (.codeWith yL_ifLaid cL_ifLaid 6 (some .int) [(0, 12, 15, 24), (0, 12, 19, 13), (0, 12, 23, 15)] : Cond) ∈ TB := List.mem_filter.mpr ⟨by decide +kernel, by decide +kernel⟩
theorem tb_716 : (.methodLink RL 75 yX5_ifLaid : Cond) ∈ TB := List.mem_filter.mpr ⟨by decide +kernel, by decide +kernel⟩
theorem tb_717 : (.instanceMethod yX5_ifLaid : Cond) ∈ TB := List.mem_filter.mpr ⟨by decide +kernel, by decide +kernel⟩
theorem tb_718 : (.selects RX5 yX5_ifLaid yX5_ifLaid : Cond) ∈ TB := List.mem_filter.mpr ⟨by decide +kernel, by decide +kernel⟩
theorem tb_719 : (.code yX5_ifLaid cX5_ifLaid 4 (some .int) : Cond) ∈ TB := List.mem_filter.mpr ⟨List.mem_of_getElem? (i := 732) (by decide +kernel), by decide +kernel⟩
theorem tb_720 : (.methodLink RX5 200 yX3_begin : Cond) ∈ TB := List.mem_filter.mpr ⟨by decide +kernel, by decide +kernel⟩
theorem tb_721 : (.instanceMethod yX3_begin : Cond) ∈ TB := List.mem_filter.mpr ⟨by decide +kernel, by decide +kernel⟩
theorem tb_722 : (.selects RX3 yX3_begin yX3_begin : Cond) ∈ TB := List.mem_filter.mpr ⟨by decide +kernel, by decide +kernel⟩
theorem tb_723 : (.code yX3_begin cX3_begin 2 none : Cond) ∈ TB := List.mem_filter.mpr ⟨List.mem_of_getElem? (i := 244) (by decide +kernel), by decide +kernel⟩
theorem tb_724 : (.methodLink RX3 25 yX1_takeOver : Cond) ∈ TB := List.mem_filter.mpr ⟨by decide +kernel, by decide +kernel⟩
theorem tb_725 : (.instanceMethod yX1_takeOver : Cond) ∈ TB := List.mem_filter.mpr ⟨by decide +kernel, by decide +kernel⟩
theorem tb_726 : (.selects RX1 yX1_takeOver yX1_takeOver : Cond) ∈ TB := List.mem_filter.mpr ⟨by decide +kernel, by decide +kernel⟩
theorem tb_727 : (.code yX1_takeOver cX1_takeOver 2 none : Cond) ∈ TB := List.mem_filter.mpr ⟨List.mem_of_getElem? (i := 248) (by decide +kernel), by decide +kernel⟩
theorem tb_728 : (.methodLink RX1 27 yX1_writeTo : Cond) ∈ TB := List.mem_filter.mpr ⟨by decide +kernel, by decide +kernel⟩
theorem tb_729 : (.methodLink RX5 203 yX3_inventionsWithRoad : Cond) ∈ TB := List.mem_filter.mpr ⟨by decide +kernel, by decide +kernel⟩
theorem tb_730 : (.instanceMethod yX3_inventionsWithRoad : Cond) ∈ TB := List.mem_filter.mpr ⟨by decide +kernel, by decide +kernel⟩
theorem tb_731 : (.selects RX3 yX3_inventionsWithRoad yX3_inventionsWithRoad : Cond) ∈ TB := List.mem_filter.mpr ⟨by decide +kernel, by decide +kernel⟩
theorem tb_732 : (.code yX3_inventionsWithRoad cX3_inventionsWithRoad 4 (some .int) : Cond) ∈ TB := List.mem_filter.mpr ⟨List.mem_of_getElem? (i := 736) (by decide +kernel), by decide +kernel⟩
theorem tb_733 : (.methodLink RX3 29 yX1_join : Cond) ∈ TB := List.mem_filter.mpr ⟨by decide +kernel, by decide +kernel⟩
theorem tb_734 : (.methodLink RX3 33 yX0_allInventions : Cond) ∈ TB := List.mem_filter.mpr ⟨by decide +kernel, by decide +kernel⟩
theorem tb_735 : (.methodLink RL 174 yX6_ifLaid : Cond) ∈ TB := List.mem_filter.mpr ⟨by decide +kernel, by decide +kernel⟩
theorem tb_736 : (.instanceMethod yX6_ifLaid : Cond) ∈ TB := List.mem_filter.mpr ⟨by decide +kernel, by decide +kernel⟩
theorem tb_737 : (.selects RX6 yX6_ifLaid yX6_ifLaid : Cond) ∈ TB := List.mem_filter.mpr ⟨by decide +kernel, by decide +kernel⟩
theorem tb_738 : (.code yX6_ifLaid cX6_ifLaid 4 (some .int) : Cond) ∈ TB := List.mem_filter.mpr ⟨List.mem_of_getElem? (i := 1098) (by decide +kernel), by decide +kernel⟩
theorem tb_739 : (.methodLink RX6 204 yX6_ifLaidOn : Cond) ∈ TB := List.mem_filter.mpr ⟨by decide +kernel, by decide +kernel⟩
theorem tb_740 : (.instanceMethod yX6_ifLaidOn : Cond) ∈ TB := List.mem_filter.mpr ⟨by decide +kernel, by decide +kernel⟩
theorem tb_741 : (.selects RX6 yX6_ifLaidOn yX6_ifLaidOn : Cond) ∈ TB := List.mem_filter.mpr ⟨by decide +kernel, by decide +kernel⟩
theorem tb_742 : (.code yX6_ifLaidOn cX6_ifLaidOn 4 (some .int) : Cond) ∈ TB := List.mem_filter.mpr ⟨List.mem_of_getElem? (i := 1102) (by decide +kernel), by decide +kernel⟩
theorem tb_743 : (.methodLink RL 175 yL_bestRoad : Cond) ∈ TB := List.mem_filter.mpr ⟨by decide +kernel, by decide +kernel⟩
theorem tb_744 : (.static yL_bestRoad : Cond) ∈ TB := List.mem_filter.mpr ⟨by decide +kernel, by decide +kernel⟩
theorem tb_745 : (.codeWith yL_bestRoad cL_bestRoad 4 (some .int) [(0, 9, 12, 13)] : Cond) ∈ TB := List.mem_filter.mpr ⟨by decide +kernel, by decide +kernel⟩
theorem tb_746 : (.methodLink RL 78 yX5_bestRoad : Cond) ∈ TB := List.mem_filter.mpr ⟨by decide +kernel, by decide +kernel⟩
theorem tb_747 : (.instanceMethod yX5_bestRoad : Cond) ∈ TB := List.mem_filter.mpr ⟨by decide +kernel, by decide +kernel⟩
theorem tb_748 : (.selects RX5 yX5_bestRoad yX5_bestRoad : Cond) ∈ TB := List.mem_filter.mpr ⟨by decide +kernel, by decide +kernel⟩
theorem tb_749 : (.code yX5_bestRoad cX5_bestRoad 2 (some .int) : Cond) ∈ TB := List.mem_filter.mpr ⟨List.mem_of_getElem? (i := 745) (by decide +kernel), by decide +kernel⟩
theorem tb_750 : (.methodLink RX5 212 yX3_newRoad : Cond) ∈ TB := List.mem_filter.mpr ⟨by decide +kernel, by decide +kernel⟩
theorem tb_751 : (.instanceMethod yX3_newRoad : Cond) ∈ TB := List.mem_filter.mpr ⟨by decide +kernel, by decide +kernel⟩
theorem tb_752 : (.selects RX3 yX3_newRoad yX3_newRoad : Cond) ∈ TB := List.mem_filter.mpr ⟨by decide +kernel, by decide +kernel⟩
theorem tb_753 : (.code yX3_newRoad cX3_newRoad 7 (some .int) : Cond) ∈ TB := List.mem_filter.mpr ⟨List.mem_of_getElem? (i := 750) (by decide +kernel), by decide +kernel⟩
theorem tb_754 : (.methodLink RX3 37 yX1_townCount : Cond) ∈ TB := List.mem_filter.mpr ⟨by decide +kernel, by decide +kernel⟩
theorem tb_755 : (.methodLink RX3 41 yX1_roadLength : Cond) ∈ TB := List.mem_filter.mpr ⟨by decide +kernel, by decide +kernel⟩
theorem tb_756 : (.methodLink RX3 45 yX1_cut : Cond) ∈ TB := List.mem_filter.mpr ⟨by decide +kernel, by decide +kernel⟩
theorem tb_757 : (.methodLink RL 177 yX6_bestRoad : Cond) ∈ TB := List.mem_filter.mpr ⟨by decide +kernel, by decide +kernel⟩
theorem tb_758 : (.instanceMethod yX6_bestRoad : Cond) ∈ TB := List.mem_filter.mpr ⟨by decide +kernel, by decide +kernel⟩
theorem tb_759 : (.selects RX6 yX6_bestRoad yX6_bestRoad : Cond) ∈ TB := List.mem_filter.mpr ⟨by decide +kernel, by decide +kernel⟩
theorem tb_760 : (.code yX6_bestRoad cX6_bestRoad 8 (some .int) : Cond) ∈ TB := List.mem_filter.mpr ⟨List.mem_of_getElem? (i := 1106) (by decide +kernel), by decide +kernel⟩
theorem tb_761 : (.methodLink RL 178 yX5_dearest : Cond) ∈ TB := List.mem_filter.mpr ⟨by decide +kernel, by decide +kernel⟩
theorem tb_762 : (.instanceMethod yX5_dearest : Cond) ∈ TB := List.mem_filter.mpr ⟨by decide +kernel, by decide +kernel⟩
theorem tb_763 : (.selects RX5 yX5_dearest yX5_dearest : Cond) ∈ TB := List.mem_filter.mpr ⟨by decide +kernel, by decide +kernel⟩
theorem tb_764 : (.code yX5_dearest cX5_dearest 1 (some .int) : Cond) ∈ TB := List.mem_filter.mpr ⟨List.mem_of_getElem? (i := 240) (by decide +kernel), by decide +kernel⟩
theorem tb_765 : (.methodLink RX5 215 yX3_costliestReport : Cond) ∈ TB := List.mem_filter.mpr ⟨by decide +kernel, by decide +kernel⟩
theorem tb_766 : (.instanceMethod yX3_costliestReport : Cond) ∈ TB := List.mem_filter.mpr ⟨by decide +kernel, by decide +kernel⟩
theorem tb_767 : (.selects RX3 yX3_costliestReport yX3_costliestReport : Cond) ∈ TB := List.mem_filter.mpr ⟨by decide +kernel, by decide +kernel⟩
theorem tb_768 : (.code yX3_costliestReport cX3_costliestReport 6 (some .int) : Cond) ∈ TB := List.mem_filter.mpr ⟨List.mem_of_getElem? (i := 259) (by decide +kernel), by decide +kernel⟩
theorem tb_769 : (.methodLink RX3 48 yX1_isReported : Cond) ∈ TB := List.mem_filter.mpr ⟨by decide +kernel, by decide +kernel⟩
theorem tb_770 : (.methodLink RX3 52 yX3_costOfReport : Cond) ∈ TB := List.mem_filter.mpr ⟨by decide +kernel, by decide +kernel⟩
theorem tb_771 : (.instanceMethod yX3_costOfReport : Cond) ∈ TB := List.mem_filter.mpr ⟨by decide +kernel, by decide +kernel⟩
theorem tb_772 : (.selects RX3 yX3_costOfReport yX3_costOfReport : Cond) ∈ TB := List.mem_filter.mpr ⟨by decide +kernel, by decide +kernel⟩
theorem tb_773 : (.code yX3_costOfReport cX3_costOfReport 7 (some .int) : Cond) ∈ TB := List.mem_filter.mpr ⟨List.mem_of_getElem? (i := 280) (by decide +kernel), by decide +kernel⟩
theorem tb_774 : (.methodLink RX3 63 Lib.Math.max.name : Cond) ∈ TB := List.mem_filter.mpr ⟨by decide +kernel, by decide +kernel⟩
theorem tb_775 : (.methodLink RX3 55 yX1_reportedYear : Cond) ∈ TB := List.mem_filter.mpr ⟨by decide +kernel, by decide +kernel⟩
theorem tb_776 : (.methodLink RX3 59 yX0_study : Cond) ∈ TB := List.mem_filter.mpr ⟨by decide +kernel, by decide +kernel⟩
theorem tb_777 : (.methodLink RX3 68 yX1_drop : Cond) ∈ TB := List.mem_filter.mpr ⟨by decide +kernel, by decide +kernel⟩
theorem tb_778 : (.methodLink RX3 71 yX1_note : Cond) ∈ TB := List.mem_filter.mpr ⟨by decide +kernel, by decide +kernel⟩
theorem tb_779 : (.methodLink RL 181 yX6_dearest : Cond) ∈ TB := List.mem_filter.mpr ⟨by decide +kernel, by decide +kernel⟩
theorem tb_780 : (.instanceMethod yX6_dearest : Cond) ∈ TB := List.mem_filter.mpr ⟨by decide +kernel, by decide +kernel⟩
theorem tb_781 : (.selects RX6 yX6_dearest yX6_dearest : Cond) ∈ TB := List.mem_filter.mpr ⟨by decide +kernel, by decide +kernel⟩
theorem tb_782 : (.code yX6_dearest cX6_dearest 6 (some .int) : Cond) ∈ TB := List.mem_filter.mpr ⟨List.mem_of_getElem? (i := 1110) (by decide +kernel), by decide +kernel⟩
theorem tb_783 : (.methodLink RL 184 yL_runScript : Cond) ∈ TB := List.mem_filter.mpr ⟨by decide +kernel, by decide +kernel⟩
theorem tb_784 : (.static yL_runScript : Cond) ∈ TB := List.mem_filter.mpr ⟨by decide +kernel, by decide +kernel⟩
theorem tb_785 : (.codeWith yL_runScript cL_runScript 6 (some .int) [(0, 11, 14, 13)] : Cond) ∈ TB := List.mem_filter.mpr ⟨by decide +kernel, by decide +kernel⟩
theorem tb_786 : (.methodLink RL 81 yX5_runScript : Cond) ∈ TB := List.mem_filter.mpr ⟨by decide +kernel, by decide +kernel⟩
theorem tb_787 : (.instanceMethod yX5_runScript : Cond) ∈ TB := List.mem_filter.mpr ⟨by decide +kernel, by decide +kernel⟩
theorem tb_788 : (.selects RX5 yX5_runScript yX5_runScript : Cond) ∈ TB := List.mem_filter.mpr ⟨by decide +kernel, by decide +kernel⟩
theorem tb_789 : (.code yX5_runScript cX5_runScript 7 (some .int) : Cond) ∈ TB := List.mem_filter.mpr ⟨List.mem_of_getElem? (i := 759) (by decide +kernel), by decide +kernel⟩
theorem tb_790 : (.constantLong RX5 220 (1000000) : Cond) ∈ TB := List.mem_filter.mpr ⟨by decide +kernel, by decide +kernel⟩
theorem tb_791 : (.methodLink RX5 224 yX3_obeys : Cond) ∈ TB := List.mem_filter.mpr ⟨by decide +kernel, by decide +kernel⟩
theorem tb_792 : (.instanceMethod yX3_obeys : Cond) ∈ TB := List.mem_filter.mpr ⟨by decide +kernel, by decide +kernel⟩
theorem tb_793 : (.selects RX3 yX3_obeys yX3_obeys : Cond) ∈ TB := List.mem_filter.mpr ⟨by decide +kernel, by decide +kernel⟩
theorem tb_794 : (.code yX3_obeys cX3_obeys 5 (some .boolean) : Cond) ∈ TB := List.mem_filter.mpr ⟨List.mem_of_getElem? (i := 766) (by decide +kernel), by decide +kernel⟩
theorem tb_795 : (.constant RX3 75 (100000) : Cond) ∈ TB := List.mem_filter.mpr ⟨by decide +kernel, by decide +kernel⟩
theorem tb_796 : (.methodLink RX3 76 yX1_addTown : Cond) ∈ TB := List.mem_filter.mpr ⟨by decide +kernel, by decide +kernel⟩
theorem tb_797 : (.methodLink RX3 83 yX3_isUpTo : Cond) ∈ TB := List.mem_filter.mpr ⟨by decide +kernel, by decide +kernel⟩
theorem tb_798 : (.static yX3_isUpTo : Cond) ∈ TB := List.mem_filter.mpr ⟨by decide +kernel, by decide +kernel⟩
theorem tb_799 : (.code yX3_isUpTo cX3_isUpTo 2 (some .boolean) : Cond) ∈ TB := List.mem_filter.mpr ⟨List.mem_of_getElem? (i := 772) (by decide +kernel), by decide +kernel⟩
theorem tb_800 : (.methodLink RX3 86 yX1_isTown : Cond) ∈ TB := List.mem_filter.mpr ⟨by decide +kernel, by decide +kernel⟩
theorem tb_801 : (.methodLink RX3 89 yX0_sinceWhen : Cond) ∈ TB := List.mem_filter.mpr ⟨by decide +kernel, by decide +kernel⟩
theorem tb_802 : (.methodLink RL 187 yX6_runScript : Cond) ∈ TB := List.mem_filter.mpr ⟨by decide +kernel, by decide +kernel⟩
theorem tb_803 : (.instanceMethod yX6_runScript : Cond) ∈ TB := List.mem_filter.mpr ⟨by decide +kernel, by decide +kernel⟩
theorem tb_804 : (.selects RX6 yX6_runScript yX6_runScript : Cond) ∈ TB := List.mem_filter.mpr ⟨by decide +kernel, by decide +kernel⟩
theorem tb_805 : (.code yX6_runScript cX6_runScript 8 (some .int) : Cond) ∈ TB := List.mem_filter.mpr ⟨List.mem_of_getElem? (i := 1114) (by decide +kernel), by decide +kernel⟩
theorem tb_806 : (.constantLong RX6 208 (1000000) : Cond) ∈ TB := List.mem_filter.mpr ⟨by decide +kernel, by decide +kernel⟩
theorem tb_807 : (.constantLong RX6 210 (3) : Cond) ∈ TB := List.mem_filter.mpr ⟨by decide +kernel, by decide +kernel⟩
theorem tb_808 : (.methodLink RX6 212 yX6_command : Cond) ∈ TB := List.mem_filter.mpr ⟨by decide +kernel, by decide +kernel⟩
theorem tb_809 : (.instanceMethod yX6_command : Cond) ∈ TB := List.mem_filter.mpr ⟨by decide +kernel, by decide +kernel⟩
theorem tb_810 : (.selects RX6 yX6_command yX6_command : Cond) ∈ TB := List.mem_filter.mpr ⟨by decide +kernel, by decide +kernel⟩
theorem tb_811 : (.code yX6_command cX6_command 6 (some .boolean) : Cond) ∈ TB := List.mem_filter.mpr ⟨List.mem_of_getElem? (i := 1120) (by decide +kernel), by decide +kernel⟩
theorem tb_812 : (.methodLink RL 188 yL_simulate : Cond) ∈ TB := List.mem_filter.mpr ⟨by decide +kernel, by decide +kernel⟩
theorem tb_813 : (.static yL_simulate : Cond) ∈ TB := List.mem_filter.mpr ⟨by decide +kernel, by decide +kernel⟩
theorem tb_814 : (.codeWith yL_simulate cL_simulate 6 (some .int) [(0, 11, 14, 13)] : Cond) ∈ TB := List.mem_filter.mpr ⟨by decide +kernel, by decide +kernel⟩
theorem tb_815 : (.methodLink RL 85 yX5_simulate : Cond) ∈ TB := List.mem_filter.mpr ⟨by decide +kernel, by decide +kernel⟩
theorem tb_816 : (.instanceMethod yX5_simulate : Cond) ∈ TB := List.mem_filter.mpr ⟨by decide +kernel, by decide +kernel⟩
theorem tb_817 : (.selects RX5 yX5_simulate yX5_simulate : Cond) ∈ TB := List.mem_filter.mpr ⟨by decide +kernel, by decide +kernel⟩
theorem tb_818 : (.code yX5_simulate cX5_simulate 7 (some .int) : Cond) ∈ TB := List.mem_filter.mpr ⟨List.mem_of_getElem? (i := 781) (by decide +kernel), by decide +kernel⟩
theorem tb_819 : (.constantLong RX5 229 (6364136223846793005) : Cond) ∈ TB := List.mem_filter.mpr ⟨by decide +kernel, by decide +kernel⟩
theorem tb_820 : (.constantLong RX5 231 (1442695040888963407) : Cond) ∈ TB := List.mem_filter.mpr ⟨by decide +kernel, by decide +kernel⟩
theorem tb_821 : (.methodLink RX5 233 yX3_turn : Cond) ∈ TB := List.mem_filter.mpr ⟨by decide +kernel, by decide +kernel⟩
theorem tb_822 : (.instanceMethod yX3_turn : Cond) ∈ TB := List.mem_filter.mpr ⟨by decide +kernel, by decide +kernel⟩
theorem tb_823 : (.selects RX3 yX3_turn yX3_turn : Cond) ∈ TB := List.mem_filter.mpr ⟨by decide +kernel, by decide +kernel⟩
theorem tb_824 : (.code yX3_turn cX3_turn 6 none : Cond) ∈ TB := List.mem_filter.mpr ⟨List.mem_of_getElem? (i := 788) (by decide +kernel), by decide +kernel⟩
theorem tb_825 : (.methodLink RX5 236 yX3_summary : Cond) ∈ TB := List.mem_filter.mpr ⟨by decide +kernel, by decide +kernel⟩
theorem tb_826 : (.instanceMethod yX3_summary : Cond) ∈ TB := List.mem_filter.mpr ⟨by decide +kernel, by decide +kernel⟩
theorem tb_827 : (.selects RX3 yX3_summary yX3_summary : Cond) ∈ TB := List.mem_filter.mpr ⟨by decide +kernel, by decide +kernel⟩
theorem tb_828 : (.code yX3_summary cX3_summary 1 (some .int) : Cond) ∈ TB := List.mem_filter.mpr ⟨List.mem_of_getElem? (i := 792) (by decide +kernel), by decide +kernel⟩
theorem tb_829 : (.methodLink RX3 93 yX1_contradictions : Cond) ∈ TB := List.mem_filter.mpr ⟨by decide +kernel, by decide +kernel⟩
theorem tb_830 : (.methodLink RX3 96 yX1_roadCount : Cond) ∈ TB := List.mem_filter.mpr ⟨by decide +kernel, by decide +kernel⟩
theorem tb_831 : (.methodLink RL 191 yX6_simulate : Cond) ∈ TB := List.mem_filter.mpr ⟨by decide +kernel, by decide +kernel⟩
theorem tb_832 : (.instanceMethod yX6_simulate : Cond) ∈ TB := List.mem_filter.mpr ⟨by decide +kernel, by decide +kernel⟩
theorem tb_833 : (.selects RX6 yX6_simulate yX6_simulate : Cond) ∈ TB := List.mem_filter.mpr ⟨by decide +kernel, by decide +kernel⟩
theorem tb_834 : (.code yX6_simulate cX6_simulate 9 (some .int) : Cond) ∈ TB := List.mem_filter.mpr ⟨List.mem_of_getElem? (i := 1124) (by decide +kernel), by decide +kernel⟩
theorem tb_835 : (.constantLong RX6 215 (6364136223846793005) : Cond) ∈ TB := List.mem_filter.mpr ⟨by decide +kernel, by decide +kernel⟩
theorem tb_836 : (.constantLong RX6 217 (1442695040888963407) : Cond) ∈ TB := List.mem_filter.mpr ⟨by decide +kernel, by decide +kernel⟩
theorem tb_837 : (.methodLink RX6 219 yX6_turn : Cond) ∈ TB := List.mem_filter.mpr ⟨by decide +kernel, by decide +kernel⟩
theorem tb_838 : (.instanceMethod yX6_turn : Cond) ∈ TB := List.mem_filter.mpr ⟨by decide +kernel, by decide +kernel⟩
theorem tb_839 : (.selects RX6 yX6_turn yX6_turn : Cond) ∈ TB := List.mem_filter.mpr ⟨by decide +kernel, by decide +kernel⟩
theorem tb_840 : (.code yX6_turn cX6_turn 6 none : Cond) ∈ TB := List.mem_filter.mpr ⟨List.mem_of_getElem? (i := 1130) (by decide +kernel), by decide +kernel⟩
theorem tb_841 : (.methodLink RL 192 yL_save : Cond) ∈ TB := List.mem_filter.mpr ⟨by decide +kernel, by decide +kernel⟩
theorem tb_842 : (.static yL_save : Cond) ∈ TB := List.mem_filter.mpr ⟨by decide +kernel, by decide +kernel⟩
theorem tb_843 : (.codeWith yL_save cL_save 4 (some .int) [(0, 9, 12, 24)] : Cond) ∈ TB := List.mem_filter.mpr ⟨by decide +kernel, by decide +kernel⟩
theorem tb_844 : (.methodLink RL 89 yX5_save : Cond) ∈ TB := List.mem_filter.mpr ⟨by decide +kernel, by decide +kernel⟩
theorem tb_845 : (.instanceMethod yX5_save : Cond) ∈ TB := List.mem_filter.mpr ⟨by decide +kernel, by decide +kernel⟩
theorem tb_846 : (.selects RX5 yX5_save yX5_save : Cond) ∈ TB := List.mem_filter.mpr ⟨by decide +kernel, by decide +kernel⟩
theorem tb_847 : (.code yX5_save cX5_save 2 (some .int) : Cond) ∈ TB := List.mem_filter.mpr ⟨List.mem_of_getElem? (i := 801) (by decide +kernel), by decide +kernel⟩
theorem tb_848 : (.methodLink RX5 239 yX5_needSlot : Cond) ∈ TB := List.mem_filter.mpr ⟨by decide +kernel, by decide +kernel⟩
theorem tb_849 : (.static yX5_needSlot : Cond) ∈ TB := List.mem_filter.mpr ⟨by decide +kernel, by decide +kernel⟩
theorem tb_850 : (.code yX5_needSlot cX5_needSlot 1 none : Cond) ∈ TB := List.mem_filter.mpr ⟨List.mem_of_getElem? (i := 804) (by decide +kernel), by decide +kernel⟩
theorem tb_851 : (.methodLink RX5 242 yX1_writeTo : Cond) ∈ TB := List.mem_filter.mpr ⟨by decide +kernel, by decide +kernel⟩
theorem tb_852 : (.methodLink RL 194 yX6_save : Cond) ∈ TB := List.mem_filter.mpr ⟨by decide +kernel, by decide +kernel⟩
theorem tb_853 : (.instanceMethod yX6_save : Cond) ∈ TB := List.mem_filter.mpr ⟨by decide +kernel, by decide +kernel⟩
theorem tb_854 : (.selects RX6 yX6_save yX6_save : Cond) ∈ TB := List.mem_filter.mpr ⟨by decide +kernel, by decide +kernel⟩
theorem tb_855 : (.code yX6_save cX6_save 2 (some .int) : Cond) ∈ TB := List.mem_filter.mpr ⟨List.mem_of_getElem? (i := 1134) (by decide +kernel), by decide +kernel⟩
theorem tb_856 : (.methodLink RL 195 yL_restore : Cond) ∈ TB := List.mem_filter.mpr ⟨by decide +kernel, by decide +kernel⟩
theorem tb_857 : (.static yL_restore : Cond) ∈ TB := List.mem_filter.mpr ⟨by decide +kernel, by decide +kernel⟩
theorem tb_858 : (.codeWith yL_restore cL_restore 4 (some .int) [(0, 9, 12, 24), (0, 9, 15, 15)] : Cond) ∈ TB := List.mem_filter.mpr ⟨by decide +kernel, by decide +kernel⟩
theorem tb_859 : (.methodLink RL 92 yX5_restore : Cond) ∈ TB := List.mem_filter.mpr ⟨by decide +kernel, by decide +kernel⟩
theorem tb_860 : (.instanceMethod yX5_restore : Cond) ∈ TB := List.mem_filter.mpr ⟨by decide +kernel, by decide +kernel⟩
theorem tb_861 : (.selects RX5 yX5_restore yX5_restore : Cond) ∈ TB := List.mem_filter.mpr ⟨by decide +kernel, by decide +kernel⟩
theorem tb_862 : (.code yX5_restore cX5_restore 2 (some .int) : Cond) ∈ TB := List.mem_filter.mpr ⟨List.mem_of_getElem? (i := 813) (by decide +kernel), by decide +kernel⟩
theorem tb_863 : (.methodLink RX5 248 yX1_readFrom : Cond) ∈ TB := List.mem_filter.mpr ⟨by decide +kernel, by decide +kernel⟩
theorem tb_864 : (.methodLink RX5 251 yX2_clear : Cond) ∈ TB := List.mem_filter.mpr ⟨by decide +kernel, by decide +kernel⟩
theorem tb_865 : (.instanceMethod yX2_clear : Cond) ∈ TB := List.mem_filter.mpr ⟨by decide +kernel, by decide +kernel⟩
theorem tb_866 : (.selects RX2 yX2_clear yX2_clear : Cond) ∈ TB := List.mem_filter.mpr ⟨by decide +kernel, by decide +kernel⟩
theorem tb_867 : (.code yX2_clear cX2_clear 1 none : Cond) ∈ TB := List.mem_filter.mpr ⟨List.mem_of_getElem? (i := 819) (by decide +kernel), by decide +kernel⟩
theorem tb_868 : (.methodLink RL 197 yX6_restore : Cond) ∈ TB := List.mem_filter.mpr ⟨by decide +kernel, by decide +kernel⟩
theorem tb_869 : (.instanceMethod yX6_restore : Cond) ∈ TB := List.mem_filter.mpr ⟨by decide +kernel, by decide +kernel⟩
theorem tb_870 : (.selects RX6 yX6_restore yX6_restore : Cond) ∈ TB := List.mem_filter.mpr ⟨by decide +kernel, by decide +kernel⟩
theorem tb_871 : (.code yX6_restore cX6_restore 2 (some .int) : Cond) ∈ TB := List.mem_filter.mpr ⟨List.mem_of_getElem? (i := 1138) (by decide +kernel), by decide +kernel⟩
theorem inT_X0 : ∀ w ∈ u_ws RX0 TX0 16, w ∈ TB := by decide +kernel
theorem inT_X1 : ∀ w ∈ u_ws RX1 TX1 1, w ∈ TB := by decide +kernel
theorem inT_X2 : ∀ w ∈ u_ws RX2 TX2 3, w ∈ TB := by decide +kernel
theorem inT_X3 : ∀ w ∈ u_ws RX3 TX3 2, w ∈ TB := by decide +kernel
theorem inT_X4 : ∀ w ∈ u_ws RX4 TX4 2, w ∈ TB := by decide +kernel
theorem inT_X5 : ∀ w ∈ u_ws RX5 TX5 7, w ∈ TB := by decide +kernel
theorem inT_X6 : ∀ w ∈ u_ws RX6 TX6 17, w ∈ TB := by decide +kernel
def wsX0_init : List Cond := .code yX0_init cX0_init 1 none :: TB
def wsX0_allInventions : List Cond := .code yX0_allInventions cX0_allInventions 4 (some .int) :: TB
def wsX0_inventedTraits : List Cond := .code yX0_inventedTraits cX0_inventedTraits 4 (some .int) :: TB
def wsX0_study : List Cond := .code yX0_study cX0_study 3 (some .int) :: TB
def wsX0_takeReports : List Cond := .code yX0_takeReports cX0_takeReports 5 (some .boolean) :: TB
def wsX0_takeRoads : List Cond := .code yX0_takeRoads cX0_takeRoads 5 none :: TB
def wsX0_explainAlone : List Cond := .code yX0_explainAlone cX0_explainAlone 2 none :: TB
def wsX0_weighSets : List Cond := .code yX0_weighSets cX0_weighSets 4 none :: TB
def wsX0_weigh : List Cond := .code yX0_weigh cX0_weigh 3 none :: TB
def wsX0_inventIn : List Cond := .code yX0_inventIn cX0_inventIn 3 none :: TB
def wsX0_spread : List Cond := .code yX0_spread cX0_spread 6 none :: TB
def wsX0_passOn : List Cond := .code yX0_passOn cX0_passOn 5 (some .boolean) :: TB
def wsX0_knownInTime : List Cond := .code yX0_knownInTime cX0_knownInTime 3 (some .int) :: TB
def wsX0_sinceWhen : List Cond := .code yX0_sinceWhen cX0_sinceWhen 4 (some .int) :: TB
def wsX0_townInOrder : List Cond := .code yX0_townInOrder cX0_townInOrder 5 (some .int) :: TB
def wsX0_townsBefore : List Cond := .code yX0_townsBefore cX0_townsBefore 4 (some .int) :: TB
def wsX0_canHavePassed : List Cond := .code yX0_canHavePassed cX0_canHavePassed 9 (some .boolean) :: TB
def wsX0_explainsByRoad : List Cond := .code yX0_explainsByRoad cX0_explainsByRoad 7 (some .boolean) :: TB
def wsX1_init : List Cond := .code yX1_init cX1_init 1 none :: TB
def wsX1_writeTo : List Cond := .code yX1_writeTo cX1_writeTo 2 none :: TB
def wsX1_readFrom : List Cond := .code yX1_readFrom cX1_readFrom 2 none :: TB
def wsX1_takeOver : List Cond := .code yX1_takeOver cX1_takeOver 2 none :: TB
def wsX1_townCount : List Cond := .code yX1_townCount cX1_townCount 1 (some .int) :: TB
def wsX1_isTown : List Cond := .code yX1_isTown cX1_isTown 2 (some .boolean) :: TB
def wsX1_roadLength : List Cond := .code yX1_roadLength cX1_roadLength 3 (some .int) :: TB
def wsX1_roadCount : List Cond := .code yX1_roadCount cX1_roadCount 4 (some .int) :: TB
def wsX1_roadsAt : List Cond := .code yX1_roadsAt cX1_roadsAt 4 (some .int) :: TB
def wsX1_townBeside : List Cond := .code yX1_townBeside cX1_townBeside 5 (some .int) :: TB
def wsX1_reportedYear : List Cond := .code yX1_reportedYear cX1_reportedYear 4 (some .int) :: TB
def wsX1_isReported : List Cond := .code yX1_isReported cX1_isReported 3 (some .boolean) :: TB
def wsX1_isContradicted : List Cond := .code yX1_isContradicted cX1_isContradicted 4 (some .boolean) :: TB
def wsX1_reportedPairs : List Cond := .code yX1_reportedPairs cX1_reportedPairs 4 (some .int) :: TB
def wsX1_contradictions : List Cond := .code yX1_contradictions cX1_contradictions 4 (some .int) :: TB
def wsX1_canJoin : List Cond := .code yX1_canJoin cX1_canJoin 4 (some .boolean) :: TB
def wsX1_addTown : List Cond := .code yX1_addTown cX1_addTown 2 (some .int) :: TB
def wsX1_join : List Cond := .code yX1_join cX1_join 4 (some .boolean) :: TB
def wsX1_cut : List Cond := .code yX1_cut cX1_cut 4 (some .int) :: TB
def wsX1_setRoad : List Cond := .code yX1_setRoad cX1_setRoad 4 none :: TB
def wsX1_note : List Cond := .code yX1_note cX1_note 8 (some .int) :: TB
def wsX1_drop : List Cond := .code yX1_drop cX1_drop 4 (some .int) :: TB
def wsX2_init : List Cond := .code yX2_init cX2_init 1 none :: TB
def wsX2_isEmpty : List Cond := .code yX2_isEmpty cX2_isEmpty 1 (some .boolean) :: TB
def wsX2_clear : List Cond := .code yX2_clear cX2_clear 1 none :: TB
def wsX2_remember : List Cond := .code yX2_remember cX2_remember 2 none :: TB
def wsX2_takeBack : List Cond := .code yX2_takeBack cX2_takeBack 2 (some .int) :: TB
def wsX3_init : List Cond := .code yX3_init cX3_init 1 none :: TB
def wsX3_begin : List Cond := .code yX3_begin cX3_begin 2 none :: TB
def wsX3_inventionsWithRoad : List Cond := .code yX3_inventionsWithRoad cX3_inventionsWithRoad 4 (some .int) :: TB
def wsX3_newRoad : List Cond := .code yX3_newRoad cX3_newRoad 7 (some .int) :: TB
def wsX3_costliestReport : List Cond := .code yX3_costliestReport cX3_costliestReport 6 (some .int) :: TB
def wsX3_costOfReport : List Cond := .code yX3_costOfReport cX3_costOfReport 7 (some .int) :: TB
def wsX3_obeys : List Cond := .code yX3_obeys cX3_obeys 5 (some .boolean) :: TB
def wsX3_isUpTo : List Cond := .code yX3_isUpTo cX3_isUpTo 2 (some .boolean) :: TB
def wsX3_turn : List Cond := .code yX3_turn cX3_turn 6 none :: TB
def wsX3_summary : List Cond := .code yX3_summary cX3_summary 1 (some .int) :: TB
def wsX4_init : List Cond := .code yX4_init cX4_init 1 none :: TB
def wsX4_isFull : List Cond := .code yX4_isFull cX4_isFull 1 (some .boolean) :: TB
def wsX4_add : List Cond := .code yX4_add cX4_add 2 (some .int) :: TB
def wsX4_empty : List Cond := .code yX4_empty cX4_empty 2 (some .int) :: TB
def wsX4_firstError : List Cond := .code yX4_firstError cX4_firstError 3 (some .int) :: TB
def wsX4_awaitedBehind : List Cond := .code yX4_awaitedBehind cX4_awaitedBehind 3 (some .int) :: TB
def wsX4_noteIn : List Cond := .code yX4_noteIn cX4_noteIn 8 (some .int) :: TB
def wsX4_signAt : List Cond := .code yX4_signAt cX4_signAt 2 (some .int) :: TB
def wsX5_init : List Cond := .code yX5_init cX5_init 1 none :: TB
def wsX5_append : List Cond := .code yX5_append cX5_append 2 (some .int) :: TB
def wsX5_clearText : List Cond := .code yX5_clearText cX5_clearText 1 (some .int) :: TB
def wsX5_errorPosition : List Cond := .code yX5_errorPosition cX5_errorPosition 1 (some .int) :: TB
def wsX5_about : List Cond := .code yX5_about cX5_about 2 (some .int) :: TB
def wsX5_road : List Cond := .code yX5_road cX5_road 3 (some .int) :: TB
def wsX5_neighbor : List Cond := .code yX5_neighbor cX5_neighbor 3 (some .int) :: TB
def wsX5_report : List Cond := .code yX5_report cX5_report 4 (some .int) :: TB
def wsX5_found : List Cond := .code yX5_found cX5_found 1 (some .int) :: TB
def wsX5_lay : List Cond := .code yX5_lay cX5_lay 4 (some .int) :: TB
def wsX5_tear : List Cond := .code yX5_tear cX5_tear 3 (some .int) :: TB
def wsX5_see : List Cond := .code yX5_see cX5_see 5 (some .int) :: TB
def wsX5_seeAll : List Cond := .code yX5_seeAll cX5_seeAll 1 (some .int) :: TB
def wsX5_forget : List Cond := .code yX5_forget cX5_forget 3 (some .int) :: TB
def wsX5_undo : List Cond := .code yX5_undo cX5_undo 1 (some .int) :: TB
def wsX5_inventions : List Cond := .code yX5_inventions cX5_inventions 2 (some .int) :: TB
def wsX5_invented : List Cond := .code yX5_invented cX5_invented 3 (some .int) :: TB
def wsX5_choices : List Cond := .code yX5_choices cX5_choices 2 (some .int) :: TB
def wsX5_since : List Cond := .code yX5_since cX5_since 3 (some .int) :: TB
def wsX5_reached : List Cond := .code yX5_reached cX5_reached 3 (some .int) :: TB
def wsX5_passed : List Cond := .code yX5_passed cX5_passed 4 (some .int) :: TB
def wsX5_ifLaid : List Cond := .code yX5_ifLaid cX5_ifLaid 4 (some .int) :: TB
def wsX5_bestRoad : List Cond := .code yX5_bestRoad cX5_bestRoad 2 (some .int) :: TB
def wsX5_dearest : List Cond := .code yX5_dearest cX5_dearest 1 (some .int) :: TB
def wsX5_runScript : List Cond := .code yX5_runScript cX5_runScript 7 (some .int) :: TB
def wsX5_simulate : List Cond := .code yX5_simulate cX5_simulate 7 (some .int) :: TB
def wsX5_save : List Cond := .code yX5_save cX5_save 2 (some .int) :: TB
def wsX5_restore : List Cond := .code yX5_restore cX5_restore 2 (some .int) :: TB
def wsX5_needTown : List Cond := .code yX5_needTown cX5_needTown 2 none :: TB
def wsX5_needPossibleRoad : List Cond := .code yX5_needPossibleRoad cX5_needPossibleRoad 4 none :: TB
def wsX5_needTrait : List Cond := .code yX5_needTrait cX5_needTrait 1 none :: TB
def wsX5_needCount : List Cond := .code yX5_needCount cX5_needCount 1 none :: TB
def wsX5_needSlot : List Cond := .code yX5_needSlot cX5_needSlot 1 none :: TB
def wsX5_isTrait : List Cond := .code yX5_isTrait cX5_isTrait 1 (some .boolean) :: TB
def wsX5_isYear : List Cond := .code yX5_isYear cX5_isYear 1 (some .boolean) :: TB
def wsX5_isLength : List Cond := .code yX5_isLength cX5_isLength 1 (some .boolean) :: TB
def wsX6_init : List Cond := .code yX6_init cX6_init 1 none :: TB
def wsX6_thrown : List Cond := .code yX6_thrown cX6_thrown 1 (some .int) :: TB
def wsX6_refused : List Cond := .code yX6_refused cX6_refused 2 (some .boolean) :: TB
def wsX6_in : List Cond := .code yX6_in cX6_in 6 (some .boolean) :: TB
def wsX6_copyState : List Cond := .code yX6_copyState cX6_copyState 5 none :: TB
def wsX6_isTown : List Cond := .code yX6_isTown cX6_isTown 2 (some .boolean) :: TB
def wsX6_isTrait : List Cond := .code yX6_isTrait cX6_isTrait 1 (some .boolean) :: TB
def wsX6_at : List Cond := .code yX6_at cX6_at 2 (some .int) :: TB
def wsX6_length : List Cond := .code yX6_length cX6_length 3 (some .int) :: TB
def wsX6_roads : List Cond := .code yX6_roads cX6_roads 3 (some .int) :: TB
def wsX6_meet : List Cond := .code yX6_meet cX6_meet 4 (some .int) :: TB
def wsX6_areAgainst : List Cond := .code yX6_areAgainst cX6_areAgainst 3 (some .boolean) :: TB
def wsX6_hasHistory : List Cond := .code yX6_hasHistory cX6_hasHistory 4 (some .boolean) :: TB
def wsX6_bound : List Cond := .code yX6_bound cX6_bound 3 (some .int) :: TB
def wsX6_spread : List Cond := .code yX6_spread cX6_spread 8 none :: TB
def wsX6_layOrigins : List Cond := .code yX6_layOrigins cX6_layOrigins 5 none :: TB
def wsX6_allInTime : List Cond := .code yX6_allInTime cX6_allInTime 6 (some .boolean) :: TB
def wsX6_ones : List Cond := .code yX6_ones cX6_ones 3 (some .int) :: TB
def wsX6_findLeast : List Cond := .code yX6_findLeast cX6_findLeast 6 none :: TB
def wsX6_inventionsInAll : List Cond := .code yX6_inventionsInAll cX6_inventionsInAll 4 (some .int) :: TB
def wsX6_layYears : List Cond := .code yX6_layYears cX6_layYears 3 none :: TB
def wsX6_sinceOn : List Cond := .code yX6_sinceOn cX6_sinceOn 4 (some .int) :: TB
def wsX6_append : List Cond := .code yX6_append cX6_append 2 (some .int) :: TB
def wsX6_clearText : List Cond := .code yX6_clearText cX6_clearText 2 (some .int) :: TB
def wsX6_sign : List Cond := .code yX6_sign cX6_sign 1 (some .int) :: TB
def wsX6_taken : List Cond := .code yX6_taken cX6_taken 4 (some .int) :: TB
def wsX6_readYear : List Cond := .code yX6_readYear cX6_readYear 2 (some .int) :: TB
def wsX6_readReport : List Cond := .code yX6_readReport cX6_readReport 6 (some .boolean) :: TB
def wsX6_readAll : List Cond := .code yX6_readAll cX6_readAll 3 (some .int) :: TB
def wsX6_errorPosition : List Cond := .code yX6_errorPosition cX6_errorPosition 1 (some .int) :: TB
def wsX6_countPairs : List Cond := .code yX6_countPairs cX6_countPairs 6 (some .int) :: TB
def wsX6_traitsInvented : List Cond := .code yX6_traitsInvented cX6_traitsInvented 3 (some .int) :: TB
def wsX6_about : List Cond := .code yX6_about cX6_about 2 (some .int) :: TB
def wsX6_areTowns : List Cond := .code yX6_areTowns cX6_areTowns 3 (some .boolean) :: TB
def wsX6_road : List Cond := .code yX6_road cX6_road 3 (some .int) :: TB
def wsX6_neighbor : List Cond := .code yX6_neighbor cX6_neighbor 5 (some .int) :: TB
def wsX6_report : List Cond := .code yX6_report cX6_report 4 (some .int) :: TB
def wsX6_remember : List Cond := .code yX6_remember cX6_remember 2 none :: TB
def wsX6_found : List Cond := .code yX6_found cX6_found 1 (some .int) :: TB
def wsX6_whyNotLay : List Cond := .code yX6_whyNotLay cX6_whyNotLay 5 (some .int) :: TB
def wsX6_layOn : List Cond := .code yX6_layOn cX6_layOn 4 (some .int) :: TB
def wsX6_lay : List Cond := .code yX6_lay cX6_lay 4 (some .int) :: TB
def wsX6_tearOn : List Cond := .code yX6_tearOn cX6_tearOn 4 (some .int) :: TB
def wsX6_tear : List Cond := .code yX6_tear cX6_tear 3 (some .int) :: TB
def wsX6_seeOn : List Cond := .code yX6_seeOn cX6_seeOn 7 (some .int) :: TB
def wsX6_isYear : List Cond := .code yX6_isYear cX6_isYear 1 (some .boolean) :: TB
def wsX6_see : List Cond := .code yX6_see cX6_see 5 (some .int) :: TB
def wsX6_seeAll : List Cond := .code yX6_seeAll cX6_seeAll 1 (some .int) :: TB
def wsX6_forgetOn : List Cond := .code yX6_forgetOn cX6_forgetOn 4 (some .int) :: TB
def wsX6_forget : List Cond := .code yX6_forget cX6_forget 3 (some .int) :: TB
def wsX6_undo : List Cond := .code yX6_undo cX6_undo 1 (some .int) :: TB
def wsX6_inventions : List Cond := .code yX6_inventions cX6_inventions 2 (some .int) :: TB
def wsX6_invented : List Cond := .code yX6_invented cX6_invented 3 (some .int) :: TB
def wsX6_choices : List Cond := .code yX6_choices cX6_choices 2 (some .int) :: TB
def wsX6_since : List Cond := .code yX6_since cX6_since 3 (some .int) :: TB
def wsX6_reached : List Cond := .code yX6_reached cX6_reached 6 (some .int) :: TB
def wsX6_comes : List Cond := .code yX6_comes cX6_comes 6 (some .boolean) :: TB
def wsX6_passed : List Cond := .code yX6_passed cX6_passed 5 (some .int) :: TB
def wsX6_ifLaidOn : List Cond := .code yX6_ifLaidOn cX6_ifLaidOn 4 (some .int) :: TB
def wsX6_ifLaid : List Cond := .code yX6_ifLaid cX6_ifLaid 4 (some .int) :: TB
def wsX6_bestRoad : List Cond := .code yX6_bestRoad cX6_bestRoad 8 (some .int) :: TB
def wsX6_dearest : List Cond := .code yX6_dearest cX6_dearest 6 (some .int) :: TB
def wsX6_command : List Cond := .code yX6_command cX6_command 6 (some .boolean) :: TB
def wsX6_runScript : List Cond := .code yX6_runScript cX6_runScript 8 (some .int) :: TB
def wsX6_turn : List Cond := .code yX6_turn cX6_turn 6 none :: TB
def wsX6_simulate : List Cond := .code yX6_simulate cX6_simulate 9 (some .int) :: TB
def wsX6_save : List Cond := .code yX6_save cX6_save 2 (some .int) :: TB
def wsX6_restore : List Cond := .code yX6_restore cX6_restore 2 (some .int) :: TB
def wsJ6_bitCount_0f7a4 : List Cond := .code yJ6_bitCount_0f7a4 cJ6_bitCount_0f7a4 1 (some .int) :: TB
def wsJ9_max_7cf53 : List Cond := .code yJ9_max_7cf53 cJ9_max_7cf53 2 (some .int) :: TB
def wsJ9_min_7cf53 : List Cond := .code yJ9_min_7cf53 cJ9_min_7cf53 2 (some .int) :: TB
def wsJ7_fill_53178 : List Cond := .code yJ7_fill_53178 cJ7_fill_53178 4 none :: TB
def wsL_append : List Cond := .codeWith yL_append cL_append 4 (some .int) [(0, 9, 12, 13), (0, 9, 15, 15)] :: TB
def wsL_about : List Cond := .codeWith yL_about cL_about 4 (some .int) [(0, 9, 12, 13)] :: TB
def wsL_road : List Cond := .codeWith yL_road cL_road 5 (some .int) [(0, 10, 13, 24)] :: TB
def wsL_neighbor : List Cond := .codeWith yL_neighbor cL_neighbor 5 (some .int) [(0, 10, 13, 24), (0, 10, 17, 13)] :: TB
def wsL_report : List Cond := .codeWith yL_report cL_report 6 (some .int) [(0, 12, 15, 24), (0, 12, 19, 13)] :: TB
def wsL_found : List Cond := .codeWith yL_found cL_found 3 (some .int) [(0, 8, 11, 15)] :: TB
def wsL_lay : List Cond := .codeWith yL_lay cL_lay 6 (some .int) [(0, 12, 15, 24), (0, 12, 19, 13), (0, 12, 23, 15)] :: TB
def wsL_tear : List Cond := .codeWith yL_tear cL_tear 5 (some .int) [(0, 10, 13, 24), (0, 10, 17, 15)] :: TB
def wsL_see : List Cond := .codeWith yL_see cL_see 7 (some .int) [(0, 14, 17, 24), (0, 14, 21, 13)] :: TB
def wsL_seeAll : List Cond := .codeWith yL_seeAll cL_seeAll 3 (some .int) [(0, 8, 11, 15)] :: TB
def wsL_forget : List Cond := .codeWith yL_forget cL_forget 5 (some .int) [(0, 10, 13, 24), (0, 10, 17, 13)] :: TB
def wsL_undo : List Cond := .codeWith yL_undo cL_undo 3 (some .int) [(0, 8, 11, 15)] :: TB
def wsL_inventions : List Cond := .codeWith yL_inventions cL_inventions 4 (some .int) [(0, 9, 12, 13)] :: TB
def wsL_invented : List Cond := .codeWith yL_invented cL_invented 5 (some .int) [(0, 10, 13, 13)] :: TB
def wsL_choices : List Cond := .codeWith yL_choices cL_choices 4 (some .int) [(0, 9, 12, 13)] :: TB
def wsL_since : List Cond := .codeWith yL_since cL_since 5 (some .int) [(0, 10, 13, 24), (0, 10, 17, 13)] :: TB
def wsL_reached : List Cond := .codeWith yL_reached cL_reached 5 (some .int) [(0, 10, 13, 13)] :: TB
def wsL_passed : List Cond := .codeWith yL_passed cL_passed 6 (some .int) [(0, 12, 15, 24), (0, 12, 19, 13)] :: TB
def wsL_ifLaid : List Cond := .codeWith yL_ifLaid cL_ifLaid 6 (some .int) [(0, 12, 15, 24), (0, 12, 19, 13), (0, 12, 23, 15)] :: TB
def wsL_bestRoad : List Cond := .codeWith yL_bestRoad cL_bestRoad 4 (some .int) [(0, 9, 12, 13)] :: TB
def wsL_runScript : List Cond := .codeWith yL_runScript cL_runScript 6 (some .int) [(0, 11, 14, 13)] :: TB
def wsL_simulate : List Cond := .codeWith yL_simulate cL_simulate 6 (some .int) [(0, 11, 14, 13)] :: TB
def wsL_save : List Cond := .codeWith yL_save cL_save 4 (some .int) [(0, 9, 12, 24)] :: TB
def wsL_restore : List Cond := .codeWith yL_restore cL_restore 4 (some .int) [(0, 9, 12, 24), (0, 9, 15, 15)] :: TB
