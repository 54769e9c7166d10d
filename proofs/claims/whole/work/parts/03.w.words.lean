/-! the words that the walks use, by their places in the tables -/
def jmAll : List Cond := lw_tbl.filter goodWord
theorem jm_in {w : Cond} (k : Nat) (h : lw_tbl[k]? = some w) (g : goodWord w = true) : w ∈ jmAll := List.mem_filter.mpr ⟨List.mem_of_getElem? h, g⟩
theorem jm_good {w : Cond} (h : w ∈ jmAll) : (w.onTables && w.keeps) = true ∨ ∃ ty, w = .arrayClass ty := good_of_word (List.mem_filter.mp h).2
theorem jm_gN {w0 w1 : Cond} (h : w1 ∈ jmAll) : GoodIn (w0 :: jmAll) (w1 :: jmAll) := fun w hw => (List.mem_cons.mp hw).elim (fun e => by rw [e]; exact ⟨List.mem_cons_of_mem _ h, jm_good h⟩) (fun h => ⟨List.mem_cons_of_mem _ h, jm_good h⟩)
theorem jm_gV {w0 w1 : Cond} {own C : String} {idx : Nat} {y : MethodName} (h1 : Cond.methodLink own idx y ∈ jmAll) (h2 : Cond.instanceMethod y ∈ jmAll) (h3 : Cond.selects C y y ∈ jmAll) (h4 : Cond.initialized C ∈ jmAll) (h : w1 ∈ jmAll) : GoodIn (w0 :: jmAll) (wsV own idx C y (w1 :: jmAll)) := by
  intro w hw
  have hm : w ∈ jmAll := by
    simp only [wsV, List.mem_append, List.mem_cons, List.not_mem_nil, or_false] at hw
    rcases hw with (rfl | rfl | rfl | rfl) | rfl | hw <;> assumption
  exact ⟨List.mem_cons_of_mem _ hm, jm_good hm⟩
theorem jm_gS {w0 w1 : Cond} {own : String} {idx : Nat} {y : MethodName} (h1 : Cond.methodLink own idx y ∈ jmAll) (h2 : Cond.static y ∈ jmAll) (h4 : Cond.initialized y.cls ∈ jmAll) (h : w1 ∈ jmAll) : GoodIn (w0 :: jmAll) (va_wsS own idx y (w1 :: jmAll)) := by
  intro w hw
  have hm : w ∈ jmAll := by
    simp only [va_wsS, List.mem_append, List.mem_cons, List.not_mem_nil, or_false] at hw
    rcases hw with (rfl | rfl | rfl) | rfl | hw <;> assumption
  exact ⟨List.mem_cons_of_mem _ hm, jm_good hm⟩
set_option maxRecDepth 20000 in
theorem mw_0 : .selects RX5 yX5_readHead yX5_readHead ∈ jmAll := jm_in 0 rfl rfl
set_option maxRecDepth 20000 in
theorem mw_1 : .selects RX0 yX0_countZeros yX0_countZeros ∈ jmAll := jm_in 1 rfl rfl
set_option maxRecDepth 20000 in
theorem mw_2 : .selects RX5 yX5_readMode yX5_readMode ∈ jmAll := jm_in 2 rfl rfl
set_option maxRecDepth 20000 in
theorem mw_3 : .selects RX5 yX5_readLevels yX5_readLevels ∈ jmAll := jm_in 3 rfl rfl
set_option maxRecDepth 20000 in
theorem mw_4 : .selects RX2 yX2_lookAbove yX2_lookAbove ∈ jmAll := jm_in 4 rfl rfl
set_option maxRecDepth 20000 in
theorem mw_5 : .selects RX2 yX2_lookLeft yX2_lookLeft ∈ jmAll := jm_in 5 rfl rfl
set_option maxRecDepth 20000 in
theorem mw_6 : .selects RX2 yX2_meanOfSides yX2_meanOfSides ∈ jmAll := jm_in 6 rfl rfl
set_option maxRecDepth 20000 in
theorem mw_7 : .selects RX2 yX2_sumOfSide yX2_sumOfSide ∈ jmAll := jm_in 7 rfl rfl
set_option maxRecDepth 20000 in
theorem mw_8 : .selects RX1 yX1_foretell yX1_foretell ∈ jmAll := jm_in 8 rfl rfl
set_option maxRecDepth 20000 in
theorem mw_9 : .selects RX2 yX2_three yX2_three ∈ jmAll := jm_in 9 rfl rfl
set_option maxRecDepth 20000 in
theorem mw_10 : .selects RX2 yX2_steep yX2_steep ∈ jmAll := jm_in 10 rfl rfl
set_option maxRecDepth 20000 in
theorem mw_11 : .selects RX2 yX2_two yX2_two ∈ jmAll := jm_in 11 rfl rfl
set_option maxRecDepth 20000 in
theorem mw_12 : .selects RX2 yX2_leaning yX2_leaning ∈ jmAll := jm_in 12 rfl rfl
set_option maxRecDepth 20000 in
theorem mw_13 : .selects RX1 yX1_comeBack yX1_comeBack ∈ jmAll := jm_in 13 rfl rfl
set_option maxRecDepth 20000 in
theorem mw_14 : .selects RX8 yX8_backLine yX8_backLine ∈ jmAll := jm_in 14 rfl rfl
set_option maxRecDepth 20000 in
theorem mw_15 : .selects RX3 yX3_smoothAcross yX3_smoothAcross ∈ jmAll := jm_in 15 rfl rfl
set_option maxRecDepth 20000 in
theorem mw_17 : .selects RX1 yX1_bestMode yX1_bestMode ∈ jmAll := jm_in 17 rfl rfl
set_option maxRecDepth 20000 in
theorem mw_18 : .selects RX1 yX1_sumOfSizes yX1_sumOfSizes ∈ jmAll := jm_in 18 rfl rfl
set_option maxRecDepth 20000 in
theorem mw_19 : .selects RX1 yX1_lessTold yX1_lessTold ∈ jmAll := jm_in 19 rfl rfl
set_option maxRecDepth 20000 in
theorem mw_20 : .selects RX8 yX8_forthLine yX8_forthLine ∈ jmAll := jm_in 20 rfl rfl
set_option maxRecDepth 20000 in
theorem mw_21 : .selects RX6 yX6_writeNumber yX6_writeNumber ∈ jmAll := jm_in 21 rfl rfl
set_option maxRecDepth 20000 in
theorem mw_22 : .selects RX6 yX6_writeBits yX6_writeBits ∈ jmAll := jm_in 22 rfl rfl
set_option maxRecDepth 20000 in
theorem mw_23 : .selects RX6 yX6_writeMode yX6_writeMode ∈ jmAll := jm_in 23 rfl rfl
set_option maxRecDepth 20000 in
theorem mw_24 : .selects RX6 yX6_writeLevels yX6_writeLevels ∈ jmAll := jm_in 24 rfl rfl
set_option maxRecDepth 20000 in
theorem mw_25 : .selects RX10 yX10_fails yX10_fails ∈ jmAll := jm_in 25 rfl rfl
set_option maxRecDepth 20000 in
theorem mw_26 : .selects RX10 yX10_writeU yX10_writeU ∈ jmAll := jm_in 26 rfl rfl
set_option maxRecDepth 20000 in
theorem mw_27 : .selects RX10 yX10_write yX10_write ∈ jmAll := jm_in 27 rfl rfl
set_option maxRecDepth 20000 in
theorem mw_28 : .selects RX10 yX10_may yX10_may ∈ jmAll := jm_in 28 rfl rfl
set_option maxRecDepth 20000 in
theorem mw_29 : .selects RX10 yX10_hasAbove yX10_hasAbove ∈ jmAll := jm_in 29 rfl rfl
set_option maxRecDepth 20000 in
theorem mw_30 : .selects RX10 yX10_hasLeft yX10_hasLeft ∈ jmAll := jm_in 30 rfl rfl
set_option maxRecDepth 20000 in
theorem mw_31 : .selects RX10 yX10_costOf yX10_costOf ∈ jmAll := jm_in 31 rfl rfl
set_option maxRecDepth 20000 in
theorem mw_32 : .selects RX10 yX10_givenAt yX10_givenAt ∈ jmAll := jm_in 32 rfl rfl
set_option maxRecDepth 20000 in
theorem mw_33 : .selects RX10 yX10_told yX10_told ∈ jmAll := jm_in 33 rfl rfl
set_option maxRecDepth 20000 in
theorem mw_34 : .selects RX10 yX10_above yX10_above ∈ jmAll := jm_in 34 rfl rfl
set_option maxRecDepth 20000 in
theorem mw_35 : .selects RX10 yX10_left yX10_left ∈ jmAll := jm_in 35 rfl rfl
set_option maxRecDepth 20000 in
theorem mw_36 : .selects RX10 yX10_mean yX10_mean ∈ jmAll := jm_in 36 rfl rfl
set_option maxRecDepth 20000 in
theorem mw_37 : .selects RX10 yX10_round yX10_round ∈ jmAll := jm_in 37 rfl rfl
set_option maxRecDepth 20000 in
theorem mw_38 : .selects RX10 yX10_slanted yX10_slanted ∈ jmAll := jm_in 38 rfl rfl
set_option maxRecDepth 20000 in
theorem mw_39 : .selects RX10 yX10_goForth yX10_goForth ∈ jmAll := jm_in 39 rfl rfl
set_option maxRecDepth 20000 in
theorem mw_40 : .selects RX10 yX10_forthLine yX10_forthLine ∈ jmAll := jm_in 40 rfl rfl
set_option maxRecDepth 20000 in
theorem mw_41 : .selects RX10 yX10_comesBack yX10_comesBack ∈ jmAll := jm_in 41 rfl rfl
set_option maxRecDepth 20000 in
theorem mw_42 : .selects RX10 yX10_backLine yX10_backLine ∈ jmAll := jm_in 42 rfl rfl
set_option maxRecDepth 20000 in
theorem mw_43 : .selects RX10 yX10_writeBlock yX10_writeBlock ∈ jmAll := jm_in 43 rfl rfl
set_option maxRecDepth 20000 in
theorem mw_44 : .selects RX10 yX10_likely yX10_likely ∈ jmAll := jm_in 44 rfl rfl
set_option maxRecDepth 20000 in
theorem mw_45 : .selects RX10 yX10_writeS yX10_writeS ∈ jmAll := jm_in 45 rfl rfl
set_option maxRecDepth 20000 in
theorem mw_46 : .selects RX10 yX10_smoothAll yX10_smoothAll ∈ jmAll := jm_in 46 rfl rfl
set_option maxRecDepth 20000 in
theorem mw_47 : .selects RX10 yX10_smooth yX10_smooth ∈ jmAll := jm_in 47 rfl rfl
set_option maxRecDepth 20000 in
theorem mw_48 : .selects RX10 yX10_readAll yX10_readAll ∈ jmAll := jm_in 48 rfl rfl
set_option maxRecDepth 20000 in
theorem mw_49 : .selects RX10 yX10_header yX10_header ∈ jmAll := jm_in 49 rfl rfl
set_option maxRecDepth 20000 in
theorem mw_50 : .selects RX10 yX10_readU yX10_readU ∈ jmAll := jm_in 50 rfl rfl
set_option maxRecDepth 20000 in
theorem mw_51 : .selects RX10 yX10_read yX10_read ∈ jmAll := jm_in 51 rfl rfl
set_option maxRecDepth 20000 in
theorem mw_52 : .selects RX10 yX10_stop yX10_stop ∈ jmAll := jm_in 52 rfl rfl
set_option maxRecDepth 20000 in
theorem mw_53 : .selects RX10 yX10_readBlock yX10_readBlock ∈ jmAll := jm_in 53 rfl rfl
set_option maxRecDepth 20000 in
theorem mw_55 : .initialized RX9 ∈ jmAll := jm_in 55 rfl rfl
set_option maxRecDepth 20000 in
theorem mw_56 : .initialized RX3 ∈ jmAll := jm_in 56 rfl rfl
set_option maxRecDepth 20000 in
theorem mw_57 : .initialized RX2 ∈ jmAll := jm_in 57 rfl rfl
set_option maxRecDepth 20000 in
theorem mw_58 : .initialized RX1 ∈ jmAll := jm_in 58 rfl rfl
set_option maxRecDepth 20000 in
theorem mw_59 : .initialized RX8 ∈ jmAll := jm_in 59 rfl rfl
set_option maxRecDepth 20000 in
theorem mw_60 : .initialized RX7 ∈ jmAll := jm_in 60 rfl rfl
set_option maxRecDepth 20000 in
theorem mw_61 : .initialized RX6 ∈ jmAll := jm_in 61 rfl rfl
set_option maxRecDepth 20000 in
theorem mw_62 : .initialized RX5 ∈ jmAll := jm_in 62 rfl rfl
set_option maxRecDepth 20000 in
theorem mw_63 : .initialized RX0 ∈ jmAll := jm_in 63 rfl rfl
set_option maxRecDepth 20000 in
theorem mw_64 : .initialized RX4 ∈ jmAll := jm_in 64 rfl rfl
set_option maxRecDepth 20000 in
theorem mw_65 : .initialized RX10 ∈ jmAll := jm_in 65 rfl rfl
set_option maxRecDepth 20000 in
theorem mw_66 : .initialized "java/lang/Throwable" ∈ jmAll := jm_in 66 rfl rfl
set_option maxRecDepth 20000 in
theorem mw_67 : .initialized "java/lang/Exception" ∈ jmAll := jm_in 67 rfl rfl
set_option maxRecDepth 20000 in
theorem mw_68 : .initialized "java/lang/RuntimeException" ∈ jmAll := jm_in 68 rfl rfl
set_option maxRecDepth 20000 in
theorem mw_69 : .initialized "java/lang/IllegalArgumentException" ∈ jmAll := jm_in 69 rfl rfl
set_option maxRecDepth 20000 in
theorem mw_70 : .initialized "java/lang/Math" ∈ jmAll := jm_in 70 rfl rfl
set_option maxRecDepth 20000 in
theorem mw_71 : .initialized "java/lang/IllegalStateException" ∈ jmAll := jm_in 71 rfl rfl
set_option maxRecDepth 20000 in
theorem mw_73 : .instantiable RX9 8 ∈ jmAll := jm_in 73 rfl rfl
set_option maxRecDepth 20000 in
theorem mw_75 : .instanceMethod yX9_init ∈ jmAll := jm_in 75 rfl rfl
set_option maxRecDepth 20000 in
theorem mw_76 : .code yX9_init cX9_init 1 none ∈ jmAll := jm_in 76 rfl rfl
set_option maxRecDepth 20000 in
theorem mw_77 : .methodLink RX9 1 objectInit ∈ jmAll := jm_in 77 rfl rfl
set_option maxRecDepth 20000 in
theorem mw_78 : .instanceMethod objectInit ∈ jmAll := jm_in 78 rfl rfl
set_option maxRecDepth 20000 in
theorem mw_79 : .code objectInit ⟨#[0xb1]⟩ 1 none ∈ jmAll := jm_in 79 rfl rfl
set_option maxRecDepth 20000 in
theorem mw_80 : .classLink RX9 7 RX3 ∈ jmAll := jm_in 80 rfl rfl
set_option maxRecDepth 20000 in
theorem mw_81 : .instantiable RX3 3 ∈ jmAll := jm_in 81 rfl rfl
set_option maxRecDepth 20000 in
theorem mw_83 : .instanceMethod yX3_init ∈ jmAll := jm_in 83 rfl rfl
set_option maxRecDepth 20000 in
theorem mw_84 : .code yX3_init cX3_init 1 none ∈ jmAll := jm_in 84 rfl rfl
set_option maxRecDepth 20000 in
theorem mw_85 : .methodLink RX3 3 objectInit ∈ jmAll := jm_in 85 rfl rfl
set_option maxRecDepth 20000 in
theorem mw_86 : .fieldLink RX3 11 "IntraMill$Picture" "pixels" "[I" ∈ jmAll := jm_in 86 rfl rfl
set_option maxRecDepth 20000 in
theorem mw_87 : .fieldLink RX3 15 "IntraMill$Picture" "across" "I" ∈ jmAll := jm_in 87 rfl rfl
set_option maxRecDepth 20000 in
theorem mw_90 : .fieldLink RX3 19 "IntraMill$Picture" "down" "I" ∈ jmAll := jm_in 90 rfl rfl
set_option maxRecDepth 20000 in
theorem mw_99 : .arrayClass .int ∈ jmAll := jm_in 99 rfl rfl
set_option maxRecDepth 20000 in
theorem mw_100 : .classLink RX9 16 RX2 ∈ jmAll := jm_in 100 rfl rfl
set_option maxRecDepth 20000 in
theorem mw_101 : .instantiable RX2 5 ∈ jmAll := jm_in 101 rfl rfl
set_option maxRecDepth 20000 in
theorem mw_102 : .methodLink RX9 18 yX2_init ∈ jmAll := jm_in 102 rfl rfl
set_option maxRecDepth 20000 in
theorem mw_103 : .instanceMethod yX2_init ∈ jmAll := jm_in 103 rfl rfl
set_option maxRecDepth 20000 in
theorem mw_104 : .code yX2_init cX2_init 2 none ∈ jmAll := jm_in 104 rfl rfl
set_option maxRecDepth 20000 in
theorem mw_105 : .methodLink RX2 3 objectInit ∈ jmAll := jm_in 105 rfl rfl
set_option maxRecDepth 20000 in
theorem mw_106 : .fieldLink RX2 15 "IntraMill$Foretelling" "picture" "LIntraMill$Picture;" ∈ jmAll := jm_in 106 rfl rfl
set_option maxRecDepth 20000 in
theorem mw_107 : .fieldLink RX2 11 "IntraMill$Foretelling" "line" "[I" ∈ jmAll := jm_in 107 rfl rfl
set_option maxRecDepth 20000 in
theorem mw_108 : .fieldLink RX2 28 "IntraMill$Foretelling" "above" "Z" ∈ jmAll := jm_in 108 rfl rfl
set_option maxRecDepth 20000 in
theorem mw_109 : .fieldLink RX2 32 "IntraMill$Foretelling" "left" "Z" ∈ jmAll := jm_in 109 rfl rfl
set_option maxRecDepth 20000 in
theorem mw_110 : .fieldLink RX2 50 "IntraMill$Foretelling" "mean" "I" ∈ jmAll := jm_in 110 rfl rfl
set_option maxRecDepth 20000 in
theorem mw_122 : .classLink RX9 25 RX1 ∈ jmAll := jm_in 122 rfl rfl
set_option maxRecDepth 20000 in
theorem mw_123 : .instantiable RX1 4 ∈ jmAll := jm_in 123 rfl rfl
set_option maxRecDepth 20000 in
theorem mw_124 : .methodLink RX9 27 yX1_init ∈ jmAll := jm_in 124 rfl rfl
set_option maxRecDepth 20000 in
theorem mw_125 : .instanceMethod yX1_init ∈ jmAll := jm_in 125 rfl rfl
set_option maxRecDepth 20000 in
theorem mw_126 : .code yX1_init cX1_init 3 none ∈ jmAll := jm_in 126 rfl rfl
set_option maxRecDepth 20000 in
theorem mw_127 : .methodLink RX1 3 objectInit ∈ jmAll := jm_in 127 rfl rfl
set_option maxRecDepth 20000 in
theorem mw_128 : .classLink RX1 23 RX8 ∈ jmAll := jm_in 128 rfl rfl
set_option maxRecDepth 20000 in
theorem mw_129 : .instantiable RX8 1 ∈ jmAll := jm_in 129 rfl rfl
set_option maxRecDepth 20000 in
theorem mw_131 : .instanceMethod yX8_init ∈ jmAll := jm_in 131 rfl rfl
set_option maxRecDepth 20000 in
theorem mw_132 : .code yX8_init cX8_init 1 none ∈ jmAll := jm_in 132 rfl rfl
set_option maxRecDepth 20000 in
theorem mw_133 : .methodLink RX8 3 objectInit ∈ jmAll := jm_in 133 rfl rfl
set_option maxRecDepth 20000 in
theorem mw_134 : .fieldLink RX8 9 "IntraMill$Transform" "cells" "[I" ∈ jmAll := jm_in 134 rfl rfl
set_option maxRecDepth 20000 in
theorem mw_139 : .fieldLink RX1 15 "IntraMill$BlockMill" "picture" "LIntraMill$Picture;" ∈ jmAll := jm_in 139 rfl rfl
set_option maxRecDepth 20000 in
theorem mw_140 : .fieldLink RX1 19 "IntraMill$BlockMill" "foretelling" "LIntraMill$Foretelling;" ∈ jmAll := jm_in 140 rfl rfl
set_option maxRecDepth 20000 in
theorem mw_141 : .fieldLink RX1 26 "IntraMill$BlockMill" "transform" "LIntraMill$Transform;" ∈ jmAll := jm_in 141 rfl rfl
set_option maxRecDepth 20000 in
theorem mw_142 : .fieldLink RX1 9 "IntraMill$BlockMill" "told" "[I" ∈ jmAll := jm_in 142 rfl rfl
set_option maxRecDepth 20000 in
theorem mw_152 : .classLink RX9 34 RX7 ∈ jmAll := jm_in 152 rfl rfl
set_option maxRecDepth 20000 in
theorem mw_153 : .instantiable RX7 2 ∈ jmAll := jm_in 153 rfl rfl
set_option maxRecDepth 20000 in
theorem mw_155 : .instanceMethod yX7_init ∈ jmAll := jm_in 155 rfl rfl
set_option maxRecDepth 20000 in
theorem mw_156 : .code yX7_init cX7_init 1 none ∈ jmAll := jm_in 156 rfl rfl
set_option maxRecDepth 20000 in
theorem mw_157 : .methodLink RX7 3 objectInit ∈ jmAll := jm_in 157 rfl rfl
set_option maxRecDepth 20000 in
theorem mw_158 : .fieldLink RX7 9 "IntraMill$Store" "bytes" "[B" ∈ jmAll := jm_in 158 rfl rfl
set_option maxRecDepth 20000 in
theorem mw_160 : .fieldLink RX7 15 "IntraMill$Store" "count" "I" ∈ jmAll := jm_in 160 rfl rfl
set_option maxRecDepth 20000 in
theorem mw_168 : .arrayClass .byte ∈ jmAll := jm_in 168 rfl rfl
set_option maxRecDepth 20000 in
theorem mw_169 : .classLink RX9 41 RX6 ∈ jmAll := jm_in 169 rfl rfl
set_option maxRecDepth 20000 in
theorem mw_170 : .instantiable RX6 3 ∈ jmAll := jm_in 170 rfl rfl
set_option maxRecDepth 20000 in
theorem mw_171 : .methodLink RX9 43 yX6_init ∈ jmAll := jm_in 171 rfl rfl
set_option maxRecDepth 20000 in
theorem mw_172 : .instanceMethod yX6_init ∈ jmAll := jm_in 172 rfl rfl
set_option maxRecDepth 20000 in
theorem mw_173 : .code yX6_init cX6_init 2 none ∈ jmAll := jm_in 173 rfl rfl
set_option maxRecDepth 20000 in
theorem mw_174 : .methodLink RX6 3 objectInit ∈ jmAll := jm_in 174 rfl rfl
set_option maxRecDepth 20000 in
theorem mw_175 : .fieldLink RX6 9 "IntraMill$PlanWriter" "store" "LIntraMill$Store;" ∈ jmAll := jm_in 175 rfl rfl
set_option maxRecDepth 20000 in
theorem mw_176 : .fieldLink RX6 21 "IntraMill$PlanWriter" "open" "I" ∈ jmAll := jm_in 176 rfl rfl
set_option maxRecDepth 20000 in
theorem mw_177 : .fieldLink RX6 24 "IntraMill$PlanWriter" "openBits" "I" ∈ jmAll := jm_in 177 rfl rfl
set_option maxRecDepth 20000 in
theorem mw_185 : .classLink RX9 50 RX5 ∈ jmAll := jm_in 185 rfl rfl
set_option maxRecDepth 20000 in
theorem mw_186 : .instantiable RX5 1 ∈ jmAll := jm_in 186 rfl rfl
set_option maxRecDepth 20000 in
theorem mw_187 : .methodLink RX9 52 yX5_init ∈ jmAll := jm_in 187 rfl rfl
set_option maxRecDepth 20000 in
theorem mw_188 : .instanceMethod yX5_init ∈ jmAll := jm_in 188 rfl rfl
set_option maxRecDepth 20000 in
theorem mw_189 : .code yX5_init cX5_init 2 none ∈ jmAll := jm_in 189 rfl rfl
set_option maxRecDepth 20000 in
theorem mw_190 : .methodLink RX5 3 objectInit ∈ jmAll := jm_in 190 rfl rfl
set_option maxRecDepth 20000 in
theorem mw_191 : .classLink RX5 9 RX0 ∈ jmAll := jm_in 191 rfl rfl
set_option maxRecDepth 20000 in
theorem mw_192 : .instantiable RX0 4 ∈ jmAll := jm_in 192 rfl rfl
set_option maxRecDepth 20000 in
theorem mw_193 : .methodLink RX5 11 yX0_init ∈ jmAll := jm_in 193 rfl rfl
set_option maxRecDepth 20000 in
theorem mw_194 : .instanceMethod yX0_init ∈ jmAll := jm_in 194 rfl rfl
set_option maxRecDepth 20000 in
theorem mw_195 : .code yX0_init cX0_init 2 none ∈ jmAll := jm_in 195 rfl rfl
set_option maxRecDepth 20000 in
theorem mw_196 : .methodLink RX0 3 objectInit ∈ jmAll := jm_in 196 rfl rfl
set_option maxRecDepth 20000 in
theorem mw_197 : .fieldLink RX0 15 "IntraMill$BitReader" "store" "LIntraMill$Store;" ∈ jmAll := jm_in 197 rfl rfl
set_option maxRecDepth 20000 in
theorem mw_198 : .fieldLink RX0 19 "IntraMill$BitReader" "next" "I" ∈ jmAll := jm_in 198 rfl rfl
set_option maxRecDepth 20000 in
theorem mw_201 : .fieldLink RX0 22 "IntraMill$BitReader" "fault" "I" ∈ jmAll := jm_in 201 rfl rfl
set_option maxRecDepth 20000 in
theorem mw_202 : .fieldLink RX0 9 "IntraMill$BitReader" "faultPlace" "I" ∈ jmAll := jm_in 202 rfl rfl
set_option maxRecDepth 20000 in
theorem mw_213 : .fieldLink RX5 14 "IntraMill$PlanReader" "bits" "LIntraMill$BitReader;" ∈ jmAll := jm_in 213 rfl rfl
set_option maxRecDepth 20000 in
theorem mw_217 : .classLink RX9 57 RX4 ∈ jmAll := jm_in 217 rfl rfl
set_option maxRecDepth 20000 in
theorem mw_218 : .instantiable RX4 6 ∈ jmAll := jm_in 218 rfl rfl
set_option maxRecDepth 20000 in
theorem mw_220 : .instanceMethod yX4_init ∈ jmAll := jm_in 220 rfl rfl
set_option maxRecDepth 20000 in
theorem mw_221 : .code yX4_init cX4_init 1 none ∈ jmAll := jm_in 221 rfl rfl
set_option maxRecDepth 20000 in
theorem mw_222 : .methodLink RX4 3 objectInit ∈ jmAll := jm_in 222 rfl rfl
set_option maxRecDepth 20000 in
theorem mw_223 : .fieldLink RX4 9 "IntraMill$Plan" "modes" "[I" ∈ jmAll := jm_in 223 rfl rfl
set_option maxRecDepth 20000 in
theorem mw_228 : .fieldLink RX4 15 "IntraMill$Plan" "levels" "[I" ∈ jmAll := jm_in 228 rfl rfl
set_option maxRecDepth 20000 in
theorem mw_233 : .fieldLink RX4 18 "IntraMill$Plan" "across" "I" ∈ jmAll := jm_in 233 rfl rfl
set_option maxRecDepth 20000 in
theorem mw_236 : .fieldLink RX4 22 "IntraMill$Plan" "down" "I" ∈ jmAll := jm_in 236 rfl rfl
set_option maxRecDepth 20000 in
theorem mw_239 : .fieldLink RX4 25 "IntraMill$Plan" "qp" "I" ∈ jmAll := jm_in 239 rfl rfl
set_option maxRecDepth 20000 in
theorem mw_244 : .fieldLink RX4 28 "IntraMill$Plan" "smooth" "Z" ∈ jmAll := jm_in 244 rfl rfl
set_option maxRecDepth 20000 in
theorem mw_261 : .methodLink RX9 67 yX4_clear ∈ jmAll := jm_in 261 rfl rfl
set_option maxRecDepth 20000 in
theorem mw_262 : .instanceMethod yX4_clear ∈ jmAll := jm_in 262 rfl rfl
set_option maxRecDepth 20000 in
theorem mw_263 : .selects RX4 yX4_clear yX4_clear ∈ jmAll := jm_in 263 rfl rfl
set_option maxRecDepth 20000 in
theorem mw_264 : .code yX4_clear cX4_clear 4 none ∈ jmAll := jm_in 264 rfl rfl
set_option maxRecDepth 20000 in
theorem mw_265 : .fieldLink RX9 10 "IntraMill" "picture" "LIntraMill$Picture;" ∈ jmAll := jm_in 265 rfl rfl
set_option maxRecDepth 20000 in
theorem mw_266 : .fieldLink RX9 21 "IntraMill" "foretelling" "LIntraMill$Foretelling;" ∈ jmAll := jm_in 266 rfl rfl
set_option maxRecDepth 20000 in
theorem mw_267 : .fieldLink RX9 30 "IntraMill" "mill" "LIntraMill$BlockMill;" ∈ jmAll := jm_in 267 rfl rfl
set_option maxRecDepth 20000 in
theorem mw_268 : .fieldLink RX9 37 "IntraMill" "store" "LIntraMill$Store;" ∈ jmAll := jm_in 268 rfl rfl
set_option maxRecDepth 20000 in
theorem mw_269 : .fieldLink RX9 46 "IntraMill" "writer" "LIntraMill$PlanWriter;" ∈ jmAll := jm_in 269 rfl rfl
set_option maxRecDepth 20000 in
theorem mw_270 : .fieldLink RX9 53 "IntraMill" "reader" "LIntraMill$PlanReader;" ∈ jmAll := jm_in 270 rfl rfl
set_option maxRecDepth 20000 in
theorem mw_271 : .fieldLink RX9 60 "IntraMill" "latest" "LIntraMill$Plan;" ∈ jmAll := jm_in 271 rfl rfl
set_option maxRecDepth 20000 in
theorem mw_272 : .fieldLink RX9 64 "IntraMill" "trial" "LIntraMill$Plan;" ∈ jmAll := jm_in 272 rfl rfl
set_option maxRecDepth 20000 in
theorem mw_291 : .instanceMethod yX9_pixel ∈ jmAll := jm_in 291 rfl rfl
set_option maxRecDepth 20000 in
theorem mw_292 : .selects RX9 yX9_pixel yX9_pixel ∈ jmAll := jm_in 292 rfl rfl
set_option maxRecDepth 20000 in
theorem mw_293 : .code yX9_pixel cX9_pixel 3 (some .int) ∈ jmAll := jm_in 293 rfl rfl
set_option maxRecDepth 20000 in
theorem mw_294 : .methodLink RX9 71 yX9_isWithin ∈ jmAll := jm_in 294 rfl rfl
set_option maxRecDepth 20000 in
theorem mw_295 : .static yX9_isWithin ∈ jmAll := jm_in 295 rfl rfl
set_option maxRecDepth 20000 in
theorem mw_296 : .code yX9_isWithin cX9_isWithin 3 (some .boolean) ∈ jmAll := jm_in 296 rfl rfl
set_option maxRecDepth 20000 in
theorem mw_297 : .methodLink RX9 94 yX3_get ∈ jmAll := jm_in 297 rfl rfl
set_option maxRecDepth 20000 in
theorem mw_298 : .instanceMethod yX3_get ∈ jmAll := jm_in 298 rfl rfl
set_option maxRecDepth 20000 in
theorem mw_299 : .selects RX3 yX3_get yX3_get ∈ jmAll := jm_in 299 rfl rfl
set_option maxRecDepth 20000 in
theorem mw_300 : .code yX3_get cX3_get 3 (some .int) ∈ jmAll := jm_in 300 rfl rfl
set_option maxRecDepth 20000 in
theorem mw_302 : .instanceMethod yX9_unpack ∈ jmAll := jm_in 302 rfl rfl
set_option maxRecDepth 20000 in
theorem mw_303 : .selects RX9 yX9_unpack yX9_unpack ∈ jmAll := jm_in 303 rfl rfl
set_option maxRecDepth 20000 in
theorem mw_304 : .code yX9_unpack cX9_unpack 3 (some .int) ∈ jmAll := jm_in 304 rfl rfl
set_option maxRecDepth 20000 in
theorem mw_305 : .methodLink RX9 123 yX5_read ∈ jmAll := jm_in 305 rfl rfl
set_option maxRecDepth 20000 in
theorem mw_306 : .instanceMethod yX5_read ∈ jmAll := jm_in 306 rfl rfl
set_option maxRecDepth 20000 in
theorem mw_307 : .selects RX5 yX5_read yX5_read ∈ jmAll := jm_in 307 rfl rfl
set_option maxRecDepth 20000 in
theorem mw_308 : .code yX5_read cX5_read 3 (some .boolean) ∈ jmAll := jm_in 308 rfl rfl
set_option maxRecDepth 20000 in
theorem mw_309 : .methodLink RX5 27 yX0_restart ∈ jmAll := jm_in 309 rfl rfl
set_option maxRecDepth 20000 in
theorem mw_310 : .instanceMethod yX0_restart ∈ jmAll := jm_in 310 rfl rfl
set_option maxRecDepth 20000 in
theorem mw_311 : .selects RX0 yX0_restart yX0_restart ∈ jmAll := jm_in 311 rfl rfl
set_option maxRecDepth 20000 in
theorem mw_312 : .code yX0_restart cX0_restart 1 none ∈ jmAll := jm_in 312 rfl rfl
set_option maxRecDepth 20000 in
theorem mw_313 : .methodLink RX5 30 yX5_readHead ∈ jmAll := jm_in 313 rfl rfl
set_option maxRecDepth 20000 in
theorem mw_315 : .instanceMethod yX5_readHead ∈ jmAll := jm_in 315 rfl rfl
set_option maxRecDepth 20000 in
theorem mw_316 : .code yX5_readHead cX5_readHead 6 (some .boolean) ∈ jmAll := jm_in 316 rfl rfl
set_option maxRecDepth 20000 in
theorem mw_317 : .methodLink RX5 51 yX0_readNumber ∈ jmAll := jm_in 317 rfl rfl
set_option maxRecDepth 20000 in
theorem mw_318 : .instanceMethod yX0_readNumber ∈ jmAll := jm_in 318 rfl rfl
set_option maxRecDepth 20000 in
theorem mw_319 : .selects RX0 yX0_readNumber yX0_readNumber ∈ jmAll := jm_in 319 rfl rfl
set_option maxRecDepth 20000 in
theorem mw_320 : .code yX0_readNumber cX0_readNumber 6 (some .int) ∈ jmAll := jm_in 320 rfl rfl
set_option maxRecDepth 20000 in
theorem mw_321 : .methodLink RX0 42 yX0_countZeros ∈ jmAll := jm_in 321 rfl rfl
set_option maxRecDepth 20000 in
theorem mw_323 : .instanceMethod yX0_countZeros ∈ jmAll := jm_in 323 rfl rfl
set_option maxRecDepth 20000 in
theorem mw_324 : .code yX0_countZeros cX0_countZeros 2 (some .int) ∈ jmAll := jm_in 324 rfl rfl
set_option maxRecDepth 20000 in
theorem mw_325 : .methodLink RX0 30 yX0_left ∈ jmAll := jm_in 325 rfl rfl
set_option maxRecDepth 20000 in
theorem mw_326 : .instanceMethod yX0_left ∈ jmAll := jm_in 326 rfl rfl
set_option maxRecDepth 20000 in
theorem mw_327 : .selects RX0 yX0_left yX0_left ∈ jmAll := jm_in 327 rfl rfl
set_option maxRecDepth 20000 in
theorem mw_328 : .code yX0_left cX0_left 1 (some .int) ∈ jmAll := jm_in 328 rfl rfl
set_option maxRecDepth 20000 in
theorem mw_329 : .methodLink RX0 38 yX7_bitAt ∈ jmAll := jm_in 329 rfl rfl
set_option maxRecDepth 20000 in
theorem mw_330 : .instanceMethod yX7_bitAt ∈ jmAll := jm_in 330 rfl rfl
set_option maxRecDepth 20000 in
theorem mw_331 : .selects RX7 yX7_bitAt yX7_bitAt ∈ jmAll := jm_in 331 rfl rfl
set_option maxRecDepth 20000 in
theorem mw_332 : .code yX7_bitAt cX7_bitAt 2 (some .int) ∈ jmAll := jm_in 332 rfl rfl
set_option maxRecDepth 20000 in
theorem mw_333 : .methodLink RX0 34 yX0_fail ∈ jmAll := jm_in 333 rfl rfl
set_option maxRecDepth 20000 in
theorem mw_334 : .instanceMethod yX0_fail ∈ jmAll := jm_in 334 rfl rfl
set_option maxRecDepth 20000 in
theorem mw_335 : .selects RX0 yX0_fail yX0_fail ∈ jmAll := jm_in 335 rfl rfl
set_option maxRecDepth 20000 in
theorem mw_336 : .code yX0_fail cX0_fail 3 none ∈ jmAll := jm_in 336 rfl rfl
set_option maxRecDepth 20000 in
theorem mw_337 : .methodLink RX0 45 yX0_readBits ∈ jmAll := jm_in 337 rfl rfl
set_option maxRecDepth 20000 in
theorem mw_338 : .instanceMethod yX0_readBits ∈ jmAll := jm_in 338 rfl rfl
set_option maxRecDepth 20000 in
theorem mw_339 : .selects RX0 yX0_readBits yX0_readBits ∈ jmAll := jm_in 339 rfl rfl
set_option maxRecDepth 20000 in
theorem mw_340 : .code yX0_readBits cX0_readBits 4 (some .int) ∈ jmAll := jm_in 340 rfl rfl
set_option maxRecDepth 20000 in
theorem mw_341 : .methodLink RX5 55 yX0_readBits ∈ jmAll := jm_in 341 rfl rfl
set_option maxRecDepth 20000 in
theorem mw_342 : .methodLink RX5 59 yX4_clear ∈ jmAll := jm_in 342 rfl rfl
set_option maxRecDepth 20000 in
theorem mw_343 : .methodLink RX5 34 yX4_blocks ∈ jmAll := jm_in 343 rfl rfl
set_option maxRecDepth 20000 in
theorem mw_344 : .instanceMethod yX4_blocks ∈ jmAll := jm_in 344 rfl rfl
set_option maxRecDepth 20000 in
theorem mw_345 : .selects RX4 yX4_blocks yX4_blocks ∈ jmAll := jm_in 345 rfl rfl
set_option maxRecDepth 20000 in
theorem mw_346 : .code yX4_blocks cX4_blocks 1 (some .int) ∈ jmAll := jm_in 346 rfl rfl
set_option maxRecDepth 20000 in
theorem mw_347 : .methodLink RX5 40 yX5_readMode ∈ jmAll := jm_in 347 rfl rfl
set_option maxRecDepth 20000 in
theorem mw_349 : .instanceMethod yX5_readMode ∈ jmAll := jm_in 349 rfl rfl
set_option maxRecDepth 20000 in
theorem mw_350 : .code yX5_readMode cX5_readMode 8 (some .boolean) ∈ jmAll := jm_in 350 rfl rfl
set_option maxRecDepth 20000 in
theorem mw_351 : .methodLink RX5 70 yX4_likelyMode ∈ jmAll := jm_in 351 rfl rfl
set_option maxRecDepth 20000 in
theorem mw_352 : .instanceMethod yX4_likelyMode ∈ jmAll := jm_in 352 rfl rfl
set_option maxRecDepth 20000 in
theorem mw_353 : .selects RX4 yX4_likelyMode yX4_likelyMode ∈ jmAll := jm_in 353 rfl rfl
set_option maxRecDepth 20000 in
theorem mw_354 : .code yX4_likelyMode cX4_likelyMode 2 (some .int) ∈ jmAll := jm_in 354 rfl rfl
set_option maxRecDepth 20000 in
theorem mw_355 : .methodLink RX4 32 yX4_hasAbove ∈ jmAll := jm_in 355 rfl rfl
set_option maxRecDepth 20000 in
theorem mw_356 : .instanceMethod yX4_hasAbove ∈ jmAll := jm_in 356 rfl rfl
set_option maxRecDepth 20000 in
theorem mw_357 : .selects RX4 yX4_hasAbove yX4_hasAbove ∈ jmAll := jm_in 357 rfl rfl
set_option maxRecDepth 20000 in
theorem mw_358 : .code yX4_hasAbove cX4_hasAbove 2 (some .boolean) ∈ jmAll := jm_in 358 rfl rfl
set_option maxRecDepth 20000 in
theorem mw_359 : .methodLink RX4 36 yX4_hasLeft ∈ jmAll := jm_in 359 rfl rfl
set_option maxRecDepth 20000 in
theorem mw_360 : .instanceMethod yX4_hasLeft ∈ jmAll := jm_in 360 rfl rfl
set_option maxRecDepth 20000 in
theorem mw_361 : .selects RX4 yX4_hasLeft yX4_hasLeft ∈ jmAll := jm_in 361 rfl rfl
set_option maxRecDepth 20000 in
theorem mw_362 : .code yX4_hasLeft cX4_hasLeft 2 (some .boolean) ∈ jmAll := jm_in 362 rfl rfl
set_option maxRecDepth 20000 in
theorem mw_363 : .methodLink RX4 39 Lib.Math.min.name ∈ jmAll := jm_in 363 rfl rfl
set_option maxRecDepth 20000 in
theorem mw_364 : .static Lib.Math.min.name ∈ jmAll := jm_in 364 rfl rfl
set_option maxRecDepth 20000 in
theorem mw_365 : .code Lib.Math.min.name Lib.Math.min.code 2 (some .int) ∈ jmAll := jm_in 365 rfl rfl
set_option maxRecDepth 20000 in
theorem mw_366 : .methodLink RX5 80 yX4_hasAbove ∈ jmAll := jm_in 366 rfl rfl
set_option maxRecDepth 20000 in
theorem mw_367 : .methodLink RX5 84 yX4_hasLeft ∈ jmAll := jm_in 367 rfl rfl
set_option maxRecDepth 20000 in
theorem mw_369 : .static yX9_hasNeeded ∈ jmAll := jm_in 369 rfl rfl
set_option maxRecDepth 20000 in
theorem mw_370 : .code yX9_hasNeeded cX9_hasNeeded 3 (some .boolean) ∈ jmAll := jm_in 370 rfl rfl
set_option maxRecDepth 20000 in
theorem mw_371 : .methodLink RX5 91 yX0_fail ∈ jmAll := jm_in 371 rfl rfl
set_option maxRecDepth 20000 in
theorem mw_372 : .methodLink RX5 44 yX5_readLevels ∈ jmAll := jm_in 372 rfl rfl
set_option maxRecDepth 20000 in
theorem mw_374 : .instanceMethod yX5_readLevels ∈ jmAll := jm_in 374 rfl rfl
set_option maxRecDepth 20000 in
theorem mw_375 : .code yX5_readLevels cX5_readLevels 8 (some .boolean) ∈ jmAll := jm_in 375 rfl rfl
set_option maxRecDepth 20000 in
theorem mw_376 : .methodLink RX5 94 yX0_readLevel ∈ jmAll := jm_in 376 rfl rfl
set_option maxRecDepth 20000 in
theorem mw_377 : .instanceMethod yX0_readLevel ∈ jmAll := jm_in 377 rfl rfl
set_option maxRecDepth 20000 in
theorem mw_378 : .selects RX0 yX0_readLevel yX0_readLevel ∈ jmAll := jm_in 378 rfl rfl
set_option maxRecDepth 20000 in
theorem mw_379 : .code yX0_readLevel cX0_readLevel 4 (some .int) ∈ jmAll := jm_in 379 rfl rfl
set_option maxRecDepth 20000 in
theorem mw_380 : .constant RX0 50 (2147483647) ∈ jmAll := jm_in 380 rfl rfl
set_option maxRecDepth 20000 in
theorem mw_381 : .methodLink RX0 51 yX0_readNumber ∈ jmAll := jm_in 381 rfl rfl
set_option maxRecDepth 20000 in
theorem mw_382 : .methodLink RX5 47 yX0_endsClean ∈ jmAll := jm_in 382 rfl rfl
set_option maxRecDepth 20000 in
theorem mw_383 : .instanceMethod yX0_endsClean ∈ jmAll := jm_in 383 rfl rfl
set_option maxRecDepth 20000 in
theorem mw_384 : .selects RX0 yX0_endsClean yX0_endsClean ∈ jmAll := jm_in 384 rfl rfl
set_option maxRecDepth 20000 in
theorem mw_385 : .code yX0_endsClean cX0_endsClean 3 (some .boolean) ∈ jmAll := jm_in 385 rfl rfl
set_option maxRecDepth 20000 in
theorem mw_386 : .methodLink RX9 127 yX5_fault ∈ jmAll := jm_in 386 rfl rfl
set_option maxRecDepth 20000 in
theorem mw_387 : .instanceMethod yX5_fault ∈ jmAll := jm_in 387 rfl rfl
set_option maxRecDepth 20000 in
theorem mw_388 : .selects RX5 yX5_fault yX5_fault ∈ jmAll := jm_in 388 rfl rfl
set_option maxRecDepth 20000 in
theorem mw_389 : .code yX5_fault cX5_fault 1 (some .int) ∈ jmAll := jm_in 389 rfl rfl
set_option maxRecDepth 20000 in
theorem mw_390 : .methodLink RX9 78 yX3_clear ∈ jmAll := jm_in 390 rfl rfl
set_option maxRecDepth 20000 in
theorem mw_391 : .instanceMethod yX3_clear ∈ jmAll := jm_in 391 rfl rfl
set_option maxRecDepth 20000 in
theorem mw_392 : .selects RX3 yX3_clear yX3_clear ∈ jmAll := jm_in 392 rfl rfl
set_option maxRecDepth 20000 in
theorem mw_393 : .code yX3_clear cX3_clear 4 none ∈ jmAll := jm_in 393 rfl rfl
set_option maxRecDepth 20000 in
theorem mw_394 : .methodLink RX9 104 yX3_blocks ∈ jmAll := jm_in 394 rfl rfl
set_option maxRecDepth 20000 in
theorem mw_395 : .instanceMethod yX3_blocks ∈ jmAll := jm_in 395 rfl rfl
set_option maxRecDepth 20000 in
theorem mw_396 : .selects RX3 yX3_blocks yX3_blocks ∈ jmAll := jm_in 396 rfl rfl
set_option maxRecDepth 20000 in
theorem mw_397 : .code yX3_blocks cX3_blocks 1 (some .int) ∈ jmAll := jm_in 397 rfl rfl
set_option maxRecDepth 20000 in
theorem mw_398 : .methodLink RX9 132 yX1_unpackBlock ∈ jmAll := jm_in 398 rfl rfl
set_option maxRecDepth 20000 in
theorem mw_399 : .instanceMethod yX1_unpackBlock ∈ jmAll := jm_in 399 rfl rfl
set_option maxRecDepth 20000 in
theorem mw_400 : .selects RX1 yX1_unpackBlock yX1_unpackBlock ∈ jmAll := jm_in 400 rfl rfl
set_option maxRecDepth 20000 in
theorem mw_401 : .code yX1_unpackBlock cX1_unpackBlock 3 none ∈ jmAll := jm_in 401 rfl rfl
set_option maxRecDepth 20000 in
theorem mw_402 : .methodLink RX1 39 yX2_lookAround ∈ jmAll := jm_in 402 rfl rfl
set_option maxRecDepth 20000 in
theorem mw_403 : .instanceMethod yX2_lookAround ∈ jmAll := jm_in 403 rfl rfl
set_option maxRecDepth 20000 in
theorem mw_404 : .selects RX2 yX2_lookAround yX2_lookAround ∈ jmAll := jm_in 404 rfl rfl
set_option maxRecDepth 20000 in
theorem mw_405 : .code yX2_lookAround cX2_lookAround 4 none ∈ jmAll := jm_in 405 rfl rfl
set_option maxRecDepth 20000 in
theorem mw_406 : .methodLink RX2 19 yX3_leftOf ∈ jmAll := jm_in 406 rfl rfl
set_option maxRecDepth 20000 in
theorem mw_407 : .instanceMethod yX3_leftOf ∈ jmAll := jm_in 407 rfl rfl
set_option maxRecDepth 20000 in
theorem mw_408 : .selects RX3 yX3_leftOf yX3_leftOf ∈ jmAll := jm_in 408 rfl rfl
set_option maxRecDepth 20000 in
theorem mw_409 : .code yX3_leftOf cX3_leftOf 2 (some .int) ∈ jmAll := jm_in 409 rfl rfl
set_option maxRecDepth 20000 in
theorem mw_410 : .methodLink RX2 25 yX3_topOf ∈ jmAll := jm_in 410 rfl rfl
set_option maxRecDepth 20000 in
theorem mw_411 : .instanceMethod yX3_topOf ∈ jmAll := jm_in 411 rfl rfl
set_option maxRecDepth 20000 in
theorem mw_412 : .selects RX3 yX3_topOf yX3_topOf ∈ jmAll := jm_in 412 rfl rfl
set_option maxRecDepth 20000 in
theorem mw_413 : .code yX3_topOf cX3_topOf 2 (some .int) ∈ jmAll := jm_in 413 rfl rfl
set_option maxRecDepth 20000 in
theorem mw_414 : .methodLink RX2 35 yX2_lookAbove ∈ jmAll := jm_in 414 rfl rfl
set_option maxRecDepth 20000 in
theorem mw_416 : .instanceMethod yX2_lookAbove ∈ jmAll := jm_in 416 rfl rfl
set_option maxRecDepth 20000 in
theorem mw_417 : .code yX2_lookAbove cX2_lookAbove 5 none ∈ jmAll := jm_in 417 rfl rfl
set_option maxRecDepth 20000 in
theorem mw_418 : .methodLink RX2 42 yX3_get ∈ jmAll := jm_in 418 rfl rfl
set_option maxRecDepth 20000 in
theorem mw_419 : .methodLink RX2 39 yX2_lookLeft ∈ jmAll := jm_in 419 rfl rfl
set_option maxRecDepth 20000 in
theorem mw_421 : .instanceMethod yX2_lookLeft ∈ jmAll := jm_in 421 rfl rfl
set_option maxRecDepth 20000 in
theorem mw_422 : .code yX2_lookLeft cX2_lookLeft 4 none ∈ jmAll := jm_in 422 rfl rfl
set_option maxRecDepth 20000 in
theorem mw_423 : .methodLink RX2 46 yX2_meanOfSides ∈ jmAll := jm_in 423 rfl rfl
set_option maxRecDepth 20000 in
theorem mw_425 : .instanceMethod yX2_meanOfSides ∈ jmAll := jm_in 425 rfl rfl
set_option maxRecDepth 20000 in
theorem mw_426 : .code yX2_meanOfSides cX2_meanOfSides 1 (some .int) ∈ jmAll := jm_in 426 rfl rfl
set_option maxRecDepth 20000 in
theorem mw_427 : .methodLink RX2 57 yX2_sumOfSide ∈ jmAll := jm_in 427 rfl rfl
set_option maxRecDepth 20000 in
theorem mw_429 : .instanceMethod yX2_sumOfSide ∈ jmAll := jm_in 429 rfl rfl
set_option maxRecDepth 20000 in
theorem mw_430 : .code yX2_sumOfSide cX2_sumOfSide 4 (some .int) ∈ jmAll := jm_in 430 rfl rfl
set_option maxRecDepth 20000 in
theorem mw_431 : .methodLink RX1 49 yX1_foretell ∈ jmAll := jm_in 431 rfl rfl
set_option maxRecDepth 20000 in
theorem mw_433 : .instanceMethod yX1_foretell ∈ jmAll := jm_in 433 rfl rfl
set_option maxRecDepth 20000 in
theorem mw_434 : .code yX1_foretell cX1_foretell 3 none ∈ jmAll := jm_in 434 rfl rfl
set_option maxRecDepth 20000 in
theorem mw_435 : .methodLink RX1 89 yX2_guess ∈ jmAll := jm_in 435 rfl rfl
set_option maxRecDepth 20000 in
theorem mw_436 : .instanceMethod yX2_guess ∈ jmAll := jm_in 436 rfl rfl
set_option maxRecDepth 20000 in
theorem mw_437 : .selects RX2 yX2_guess yX2_guess ∈ jmAll := jm_in 437 rfl rfl
set_option maxRecDepth 20000 in
theorem mw_438 : .code yX2_guess cX2_guess 4 (some .int) ∈ jmAll := jm_in 438 rfl rfl
set_option maxRecDepth 20000 in
theorem mw_439 : .methodLink RX2 64 yX2_three ∈ jmAll := jm_in 439 rfl rfl
set_option maxRecDepth 20000 in
theorem mw_441 : .instanceMethod yX2_three ∈ jmAll := jm_in 441 rfl rfl
set_option maxRecDepth 20000 in
theorem mw_442 : .code yX2_three cX2_three 3 (some .int) ∈ jmAll := jm_in 442 rfl rfl
set_option maxRecDepth 20000 in
theorem mw_443 : .methodLink RX2 67 yX2_steep ∈ jmAll := jm_in 443 rfl rfl
set_option maxRecDepth 20000 in
theorem mw_445 : .instanceMethod yX2_steep ∈ jmAll := jm_in 445 rfl rfl
set_option maxRecDepth 20000 in
theorem mw_446 : .code yX2_steep cX2_steep 6 (some .int) ∈ jmAll := jm_in 446 rfl rfl
set_option maxRecDepth 20000 in
theorem mw_447 : .methodLink RX2 74 yX2_two ∈ jmAll := jm_in 447 rfl rfl
set_option maxRecDepth 20000 in
theorem mw_449 : .instanceMethod yX2_two ∈ jmAll := jm_in 449 rfl rfl
set_option maxRecDepth 20000 in
theorem mw_450 : .code yX2_two cX2_two 3 (some .int) ∈ jmAll := jm_in 450 rfl rfl
set_option maxRecDepth 20000 in
theorem mw_451 : .methodLink RX2 71 yX2_leaning ∈ jmAll := jm_in 451 rfl rfl
set_option maxRecDepth 20000 in
theorem mw_453 : .instanceMethod yX2_leaning ∈ jmAll := jm_in 453 rfl rfl
set_option maxRecDepth 20000 in
theorem mw_454 : .code yX2_leaning cX2_leaning 5 (some .int) ∈ jmAll := jm_in 454 rfl rfl
set_option maxRecDepth 20000 in
theorem mw_455 : .methodLink RX1 75 yX1_comeBack ∈ jmAll := jm_in 455 rfl rfl
set_option maxRecDepth 20000 in
theorem mw_457 : .instanceMethod yX1_comeBack ∈ jmAll := jm_in 457 rfl rfl
set_option maxRecDepth 20000 in
theorem mw_458 : .code yX1_comeBack cX1_comeBack 7 none ∈ jmAll := jm_in 458 rfl rfl
set_option maxRecDepth 20000 in
theorem mw_459 : .methodLink RX1 30 yX3_leftOf ∈ jmAll := jm_in 459 rfl rfl
set_option maxRecDepth 20000 in
theorem mw_460 : .methodLink RX1 36 yX3_topOf ∈ jmAll := jm_in 460 rfl rfl
set_option maxRecDepth 20000 in
theorem mw_461 : .methodLink RX1 100 yX8_back ∈ jmAll := jm_in 461 rfl rfl
set_option maxRecDepth 20000 in
theorem mw_462 : .instanceMethod yX8_back ∈ jmAll := jm_in 462 rfl rfl
set_option maxRecDepth 20000 in
theorem mw_463 : .selects RX8 yX8_back yX8_back ∈ jmAll := jm_in 463 rfl rfl
set_option maxRecDepth 20000 in
theorem mw_464 : .code yX8_back cX8_back 6 none ∈ jmAll := jm_in 464 rfl rfl
set_option maxRecDepth 20000 in
theorem mw_469 : .methodLink RX8 21 yX8_factorOf ∈ jmAll := jm_in 469 rfl rfl
set_option maxRecDepth 20000 in
theorem mw_470 : .static yX8_factorOf ∈ jmAll := jm_in 470 rfl rfl
set_option maxRecDepth 20000 in
theorem mw_471 : .code yX8_factorOf cX8_factorOf 3 (some .int) ∈ jmAll := jm_in 471 rfl rfl
set_option maxRecDepth 20000 in
theorem mw_472 : .methodLink RX8 25 yX8_backLine ∈ jmAll := jm_in 472 rfl rfl
set_option maxRecDepth 20000 in
theorem mw_474 : .instanceMethod yX8_backLine ∈ jmAll := jm_in 474 rfl rfl
set_option maxRecDepth 20000 in
theorem mw_475 : .code yX8_backLine cX8_backLine 11 none ∈ jmAll := jm_in 475 rfl rfl
set_option maxRecDepth 20000 in
theorem mw_477 : .static yX9_bring ∈ jmAll := jm_in 477 rfl rfl
set_option maxRecDepth 20000 in
theorem mw_478 : .code yX9_bring cX9_bring 3 (some .int) ∈ jmAll := jm_in 478 rfl rfl
set_option maxRecDepth 20000 in
theorem mw_479 : .methodLink RX1 106 yX3_set ∈ jmAll := jm_in 479 rfl rfl
set_option maxRecDepth 20000 in
theorem mw_480 : .instanceMethod yX3_set ∈ jmAll := jm_in 480 rfl rfl
set_option maxRecDepth 20000 in
theorem mw_481 : .selects RX3 yX3_set yX3_set ∈ jmAll := jm_in 481 rfl rfl
set_option maxRecDepth 20000 in
theorem mw_482 : .code yX3_set cX3_set 4 none ∈ jmAll := jm_in 482 rfl rfl
set_option maxRecDepth 20000 in
theorem mw_483 : .methodLink RX9 112 yX3_smoothEdges ∈ jmAll := jm_in 483 rfl rfl
set_option maxRecDepth 20000 in
theorem mw_484 : .instanceMethod yX3_smoothEdges ∈ jmAll := jm_in 484 rfl rfl
set_option maxRecDepth 20000 in
theorem mw_485 : .selects RX3 yX3_smoothEdges yX3_smoothEdges ∈ jmAll := jm_in 485 rfl rfl
set_option maxRecDepth 20000 in
theorem mw_486 : .code yX3_smoothEdges cX3_smoothEdges 4 none ∈ jmAll := jm_in 486 rfl rfl
set_option maxRecDepth 20000 in
theorem mw_487 : .methodLink RX3 22 yX3_smoothAcross ∈ jmAll := jm_in 487 rfl rfl
set_option maxRecDepth 20000 in
theorem mw_489 : .instanceMethod yX3_smoothAcross ∈ jmAll := jm_in 489 rfl rfl
set_option maxRecDepth 20000 in
theorem mw_490 : .code yX3_smoothAcross cX3_smoothAcross 11 none ∈ jmAll := jm_in 490 rfl rfl
set_option maxRecDepth 20000 in
theorem mw_491 : .methodLink RX3 26 Lib.Math.abs.name ∈ jmAll := jm_in 491 rfl rfl
set_option maxRecDepth 20000 in
theorem mw_492 : .static Lib.Math.abs.name ∈ jmAll := jm_in 492 rfl rfl
set_option maxRecDepth 20000 in
theorem mw_493 : .code Lib.Math.abs.name Lib.Math.abs.code 1 (some .int) ∈ jmAll := jm_in 493 rfl rfl
set_option maxRecDepth 20000 in
theorem mw_496 : .instanceMethod yX9_place ∈ jmAll := jm_in 496 rfl rfl
set_option maxRecDepth 20000 in
theorem mw_497 : .selects RX9 yX9_place yX9_place ∈ jmAll := jm_in 497 rfl rfl
set_option maxRecDepth 20000 in
theorem mw_498 : .code yX9_place cX9_place 1 (some .int) ∈ jmAll := jm_in 498 rfl rfl
set_option maxRecDepth 20000 in
theorem mw_499 : .methodLink RX9 135 yX5_faultPlace ∈ jmAll := jm_in 499 rfl rfl
set_option maxRecDepth 20000 in
theorem mw_500 : .instanceMethod yX5_faultPlace ∈ jmAll := jm_in 500 rfl rfl
set_option maxRecDepth 20000 in
theorem mw_501 : .selects RX5 yX5_faultPlace yX5_faultPlace ∈ jmAll := jm_in 501 rfl rfl
set_option maxRecDepth 20000 in
theorem mw_502 : .code yX5_faultPlace cX5_faultPlace 1 (some .int) ∈ jmAll := jm_in 502 rfl rfl
set_option maxRecDepth 20000 in
theorem mw_504 : .instanceMethod yX9_bits ∈ jmAll := jm_in 504 rfl rfl
set_option maxRecDepth 20000 in
theorem mw_505 : .selects RX9 yX9_bits yX9_bits ∈ jmAll := jm_in 505 rfl rfl
set_option maxRecDepth 20000 in
theorem mw_506 : .code yX9_bits cX9_bits 2 (some .int) ∈ jmAll := jm_in 506 rfl rfl
set_option maxRecDepth 20000 in
theorem mw_507 : .methodLink RX9 144 yX7_get ∈ jmAll := jm_in 507 rfl rfl
set_option maxRecDepth 20000 in
theorem mw_508 : .instanceMethod yX7_get ∈ jmAll := jm_in 508 rfl rfl
set_option maxRecDepth 20000 in
theorem mw_509 : .selects RX7 yX7_get yX7_get ∈ jmAll := jm_in 509 rfl rfl
set_option maxRecDepth 20000 in
theorem mw_510 : .code yX7_get cX7_get 2 (some .int) ∈ jmAll := jm_in 510 rfl rfl
set_option maxRecDepth 20000 in
theorem mw_516 : .instanceMethod yX9_begin ∈ jmAll := jm_in 516 rfl rfl
set_option maxRecDepth 20000 in
theorem mw_517 : .selects RX9 yX9_begin yX9_begin ∈ jmAll := jm_in 517 rfl rfl
set_option maxRecDepth 20000 in
theorem mw_518 : .code yX9_begin cX9_begin 3 none ∈ jmAll := jm_in 518 rfl rfl
set_option maxRecDepth 20000 in
theorem mw_519 : .classLink RX9 75 "java/lang/IllegalArgumentException" ∈ jmAll := jm_in 519 rfl rfl
set_option maxRecDepth 20000 in
theorem mw_585 : .instanceMethod yX9_put ∈ jmAll := jm_in 585 rfl rfl
set_option maxRecDepth 20000 in
theorem mw_586 : .selects RX9 yX9_put yX9_put ∈ jmAll := jm_in 586 rfl rfl
set_option maxRecDepth 20000 in
theorem mw_587 : .code yX9_put cX9_put 5 none ∈ jmAll := jm_in 587 rfl rfl
set_option maxRecDepth 20000 in
theorem mw_588 : .methodLink RX9 86 yX9_byteOf ∈ jmAll := jm_in 588 rfl rfl
set_option maxRecDepth 20000 in
theorem mw_589 : .static yX9_byteOf ∈ jmAll := jm_in 589 rfl rfl
set_option maxRecDepth 20000 in
theorem mw_590 : .code yX9_byteOf cX9_byteOf 2 (some .int) ∈ jmAll := jm_in 590 rfl rfl
set_option maxRecDepth 20000 in
theorem mw_591 : .methodLink RX9 90 yX3_set ∈ jmAll := jm_in 591 rfl rfl
set_option maxRecDepth 20000 in
theorem mw_596 : .instanceMethod yX9_pack ∈ jmAll := jm_in 596 rfl rfl
set_option maxRecDepth 20000 in
theorem mw_597 : .selects RX9 yX9_pack yX9_pack ∈ jmAll := jm_in 597 rfl rfl
set_option maxRecDepth 20000 in
theorem mw_598 : .code yX9_pack cX9_pack 4 (some .int) ∈ jmAll := jm_in 598 rfl rfl
set_option maxRecDepth 20000 in
theorem mw_599 : .methodLink RX9 108 yX1_packBlock ∈ jmAll := jm_in 599 rfl rfl
set_option maxRecDepth 20000 in
theorem mw_600 : .instanceMethod yX1_packBlock ∈ jmAll := jm_in 600 rfl rfl
set_option maxRecDepth 20000 in
theorem mw_601 : .selects RX1 yX1_packBlock yX1_packBlock ∈ jmAll := jm_in 601 rfl rfl
set_option maxRecDepth 20000 in
theorem mw_602 : .code yX1_packBlock cX1_packBlock 7 none ∈ jmAll := jm_in 602 rfl rfl
set_option maxRecDepth 20000 in
theorem mw_603 : .methodLink RX1 45 yX1_bestMode ∈ jmAll := jm_in 603 rfl rfl
set_option maxRecDepth 20000 in
theorem mw_605 : .instanceMethod yX1_bestMode ∈ jmAll := jm_in 605 rfl rfl
set_option maxRecDepth 20000 in
theorem mw_606 : .code yX1_bestMode cX1_bestMode 7 (some .int) ∈ jmAll := jm_in 606 rfl rfl
set_option maxRecDepth 20000 in
theorem mw_607 : .constant RX1 81 (2147483647) ∈ jmAll := jm_in 607 rfl rfl
set_option maxRecDepth 20000 in
theorem mw_608 : .methodLink RX1 82 yX2_mayUse ∈ jmAll := jm_in 608 rfl rfl
set_option maxRecDepth 20000 in
theorem mw_609 : .instanceMethod yX2_mayUse ∈ jmAll := jm_in 609 rfl rfl
set_option maxRecDepth 20000 in
theorem mw_610 : .selects RX2 yX2_mayUse yX2_mayUse ∈ jmAll := jm_in 610 rfl rfl
set_option maxRecDepth 20000 in
theorem mw_611 : .code yX2_mayUse cX2_mayUse 2 (some .boolean) ∈ jmAll := jm_in 611 rfl rfl
set_option maxRecDepth 20000 in
theorem mw_613 : .methodLink RX1 86 yX1_sumOfSizes ∈ jmAll := jm_in 613 rfl rfl
set_option maxRecDepth 20000 in
theorem mw_615 : .instanceMethod yX1_sumOfSizes ∈ jmAll := jm_in 615 rfl rfl
set_option maxRecDepth 20000 in
theorem mw_616 : .code yX1_sumOfSizes cX1_sumOfSizes 5 (some .int) ∈ jmAll := jm_in 616 rfl rfl
set_option maxRecDepth 20000 in
theorem mw_617 : .methodLink RX1 55 yX1_lessTold ∈ jmAll := jm_in 617 rfl rfl
set_option maxRecDepth 20000 in
theorem mw_619 : .instanceMethod yX1_lessTold ∈ jmAll := jm_in 619 rfl rfl
set_option maxRecDepth 20000 in
theorem mw_620 : .code yX1_lessTold cX1_lessTold 4 (some .int) ∈ jmAll := jm_in 620 rfl rfl
set_option maxRecDepth 20000 in
theorem mw_621 : .methodLink RX1 97 yX3_get ∈ jmAll := jm_in 621 rfl rfl
set_option maxRecDepth 20000 in
theorem mw_622 : .methodLink RX1 92 Lib.Math.abs.name ∈ jmAll := jm_in 622 rfl rfl
set_option maxRecDepth 20000 in
theorem mw_623 : .methodLink RX1 71 yX8_forth ∈ jmAll := jm_in 623 rfl rfl
set_option maxRecDepth 20000 in
theorem mw_624 : .instanceMethod yX8_forth ∈ jmAll := jm_in 624 rfl rfl
set_option maxRecDepth 20000 in
theorem mw_625 : .selects RX8 yX8_forth yX8_forth ∈ jmAll := jm_in 625 rfl rfl
set_option maxRecDepth 20000 in
theorem mw_626 : .code yX8_forth cX8_forth 10 none ∈ jmAll := jm_in 626 rfl rfl
set_option maxRecDepth 20000 in
theorem mw_627 : .methodLink RX8 29 yX8_forthLine ∈ jmAll := jm_in 627 rfl rfl
set_option maxRecDepth 20000 in
theorem mw_629 : .instanceMethod yX8_forthLine ∈ jmAll := jm_in 629 rfl rfl
set_option maxRecDepth 20000 in
theorem mw_630 : .code yX8_forthLine cX8_forthLine 11 none ∈ jmAll := jm_in 630 rfl rfl
set_option maxRecDepth 20000 in
theorem mw_631 : .methodLink RX8 32 Lib.Math.abs.name ∈ jmAll := jm_in 631 rfl rfl
set_option maxRecDepth 20000 in
theorem mw_634 : .methodLink RX9 116 yX6_write ∈ jmAll := jm_in 634 rfl rfl
set_option maxRecDepth 20000 in
theorem mw_635 : .instanceMethod yX6_write ∈ jmAll := jm_in 635 rfl rfl
set_option maxRecDepth 20000 in
theorem mw_636 : .selects RX6 yX6_write yX6_write ∈ jmAll := jm_in 636 rfl rfl
set_option maxRecDepth 20000 in
theorem mw_637 : .code yX6_write cX6_write 3 none ∈ jmAll := jm_in 637 rfl rfl
set_option maxRecDepth 20000 in
theorem mw_638 : .methodLink RX6 32 yX6_writeNumber ∈ jmAll := jm_in 638 rfl rfl
set_option maxRecDepth 20000 in
theorem mw_640 : .instanceMethod yX6_writeNumber ∈ jmAll := jm_in 640 rfl rfl
set_option maxRecDepth 20000 in
theorem mw_641 : .code yX6_writeNumber cX6_writeNumber 3 none ∈ jmAll := jm_in 641 rfl rfl
set_option maxRecDepth 20000 in
theorem mw_642 : .methodLink RX6 46 yX6_writeBits ∈ jmAll := jm_in 642 rfl rfl
set_option maxRecDepth 20000 in
theorem mw_644 : .instanceMethod yX6_writeBits ∈ jmAll := jm_in 644 rfl rfl
set_option maxRecDepth 20000 in
theorem mw_645 : .code yX6_writeBits cX6_writeBits 4 none ∈ jmAll := jm_in 645 rfl rfl
set_option maxRecDepth 20000 in
theorem mw_646 : .methodLink RX6 72 yX7_add ∈ jmAll := jm_in 646 rfl rfl
set_option maxRecDepth 20000 in
theorem mw_647 : .instanceMethod yX7_add ∈ jmAll := jm_in 647 rfl rfl
set_option maxRecDepth 20000 in
theorem mw_648 : .selects RX7 yX7_add yX7_add ∈ jmAll := jm_in 648 rfl rfl
set_option maxRecDepth 20000 in
theorem mw_649 : .code yX7_add cX7_add 2 none ∈ jmAll := jm_in 649 rfl rfl
set_option maxRecDepth 20000 in
theorem mw_650 : .methodLink RX7 19 yX7_set ∈ jmAll := jm_in 650 rfl rfl
set_option maxRecDepth 20000 in
theorem mw_651 : .instanceMethod yX7_set ∈ jmAll := jm_in 651 rfl rfl
set_option maxRecDepth 20000 in
theorem mw_652 : .selects RX7 yX7_set yX7_set ∈ jmAll := jm_in 652 rfl rfl
set_option maxRecDepth 20000 in
theorem mw_653 : .code yX7_set cX7_set 3 none ∈ jmAll := jm_in 653 rfl rfl
set_option maxRecDepth 20000 in
theorem mw_654 : .methodLink RX6 50 yX4_blocks ∈ jmAll := jm_in 654 rfl rfl
set_option maxRecDepth 20000 in
theorem mw_655 : .methodLink RX6 58 yX4_likelyMode ∈ jmAll := jm_in 655 rfl rfl
set_option maxRecDepth 20000 in
theorem mw_656 : .methodLink RX6 62 yX6_writeMode ∈ jmAll := jm_in 656 rfl rfl
set_option maxRecDepth 20000 in
theorem mw_658 : .instanceMethod yX6_writeMode ∈ jmAll := jm_in 658 rfl rfl
set_option maxRecDepth 20000 in
theorem mw_659 : .code yX6_writeMode cX6_writeMode 3 none ∈ jmAll := jm_in 659 rfl rfl
set_option maxRecDepth 20000 in
theorem mw_660 : .methodLink RX6 68 yX6_writeLevels ∈ jmAll := jm_in 660 rfl rfl
set_option maxRecDepth 20000 in
theorem mw_662 : .instanceMethod yX6_writeLevels ∈ jmAll := jm_in 662 rfl rfl
set_option maxRecDepth 20000 in
theorem mw_663 : .code yX6_writeLevels cX6_writeLevels 7 none ∈ jmAll := jm_in 663 rfl rfl
set_option maxRecDepth 20000 in
theorem mw_669 : .instanceMethod yX9_feed ∈ jmAll := jm_in 669 rfl rfl
set_option maxRecDepth 20000 in
theorem mw_670 : .selects RX9 yX9_feed yX9_feed ∈ jmAll := jm_in 670 rfl rfl
set_option maxRecDepth 20000 in
theorem mw_671 : .code yX9_feed cX9_feed 3 (some .int) ∈ jmAll := jm_in 671 rfl rfl
set_option maxRecDepth 20000 in
theorem mw_672 : .classLink RX9 138 "java/lang/IllegalStateException" ∈ jmAll := jm_in 672 rfl rfl
set_option maxRecDepth 20000 in
theorem mw_687 : .methodLink RX9 141 yX7_add ∈ jmAll := jm_in 687 rfl rfl
set_option maxRecDepth 20000 in
theorem mw_692 : .instanceMethod yX9_end ∈ jmAll := jm_in 692 rfl rfl
set_option maxRecDepth 20000 in
theorem mw_693 : .selects RX9 yX9_end yX9_end ∈ jmAll := jm_in 693 rfl rfl
set_option maxRecDepth 20000 in
theorem mw_694 : .code yX9_end cX9_end 2 none ∈ jmAll := jm_in 694 rfl rfl
set_option maxRecDepth 20000 in
theorem mw_699 : .instanceMethod yX9_alter ∈ jmAll := jm_in 699 rfl rfl
set_option maxRecDepth 20000 in
theorem mw_700 : .selects RX9 yX9_alter yX9_alter ∈ jmAll := jm_in 700 rfl rfl
set_option maxRecDepth 20000 in
theorem mw_701 : .code yX9_alter cX9_alter 4 (some .int) ∈ jmAll := jm_in 701 rfl rfl
set_option maxRecDepth 20000 in
theorem mw_702 : .methodLink RX9 147 yX7_set ∈ jmAll := jm_in 702 rfl rfl
set_option maxRecDepth 20000 in
theorem mw_707 : .instanceMethod yX9_block ∈ jmAll := jm_in 707 rfl rfl
set_option maxRecDepth 20000 in
theorem mw_708 : .selects RX9 yX9_block yX9_block ∈ jmAll := jm_in 708 rfl rfl
set_option maxRecDepth 20000 in
theorem mw_709 : .code yX9_block cX9_block 3 (some .int) ∈ jmAll := jm_in 709 rfl rfl
set_option maxRecDepth 20000 in
theorem mw_710 : .methodLink RX9 149 yX4_blocks ∈ jmAll := jm_in 710 rfl rfl
set_option maxRecDepth 20000 in
theorem mw_715 : .instanceMethod yX9_foretold ∈ jmAll := jm_in 715 rfl rfl
set_option maxRecDepth 20000 in
theorem mw_716 : .selects RX9 yX9_foretold yX9_foretold ∈ jmAll := jm_in 716 rfl rfl
set_option maxRecDepth 20000 in
theorem mw_717 : .code yX9_foretold cX9_foretold 5 (some .int) ∈ jmAll := jm_in 717 rfl rfl
set_option maxRecDepth 20000 in
theorem mw_718 : .methodLink RX9 157 yX2_lookAround ∈ jmAll := jm_in 718 rfl rfl
set_option maxRecDepth 20000 in
theorem mw_719 : .methodLink RX9 160 yX2_mayUse ∈ jmAll := jm_in 719 rfl rfl
set_option maxRecDepth 20000 in
theorem mw_720 : .methodLink RX9 164 yX2_guess ∈ jmAll := jm_in 720 rfl rfl
set_option maxRecDepth 20000 in
theorem mw_725 : .instanceMethod yX9_about ∈ jmAll := jm_in 725 rfl rfl
set_option maxRecDepth 20000 in
theorem mw_726 : .selects RX9 yX9_about yX9_about ∈ jmAll := jm_in 726 rfl rfl
set_option maxRecDepth 20000 in
theorem mw_727 : .code yX9_about cX9_about 2 (some .int) ∈ jmAll := jm_in 727 rfl rfl
set_option maxRecDepth 20000 in
theorem mw_729 : .instantiable RX10 18 ∈ jmAll := jm_in 729 rfl rfl
set_option maxRecDepth 20000 in
theorem mw_731 : .instanceMethod yX10_init ∈ jmAll := jm_in 731 rfl rfl
set_option maxRecDepth 20000 in
theorem mw_732 : .code yX10_init cX10_init 1 none ∈ jmAll := jm_in 732 rfl rfl
set_option maxRecDepth 20000 in
theorem mw_733 : .methodLink RX10 1 objectInit ∈ jmAll := jm_in 733 rfl rfl
set_option maxRecDepth 20000 in
theorem mw_734 : .fieldLink RX10 7 "IntraMillModel" "across" "I" ∈ jmAll := jm_in 734 rfl rfl
set_option maxRecDepth 20000 in
theorem mw_735 : .fieldLink RX10 13 "IntraMillModel" "down" "I" ∈ jmAll := jm_in 735 rfl rfl
set_option maxRecDepth 20000 in
theorem mw_736 : .fieldLink RX10 16 "IntraMillModel" "picture" "[I" ∈ jmAll := jm_in 736 rfl rfl
set_option maxRecDepth 20000 in
theorem mw_737 : .fieldLink RX10 20 "IntraMillModel" "given" "[I" ∈ jmAll := jm_in 737 rfl rfl
set_option maxRecDepth 20000 in
theorem mw_738 : .fieldLink RX10 23 "IntraMillModel" "kept" "[I" ∈ jmAll := jm_in 738 rfl rfl
set_option maxRecDepth 20000 in
theorem mw_739 : .fieldLink RX10 26 "IntraMillModel" "modes" "[I" ∈ jmAll := jm_in 739 rfl rfl
set_option maxRecDepth 20000 in
theorem mw_740 : .fieldLink RX10 29 "IntraMillModel" "coefficients" "[I" ∈ jmAll := jm_in 740 rfl rfl
set_option maxRecDepth 20000 in
theorem mw_741 : .fieldLink RX10 32 "IntraMillModel" "newModes" "[I" ∈ jmAll := jm_in 741 rfl rfl
set_option maxRecDepth 20000 in
theorem mw_742 : .fieldLink RX10 35 "IntraMillModel" "newCoefficients" "[I" ∈ jmAll := jm_in 742 rfl rfl
set_option maxRecDepth 20000 in
theorem mw_743 : .fieldLink RX10 58 "IntraMillModel" "qp" "I" ∈ jmAll := jm_in 743 rfl rfl
set_option maxRecDepth 20000 in
theorem mw_744 : .fieldLink RX10 61 "IntraMillModel" "smoothed" "Z" ∈ jmAll := jm_in 744 rfl rfl
set_option maxRecDepth 20000 in
theorem mw_745 : .fieldLink RX10 38 "IntraMillModel" "bytes" "[I" ∈ jmAll := jm_in 745 rfl rfl
set_option maxRecDepth 20000 in
theorem mw_746 : .fieldLink RX10 176 "IntraMillModel" "size" "I" ∈ jmAll := jm_in 746 rfl rfl
set_option maxRecDepth 20000 in
theorem mw_747 : .fieldLink RX10 138 "IntraMillModel" "at" "I" ∈ jmAll := jm_in 747 rfl rfl
set_option maxRecDepth 20000 in
theorem mw_748 : .fieldLink RX10 41 "IntraMillModel" "place" "I" ∈ jmAll := jm_in 748 rfl rfl
set_option maxRecDepth 20000 in
theorem mw_749 : .fieldLink RX10 178 "IntraMillModel" "fault" "I" ∈ jmAll := jm_in 749 rfl rfl
set_option maxRecDepth 20000 in
theorem mw_750 : .fieldLink RX10 44 "IntraMillModel" "work" "[I" ∈ jmAll := jm_in 750 rfl rfl
set_option maxRecDepth 20000 in
theorem mw_751 : .fieldLink RX10 47 "IntraMillModel" "thrown" "I" ∈ jmAll := jm_in 751 rfl rfl
set_option maxRecDepth 20000 in
theorem mw_790 : .instanceMethod yX10_thrown ∈ jmAll := jm_in 790 rfl rfl
set_option maxRecDepth 20000 in
theorem mw_791 : .selects RX10 yX10_thrown yX10_thrown ∈ jmAll := jm_in 791 rfl rfl
set_option maxRecDepth 20000 in
theorem mw_792 : .code yX10_thrown cX10_thrown 1 (some .int) ∈ jmAll := jm_in 792 rfl rfl
set_option maxRecDepth 20000 in
theorem mw_794 : .instanceMethod yX10_begin ∈ jmAll := jm_in 794 rfl rfl
set_option maxRecDepth 20000 in
theorem mw_795 : .selects RX10 yX10_begin yX10_begin ∈ jmAll := jm_in 795 rfl rfl
set_option maxRecDepth 20000 in
theorem mw_796 : .code yX10_begin cX10_begin 4 none ∈ jmAll := jm_in 796 rfl rfl
set_option maxRecDepth 20000 in
theorem mw_797 : .methodLink RX10 50 yX10_within ∈ jmAll := jm_in 797 rfl rfl
set_option maxRecDepth 20000 in
theorem mw_798 : .static yX10_within ∈ jmAll := jm_in 798 rfl rfl
set_option maxRecDepth 20000 in
theorem mw_799 : .code yX10_within cX10_within 3 (some .boolean) ∈ jmAll := jm_in 799 rfl rfl
set_option maxRecDepth 20000 in
theorem mw_800 : .methodLink RX10 54 yX10_fails ∈ jmAll := jm_in 800 rfl rfl
set_option maxRecDepth 20000 in
theorem mw_802 : .instanceMethod yX10_fails ∈ jmAll := jm_in 802 rfl rfl
set_option maxRecDepth 20000 in
theorem mw_803 : .code yX10_fails cX10_fails 3 (some .boolean) ∈ jmAll := jm_in 803 rfl rfl
set_option maxRecDepth 20000 in
theorem mw_805 : .instanceMethod yX10_put ∈ jmAll := jm_in 805 rfl rfl
set_option maxRecDepth 20000 in
theorem mw_806 : .selects RX10 yX10_put yX10_put ∈ jmAll := jm_in 806 rfl rfl
set_option maxRecDepth 20000 in
theorem mw_807 : .code yX10_put cX10_put 5 none ∈ jmAll := jm_in 807 rfl rfl
set_option maxRecDepth 20000 in
theorem mw_809 : .instanceMethod yX10_pixel ∈ jmAll := jm_in 809 rfl rfl
set_option maxRecDepth 20000 in
theorem mw_810 : .selects RX10 yX10_pixel yX10_pixel ∈ jmAll := jm_in 810 rfl rfl
set_option maxRecDepth 20000 in
theorem mw_811 : .code yX10_pixel cX10_pixel 3 (some .int) ∈ jmAll := jm_in 811 rfl rfl
set_option maxRecDepth 20000 in
theorem mw_813 : .instanceMethod yX10_pack ∈ jmAll := jm_in 813 rfl rfl
set_option maxRecDepth 20000 in
theorem mw_814 : .selects RX10 yX10_pack yX10_pack ∈ jmAll := jm_in 814 rfl rfl
set_option maxRecDepth 20000 in
theorem mw_815 : .code yX10_pack cX10_pack 6 (some .int) ∈ jmAll := jm_in 815 rfl rfl
set_option maxRecDepth 20000 in
theorem mw_816 : .methodLink RX10 144 yX10_writeU ∈ jmAll := jm_in 816 rfl rfl
set_option maxRecDepth 20000 in
theorem mw_818 : .instanceMethod yX10_writeU ∈ jmAll := jm_in 818 rfl rfl
set_option maxRecDepth 20000 in
theorem mw_819 : .code yX10_writeU cX10_writeU 3 none ∈ jmAll := jm_in 819 rfl rfl
set_option maxRecDepth 20000 in
theorem mw_820 : .methodLink RX10 141 yX10_write ∈ jmAll := jm_in 820 rfl rfl
set_option maxRecDepth 20000 in
theorem mw_822 : .instanceMethod yX10_write ∈ jmAll := jm_in 822 rfl rfl
set_option maxRecDepth 20000 in
theorem mw_823 : .code yX10_write cX10_write 4 none ∈ jmAll := jm_in 823 rfl rfl
set_option maxRecDepth 20000 in
theorem mw_824 : .methodLink RX10 155 yX10_may ∈ jmAll := jm_in 824 rfl rfl
set_option maxRecDepth 20000 in
theorem mw_826 : .instanceMethod yX10_may ∈ jmAll := jm_in 826 rfl rfl
set_option maxRecDepth 20000 in
theorem mw_827 : .code yX10_may cX10_may 6 (some .boolean) ∈ jmAll := jm_in 827 rfl rfl
set_option maxRecDepth 20000 in
theorem mw_828 : .methodLink RX10 72 yX10_hasAbove ∈ jmAll := jm_in 828 rfl rfl
set_option maxRecDepth 20000 in
theorem mw_830 : .instanceMethod yX10_hasAbove ∈ jmAll := jm_in 830 rfl rfl
set_option maxRecDepth 20000 in
theorem mw_831 : .code yX10_hasAbove cX10_hasAbove 2 (some .boolean) ∈ jmAll := jm_in 831 rfl rfl
set_option maxRecDepth 20000 in
theorem mw_832 : .methodLink RX10 76 yX10_hasLeft ∈ jmAll := jm_in 832 rfl rfl
set_option maxRecDepth 20000 in
theorem mw_834 : .instanceMethod yX10_hasLeft ∈ jmAll := jm_in 834 rfl rfl
set_option maxRecDepth 20000 in
theorem mw_835 : .code yX10_hasLeft cX10_hasLeft 2 (some .boolean) ∈ jmAll := jm_in 835 rfl rfl
set_option maxRecDepth 20000 in
theorem mw_836 : .methodLink RX10 159 yX10_costOf ∈ jmAll := jm_in 836 rfl rfl
set_option maxRecDepth 20000 in
theorem mw_838 : .instanceMethod yX10_costOf ∈ jmAll := jm_in 838 rfl rfl
set_option maxRecDepth 20000 in
theorem mw_839 : .code yX10_costOf cX10_costOf 5 (some .int) ∈ jmAll := jm_in 839 rfl rfl
set_option maxRecDepth 20000 in
theorem mw_840 : .methodLink RX10 122 yX10_givenAt ∈ jmAll := jm_in 840 rfl rfl
set_option maxRecDepth 20000 in
theorem mw_842 : .instanceMethod yX10_givenAt ∈ jmAll := jm_in 842 rfl rfl
set_option maxRecDepth 20000 in
theorem mw_843 : .code yX10_givenAt cX10_givenAt 4 (some .int) ∈ jmAll := jm_in 843 rfl rfl
set_option maxRecDepth 20000 in
theorem mw_844 : .methodLink RX10 116 yX10_told ∈ jmAll := jm_in 844 rfl rfl
set_option maxRecDepth 20000 in
theorem mw_846 : .instanceMethod yX10_told ∈ jmAll := jm_in 846 rfl rfl
set_option maxRecDepth 20000 in
theorem mw_847 : .code yX10_told cX10_told 7 (some .int) ∈ jmAll := jm_in 847 rfl rfl
set_option maxRecDepth 20000 in
theorem mw_848 : .methodLink RX10 65 yX10_above ∈ jmAll := jm_in 848 rfl rfl
set_option maxRecDepth 20000 in
theorem mw_850 : .instanceMethod yX10_above ∈ jmAll := jm_in 850 rfl rfl
set_option maxRecDepth 20000 in
theorem mw_851 : .code yX10_above cX10_above 5 (some .int) ∈ jmAll := jm_in 851 rfl rfl
set_option maxRecDepth 20000 in
theorem mw_852 : .methodLink RX10 69 yX10_left ∈ jmAll := jm_in 852 rfl rfl
set_option maxRecDepth 20000 in
theorem mw_854 : .instanceMethod yX10_left ∈ jmAll := jm_in 854 rfl rfl
set_option maxRecDepth 20000 in
theorem mw_855 : .code yX10_left cX10_left 4 (some .int) ∈ jmAll := jm_in 855 rfl rfl
set_option maxRecDepth 20000 in
theorem mw_856 : .methodLink RX10 89 yX10_mean ∈ jmAll := jm_in 856 rfl rfl
set_option maxRecDepth 20000 in
theorem mw_858 : .instanceMethod yX10_mean ∈ jmAll := jm_in 858 rfl rfl
set_option maxRecDepth 20000 in
theorem mw_859 : .code yX10_mean cX10_mean 4 (some .int) ∈ jmAll := jm_in 859 rfl rfl
set_option maxRecDepth 20000 in
theorem mw_860 : .methodLink RX10 85 yX10_three ∈ jmAll := jm_in 860 rfl rfl
set_option maxRecDepth 20000 in
theorem mw_861 : .static yX10_three ∈ jmAll := jm_in 861 rfl rfl
set_option maxRecDepth 20000 in
theorem mw_862 : .code yX10_three cX10_three 3 (some .int) ∈ jmAll := jm_in 862 rfl rfl
set_option maxRecDepth 20000 in
theorem mw_863 : .methodLink RX10 79 yX10_round ∈ jmAll := jm_in 863 rfl rfl
set_option maxRecDepth 20000 in
theorem mw_865 : .instanceMethod yX10_round ∈ jmAll := jm_in 865 rfl rfl
set_option maxRecDepth 20000 in
theorem mw_866 : .code yX10_round cX10_round 3 (some .int) ∈ jmAll := jm_in 866 rfl rfl
set_option maxRecDepth 20000 in
theorem mw_867 : .methodLink RX10 93 yX10_slanted ∈ jmAll := jm_in 867 rfl rfl
set_option maxRecDepth 20000 in
theorem mw_869 : .instanceMethod yX10_slanted ∈ jmAll := jm_in 869 rfl rfl
set_option maxRecDepth 20000 in
theorem mw_870 : .code yX10_slanted cX10_slanted 7 (some .int) ∈ jmAll := jm_in 870 rfl rfl
set_option maxRecDepth 20000 in
theorem mw_871 : .methodLink RX10 82 yX10_two ∈ jmAll := jm_in 871 rfl rfl
set_option maxRecDepth 20000 in
theorem mw_872 : .static yX10_two ∈ jmAll := jm_in 872 rfl rfl
set_option maxRecDepth 20000 in
theorem mw_873 : .code yX10_two cX10_two 2 (some .int) ∈ jmAll := jm_in 873 rfl rfl
set_option maxRecDepth 20000 in
theorem mw_874 : .methodLink RX10 125 yX10_size ∈ jmAll := jm_in 874 rfl rfl
set_option maxRecDepth 20000 in
theorem mw_875 : .static yX10_size ∈ jmAll := jm_in 875 rfl rfl
set_option maxRecDepth 20000 in
theorem mw_876 : .code yX10_size cX10_size 1 (some .int) ∈ jmAll := jm_in 876 rfl rfl
set_option maxRecDepth 20000 in
theorem mw_877 : .methodLink RX10 162 yX10_goForth ∈ jmAll := jm_in 877 rfl rfl
set_option maxRecDepth 20000 in
theorem mw_879 : .instanceMethod yX10_goForth ∈ jmAll := jm_in 879 rfl rfl
set_option maxRecDepth 20000 in
theorem mw_880 : .code yX10_goForth cX10_goForth 8 none ∈ jmAll := jm_in 880 rfl rfl
set_option maxRecDepth 20000 in
theorem mw_881 : .methodLink RX10 128 yX10_forthLine ∈ jmAll := jm_in 881 rfl rfl
set_option maxRecDepth 20000 in
theorem mw_883 : .instanceMethod yX10_forthLine ∈ jmAll := jm_in 883 rfl rfl
set_option maxRecDepth 20000 in
theorem mw_884 : .code yX10_forthLine cX10_forthLine 11 none ∈ jmAll := jm_in 884 rfl rfl
set_option maxRecDepth 20000 in
theorem mw_885 : .constant RX10 131 (32768) ∈ jmAll := jm_in 885 rfl rfl
set_option maxRecDepth 20000 in
theorem mw_886 : .methodLink RX10 106 yX10_placeOf ∈ jmAll := jm_in 886 rfl rfl
set_option maxRecDepth 20000 in
theorem mw_887 : .static yX10_placeOf ∈ jmAll := jm_in 887 rfl rfl
set_option maxRecDepth 20000 in
theorem mw_888 : .code yX10_placeOf cX10_placeOf 6 (some .int) ∈ jmAll := jm_in 888 rfl rfl
set_option maxRecDepth 20000 in
theorem mw_889 : .methodLink RX10 132 yX10_forthBy ∈ jmAll := jm_in 889 rfl rfl
set_option maxRecDepth 20000 in
theorem mw_890 : .static yX10_forthBy ∈ jmAll := jm_in 890 rfl rfl
set_option maxRecDepth 20000 in
theorem mw_891 : .code yX10_forthBy cX10_forthBy 5 (some .int) ∈ jmAll := jm_in 891 rfl rfl
set_option maxRecDepth 20000 in
theorem mw_892 : .methodLink RX10 97 yX10_odd ∈ jmAll := jm_in 892 rfl rfl
set_option maxRecDepth 20000 in
theorem mw_893 : .static yX10_odd ∈ jmAll := jm_in 893 rfl rfl
set_option maxRecDepth 20000 in
theorem mw_894 : .code yX10_odd cX10_odd 2 (some .int) ∈ jmAll := jm_in 894 rfl rfl
set_option maxRecDepth 20000 in
theorem mw_895 : .methodLink RX10 100 yX10_pick ∈ jmAll := jm_in 895 rfl rfl
set_option maxRecDepth 20000 in
theorem mw_896 : .static yX10_pick ∈ jmAll := jm_in 896 rfl rfl
set_option maxRecDepth 20000 in
theorem mw_897 : .code yX10_pick cX10_pick 7 (some .int) ∈ jmAll := jm_in 897 rfl rfl
set_option maxRecDepth 20000 in
theorem mw_898 : .methodLink RX10 166 yX10_comesBack ∈ jmAll := jm_in 898 rfl rfl
set_option maxRecDepth 20000 in
theorem mw_900 : .instanceMethod yX10_comesBack ∈ jmAll := jm_in 900 rfl rfl
set_option maxRecDepth 20000 in
theorem mw_901 : .code yX10_comesBack cX10_comesBack 9 none ∈ jmAll := jm_in 901 rfl rfl
set_option maxRecDepth 20000 in
theorem mw_902 : .methodLink RX10 109 yX10_backBy ∈ jmAll := jm_in 902 rfl rfl
set_option maxRecDepth 20000 in
theorem mw_903 : .static yX10_backBy ∈ jmAll := jm_in 903 rfl rfl
set_option maxRecDepth 20000 in
theorem mw_904 : .code yX10_backBy cX10_backBy 5 (some .int) ∈ jmAll := jm_in 904 rfl rfl
set_option maxRecDepth 20000 in
theorem mw_905 : .methodLink RX10 112 yX10_backLine ∈ jmAll := jm_in 905 rfl rfl
set_option maxRecDepth 20000 in
theorem mw_907 : .instanceMethod yX10_backLine ∈ jmAll := jm_in 907 rfl rfl
set_option maxRecDepth 20000 in
theorem mw_908 : .code yX10_backLine cX10_backLine 11 none ∈ jmAll := jm_in 908 rfl rfl
set_option maxRecDepth 20000 in
theorem mw_909 : .methodLink RX10 104 yX10_down ∈ jmAll := jm_in 909 rfl rfl
set_option maxRecDepth 20000 in
theorem mw_910 : .static yX10_down ∈ jmAll := jm_in 910 rfl rfl
set_option maxRecDepth 20000 in
theorem mw_911 : .code yX10_down cX10_down 2 (some .int) ∈ jmAll := jm_in 911 rfl rfl
set_option maxRecDepth 20000 in
theorem mw_912 : .methodLink RX10 119 yX10_clip ∈ jmAll := jm_in 912 rfl rfl
set_option maxRecDepth 20000 in
theorem mw_913 : .static yX10_clip ∈ jmAll := jm_in 913 rfl rfl
set_option maxRecDepth 20000 in
theorem mw_914 : .code yX10_clip cX10_clip 1 (some .int) ∈ jmAll := jm_in 914 rfl rfl
set_option maxRecDepth 20000 in
theorem mw_915 : .methodLink RX10 170 yX10_writeBlock ∈ jmAll := jm_in 915 rfl rfl
set_option maxRecDepth 20000 in
theorem mw_917 : .instanceMethod yX10_writeBlock ∈ jmAll := jm_in 917 rfl rfl
set_option maxRecDepth 20000 in
theorem mw_918 : .code yX10_writeBlock cX10_writeBlock 8 none ∈ jmAll := jm_in 918 rfl rfl
set_option maxRecDepth 20000 in
theorem mw_919 : .methodLink RX10 148 yX10_likely ∈ jmAll := jm_in 919 rfl rfl
set_option maxRecDepth 20000 in
theorem mw_921 : .instanceMethod yX10_likely ∈ jmAll := jm_in 921 rfl rfl
set_option maxRecDepth 20000 in
theorem mw_922 : .code yX10_likely cX10_likely 5 (some .int) ∈ jmAll := jm_in 922 rfl rfl
set_option maxRecDepth 20000 in
theorem mw_923 : .methodLink RX10 152 yX10_writeS ∈ jmAll := jm_in 923 rfl rfl
set_option maxRecDepth 20000 in
theorem mw_925 : .instanceMethod yX10_writeS ∈ jmAll := jm_in 925 rfl rfl
set_option maxRecDepth 20000 in
theorem mw_926 : .code yX10_writeS cX10_writeS 2 none ∈ jmAll := jm_in 926 rfl rfl
set_option maxRecDepth 20000 in
theorem mw_927 : .methodLink RX10 173 yX10_smoothAll ∈ jmAll := jm_in 927 rfl rfl
set_option maxRecDepth 20000 in
theorem mw_929 : .instanceMethod yX10_smoothAll ∈ jmAll := jm_in 929 rfl rfl
set_option maxRecDepth 20000 in
theorem mw_930 : .code yX10_smoothAll cX10_smoothAll 3 none ∈ jmAll := jm_in 930 rfl rfl
set_option maxRecDepth 20000 in
theorem mw_931 : .methodLink RX10 135 yX10_smooth ∈ jmAll := jm_in 931 rfl rfl
set_option maxRecDepth 20000 in
theorem mw_933 : .instanceMethod yX10_smooth ∈ jmAll := jm_in 933 rfl rfl
set_option maxRecDepth 20000 in
theorem mw_934 : .code yX10_smooth cX10_smooth 10 none ∈ jmAll := jm_in 934 rfl rfl
set_option maxRecDepth 20000 in
theorem mw_936 : .instanceMethod yX10_unpack ∈ jmAll := jm_in 936 rfl rfl
set_option maxRecDepth 20000 in
theorem mw_937 : .selects RX10 yX10_unpack yX10_unpack ∈ jmAll := jm_in 937 rfl rfl
set_option maxRecDepth 20000 in
theorem mw_938 : .code yX10_unpack cX10_unpack 6 (some .int) ∈ jmAll := jm_in 938 rfl rfl
set_option maxRecDepth 20000 in
theorem mw_939 : .methodLink RX10 197 yX10_readAll ∈ jmAll := jm_in 939 rfl rfl
set_option maxRecDepth 20000 in
theorem mw_941 : .instanceMethod yX10_readAll ∈ jmAll := jm_in 941 rfl rfl
set_option maxRecDepth 20000 in
theorem mw_942 : .code yX10_readAll cX10_readAll 3 none ∈ jmAll := jm_in 942 rfl rfl
set_option maxRecDepth 20000 in
theorem mw_943 : .methodLink RX10 191 yX10_header ∈ jmAll := jm_in 943 rfl rfl
set_option maxRecDepth 20000 in
theorem mw_945 : .instanceMethod yX10_header ∈ jmAll := jm_in 945 rfl rfl
set_option maxRecDepth 20000 in
theorem mw_946 : .code yX10_header cX10_header 4 (some .int) ∈ jmAll := jm_in 946 rfl rfl
set_option maxRecDepth 20000 in
theorem mw_947 : .methodLink RX10 187 yX10_readU ∈ jmAll := jm_in 947 rfl rfl
set_option maxRecDepth 20000 in
theorem mw_949 : .instanceMethod yX10_readU ∈ jmAll := jm_in 949 rfl rfl
set_option maxRecDepth 20000 in
theorem mw_950 : .code yX10_readU cX10_readU 4 (some .int) ∈ jmAll := jm_in 950 rfl rfl
set_option maxRecDepth 20000 in
theorem mw_951 : .methodLink RX10 184 yX10_read ∈ jmAll := jm_in 951 rfl rfl
set_option maxRecDepth 20000 in
theorem mw_953 : .instanceMethod yX10_read ∈ jmAll := jm_in 953 rfl rfl
set_option maxRecDepth 20000 in
theorem mw_954 : .code yX10_read cX10_read 5 (some .int) ∈ jmAll := jm_in 954 rfl rfl
set_option maxRecDepth 20000 in
theorem mw_955 : .methodLink RX10 181 yX10_stop ∈ jmAll := jm_in 955 rfl rfl
set_option maxRecDepth 20000 in
theorem mw_957 : .instanceMethod yX10_stop ∈ jmAll := jm_in 957 rfl rfl
set_option maxRecDepth 20000 in
theorem mw_958 : .code yX10_stop cX10_stop 3 (some .int) ∈ jmAll := jm_in 958 rfl rfl
set_option maxRecDepth 20000 in
theorem mw_959 : .methodLink RX10 194 yX10_readBlock ∈ jmAll := jm_in 959 rfl rfl
set_option maxRecDepth 20000 in
theorem mw_961 : .instanceMethod yX10_readBlock ∈ jmAll := jm_in 961 rfl rfl
set_option maxRecDepth 20000 in
theorem mw_962 : .code yX10_readBlock cX10_readBlock 9 none ∈ jmAll := jm_in 962 rfl rfl
set_option maxRecDepth 20000 in
theorem mw_964 : .instanceMethod yX10_place ∈ jmAll := jm_in 964 rfl rfl
set_option maxRecDepth 20000 in
theorem mw_965 : .selects RX10 yX10_place yX10_place ∈ jmAll := jm_in 965 rfl rfl
set_option maxRecDepth 20000 in
theorem mw_966 : .code yX10_place cX10_place 1 (some .int) ∈ jmAll := jm_in 966 rfl rfl
set_option maxRecDepth 20000 in
theorem mw_968 : .instanceMethod yX10_feed ∈ jmAll := jm_in 968 rfl rfl
set_option maxRecDepth 20000 in
theorem mw_969 : .selects RX10 yX10_feed yX10_feed ∈ jmAll := jm_in 969 rfl rfl
set_option maxRecDepth 20000 in
theorem mw_970 : .code yX10_feed cX10_feed 3 (some .int) ∈ jmAll := jm_in 970 rfl rfl
set_option maxRecDepth 20000 in
theorem mw_972 : .instanceMethod yX10_end ∈ jmAll := jm_in 972 rfl rfl
set_option maxRecDepth 20000 in
theorem mw_973 : .selects RX10 yX10_end yX10_end ∈ jmAll := jm_in 973 rfl rfl
set_option maxRecDepth 20000 in
theorem mw_974 : .code yX10_end cX10_end 2 none ∈ jmAll := jm_in 974 rfl rfl
set_option maxRecDepth 20000 in
theorem mw_976 : .instanceMethod yX10_alter ∈ jmAll := jm_in 976 rfl rfl
set_option maxRecDepth 20000 in
theorem mw_977 : .selects RX10 yX10_alter yX10_alter ∈ jmAll := jm_in 977 rfl rfl
set_option maxRecDepth 20000 in
theorem mw_978 : .code yX10_alter cX10_alter 4 (some .int) ∈ jmAll := jm_in 978 rfl rfl
set_option maxRecDepth 20000 in
theorem mw_980 : .instanceMethod yX10_bits ∈ jmAll := jm_in 980 rfl rfl
set_option maxRecDepth 20000 in
theorem mw_981 : .selects RX10 yX10_bits yX10_bits ∈ jmAll := jm_in 981 rfl rfl
set_option maxRecDepth 20000 in
theorem mw_982 : .code yX10_bits cX10_bits 2 (some .int) ∈ jmAll := jm_in 982 rfl rfl
set_option maxRecDepth 20000 in
theorem mw_984 : .instanceMethod yX10_block ∈ jmAll := jm_in 984 rfl rfl
set_option maxRecDepth 20000 in
theorem mw_985 : .selects RX10 yX10_block yX10_block ∈ jmAll := jm_in 985 rfl rfl
set_option maxRecDepth 20000 in
theorem mw_986 : .code yX10_block cX10_block 3 (some .int) ∈ jmAll := jm_in 986 rfl rfl
set_option maxRecDepth 20000 in
theorem mw_988 : .instanceMethod yX10_foretold ∈ jmAll := jm_in 988 rfl rfl
set_option maxRecDepth 20000 in
theorem mw_989 : .selects RX10 yX10_foretold yX10_foretold ∈ jmAll := jm_in 989 rfl rfl
set_option maxRecDepth 20000 in
theorem mw_990 : .code yX10_foretold cX10_foretold 5 (some .int) ∈ jmAll := jm_in 990 rfl rfl
set_option maxRecDepth 20000 in
theorem mw_992 : .instanceMethod yX10_about ∈ jmAll := jm_in 992 rfl rfl
set_option maxRecDepth 20000 in
theorem mw_993 : .selects RX10 yX10_about yX10_about ∈ jmAll := jm_in 993 rfl rfl
set_option maxRecDepth 20000 in
theorem mw_994 : .code yX10_about cX10_about 2 (some .int) ∈ jmAll := jm_in 994 rfl rfl
set_option maxRecDepth 20000 in
theorem mw_995 : .arrayClass .long ∈ jmAll := jm_in 995 rfl rfl
set_option maxRecDepth 20000 in
theorem jm_iX0 : ∀ w ∈ wsX00, w ∈ jmAll := by decide +kernel
set_option maxRecDepth 20000 in
theorem jm_iX1 : ∀ w ∈ wsX10, w ∈ jmAll := by decide +kernel
set_option maxRecDepth 20000 in
theorem jm_iX2 : ∀ w ∈ wsX20, w ∈ jmAll := by decide +kernel
set_option maxRecDepth 20000 in
theorem jm_iX3 : ∀ w ∈ wsX30, w ∈ jmAll := by decide +kernel
set_option maxRecDepth 20000 in
theorem jm_iX4 : ∀ w ∈ wsX40, w ∈ jmAll := by decide +kernel
set_option maxRecDepth 20000 in
theorem jm_iX5 : ∀ w ∈ wsX50, w ∈ jmAll := by decide +kernel
set_option maxRecDepth 20000 in
theorem jm_iX6 : ∀ w ∈ wsX60, w ∈ jmAll := by decide +kernel
set_option maxRecDepth 20000 in
theorem jm_iX7 : ∀ w ∈ wsX70, w ∈ jmAll := by decide +kernel
set_option maxRecDepth 20000 in
theorem jm_iX8 : ∀ w ∈ wsX80, w ∈ jmAll := by decide +kernel
set_option maxRecDepth 20000 in
theorem jm_iX9 : ∀ w ∈ wsX90, w ∈ jmAll := by decide +kernel
set_option maxRecDepth 20000 in
theorem jm_iX10 : ∀ w ∈ wsX100, w ∈ jmAll := by decide +kernel
