/-! the words of the tables, each by its place; TW: those that a callee may have -/
def TW : List Cond := lw_tbl.filter goodWord
theorem tw_mem (i : Nat) {w : Cond} (h : lw_tbl[i]? = some w) (hg : goodWord w = true) : w ∈ TW := List.mem_filter.mpr ⟨List.mem_of_getElem? h, hg⟩
theorem lw_mem (i : Nat) {w : Cond} (h : lw_tbl[i]? = some w) : w ∈ lw_tbl := List.mem_of_getElem? h
theorem se_X5_settles : Cond.selects RX5 yX5_settles yX5_settles ∈ TW := tw_mem 0 (by decide +kernel) (by decide +kernel)
theorem se_X5_refuses : Cond.selects RX5 yX5_refuses yX5_refuses ∈ TW := tw_mem 1 (by decide +kernel) (by decide +kernel)
theorem se_X5_prints : Cond.selects RX5 yX5_prints yX5_prints ∈ TW := tw_mem 2 (by decide +kernel) (by decide +kernel)
theorem se_X1_laysQuarter : Cond.selects RX1 yX1_laysQuarter yX1_laysQuarter ∈ TW := tw_mem 3 (by decide +kernel) (by decide +kernel)
theorem se_X1_laysYear : Cond.selects RX1 yX1_laysYear yX1_laysYear ∈ TW := tw_mem 4 (by decide +kernel) (by decide +kernel)
theorem se_X0_fills : Cond.selects RX0 yX0_fills yX0_fills ∈ TW := tw_mem 5 (by decide +kernel) (by decide +kernel)
theorem se_X0_weighsSteps : Cond.selects RX0 yX0_weighsSteps yX0_weighsSteps ∈ TW := tw_mem 6 (by decide +kernel) (by decide +kernel)
theorem se_X0_choosesStep : Cond.selects RX0 yX0_choosesStep yX0_choosesStep ∈ TW := tw_mem 7 (by decide +kernel) (by decide +kernel)
theorem se_X0_spot : Cond.selects RX0 yX0_spot yX0_spot ∈ TW := tw_mem 8 (by decide +kernel) (by decide +kernel)
theorem se_X0_isSpot : Cond.selects RX0 yX0_isSpot yX0_isSpot ∈ TW := tw_mem 9 (by decide +kernel) (by decide +kernel)
theorem se_X0_keepsBest : Cond.selects RX0 yX0_keepsBest yX0_keepsBest ∈ TW := tw_mem 10 (by decide +kernel) (by decide +kernel)
theorem se_X0_traces : Cond.selects RX0 yX0_traces yX0_traces ∈ TW := tw_mem 11 (by decide +kernel) (by decide +kernel)
theorem se_X5_revision : Cond.selects RX5 yX5_revision yX5_revision ∈ TW := tw_mem 12 (by decide +kernel) (by decide +kernel)
theorem se_X5_shareMovement : Cond.selects RX5 yX5_shareMovement yX5_shareMovement ∈ TW := tw_mem 13 (by decide +kernel) (by decide +kernel)
theorem se_X4_readsByte : Cond.selects RX4 yX4_readsByte yX4_readsByte ∈ TW := tw_mem 14 (by decide +kernel) (by decide +kernel)
theorem se_X4_opens : Cond.selects RX4 yX4_opens yX4_opens ∈ TW := tw_mem 15 (by decide +kernel) (by decide +kernel)
theorem se_X4_closes : Cond.selects RX4 yX4_closes yX4_closes ∈ TW := tw_mem 16 (by decide +kernel) (by decide +kernel)
theorem se_X4_readsFigure : Cond.selects RX4 yX4_readsFigure yX4_readsFigure ∈ TW := tw_mem 17 (by decide +kernel) (by decide +kernel)
theorem se_X5_obeys : Cond.selects RX5 yX5_obeys yX5_obeys ∈ TW := tw_mem 18 (by decide +kernel) (by decide +kernel)
theorem se_X5_digestsFigures : Cond.selects RX5 yX5_digestsFigures yX5_digestsFigures ∈ TW := tw_mem 19 (by decide +kernel) (by decide +kernel)
theorem se_X5_digestsBent : Cond.selects RX5 yX5_digestsBent yX5_digestsBent ∈ TW := tw_mem 20 (by decide +kernel) (by decide +kernel)
theorem se_X6_save : Cond.selects RX6 yX6_save yX6_save ∈ TW := tw_mem 21 (by decide +kernel) (by decide +kernel)
theorem se_X6_putQuarter : Cond.selects RX6 yX6_putQuarter yX6_putQuarter ∈ TW := tw_mem 22 (by decide +kernel) (by decide +kernel)
theorem se_X6_finish : Cond.selects RX6 yX6_finish yX6_finish ∈ TW := tw_mem 23 (by decide +kernel) (by decide +kernel)
theorem se_X6_refuse : Cond.selects RX6 yX6_refuse yX6_refuse ∈ TW := tw_mem 24 (by decide +kernel) (by decide +kernel)
theorem se_X6_putIndicator : Cond.selects RX6 yX6_putIndicator yX6_putIndicator ∈ TW := tw_mem 25 (by decide +kernel) (by decide +kernel)
theorem se_X6_isQuarter : Cond.selects RX6 yX6_isQuarter yX6_isQuarter ∈ TW := tw_mem 26 (by decide +kernel) (by decide +kernel)
theorem se_X6_putTotal : Cond.selects RX6 yX6_putTotal yX6_putTotal ∈ TW := tw_mem 27 (by decide +kernel) (by decide +kernel)
theorem se_X6_dropTotal : Cond.selects RX6 yX6_dropTotal yX6_dropTotal ∈ TW := tw_mem 28 (by decide +kernel) (by decide +kernel)
theorem se_X6_putFrozen : Cond.selects RX6 yX6_putFrozen yX6_putFrozen ∈ TW := tw_mem 29 (by decide +kernel) (by decide +kernel)
theorem se_X6_putLimit : Cond.selects RX6 yX6_putLimit yX6_putLimit ∈ TW := tw_mem 30 (by decide +kernel) (by decide +kernel)
theorem se_X6_putForm : Cond.selects RX6 yX6_putForm yX6_putForm ∈ TW := tw_mem 31 (by decide +kernel) (by decide +kernel)
theorem se_X6_publishAll : Cond.selects RX6 yX6_publishAll yX6_publishAll ∈ TW := tw_mem 32 (by decide +kernel) (by decide +kernel)
theorem se_X6_bend : Cond.selects RX6 yX6_bend yX6_bend ∈ TW := tw_mem 33 (by decide +kernel) (by decide +kernel)
theorem se_X6_find : Cond.selects RX6 yX6_find yX6_find ∈ TW := tw_mem 34 (by decide +kernel) (by decide +kernel)
theorem se_X6_isBound : Cond.selects RX6 yX6_isBound yX6_isBound ∈ TW := tw_mem 35 (by decide +kernel) (by decide +kernel)
theorem se_X6_lay : Cond.selects RX6 yX6_lay yX6_lay ∈ TW := tw_mem 36 (by decide +kernel) (by decide +kernel)
theorem se_X6_may : Cond.selects RX6 yX6_may yX6_may ∈ TW := tw_mem 37 (by decide +kernel) (by decide +kernel)
theorem se_X6_together : Cond.selects RX6 yX6_together yX6_together ∈ TW := tw_mem 38 (by decide +kernel) (by decide +kernel)
theorem se_X6_nextSum : Cond.selects RX6 yX6_nextSum yX6_nextSum ∈ TW := tw_mem 39 (by decide +kernel) (by decide +kernel)
theorem se_X6_step : Cond.selects RX6 yX6_step yX6_step ∈ TW := tw_mem 40 (by decide +kernel) (by decide +kernel)
theorem se_X6_nextBest : Cond.selects RX6 yX6_nextBest yX6_nextBest ∈ TW := tw_mem 41 (by decide +kernel) (by decide +kernel)
theorem se_X6_publishedMany : Cond.selects RX6 yX6_publishedMany yX6_publishedMany ∈ TW := tw_mem 42 (by decide +kernel) (by decide +kernel)
theorem se_X6_ofQuarter : Cond.selects RX6 yX6_ofQuarter yX6_ofQuarter ∈ TW := tw_mem 43 (by decide +kernel) (by decide +kernel)
theorem se_X6_ofYear : Cond.selects RX6 yX6_ofYear yX6_ofYear ∈ TW := tw_mem 44 (by decide +kernel) (by decide +kernel)
theorem se_X6_countOf : Cond.selects RX6 yX6_countOf yX6_countOf ∈ TW := tw_mem 45 (by decide +kernel) (by decide +kernel)
theorem se_X6_movedBy : Cond.selects RX6 yX6_movedBy yX6_movedBy ∈ TW := tw_mem 46 (by decide +kernel) (by decide +kernel)
theorem se_X6_revisedOf : Cond.selects RX6 yX6_revisedOf yX6_revisedOf ∈ TW := tw_mem 47 (by decide +kernel) (by decide +kernel)
theorem se_X6_shareOut : Cond.selects RX6 yX6_shareOut yX6_shareOut ∈ TW := tw_mem 48 (by decide +kernel) (by decide +kernel)
theorem se_X6_shareYear : Cond.selects RX6 yX6_shareYear yX6_shareYear ∈ TW := tw_mem 49 (by decide +kernel) (by decide +kernel)
theorem se_X6_readText : Cond.selects RX6 yX6_readText yX6_readText ∈ TW := tw_mem 50 (by decide +kernel) (by decide +kernel)
theorem se_X6_readByte : Cond.selects RX6 yX6_readByte yX6_readByte ∈ TW := tw_mem 51 (by decide +kernel) (by decide +kernel)
theorem se_X6_doOrder : Cond.selects RX6 yX6_doOrder yX6_doOrder ∈ TW := tw_mem 52 (by decide +kernel) (by decide +kernel)
theorem se_X6_toldOf : Cond.selects RX6 yX6_toldOf yX6_toldOf ∈ TW := tw_mem 53 (by decide +kernel) (by decide +kernel)
theorem in_L : Cond.initialized RL ∈ TW := tw_mem 54 (by decide +kernel) (by decide +kernel)
theorem in_X5 : Cond.initialized RX5 ∈ TW := tw_mem 55 (by decide +kernel) (by decide +kernel)
theorem in_X2 : Cond.initialized RX2 ∈ TW := tw_mem 56 (by decide +kernel) (by decide +kernel)
theorem in_X0 : Cond.initialized RX0 ∈ TW := tw_mem 57 (by decide +kernel) (by decide +kernel)
theorem in_X1 : Cond.initialized RX1 ∈ TW := tw_mem 58 (by decide +kernel) (by decide +kernel)
theorem in_X3 : Cond.initialized RX3 ∈ TW := tw_mem 59 (by decide +kernel) (by decide +kernel)
theorem in_X4 : Cond.initialized RX4 ∈ TW := tw_mem 60 (by decide +kernel) (by decide +kernel)
theorem in_X6 : Cond.initialized RX6 ∈ TW := tw_mem 61 (by decide +kernel) (by decide +kernel)
theorem in_J10 : Cond.initialized RJ10 ∈ TW := tw_mem 62 (by decide +kernel) (by decide +kernel)
theorem in_J9 : Cond.initialized RJ9 ∈ TW := tw_mem 63 (by decide +kernel) (by decide +kernel)
theorem in_J6 : Cond.initialized RJ6 ∈ TW := tw_mem 64 (by decide +kernel) (by decide +kernel)
theorem cl_L_7 : Cond.classLink RL 7 RX5 ∈ TW := tw_mem 65 (by decide +kernel) (by decide +kernel)
theorem it_X5 : Cond.instantiable RX5 6 ∈ TW := tw_mem 66 (by decide +kernel) (by decide +kernel)
theorem ml_L_9 : Cond.methodLink RL 9 yX5_init ∈ TW := tw_mem 67 (by decide +kernel) (by decide +kernel)
theorem im_X5_init : Cond.instanceMethod yX5_init ∈ TW := tw_mem 68 (by decide +kernel) (by decide +kernel)
set_option maxRecDepth 100000 in
theorem co_X5_init : Cond.code yX5_init cX5_init 1 none ∈ TW := tw_mem 69 rfl rfl
theorem ml_X5_3 : Cond.methodLink RX5 3 objectInit ∈ TW := tw_mem 70 (by decide +kernel) (by decide +kernel)
theorem im_OI : Cond.instanceMethod objectInit ∈ TW := tw_mem 71 (by decide +kernel) (by decide +kernel)
set_option maxRecDepth 100000 in
theorem co_OI : Cond.code objectInit ⟨#[0xb1]⟩ 1 none ∈ TW := tw_mem 72 rfl rfl
theorem cl_X5_9 : Cond.classLink RX5 9 RX2 ∈ TW := tw_mem 73 (by decide +kernel) (by decide +kernel)
theorem it_X2 : Cond.instantiable RX2 7 ∈ TW := tw_mem 74 (by decide +kernel) (by decide +kernel)
theorem ml_X5_11 : Cond.methodLink RX5 11 yX2_init ∈ TW := tw_mem 75 (by decide +kernel) (by decide +kernel)
theorem im_X2_init : Cond.instanceMethod yX2_init ∈ TW := tw_mem 76 (by decide +kernel) (by decide +kernel)
set_option maxRecDepth 100000 in
theorem co_X2_init : Cond.code yX2_init cX2_init 2 none ∈ TW := tw_mem 77 rfl rfl
theorem ml_X2_3 : Cond.methodLink RX2 3 objectInit ∈ TW := tw_mem 78 (by decide +kernel) (by decide +kernel)
theorem fl_X2_9 : Cond.fieldLink RX2 9 "BentQuarters$Figures" "indicators" "[I" ∈ TW := tw_mem 79 (by decide +kernel) (by decide +kernel)
theorem fl_X1_62 : Cond.fieldLink RX1 62 "BentQuarters$Figures" "indicators" "[I" ∈ TW := tw_mem 80 (by decide +kernel) (by decide +kernel)
theorem fl_X0_111 : Cond.fieldLink RX0 111 "BentQuarters$Figures" "indicators" "[I" ∈ TW := tw_mem 81 (by decide +kernel) (by decide +kernel)
theorem fl_X2_15 : Cond.fieldLink RX2 15 "BentQuarters$Figures" "totals" "[I" ∈ TW := tw_mem 82 (by decide +kernel) (by decide +kernel)
theorem fl_X1_42 : Cond.fieldLink RX1 42 "BentQuarters$Figures" "totals" "[I" ∈ TW := tw_mem 83 (by decide +kernel) (by decide +kernel)
theorem fl_X5_132 : Cond.fieldLink RX5 132 "BentQuarters$Figures" "totals" "[I" ∈ TW := tw_mem 84 (by decide +kernel) (by decide +kernel)
theorem fl_X2_18 : Cond.fieldLink RX2 18 "BentQuarters$Figures" "printed" "[I" ∈ TW := tw_mem 85 (by decide +kernel) (by decide +kernel)
theorem fl_X1_59 : Cond.fieldLink RX1 59 "BentQuarters$Figures" "printed" "[I" ∈ TW := tw_mem 86 (by decide +kernel) (by decide +kernel)
theorem fl_X5_211 : Cond.fieldLink RX5 211 "BentQuarters$Figures" "printed" "[I" ∈ TW := tw_mem 87 (by decide +kernel) (by decide +kernel)
theorem fl_X2_21 : Cond.fieldLink RX2 21 "BentQuarters$Figures" "quarters" "I" ∈ TW := tw_mem 88 (by decide +kernel) (by decide +kernel)
theorem fl_X1_35 : Cond.fieldLink RX1 35 "BentQuarters$Figures" "quarters" "I" ∈ TW := tw_mem 89 (by decide +kernel) (by decide +kernel)
theorem fl_X0_69 : Cond.fieldLink RX0 69 "BentQuarters$Figures" "quarters" "I" ∈ TW := tw_mem 90 (by decide +kernel) (by decide +kernel)
theorem fl_X5_124 : Cond.fieldLink RX5 124 "BentQuarters$Figures" "quarters" "I" ∈ TW := tw_mem 91 (by decide +kernel) (by decide +kernel)
theorem fl_X2_25 : Cond.fieldLink RX2 25 "BentQuarters$Figures" "frozen" "I" ∈ TW := tw_mem 92 (by decide +kernel) (by decide +kernel)
theorem fl_X2_28 : Cond.fieldLink RX2 28 "BentQuarters$Figures" "limit" "I" ∈ TW := tw_mem 93 (by decide +kernel) (by decide +kernel)
theorem fl_X0_57 : Cond.fieldLink RX0 57 "BentQuarters$Figures" "limit" "I" ∈ TW := tw_mem 94 (by decide +kernel) (by decide +kernel)
theorem fl_X2_31 : Cond.fieldLink RX2 31 "BentQuarters$Figures" "shape" "I" ∈ TW := tw_mem 95 (by decide +kernel) (by decide +kernel)
theorem fl_X0_114 : Cond.fieldLink RX0 114 "BentQuarters$Figures" "shape" "I" ∈ TW := tw_mem 96 (by decide +kernel) (by decide +kernel)
theorem fl_X5_135 : Cond.fieldLink RX5 135 "BentQuarters$Figures" "shape" "I" ∈ TW := tw_mem 97 (by decide +kernel) (by decide +kernel)
theorem ac_int : Cond.arrayClass .int ∈ TW := tw_mem 113 (by decide +kernel) (by decide +kernel)
theorem cl_X5_16 : Cond.classLink RX5 16 RX0 ∈ TW := tw_mem 114 (by decide +kernel) (by decide +kernel)
theorem it_X0 : Cond.instantiable RX0 11 ∈ TW := tw_mem 115 (by decide +kernel) (by decide +kernel)
theorem mn_X5_18 : Cond.methodLinkNest RX5 18 yX0_init RX5 ∈ lw_tbl := lw_mem 116 (by decide +kernel)
theorem im_X0_init : Cond.instanceMethod yX0_init ∈ TW := tw_mem 117 (by decide +kernel) (by decide +kernel)
set_option maxRecDepth 100000 in
theorem co_X0_init : Cond.code yX0_init cX0_init 1 none ∈ TW := tw_mem 118 rfl rfl
theorem ml_X0_3 : Cond.methodLink RX0 3 objectInit ∈ TW := tw_mem 119 (by decide +kernel) (by decide +kernel)
theorem cl_X0_9 : Cond.classLink RX0 9 RX1 ∈ TW := tw_mem 120 (by decide +kernel) (by decide +kernel)
theorem it_X1 : Cond.instantiable RX1 7 ∈ TW := tw_mem 121 (by decide +kernel) (by decide +kernel)
theorem mn_X0_11 : Cond.methodLinkNest RX0 11 yX1_init RX5 ∈ lw_tbl := lw_mem 122 (by decide +kernel)
theorem im_X1_init : Cond.instanceMethod yX1_init ∈ TW := tw_mem 123 (by decide +kernel) (by decide +kernel)
set_option maxRecDepth 100000 in
theorem co_X1_init : Cond.code yX1_init cX1_init 1 none ∈ TW := tw_mem 124 rfl rfl
theorem ml_X1_3 : Cond.methodLink RX1 3 objectInit ∈ TW := tw_mem 125 (by decide +kernel) (by decide +kernel)
theorem fl_X1_9 : Cond.fieldLink RX1 9 "BentQuarters$Bounds" "low" "[I" ∈ TW := tw_mem 126 (by decide +kernel) (by decide +kernel)
theorem fl_X0_72 : Cond.fieldLink RX0 72 "BentQuarters$Bounds" "low" "[I" ∈ TW := tw_mem 127 (by decide +kernel) (by decide +kernel)
theorem fl_X1_15 : Cond.fieldLink RX1 15 "BentQuarters$Bounds" "high" "[I" ∈ TW := tw_mem 128 (by decide +kernel) (by decide +kernel)
theorem fl_X0_75 : Cond.fieldLink RX0 75 "BentQuarters$Bounds" "high" "[I" ∈ TW := tw_mem 129 (by decide +kernel) (by decide +kernel)
theorem fl_X1_18 : Cond.fieldLink RX1 18 "BentQuarters$Bounds" "leftLow" "[I" ∈ TW := tw_mem 130 (by decide +kernel) (by decide +kernel)
theorem fl_X0_126 : Cond.fieldLink RX0 126 "BentQuarters$Bounds" "leftLow" "[I" ∈ TW := tw_mem 131 (by decide +kernel) (by decide +kernel)
theorem fl_X1_21 : Cond.fieldLink RX1 21 "BentQuarters$Bounds" "leftHigh" "[I" ∈ TW := tw_mem 132 (by decide +kernel) (by decide +kernel)
theorem fl_X0_118 : Cond.fieldLink RX0 118 "BentQuarters$Bounds" "leftHigh" "[I" ∈ TW := tw_mem 133 (by decide +kernel) (by decide +kernel)
theorem fl_X1_24 : Cond.fieldLink RX1 24 "BentQuarters$Bounds" "bound" "[Z" ∈ TW := tw_mem 134 (by decide +kernel) (by decide +kernel)
theorem fl_X1_28 : Cond.fieldLink RX1 28 "BentQuarters$Bounds" "gaps" "[I" ∈ TW := tw_mem 135 (by decide +kernel) (by decide +kernel)
theorem fl_X1_31 : Cond.fieldLink RX1 31 "BentQuarters$Bounds" "quarters" "I" ∈ TW := tw_mem 136 (by decide +kernel) (by decide +kernel)
theorem fl_X0_117 : Cond.fieldLink RX0 117 "BentQuarters$Bounds" "quarters" "I" ∈ TW := tw_mem 137 (by decide +kernel) (by decide +kernel)
theorem ac_boolean : Cond.arrayClass .boolean ∈ TW := tw_mem 153 (by decide +kernel) (by decide +kernel)
theorem fl_X0_12 : Cond.fieldLink RX0 12 "BentQuarters$Bender" "bounds" "LBentQuarters$Bounds;" ∈ TW := tw_mem 154 (by decide +kernel) (by decide +kernel)
theorem fl_X0_18 : Cond.fieldLink RX0 18 "BentQuarters$Bender" "costs" "[J" ∈ TW := tw_mem 155 (by decide +kernel) (by decide +kernel)
theorem fl_X0_22 : Cond.fieldLink RX0 22 "BentQuarters$Bender" "ways" "[I" ∈ TW := tw_mem 156 (by decide +kernel) (by decide +kernel)
theorem fl_X0_26 : Cond.fieldLink RX0 26 "BentQuarters$Bender" "stepCosts" "[J" ∈ TW := tw_mem 157 (by decide +kernel) (by decide +kernel)
theorem fl_X0_29 : Cond.fieldLink RX0 29 "BentQuarters$Bender" "bestCost" "J" ∈ TW := tw_mem 158 (by decide +kernel) (by decide +kernel)
theorem fl_X0_33 : Cond.fieldLink RX0 33 "BentQuarters$Bender" "bestWays" "I" ∈ TW := tw_mem 159 (by decide +kernel) (by decide +kernel)
theorem fl_X0_37 : Cond.fieldLink RX0 37 "BentQuarters$Bender" "bestStep" "I" ∈ TW := tw_mem 160 (by decide +kernel) (by decide +kernel)
theorem fl_X0_40 : Cond.fieldLink RX0 40 "BentQuarters$Bender" "known" "Z" ∈ TW := tw_mem 161 (by decide +kernel) (by decide +kernel)
theorem fl_X0_44 : Cond.fieldLink RX0 44 "BentQuarters$Bender" "there" "Z" ∈ TW := tw_mem 162 (by decide +kernel) (by decide +kernel)
theorem fl_X0_47 : Cond.fieldLink RX0 47 "BentQuarters$Bender" "row" "[I" ∈ TW := tw_mem 163 (by decide +kernel) (by decide +kernel)
theorem fl_X5_108 : Cond.fieldLink RX5 108 "BentQuarters$Bender" "row" "[I" ∈ TW := tw_mem 164 (by decide +kernel) (by decide +kernel)
theorem fl_X0_50 : Cond.fieldLink RX0 50 "BentQuarters$Bender" "rows" "I" ∈ TW := tw_mem 165 (by decide +kernel) (by decide +kernel)
theorem fl_X5_142 : Cond.fieldLink RX5 142 "BentQuarters$Bender" "rows" "I" ∈ TW := tw_mem 166 (by decide +kernel) (by decide +kernel)
theorem ac_long : Cond.arrayClass .long ∈ TW := tw_mem 190 (by decide +kernel) (by decide +kernel)
theorem cl_X5_23 : Cond.classLink RX5 23 RX3 ∈ TW := tw_mem 191 (by decide +kernel) (by decide +kernel)
theorem it_X3 : Cond.instantiable RX3 3 ∈ TW := tw_mem 192 (by decide +kernel) (by decide +kernel)
theorem ml_X5_25 : Cond.methodLink RX5 25 yX3_init ∈ TW := tw_mem 193 (by decide +kernel) (by decide +kernel)
theorem im_X3_init : Cond.instanceMethod yX3_init ∈ TW := tw_mem 194 (by decide +kernel) (by decide +kernel)
set_option maxRecDepth 100000 in
theorem co_X3_init : Cond.code yX3_init cX3_init 2 none ∈ TW := tw_mem 195 rfl rfl
theorem ml_X3_3 : Cond.methodLink RX3 3 objectInit ∈ TW := tw_mem 196 (by decide +kernel) (by decide +kernel)
theorem cl_X3_9 : Cond.classLink RX3 9 RX2 ∈ TW := tw_mem 197 (by decide +kernel) (by decide +kernel)
theorem ml_X3_24 : Cond.methodLink RX3 24 yX2_init ∈ TW := tw_mem 199 (by decide +kernel) (by decide +kernel)
theorem fl_X3_11 : Cond.fieldLink RX3 11 "BentQuarters$Past" "ring" "[LBentQuarters$Figures;" ∈ TW := tw_mem 200 (by decide +kernel) (by decide +kernel)
theorem fl_X3_17 : Cond.fieldLink RX3 17 "BentQuarters$Past" "top" "I" ∈ TW := tw_mem 201 (by decide +kernel) (by decide +kernel)
theorem fl_X3_21 : Cond.fieldLink RX3 21 "BentQuarters$Past" "states" "I" ∈ TW := tw_mem 202 (by decide +kernel) (by decide +kernel)
theorem fl_X5_189 : Cond.fieldLink RX5 189 "BentQuarters$Past" "states" "I" ∈ TW := tw_mem 203 (by decide +kernel) (by decide +kernel)
theorem cl_X5_30 : Cond.classLink RX5 30 RX4 ∈ TW := tw_mem 211 (by decide +kernel) (by decide +kernel)
theorem it_X4 : Cond.instantiable RX4 9 ∈ TW := tw_mem 212 (by decide +kernel) (by decide +kernel)
theorem mn_X5_32 : Cond.methodLinkNest RX5 32 yX4_init RX5 ∈ lw_tbl := lw_mem 213 (by decide +kernel)
theorem im_X4_init : Cond.instanceMethod yX4_init ∈ TW := tw_mem 214 (by decide +kernel) (by decide +kernel)
set_option maxRecDepth 100000 in
theorem co_X4_init : Cond.code yX4_init cX4_init 1 none ∈ TW := tw_mem 215 rfl rfl
theorem ml_X4_3 : Cond.methodLink RX4 3 objectInit ∈ TW := tw_mem 216 (by decide +kernel) (by decide +kernel)
theorem fl_X4_9 : Cond.fieldLink RX4 9 "BentQuarters$Text" "bytes" "[I" ∈ TW := tw_mem 217 (by decide +kernel) (by decide +kernel)
theorem fl_X4_15 : Cond.fieldLink RX4 15 "BentQuarters$Text" "length" "I" ∈ TW := tw_mem 218 (by decide +kernel) (by decide +kernel)
theorem fl_X5_152 : Cond.fieldLink RX5 152 "BentQuarters$Text" "length" "I" ∈ TW := tw_mem 219 (by decide +kernel) (by decide +kernel)
theorem fl_X4_19 : Cond.fieldLink RX4 19 "BentQuarters$Text" "letters" "[I" ∈ TW := tw_mem 220 (by decide +kernel) (by decide +kernel)
theorem fl_X5_164 : Cond.fieldLink RX5 164 "BentQuarters$Text" "letters" "[I" ∈ TW := tw_mem 221 (by decide +kernel) (by decide +kernel)
theorem fl_X4_22 : Cond.fieldLink RX4 22 "BentQuarters$Text" "firsts" "[I" ∈ TW := tw_mem 222 (by decide +kernel) (by decide +kernel)
theorem fl_X5_167 : Cond.fieldLink RX5 167 "BentQuarters$Text" "firsts" "[I" ∈ TW := tw_mem 223 (by decide +kernel) (by decide +kernel)
theorem fl_X4_25 : Cond.fieldLink RX4 25 "BentQuarters$Text" "seconds" "[I" ∈ TW := tw_mem 224 (by decide +kernel) (by decide +kernel)
theorem fl_X5_170 : Cond.fieldLink RX5 170 "BentQuarters$Text" "seconds" "[I" ∈ TW := tw_mem 225 (by decide +kernel) (by decide +kernel)
theorem fl_X4_28 : Cond.fieldLink RX4 28 "BentQuarters$Text" "orders" "I" ∈ TW := tw_mem 226 (by decide +kernel) (by decide +kernel)
theorem fl_X5_161 : Cond.fieldLink RX5 161 "BentQuarters$Text" "orders" "I" ∈ TW := tw_mem 227 (by decide +kernel) (by decide +kernel)
theorem fl_X4_31 : Cond.fieldLink RX4 31 "BentQuarters$Text" "open" "Z" ∈ TW := tw_mem 228 (by decide +kernel) (by decide +kernel)
theorem fl_X4_35 : Cond.fieldLink RX4 35 "BentQuarters$Text" "numbers" "I" ∈ TW := tw_mem 229 (by decide +kernel) (by decide +kernel)
theorem fl_X4_38 : Cond.fieldLink RX4 38 "BentQuarters$Text" "figuresInNumber" "I" ∈ TW := tw_mem 230 (by decide +kernel) (by decide +kernel)
theorem fl_X5_12 : Cond.fieldLink RX5 12 "BentQuarters" "figures" "LBentQuarters$Figures;" ∈ TW := tw_mem 250 (by decide +kernel) (by decide +kernel)
theorem fl_X5_19 : Cond.fieldLink RX5 19 "BentQuarters" "bender" "LBentQuarters$Bender;" ∈ TW := tw_mem 251 (by decide +kernel) (by decide +kernel)
theorem fl_X5_26 : Cond.fieldLink RX5 26 "BentQuarters" "past" "LBentQuarters$Past;" ∈ TW := tw_mem 252 (by decide +kernel) (by decide +kernel)
theorem fl_X5_33 : Cond.fieldLink RX5 33 "BentQuarters" "text" "LBentQuarters$Text;" ∈ TW := tw_mem 253 (by decide +kernel) (by decide +kernel)
theorem fl_X5_37 : Cond.fieldLink RX5 37 "BentQuarters" "refusals" "[I" ∈ TW := tw_mem 254 (by decide +kernel) (by decide +kernel)
theorem fl_X5_41 : Cond.fieldLink RX5 41 "BentQuarters" "shares" "[I" ∈ TW := tw_mem 255 (by decide +kernel) (by decide +kernel)
theorem ml_L_13 : Cond.methodLink RL 13 yX5_quarter ∈ TW := tw_mem 269 (by decide +kernel) (by decide +kernel)
theorem im_X5_quarter : Cond.instanceMethod yX5_quarter ∈ TW := tw_mem 270 (by decide +kernel) (by decide +kernel)
theorem se_X5_quarter : Cond.selects RX5 yX5_quarter yX5_quarter ∈ TW := tw_mem 271 (by decide +kernel) (by decide +kernel)
set_option maxRecDepth 100000 in
theorem co_X5_quarter : Cond.code yX5_quarter cX5_quarter 2 (some .int) ∈ TW := tw_mem 272 rfl rfl
theorem ml_X5_44 : Cond.methodLink RX5 44 yX3_holds ∈ TW := tw_mem 273 (by decide +kernel) (by decide +kernel)
theorem im_X3_holds : Cond.instanceMethod yX3_holds ∈ TW := tw_mem 274 (by decide +kernel) (by decide +kernel)
theorem se_X3_holds : Cond.selects RX3 yX3_holds yX3_holds ∈ TW := tw_mem 275 (by decide +kernel) (by decide +kernel)
set_option maxRecDepth 100000 in
theorem co_X3_holds : Cond.code yX3_holds cX3_holds 2 none ∈ TW := tw_mem 276 rfl rfl
theorem ml_X3_25 : Cond.methodLink RX3 25 yX2_becomes ∈ TW := tw_mem 277 (by decide +kernel) (by decide +kernel)
theorem im_X2_becomes : Cond.instanceMethod yX2_becomes ∈ TW := tw_mem 278 (by decide +kernel) (by decide +kernel)
theorem se_X2_becomes : Cond.selects RX2 yX2_becomes yX2_becomes ∈ TW := tw_mem 279 (by decide +kernel) (by decide +kernel)
set_option maxRecDepth 100000 in
theorem co_X2_becomes : Cond.code yX2_becomes cX2_becomes 2 none ∈ TW := tw_mem 280 rfl rfl
theorem ml_X2_34 : Cond.methodLink RX2 34 arraycopyName ∈ TW := tw_mem 281 (by decide +kernel) (by decide +kernel)
theorem st_ACP : Cond.static arraycopyName ∈ TW := tw_mem 282 (by decide +kernel) (by decide +kernel)
theorem na_ACP : Cond.native arraycopyName ∈ lw_tbl := lw_mem 283 (by decide +kernel)
theorem tna_ACP : Cond.native arraycopyName ∈ TW := tw_mem 283 (by decide +kernel) (by decide +kernel)
theorem ml_X5_48 : Cond.methodLink RX5 48 yX2_adds ∈ TW := tw_mem 284 (by decide +kernel) (by decide +kernel)
theorem im_X2_adds : Cond.instanceMethod yX2_adds ∈ TW := tw_mem 285 (by decide +kernel) (by decide +kernel)
theorem se_X2_adds : Cond.selects RX2 yX2_adds yX2_adds ∈ TW := tw_mem 286 (by decide +kernel) (by decide +kernel)
set_option maxRecDepth 100000 in
theorem co_X2_adds : Cond.code yX2_adds cX2_adds 2 (some .int) ∈ TW := tw_mem 287 rfl rfl
theorem mn_X2_40 : Cond.methodLinkNest RX2 40 yX5_within RX5 ∈ lw_tbl := lw_mem 288 (by decide +kernel)
theorem st_X5_within : Cond.static yX5_within ∈ TW := tw_mem 289 (by decide +kernel) (by decide +kernel)
set_option maxRecDepth 100000 in
theorem co_X5_within : Cond.code yX5_within cX5_within 3 (some .boolean) ∈ TW := tw_mem 290 rfl rfl
theorem ml_X5_52 : Cond.methodLink RX5 52 yX5_settles ∈ TW := tw_mem 291 (by decide +kernel) (by decide +kernel)
theorem im_X5_settles : Cond.instanceMethod yX5_settles ∈ TW := tw_mem 293 (by decide +kernel) (by decide +kernel)
set_option maxRecDepth 100000 in
theorem co_X5_settles : Cond.code yX5_settles cX5_settles 2 (some .int) ∈ TW := tw_mem 294 rfl rfl
theorem ml_X5_177 : Cond.methodLink RX5 177 yX5_isRefusal ∈ TW := tw_mem 295 (by decide +kernel) (by decide +kernel)
theorem st_X5_isRefusal : Cond.static yX5_isRefusal ∈ TW := tw_mem 296 (by decide +kernel) (by decide +kernel)
set_option maxRecDepth 100000 in
theorem co_X5_isRefusal : Cond.code yX5_isRefusal cX5_isRefusal 1 (some .boolean) ∈ TW := tw_mem 297 rfl rfl
theorem ml_X5_89 : Cond.methodLink RX5 89 yX5_refuses ∈ TW := tw_mem 298 (by decide +kernel) (by decide +kernel)
theorem im_X5_refuses : Cond.instanceMethod yX5_refuses ∈ TW := tw_mem 300 (by decide +kernel) (by decide +kernel)
set_option maxRecDepth 100000 in
theorem co_X5_refuses : Cond.code yX5_refuses cX5_refuses 3 (some .int) ∈ TW := tw_mem 301 rfl rfl
theorem ml_X5_85 : Cond.methodLink RX5 85 yX5_within ∈ TW := tw_mem 302 (by decide +kernel) (by decide +kernel)
theorem ml_X5_186 : Cond.methodLink RX5 186 yX3_keeps ∈ TW := tw_mem 303 (by decide +kernel) (by decide +kernel)
theorem im_X3_keeps : Cond.instanceMethod yX3_keeps ∈ TW := tw_mem 304 (by decide +kernel) (by decide +kernel)
theorem se_X3_keeps : Cond.selects RX3 yX3_keeps yX3_keeps ∈ TW := tw_mem 305 (by decide +kernel) (by decide +kernel)
set_option maxRecDepth 100000 in
theorem co_X3_keeps : Cond.code yX3_keeps cX3_keeps 1 none ∈ TW := tw_mem 306 rfl rfl
theorem ml_X3_29 : Cond.methodLink RX3 29 Lib.Math.min.name ∈ TW := tw_mem 307 (by decide +kernel) (by decide +kernel)
theorem st_MIN : Cond.static Lib.Math.min.name ∈ TW := tw_mem 308 (by decide +kernel) (by decide +kernel)
set_option maxRecDepth 100000 in
theorem co_MIN : Cond.code Lib.Math.min.name Lib.Math.min.code 2 (some .int) ∈ TW := tw_mem 309 rfl rfl
theorem ml_X5_180 : Cond.methodLink RX5 180 yX0_forgets ∈ TW := tw_mem 310 (by decide +kernel) (by decide +kernel)
theorem im_X0_forgets : Cond.instanceMethod yX0_forgets ∈ TW := tw_mem 311 (by decide +kernel) (by decide +kernel)
theorem se_X0_forgets : Cond.selects RX0 yX0_forgets yX0_forgets ∈ TW := tw_mem 312 (by decide +kernel) (by decide +kernel)
set_option maxRecDepth 100000 in
theorem co_X0_forgets : Cond.code yX0_forgets cX0_forgets 1 none ∈ TW := tw_mem 313 rfl rfl
theorem ml_L_18 : Cond.methodLink RL 18 yX5_indicates ∈ TW := tw_mem 314 (by decide +kernel) (by decide +kernel)
theorem im_X5_indicates : Cond.instanceMethod yX5_indicates ∈ TW := tw_mem 315 (by decide +kernel) (by decide +kernel)
theorem se_X5_indicates : Cond.selects RX5 yX5_indicates yX5_indicates ∈ TW := tw_mem 316 (by decide +kernel) (by decide +kernel)
set_option maxRecDepth 100000 in
theorem co_X5_indicates : Cond.code yX5_indicates cX5_indicates 3 (some .int) ∈ TW := tw_mem 317 rfl rfl
theorem ml_X5_55 : Cond.methodLink RX5 55 yX2_reindicates ∈ TW := tw_mem 318 (by decide +kernel) (by decide +kernel)
theorem im_X2_reindicates : Cond.instanceMethod yX2_reindicates ∈ TW := tw_mem 319 (by decide +kernel) (by decide +kernel)
theorem se_X2_reindicates : Cond.selects RX2 yX2_reindicates yX2_reindicates ∈ TW := tw_mem 320 (by decide +kernel) (by decide +kernel)
set_option maxRecDepth 100000 in
theorem co_X2_reindicates : Cond.code yX2_reindicates cX2_reindicates 4 (some .int) ∈ TW := tw_mem 321 rfl rfl
theorem ml_X2_44 : Cond.methodLink RX2 44 yX2_has ∈ TW := tw_mem 322 (by decide +kernel) (by decide +kernel)
theorem im_X2_has : Cond.instanceMethod yX2_has ∈ TW := tw_mem 323 (by decide +kernel) (by decide +kernel)
theorem se_X2_has : Cond.selects RX2 yX2_has yX2_has ∈ TW := tw_mem 324 (by decide +kernel) (by decide +kernel)
set_option maxRecDepth 100000 in
theorem co_X2_has : Cond.code yX2_has cX2_has 2 (some .boolean) ∈ TW := tw_mem 325 rfl rfl
theorem ml_L_23 : Cond.methodLink RL 23 yX5_total ∈ TW := tw_mem 326 (by decide +kernel) (by decide +kernel)
theorem im_X5_total : Cond.instanceMethod yX5_total ∈ TW := tw_mem 327 (by decide +kernel) (by decide +kernel)
theorem se_X5_total : Cond.selects RX5 yX5_total yX5_total ∈ TW := tw_mem 328 (by decide +kernel) (by decide +kernel)
set_option maxRecDepth 100000 in
theorem co_X5_total : Cond.code yX5_total cX5_total 3 (some .int) ∈ TW := tw_mem 329 rfl rfl
theorem ml_X5_59 : Cond.methodLink RX5 59 yX2_tells ∈ TW := tw_mem 330 (by decide +kernel) (by decide +kernel)
theorem im_X2_tells : Cond.instanceMethod yX2_tells ∈ TW := tw_mem 331 (by decide +kernel) (by decide +kernel)
theorem se_X2_tells : Cond.selects RX2 yX2_tells yX2_tells ∈ TW := tw_mem 332 (by decide +kernel) (by decide +kernel)
set_option maxRecDepth 100000 in
theorem co_X2_tells : Cond.code yX2_tells cX2_tells 4 (some .int) ∈ TW := tw_mem 333 rfl rfl
theorem mn_X2_48 : Cond.methodLinkNest RX2 48 yX5_isYear RX5 ∈ lw_tbl := lw_mem 334 (by decide +kernel)
theorem st_X5_isYear : Cond.static yX5_isYear ∈ TW := tw_mem 335 (by decide +kernel) (by decide +kernel)
set_option maxRecDepth 100000 in
theorem co_X5_isYear : Cond.code yX5_isYear cX5_isYear 1 (some .boolean) ∈ TW := tw_mem 336 rfl rfl
theorem ml_L_27 : Cond.methodLink RL 27 yX5_untold ∈ TW := tw_mem 337 (by decide +kernel) (by decide +kernel)
theorem im_X5_untold : Cond.instanceMethod yX5_untold ∈ TW := tw_mem 338 (by decide +kernel) (by decide +kernel)
theorem se_X5_untold : Cond.selects RX5 yX5_untold yX5_untold ∈ TW := tw_mem 339 (by decide +kernel) (by decide +kernel)
set_option maxRecDepth 100000 in
theorem co_X5_untold : Cond.code yX5_untold cX5_untold 2 (some .int) ∈ TW := tw_mem 340 rfl rfl
theorem ml_X5_62 : Cond.methodLink RX5 62 yX2_untells ∈ TW := tw_mem 341 (by decide +kernel) (by decide +kernel)
theorem im_X2_untells : Cond.instanceMethod yX2_untells ∈ TW := tw_mem 342 (by decide +kernel) (by decide +kernel)
theorem se_X2_untells : Cond.selects RX2 yX2_untells yX2_untells ∈ TW := tw_mem 343 (by decide +kernel) (by decide +kernel)
set_option maxRecDepth 100000 in
theorem co_X2_untells : Cond.code yX2_untells cX2_untells 3 (some .int) ∈ TW := tw_mem 344 rfl rfl
theorem ml_L_31 : Cond.methodLink RL 31 yX5_freezes ∈ TW := tw_mem 345 (by decide +kernel) (by decide +kernel)
theorem im_X5_freezes : Cond.instanceMethod yX5_freezes ∈ TW := tw_mem 346 (by decide +kernel) (by decide +kernel)
theorem se_X5_freezes : Cond.selects RX5 yX5_freezes yX5_freezes ∈ TW := tw_mem 347 (by decide +kernel) (by decide +kernel)
set_option maxRecDepth 100000 in
theorem co_X5_freezes : Cond.code yX5_freezes cX5_freezes 3 (some .int) ∈ TW := tw_mem 348 rfl rfl
theorem ml_X5_65 : Cond.methodLink RX5 65 yX2_ices ∈ TW := tw_mem 349 (by decide +kernel) (by decide +kernel)
theorem im_X2_ices : Cond.instanceMethod yX2_ices ∈ TW := tw_mem 350 (by decide +kernel) (by decide +kernel)
theorem se_X2_ices : Cond.selects RX2 yX2_ices yX2_ices ∈ TW := tw_mem 351 (by decide +kernel) (by decide +kernel)
set_option maxRecDepth 100000 in
theorem co_X2_ices : Cond.code yX2_ices cX2_ices 4 (some .int) ∈ TW := tw_mem 352 rfl rfl
theorem ml_X2_51 : Cond.methodLink RX2 51 yX2_isPrinted ∈ TW := tw_mem 353 (by decide +kernel) (by decide +kernel)
theorem im_X2_isPrinted : Cond.instanceMethod yX2_isPrinted ∈ TW := tw_mem 354 (by decide +kernel) (by decide +kernel)
theorem se_X2_isPrinted : Cond.selects RX2 yX2_isPrinted yX2_isPrinted ∈ TW := tw_mem 355 (by decide +kernel) (by decide +kernel)
set_option maxRecDepth 100000 in
theorem co_X2_isPrinted : Cond.code yX2_isPrinted cX2_isPrinted 2 (some .boolean) ∈ TW := tw_mem 356 rfl rfl
theorem ml_X2_54 : Cond.methodLink RX2 54 yJ6_bitCount_0f7a4 ∈ TW := tw_mem 357 (by decide +kernel) (by decide +kernel)
theorem st_J6_bitCount_0f7a4 : Cond.static yJ6_bitCount_0f7a4 ∈ TW := tw_mem 358 (by decide +kernel) (by decide +kernel)
set_option maxRecDepth 100000 in
theorem co_J6_bitCount_0f7a4 : Cond.code yJ6_bitCount_0f7a4 cJ6_bitCount_0f7a4 1 (some .int) ∈ TW := tw_mem 359 rfl rfl
theorem kc_J6_265 : Cond.constant RJ6 265 (1431655765) ∈ TW := tw_mem 360 (by decide +kernel) (by decide +kernel)
theorem kc_J6_266 : Cond.constant RJ6 266 (858993459) ∈ TW := tw_mem 361 (by decide +kernel) (by decide +kernel)
theorem kc_J6_267 : Cond.constant RJ6 267 (252645135) ∈ TW := tw_mem 362 (by decide +kernel) (by decide +kernel)
theorem ml_L_35 : Cond.methodLink RL 35 yX5_limits ∈ TW := tw_mem 363 (by decide +kernel) (by decide +kernel)
theorem im_X5_limits : Cond.instanceMethod yX5_limits ∈ TW := tw_mem 364 (by decide +kernel) (by decide +kernel)
theorem se_X5_limits : Cond.selects RX5 yX5_limits yX5_limits ∈ TW := tw_mem 365 (by decide +kernel) (by decide +kernel)
set_option maxRecDepth 100000 in
theorem co_X5_limits : Cond.code yX5_limits cX5_limits 2 (some .int) ∈ TW := tw_mem 366 rfl rfl
theorem ml_X5_68 : Cond.methodLink RX5 68 yX2_bounds ∈ TW := tw_mem 367 (by decide +kernel) (by decide +kernel)
theorem im_X2_bounds : Cond.instanceMethod yX2_bounds ∈ TW := tw_mem 368 (by decide +kernel) (by decide +kernel)
theorem se_X2_bounds : Cond.selects RX2 yX2_bounds yX2_bounds ∈ TW := tw_mem 369 (by decide +kernel) (by decide +kernel)
set_option maxRecDepth 100000 in
theorem co_X2_bounds : Cond.code yX2_bounds cX2_bounds 3 (some .int) ∈ TW := tw_mem 370 rfl rfl
theorem ml_L_39 : Cond.methodLink RL 39 yX5_form ∈ TW := tw_mem 371 (by decide +kernel) (by decide +kernel)
theorem im_X5_form : Cond.instanceMethod yX5_form ∈ TW := tw_mem 372 (by decide +kernel) (by decide +kernel)
theorem se_X5_form : Cond.selects RX5 yX5_form yX5_form ∈ TW := tw_mem 373 (by decide +kernel) (by decide +kernel)
set_option maxRecDepth 100000 in
theorem co_X5_form : Cond.code yX5_form cX5_form 2 (some .int) ∈ TW := tw_mem 374 rfl rfl
theorem ml_X5_71 : Cond.methodLink RX5 71 yX2_shapes ∈ TW := tw_mem 375 (by decide +kernel) (by decide +kernel)
theorem im_X2_shapes : Cond.instanceMethod yX2_shapes ∈ TW := tw_mem 376 (by decide +kernel) (by decide +kernel)
theorem se_X2_shapes : Cond.selects RX2 yX2_shapes yX2_shapes ∈ TW := tw_mem 377 (by decide +kernel) (by decide +kernel)
set_option maxRecDepth 100000 in
theorem co_X2_shapes : Cond.code yX2_shapes cX2_shapes 3 (some .int) ∈ TW := tw_mem 378 rfl rfl
theorem mn_X2_60 : Cond.methodLinkNest RX2 60 yX5_isForm RX5 ∈ lw_tbl := lw_mem 379 (by decide +kernel)
theorem st_X5_isForm : Cond.static yX5_isForm ∈ TW := tw_mem 380 (by decide +kernel) (by decide +kernel)
set_option maxRecDepth 100000 in
theorem co_X5_isForm : Cond.code yX5_isForm cX5_isForm 1 (some .boolean) ∈ TW := tw_mem 381 rfl rfl
theorem ml_L_43 : Cond.methodLink RL 43 yX5_publishes ∈ TW := tw_mem 382 (by decide +kernel) (by decide +kernel)
theorem im_X5_publishes : Cond.instanceMethod yX5_publishes ∈ TW := tw_mem 383 (by decide +kernel) (by decide +kernel)
theorem se_X5_publishes : Cond.selects RX5 yX5_publishes yX5_publishes ∈ TW := tw_mem 384 (by decide +kernel) (by decide +kernel)
set_option maxRecDepth 100000 in
theorem co_X5_publishes : Cond.code yX5_publishes cX5_publishes 1 (some .int) ∈ TW := tw_mem 385 rfl rfl
theorem ml_X5_74 : Cond.methodLink RX5 74 yX5_prints ∈ TW := tw_mem 386 (by decide +kernel) (by decide +kernel)
theorem im_X5_prints : Cond.instanceMethod yX5_prints ∈ TW := tw_mem 388 (by decide +kernel) (by decide +kernel)
set_option maxRecDepth 100000 in
theorem co_X5_prints : Cond.code yX5_prints cX5_prints 2 (some .int) ∈ TW := tw_mem 389 rfl rfl
theorem ml_X5_104 : Cond.methodLink RX5 104 yX0_bends ∈ TW := tw_mem 390 (by decide +kernel) (by decide +kernel)
theorem im_X0_bends : Cond.instanceMethod yX0_bends ∈ TW := tw_mem 391 (by decide +kernel) (by decide +kernel)
theorem se_X0_bends : Cond.selects RX0 yX0_bends yX0_bends ∈ TW := tw_mem 392 (by decide +kernel) (by decide +kernel)
set_option maxRecDepth 100000 in
theorem co_X0_bends : Cond.code yX0_bends cX0_bends 2 (some .boolean) ∈ TW := tw_mem 393 rfl rfl
theorem ml_X0_53 : Cond.methodLink RX0 53 yX1_lays ∈ TW := tw_mem 394 (by decide +kernel) (by decide +kernel)
theorem im_X1_lays : Cond.instanceMethod yX1_lays ∈ TW := tw_mem 395 (by decide +kernel) (by decide +kernel)
theorem se_X1_lays : Cond.selects RX1 yX1_lays yX1_lays ∈ TW := tw_mem 396 (by decide +kernel) (by decide +kernel)
set_option maxRecDepth 100000 in
theorem co_X1_lays : Cond.code yX1_lays cX1_lays 6 (some .boolean) ∈ TW := tw_mem 397 rfl rfl
theorem ml_X1_38 : Cond.methodLink RX1 38 yX1_laysQuarter ∈ TW := tw_mem 398 (by decide +kernel) (by decide +kernel)
theorem im_X1_laysQuarter : Cond.instanceMethod yX1_laysQuarter ∈ TW := tw_mem 400 (by decide +kernel) (by decide +kernel)
set_option maxRecDepth 100000 in
theorem co_X1_laysQuarter : Cond.code yX1_laysQuarter cX1_laysQuarter 6 none ∈ TW := tw_mem 401 rfl rfl
theorem ml_X1_53 : Cond.methodLink RX1 53 yX2_isFrozen ∈ TW := tw_mem 402 (by decide +kernel) (by decide +kernel)
theorem im_X2_isFrozen : Cond.instanceMethod yX2_isFrozen ∈ TW := tw_mem 403 (by decide +kernel) (by decide +kernel)
theorem se_X2_isFrozen : Cond.selects RX2 yX2_isFrozen yX2_isFrozen ∈ TW := tw_mem 404 (by decide +kernel) (by decide +kernel)
set_option maxRecDepth 100000 in
theorem co_X2_isFrozen : Cond.code yX2_isFrozen cX2_isFrozen 2 (some .boolean) ∈ TW := tw_mem 405 rfl rfl
theorem ml_X1_56 : Cond.methodLink RX1 56 yX2_isPrinted ∈ TW := tw_mem 406 (by decide +kernel) (by decide +kernel)
theorem ml_X1_65 : Cond.methodLink RX1 65 Lib.Math.max.name ∈ TW := tw_mem 407 (by decide +kernel) (by decide +kernel)
theorem st_MAX : Cond.static Lib.Math.max.name ∈ TW := tw_mem 408 (by decide +kernel) (by decide +kernel)
set_option maxRecDepth 100000 in
theorem co_MAX : Cond.code Lib.Math.max.name Lib.Math.max.code 2 (some .int) ∈ TW := tw_mem 409 rfl rfl
theorem ml_X1_71 : Cond.methodLink RX1 71 Lib.Math.min.name ∈ TW := tw_mem 410 (by decide +kernel) (by decide +kernel)
theorem ml_X1_45 : Cond.methodLink RX1 45 yX2_gap ∈ TW := tw_mem 411 (by decide +kernel) (by decide +kernel)
theorem im_X2_gap : Cond.instanceMethod yX2_gap ∈ TW := tw_mem 412 (by decide +kernel) (by decide +kernel)
theorem se_X2_gap : Cond.selects RX2 yX2_gap yX2_gap ∈ TW := tw_mem 413 (by decide +kernel) (by decide +kernel)
set_option maxRecDepth 100000 in
theorem co_X2_gap : Cond.code yX2_gap cX2_gap 2 (some .int) ∈ TW := tw_mem 414 rfl rfl
theorem ml_X2_70 : Cond.methodLink RX2 70 yX2_indicated ∈ TW := tw_mem 415 (by decide +kernel) (by decide +kernel)
theorem im_X2_indicated : Cond.instanceMethod yX2_indicated ∈ TW := tw_mem 416 (by decide +kernel) (by decide +kernel)
theorem se_X2_indicated : Cond.selects RX2 yX2_indicated yX2_indicated ∈ TW := tw_mem 417 (by decide +kernel) (by decide +kernel)
set_option maxRecDepth 100000 in
theorem co_X2_indicated : Cond.code yX2_indicated cX2_indicated 4 (some .int) ∈ TW := tw_mem 418 rfl rfl
theorem ml_X1_49 : Cond.methodLink RX1 49 yX1_laysYear ∈ TW := tw_mem 419 (by decide +kernel) (by decide +kernel)
theorem im_X1_laysYear : Cond.instanceMethod yX1_laysYear ∈ TW := tw_mem 421 (by decide +kernel) (by decide +kernel)
set_option maxRecDepth 100000 in
theorem co_X1_laysYear : Cond.code yX1_laysYear cX1_laysYear 9 (some .boolean) ∈ TW := tw_mem 422 rfl rfl
theorem ml_X0_62 : Cond.methodLink RX0 62 yX0_fills ∈ TW := tw_mem 423 (by decide +kernel) (by decide +kernel)
theorem im_X0_fills : Cond.instanceMethod yX0_fills ∈ TW := tw_mem 425 (by decide +kernel) (by decide +kernel)
set_option maxRecDepth 100000 in
theorem co_X0_fills : Cond.code yX0_fills cX0_fills 6 none ∈ TW := tw_mem 426 rfl rfl
theorem ml_X0_78 : Cond.methodLink RX0 78 yX0_weighsSteps ∈ TW := tw_mem 427 (by decide +kernel) (by decide +kernel)
theorem im_X0_weighsSteps : Cond.instanceMethod yX0_weighsSteps ∈ TW := tw_mem 429 (by decide +kernel) (by decide +kernel)
set_option maxRecDepth 100000 in
theorem co_X0_weighsSteps : Cond.code yX0_weighsSteps cX0_weighsSteps 7 none ∈ TW := tw_mem 430 rfl rfl
theorem ml_X0_82 : Cond.methodLink RX0 82 yX1_mostLeft ∈ TW := tw_mem 431 (by decide +kernel) (by decide +kernel)
theorem im_X1_mostLeft : Cond.instanceMethod yX1_mostLeft ∈ TW := tw_mem 432 (by decide +kernel) (by decide +kernel)
theorem se_X1_mostLeft : Cond.selects RX1 yX1_mostLeft yX1_mostLeft ∈ TW := tw_mem 433 (by decide +kernel) (by decide +kernel)
set_option maxRecDepth 100000 in
theorem co_X1_mostLeft : Cond.code yX1_mostLeft cX1_mostLeft 4 (some .int) ∈ TW := tw_mem 434 rfl rfl
theorem ml_X1_74 : Cond.methodLink RX1 74 yX1_isBound ∈ TW := tw_mem 435 (by decide +kernel) (by decide +kernel)
theorem im_X1_isBound : Cond.instanceMethod yX1_isBound ∈ TW := tw_mem 436 (by decide +kernel) (by decide +kernel)
theorem se_X1_isBound : Cond.selects RX1 yX1_isBound yX1_isBound ∈ TW := tw_mem 437 (by decide +kernel) (by decide +kernel)
set_option maxRecDepth 100000 in
theorem co_X1_isBound : Cond.code yX1_isBound cX1_isBound 2 (some .boolean) ∈ TW := tw_mem 438 rfl rfl
theorem ml_X1_77 : Cond.methodLink RX1 77 yX1_leftAhead ∈ TW := tw_mem 439 (by decide +kernel) (by decide +kernel)
theorem im_X1_leftAhead : Cond.instanceMethod yX1_leftAhead ∈ TW := tw_mem 440 (by decide +kernel) (by decide +kernel)
theorem se_X1_leftAhead : Cond.selects RX1 yX1_leftAhead yX1_leftAhead ∈ TW := tw_mem 441 (by decide +kernel) (by decide +kernel)
set_option maxRecDepth 100000 in
theorem co_X1_leftAhead : Cond.code yX1_leftAhead cX1_leftAhead 3 (some .int) ∈ TW := tw_mem 442 rfl rfl
theorem ml_X0_86 : Cond.methodLink RX0 86 yX1_leastLeft ∈ TW := tw_mem 443 (by decide +kernel) (by decide +kernel)
theorem im_X1_leastLeft : Cond.instanceMethod yX1_leastLeft ∈ TW := tw_mem 444 (by decide +kernel) (by decide +kernel)
theorem se_X1_leastLeft : Cond.selects RX1 yX1_leastLeft yX1_leastLeft ∈ TW := tw_mem 445 (by decide +kernel) (by decide +kernel)
set_option maxRecDepth 100000 in
theorem co_X1_leastLeft : Cond.code yX1_leastLeft cX1_leastLeft 4 (some .int) ∈ TW := tw_mem 446 rfl rfl
theorem ml_X0_89 : Cond.methodLink RX0 89 yX0_choosesStep ∈ TW := tw_mem 447 (by decide +kernel) (by decide +kernel)
theorem im_X0_choosesStep : Cond.instanceMethod yX0_choosesStep ∈ TW := tw_mem 449 (by decide +kernel) (by decide +kernel)
set_option maxRecDepth 100000 in
theorem co_X0_choosesStep : Cond.code yX0_choosesStep cX0_choosesStep 12 none ∈ TW := tw_mem 450 rfl rfl
theorem ml_X0_105 : Cond.methodLink RX0 105 yX1_isBound ∈ TW := tw_mem 451 (by decide +kernel) (by decide +kernel)
theorem ml_X0_108 : Cond.methodLink RX0 108 yX1_leftAhead ∈ TW := tw_mem 452 (by decide +kernel) (by decide +kernel)
theorem ml_X0_121 : Cond.methodLink RX0 121 Lib.Math.max.name ∈ TW := tw_mem 453 (by decide +kernel) (by decide +kernel)
theorem ml_X0_129 : Cond.methodLink RX0 129 Lib.Math.min.name ∈ TW := tw_mem 454 (by decide +kernel) (by decide +kernel)
theorem ml_X0_93 : Cond.methodLink RX0 93 yX0_spot ∈ TW := tw_mem 455 (by decide +kernel) (by decide +kernel)
theorem im_X0_spot : Cond.instanceMethod yX0_spot ∈ TW := tw_mem 457 (by decide +kernel) (by decide +kernel)
set_option maxRecDepth 100000 in
theorem co_X0_spot : Cond.code yX0_spot cX0_spot 5 (some .int) ∈ TW := tw_mem 458 rfl rfl
theorem fn_X0_134 : Cond.fieldLinkNest RX0 134 "BentQuarters" "SPOTS_BEGIN" "[I" "BentQuarters" ∈ lw_tbl := lw_mem 459 (by decide +kernel)
theorem ls_0 : Cond.laysStatic "BentQuarters" "SPOTS_BEGIN" "[I" ∈ lw_tbl := lw_mem 460 (by decide +kernel)
theorem kl_X0_132 : Cond.constantLong RX0 132 (1152921504606846976) ∈ TW := tw_mem 461 (by decide +kernel) (by decide +kernel)
theorem ml_X0_101 : Cond.methodLink RX0 101 yX0_isSpot ∈ TW := tw_mem 462 (by decide +kernel) (by decide +kernel)
theorem im_X0_isSpot : Cond.instanceMethod yX0_isSpot ∈ TW := tw_mem 464 (by decide +kernel) (by decide +kernel)
set_option maxRecDepth 100000 in
theorem co_X0_isSpot : Cond.code yX0_isSpot cX0_isSpot 2 (some .boolean) ∈ TW := tw_mem 465 rfl rfl
theorem ml_X0_97 : Cond.methodLink RX0 97 yX0_keepsBest ∈ TW := tw_mem 466 (by decide +kernel) (by decide +kernel)
theorem im_X0_keepsBest : Cond.instanceMethod yX0_keepsBest ∈ TW := tw_mem 468 (by decide +kernel) (by decide +kernel)
set_option maxRecDepth 100000 in
theorem co_X0_keepsBest : Cond.code yX0_keepsBest cX0_keepsBest 2 none ∈ TW := tw_mem 469 rfl rfl
theorem ml_X0_66 : Cond.methodLink RX0 66 yX0_traces ∈ TW := tw_mem 470 (by decide +kernel) (by decide +kernel)
theorem im_X0_traces : Cond.instanceMethod yX0_traces ∈ TW := tw_mem 472 (by decide +kernel) (by decide +kernel)
set_option maxRecDepth 100000 in
theorem co_X0_traces : Cond.code yX0_traces cX0_traces 5 none ∈ TW := tw_mem 473 rfl rfl
theorem ml_L_48 : Cond.methodLink RL 48 yX5_recalls ∈ TW := tw_mem 474 (by decide +kernel) (by decide +kernel)
theorem im_X5_recalls : Cond.instanceMethod yX5_recalls ∈ TW := tw_mem 475 (by decide +kernel) (by decide +kernel)
theorem se_X5_recalls : Cond.selects RX5 yX5_recalls yX5_recalls ∈ TW := tw_mem 476 (by decide +kernel) (by decide +kernel)
set_option maxRecDepth 100000 in
theorem co_X5_recalls : Cond.code yX5_recalls cX5_recalls 1 (some .int) ∈ TW := tw_mem 477 rfl rfl
theorem ml_X5_78 : Cond.methodLink RX5 78 yX2_unprints ∈ TW := tw_mem 478 (by decide +kernel) (by decide +kernel)
theorem im_X2_unprints : Cond.instanceMethod yX2_unprints ∈ TW := tw_mem 479 (by decide +kernel) (by decide +kernel)
theorem se_X2_unprints : Cond.selects RX2 yX2_unprints yX2_unprints ∈ TW := tw_mem 480 (by decide +kernel) (by decide +kernel)
set_option maxRecDepth 100000 in
theorem co_X2_unprints : Cond.code yX2_unprints cX2_unprints 3 (some .int) ∈ TW := tw_mem 481 rfl rfl
theorem ml_X2_63 : Cond.methodLink RX2 63 yX2_printedOnes ∈ TW := tw_mem 482 (by decide +kernel) (by decide +kernel)
theorem im_X2_printedOnes : Cond.instanceMethod yX2_printedOnes ∈ TW := tw_mem 483 (by decide +kernel) (by decide +kernel)
theorem se_X2_printedOnes : Cond.selects RX2 yX2_printedOnes yX2_printedOnes ∈ TW := tw_mem 484 (by decide +kernel) (by decide +kernel)
set_option maxRecDepth 100000 in
theorem co_X2_printedOnes : Cond.code yX2_printedOnes cX2_printedOnes 3 (some .int) ∈ TW := tw_mem 485 rfl rfl
theorem ml_L_52 : Cond.methodLink RL 52 yX5_of ∈ TW := tw_mem 486 (by decide +kernel) (by decide +kernel)
theorem im_X5_of : Cond.instanceMethod yX5_of ∈ TW := tw_mem 487 (by decide +kernel) (by decide +kernel)
theorem se_X5_of : Cond.selects RX5 yX5_of yX5_of ∈ TW := tw_mem 488 (by decide +kernel) (by decide +kernel)
set_option maxRecDepth 100000 in
theorem co_X5_of : Cond.code yX5_of cX5_of 3 (some .int) ∈ TW := tw_mem 489 rfl rfl
theorem ml_X5_81 : Cond.methodLink RX5 81 yX2_has ∈ TW := tw_mem 490 (by decide +kernel) (by decide +kernel)
theorem ml_X5_92 : Cond.methodLink RX5 92 yX2_toldOfQuarter ∈ TW := tw_mem 491 (by decide +kernel) (by decide +kernel)
theorem im_X2_toldOfQuarter : Cond.instanceMethod yX2_toldOfQuarter ∈ TW := tw_mem 492 (by decide +kernel) (by decide +kernel)
theorem se_X2_toldOfQuarter : Cond.selects RX2 yX2_toldOfQuarter yX2_toldOfQuarter ∈ TW := tw_mem 493 (by decide +kernel) (by decide +kernel)
set_option maxRecDepth 100000 in
theorem co_X2_toldOfQuarter : Cond.code yX2_toldOfQuarter cX2_toldOfQuarter 3 (some .int) ∈ TW := tw_mem 494 rfl rfl
theorem ml_X2_67 : Cond.methodLink RX2 67 yX2_isFrozen ∈ TW := tw_mem 495 (by decide +kernel) (by decide +kernel)
theorem ml_L_56 : Cond.methodLink RL 56 yX5_year ∈ TW := tw_mem 496 (by decide +kernel) (by decide +kernel)
theorem im_X5_year : Cond.instanceMethod yX5_year ∈ TW := tw_mem 497 (by decide +kernel) (by decide +kernel)
theorem se_X5_year : Cond.selects RX5 yX5_year yX5_year ∈ TW := tw_mem 498 (by decide +kernel) (by decide +kernel)
set_option maxRecDepth 100000 in
theorem co_X5_year : Cond.code yX5_year cX5_year 3 (some .int) ∈ TW := tw_mem 499 rfl rfl
theorem ml_X5_95 : Cond.methodLink RX5 95 yX5_isYear ∈ TW := tw_mem 500 (by decide +kernel) (by decide +kernel)
theorem ml_X5_98 : Cond.methodLink RX5 98 yX2_toldOfYear ∈ TW := tw_mem 501 (by decide +kernel) (by decide +kernel)
theorem im_X2_toldOfYear : Cond.instanceMethod yX2_toldOfYear ∈ TW := tw_mem 502 (by decide +kernel) (by decide +kernel)
theorem se_X2_toldOfYear : Cond.selects RX2 yX2_toldOfYear yX2_toldOfYear ∈ TW := tw_mem 503 (by decide +kernel) (by decide +kernel)
set_option maxRecDepth 100000 in
theorem co_X2_toldOfYear : Cond.code yX2_toldOfYear cX2_toldOfYear 3 (some .int) ∈ TW := tw_mem 504 rfl rfl
theorem ml_X2_73 : Cond.methodLink RX2 73 yX2_gap ∈ TW := tw_mem 505 (by decide +kernel) (by decide +kernel)
theorem ml_L_60 : Cond.methodLink RL 60 yX5_count ∈ TW := tw_mem 506 (by decide +kernel) (by decide +kernel)
theorem im_X5_count : Cond.instanceMethod yX5_count ∈ TW := tw_mem 507 (by decide +kernel) (by decide +kernel)
theorem se_X5_count : Cond.selects RX5 yX5_count yX5_count ∈ TW := tw_mem 508 (by decide +kernel) (by decide +kernel)
set_option maxRecDepth 100000 in
theorem co_X5_count : Cond.code yX5_count cX5_count 2 (some .int) ∈ TW := tw_mem 509 rfl rfl
theorem ml_X5_101 : Cond.methodLink RX5 101 yX2_toldOfAll ∈ TW := tw_mem 510 (by decide +kernel) (by decide +kernel)
theorem im_X2_toldOfAll : Cond.instanceMethod yX2_toldOfAll ∈ TW := tw_mem 511 (by decide +kernel) (by decide +kernel)
theorem se_X2_toldOfAll : Cond.selects RX2 yX2_toldOfAll yX2_toldOfAll ∈ TW := tw_mem 512 (by decide +kernel) (by decide +kernel)
set_option maxRecDepth 100000 in
theorem co_X2_toldOfAll : Cond.code yX2_toldOfAll cX2_toldOfAll 2 (some .int) ∈ TW := tw_mem 513 rfl rfl
theorem ml_X2_76 : Cond.methodLink RX2 76 yX2_yearsTold ∈ TW := tw_mem 514 (by decide +kernel) (by decide +kernel)
theorem im_X2_yearsTold : Cond.instanceMethod yX2_yearsTold ∈ TW := tw_mem 515 (by decide +kernel) (by decide +kernel)
theorem se_X2_yearsTold : Cond.selects RX2 yX2_yearsTold yX2_yearsTold ∈ TW := tw_mem 516 (by decide +kernel) (by decide +kernel)
set_option maxRecDepth 100000 in
theorem co_X2_yearsTold : Cond.code yX2_yearsTold cX2_yearsTold 3 (some .int) ∈ TW := tw_mem 517 rfl rfl
theorem ml_L_64 : Cond.methodLink RL 64 yX5_bent ∈ TW := tw_mem 518 (by decide +kernel) (by decide +kernel)
theorem im_X5_bent : Cond.instanceMethod yX5_bent ∈ TW := tw_mem 519 (by decide +kernel) (by decide +kernel)
theorem se_X5_bent : Cond.selects RX5 yX5_bent yX5_bent ∈ TW := tw_mem 520 (by decide +kernel) (by decide +kernel)
set_option maxRecDepth 100000 in
theorem co_X5_bent : Cond.code yX5_bent cX5_bent 2 (some .int) ∈ TW := tw_mem 521 rfl rfl
theorem ml_L_68 : Cond.methodLink RL 68 yX5_moved ∈ TW := tw_mem 522 (by decide +kernel) (by decide +kernel)
theorem im_X5_moved : Cond.instanceMethod yX5_moved ∈ TW := tw_mem 523 (by decide +kernel) (by decide +kernel)
theorem se_X5_moved : Cond.selects RX5 yX5_moved yX5_moved ∈ TW := tw_mem 524 (by decide +kernel) (by decide +kernel)
set_option maxRecDepth 100000 in
theorem co_X5_moved : Cond.code yX5_moved cX5_moved 2 (some .long) ∈ TW := tw_mem 525 rfl rfl
theorem ml_X5_111 : Cond.methodLink RX5 111 yX5_isForm ∈ TW := tw_mem 526 (by decide +kernel) (by decide +kernel)
theorem ml_X5_114 : Cond.methodLink RX5 114 yX2_movement ∈ TW := tw_mem 527 (by decide +kernel) (by decide +kernel)
theorem im_X2_movement : Cond.instanceMethod yX2_movement ∈ TW := tw_mem 528 (by decide +kernel) (by decide +kernel)
theorem se_X2_movement : Cond.selects RX2 yX2_movement yX2_movement ∈ TW := tw_mem 529 (by decide +kernel) (by decide +kernel)
set_option maxRecDepth 100000 in
theorem co_X2_movement : Cond.code yX2_movement cX2_movement 8 (some .long) ∈ TW := tw_mem 530 rfl rfl
theorem ml_L_73 : Cond.methodLink RL 73 yX5_revised ∈ TW := tw_mem 531 (by decide +kernel) (by decide +kernel)
theorem im_X5_revised : Cond.instanceMethod yX5_revised ∈ TW := tw_mem 532 (by decide +kernel) (by decide +kernel)
theorem se_X5_revised : Cond.selects RX5 yX5_revised yX5_revised ∈ TW := tw_mem 533 (by decide +kernel) (by decide +kernel)
set_option maxRecDepth 100000 in
theorem co_X5_revised : Cond.code yX5_revised cX5_revised 2 (some .int) ∈ TW := tw_mem 534 rfl rfl
theorem ml_X5_118 : Cond.methodLink RX5 118 yX2_isPrinted ∈ TW := tw_mem 535 (by decide +kernel) (by decide +kernel)
theorem ml_X5_121 : Cond.methodLink RX5 121 yX5_revision ∈ TW := tw_mem 536 (by decide +kernel) (by decide +kernel)
theorem im_X5_revision : Cond.instanceMethod yX5_revision ∈ TW := tw_mem 538 (by decide +kernel) (by decide +kernel)
set_option maxRecDepth 100000 in
theorem co_X5_revision : Cond.code yX5_revision cX5_revision 2 (some .int) ∈ TW := tw_mem 539 rfl rfl
theorem ml_X5_214 : Cond.methodLink RX5 214 Lib.Math.abs.name ∈ TW := tw_mem 540 (by decide +kernel) (by decide +kernel)
theorem st_ABS : Cond.static Lib.Math.abs.name ∈ TW := tw_mem 541 (by decide +kernel) (by decide +kernel)
set_option maxRecDepth 100000 in
theorem co_ABS : Cond.code Lib.Math.abs.name Lib.Math.abs.code 1 (some .int) ∈ TW := tw_mem 542 rfl rfl
theorem ml_L_77 : Cond.methodLink RL 77 yX5_farthest ∈ TW := tw_mem 543 (by decide +kernel) (by decide +kernel)
theorem im_X5_farthest : Cond.instanceMethod yX5_farthest ∈ TW := tw_mem 544 (by decide +kernel) (by decide +kernel)
theorem se_X5_farthest : Cond.selects RX5 yX5_farthest yX5_farthest ∈ TW := tw_mem 545 (by decide +kernel) (by decide +kernel)
set_option maxRecDepth 100000 in
theorem co_X5_farthest : Cond.code yX5_farthest cX5_farthest 4 (some .int) ∈ TW := tw_mem 546 rfl rfl
theorem ml_L_81 : Cond.methodLink RL 81 yX5_least ∈ TW := tw_mem 547 (by decide +kernel) (by decide +kernel)
theorem im_X5_least : Cond.instanceMethod yX5_least ∈ TW := tw_mem 548 (by decide +kernel) (by decide +kernel)
theorem se_X5_least : Cond.selects RX5 yX5_least yX5_least ∈ TW := tw_mem 549 (by decide +kernel) (by decide +kernel)
set_option maxRecDepth 100000 in
theorem co_X5_least : Cond.code yX5_least cX5_least 2 (some .int) ∈ TW := tw_mem 550 rfl rfl
theorem ml_X5_128 : Cond.methodLink RX5 128 yX0_meetsWithin ∈ TW := tw_mem 551 (by decide +kernel) (by decide +kernel)
theorem im_X0_meetsWithin : Cond.instanceMethod yX0_meetsWithin ∈ TW := tw_mem 552 (by decide +kernel) (by decide +kernel)
theorem se_X0_meetsWithin : Cond.selects RX0 yX0_meetsWithin yX0_meetsWithin ∈ TW := tw_mem 553 (by decide +kernel) (by decide +kernel)
set_option maxRecDepth 100000 in
theorem co_X0_meetsWithin : Cond.code yX0_meetsWithin cX0_meetsWithin 3 (some .boolean) ∈ TW := tw_mem 554 rfl rfl
theorem ml_L_85 : Cond.methodLink RL 85 yX5_price ∈ TW := tw_mem 555 (by decide +kernel) (by decide +kernel)
theorem im_X5_price : Cond.instanceMethod yX5_price ∈ TW := tw_mem 556 (by decide +kernel) (by decide +kernel)
theorem se_X5_price : Cond.selects RX5 yX5_price yX5_price ∈ TW := tw_mem 557 (by decide +kernel) (by decide +kernel)
set_option maxRecDepth 100000 in
theorem co_X5_price : Cond.code yX5_price cX5_price 2 (some .long) ∈ TW := tw_mem 558 rfl rfl
theorem ml_X5_138 : Cond.methodLink RX5 138 yX0_leastWithout ∈ TW := tw_mem 559 (by decide +kernel) (by decide +kernel)
theorem im_X0_leastWithout : Cond.instanceMethod yX0_leastWithout ∈ TW := tw_mem 560 (by decide +kernel) (by decide +kernel)
theorem se_X0_leastWithout : Cond.selects RX0 yX0_leastWithout yX0_leastWithout ∈ TW := tw_mem 561 (by decide +kernel) (by decide +kernel)
set_option maxRecDepth 100000 in
theorem co_X0_leastWithout : Cond.code yX0_leastWithout cX0_leastWithout 3 (some .long) ∈ TW := tw_mem 562 rfl rfl
theorem ml_L_89 : Cond.methodLink RL 89 yX5_others ∈ TW := tw_mem 563 (by decide +kernel) (by decide +kernel)
theorem im_X5_others : Cond.instanceMethod yX5_others ∈ TW := tw_mem 564 (by decide +kernel) (by decide +kernel)
theorem se_X5_others : Cond.selects RX5 yX5_others yX5_others ∈ TW := tw_mem 565 (by decide +kernel) (by decide +kernel)
set_option maxRecDepth 100000 in
theorem co_X5_others : Cond.code yX5_others cX5_others 1 (some .int) ∈ TW := tw_mem 566 rfl rfl
theorem ml_L_93 : Cond.methodLink RL 93 yX5_shared ∈ TW := tw_mem 567 (by decide +kernel) (by decide +kernel)
theorem im_X5_shared : Cond.instanceMethod yX5_shared ∈ TW := tw_mem 568 (by decide +kernel) (by decide +kernel)
theorem se_X5_shared : Cond.selects RX5 yX5_shared yX5_shared ∈ TW := tw_mem 569 (by decide +kernel) (by decide +kernel)
set_option maxRecDepth 100000 in
theorem co_X5_shared : Cond.code yX5_shared cX5_shared 2 (some .int) ∈ TW := tw_mem 570 rfl rfl
theorem ml_X5_145 : Cond.methodLink RX5 145 yX2_share ∈ TW := tw_mem 571 (by decide +kernel) (by decide +kernel)
theorem im_X2_share : Cond.instanceMethod yX2_share ∈ TW := tw_mem 572 (by decide +kernel) (by decide +kernel)
theorem se_X2_share : Cond.selects RX2 yX2_share yX2_share ∈ TW := tw_mem 573 (by decide +kernel) (by decide +kernel)
set_option maxRecDepth 100000 in
theorem co_X2_share : Cond.code yX2_share cX2_share 9 (some .int) ∈ TW := tw_mem 574 rfl rfl
theorem ml_L_97 : Cond.methodLink RL 97 yX5_stepped ∈ TW := tw_mem 575 (by decide +kernel) (by decide +kernel)
theorem im_X5_stepped : Cond.instanceMethod yX5_stepped ∈ TW := tw_mem 576 (by decide +kernel) (by decide +kernel)
theorem se_X5_stepped : Cond.selects RX5 yX5_stepped yX5_stepped ∈ TW := tw_mem 577 (by decide +kernel) (by decide +kernel)
set_option maxRecDepth 100000 in
theorem co_X5_stepped : Cond.code yX5_stepped cX5_stepped 2 (some .long) ∈ TW := tw_mem 578 rfl rfl
theorem ml_X5_148 : Cond.methodLink RX5 148 yX5_shareMovement ∈ TW := tw_mem 579 (by decide +kernel) (by decide +kernel)
theorem im_X5_shareMovement : Cond.instanceMethod yX5_shareMovement ∈ TW := tw_mem 581 (by decide +kernel) (by decide +kernel)
set_option maxRecDepth 100000 in
theorem co_X5_shareMovement : Cond.code yX5_shareMovement cX5_shareMovement 3 (some .long) ∈ TW := tw_mem 582 rfl rfl
theorem ml_L_101 : Cond.methodLink RL 101 yX5_type ∈ TW := tw_mem 583 (by decide +kernel) (by decide +kernel)
theorem im_X5_type : Cond.instanceMethod yX5_type ∈ TW := tw_mem 584 (by decide +kernel) (by decide +kernel)
theorem se_X5_type : Cond.selects RX5 yX5_type yX5_type ∈ TW := tw_mem 585 (by decide +kernel) (by decide +kernel)
set_option maxRecDepth 100000 in
theorem co_X5_type : Cond.code yX5_type cX5_type 2 (some .int) ∈ TW := tw_mem 586 rfl rfl
theorem ml_X5_155 : Cond.methodLink RX5 155 yX4_takes ∈ TW := tw_mem 587 (by decide +kernel) (by decide +kernel)
theorem im_X4_takes : Cond.instanceMethod yX4_takes ∈ TW := tw_mem 588 (by decide +kernel) (by decide +kernel)
theorem se_X4_takes : Cond.selects RX4 yX4_takes yX4_takes ∈ TW := tw_mem 589 (by decide +kernel) (by decide +kernel)
set_option maxRecDepth 100000 in
theorem co_X4_takes : Cond.code yX4_takes cX4_takes 2 (some .int) ∈ TW := tw_mem 590 rfl rfl
theorem ml_L_105 : Cond.methodLink RL 105 yX5_clear ∈ TW := tw_mem 591 (by decide +kernel) (by decide +kernel)
theorem im_X5_clear : Cond.instanceMethod yX5_clear ∈ TW := tw_mem 592 (by decide +kernel) (by decide +kernel)
theorem se_X5_clear : Cond.selects RX5 yX5_clear yX5_clear ∈ TW := tw_mem 593 (by decide +kernel) (by decide +kernel)
set_option maxRecDepth 100000 in
theorem co_X5_clear : Cond.code yX5_clear cX5_clear 2 (some .int) ∈ TW := tw_mem 594 rfl rfl
theorem ml_L_109 : Cond.methodLink RL 109 yX5_does ∈ TW := tw_mem 595 (by decide +kernel) (by decide +kernel)
theorem im_X5_does : Cond.instanceMethod yX5_does ∈ TW := tw_mem 596 (by decide +kernel) (by decide +kernel)
theorem se_X5_does : Cond.selects RX5 yX5_does yX5_does ∈ TW := tw_mem 597 (by decide +kernel) (by decide +kernel)
set_option maxRecDepth 100000 in
theorem co_X5_does : Cond.code yX5_does cX5_does 4 (some .int) ∈ TW := tw_mem 598 rfl rfl
theorem ml_X5_158 : Cond.methodLink RX5 158 yX4_reads ∈ TW := tw_mem 599 (by decide +kernel) (by decide +kernel)
theorem im_X4_reads : Cond.instanceMethod yX4_reads ∈ TW := tw_mem 600 (by decide +kernel) (by decide +kernel)
theorem se_X4_reads : Cond.selects RX4 yX4_reads yX4_reads ∈ TW := tw_mem 601 (by decide +kernel) (by decide +kernel)
set_option maxRecDepth 100000 in
theorem co_X4_reads : Cond.code yX4_reads cX4_reads 2 (some .int) ∈ TW := tw_mem 602 rfl rfl
theorem ml_X4_41 : Cond.methodLink RX4 41 yX4_readsByte ∈ TW := tw_mem 603 (by decide +kernel) (by decide +kernel)
theorem im_X4_readsByte : Cond.instanceMethod yX4_readsByte ∈ TW := tw_mem 605 (by decide +kernel) (by decide +kernel)
set_option maxRecDepth 100000 in
theorem co_X4_readsByte : Cond.code yX4_readsByte cX4_readsByte 2 (some .boolean) ∈ TW := tw_mem 606 rfl rfl
theorem ml_X4_45 : Cond.methodLink RX4 45 yX4_opens ∈ TW := tw_mem 607 (by decide +kernel) (by decide +kernel)
theorem im_X4_opens : Cond.instanceMethod yX4_opens ∈ TW := tw_mem 609 (by decide +kernel) (by decide +kernel)
set_option maxRecDepth 100000 in
theorem co_X4_opens : Cond.code yX4_opens cX4_opens 2 (some .boolean) ∈ TW := tw_mem 610 rfl rfl
theorem ml_X4_59 : Cond.methodLink RX4 59 yX4_numbersOf ∈ TW := tw_mem 611 (by decide +kernel) (by decide +kernel)
theorem st_X4_numbersOf : Cond.static yX4_numbersOf ∈ TW := tw_mem 612 (by decide +kernel) (by decide +kernel)
set_option maxRecDepth 100000 in
theorem co_X4_numbersOf : Cond.code yX4_numbersOf cX4_numbersOf 1 (some .int) ∈ TW := tw_mem 613 rfl rfl
theorem ml_X4_48 : Cond.methodLink RX4 48 yX4_closes ∈ TW := tw_mem 614 (by decide +kernel) (by decide +kernel)
theorem im_X4_closes : Cond.instanceMethod yX4_closes ∈ TW := tw_mem 616 (by decide +kernel) (by decide +kernel)
set_option maxRecDepth 100000 in
theorem co_X4_closes : Cond.code yX4_closes cX4_closes 1 (some .boolean) ∈ TW := tw_mem 617 rfl rfl
theorem mn_X4_52 : Cond.methodLinkNest RX4 52 yX5_within RX5 ∈ lw_tbl := lw_mem 618 (by decide +kernel)
theorem ml_X4_56 : Cond.methodLink RX4 56 yX4_readsFigure ∈ TW := tw_mem 619 (by decide +kernel) (by decide +kernel)
theorem im_X4_readsFigure : Cond.instanceMethod yX4_readsFigure ∈ TW := tw_mem 621 (by decide +kernel) (by decide +kernel)
set_option maxRecDepth 100000 in
theorem co_X4_readsFigure : Cond.code yX4_readsFigure cX4_readsFigure 3 (some .boolean) ∈ TW := tw_mem 622 rfl rfl
theorem ml_X5_173 : Cond.methodLink RX5 173 yX5_obeys ∈ TW := tw_mem 623 (by decide +kernel) (by decide +kernel)
theorem im_X5_obeys : Cond.instanceMethod yX5_obeys ∈ TW := tw_mem 625 (by decide +kernel) (by decide +kernel)
set_option maxRecDepth 100000 in
theorem co_X5_obeys : Cond.code yX5_obeys cX5_obeys 4 (some .int) ∈ TW := tw_mem 626 rfl rfl
theorem ml_X5_183 : Cond.methodLink RX5 183 yX3_restores ∈ TW := tw_mem 627 (by decide +kernel) (by decide +kernel)
theorem im_X3_restores : Cond.instanceMethod yX3_restores ∈ TW := tw_mem 628 (by decide +kernel) (by decide +kernel)
theorem se_X3_restores : Cond.selects RX3 yX3_restores yX3_restores ∈ TW := tw_mem 629 (by decide +kernel) (by decide +kernel)
set_option maxRecDepth 100000 in
theorem co_X3_restores : Cond.code yX3_restores cX3_restores 2 none ∈ TW := tw_mem 630 rfl rfl
theorem ml_L_113 : Cond.methodLink RL 113 yX5_back ∈ TW := tw_mem 631 (by decide +kernel) (by decide +kernel)
theorem im_X5_back : Cond.instanceMethod yX5_back ∈ TW := tw_mem 632 (by decide +kernel) (by decide +kernel)
theorem se_X5_back : Cond.selects RX5 yX5_back yX5_back ∈ TW := tw_mem 633 (by decide +kernel) (by decide +kernel)
set_option maxRecDepth 100000 in
theorem co_X5_back : Cond.code yX5_back cX5_back 1 (some .int) ∈ TW := tw_mem 634 rfl rfl
theorem ml_X5_192 : Cond.methodLink RX5 192 yX3_returns ∈ TW := tw_mem 635 (by decide +kernel) (by decide +kernel)
theorem im_X3_returns : Cond.instanceMethod yX3_returns ∈ TW := tw_mem 636 (by decide +kernel) (by decide +kernel)
theorem se_X3_returns : Cond.selects RX3 yX3_returns yX3_returns ∈ TW := tw_mem 637 (by decide +kernel) (by decide +kernel)
set_option maxRecDepth 100000 in
theorem co_X3_returns : Cond.code yX3_returns cX3_returns 2 none ∈ TW := tw_mem 638 rfl rfl
theorem ml_L_117 : Cond.methodLink RL 117 yX5_told ∈ TW := tw_mem 639 (by decide +kernel) (by decide +kernel)
theorem im_X5_told : Cond.instanceMethod yX5_told ∈ TW := tw_mem 640 (by decide +kernel) (by decide +kernel)
theorem se_X5_told : Cond.selects RX5 yX5_told yX5_told ∈ TW := tw_mem 641 (by decide +kernel) (by decide +kernel)
set_option maxRecDepth 100000 in
theorem co_X5_told : Cond.code yX5_told cX5_told 2 (some .int) ∈ TW := tw_mem 642 rfl rfl
theorem ml_L_121 : Cond.methodLink RL 121 yX5_digest ∈ TW := tw_mem 643 (by decide +kernel) (by decide +kernel)
theorem im_X5_digest : Cond.instanceMethod yX5_digest ∈ TW := tw_mem 644 (by decide +kernel) (by decide +kernel)
theorem se_X5_digest : Cond.selects RX5 yX5_digest yX5_digest ∈ TW := tw_mem 645 (by decide +kernel) (by decide +kernel)
set_option maxRecDepth 100000 in
theorem co_X5_digest : Cond.code yX5_digest cX5_digest 4 (some .long) ∈ TW := tw_mem 646 rfl rfl
theorem kl_X5_195 : Cond.constantLong RX5 195 (1980) ∈ TW := tw_mem 647 (by decide +kernel) (by decide +kernel)
theorem kl_X5_197 : Cond.constantLong RX5 197 (31) ∈ TW := tw_mem 648 (by decide +kernel) (by decide +kernel)
theorem ml_X5_199 : Cond.methodLink RX5 199 yX5_told ∈ TW := tw_mem 649 (by decide +kernel) (by decide +kernel)
theorem ml_X5_202 : Cond.methodLink RX5 202 yX5_digestsFigures ∈ TW := tw_mem 650 (by decide +kernel) (by decide +kernel)
theorem im_X5_digestsFigures : Cond.instanceMethod yX5_digestsFigures ∈ TW := tw_mem 652 (by decide +kernel) (by decide +kernel)
set_option maxRecDepth 100000 in
theorem co_X5_digestsFigures : Cond.code yX5_digestsFigures cX5_digestsFigures 7 (some .long) ∈ TW := tw_mem 653 rfl rfl
theorem ml_X5_206 : Cond.methodLink RX5 206 yX5_digestsBent ∈ TW := tw_mem 654 (by decide +kernel) (by decide +kernel)
theorem im_X5_digestsBent : Cond.instanceMethod yX5_digestsBent ∈ TW := tw_mem 656 (by decide +kernel) (by decide +kernel)
set_option maxRecDepth 100000 in
theorem co_X5_digestsBent : Cond.code yX5_digestsBent cX5_digestsBent 6 (some .long) ∈ TW := tw_mem 657 rfl rfl
theorem kl_X5_209 : Cond.constantLong RX5 209 (8) ∈ TW := tw_mem 658 (by decide +kernel) (by decide +kernel)
theorem cl_L_10 : Cond.classLink RL 10 RX6 ∈ TW := tw_mem 659 (by decide +kernel) (by decide +kernel)
theorem it_X6 : Cond.instantiable RX6 23 ∈ TW := tw_mem 660 (by decide +kernel) (by decide +kernel)
theorem ml_L_12 : Cond.methodLink RL 12 yX6_init ∈ TW := tw_mem 661 (by decide +kernel) (by decide +kernel)
theorem im_X6_init : Cond.instanceMethod yX6_init ∈ TW := tw_mem 662 (by decide +kernel) (by decide +kernel)
set_option maxRecDepth 100000 in
theorem co_X6_init : Cond.code yX6_init cX6_init 2 none ∈ TW := tw_mem 663 rfl rfl
theorem ml_X6_1 : Cond.methodLink RX6 1 objectInit ∈ TW := tw_mem 664 (by decide +kernel) (by decide +kernel)
theorem fl_X6_7 : Cond.fieldLink RX6 7 "BentQuartersModel" "now" "[I" ∈ TW := tw_mem 665 (by decide +kernel) (by decide +kernel)
theorem fl_X6_13 : Cond.fieldLink RX6 13 "BentQuartersModel" "aside" "[I" ∈ TW := tw_mem 666 (by decide +kernel) (by decide +kernel)
theorem fl_X6_16 : Cond.fieldLink RX6 16 "BentQuartersModel" "past" "[I" ∈ TW := tw_mem 667 (by decide +kernel) (by decide +kernel)
theorem fl_X6_58 : Cond.fieldLink RX6 58 "BentQuartersModel" "states" "I" ∈ TW := tw_mem 668 (by decide +kernel) (by decide +kernel)
theorem fl_X6_19 : Cond.fieldLink RX6 19 "BentQuartersModel" "refused" "[I" ∈ TW := tw_mem 669 (by decide +kernel) (by decide +kernel)
theorem fl_X6_22 : Cond.fieldLink RX6 22 "BentQuartersModel" "text" "[I" ∈ TW := tw_mem 670 (by decide +kernel) (by decide +kernel)
theorem fl_X6_209 : Cond.fieldLink RX6 209 "BentQuartersModel" "bytes" "I" ∈ TW := tw_mem 671 (by decide +kernel) (by decide +kernel)
theorem fl_X6_25 : Cond.fieldLink RX6 25 "BentQuartersModel" "orderLetter" "[I" ∈ TW := tw_mem 672 (by decide +kernel) (by decide +kernel)
theorem fl_X6_28 : Cond.fieldLink RX6 28 "BentQuartersModel" "orderFrom" "[I" ∈ TW := tw_mem 673 (by decide +kernel) (by decide +kernel)
theorem fl_X6_31 : Cond.fieldLink RX6 31 "BentQuartersModel" "numbers" "[I" ∈ TW := tw_mem 674 (by decide +kernel) (by decide +kernel)
theorem fl_X6_221 : Cond.fieldLink RX6 221 "BentQuartersModel" "orders" "I" ∈ TW := tw_mem 675 (by decide +kernel) (by decide +kernel)
theorem fl_X6_34 : Cond.fieldLink RX6 34 "BentQuartersModel" "best" "[J" ∈ TW := tw_mem 676 (by decide +kernel) (by decide +kernel)
theorem fl_X6_38 : Cond.fieldLink RX6 38 "BentQuartersModel" "ways" "[I" ∈ TW := tw_mem 677 (by decide +kernel) (by decide +kernel)
theorem fl_X6_41 : Cond.fieldLink RX6 41 "BentQuartersModel" "rowX" "[I" ∈ TW := tw_mem 678 (by decide +kernel) (by decide +kernel)
theorem fl_X6_185 : Cond.fieldLink RX6 185 "BentQuartersModel" "allWays" "I" ∈ TW := tw_mem 679 (by decide +kernel) (by decide +kernel)
theorem fl_X6_181 : Cond.fieldLink RX6 181 "BentQuartersModel" "bestCost" "J" ∈ TW := tw_mem 680 (by decide +kernel) (by decide +kernel)
theorem fl_X6_144 : Cond.fieldLink RX6 144 "BentQuartersModel" "askedLimit" "I" ∈ TW := tw_mem 681 (by decide +kernel) (by decide +kernel)
theorem fl_X6_141 : Cond.fieldLink RX6 141 "BentQuartersModel" "askedBut" "I" ∈ TW := tw_mem 682 (by decide +kernel) (by decide +kernel)
theorem fl_X6_44 : Cond.fieldLink RX6 44 "BentQuartersModel" "sharedX" "[I" ∈ TW := tw_mem 683 (by decide +kernel) (by decide +kernel)
theorem fl_X6_212 : Cond.fieldLink RX6 212 "BentQuartersModel" "letter" "I" ∈ TW := tw_mem 684 (by decide +kernel) (by decide +kernel)
theorem fl_X6_215 : Cond.fieldLink RX6 215 "BentQuartersModel" "begun" "I" ∈ TW := tw_mem 685 (by decide +kernel) (by decide +kernel)
theorem fl_X6_218 : Cond.fieldLink RX6 218 "BentQuartersModel" "figures" "I" ∈ TW := tw_mem 686 (by decide +kernel) (by decide +kernel)
theorem fl_X6_47 : Cond.fieldLink RX6 47 "BentQuartersModel" "before" "[I" ∈ TW := tw_mem 687 (by decide +kernel) (by decide +kernel)
theorem ml_L_17 : Cond.methodLink RL 17 yX6_quarter ∈ TW := tw_mem 735 (by decide +kernel) (by decide +kernel)
theorem im_X6_quarter : Cond.instanceMethod yX6_quarter ∈ TW := tw_mem 736 (by decide +kernel) (by decide +kernel)
theorem se_X6_quarter : Cond.selects RX6 yX6_quarter yX6_quarter ∈ TW := tw_mem 737 (by decide +kernel) (by decide +kernel)
set_option maxRecDepth 100000 in
theorem co_X6_quarter : Cond.code yX6_quarter cX6_quarter 2 (some .int) ∈ TW := tw_mem 738 rfl rfl
theorem ml_X6_90 : Cond.methodLink RX6 90 yX6_save ∈ TW := tw_mem 739 (by decide +kernel) (by decide +kernel)
theorem im_X6_save : Cond.instanceMethod yX6_save ∈ TW := tw_mem 741 (by decide +kernel) (by decide +kernel)
set_option maxRecDepth 100000 in
theorem co_X6_save : Cond.code yX6_save cX6_save 1 none ∈ TW := tw_mem 742 rfl rfl
theorem ml_X6_50 : Cond.methodLink RX6 50 yX6_bring ∈ TW := tw_mem 743 (by decide +kernel) (by decide +kernel)
theorem st_X6_bring : Cond.static yX6_bring ∈ TW := tw_mem 744 (by decide +kernel) (by decide +kernel)
set_option maxRecDepth 100000 in
theorem co_X6_bring : Cond.code yX6_bring cX6_bring 5 none ∈ TW := tw_mem 745 rfl rfl
theorem ml_X6_93 : Cond.methodLink RX6 93 yX6_putQuarter ∈ TW := tw_mem 746 (by decide +kernel) (by decide +kernel)
theorem im_X6_putQuarter : Cond.instanceMethod yX6_putQuarter ∈ TW := tw_mem 748 (by decide +kernel) (by decide +kernel)
set_option maxRecDepth 100000 in
theorem co_X6_putQuarter : Cond.code yX6_putQuarter cX6_putQuarter 3 (some .int) ∈ TW := tw_mem 749 rfl rfl
theorem kl_X6_68 : Cond.constantLong RX6 68 (99) ∈ TW := tw_mem 750 (by decide +kernel) (by decide +kernel)
theorem ml_X6_62 : Cond.methodLink RX6 62 yX6_in ∈ TW := tw_mem 751 (by decide +kernel) (by decide +kernel)
theorem st_X6_in : Cond.static yX6_in ∈ TW := tw_mem 752 (by decide +kernel) (by decide +kernel)
set_option maxRecDepth 100000 in
theorem co_X6_in : Cond.code yX6_in cX6_in 6 (some .boolean) ∈ TW := tw_mem 753 rfl rfl
theorem ml_X6_96 : Cond.methodLink RX6 96 yX6_finish ∈ TW := tw_mem 754 (by decide +kernel) (by decide +kernel)
theorem im_X6_finish : Cond.instanceMethod yX6_finish ∈ TW := tw_mem 756 (by decide +kernel) (by decide +kernel)
set_option maxRecDepth 100000 in
theorem co_X6_finish : Cond.code yX6_finish cX6_finish 3 (some .int) ∈ TW := tw_mem 757 rfl rfl
theorem ml_X6_54 : Cond.methodLink RX6 54 yX6_refuse ∈ TW := tw_mem 758 (by decide +kernel) (by decide +kernel)
theorem im_X6_refuse : Cond.instanceMethod yX6_refuse ∈ TW := tw_mem 760 (by decide +kernel) (by decide +kernel)
set_option maxRecDepth 100000 in
theorem co_X6_refuse : Cond.code yX6_refuse cX6_refuse 2 (some .int) ∈ TW := tw_mem 761 rfl rfl
theorem ml_L_22 : Cond.methodLink RL 22 yX6_indicates ∈ TW := tw_mem 762 (by decide +kernel) (by decide +kernel)
theorem im_X6_indicates : Cond.instanceMethod yX6_indicates ∈ TW := tw_mem 763 (by decide +kernel) (by decide +kernel)
theorem se_X6_indicates : Cond.selects RX6 yX6_indicates yX6_indicates ∈ TW := tw_mem 764 (by decide +kernel) (by decide +kernel)
set_option maxRecDepth 100000 in
theorem co_X6_indicates : Cond.code yX6_indicates cX6_indicates 3 (some .int) ∈ TW := tw_mem 765 rfl rfl
theorem ml_X6_99 : Cond.methodLink RX6 99 yX6_putIndicator ∈ TW := tw_mem 766 (by decide +kernel) (by decide +kernel)
theorem im_X6_putIndicator : Cond.instanceMethod yX6_putIndicator ∈ TW := tw_mem 768 (by decide +kernel) (by decide +kernel)
set_option maxRecDepth 100000 in
theorem co_X6_putIndicator : Cond.code yX6_putIndicator cX6_putIndicator 4 (some .int) ∈ TW := tw_mem 769 rfl rfl
theorem ml_X6_70 : Cond.methodLink RX6 70 yX6_isQuarter ∈ TW := tw_mem 770 (by decide +kernel) (by decide +kernel)
theorem im_X6_isQuarter : Cond.instanceMethod yX6_isQuarter ∈ TW := tw_mem 772 (by decide +kernel) (by decide +kernel)
set_option maxRecDepth 100000 in
theorem co_X6_isQuarter : Cond.code yX6_isQuarter cX6_isQuarter 2 (some .boolean) ∈ TW := tw_mem 773 rfl rfl
theorem ml_L_26 : Cond.methodLink RL 26 yX6_total ∈ TW := tw_mem 774 (by decide +kernel) (by decide +kernel)
theorem im_X6_total : Cond.instanceMethod yX6_total ∈ TW := tw_mem 775 (by decide +kernel) (by decide +kernel)
theorem se_X6_total : Cond.selects RX6 yX6_total yX6_total ∈ TW := tw_mem 776 (by decide +kernel) (by decide +kernel)
set_option maxRecDepth 100000 in
theorem co_X6_total : Cond.code yX6_total cX6_total 3 (some .int) ∈ TW := tw_mem 777 rfl rfl
theorem ml_X6_103 : Cond.methodLink RX6 103 yX6_putTotal ∈ TW := tw_mem 778 (by decide +kernel) (by decide +kernel)
theorem im_X6_putTotal : Cond.instanceMethod yX6_putTotal ∈ TW := tw_mem 780 (by decide +kernel) (by decide +kernel)
set_option maxRecDepth 100000 in
theorem co_X6_putTotal : Cond.code yX6_putTotal cX6_putTotal 4 (some .int) ∈ TW := tw_mem 781 rfl rfl
theorem ml_X6_74 : Cond.methodLink RX6 74 yX6_isYear ∈ TW := tw_mem 782 (by decide +kernel) (by decide +kernel)
theorem st_X6_isYear : Cond.static yX6_isYear ∈ TW := tw_mem 783 (by decide +kernel) (by decide +kernel)
set_option maxRecDepth 100000 in
theorem co_X6_isYear : Cond.code yX6_isYear cX6_isYear 1 (some .boolean) ∈ TW := tw_mem 784 rfl rfl
theorem kl_X6_66 : Cond.constantLong RX6 66 (2) ∈ TW := tw_mem 785 (by decide +kernel) (by decide +kernel)
theorem kl_X6_77 : Cond.constantLong RX6 77 (999) ∈ TW := tw_mem 786 (by decide +kernel) (by decide +kernel)
theorem ml_L_30 : Cond.methodLink RL 30 yX6_untold ∈ TW := tw_mem 787 (by decide +kernel) (by decide +kernel)
theorem im_X6_untold : Cond.instanceMethod yX6_untold ∈ TW := tw_mem 788 (by decide +kernel) (by decide +kernel)
theorem se_X6_untold : Cond.selects RX6 yX6_untold yX6_untold ∈ TW := tw_mem 789 (by decide +kernel) (by decide +kernel)
set_option maxRecDepth 100000 in
theorem co_X6_untold : Cond.code yX6_untold cX6_untold 2 (some .int) ∈ TW := tw_mem 790 rfl rfl
theorem ml_X6_106 : Cond.methodLink RX6 106 yX6_dropTotal ∈ TW := tw_mem 791 (by decide +kernel) (by decide +kernel)
theorem im_X6_dropTotal : Cond.instanceMethod yX6_dropTotal ∈ TW := tw_mem 793 (by decide +kernel) (by decide +kernel)
set_option maxRecDepth 100000 in
theorem co_X6_dropTotal : Cond.code yX6_dropTotal cX6_dropTotal 3 (some .int) ∈ TW := tw_mem 794 rfl rfl
theorem ml_L_34 : Cond.methodLink RL 34 yX6_freezes ∈ TW := tw_mem 795 (by decide +kernel) (by decide +kernel)
theorem im_X6_freezes : Cond.instanceMethod yX6_freezes ∈ TW := tw_mem 796 (by decide +kernel) (by decide +kernel)
theorem se_X6_freezes : Cond.selects RX6 yX6_freezes yX6_freezes ∈ TW := tw_mem 797 (by decide +kernel) (by decide +kernel)
set_option maxRecDepth 100000 in
theorem co_X6_freezes : Cond.code yX6_freezes cX6_freezes 3 (some .int) ∈ TW := tw_mem 798 rfl rfl
theorem ml_X6_109 : Cond.methodLink RX6 109 yX6_putFrozen ∈ TW := tw_mem 799 (by decide +kernel) (by decide +kernel)
theorem im_X6_putFrozen : Cond.instanceMethod yX6_putFrozen ∈ TW := tw_mem 801 (by decide +kernel) (by decide +kernel)
set_option maxRecDepth 100000 in
theorem co_X6_putFrozen : Cond.code yX6_putFrozen cX6_putFrozen 3 (some .int) ∈ TW := tw_mem 802 rfl rfl
theorem ml_X6_79 : Cond.methodLink RX6 79 yX6_ones ∈ TW := tw_mem 803 (by decide +kernel) (by decide +kernel)
theorem st_X6_ones : Cond.static yX6_ones ∈ TW := tw_mem 804 (by decide +kernel) (by decide +kernel)
set_option maxRecDepth 100000 in
theorem co_X6_ones : Cond.code yX6_ones cX6_ones 3 (some .int) ∈ TW := tw_mem 805 rfl rfl
theorem ml_L_38 : Cond.methodLink RL 38 yX6_limits ∈ TW := tw_mem 806 (by decide +kernel) (by decide +kernel)
theorem im_X6_limits : Cond.instanceMethod yX6_limits ∈ TW := tw_mem 807 (by decide +kernel) (by decide +kernel)
theorem se_X6_limits : Cond.selects RX6 yX6_limits yX6_limits ∈ TW := tw_mem 808 (by decide +kernel) (by decide +kernel)
set_option maxRecDepth 100000 in
theorem co_X6_limits : Cond.code yX6_limits cX6_limits 2 (some .int) ∈ TW := tw_mem 809 rfl rfl
theorem ml_X6_112 : Cond.methodLink RX6 112 yX6_putLimit ∈ TW := tw_mem 810 (by decide +kernel) (by decide +kernel)
theorem im_X6_putLimit : Cond.instanceMethod yX6_putLimit ∈ TW := tw_mem 812 (by decide +kernel) (by decide +kernel)
set_option maxRecDepth 100000 in
theorem co_X6_putLimit : Cond.code yX6_putLimit cX6_putLimit 3 (some .int) ∈ TW := tw_mem 813 rfl rfl
theorem kl_X6_82 : Cond.constantLong RX6 82 (-1) ∈ TW := tw_mem 814 (by decide +kernel) (by decide +kernel)
theorem kl_X6_84 : Cond.constantLong RX6 84 (24) ∈ TW := tw_mem 815 (by decide +kernel) (by decide +kernel)
theorem ml_L_42 : Cond.methodLink RL 42 yX6_form ∈ TW := tw_mem 816 (by decide +kernel) (by decide +kernel)
theorem im_X6_form : Cond.instanceMethod yX6_form ∈ TW := tw_mem 817 (by decide +kernel) (by decide +kernel)
theorem se_X6_form : Cond.selects RX6 yX6_form yX6_form ∈ TW := tw_mem 818 (by decide +kernel) (by decide +kernel)
set_option maxRecDepth 100000 in
theorem co_X6_form : Cond.code yX6_form cX6_form 2 (some .int) ∈ TW := tw_mem 819 rfl rfl
theorem ml_X6_115 : Cond.methodLink RX6 115 yX6_putForm ∈ TW := tw_mem 820 (by decide +kernel) (by decide +kernel)
theorem im_X6_putForm : Cond.instanceMethod yX6_putForm ∈ TW := tw_mem 822 (by decide +kernel) (by decide +kernel)
set_option maxRecDepth 100000 in
theorem co_X6_putForm : Cond.code yX6_putForm cX6_putForm 3 (some .int) ∈ TW := tw_mem 823 rfl rfl
theorem ml_L_47 : Cond.methodLink RL 47 yX6_publishes ∈ TW := tw_mem 824 (by decide +kernel) (by decide +kernel)
theorem im_X6_publishes : Cond.instanceMethod yX6_publishes ∈ TW := tw_mem 825 (by decide +kernel) (by decide +kernel)
theorem se_X6_publishes : Cond.selects RX6 yX6_publishes yX6_publishes ∈ TW := tw_mem 826 (by decide +kernel) (by decide +kernel)
set_option maxRecDepth 100000 in
theorem co_X6_publishes : Cond.code yX6_publishes cX6_publishes 1 (some .int) ∈ TW := tw_mem 827 rfl rfl
theorem ml_X6_118 : Cond.methodLink RX6 118 yX6_publishAll ∈ TW := tw_mem 828 (by decide +kernel) (by decide +kernel)
theorem im_X6_publishAll : Cond.instanceMethod yX6_publishAll ∈ TW := tw_mem 830 (by decide +kernel) (by decide +kernel)
set_option maxRecDepth 100000 in
theorem co_X6_publishAll : Cond.code yX6_publishAll cX6_publishAll 2 (some .int) ∈ TW := tw_mem 831 rfl rfl
theorem ml_X6_86 : Cond.methodLink RX6 86 yX6_bend ∈ TW := tw_mem 832 (by decide +kernel) (by decide +kernel)
theorem im_X6_bend : Cond.instanceMethod yX6_bend ∈ TW := tw_mem 834 (by decide +kernel) (by decide +kernel)
set_option maxRecDepth 100000 in
theorem co_X6_bend : Cond.code yX6_bend cX6_bend 1 (some .boolean) ∈ TW := tw_mem 835 rfl rfl
theorem ml_X6_191 : Cond.methodLink RX6 191 yX6_find ∈ TW := tw_mem 836 (by decide +kernel) (by decide +kernel)
theorem im_X6_find : Cond.instanceMethod yX6_find ∈ TW := tw_mem 838 (by decide +kernel) (by decide +kernel)
set_option maxRecDepth 100000 in
theorem co_X6_find : Cond.code yX6_find cX6_find 9 (some .boolean) ∈ TW := tw_mem 839 rfl rfl
theorem ml_X6_151 : Cond.methodLink RX6 151 yX6_isBound ∈ TW := tw_mem 840 (by decide +kernel) (by decide +kernel)
theorem im_X6_isBound : Cond.instanceMethod yX6_isBound ∈ TW := tw_mem 842 (by decide +kernel) (by decide +kernel)
set_option maxRecDepth 100000 in
theorem co_X6_isBound : Cond.code yX6_isBound cX6_isBound 3 (some .boolean) ∈ TW := tw_mem 843 rfl rfl
theorem ml_X6_177 : Cond.methodLink RX6 177 yX6_lay ∈ TW := tw_mem 844 (by decide +kernel) (by decide +kernel)
theorem im_X6_lay : Cond.instanceMethod yX6_lay ∈ TW := tw_mem 846 (by decide +kernel) (by decide +kernel)
set_option maxRecDepth 100000 in
theorem co_X6_lay : Cond.code yX6_lay cX6_lay 12 none ∈ TW := tw_mem 847 rfl rfl
theorem ml_X6_154 : Cond.methodLink RX6 154 yX6_place ∈ TW := tw_mem 848 (by decide +kernel) (by decide +kernel)
theorem st_X6_place : Cond.static yX6_place ∈ TW := tw_mem 849 (by decide +kernel) (by decide +kernel)
set_option maxRecDepth 100000 in
theorem co_X6_place : Cond.code yX6_place cX6_place 3 (some .int) ∈ TW := tw_mem 850 rfl rfl
theorem kl_X6_158 : Cond.constantLong RX6 158 (1000000000000000) ∈ TW := tw_mem 851 (by decide +kernel) (by decide +kernel)
theorem ml_X6_160 : Cond.methodLink RX6 160 yX6_may ∈ TW := tw_mem 852 (by decide +kernel) (by decide +kernel)
theorem im_X6_may : Cond.instanceMethod yX6_may ∈ TW := tw_mem 854 (by decide +kernel) (by decide +kernel)
set_option maxRecDepth 100000 in
theorem co_X6_may : Cond.code yX6_may cX6_may 6 (some .boolean) ∈ TW := tw_mem 855 rfl rfl
theorem ml_X6_130 : Cond.methodLink RX6 130 yX6_together ∈ TW := tw_mem 856 (by decide +kernel) (by decide +kernel)
theorem im_X6_together : Cond.instanceMethod yX6_together ∈ TW := tw_mem 858 (by decide +kernel) (by decide +kernel)
set_option maxRecDepth 100000 in
theorem co_X6_together : Cond.code yX6_together cX6_together 4 (some .int) ∈ TW := tw_mem 859 rfl rfl
theorem ml_X6_164 : Cond.methodLink RX6 164 yX6_nextSum ∈ TW := tw_mem 860 (by decide +kernel) (by decide +kernel)
theorem im_X6_nextSum : Cond.instanceMethod yX6_nextSum ∈ TW := tw_mem 862 (by decide +kernel) (by decide +kernel)
set_option maxRecDepth 100000 in
theorem co_X6_nextSum : Cond.code yX6_nextSum cX6_nextSum 4 (some .int) ∈ TW := tw_mem 863 rfl rfl
theorem kl_X6_167 : Cond.constantLong RX6 167 (-32) ∈ TW := tw_mem 864 (by decide +kernel) (by decide +kernel)
theorem kl_X6_169 : Cond.constantLong RX6 169 (32) ∈ TW := tw_mem 865 (by decide +kernel) (by decide +kernel)
theorem kl_X6_171 : Cond.constantLong RX6 171 (1024) ∈ TW := tw_mem 866 (by decide +kernel) (by decide +kernel)
theorem ml_X6_173 : Cond.methodLink RX6 173 yX6_step ∈ TW := tw_mem 867 (by decide +kernel) (by decide +kernel)
theorem im_X6_step : Cond.instanceMethod yX6_step ∈ TW := tw_mem 869 (by decide +kernel) (by decide +kernel)
set_option maxRecDepth 100000 in
theorem co_X6_step : Cond.code yX6_step cX6_step 6 (some .long) ∈ TW := tw_mem 870 rfl rfl
theorem ml_X6_147 : Cond.methodLink RX6 147 yX6_square ∈ TW := tw_mem 871 (by decide +kernel) (by decide +kernel)
theorem st_X6_square : Cond.static yX6_square ∈ TW := tw_mem 872 (by decide +kernel) (by decide +kernel)
set_option maxRecDepth 100000 in
theorem co_X6_square : Cond.code yX6_square cX6_square 2 (some .long) ∈ TW := tw_mem 873 rfl rfl
theorem ml_X6_188 : Cond.methodLink RX6 188 yX6_nextBest ∈ TW := tw_mem 874 (by decide +kernel) (by decide +kernel)
theorem im_X6_nextBest : Cond.instanceMethod yX6_nextBest ∈ TW := tw_mem 876 (by decide +kernel) (by decide +kernel)
set_option maxRecDepth 100000 in
theorem co_X6_nextBest : Cond.code yX6_nextBest cX6_nextBest 6 (some .int) ∈ TW := tw_mem 877 rfl rfl
theorem ml_L_51 : Cond.methodLink RL 51 yX6_recalls ∈ TW := tw_mem 878 (by decide +kernel) (by decide +kernel)
theorem im_X6_recalls : Cond.instanceMethod yX6_recalls ∈ TW := tw_mem 879 (by decide +kernel) (by decide +kernel)
theorem se_X6_recalls : Cond.selects RX6 yX6_recalls yX6_recalls ∈ TW := tw_mem 880 (by decide +kernel) (by decide +kernel)
set_option maxRecDepth 100000 in
theorem co_X6_recalls : Cond.code yX6_recalls cX6_recalls 3 (some .int) ∈ TW := tw_mem 881 rfl rfl
theorem ml_X6_122 : Cond.methodLink RX6 122 yX6_publishedMany ∈ TW := tw_mem 882 (by decide +kernel) (by decide +kernel)
theorem im_X6_publishedMany : Cond.instanceMethod yX6_publishedMany ∈ TW := tw_mem 884 (by decide +kernel) (by decide +kernel)
set_option maxRecDepth 100000 in
theorem co_X6_publishedMany : Cond.code yX6_publishedMany cX6_publishedMany 3 (some .int) ∈ TW := tw_mem 885 rfl rfl
theorem ml_L_55 : Cond.methodLink RL 55 yX6_of ∈ TW := tw_mem 886 (by decide +kernel) (by decide +kernel)
theorem im_X6_of : Cond.instanceMethod yX6_of ∈ TW := tw_mem 887 (by decide +kernel) (by decide +kernel)
theorem se_X6_of : Cond.selects RX6 yX6_of yX6_of ∈ TW := tw_mem 888 (by decide +kernel) (by decide +kernel)
set_option maxRecDepth 100000 in
theorem co_X6_of : Cond.code yX6_of cX6_of 3 (some .int) ∈ TW := tw_mem 889 rfl rfl
theorem kl_X6_125 : Cond.constantLong RX6 125 (3) ∈ TW := tw_mem 890 (by decide +kernel) (by decide +kernel)
theorem ml_X6_127 : Cond.methodLink RX6 127 yX6_ofQuarter ∈ TW := tw_mem 891 (by decide +kernel) (by decide +kernel)
theorem im_X6_ofQuarter : Cond.instanceMethod yX6_ofQuarter ∈ TW := tw_mem 893 (by decide +kernel) (by decide +kernel)
set_option maxRecDepth 100000 in
theorem co_X6_ofQuarter : Cond.code yX6_ofQuarter cX6_ofQuarter 3 (some .int) ∈ TW := tw_mem 894 rfl rfl
theorem ml_L_59 : Cond.methodLink RL 59 yX6_year ∈ TW := tw_mem 895 (by decide +kernel) (by decide +kernel)
theorem im_X6_year : Cond.instanceMethod yX6_year ∈ TW := tw_mem 896 (by decide +kernel) (by decide +kernel)
theorem se_X6_year : Cond.selects RX6 yX6_year yX6_year ∈ TW := tw_mem 897 (by decide +kernel) (by decide +kernel)
set_option maxRecDepth 100000 in
theorem co_X6_year : Cond.code yX6_year cX6_year 3 (some .int) ∈ TW := tw_mem 898 rfl rfl
theorem ml_X6_133 : Cond.methodLink RX6 133 yX6_ofYear ∈ TW := tw_mem 899 (by decide +kernel) (by decide +kernel)
theorem im_X6_ofYear : Cond.instanceMethod yX6_ofYear ∈ TW := tw_mem 901 (by decide +kernel) (by decide +kernel)
set_option maxRecDepth 100000 in
theorem co_X6_ofYear : Cond.code yX6_ofYear cX6_ofYear 3 (some .int) ∈ TW := tw_mem 902 rfl rfl
theorem ml_L_63 : Cond.methodLink RL 63 yX6_count ∈ TW := tw_mem 903 (by decide +kernel) (by decide +kernel)
theorem im_X6_count : Cond.instanceMethod yX6_count ∈ TW := tw_mem 904 (by decide +kernel) (by decide +kernel)
theorem se_X6_count : Cond.selects RX6 yX6_count yX6_count ∈ TW := tw_mem 905 (by decide +kernel) (by decide +kernel)
set_option maxRecDepth 100000 in
theorem co_X6_count : Cond.code yX6_count cX6_count 2 (some .int) ∈ TW := tw_mem 906 rfl rfl
theorem kl_X6_136 : Cond.constantLong RX6 136 (5) ∈ TW := tw_mem 907 (by decide +kernel) (by decide +kernel)
theorem ml_X6_138 : Cond.methodLink RX6 138 yX6_countOf ∈ TW := tw_mem 908 (by decide +kernel) (by decide +kernel)
theorem im_X6_countOf : Cond.instanceMethod yX6_countOf ∈ TW := tw_mem 910 (by decide +kernel) (by decide +kernel)
set_option maxRecDepth 100000 in
theorem co_X6_countOf : Cond.code yX6_countOf cX6_countOf 4 (some .int) ∈ TW := tw_mem 911 rfl rfl
theorem ml_L_67 : Cond.methodLink RL 67 yX6_bent ∈ TW := tw_mem 912 (by decide +kernel) (by decide +kernel)
theorem im_X6_bent : Cond.instanceMethod yX6_bent ∈ TW := tw_mem 913 (by decide +kernel) (by decide +kernel)
theorem se_X6_bent : Cond.selects RX6 yX6_bent yX6_bent ∈ TW := tw_mem 914 (by decide +kernel) (by decide +kernel)
set_option maxRecDepth 100000 in
theorem co_X6_bent : Cond.code yX6_bent cX6_bent 2 (some .int) ∈ TW := tw_mem 915 rfl rfl
theorem ml_L_72 : Cond.methodLink RL 72 yX6_moved ∈ TW := tw_mem 916 (by decide +kernel) (by decide +kernel)
theorem im_X6_moved : Cond.instanceMethod yX6_moved ∈ TW := tw_mem 917 (by decide +kernel) (by decide +kernel)
theorem se_X6_moved : Cond.selects RX6 yX6_moved yX6_moved ∈ TW := tw_mem 918 (by decide +kernel) (by decide +kernel)
set_option maxRecDepth 100000 in
theorem co_X6_moved : Cond.code yX6_moved cX6_moved 2 (some .long) ∈ TW := tw_mem 919 rfl rfl
theorem ml_X6_194 : Cond.methodLink RX6 194 yX6_movedBy ∈ TW := tw_mem 920 (by decide +kernel) (by decide +kernel)
theorem im_X6_movedBy : Cond.instanceMethod yX6_movedBy ∈ TW := tw_mem 922 (by decide +kernel) (by decide +kernel)
set_option maxRecDepth 100000 in
theorem co_X6_movedBy : Cond.code yX6_movedBy cX6_movedBy 8 (some .long) ∈ TW := tw_mem 923 rfl rfl
theorem ml_L_76 : Cond.methodLink RL 76 yX6_revised ∈ TW := tw_mem 924 (by decide +kernel) (by decide +kernel)
theorem im_X6_revised : Cond.instanceMethod yX6_revised ∈ TW := tw_mem 925 (by decide +kernel) (by decide +kernel)
theorem se_X6_revised : Cond.selects RX6 yX6_revised yX6_revised ∈ TW := tw_mem 926 (by decide +kernel) (by decide +kernel)
set_option maxRecDepth 100000 in
theorem co_X6_revised : Cond.code yX6_revised cX6_revised 2 (some .int) ∈ TW := tw_mem 927 rfl rfl
theorem ml_X6_198 : Cond.methodLink RX6 198 yX6_revisedOf ∈ TW := tw_mem 928 (by decide +kernel) (by decide +kernel)
theorem im_X6_revisedOf : Cond.instanceMethod yX6_revisedOf ∈ TW := tw_mem 930 (by decide +kernel) (by decide +kernel)
set_option maxRecDepth 100000 in
theorem co_X6_revisedOf : Cond.code yX6_revisedOf cX6_revisedOf 3 (some .int) ∈ TW := tw_mem 931 rfl rfl
theorem ml_L_80 : Cond.methodLink RL 80 yX6_farthest ∈ TW := tw_mem 932 (by decide +kernel) (by decide +kernel)
theorem im_X6_farthest : Cond.instanceMethod yX6_farthest ∈ TW := tw_mem 933 (by decide +kernel) (by decide +kernel)
theorem se_X6_farthest : Cond.selects RX6 yX6_farthest yX6_farthest ∈ TW := tw_mem 934 (by decide +kernel) (by decide +kernel)
set_option maxRecDepth 100000 in
theorem co_X6_farthest : Cond.code yX6_farthest cX6_farthest 4 (some .int) ∈ TW := tw_mem 935 rfl rfl
theorem ml_L_84 : Cond.methodLink RL 84 yX6_least ∈ TW := tw_mem 936 (by decide +kernel) (by decide +kernel)
theorem im_X6_least : Cond.instanceMethod yX6_least ∈ TW := tw_mem 937 (by decide +kernel) (by decide +kernel)
theorem se_X6_least : Cond.selects RX6 yX6_least yX6_least ∈ TW := tw_mem 938 (by decide +kernel) (by decide +kernel)
set_option maxRecDepth 100000 in
theorem co_X6_least : Cond.code yX6_least cX6_least 2 (some .int) ∈ TW := tw_mem 939 rfl rfl
theorem ml_L_88 : Cond.methodLink RL 88 yX6_price ∈ TW := tw_mem 940 (by decide +kernel) (by decide +kernel)
theorem im_X6_price : Cond.instanceMethod yX6_price ∈ TW := tw_mem 941 (by decide +kernel) (by decide +kernel)
theorem se_X6_price : Cond.selects RX6 yX6_price yX6_price ∈ TW := tw_mem 942 (by decide +kernel) (by decide +kernel)
set_option maxRecDepth 100000 in
theorem co_X6_price : Cond.code yX6_price cX6_price 5 (some .long) ∈ TW := tw_mem 943 rfl rfl
theorem ml_L_92 : Cond.methodLink RL 92 yX6_others ∈ TW := tw_mem 944 (by decide +kernel) (by decide +kernel)
theorem im_X6_others : Cond.instanceMethod yX6_others ∈ TW := tw_mem 945 (by decide +kernel) (by decide +kernel)
theorem se_X6_others : Cond.selects RX6 yX6_others yX6_others ∈ TW := tw_mem 946 (by decide +kernel) (by decide +kernel)
set_option maxRecDepth 100000 in
theorem co_X6_others : Cond.code yX6_others cX6_others 1 (some .int) ∈ TW := tw_mem 947 rfl rfl
theorem ml_L_96 : Cond.methodLink RL 96 yX6_shared ∈ TW := tw_mem 948 (by decide +kernel) (by decide +kernel)
theorem im_X6_shared : Cond.instanceMethod yX6_shared ∈ TW := tw_mem 949 (by decide +kernel) (by decide +kernel)
theorem se_X6_shared : Cond.selects RX6 yX6_shared yX6_shared ∈ TW := tw_mem 950 (by decide +kernel) (by decide +kernel)
set_option maxRecDepth 100000 in
theorem co_X6_shared : Cond.code yX6_shared cX6_shared 2 (some .int) ∈ TW := tw_mem 951 rfl rfl
theorem ml_X6_204 : Cond.methodLink RX6 204 yX6_shareOut ∈ TW := tw_mem 952 (by decide +kernel) (by decide +kernel)
theorem im_X6_shareOut : Cond.instanceMethod yX6_shareOut ∈ TW := tw_mem 954 (by decide +kernel) (by decide +kernel)
set_option maxRecDepth 100000 in
theorem co_X6_shareOut : Cond.code yX6_shareOut cX6_shareOut 2 none ∈ TW := tw_mem 955 rfl rfl
theorem ml_X6_201 : Cond.methodLink RX6 201 yX6_shareYear ∈ TW := tw_mem 956 (by decide +kernel) (by decide +kernel)
theorem im_X6_shareYear : Cond.instanceMethod yX6_shareYear ∈ TW := tw_mem 958 (by decide +kernel) (by decide +kernel)
set_option maxRecDepth 100000 in
theorem co_X6_shareYear : Cond.code yX6_shareYear cX6_shareYear 9 none ∈ TW := tw_mem 959 rfl rfl
theorem ml_L_100 : Cond.methodLink RL 100 yX6_stepped ∈ TW := tw_mem 960 (by decide +kernel) (by decide +kernel)
theorem im_X6_stepped : Cond.instanceMethod yX6_stepped ∈ TW := tw_mem 961 (by decide +kernel) (by decide +kernel)
theorem se_X6_stepped : Cond.selects RX6 yX6_stepped yX6_stepped ∈ TW := tw_mem 962 (by decide +kernel) (by decide +kernel)
set_option maxRecDepth 100000 in
theorem co_X6_stepped : Cond.code yX6_stepped cX6_stepped 2 (some .long) ∈ TW := tw_mem 963 rfl rfl
theorem ml_L_104 : Cond.methodLink RL 104 yX6_type ∈ TW := tw_mem 964 (by decide +kernel) (by decide +kernel)
theorem im_X6_type : Cond.instanceMethod yX6_type ∈ TW := tw_mem 965 (by decide +kernel) (by decide +kernel)
theorem se_X6_type : Cond.selects RX6 yX6_type yX6_type ∈ TW := tw_mem 966 (by decide +kernel) (by decide +kernel)
set_option maxRecDepth 100000 in
theorem co_X6_type : Cond.code yX6_type cX6_type 2 (some .int) ∈ TW := tw_mem 967 rfl rfl
theorem kl_X6_207 : Cond.constantLong RX6 207 (127) ∈ TW := tw_mem 968 (by decide +kernel) (by decide +kernel)
theorem ml_L_108 : Cond.methodLink RL 108 yX6_clear ∈ TW := tw_mem 969 (by decide +kernel) (by decide +kernel)
theorem im_X6_clear : Cond.instanceMethod yX6_clear ∈ TW := tw_mem 970 (by decide +kernel) (by decide +kernel)
theorem se_X6_clear : Cond.selects RX6 yX6_clear yX6_clear ∈ TW := tw_mem 971 (by decide +kernel) (by decide +kernel)
set_option maxRecDepth 100000 in
theorem co_X6_clear : Cond.code yX6_clear cX6_clear 2 (some .int) ∈ TW := tw_mem 972 rfl rfl
theorem ml_L_112 : Cond.methodLink RL 112 yX6_does ∈ TW := tw_mem 973 (by decide +kernel) (by decide +kernel)
theorem im_X6_does : Cond.instanceMethod yX6_does ∈ TW := tw_mem 974 (by decide +kernel) (by decide +kernel)
theorem se_X6_does : Cond.selects RX6 yX6_does yX6_does ∈ TW := tw_mem 975 (by decide +kernel) (by decide +kernel)
set_option maxRecDepth 100000 in
theorem co_X6_does : Cond.code yX6_does cX6_does 3 (some .int) ∈ TW := tw_mem 976 rfl rfl
theorem ml_X6_234 : Cond.methodLink RX6 234 yX6_readText ∈ TW := tw_mem 977 (by decide +kernel) (by decide +kernel)
theorem im_X6_readText : Cond.instanceMethod yX6_readText ∈ TW := tw_mem 979 (by decide +kernel) (by decide +kernel)
set_option maxRecDepth 100000 in
theorem co_X6_readText : Cond.code yX6_readText cX6_readText 2 (some .int) ∈ TW := tw_mem 980 rfl rfl
theorem ml_X6_231 : Cond.methodLink RX6 231 yX6_readByte ∈ TW := tw_mem 981 (by decide +kernel) (by decide +kernel)
theorem im_X6_readByte : Cond.instanceMethod yX6_readByte ∈ TW := tw_mem 983 (by decide +kernel) (by decide +kernel)
set_option maxRecDepth 100000 in
theorem co_X6_readByte : Cond.code yX6_readByte cX6_readByte 3 (some .boolean) ∈ TW := tw_mem 984 rfl rfl
theorem ml_X6_224 : Cond.methodLink RX6 224 yX6_wantsOf ∈ TW := tw_mem 985 (by decide +kernel) (by decide +kernel)
theorem st_X6_wantsOf : Cond.static yX6_wantsOf ∈ TW := tw_mem 986 (by decide +kernel) (by decide +kernel)
set_option maxRecDepth 100000 in
theorem co_X6_wantsOf : Cond.code yX6_wantsOf cX6_wantsOf 1 (some .int) ∈ TW := tw_mem 987 rfl rfl
theorem kl_X6_227 : Cond.constantLong RX6 227 (48) ∈ TW := tw_mem 988 (by decide +kernel) (by decide +kernel)
theorem kl_X6_229 : Cond.constantLong RX6 229 (57) ∈ TW := tw_mem 989 (by decide +kernel) (by decide +kernel)
theorem ml_X6_237 : Cond.methodLink RX6 237 yX6_doOrder ∈ TW := tw_mem 990 (by decide +kernel) (by decide +kernel)
theorem im_X6_doOrder : Cond.instanceMethod yX6_doOrder ∈ TW := tw_mem 992 (by decide +kernel) (by decide +kernel)
set_option maxRecDepth 100000 in
theorem co_X6_doOrder : Cond.code yX6_doOrder cX6_doOrder 5 (some .int) ∈ TW := tw_mem 993 rfl rfl
theorem ml_L_116 : Cond.methodLink RL 116 yX6_back ∈ TW := tw_mem 994 (by decide +kernel) (by decide +kernel)
theorem im_X6_back : Cond.instanceMethod yX6_back ∈ TW := tw_mem 995 (by decide +kernel) (by decide +kernel)
theorem se_X6_back : Cond.selects RX6 yX6_back yX6_back ∈ TW := tw_mem 996 (by decide +kernel) (by decide +kernel)
set_option maxRecDepth 100000 in
theorem co_X6_back : Cond.code yX6_back cX6_back 1 (some .int) ∈ TW := tw_mem 997 rfl rfl
theorem ml_L_120 : Cond.methodLink RL 120 yX6_told ∈ TW := tw_mem 998 (by decide +kernel) (by decide +kernel)
theorem im_X6_told : Cond.instanceMethod yX6_told ∈ TW := tw_mem 999 (by decide +kernel) (by decide +kernel)
theorem se_X6_told : Cond.selects RX6 yX6_told yX6_told ∈ TW := tw_mem 1000 (by decide +kernel) (by decide +kernel)
set_option maxRecDepth 100000 in
theorem co_X6_told : Cond.code yX6_told cX6_told 2 (some .int) ∈ TW := tw_mem 1001 rfl rfl
theorem kl_X6_240 : Cond.constantLong RX6 240 (4) ∈ TW := tw_mem 1002 (by decide +kernel) (by decide +kernel)
theorem ml_X6_242 : Cond.methodLink RX6 242 yX6_toldOf ∈ TW := tw_mem 1003 (by decide +kernel) (by decide +kernel)
theorem im_X6_toldOf : Cond.instanceMethod yX6_toldOf ∈ TW := tw_mem 1005 (by decide +kernel) (by decide +kernel)
set_option maxRecDepth 100000 in
theorem co_X6_toldOf : Cond.code yX6_toldOf cX6_toldOf 2 (some .int) ∈ TW := tw_mem 1006 rfl rfl
theorem ml_L_125 : Cond.methodLink RL 125 yX6_digest ∈ TW := tw_mem 1007 (by decide +kernel) (by decide +kernel)
theorem im_X6_digest : Cond.instanceMethod yX6_digest ∈ TW := tw_mem 1008 (by decide +kernel) (by decide +kernel)
theorem se_X6_digest : Cond.selects RX6 yX6_digest yX6_digest ∈ TW := tw_mem 1009 (by decide +kernel) (by decide +kernel)
set_option maxRecDepth 100000 in
theorem co_X6_digest : Cond.code yX6_digest cX6_digest 5 (some .long) ∈ TW := tw_mem 1010 rfl rfl
theorem kl_X6_245 : Cond.constantLong RX6 245 (1980) ∈ TW := tw_mem 1011 (by decide +kernel) (by decide +kernel)
theorem kl_X6_247 : Cond.constantLong RX6 247 (31) ∈ TW := tw_mem 1012 (by decide +kernel) (by decide +kernel)
theorem kl_X6_249 : Cond.constantLong RX6 249 (8) ∈ TW := tw_mem 1013 (by decide +kernel) (by decide +kernel)
theorem ly_X0 : ∀ w ∈ u_ws RX0 TX0 11, w ∈ TW := by
  intro w hw
  exact List.mem_filter.mpr (by
    have h : (u_ws RX0 TX0 11).all (fun w => decide (w ∈ lw_tbl) && goodWord w) = true := by decide +kernel
    have h1 := List.all_eq_true.mp h w hw
    simpa using h1)
theorem ly_X1 : ∀ w ∈ u_ws RX1 TX1 7, w ∈ TW := by
  intro w hw
  exact List.mem_filter.mpr (by
    have h : (u_ws RX1 TX1 7).all (fun w => decide (w ∈ lw_tbl) && goodWord w) = true := by decide +kernel
    have h1 := List.all_eq_true.mp h w hw
    simpa using h1)
theorem ly_X2 : ∀ w ∈ u_ws RX2 TX2 7, w ∈ TW := by
  intro w hw
  exact List.mem_filter.mpr (by
    have h : (u_ws RX2 TX2 7).all (fun w => decide (w ∈ lw_tbl) && goodWord w) = true := by decide +kernel
    have h1 := List.all_eq_true.mp h w hw
    simpa using h1)
theorem ly_X3 : ∀ w ∈ u_ws RX3 TX3 3, w ∈ TW := by
  intro w hw
  exact List.mem_filter.mpr (by
    have h : (u_ws RX3 TX3 3).all (fun w => decide (w ∈ lw_tbl) && goodWord w) = true := by decide +kernel
    have h1 := List.all_eq_true.mp h w hw
    simpa using h1)
theorem ly_X4 : ∀ w ∈ u_ws RX4 TX4 9, w ∈ TW := by
  intro w hw
  exact List.mem_filter.mpr (by
    have h : (u_ws RX4 TX4 9).all (fun w => decide (w ∈ lw_tbl) && goodWord w) = true := by decide +kernel
    have h1 := List.all_eq_true.mp h w hw
    simpa using h1)
theorem ly_X5 : ∀ w ∈ u_ws RX5 TX5 6, w ∈ TW := by
  intro w hw
  exact List.mem_filter.mpr (by
    have h : (u_ws RX5 TX5 6).all (fun w => decide (w ∈ lw_tbl) && goodWord w) = true := by decide +kernel
    have h1 := List.all_eq_true.mp h w hw
    simpa using h1)
theorem ly_X6 : ∀ w ∈ u_ws RX6 TX6 23, w ∈ TW := by
  intro w hw
  exact List.mem_filter.mpr (by
    have h : (u_ws RX6 TX6 23).all (fun w => decide (w ∈ lw_tbl) && goodWord w) = true := by decide +kernel
    have h1 := List.all_eq_true.mp h w hw
    simpa using h1)
