def gW : List Cond := lw_tbl.filter goodWord
theorem gW_in {w : Cond} (h : w ∈ lw_tbl) (g : goodWord w = true) : w ∈ gW := List.mem_filter.mpr ⟨h, g⟩
theorem gW_tbl : ∀ w ∈ gW, w ∈ lw_tbl := fun _ h => (List.mem_filter.mp h).1
theorem gW_good : ∀ w ∈ gW, goodWord w = true := fun _ h => (List.mem_filter.mp h).2
set_option maxRecDepth 20000 in
theorem q0 : Cond.classLink RL 7 RX5 ∈ gW := gW_in (List.mem_append_right _ (List.mem_append_left _ (List.mem_of_getElem? (i := 12) rfl))) rfl
set_option maxRecDepth 20000 in
theorem q1 : Cond.instantiable RX5 12 ∈ gW := gW_in (List.mem_append_right _ (List.mem_append_left _ (List.mem_of_getElem? (i := 13) rfl))) rfl
set_option maxRecDepth 20000 in
theorem q2 : Cond.initialized RX5 ∈ gW := gW_in (List.mem_append_right _ (List.mem_append_left _ (List.mem_of_getElem? (i := 1) rfl))) rfl
set_option maxRecDepth 20000 in
theorem q3 : Cond.classLink RL 10 RX6 ∈ gW := gW_in (List.mem_append_right _ (List.mem_append_right _ (List.mem_append_right _ (List.mem_append_left _ (List.mem_of_getElem? (i := 57) rfl))))) rfl
set_option maxRecDepth 20000 in
theorem q4 : Cond.instantiable RX6 27 ∈ gW := gW_in (List.mem_append_right _ (List.mem_append_right _ (List.mem_append_right _ (List.mem_append_left _ (List.mem_of_getElem? (i := 58) rfl))))) rfl
set_option maxRecDepth 20000 in
theorem q5 : Cond.initialized RX6 ∈ gW := gW_in (List.mem_append_right _ (List.mem_append_left _ (List.mem_of_getElem? (i := 5) rfl))) rfl
set_option maxRecDepth 20000 in
theorem q6 : Cond.methodLink RL 9 yX5_init ∈ gW := gW_in (List.mem_append_right _ (List.mem_append_left _ (List.mem_of_getElem? (i := 14) rfl))) rfl
set_option maxRecDepth 20000 in
theorem q7 : Cond.instanceMethod yX5_init ∈ gW := gW_in (List.mem_append_right _ (List.mem_append_left _ (List.mem_of_getElem? (i := 15) rfl))) rfl
set_option maxRecDepth 20000 in
theorem q8 : Cond.code yX5_init cX5_init 2 none ∈ gW := gW_in (List.mem_append_right _ (List.mem_append_left _ (List.mem_of_getElem? (i := 16) rfl))) rfl
set_option maxRecDepth 20000 in
theorem q9 : Cond.methodLink RX5 3 objectInit ∈ gW := gW_in (List.mem_append_right _ (List.mem_append_left _ (List.mem_of_getElem? (i := 17) rfl))) rfl
set_option maxRecDepth 20000 in
theorem q10 : Cond.instanceMethod objectInit ∈ gW := gW_in (List.mem_append_right _ (List.mem_append_left _ (List.mem_of_getElem? (i := 18) rfl))) rfl
set_option maxRecDepth 20000 in
theorem q11 : Cond.code objectInit ⟨#[0xb1]⟩ 1 none ∈ gW := gW_in (List.mem_append_right _ (List.mem_append_left _ (List.mem_of_getElem? (i := 19) rfl))) rfl
set_option maxRecDepth 20000 in
theorem q12 : Cond.classLink RX5 11 RX0 ∈ gW := gW_in (List.mem_append_right _ (List.mem_append_left _ (List.mem_of_getElem? (i := 20) rfl))) rfl
set_option maxRecDepth 20000 in
theorem q13 : Cond.fieldLink RX5 13 "NestedDolls" "row" "[LNestedDolls$Doll;" ∈ gW := gW_in (List.mem_append_right _ (List.mem_append_left _ (List.mem_of_getElem? (i := 91) rfl))) rfl
set_option maxRecDepth 20000 in
theorem q14 : Cond.classLink RX5 17 RX2 ∈ gW := gW_in (List.mem_append_right _ (List.mem_append_left _ (List.mem_of_getElem? (i := 22) rfl))) rfl
set_option maxRecDepth 20000 in
theorem q15 : Cond.fieldLink RX5 19 "NestedDolls" "sheets" "[LNestedDolls$Sheet;" ∈ gW := gW_in (List.mem_append_right _ (List.mem_append_left _ (List.mem_of_getElem? (i := 92) rfl))) rfl
set_option maxRecDepth 20000 in
theorem q16 : Cond.arrayClass .int ∈ gW := gW_in (List.mem_append_right _ (List.mem_append_left _ (List.mem_of_getElem? (i := 52) rfl))) rfl
set_option maxRecDepth 20000 in
theorem q17 : Cond.fieldLink RX5 23 "NestedDolls" "readFirst" "[I" ∈ gW := gW_in (List.mem_append_right _ (List.mem_append_left _ (List.mem_of_getElem? (i := 93) rfl))) rfl
set_option maxRecDepth 20000 in
theorem q18 : Cond.fieldLink RX5 27 "NestedDolls" "readSecond" "[I" ∈ gW := gW_in (List.mem_append_right _ (List.mem_append_left _ (List.mem_of_getElem? (i := 94) rfl))) rfl
set_option maxRecDepth 20000 in
theorem q19 : Cond.arrayClass .boolean ∈ gW := gW_in (List.mem_append_right _ (List.mem_append_left _ (List.mem_of_getElem? (i := 53) rfl))) rfl
set_option maxRecDepth 20000 in
theorem q20 : Cond.fieldLink RX5 30 "NestedDolls" "readFits" "[Z" ∈ gW := gW_in (List.mem_append_right _ (List.mem_append_left _ (List.mem_of_getElem? (i := 95) rfl))) rfl
set_option maxRecDepth 20000 in
theorem q21 : Cond.classLink RX5 34 RX1 ∈ gW := gW_in (List.mem_append_right _ (List.mem_append_left _ (List.mem_of_getElem? (i := 24) rfl))) rfl
set_option maxRecDepth 20000 in
theorem q22 : Cond.instantiable RX1 7 ∈ gW := gW_in (List.mem_append_right _ (List.mem_append_left _ (List.mem_of_getElem? (i := 25) rfl))) rfl
set_option maxRecDepth 20000 in
theorem q23 : Cond.initialized RX1 ∈ gW := gW_in (List.mem_append_right _ (List.mem_append_left _ (List.mem_of_getElem? (i := 2) rfl))) rfl
set_option maxRecDepth 20000 in
theorem q24 : Cond.fieldLink RX5 37 "NestedDolls" "search" "LNestedDolls$Search;" ∈ gW := gW_in (List.mem_append_right _ (List.mem_append_left _ (List.mem_of_getElem? (i := 96) rfl))) rfl
set_option maxRecDepth 20000 in
theorem q25 : Cond.instantiable RX0 3 ∈ gW := gW_in (List.mem_append_right _ (List.mem_append_left _ (List.mem_of_getElem? (i := 55) rfl))) rfl
set_option maxRecDepth 20000 in
theorem q26 : Cond.initialized RX0 ∈ gW := gW_in (List.mem_append_right _ (List.mem_append_left _ (List.mem_of_getElem? (i := 3) rfl))) rfl
set_option maxRecDepth 20000 in
theorem q27 : Cond.instantiable RX2 3 ∈ gW := gW_in (List.mem_append_right _ (List.mem_append_left _ (List.mem_of_getElem? (i := 76) rfl))) rfl
set_option maxRecDepth 20000 in
theorem q28 : Cond.initialized RX2 ∈ gW := gW_in (List.mem_append_right _ (List.mem_append_left _ (List.mem_of_getElem? (i := 4) rfl))) rfl
set_option maxRecDepth 20000 in
theorem q29 : Cond.instanceMethod yX1_init ∈ gW := gW_in (List.mem_append_right _ (List.mem_append_left _ (List.mem_of_getElem? (i := 27) rfl))) rfl
set_option maxRecDepth 20000 in
theorem q30 : Cond.code yX1_init cX1_init 1 none ∈ gW := gW_in (List.mem_append_right _ (List.mem_append_left _ (List.mem_of_getElem? (i := 28) rfl))) rfl
set_option maxRecDepth 20000 in
theorem q31 : Cond.methodLink RX1 3 objectInit ∈ gW := gW_in (List.mem_append_right _ (List.mem_append_left _ (List.mem_of_getElem? (i := 29) rfl))) rfl
set_option maxRecDepth 20000 in
theorem q32 : Cond.fieldLink RX1 11 "NestedDolls$Search" "reached" "[I" ∈ gW := gW_in (List.mem_append_right _ (List.mem_append_left _ (List.mem_of_getElem? (i := 30) rfl))) rfl
set_option maxRecDepth 20000 in
theorem q33 : Cond.fieldLink RX1 15 "NestedDolls$Search" "from" "[I" ∈ gW := gW_in (List.mem_append_right _ (List.mem_append_left _ (List.mem_of_getElem? (i := 31) rfl))) rfl
set_option maxRecDepth 20000 in
theorem q34 : Cond.fieldLink RX1 18 "NestedDolls$Search" "by" "[I" ∈ gW := gW_in (List.mem_append_right _ (List.mem_append_left _ (List.mem_of_getElem? (i := 32) rfl))) rfl
set_option maxRecDepth 20000 in
theorem q35 : Cond.arrayClass .long ∈ gW := gW_in (List.mem_append_right _ (List.mem_append_left _ (List.mem_of_getElem? (i := 54) rfl))) rfl
set_option maxRecDepth 20000 in
theorem q36 : Cond.fieldLink RX1 23 "NestedDolls$Search" "seen" "[J" ∈ gW := gW_in (List.mem_append_right _ (List.mem_append_left _ (List.mem_of_getElem? (i := 33) rfl))) rfl
set_option maxRecDepth 20000 in
theorem q37 : Cond.instanceMethod yX0_init ∈ gW := gW_in (List.mem_append_right _ (List.mem_append_left _ (List.mem_of_getElem? (i := 57) rfl))) rfl
set_option maxRecDepth 20000 in
theorem q38 : Cond.code yX0_init cX0_init 1 none ∈ gW := gW_in (List.mem_append_right _ (List.mem_append_left _ (List.mem_of_getElem? (i := 58) rfl))) rfl
set_option maxRecDepth 20000 in
theorem q39 : Cond.methodLink RX0 3 objectInit ∈ gW := gW_in (List.mem_append_right _ (List.mem_append_left _ (List.mem_of_getElem? (i := 59) rfl))) rfl
set_option maxRecDepth 20000 in
theorem q40 : Cond.fieldLink RX0 9 "NestedDolls$Doll" "girth" "I" ∈ gW := gW_in (List.mem_append_right _ (List.mem_append_left _ (List.mem_of_getElem? (i := 63) rfl))) rfl
set_option maxRecDepth 20000 in
theorem q41 : Cond.instanceMethod yX2_init ∈ gW := gW_in (List.mem_append_right _ (List.mem_append_left _ (List.mem_of_getElem? (i := 78) rfl))) rfl
set_option maxRecDepth 20000 in
theorem q42 : Cond.code yX2_init cX2_init 1 none ∈ gW := gW_in (List.mem_append_right _ (List.mem_append_left _ (List.mem_of_getElem? (i := 79) rfl))) rfl
set_option maxRecDepth 20000 in
theorem q43 : Cond.methodLink RX2 3 objectInit ∈ gW := gW_in (List.mem_append_right _ (List.mem_append_left _ (List.mem_of_getElem? (i := 80) rfl))) rfl
set_option maxRecDepth 20000 in
theorem q44 : Cond.fieldLink RX2 9 "NestedDolls$Sheet" "cells" "[I" ∈ gW := gW_in (List.mem_append_right _ (List.mem_append_left _ (List.mem_of_getElem? (i := 81) rfl))) rfl
set_option maxRecDepth 20000 in
theorem q45 : Cond.fieldLink RX2 15 "NestedDolls$Sheet" "laneOfRow" "I" ∈ gW := gW_in (List.mem_append_right _ (List.mem_append_left _ (List.mem_of_getElem? (i := 82) rfl))) rfl
set_option maxRecDepth 20000 in
theorem q46 : Cond.methodLink RL 12 yX6_init ∈ gW := gW_in (List.mem_append_right _ (List.mem_append_right _ (List.mem_append_right _ (List.mem_append_left _ (List.mem_of_getElem? (i := 59) rfl))))) rfl
set_option maxRecDepth 20000 in
theorem q47 : Cond.instanceMethod yX6_init ∈ gW := gW_in (List.mem_append_right _ (List.mem_append_right _ (List.mem_append_right _ (List.mem_append_left _ (List.mem_of_getElem? (i := 60) rfl))))) rfl
set_option maxRecDepth 20000 in
theorem q48 : Cond.code yX6_init cX6_init 1 none ∈ gW := gW_in (List.mem_append_right _ (List.mem_append_right _ (List.mem_append_right _ (List.mem_append_left _ (List.mem_of_getElem? (i := 61) rfl))))) rfl
set_option maxRecDepth 20000 in
theorem q49 : Cond.methodLink RX6 1 objectInit ∈ gW := gW_in (List.mem_append_right _ (List.mem_append_right _ (List.mem_append_right _ (List.mem_append_left _ (List.mem_of_getElem? (i := 62) rfl))))) rfl
set_option maxRecDepth 20000 in
theorem q50 : Cond.fieldLink RX6 9 "NestedDollsModel" "sorts" "[I" ∈ gW := gW_in (List.mem_append_right _ (List.mem_append_right _ (List.mem_append_right _ (List.mem_append_left _ (List.mem_of_getElem? (i := 66) rfl))))) rfl
set_option maxRecDepth 20000 in
theorem q51 : Cond.fieldLink RX6 13 "NestedDollsModel" "sheetLong" "[I" ∈ gW := gW_in (List.mem_append_right _ (List.mem_append_right _ (List.mem_append_right _ (List.mem_append_left _ (List.mem_of_getElem? (i := 67) rfl))))) rfl
set_option maxRecDepth 20000 in
theorem q52 : Cond.fieldLink RX6 16 "NestedDollsModel" "cells" "[I" ∈ gW := gW_in (List.mem_append_right _ (List.mem_append_right _ (List.mem_append_right _ (List.mem_append_left _ (List.mem_of_getElem? (i := 68) rfl))))) rfl
set_option maxRecDepth 20000 in
theorem q53 : Cond.fieldLink RX6 19 "NestedDollsModel" "kind" "[I" ∈ gW := gW_in (List.mem_append_right _ (List.mem_append_right _ (List.mem_append_right _ (List.mem_append_left _ (List.mem_of_getElem? (i := 71) rfl))))) rfl
set_option maxRecDepth 20000 in
theorem q54 : Cond.fieldLink RX6 22 "NestedDollsModel" "girth" "[I" ∈ gW := gW_in (List.mem_append_right _ (List.mem_append_right _ (List.mem_append_right _ (List.mem_append_left _ (List.mem_of_getElem? (i := 72) rfl))))) rfl
set_option maxRecDepth 20000 in
theorem q55 : Cond.fieldLink RX6 25 "NestedDollsModel" "room" "[I" ∈ gW := gW_in (List.mem_append_right _ (List.mem_append_right _ (List.mem_append_right _ (List.mem_append_left _ (List.mem_of_getElem? (i := 73) rfl))))) rfl
set_option maxRecDepth 20000 in
theorem q56 : Cond.fieldLink RX6 28 "NestedDollsModel" "where" "[I" ∈ gW := gW_in (List.mem_append_right _ (List.mem_append_right _ (List.mem_append_right _ (List.mem_append_left _ (List.mem_of_getElem? (i := 74) rfl))))) rfl
set_option maxRecDepth 20000 in
theorem q57 : Cond.fieldLink RX6 31 "NestedDollsModel" "read" "[I" ∈ gW := gW_in (List.mem_append_right _ (List.mem_append_right _ (List.mem_append_right _ (List.mem_append_left _ (List.mem_of_getElem? (i := 78) rfl))))) rfl
set_option maxRecDepth 20000 in
theorem q58 : Cond.fieldLink RX6 34 "NestedDollsModel" "placeOf" "[I" ∈ gW := gW_in (List.mem_append_right _ (List.mem_append_right _ (List.mem_append_right _ (List.mem_append_left _ (List.mem_of_getElem? (i := 79) rfl))))) rfl
set_option maxRecDepth 20000 in
theorem q59 : Cond.fieldLink RX6 37 "NestedDollsModel" "nests" "[I" ∈ gW := gW_in (List.mem_append_right _ (List.mem_append_right _ (List.mem_append_right _ (List.mem_append_left _ (List.mem_of_getElem? (i := 80) rfl))))) rfl
set_option maxRecDepth 20000 in
theorem q60 : Cond.constant RX6 40 (33600) ∈ gW := gW_in (List.mem_append_right _ (List.mem_append_right _ (List.mem_append_right _ (List.mem_append_left _ (List.mem_of_getElem? (i := 63) rfl))))) rfl
set_option maxRecDepth 20000 in
theorem q61 : Cond.fieldLink RX6 41 "NestedDollsModel" "leads" "[I" ∈ gW := gW_in (List.mem_append_right _ (List.mem_append_right _ (List.mem_append_right _ (List.mem_append_left _ (List.mem_of_getElem? (i := 81) rfl))))) rfl
set_option maxRecDepth 20000 in
theorem q62 : Cond.fieldLink RX6 44 "NestedDollsModel" "far" "[I" ∈ gW := gW_in (List.mem_append_right _ (List.mem_append_right _ (List.mem_append_right _ (List.mem_append_left _ (List.mem_of_getElem? (i := 82) rfl))))) rfl
set_option maxRecDepth 20000 in
theorem q63 : Cond.fieldLink RX6 47 "NestedDollsModel" "tidied" "[I" ∈ gW := gW_in (List.mem_append_right _ (List.mem_append_right _ (List.mem_append_right _ (List.mem_append_left _ (List.mem_of_getElem? (i := 84) rfl))))) rfl
set_option maxRecDepth 20000 in
theorem q64 : Cond.fieldLink RX6 50 "NestedDollsModel" "bestTidied" "[I" ∈ gW := gW_in (List.mem_append_right _ (List.mem_append_right _ (List.mem_append_right _ (List.mem_append_left _ (List.mem_of_getElem? (i := 85) rfl))))) rfl
set_option maxRecDepth 20000 in
theorem q65 : Cond.fieldLink RX6 53 "NestedDollsModel" "chains" "[I" ∈ gW := gW_in (List.mem_append_right _ (List.mem_append_right _ (List.mem_append_right _ (List.mem_append_left _ (List.mem_of_getElem? (i := 86) rfl))))) rfl
set_option maxRecDepth 20000 in
theorem q66 : Cond.fieldLink RX6 56 "NestedDollsModel" "readOne" "[I" ∈ gW := gW_in (List.mem_append_right _ (List.mem_append_right _ (List.mem_append_right _ (List.mem_append_left _ (List.mem_of_getElem? (i := 88) rfl))))) rfl
set_option maxRecDepth 20000 in
theorem q67 : Cond.fieldLink RX6 59 "NestedDollsModel" "readOther" "[I" ∈ gW := gW_in (List.mem_append_right _ (List.mem_append_right _ (List.mem_append_right _ (List.mem_append_left _ (List.mem_of_getElem? (i := 89) rfl))))) rfl
set_option maxRecDepth 20000 in
theorem q68 : Cond.fieldLink RX6 62 "NestedDollsModel" "readFits" "[I" ∈ gW := gW_in (List.mem_append_right _ (List.mem_append_right _ (List.mem_append_right _ (List.mem_append_left _ (List.mem_of_getElem? (i := 90) rfl))))) rfl
set_option maxRecDepth 20000 in
theorem q69 : Cond.methodLink RL 13 yX5_dolls ∈ gW := gW_in (List.mem_append_right _ (List.mem_append_left _ (List.mem_of_getElem? (i := 128) rfl))) rfl
set_option maxRecDepth 20000 in
theorem q70 : Cond.instanceMethod yX5_dolls ∈ gW := gW_in (List.mem_append_right _ (List.mem_append_left _ (List.mem_of_getElem? (i := 129) rfl))) rfl
set_option maxRecDepth 20000 in
theorem q71 : Cond.selects RX5 yX5_dolls yX5_dolls ∈ gW := gW_in (List.mem_append_right _ (List.mem_append_left _ (List.mem_of_getElem? (i := 130) rfl))) rfl
set_option maxRecDepth 20000 in
theorem q72 : Cond.code yX5_dolls cX5_dolls 7 (some .int) ∈ gW := gW_in (List.mem_append_right _ (List.mem_append_left _ (List.mem_of_getElem? (i := 131) rfl))) rfl
set_option maxRecDepth 20000 in
theorem q73 : Cond.fieldLink RX5 43 "NestedDolls" "latestFault" "I" ∈ gW := gW_in (List.mem_append_right _ (List.mem_append_left _ (List.mem_of_getElem? (i := 102) rfl))) rfl
set_option maxRecDepth 20000 in
theorem q74 : Cond.fieldLink RX5 72 "NestedDolls" "count" "I" ∈ gW := gW_in (List.mem_append_right _ (List.mem_append_left _ (List.mem_of_getElem? (i := 97) rfl))) rfl
set_option maxRecDepth 20000 in
theorem q75 : Cond.methodLink RX5 47 yX5_isSheet ∈ gW := gW_in (List.mem_append_right _ (List.mem_append_left _ (List.mem_of_getElem? (i := 132) rfl))) rfl
set_option maxRecDepth 20000 in
theorem q76 : Cond.static yX5_isSheet ∈ gW := gW_in (List.mem_append_right _ (List.mem_append_left _ (List.mem_of_getElem? (i := 133) rfl))) rfl
set_option maxRecDepth 20000 in
theorem q77 : Cond.code yX5_isSheet cX5_isSheet 1 (some .boolean) ∈ gW := gW_in (List.mem_append_right _ (List.mem_append_left _ (List.mem_of_getElem? (i := 134) rfl))) rfl
set_option maxRecDepth 20000 in
theorem q78 : Cond.methodLink RX5 51 yX5_isLane ∈ gW := gW_in (List.mem_append_right _ (List.mem_append_left _ (List.mem_of_getElem? (i := 135) rfl))) rfl
set_option maxRecDepth 20000 in
theorem q79 : Cond.static yX5_isLane ∈ gW := gW_in (List.mem_append_right _ (List.mem_append_left _ (List.mem_of_getElem? (i := 136) rfl))) rfl
set_option maxRecDepth 20000 in
theorem q80 : Cond.code yX5_isLane cX5_isLane 1 (some .boolean) ∈ gW := gW_in (List.mem_append_right _ (List.mem_append_left _ (List.mem_of_getElem? (i := 137) rfl))) rfl
set_option maxRecDepth 20000 in
theorem q81 : Cond.methodLink RX5 54 yX2_faultOf ∈ gW := gW_in (List.mem_append_right _ (List.mem_append_left _ (List.mem_of_getElem? (i := 138) rfl))) rfl
set_option maxRecDepth 20000 in
theorem q82 : Cond.instanceMethod yX2_faultOf ∈ gW := gW_in (List.mem_append_right _ (List.mem_append_left _ (List.mem_of_getElem? (i := 139) rfl))) rfl
set_option maxRecDepth 20000 in
theorem q83 : Cond.selects RX2 yX2_faultOf yX2_faultOf ∈ gW := gW_in (List.mem_append_right _ (List.mem_append_left _ (List.mem_of_getElem? (i := 140) rfl))) rfl
set_option maxRecDepth 20000 in
theorem q84 : Cond.code yX2_faultOf cX2_faultOf 4 (some .int) ∈ gW := gW_in (List.mem_append_right _ (List.mem_append_left _ (List.mem_of_getElem? (i := 141) rfl))) rfl
set_option maxRecDepth 20000 in
theorem q85 : Cond.methodLink RX2 41 yX2_hasNothing ∈ gW := gW_in (List.mem_append_right _ (List.mem_append_left _ (List.mem_of_getElem? (i := 142) rfl))) rfl
set_option maxRecDepth 20000 in
theorem q86 : Cond.instanceMethod yX2_hasNothing ∈ gW := gW_in (List.mem_append_right _ (List.mem_append_left _ (List.mem_of_getElem? (i := 143) rfl))) rfl
set_option maxRecDepth 20000 in
theorem q87 : Cond.selects RX2 yX2_hasNothing yX2_hasNothing ∈ gW := gW_in (List.mem_append_right _ (List.mem_append_left _ (List.mem_of_getElem? (i := 144) rfl))) rfl
set_option maxRecDepth 20000 in
theorem q88 : Cond.code yX2_hasNothing cX2_hasNothing 1 (some .boolean) ∈ gW := gW_in (List.mem_append_right _ (List.mem_append_left _ (List.mem_of_getElem? (i := 145) rfl))) rfl
set_option maxRecDepth 20000 in
theorem q89 : Cond.methodLink RX2 45 yX2_hasCells ∈ gW := gW_in (List.mem_append_right _ (List.mem_append_left _ (List.mem_of_getElem? (i := 146) rfl))) rfl
set_option maxRecDepth 20000 in
theorem q90 : Cond.instanceMethod yX2_hasCells ∈ gW := gW_in (List.mem_append_right _ (List.mem_append_left _ (List.mem_of_getElem? (i := 147) rfl))) rfl
set_option maxRecDepth 20000 in
theorem q91 : Cond.selects RX2 yX2_hasCells yX2_hasCells ∈ gW := gW_in (List.mem_append_right _ (List.mem_append_left _ (List.mem_of_getElem? (i := 148) rfl))) rfl
set_option maxRecDepth 20000 in
theorem q92 : Cond.code yX2_hasCells cX2_hasCells 3 (some .boolean) ∈ gW := gW_in (List.mem_append_right _ (List.mem_append_left _ (List.mem_of_getElem? (i := 149) rfl))) rfl
set_option maxRecDepth 20000 in
theorem q93 : Cond.fieldLink RX2 28 "NestedDolls$Sheet" "size" "I" ∈ gW := gW_in (List.mem_append_right _ (List.mem_append_left _ (List.mem_of_getElem? (i := 83) rfl))) rfl
set_option maxRecDepth 20000 in
theorem q94 : Cond.methodLink RX5 58 yX5_come ∈ gW := gW_in (List.mem_append_right _ (List.mem_append_left _ (List.mem_of_getElem? (i := 150) rfl))) rfl
set_option maxRecDepth 20000 in
theorem q95 : Cond.instanceMethod yX5_come ∈ gW := gW_in (List.mem_append_right _ (List.mem_append_left _ (List.mem_of_getElem? (i := 152) rfl))) rfl
set_option maxRecDepth 20000 in
theorem q96 : Cond.selects RX5 yX5_come yX5_come ∈ gW := gW_in (List.mem_append_left _ (List.mem_of_getElem? (i := 0) rfl)) rfl
set_option maxRecDepth 20000 in
theorem q97 : Cond.code yX5_come cX5_come 2 (some .int) ∈ gW := gW_in (List.mem_append_right _ (List.mem_append_left _ (List.mem_of_getElem? (i := 153) rfl))) rfl
set_option maxRecDepth 20000 in
theorem q98 : Cond.methodLink RX5 62 yX4_firstFault ∈ gW := gW_in (List.mem_append_right _ (List.mem_append_left _ (List.mem_of_getElem? (i := 154) rfl))) rfl
set_option maxRecDepth 20000 in
theorem q99 : Cond.static yX4_firstFault ∈ gW := gW_in (List.mem_append_right _ (List.mem_append_left _ (List.mem_of_getElem? (i := 155) rfl))) rfl
set_option maxRecDepth 20000 in
theorem q100 : Cond.initialized RX4 ∈ gW := gW_in (List.mem_append_right _ (List.mem_append_left _ (List.mem_of_getElem? (i := 6) rfl))) rfl
set_option maxRecDepth 20000 in
theorem q101 : Cond.code yX4_firstFault cX4_firstFault 4 (some .int) ∈ gW := gW_in (List.mem_append_right _ (List.mem_append_left _ (List.mem_of_getElem? (i := 156) rfl))) rfl
set_option maxRecDepth 20000 in
theorem q102 : Cond.methodLink RX4 11 yX2_at ∈ gW := gW_in (List.mem_append_right _ (List.mem_append_left _ (List.mem_of_getElem? (i := 157) rfl))) rfl
set_option maxRecDepth 20000 in
theorem q103 : Cond.instanceMethod yX2_at ∈ gW := gW_in (List.mem_append_right _ (List.mem_append_left _ (List.mem_of_getElem? (i := 158) rfl))) rfl
set_option maxRecDepth 20000 in
theorem q104 : Cond.selects RX2 yX2_at yX2_at ∈ gW := gW_in (List.mem_append_right _ (List.mem_append_left _ (List.mem_of_getElem? (i := 159) rfl))) rfl
set_option maxRecDepth 20000 in
theorem q105 : Cond.code yX2_at cX2_at 2 (some .int) ∈ gW := gW_in (List.mem_append_right _ (List.mem_append_left _ (List.mem_of_getElem? (i := 160) rfl))) rfl
set_option maxRecDepth 20000 in
theorem q106 : Cond.methodLink RX4 17 yX4_goesOn ∈ gW := gW_in (List.mem_append_right _ (List.mem_append_left _ (List.mem_of_getElem? (i := 161) rfl))) rfl
set_option maxRecDepth 20000 in
theorem q107 : Cond.static yX4_goesOn ∈ gW := gW_in (List.mem_append_right _ (List.mem_append_left _ (List.mem_of_getElem? (i := 162) rfl))) rfl
set_option maxRecDepth 20000 in
theorem q108 : Cond.code yX4_goesOn cX4_goesOn 3 (some .boolean) ∈ gW := gW_in (List.mem_append_right _ (List.mem_append_left _ (List.mem_of_getElem? (i := 163) rfl))) rfl
set_option maxRecDepth 20000 in
theorem q109 : Cond.methodLink RX4 21 yX4_kindOf ∈ gW := gW_in (List.mem_append_right _ (List.mem_append_left _ (List.mem_of_getElem? (i := 164) rfl))) rfl
set_option maxRecDepth 20000 in
theorem q110 : Cond.static yX4_kindOf ∈ gW := gW_in (List.mem_append_right _ (List.mem_append_left _ (List.mem_of_getElem? (i := 165) rfl))) rfl
set_option maxRecDepth 20000 in
theorem q111 : Cond.code yX4_kindOf cX4_kindOf 1 (some .int) ∈ gW := gW_in (List.mem_append_right _ (List.mem_append_left _ (List.mem_of_getElem? (i := 166) rfl))) rfl
set_option maxRecDepth 20000 in
theorem q112 : Cond.methodLink RX5 68 yX5_take ∈ gW := gW_in (List.mem_append_right _ (List.mem_append_left _ (List.mem_of_getElem? (i := 167) rfl))) rfl
set_option maxRecDepth 20000 in
theorem q113 : Cond.instanceMethod yX5_take ∈ gW := gW_in (List.mem_append_right _ (List.mem_append_left _ (List.mem_of_getElem? (i := 169) rfl))) rfl
set_option maxRecDepth 20000 in
theorem q114 : Cond.selects RX5 yX5_take yX5_take ∈ gW := gW_in (List.mem_append_left _ (List.mem_of_getElem? (i := 1) rfl)) rfl
set_option maxRecDepth 20000 in
theorem q115 : Cond.code yX5_take cX5_take 5 none ∈ gW := gW_in (List.mem_append_right _ (List.mem_append_left _ (List.mem_of_getElem? (i := 170) rfl))) rfl
set_option maxRecDepth 20000 in
theorem q116 : Cond.fieldLink RX5 84 "NestedDolls" "stand" "I" ∈ gW := gW_in (List.mem_append_right _ (List.mem_append_left _ (List.mem_of_getElem? (i := 98) rfl))) rfl
set_option maxRecDepth 20000 in
theorem q117 : Cond.fieldLink RX5 87 "NestedDolls" "acts" "I" ∈ gW := gW_in (List.mem_append_right _ (List.mem_append_left _ (List.mem_of_getElem? (i := 99) rfl))) rfl
set_option maxRecDepth 20000 in
theorem q118 : Cond.fieldLink RX5 90 "NestedDolls" "readings" "I" ∈ gW := gW_in (List.mem_append_right _ (List.mem_append_left _ (List.mem_of_getElem? (i := 100) rfl))) rfl
set_option maxRecDepth 20000 in
theorem q119 : Cond.methodLink RX5 75 yX4_dollsIn ∈ gW := gW_in (List.mem_append_right _ (List.mem_append_left _ (List.mem_of_getElem? (i := 171) rfl))) rfl
set_option maxRecDepth 20000 in
theorem q120 : Cond.static yX4_dollsIn ∈ gW := gW_in (List.mem_append_right _ (List.mem_append_left _ (List.mem_of_getElem? (i := 172) rfl))) rfl
set_option maxRecDepth 20000 in
theorem q121 : Cond.code yX4_dollsIn cX4_dollsIn 1 (some .int) ∈ gW := gW_in (List.mem_append_right _ (List.mem_append_left _ (List.mem_of_getElem? (i := 173) rfl))) rfl
set_option maxRecDepth 20000 in
theorem q122 : Cond.methodLink RX4 24 Lib.Math.min.name ∈ gW := gW_in (List.mem_append_right _ (List.mem_append_left _ (List.mem_of_getElem? (i := 174) rfl))) rfl
set_option maxRecDepth 20000 in
theorem q123 : Cond.static Lib.Math.min.name ∈ gW := gW_in (List.mem_append_right _ (List.mem_append_left _ (List.mem_of_getElem? (i := 175) rfl))) rfl
set_option maxRecDepth 20000 in
theorem q124 : Cond.initialized "java/lang/Math" ∈ gW := gW_in (List.mem_append_right _ (List.mem_append_left _ (List.mem_of_getElem? (i := 7) rfl))) rfl
set_option maxRecDepth 20000 in
theorem q125 : Cond.code Lib.Math.min.name Lib.Math.min.code 2 (some .int) ∈ gW := gW_in (List.mem_append_right _ (List.mem_append_left _ (List.mem_of_getElem? (i := 176) rfl))) rfl
set_option maxRecDepth 20000 in
theorem q126 : Cond.methodLink RX5 78 yX4_tellDoll ∈ gW := gW_in (List.mem_append_right _ (List.mem_append_left _ (List.mem_of_getElem? (i := 177) rfl))) rfl
set_option maxRecDepth 20000 in
theorem q127 : Cond.static yX4_tellDoll ∈ gW := gW_in (List.mem_append_right _ (List.mem_append_left _ (List.mem_of_getElem? (i := 178) rfl))) rfl
set_option maxRecDepth 20000 in
theorem q128 : Cond.code yX4_tellDoll cX4_tellDoll 5 none ∈ gW := gW_in (List.mem_append_right _ (List.mem_append_left _ (List.mem_of_getElem? (i := 179) rfl))) rfl
set_option maxRecDepth 20000 in
theorem q129 : Cond.fieldLink RX4 30 "NestedDolls$Doll" "kind" "I" ∈ gW := gW_in (List.mem_append_right _ (List.mem_append_left _ (List.mem_of_getElem? (i := 62) rfl))) rfl
set_option maxRecDepth 20000 in
theorem q130 : Cond.fieldLink RX4 36 "NestedDolls$Doll" "girth" "I" ∈ gW := gW_in (List.mem_append_right _ (List.mem_append_left _ (List.mem_of_getElem? (i := 65) rfl))) rfl
set_option maxRecDepth 20000 in
theorem q131 : Cond.fieldLink RX4 39 "NestedDolls$Doll" "room" "I" ∈ gW := gW_in (List.mem_append_right _ (List.mem_append_left _ (List.mem_of_getElem? (i := 68) rfl))) rfl
set_option maxRecDepth 20000 in
theorem q132 : Cond.methodLink RL 17 yX6_dolls ∈ gW := gW_in (List.mem_append_right _ (List.mem_append_right _ (List.mem_append_right _ (List.mem_append_left _ (List.mem_of_getElem? (i := 146) rfl))))) rfl
set_option maxRecDepth 20000 in
theorem q133 : Cond.instanceMethod yX6_dolls ∈ gW := gW_in (List.mem_append_right _ (List.mem_append_right _ (List.mem_append_right _ (List.mem_append_left _ (List.mem_of_getElem? (i := 147) rfl))))) rfl
set_option maxRecDepth 20000 in
theorem q134 : Cond.selects RX6 yX6_dolls yX6_dolls ∈ gW := gW_in (List.mem_append_right _ (List.mem_append_right _ (List.mem_append_right _ (List.mem_append_left _ (List.mem_of_getElem? (i := 148) rfl))))) rfl
set_option maxRecDepth 20000 in
theorem q135 : Cond.code yX6_dolls cX6_dolls 8 (some .int) ∈ gW := gW_in (List.mem_append_right _ (List.mem_append_right _ (List.mem_append_right _ (List.mem_append_left _ (List.mem_of_getElem? (i := 149) rfl))))) rfl
set_option maxRecDepth 20000 in
theorem q136 : Cond.fieldLink RX6 65 "NestedDollsModel" "fault" "I" ∈ gW := gW_in (List.mem_append_right _ (List.mem_append_right _ (List.mem_append_right _ (List.mem_append_left _ (List.mem_of_getElem? (i := 64) rfl))))) rfl
set_option maxRecDepth 20000 in
theorem q137 : Cond.fieldLink RX6 82 "NestedDollsModel" "at" "I" ∈ gW := gW_in (List.mem_append_right _ (List.mem_append_right _ (List.mem_append_right _ (List.mem_append_left _ (List.mem_of_getElem? (i := 76) rfl))))) rfl
set_option maxRecDepth 20000 in
theorem q138 : Cond.fieldLink RX6 102 "NestedDollsModel" "readDolls" "I" ∈ gW := gW_in (List.mem_append_right _ (List.mem_append_right _ (List.mem_append_right _ (List.mem_append_left _ (List.mem_of_getElem? (i := 77) rfl))))) rfl
set_option maxRecDepth 20000 in
theorem q139 : Cond.fieldLink RX6 75 "NestedDollsModel" "dolls" "I" ∈ gW := gW_in (List.mem_append_right _ (List.mem_append_right _ (List.mem_append_right _ (List.mem_append_left _ (List.mem_of_getElem? (i := 69) rfl))))) rfl
set_option maxRecDepth 20000 in
theorem q140 : Cond.fieldLink RX6 105 "NestedDollsModel" "open" "I" ∈ gW := gW_in (List.mem_append_right _ (List.mem_append_right _ (List.mem_append_right _ (List.mem_append_left _ (List.mem_of_getElem? (i := 75) rfl))))) rfl
set_option maxRecDepth 20000 in
theorem q141 : Cond.fieldLink RX6 108 "NestedDollsModel" "done" "I" ∈ gW := gW_in (List.mem_append_right _ (List.mem_append_right _ (List.mem_append_right _ (List.mem_append_left _ (List.mem_of_getElem? (i := 70) rfl))))) rfl
set_option maxRecDepth 20000 in
theorem q142 : Cond.fieldLink RX6 111 "NestedDollsModel" "readings" "I" ∈ gW := gW_in (List.mem_append_right _ (List.mem_append_right _ (List.mem_append_right _ (List.mem_append_left _ (List.mem_of_getElem? (i := 87) rfl))))) rfl
set_option maxRecDepth 20000 in
theorem q143 : Cond.methodLink RX6 85 yX6_isSheet ∈ gW := gW_in (List.mem_append_right _ (List.mem_append_right _ (List.mem_append_right _ (List.mem_append_left _ (List.mem_of_getElem? (i := 150) rfl))))) rfl
set_option maxRecDepth 20000 in
theorem q144 : Cond.static yX6_isSheet ∈ gW := gW_in (List.mem_append_right _ (List.mem_append_right _ (List.mem_append_right _ (List.mem_append_left _ (List.mem_of_getElem? (i := 151) rfl))))) rfl
set_option maxRecDepth 20000 in
theorem q145 : Cond.code yX6_isSheet cX6_isSheet 1 (some .boolean) ∈ gW := gW_in (List.mem_append_right _ (List.mem_append_right _ (List.mem_append_right _ (List.mem_append_left _ (List.mem_of_getElem? (i := 152) rfl))))) rfl
set_option maxRecDepth 20000 in
theorem q146 : Cond.methodLink RX6 71 yX6_within ∈ gW := gW_in (List.mem_append_right _ (List.mem_append_right _ (List.mem_append_right _ (List.mem_append_left _ (List.mem_of_getElem? (i := 153) rfl))))) rfl
set_option maxRecDepth 20000 in
theorem q147 : Cond.static yX6_within ∈ gW := gW_in (List.mem_append_right _ (List.mem_append_right _ (List.mem_append_right _ (List.mem_append_left _ (List.mem_of_getElem? (i := 154) rfl))))) rfl
set_option maxRecDepth 20000 in
theorem q148 : Cond.code yX6_within cX6_within 3 (some .boolean) ∈ gW := gW_in (List.mem_append_right _ (List.mem_append_right _ (List.mem_append_right _ (List.mem_append_left _ (List.mem_of_getElem? (i := 155) rfl))))) rfl
set_option maxRecDepth 20000 in
theorem q149 : Cond.methodLink RX6 88 yX6_isSort ∈ gW := gW_in (List.mem_append_right _ (List.mem_append_right _ (List.mem_append_right _ (List.mem_append_left _ (List.mem_of_getElem? (i := 156) rfl))))) rfl
set_option maxRecDepth 20000 in
theorem q150 : Cond.static yX6_isSort ∈ gW := gW_in (List.mem_append_right _ (List.mem_append_right _ (List.mem_append_right _ (List.mem_append_left _ (List.mem_of_getElem? (i := 157) rfl))))) rfl
set_option maxRecDepth 20000 in
theorem q151 : Cond.code yX6_isSort cX6_isSort 1 (some .boolean) ∈ gW := gW_in (List.mem_append_right _ (List.mem_append_right _ (List.mem_append_right _ (List.mem_append_left _ (List.mem_of_getElem? (i := 158) rfl))))) rfl
set_option maxRecDepth 20000 in
theorem q152 : Cond.methodLink RX6 91 yX6_against ∈ gW := gW_in (List.mem_append_right _ (List.mem_append_right _ (List.mem_append_right _ (List.mem_append_left _ (List.mem_of_getElem? (i := 159) rfl))))) rfl
set_option maxRecDepth 20000 in
theorem q153 : Cond.instanceMethod yX6_against ∈ gW := gW_in (List.mem_append_right _ (List.mem_append_right _ (List.mem_append_right _ (List.mem_append_left _ (List.mem_of_getElem? (i := 161) rfl))))) rfl
set_option maxRecDepth 20000 in
theorem q154 : Cond.selects RX6 yX6_against yX6_against ∈ gW := gW_in (List.mem_append_left _ (List.mem_of_getElem? (i := 21) rfl)) rfl
set_option maxRecDepth 20000 in
theorem q155 : Cond.code yX6_against cX6_against 5 (some .int) ∈ gW := gW_in (List.mem_append_right _ (List.mem_append_right _ (List.mem_append_right _ (List.mem_append_left _ (List.mem_of_getElem? (i := 162) rfl))))) rfl
set_option maxRecDepth 20000 in
theorem q156 : Cond.methodLink RX6 95 yX6_fails ∈ gW := gW_in (List.mem_append_right _ (List.mem_append_right _ (List.mem_append_right _ (List.mem_append_left _ (List.mem_of_getElem? (i := 163) rfl))))) rfl
set_option maxRecDepth 20000 in
theorem q157 : Cond.instanceMethod yX6_fails ∈ gW := gW_in (List.mem_append_right _ (List.mem_append_right _ (List.mem_append_right _ (List.mem_append_left _ (List.mem_of_getElem? (i := 165) rfl))))) rfl
set_option maxRecDepth 20000 in
theorem q158 : Cond.selects RX6 yX6_fails yX6_fails ∈ gW := gW_in (List.mem_append_left _ (List.mem_of_getElem? (i := 22) rfl)) rfl
set_option maxRecDepth 20000 in
theorem q159 : Cond.code yX6_fails cX6_fails 2 (some .int) ∈ gW := gW_in (List.mem_append_right _ (List.mem_append_right _ (List.mem_append_right _ (List.mem_append_left _ (List.mem_of_getElem? (i := 166) rfl))))) rfl
set_option maxRecDepth 20000 in
theorem q160 : Cond.methodLink RX6 99 yX6_readAll ∈ gW := gW_in (List.mem_append_right _ (List.mem_append_right _ (List.mem_append_right _ (List.mem_append_left _ (List.mem_of_getElem? (i := 167) rfl))))) rfl
set_option maxRecDepth 20000 in
theorem q161 : Cond.instanceMethod yX6_readAll ∈ gW := gW_in (List.mem_append_right _ (List.mem_append_right _ (List.mem_append_right _ (List.mem_append_left _ (List.mem_of_getElem? (i := 169) rfl))))) rfl
set_option maxRecDepth 20000 in
theorem q162 : Cond.selects RX6 yX6_readAll yX6_readAll ∈ gW := gW_in (List.mem_append_left _ (List.mem_of_getElem? (i := 23) rfl)) rfl
set_option maxRecDepth 20000 in
theorem q163 : Cond.code yX6_readAll cX6_readAll 2 (some .boolean) ∈ gW := gW_in (List.mem_append_right _ (List.mem_append_right _ (List.mem_append_right _ (List.mem_append_left _ (List.mem_of_getElem? (i := 170) rfl))))) rfl
set_option maxRecDepth 20000 in
theorem q164 : Cond.methodLink RX6 114 yX6_isSign ∈ gW := gW_in (List.mem_append_right _ (List.mem_append_right _ (List.mem_append_right _ (List.mem_append_left _ (List.mem_of_getElem? (i := 171) rfl))))) rfl
set_option maxRecDepth 20000 in
theorem q165 : Cond.instanceMethod yX6_isSign ∈ gW := gW_in (List.mem_append_right _ (List.mem_append_right _ (List.mem_append_right _ (List.mem_append_left _ (List.mem_of_getElem? (i := 173) rfl))))) rfl
set_option maxRecDepth 20000 in
theorem q166 : Cond.selects RX6 yX6_isSign yX6_isSign ∈ gW := gW_in (List.mem_append_left _ (List.mem_of_getElem? (i := 24) rfl)) rfl
set_option maxRecDepth 20000 in
theorem q167 : Cond.code yX6_isSign cX6_isSign 3 (some .boolean) ∈ gW := gW_in (List.mem_append_right _ (List.mem_append_right _ (List.mem_append_right _ (List.mem_append_left _ (List.mem_of_getElem? (i := 174) rfl))))) rfl
set_option maxRecDepth 20000 in
theorem q168 : Cond.methodLink RX6 118 yX6_readDoll ∈ gW := gW_in (List.mem_append_right _ (List.mem_append_right _ (List.mem_append_right _ (List.mem_append_left _ (List.mem_of_getElem? (i := 175) rfl))))) rfl
set_option maxRecDepth 20000 in
theorem q169 : Cond.instanceMethod yX6_readDoll ∈ gW := gW_in (List.mem_append_right _ (List.mem_append_right _ (List.mem_append_right _ (List.mem_append_left _ (List.mem_of_getElem? (i := 177) rfl))))) rfl
set_option maxRecDepth 20000 in
theorem q170 : Cond.selects RX6 yX6_readDoll yX6_readDoll ∈ gW := gW_in (List.mem_append_left _ (List.mem_of_getElem? (i := 25) rfl)) rfl
set_option maxRecDepth 20000 in
theorem q171 : Cond.code yX6_readDoll cX6_readDoll 4 (some .boolean) ∈ gW := gW_in (List.mem_append_right _ (List.mem_append_right _ (List.mem_append_right _ (List.mem_append_left _ (List.mem_of_getElem? (i := 178) rfl))))) rfl
set_option maxRecDepth 20000 in
theorem q172 : Cond.methodLink RX6 121 yX6_digit ∈ gW := gW_in (List.mem_append_right _ (List.mem_append_right _ (List.mem_append_right _ (List.mem_append_left _ (List.mem_of_getElem? (i := 179) rfl))))) rfl
set_option maxRecDepth 20000 in
theorem q173 : Cond.instanceMethod yX6_digit ∈ gW := gW_in (List.mem_append_right _ (List.mem_append_right _ (List.mem_append_right _ (List.mem_append_left _ (List.mem_of_getElem? (i := 181) rfl))))) rfl
set_option maxRecDepth 20000 in
theorem q174 : Cond.selects RX6 yX6_digit yX6_digit ∈ gW := gW_in (List.mem_append_left _ (List.mem_of_getElem? (i := 26) rfl)) rfl
set_option maxRecDepth 20000 in
theorem q175 : Cond.code yX6_digit cX6_digit 4 (some .int) ∈ gW := gW_in (List.mem_append_right _ (List.mem_append_right _ (List.mem_append_right _ (List.mem_append_left _ (List.mem_of_getElem? (i := 182) rfl))))) rfl
set_option maxRecDepth 20000 in
theorem q176 : Cond.methodLink RL 18 yX5_ofDoll ∈ gW := gW_in (List.mem_append_right _ (List.mem_append_left _ (List.mem_of_getElem? (i := 180) rfl))) rfl
set_option maxRecDepth 20000 in
theorem q177 : Cond.instanceMethod yX5_ofDoll ∈ gW := gW_in (List.mem_append_right _ (List.mem_append_left _ (List.mem_of_getElem? (i := 181) rfl))) rfl
set_option maxRecDepth 20000 in
theorem q178 : Cond.selects RX5 yX5_ofDoll yX5_ofDoll ∈ gW := gW_in (List.mem_append_right _ (List.mem_append_left _ (List.mem_of_getElem? (i := 182) rfl))) rfl
set_option maxRecDepth 20000 in
theorem q179 : Cond.code yX5_ofDoll cX5_ofDoll 3 (some .int) ∈ gW := gW_in (List.mem_append_right _ (List.mem_append_left _ (List.mem_of_getElem? (i := 183) rfl))) rfl
set_option maxRecDepth 20000 in
theorem q180 : Cond.fieldLink RX5 96 "NestedDolls$Doll" "kind" "I" ∈ gW := gW_in (List.mem_append_right _ (List.mem_append_left _ (List.mem_of_getElem? (i := 61) rfl))) rfl
set_option maxRecDepth 20000 in
theorem q181 : Cond.fieldLink RX5 99 "NestedDolls$Doll" "girth" "I" ∈ gW := gW_in (List.mem_append_right _ (List.mem_append_left _ (List.mem_of_getElem? (i := 64) rfl))) rfl
set_option maxRecDepth 20000 in
theorem q182 : Cond.fieldLink RX5 102 "NestedDolls$Doll" "room" "I" ∈ gW := gW_in (List.mem_append_right _ (List.mem_append_left _ (List.mem_of_getElem? (i := 67) rfl))) rfl
set_option maxRecDepth 20000 in
theorem q183 : Cond.methodLink RX5 93 yX5_isDoll ∈ gW := gW_in (List.mem_append_right _ (List.mem_append_left _ (List.mem_of_getElem? (i := 184) rfl))) rfl
set_option maxRecDepth 20000 in
theorem q184 : Cond.instanceMethod yX5_isDoll ∈ gW := gW_in (List.mem_append_right _ (List.mem_append_left _ (List.mem_of_getElem? (i := 186) rfl))) rfl
set_option maxRecDepth 20000 in
theorem q185 : Cond.selects RX5 yX5_isDoll yX5_isDoll ∈ gW := gW_in (List.mem_append_left _ (List.mem_of_getElem? (i := 2) rfl)) rfl
set_option maxRecDepth 20000 in
theorem q186 : Cond.code yX5_isDoll cX5_isDoll 2 (some .boolean) ∈ gW := gW_in (List.mem_append_right _ (List.mem_append_left _ (List.mem_of_getElem? (i := 187) rfl))) rfl
set_option maxRecDepth 20000 in
theorem q187 : Cond.methodLink RX5 105 yX0_wide ∈ gW := gW_in (List.mem_append_right _ (List.mem_append_left _ (List.mem_of_getElem? (i := 188) rfl))) rfl
set_option maxRecDepth 20000 in
theorem q188 : Cond.instanceMethod yX0_wide ∈ gW := gW_in (List.mem_append_right _ (List.mem_append_left _ (List.mem_of_getElem? (i := 189) rfl))) rfl
set_option maxRecDepth 20000 in
theorem q189 : Cond.selects RX0 yX0_wide yX0_wide ∈ gW := gW_in (List.mem_append_right _ (List.mem_append_left _ (List.mem_of_getElem? (i := 190) rfl))) rfl
set_option maxRecDepth 20000 in
theorem q190 : Cond.code yX0_wide cX0_wide 1 (some .int) ∈ gW := gW_in (List.mem_append_right _ (List.mem_append_left _ (List.mem_of_getElem? (i := 191) rfl))) rfl
set_option maxRecDepth 20000 in
theorem q191 : Cond.fieldLink RX0 15 "NestedDolls$Doll" "kind" "I" ∈ gW := gW_in (List.mem_append_right _ (List.mem_append_left _ (List.mem_of_getElem? (i := 60) rfl))) rfl
set_option maxRecDepth 20000 in
theorem q192 : Cond.methodLink RX5 109 yX3_placeOf ∈ gW := gW_in (List.mem_append_right _ (List.mem_append_left _ (List.mem_of_getElem? (i := 192) rfl))) rfl
set_option maxRecDepth 20000 in
theorem q193 : Cond.static yX3_placeOf ∈ gW := gW_in (List.mem_append_right _ (List.mem_append_left _ (List.mem_of_getElem? (i := 193) rfl))) rfl
set_option maxRecDepth 20000 in
theorem q194 : Cond.initialized RX3 ∈ gW := gW_in (List.mem_append_right _ (List.mem_append_left _ (List.mem_of_getElem? (i := 8) rfl))) rfl
set_option maxRecDepth 20000 in
theorem q195 : Cond.code yX3_placeOf cX3_placeOf 2 (some .int) ∈ gW := gW_in (List.mem_append_right _ (List.mem_append_left _ (List.mem_of_getElem? (i := 194) rfl))) rfl
set_option maxRecDepth 20000 in
theorem q196 : Cond.methodLink RX5 113 yX3_isOpen ∈ gW := gW_in (List.mem_append_right _ (List.mem_append_left _ (List.mem_of_getElem? (i := 195) rfl))) rfl
set_option maxRecDepth 20000 in
theorem q197 : Cond.static yX3_isOpen ∈ gW := gW_in (List.mem_append_right _ (List.mem_append_left _ (List.mem_of_getElem? (i := 196) rfl))) rfl
set_option maxRecDepth 20000 in
theorem q198 : Cond.code yX3_isOpen cX3_isOpen 2 (some .boolean) ∈ gW := gW_in (List.mem_append_right _ (List.mem_append_left _ (List.mem_of_getElem? (i := 197) rfl))) rfl
set_option maxRecDepth 20000 in
theorem q199 : Cond.methodLink RX3 11 yX3_openSet ∈ gW := gW_in (List.mem_append_right _ (List.mem_append_left _ (List.mem_of_getElem? (i := 198) rfl))) rfl
set_option maxRecDepth 20000 in
theorem q200 : Cond.static yX3_openSet ∈ gW := gW_in (List.mem_append_right _ (List.mem_append_left _ (List.mem_of_getElem? (i := 199) rfl))) rfl
set_option maxRecDepth 20000 in
theorem q201 : Cond.code yX3_openSet cX3_openSet 1 (some .int) ∈ gW := gW_in (List.mem_append_right _ (List.mem_append_left _ (List.mem_of_getElem? (i := 200) rfl))) rfl
set_option maxRecDepth 20000 in
theorem q202 : Cond.static yX5_has ∈ gW := gW_in (List.mem_append_right _ (List.mem_append_left _ (List.mem_of_getElem? (i := 202) rfl))) rfl
set_option maxRecDepth 20000 in
theorem q203 : Cond.code yX5_has cX5_has 2 (some .boolean) ∈ gW := gW_in (List.mem_append_right _ (List.mem_append_left _ (List.mem_of_getElem? (i := 203) rfl))) rfl
set_option maxRecDepth 20000 in
theorem q204 : Cond.methodLink RX5 117 yX5_oneIf ∈ gW := gW_in (List.mem_append_right _ (List.mem_append_left _ (List.mem_of_getElem? (i := 204) rfl))) rfl
set_option maxRecDepth 20000 in
theorem q205 : Cond.static yX5_oneIf ∈ gW := gW_in (List.mem_append_right _ (List.mem_append_left _ (List.mem_of_getElem? (i := 205) rfl))) rfl
set_option maxRecDepth 20000 in
theorem q206 : Cond.code yX5_oneIf cX5_oneIf 1 (some .int) ∈ gW := gW_in (List.mem_append_right _ (List.mem_append_left _ (List.mem_of_getElem? (i := 206) rfl))) rfl
set_option maxRecDepth 20000 in
theorem q207 : Cond.methodLink RX5 121 yX3_handSet ∈ gW := gW_in (List.mem_append_right _ (List.mem_append_left _ (List.mem_of_getElem? (i := 207) rfl))) rfl
set_option maxRecDepth 20000 in
theorem q208 : Cond.static yX3_handSet ∈ gW := gW_in (List.mem_append_right _ (List.mem_append_left _ (List.mem_of_getElem? (i := 208) rfl))) rfl
set_option maxRecDepth 20000 in
theorem q209 : Cond.code yX3_handSet cX3_handSet 4 (some .int) ∈ gW := gW_in (List.mem_append_right _ (List.mem_append_left _ (List.mem_of_getElem? (i := 209) rfl))) rfl
set_option maxRecDepth 20000 in
theorem q210 : Cond.methodLink RX3 23 yX3_canBeGotAt ∈ gW := gW_in (List.mem_append_right _ (List.mem_append_left _ (List.mem_of_getElem? (i := 210) rfl))) rfl
set_option maxRecDepth 20000 in
theorem q211 : Cond.static yX3_canBeGotAt ∈ gW := gW_in (List.mem_append_right _ (List.mem_append_left _ (List.mem_of_getElem? (i := 211) rfl))) rfl
set_option maxRecDepth 20000 in
theorem q212 : Cond.code yX3_canBeGotAt cX3_canBeGotAt 5 (some .boolean) ∈ gW := gW_in (List.mem_append_right _ (List.mem_append_left _ (List.mem_of_getElem? (i := 212) rfl))) rfl
set_option maxRecDepth 20000 in
theorem q213 : Cond.methodLink RX3 19 yX3_placeOf ∈ gW := gW_in (List.mem_append_right _ (List.mem_append_left _ (List.mem_of_getElem? (i := 213) rfl))) rfl
set_option maxRecDepth 20000 in
theorem q214 : Cond.methodLink RX5 124 yX5_has ∈ gW := gW_in (List.mem_append_right _ (List.mem_append_left _ (List.mem_of_getElem? (i := 214) rfl))) rfl
set_option maxRecDepth 20000 in
theorem q215 : Cond.methodLink RX5 127 yX3_innerOf ∈ gW := gW_in (List.mem_append_right _ (List.mem_append_left _ (List.mem_of_getElem? (i := 215) rfl))) rfl
set_option maxRecDepth 20000 in
theorem q216 : Cond.static yX3_innerOf ∈ gW := gW_in (List.mem_append_right _ (List.mem_append_left _ (List.mem_of_getElem? (i := 216) rfl))) rfl
set_option maxRecDepth 20000 in
theorem q217 : Cond.code yX3_innerOf cX3_innerOf 4 (some .int) ∈ gW := gW_in (List.mem_append_right _ (List.mem_append_left _ (List.mem_of_getElem? (i := 217) rfl))) rfl
set_option maxRecDepth 20000 in
theorem q218 : Cond.methodLink RX5 130 yX3_manyWithin ∈ gW := gW_in (List.mem_append_right _ (List.mem_append_left _ (List.mem_of_getElem? (i := 218) rfl))) rfl
set_option maxRecDepth 20000 in
theorem q219 : Cond.static yX3_manyWithin ∈ gW := gW_in (List.mem_append_right _ (List.mem_append_left _ (List.mem_of_getElem? (i := 219) rfl))) rfl
set_option maxRecDepth 20000 in
theorem q220 : Cond.code yX3_manyWithin cX3_manyWithin 6 (some .int) ∈ gW := gW_in (List.mem_append_right _ (List.mem_append_left _ (List.mem_of_getElem? (i := 220) rfl))) rfl
set_option maxRecDepth 20000 in
theorem q221 : Cond.methodLink RX3 26 yX3_innerOf ∈ gW := gW_in (List.mem_append_right _ (List.mem_append_left _ (List.mem_of_getElem? (i := 221) rfl))) rfl
set_option maxRecDepth 20000 in
theorem q222 : Cond.methodLink RL 22 yX6_ofDoll ∈ gW := gW_in (List.mem_append_right _ (List.mem_append_right _ (List.mem_append_right _ (List.mem_append_left _ (List.mem_of_getElem? (i := 183) rfl))))) rfl
set_option maxRecDepth 20000 in
theorem q223 : Cond.instanceMethod yX6_ofDoll ∈ gW := gW_in (List.mem_append_right _ (List.mem_append_right _ (List.mem_append_right _ (List.mem_append_left _ (List.mem_of_getElem? (i := 184) rfl))))) rfl
set_option maxRecDepth 20000 in
theorem q224 : Cond.selects RX6 yX6_ofDoll yX6_ofDoll ∈ gW := gW_in (List.mem_append_right _ (List.mem_append_right _ (List.mem_append_right _ (List.mem_append_left _ (List.mem_of_getElem? (i := 185) rfl))))) rfl
set_option maxRecDepth 20000 in
theorem q225 : Cond.code yX6_ofDoll cX6_ofDoll 3 (some .int) ∈ gW := gW_in (List.mem_append_right _ (List.mem_append_right _ (List.mem_append_right _ (List.mem_append_left _ (List.mem_of_getElem? (i := 186) rfl))))) rfl
set_option maxRecDepth 20000 in
theorem q226 : Cond.methodLink RX6 78 yX6_isDoll ∈ gW := gW_in (List.mem_append_right _ (List.mem_append_right _ (List.mem_append_right _ (List.mem_append_left _ (List.mem_of_getElem? (i := 187) rfl))))) rfl
set_option maxRecDepth 20000 in
theorem q227 : Cond.instanceMethod yX6_isDoll ∈ gW := gW_in (List.mem_append_right _ (List.mem_append_right _ (List.mem_append_right _ (List.mem_append_left _ (List.mem_of_getElem? (i := 189) rfl))))) rfl
set_option maxRecDepth 20000 in
theorem q228 : Cond.selects RX6 yX6_isDoll yX6_isDoll ∈ gW := gW_in (List.mem_append_left _ (List.mem_of_getElem? (i := 27) rfl)) rfl
set_option maxRecDepth 20000 in
theorem q229 : Cond.code yX6_isDoll cX6_isDoll 2 (some .boolean) ∈ gW := gW_in (List.mem_append_right _ (List.mem_append_right _ (List.mem_append_right _ (List.mem_append_left _ (List.mem_of_getElem? (i := 190) rfl))))) rfl
set_option maxRecDepth 20000 in
theorem q230 : Cond.methodLink RX6 125 yX6_wideOf ∈ gW := gW_in (List.mem_append_right _ (List.mem_append_right _ (List.mem_append_right _ (List.mem_append_left _ (List.mem_of_getElem? (i := 191) rfl))))) rfl
set_option maxRecDepth 20000 in
theorem q231 : Cond.instanceMethod yX6_wideOf ∈ gW := gW_in (List.mem_append_right _ (List.mem_append_right _ (List.mem_append_right _ (List.mem_append_left _ (List.mem_of_getElem? (i := 193) rfl))))) rfl
set_option maxRecDepth 20000 in
theorem q232 : Cond.selects RX6 yX6_wideOf yX6_wideOf ∈ gW := gW_in (List.mem_append_left _ (List.mem_of_getElem? (i := 28) rfl)) rfl
set_option maxRecDepth 20000 in
theorem q233 : Cond.code yX6_wideOf cX6_wideOf 2 (some .int) ∈ gW := gW_in (List.mem_append_right _ (List.mem_append_right _ (List.mem_append_right _ (List.mem_append_left _ (List.mem_of_getElem? (i := 194) rfl))))) rfl
set_option maxRecDepth 20000 in
theorem q234 : Cond.methodLink RX6 134 yX6_isAtHand ∈ gW := gW_in (List.mem_append_right _ (List.mem_append_right _ (List.mem_append_right _ (List.mem_append_left _ (List.mem_of_getElem? (i := 195) rfl))))) rfl
set_option maxRecDepth 20000 in
theorem q235 : Cond.instanceMethod yX6_isAtHand ∈ gW := gW_in (List.mem_append_right _ (List.mem_append_right _ (List.mem_append_right _ (List.mem_append_left _ (List.mem_of_getElem? (i := 197) rfl))))) rfl
set_option maxRecDepth 20000 in
theorem q236 : Cond.selects RX6 yX6_isAtHand yX6_isAtHand ∈ gW := gW_in (List.mem_append_left _ (List.mem_of_getElem? (i := 29) rfl)) rfl
set_option maxRecDepth 20000 in
theorem q237 : Cond.code yX6_isAtHand cX6_isAtHand 4 (some .boolean) ∈ gW := gW_in (List.mem_append_right _ (List.mem_append_right _ (List.mem_append_right _ (List.mem_append_left _ (List.mem_of_getElem? (i := 198) rfl))))) rfl
set_option maxRecDepth 20000 in
theorem q238 : Cond.methodLink RX6 128 yX6_isOf ∈ gW := gW_in (List.mem_append_right _ (List.mem_append_right _ (List.mem_append_right _ (List.mem_append_left _ (List.mem_of_getElem? (i := 199) rfl))))) rfl
set_option maxRecDepth 20000 in
theorem q239 : Cond.static yX6_isOf ∈ gW := gW_in (List.mem_append_right _ (List.mem_append_right _ (List.mem_append_right _ (List.mem_append_left _ (List.mem_of_getElem? (i := 200) rfl))))) rfl
set_option maxRecDepth 20000 in
theorem q240 : Cond.code yX6_isOf cX6_isOf 2 (some .boolean) ∈ gW := gW_in (List.mem_append_right _ (List.mem_append_right _ (List.mem_append_right _ (List.mem_append_left _ (List.mem_of_getElem? (i := 201) rfl))))) rfl
set_option maxRecDepth 20000 in
theorem q241 : Cond.methodLink RX6 131 yX6_inOf ∈ gW := gW_in (List.mem_append_right _ (List.mem_append_right _ (List.mem_append_right _ (List.mem_append_left _ (List.mem_of_getElem? (i := 202) rfl))))) rfl
set_option maxRecDepth 20000 in
theorem q242 : Cond.instanceMethod yX6_inOf ∈ gW := gW_in (List.mem_append_right _ (List.mem_append_right _ (List.mem_append_right _ (List.mem_append_left _ (List.mem_of_getElem? (i := 204) rfl))))) rfl
set_option maxRecDepth 20000 in
theorem q243 : Cond.selects RX6 yX6_inOf yX6_inOf ∈ gW := gW_in (List.mem_append_left _ (List.mem_of_getElem? (i := 30) rfl)) rfl
set_option maxRecDepth 20000 in
theorem q244 : Cond.code yX6_inOf cX6_inOf 3 (some .int) ∈ gW := gW_in (List.mem_append_right _ (List.mem_append_right _ (List.mem_append_right _ (List.mem_append_left _ (List.mem_of_getElem? (i := 205) rfl))))) rfl
set_option maxRecDepth 20000 in
theorem q245 : Cond.methodLink RX6 137 yX6_manyWithin ∈ gW := gW_in (List.mem_append_right _ (List.mem_append_right _ (List.mem_append_right _ (List.mem_append_left _ (List.mem_of_getElem? (i := 206) rfl))))) rfl
set_option maxRecDepth 20000 in
theorem q246 : Cond.instanceMethod yX6_manyWithin ∈ gW := gW_in (List.mem_append_right _ (List.mem_append_right _ (List.mem_append_right _ (List.mem_append_left _ (List.mem_of_getElem? (i := 208) rfl))))) rfl
set_option maxRecDepth 20000 in
theorem q247 : Cond.selects RX6 yX6_manyWithin yX6_manyWithin ∈ gW := gW_in (List.mem_append_left _ (List.mem_of_getElem? (i := 31) rfl)) rfl
set_option maxRecDepth 20000 in
theorem q248 : Cond.code yX6_manyWithin cX6_manyWithin 4 (some .int) ∈ gW := gW_in (List.mem_append_right _ (List.mem_append_right _ (List.mem_append_right _ (List.mem_append_left _ (List.mem_of_getElem? (i := 209) rfl))))) rfl
set_option maxRecDepth 20000 in
theorem q249 : Cond.methodLink RL 23 yX5_girth ∈ gW := gW_in (List.mem_append_right _ (List.mem_append_left _ (List.mem_of_getElem? (i := 222) rfl))) rfl
set_option maxRecDepth 20000 in
theorem q250 : Cond.instanceMethod yX5_girth ∈ gW := gW_in (List.mem_append_right _ (List.mem_append_left _ (List.mem_of_getElem? (i := 223) rfl))) rfl
set_option maxRecDepth 20000 in
theorem q251 : Cond.selects RX5 yX5_girth yX5_girth ∈ gW := gW_in (List.mem_append_right _ (List.mem_append_left _ (List.mem_of_getElem? (i := 224) rfl))) rfl
set_option maxRecDepth 20000 in
theorem q252 : Cond.code yX5_girth cX5_girth 4 (some .int) ∈ gW := gW_in (List.mem_append_right _ (List.mem_append_left _ (List.mem_of_getElem? (i := 225) rfl))) rfl
set_option maxRecDepth 20000 in
theorem q253 : Cond.methodLink RL 26 yX6_girth ∈ gW := gW_in (List.mem_append_right _ (List.mem_append_right _ (List.mem_append_right _ (List.mem_append_left _ (List.mem_of_getElem? (i := 210) rfl))))) rfl
set_option maxRecDepth 20000 in
theorem q254 : Cond.instanceMethod yX6_girth ∈ gW := gW_in (List.mem_append_right _ (List.mem_append_right _ (List.mem_append_right _ (List.mem_append_left _ (List.mem_of_getElem? (i := 211) rfl))))) rfl
set_option maxRecDepth 20000 in
theorem q255 : Cond.selects RX6 yX6_girth yX6_girth ∈ gW := gW_in (List.mem_append_right _ (List.mem_append_right _ (List.mem_append_right _ (List.mem_append_left _ (List.mem_of_getElem? (i := 212) rfl))))) rfl
set_option maxRecDepth 20000 in
theorem q256 : Cond.code yX6_girth cX6_girth 4 (some .int) ∈ gW := gW_in (List.mem_append_right _ (List.mem_append_right _ (List.mem_append_right _ (List.mem_append_left _ (List.mem_of_getElem? (i := 213) rfl))))) rfl
set_option maxRecDepth 20000 in
theorem q257 : Cond.methodLink RL 27 yX5_room ∈ gW := gW_in (List.mem_append_right _ (List.mem_append_left _ (List.mem_of_getElem? (i := 226) rfl))) rfl
set_option maxRecDepth 20000 in
theorem q258 : Cond.instanceMethod yX5_room ∈ gW := gW_in (List.mem_append_right _ (List.mem_append_left _ (List.mem_of_getElem? (i := 227) rfl))) rfl
set_option maxRecDepth 20000 in
theorem q259 : Cond.selects RX5 yX5_room yX5_room ∈ gW := gW_in (List.mem_append_right _ (List.mem_append_left _ (List.mem_of_getElem? (i := 228) rfl))) rfl
set_option maxRecDepth 20000 in
theorem q260 : Cond.code yX5_room cX5_room 4 (some .int) ∈ gW := gW_in (List.mem_append_right _ (List.mem_append_left _ (List.mem_of_getElem? (i := 229) rfl))) rfl
set_option maxRecDepth 20000 in
theorem q261 : Cond.methodLink RL 30 yX6_room ∈ gW := gW_in (List.mem_append_right _ (List.mem_append_right _ (List.mem_append_right _ (List.mem_append_left _ (List.mem_of_getElem? (i := 214) rfl))))) rfl
set_option maxRecDepth 20000 in
theorem q262 : Cond.instanceMethod yX6_room ∈ gW := gW_in (List.mem_append_right _ (List.mem_append_right _ (List.mem_append_right _ (List.mem_append_left _ (List.mem_of_getElem? (i := 215) rfl))))) rfl
set_option maxRecDepth 20000 in
theorem q263 : Cond.selects RX6 yX6_room yX6_room ∈ gW := gW_in (List.mem_append_right _ (List.mem_append_right _ (List.mem_append_right _ (List.mem_append_left _ (List.mem_of_getElem? (i := 216) rfl))))) rfl
set_option maxRecDepth 20000 in
theorem q264 : Cond.code yX6_room cX6_room 4 (some .int) ∈ gW := gW_in (List.mem_append_right _ (List.mem_append_right _ (List.mem_append_right _ (List.mem_append_left _ (List.mem_of_getElem? (i := 217) rfl))))) rfl
set_option maxRecDepth 20000 in
theorem q265 : Cond.methodLink RL 31 yX5_fits ∈ gW := gW_in (List.mem_append_right _ (List.mem_append_left _ (List.mem_of_getElem? (i := 230) rfl))) rfl
set_option maxRecDepth 20000 in
theorem q266 : Cond.instanceMethod yX5_fits ∈ gW := gW_in (List.mem_append_right _ (List.mem_append_left _ (List.mem_of_getElem? (i := 231) rfl))) rfl
set_option maxRecDepth 20000 in
theorem q267 : Cond.selects RX5 yX5_fits yX5_fits ∈ gW := gW_in (List.mem_append_right _ (List.mem_append_left _ (List.mem_of_getElem? (i := 232) rfl))) rfl
set_option maxRecDepth 20000 in
theorem q268 : Cond.code yX5_fits cX5_fits 3 (some .int) ∈ gW := gW_in (List.mem_append_right _ (List.mem_append_left _ (List.mem_of_getElem? (i := 233) rfl))) rfl
set_option maxRecDepth 20000 in
theorem q269 : Cond.methodLink RX5 133 yX5_areTwo ∈ gW := gW_in (List.mem_append_right _ (List.mem_append_left _ (List.mem_of_getElem? (i := 234) rfl))) rfl
set_option maxRecDepth 20000 in
theorem q270 : Cond.instanceMethod yX5_areTwo ∈ gW := gW_in (List.mem_append_right _ (List.mem_append_left _ (List.mem_of_getElem? (i := 236) rfl))) rfl
set_option maxRecDepth 20000 in
theorem q271 : Cond.selects RX5 yX5_areTwo yX5_areTwo ∈ gW := gW_in (List.mem_append_left _ (List.mem_of_getElem? (i := 3) rfl)) rfl
set_option maxRecDepth 20000 in
theorem q272 : Cond.code yX5_areTwo cX5_areTwo 3 (some .boolean) ∈ gW := gW_in (List.mem_append_right _ (List.mem_append_left _ (List.mem_of_getElem? (i := 237) rfl))) rfl
set_option maxRecDepth 20000 in
theorem q273 : Cond.methodLink RX5 136 yX0_goesInto ∈ gW := gW_in (List.mem_append_right _ (List.mem_append_left _ (List.mem_of_getElem? (i := 238) rfl))) rfl
set_option maxRecDepth 20000 in
theorem q274 : Cond.instanceMethod yX0_goesInto ∈ gW := gW_in (List.mem_append_right _ (List.mem_append_left _ (List.mem_of_getElem? (i := 239) rfl))) rfl
set_option maxRecDepth 20000 in
theorem q275 : Cond.selects RX0 yX0_goesInto yX0_goesInto ∈ gW := gW_in (List.mem_append_right _ (List.mem_append_right _ (List.mem_append_left _ (List.mem_of_getElem? (i := 0) rfl)))) rfl
set_option maxRecDepth 20000 in
theorem q276 : Cond.code yX0_goesInto cX0_goesInto 2 (some .boolean) ∈ gW := gW_in (List.mem_append_right _ (List.mem_append_right _ (List.mem_append_left _ (List.mem_of_getElem? (i := 1) rfl)))) rfl
set_option maxRecDepth 20000 in
theorem q277 : Cond.fieldLink RX0 22 "NestedDolls$Doll" "room" "I" ∈ gW := gW_in (List.mem_append_right _ (List.mem_append_left _ (List.mem_of_getElem? (i := 66) rfl))) rfl
set_option maxRecDepth 20000 in
theorem q278 : Cond.methodLink RX0 18 yX0_wide ∈ gW := gW_in (List.mem_append_right _ (List.mem_append_right _ (List.mem_append_left _ (List.mem_of_getElem? (i := 2) rfl)))) rfl
set_option maxRecDepth 20000 in
theorem q279 : Cond.methodLink RL 34 yX6_fits ∈ gW := gW_in (List.mem_append_right _ (List.mem_append_right _ (List.mem_append_right _ (List.mem_append_left _ (List.mem_of_getElem? (i := 218) rfl))))) rfl
set_option maxRecDepth 20000 in
theorem q280 : Cond.instanceMethod yX6_fits ∈ gW := gW_in (List.mem_append_right _ (List.mem_append_right _ (List.mem_append_right _ (List.mem_append_left _ (List.mem_of_getElem? (i := 219) rfl))))) rfl
set_option maxRecDepth 20000 in
theorem q281 : Cond.selects RX6 yX6_fits yX6_fits ∈ gW := gW_in (List.mem_append_right _ (List.mem_append_right _ (List.mem_append_right _ (List.mem_append_left _ (List.mem_of_getElem? (i := 220) rfl))))) rfl
set_option maxRecDepth 20000 in
theorem q282 : Cond.code yX6_fits cX6_fits 3 (some .int) ∈ gW := gW_in (List.mem_append_right _ (List.mem_append_right _ (List.mem_append_right _ (List.mem_append_left _ (List.mem_of_getElem? (i := 221) rfl))))) rfl
set_option maxRecDepth 20000 in
theorem q283 : Cond.methodLink RX6 140 yX6_areTwo ∈ gW := gW_in (List.mem_append_right _ (List.mem_append_right _ (List.mem_append_right _ (List.mem_append_left _ (List.mem_of_getElem? (i := 222) rfl))))) rfl
set_option maxRecDepth 20000 in
theorem q284 : Cond.instanceMethod yX6_areTwo ∈ gW := gW_in (List.mem_append_right _ (List.mem_append_right _ (List.mem_append_right _ (List.mem_append_left _ (List.mem_of_getElem? (i := 224) rfl))))) rfl
set_option maxRecDepth 20000 in
theorem q285 : Cond.selects RX6 yX6_areTwo yX6_areTwo ∈ gW := gW_in (List.mem_append_left _ (List.mem_of_getElem? (i := 32) rfl)) rfl
set_option maxRecDepth 20000 in
theorem q286 : Cond.code yX6_areTwo cX6_areTwo 3 (some .boolean) ∈ gW := gW_in (List.mem_append_right _ (List.mem_append_right _ (List.mem_append_right _ (List.mem_append_left _ (List.mem_of_getElem? (i := 225) rfl))))) rfl
set_option maxRecDepth 20000 in
theorem q287 : Cond.methodLink RX6 143 yX6_fitsInto ∈ gW := gW_in (List.mem_append_right _ (List.mem_append_right _ (List.mem_append_right _ (List.mem_append_left _ (List.mem_of_getElem? (i := 226) rfl))))) rfl
set_option maxRecDepth 20000 in
theorem q288 : Cond.instanceMethod yX6_fitsInto ∈ gW := gW_in (List.mem_append_right _ (List.mem_append_right _ (List.mem_append_right _ (List.mem_append_left _ (List.mem_of_getElem? (i := 228) rfl))))) rfl
set_option maxRecDepth 20000 in
theorem q289 : Cond.selects RX6 yX6_fitsInto yX6_fitsInto ∈ gW := gW_in (List.mem_append_left _ (List.mem_of_getElem? (i := 33) rfl)) rfl
set_option maxRecDepth 20000 in
theorem q290 : Cond.code yX6_fitsInto cX6_fitsInto 3 (some .boolean) ∈ gW := gW_in (List.mem_append_right _ (List.mem_append_right _ (List.mem_append_right _ (List.mem_append_left _ (List.mem_of_getElem? (i := 229) rfl))))) rfl
set_option maxRecDepth 20000 in
theorem q291 : Cond.methodLink RL 35 yX5_act ∈ gW := gW_in (List.mem_append_right _ (List.mem_append_right _ (List.mem_append_left _ (List.mem_of_getElem? (i := 3) rfl)))) rfl
set_option maxRecDepth 20000 in
theorem q292 : Cond.instanceMethod yX5_act ∈ gW := gW_in (List.mem_append_right _ (List.mem_append_right _ (List.mem_append_left _ (List.mem_of_getElem? (i := 4) rfl)))) rfl
set_option maxRecDepth 20000 in
theorem q293 : Cond.selects RX5 yX5_act yX5_act ∈ gW := gW_in (List.mem_append_right _ (List.mem_append_right _ (List.mem_append_left _ (List.mem_of_getElem? (i := 5) rfl)))) rfl
set_option maxRecDepth 20000 in
theorem q294 : Cond.code yX5_act cX5_act 2 (some .int) ∈ gW := gW_in (List.mem_append_right _ (List.mem_append_right _ (List.mem_append_left _ (List.mem_of_getElem? (i := 6) rfl)))) rfl
set_option maxRecDepth 20000 in
theorem q295 : Cond.methodLink RX5 140 yX5_isAct ∈ gW := gW_in (List.mem_append_right _ (List.mem_append_right _ (List.mem_append_left _ (List.mem_of_getElem? (i := 7) rfl)))) rfl
set_option maxRecDepth 20000 in
theorem q296 : Cond.static yX5_isAct ∈ gW := gW_in (List.mem_append_right _ (List.mem_append_right _ (List.mem_append_left _ (List.mem_of_getElem? (i := 8) rfl)))) rfl
set_option maxRecDepth 20000 in
theorem q297 : Cond.code yX5_isAct cX5_isAct 1 (some .boolean) ∈ gW := gW_in (List.mem_append_right _ (List.mem_append_right _ (List.mem_append_left _ (List.mem_of_getElem? (i := 9) rfl)))) rfl
set_option maxRecDepth 20000 in
theorem q298 : Cond.methodLink RX5 143 yX5_doableAt ∈ gW := gW_in (List.mem_append_right _ (List.mem_append_right _ (List.mem_append_left _ (List.mem_of_getElem? (i := 10) rfl)))) rfl
set_option maxRecDepth 20000 in
theorem q299 : Cond.instanceMethod yX5_doableAt ∈ gW := gW_in (List.mem_append_right _ (List.mem_append_right _ (List.mem_append_left _ (List.mem_of_getElem? (i := 12) rfl)))) rfl
set_option maxRecDepth 20000 in
theorem q300 : Cond.selects RX5 yX5_doableAt yX5_doableAt ∈ gW := gW_in (List.mem_append_left _ (List.mem_of_getElem? (i := 4) rfl)) rfl
set_option maxRecDepth 20000 in
theorem q301 : Cond.code yX5_doableAt cX5_doableAt 2 (some .int) ∈ gW := gW_in (List.mem_append_right _ (List.mem_append_right _ (List.mem_append_left _ (List.mem_of_getElem? (i := 13) rfl)))) rfl
set_option maxRecDepth 20000 in
theorem q302 : Cond.methodLink RX5 177 yX5_fitting ∈ gW := gW_in (List.mem_append_right _ (List.mem_append_right _ (List.mem_append_left _ (List.mem_of_getElem? (i := 14) rfl)))) rfl
set_option maxRecDepth 20000 in
theorem q303 : Cond.instanceMethod yX5_fitting ∈ gW := gW_in (List.mem_append_right _ (List.mem_append_right _ (List.mem_append_left _ (List.mem_of_getElem? (i := 16) rfl)))) rfl
set_option maxRecDepth 20000 in
theorem q304 : Cond.selects RX5 yX5_fitting yX5_fitting ∈ gW := gW_in (List.mem_append_left _ (List.mem_of_getElem? (i := 5) rfl)) rfl
set_option maxRecDepth 20000 in
theorem q305 : Cond.code yX5_fitting cX5_fitting 4 (some .int) ∈ gW := gW_in (List.mem_append_right _ (List.mem_append_right _ (List.mem_append_left _ (List.mem_of_getElem? (i := 17) rfl)))) rfl
set_option maxRecDepth 20000 in
theorem q306 : Cond.methodLink RX5 180 yX3_doable ∈ gW := gW_in (List.mem_append_right _ (List.mem_append_right _ (List.mem_append_left _ (List.mem_of_getElem? (i := 18) rfl)))) rfl
set_option maxRecDepth 20000 in
theorem q307 : Cond.static yX3_doable ∈ gW := gW_in (List.mem_append_right _ (List.mem_append_right _ (List.mem_append_left _ (List.mem_of_getElem? (i := 19) rfl)))) rfl
set_option maxRecDepth 20000 in
theorem q308 : Cond.code yX3_doable cX3_doable 9 (some .int) ∈ gW := gW_in (List.mem_append_right _ (List.mem_append_right _ (List.mem_append_left _ (List.mem_of_getElem? (i := 20) rfl)))) rfl
set_option maxRecDepth 20000 in
theorem q309 : Cond.methodLink RX3 38 yX3_handSet ∈ gW := gW_in (List.mem_append_right _ (List.mem_append_right _ (List.mem_append_left _ (List.mem_of_getElem? (i := 21) rfl)))) rfl
set_option maxRecDepth 20000 in
theorem q310 : Cond.methodLink RX3 41 yX3_tableSet ∈ gW := gW_in (List.mem_append_right _ (List.mem_append_right _ (List.mem_append_left _ (List.mem_of_getElem? (i := 22) rfl)))) rfl
set_option maxRecDepth 20000 in
theorem q311 : Cond.static yX3_tableSet ∈ gW := gW_in (List.mem_append_right _ (List.mem_append_right _ (List.mem_append_left _ (List.mem_of_getElem? (i := 23) rfl)))) rfl
set_option maxRecDepth 20000 in
theorem q312 : Cond.code yX3_tableSet cX3_tableSet 4 (some .int) ∈ gW := gW_in (List.mem_append_right _ (List.mem_append_right _ (List.mem_append_left _ (List.mem_of_getElem? (i := 24) rfl)))) rfl
set_option maxRecDepth 20000 in
theorem q313 : Cond.methodLink RX3 44 yX3_outersOf ∈ gW := gW_in (List.mem_append_right _ (List.mem_append_right _ (List.mem_append_left _ (List.mem_of_getElem? (i := 25) rfl)))) rfl
set_option maxRecDepth 20000 in
theorem q314 : Cond.static yX3_outersOf ∈ gW := gW_in (List.mem_append_right _ (List.mem_append_right _ (List.mem_append_left _ (List.mem_of_getElem? (i := 26) rfl)))) rfl
set_option maxRecDepth 20000 in
theorem q315 : Cond.code yX3_outersOf cX3_outersOf 5 (some .int) ∈ gW := gW_in (List.mem_append_right _ (List.mem_append_right _ (List.mem_append_left _ (List.mem_of_getElem? (i := 27) rfl)))) rfl
set_option maxRecDepth 20000 in
theorem q316 : Cond.methodLink RX5 146 yX3_after ∈ gW := gW_in (List.mem_append_right _ (List.mem_append_right _ (List.mem_append_left _ (List.mem_of_getElem? (i := 28) rfl)))) rfl
set_option maxRecDepth 20000 in
theorem q317 : Cond.static yX3_after ∈ gW := gW_in (List.mem_append_right _ (List.mem_append_right _ (List.mem_append_left _ (List.mem_of_getElem? (i := 29) rfl)))) rfl
set_option maxRecDepth 20000 in
theorem q318 : Cond.code yX3_after cX3_after 2 (some .int) ∈ gW := gW_in (List.mem_append_right _ (List.mem_append_right _ (List.mem_append_left _ (List.mem_of_getElem? (i := 30) rfl)))) rfl
set_option maxRecDepth 20000 in
theorem q319 : Cond.methodLink RX3 47 yX3_moved ∈ gW := gW_in (List.mem_append_right _ (List.mem_append_right _ (List.mem_append_left _ (List.mem_of_getElem? (i := 31) rfl)))) rfl
set_option maxRecDepth 20000 in
theorem q320 : Cond.static yX3_moved ∈ gW := gW_in (List.mem_append_right _ (List.mem_append_right _ (List.mem_append_left _ (List.mem_of_getElem? (i := 32) rfl)))) rfl
set_option maxRecDepth 20000 in
theorem q321 : Cond.code yX3_moved cX3_moved 4 (some .int) ∈ gW := gW_in (List.mem_append_right _ (List.mem_append_right _ (List.mem_append_left _ (List.mem_of_getElem? (i := 33) rfl)))) rfl
set_option maxRecDepth 20000 in
theorem q322 : Cond.methodLink RX5 149 yX5_manyOnTable ∈ gW := gW_in (List.mem_append_right _ (List.mem_append_right _ (List.mem_append_left _ (List.mem_of_getElem? (i := 34) rfl)))) rfl
set_option maxRecDepth 20000 in
theorem q323 : Cond.instanceMethod yX5_manyOnTable ∈ gW := gW_in (List.mem_append_right _ (List.mem_append_right _ (List.mem_append_left _ (List.mem_of_getElem? (i := 36) rfl)))) rfl
set_option maxRecDepth 20000 in
theorem q324 : Cond.selects RX5 yX5_manyOnTable yX5_manyOnTable ∈ gW := gW_in (List.mem_append_left _ (List.mem_of_getElem? (i := 6) rfl)) rfl
set_option maxRecDepth 20000 in
theorem q325 : Cond.code yX5_manyOnTable cX5_manyOnTable 2 (some .int) ∈ gW := gW_in (List.mem_append_right _ (List.mem_append_right _ (List.mem_append_left _ (List.mem_of_getElem? (i := 37) rfl)))) rfl
set_option maxRecDepth 20000 in
theorem q326 : Cond.methodLink RX5 183 yX3_tableSet ∈ gW := gW_in (List.mem_append_right _ (List.mem_append_right _ (List.mem_append_left _ (List.mem_of_getElem? (i := 38) rfl)))) rfl
set_option maxRecDepth 20000 in
theorem q327 : Cond.methodLink RX5 186 yJ6_bitCount_0f7a4 ∈ gW := gW_in (List.mem_append_right _ (List.mem_append_right _ (List.mem_append_left _ (List.mem_of_getElem? (i := 39) rfl)))) rfl
set_option maxRecDepth 20000 in
theorem q328 : Cond.static yJ6_bitCount_0f7a4 ∈ gW := gW_in (List.mem_append_right _ (List.mem_append_right _ (List.mem_append_left _ (List.mem_of_getElem? (i := 40) rfl)))) rfl
set_option maxRecDepth 20000 in
theorem q329 : Cond.initialized RJ6 ∈ gW := gW_in (List.mem_append_right _ (List.mem_append_left _ (List.mem_of_getElem? (i := 9) rfl))) rfl
set_option maxRecDepth 20000 in
theorem q330 : Cond.code yJ6_bitCount_0f7a4 cJ6_bitCount_0f7a4 1 (some .int) ∈ gW := gW_in (List.mem_append_right _ (List.mem_append_right _ (List.mem_append_left _ (List.mem_of_getElem? (i := 41) rfl)))) rfl
set_option maxRecDepth 20000 in
theorem q331 : Cond.constant RJ6 265 (1431655765) ∈ gW := gW_in (List.mem_append_right _ (List.mem_append_right _ (List.mem_append_left _ (List.mem_of_getElem? (i := 42) rfl)))) rfl
set_option maxRecDepth 20000 in
theorem q332 : Cond.constant RJ6 266 (858993459) ∈ gW := gW_in (List.mem_append_right _ (List.mem_append_right _ (List.mem_append_left _ (List.mem_of_getElem? (i := 43) rfl)))) rfl
set_option maxRecDepth 20000 in
theorem q333 : Cond.constant RJ6 267 (252645135) ∈ gW := gW_in (List.mem_append_right _ (List.mem_append_right _ (List.mem_append_left _ (List.mem_of_getElem? (i := 44) rfl)))) rfl
set_option maxRecDepth 20000 in
theorem q334 : Cond.methodLink RL 39 yX6_act ∈ gW := gW_in (List.mem_append_right _ (List.mem_append_right _ (List.mem_append_right _ (List.mem_append_left _ (List.mem_of_getElem? (i := 230) rfl))))) rfl
set_option maxRecDepth 20000 in
theorem q335 : Cond.instanceMethod yX6_act ∈ gW := gW_in (List.mem_append_right _ (List.mem_append_right _ (List.mem_append_right _ (List.mem_append_left _ (List.mem_of_getElem? (i := 231) rfl))))) rfl
set_option maxRecDepth 20000 in
theorem q336 : Cond.selects RX6 yX6_act yX6_act ∈ gW := gW_in (List.mem_append_right _ (List.mem_append_right _ (List.mem_append_right _ (List.mem_append_left _ (List.mem_of_getElem? (i := 232) rfl))))) rfl
set_option maxRecDepth 20000 in
theorem q337 : Cond.code yX6_act cX6_act 2 (some .int) ∈ gW := gW_in (List.mem_append_right _ (List.mem_append_right _ (List.mem_append_right _ (List.mem_append_left _ (List.mem_of_getElem? (i := 233) rfl))))) rfl
set_option maxRecDepth 20000 in
theorem q338 : Cond.methodLink RX6 146 yX6_canDo ∈ gW := gW_in (List.mem_append_right _ (List.mem_append_right _ (List.mem_append_right _ (List.mem_append_left _ (List.mem_of_getElem? (i := 234) rfl))))) rfl
set_option maxRecDepth 20000 in
theorem q339 : Cond.instanceMethod yX6_canDo ∈ gW := gW_in (List.mem_append_right _ (List.mem_append_right _ (List.mem_append_right _ (List.mem_append_left _ (List.mem_of_getElem? (i := 236) rfl))))) rfl
set_option maxRecDepth 20000 in
theorem q340 : Cond.selects RX6 yX6_canDo yX6_canDo ∈ gW := gW_in (List.mem_append_left _ (List.mem_of_getElem? (i := 34) rfl)) rfl
set_option maxRecDepth 20000 in
theorem q341 : Cond.code yX6_canDo cX6_canDo 4 (some .boolean) ∈ gW := gW_in (List.mem_append_right _ (List.mem_append_right _ (List.mem_append_right _ (List.mem_append_left _ (List.mem_of_getElem? (i := 237) rfl))))) rfl
set_option maxRecDepth 20000 in
theorem q342 : Cond.methodLink RX6 149 yX6_does ∈ gW := gW_in (List.mem_append_right _ (List.mem_append_right _ (List.mem_append_right _ (List.mem_append_left _ (List.mem_of_getElem? (i := 238) rfl))))) rfl
set_option maxRecDepth 20000 in
theorem q343 : Cond.instanceMethod yX6_does ∈ gW := gW_in (List.mem_append_right _ (List.mem_append_right _ (List.mem_append_right _ (List.mem_append_right _ (List.mem_of_getElem? (i := 0) rfl))))) rfl
set_option maxRecDepth 20000 in
theorem q344 : Cond.selects RX6 yX6_does yX6_does ∈ gW := gW_in (List.mem_append_left _ (List.mem_of_getElem? (i := 35) rfl)) rfl
set_option maxRecDepth 20000 in
theorem q345 : Cond.code yX6_does cX6_does 3 none ∈ gW := gW_in (List.mem_append_right _ (List.mem_append_right _ (List.mem_append_right _ (List.mem_append_right _ (List.mem_of_getElem? (i := 1) rfl))))) rfl
set_option maxRecDepth 20000 in
theorem q346 : Cond.methodLink RX6 153 yX6_onTable ∈ gW := gW_in (List.mem_append_right _ (List.mem_append_right _ (List.mem_append_right _ (List.mem_append_right _ (List.mem_of_getElem? (i := 2) rfl))))) rfl
set_option maxRecDepth 20000 in
theorem q347 : Cond.instanceMethod yX6_onTable ∈ gW := gW_in (List.mem_append_right _ (List.mem_append_right _ (List.mem_append_right _ (List.mem_append_right _ (List.mem_of_getElem? (i := 4) rfl))))) rfl
set_option maxRecDepth 20000 in
theorem q348 : Cond.selects RX6 yX6_onTable yX6_onTable ∈ gW := gW_in (List.mem_append_left _ (List.mem_of_getElem? (i := 36) rfl)) rfl
set_option maxRecDepth 20000 in
theorem q349 : Cond.code yX6_onTable cX6_onTable 3 (some .int) ∈ gW := gW_in (List.mem_append_right _ (List.mem_append_right _ (List.mem_append_right _ (List.mem_append_right _ (List.mem_of_getElem? (i := 5) rfl))))) rfl
set_option maxRecDepth 20000 in
theorem q350 : Cond.methodLink RL 40 yX5_anew ∈ gW := gW_in (List.mem_append_right _ (List.mem_append_right _ (List.mem_append_left _ (List.mem_of_getElem? (i := 45) rfl)))) rfl
set_option maxRecDepth 20000 in
theorem q351 : Cond.instanceMethod yX5_anew ∈ gW := gW_in (List.mem_append_right _ (List.mem_append_right _ (List.mem_append_left _ (List.mem_of_getElem? (i := 46) rfl)))) rfl
set_option maxRecDepth 20000 in
theorem q352 : Cond.selects RX5 yX5_anew yX5_anew ∈ gW := gW_in (List.mem_append_right _ (List.mem_append_right _ (List.mem_append_left _ (List.mem_of_getElem? (i := 47) rfl)))) rfl
set_option maxRecDepth 20000 in
theorem q353 : Cond.code yX5_anew cX5_anew 2 (some .int) ∈ gW := gW_in (List.mem_append_right _ (List.mem_append_right _ (List.mem_append_left _ (List.mem_of_getElem? (i := 48) rfl)))) rfl
set_option maxRecDepth 20000 in
theorem q354 : Cond.methodLink RL 44 yX6_anew ∈ gW := gW_in (List.mem_append_right _ (List.mem_append_right _ (List.mem_append_right _ (List.mem_append_right _ (List.mem_of_getElem? (i := 6) rfl))))) rfl
set_option maxRecDepth 20000 in
theorem q355 : Cond.instanceMethod yX6_anew ∈ gW := gW_in (List.mem_append_right _ (List.mem_append_right _ (List.mem_append_right _ (List.mem_append_right _ (List.mem_of_getElem? (i := 7) rfl))))) rfl
set_option maxRecDepth 20000 in
theorem q356 : Cond.selects RX6 yX6_anew yX6_anew ∈ gW := gW_in (List.mem_append_right _ (List.mem_append_right _ (List.mem_append_right _ (List.mem_append_right _ (List.mem_of_getElem? (i := 8) rfl))))) rfl
set_option maxRecDepth 20000 in
theorem q357 : Cond.code yX6_anew cX6_anew 3 (some .int) ∈ gW := gW_in (List.mem_append_right _ (List.mem_append_right _ (List.mem_append_right _ (List.mem_append_right _ (List.mem_of_getElem? (i := 9) rfl))))) rfl
set_option maxRecDepth 20000 in
theorem q358 : Cond.methodLink RL 45 yX5_can ∈ gW := gW_in (List.mem_append_right _ (List.mem_append_right _ (List.mem_append_left _ (List.mem_of_getElem? (i := 49) rfl)))) rfl
set_option maxRecDepth 20000 in
theorem q359 : Cond.instanceMethod yX5_can ∈ gW := gW_in (List.mem_append_right _ (List.mem_append_right _ (List.mem_append_left _ (List.mem_of_getElem? (i := 50) rfl)))) rfl
set_option maxRecDepth 20000 in
theorem q360 : Cond.selects RX5 yX5_can yX5_can ∈ gW := gW_in (List.mem_append_right _ (List.mem_append_right _ (List.mem_append_left _ (List.mem_of_getElem? (i := 51) rfl)))) rfl
set_option maxRecDepth 20000 in
theorem q361 : Cond.code yX5_can cX5_can 1 (some .int) ∈ gW := gW_in (List.mem_append_right _ (List.mem_append_right _ (List.mem_append_left _ (List.mem_of_getElem? (i := 52) rfl)))) rfl
set_option maxRecDepth 20000 in
theorem q362 : Cond.methodLink RL 48 yX6_can ∈ gW := gW_in (List.mem_append_right _ (List.mem_append_right _ (List.mem_append_right _ (List.mem_append_right _ (List.mem_of_getElem? (i := 10) rfl))))) rfl
set_option maxRecDepth 20000 in
theorem q363 : Cond.instanceMethod yX6_can ∈ gW := gW_in (List.mem_append_right _ (List.mem_append_right _ (List.mem_append_right _ (List.mem_append_right _ (List.mem_of_getElem? (i := 11) rfl))))) rfl
set_option maxRecDepth 20000 in
theorem q364 : Cond.selects RX6 yX6_can yX6_can ∈ gW := gW_in (List.mem_append_right _ (List.mem_append_right _ (List.mem_append_right _ (List.mem_append_right _ (List.mem_of_getElem? (i := 12) rfl))))) rfl
set_option maxRecDepth 20000 in
theorem q365 : Cond.code yX6_can cX6_can 3 (some .int) ∈ gW := gW_in (List.mem_append_right _ (List.mem_append_right _ (List.mem_append_right _ (List.mem_append_right _ (List.mem_of_getElem? (i := 13) rfl))))) rfl
set_option maxRecDepth 20000 in
theorem q366 : Cond.methodLink RL 49 yX5_day ∈ gW := gW_in (List.mem_append_right _ (List.mem_append_right _ (List.mem_append_left _ (List.mem_of_getElem? (i := 53) rfl)))) rfl
set_option maxRecDepth 20000 in
theorem q367 : Cond.instanceMethod yX5_day ∈ gW := gW_in (List.mem_append_right _ (List.mem_append_right _ (List.mem_append_left _ (List.mem_of_getElem? (i := 54) rfl)))) rfl
set_option maxRecDepth 20000 in
theorem q368 : Cond.selects RX5 yX5_day yX5_day ∈ gW := gW_in (List.mem_append_right _ (List.mem_append_right _ (List.mem_append_left _ (List.mem_of_getElem? (i := 55) rfl)))) rfl
set_option maxRecDepth 20000 in
theorem q369 : Cond.code yX5_day cX5_day 8 (some .int) ∈ gW := gW_in (List.mem_append_right _ (List.mem_append_right _ (List.mem_append_left _ (List.mem_of_getElem? (i := 56) rfl)))) rfl
set_option maxRecDepth 20000 in
theorem q370 : Cond.methodLink RX5 152 yX5_isAskedOfDay ∈ gW := gW_in (List.mem_append_right _ (List.mem_append_right _ (List.mem_append_left _ (List.mem_of_getElem? (i := 57) rfl)))) rfl
set_option maxRecDepth 20000 in
theorem q371 : Cond.static yX5_isAskedOfDay ∈ gW := gW_in (List.mem_append_right _ (List.mem_append_right _ (List.mem_append_left _ (List.mem_of_getElem? (i := 58) rfl)))) rfl
set_option maxRecDepth 20000 in
theorem q372 : Cond.code yX5_isAskedOfDay cX5_isAskedOfDay 1 (some .boolean) ∈ gW := gW_in (List.mem_append_right _ (List.mem_append_right _ (List.mem_append_left _ (List.mem_of_getElem? (i := 59) rfl)))) rfl
set_option maxRecDepth 20000 in
theorem q373 : Cond.methodLink RX5 155 yX2_isWithin ∈ gW := gW_in (List.mem_append_right _ (List.mem_append_right _ (List.mem_append_left _ (List.mem_of_getElem? (i := 60) rfl)))) rfl
set_option maxRecDepth 20000 in
theorem q374 : Cond.instanceMethod yX2_isWithin ∈ gW := gW_in (List.mem_append_right _ (List.mem_append_right _ (List.mem_append_left _ (List.mem_of_getElem? (i := 61) rfl)))) rfl
set_option maxRecDepth 20000 in
theorem q375 : Cond.selects RX2 yX2_isWithin yX2_isWithin ∈ gW := gW_in (List.mem_append_right _ (List.mem_append_right _ (List.mem_append_left _ (List.mem_of_getElem? (i := 62) rfl)))) rfl
set_option maxRecDepth 20000 in
theorem q376 : Cond.code yX2_isWithin cX2_isWithin 7 (some .boolean) ∈ gW := gW_in (List.mem_append_right _ (List.mem_append_right _ (List.mem_append_left _ (List.mem_of_getElem? (i := 63) rfl)))) rfl
set_option maxRecDepth 20000 in
theorem q377 : Cond.methodLink RX2 49 yX2_at ∈ gW := gW_in (List.mem_append_right _ (List.mem_append_right _ (List.mem_append_left _ (List.mem_of_getElem? (i := 64) rfl)))) rfl
set_option maxRecDepth 20000 in
theorem q378 : Cond.methodLink RX5 159 yX5_firstWrong ∈ gW := gW_in (List.mem_append_right _ (List.mem_append_right _ (List.mem_append_left _ (List.mem_of_getElem? (i := 65) rfl)))) rfl
set_option maxRecDepth 20000 in
theorem q379 : Cond.instanceMethod yX5_firstWrong ∈ gW := gW_in (List.mem_append_right _ (List.mem_append_right _ (List.mem_append_left _ (List.mem_of_getElem? (i := 67) rfl)))) rfl
set_option maxRecDepth 20000 in
theorem q380 : Cond.selects RX5 yX5_firstWrong yX5_firstWrong ∈ gW := gW_in (List.mem_append_left _ (List.mem_of_getElem? (i := 7) rfl)) rfl
set_option maxRecDepth 20000 in
theorem q381 : Cond.code yX5_firstWrong cX5_firstWrong 7 (some .int) ∈ gW := gW_in (List.mem_append_right _ (List.mem_append_right _ (List.mem_append_left _ (List.mem_of_getElem? (i := 68) rfl)))) rfl
set_option maxRecDepth 20000 in
theorem q382 : Cond.methodLink RX5 168 yX2_at ∈ gW := gW_in (List.mem_append_right _ (List.mem_append_right _ (List.mem_append_left _ (List.mem_of_getElem? (i := 69) rfl)))) rfl
set_option maxRecDepth 20000 in
theorem q383 : Cond.methodLink RX5 162 yX5_standAfter ∈ gW := gW_in (List.mem_append_right _ (List.mem_append_right _ (List.mem_append_left _ (List.mem_of_getElem? (i := 70) rfl)))) rfl
set_option maxRecDepth 20000 in
theorem q384 : Cond.instanceMethod yX5_standAfter ∈ gW := gW_in (List.mem_append_right _ (List.mem_append_right _ (List.mem_append_left _ (List.mem_of_getElem? (i := 72) rfl)))) rfl
set_option maxRecDepth 20000 in
theorem q385 : Cond.selects RX5 yX5_standAfter yX5_standAfter ∈ gW := gW_in (List.mem_append_left _ (List.mem_of_getElem? (i := 8) rfl)) rfl
set_option maxRecDepth 20000 in
theorem q386 : Cond.code yX5_standAfter cX5_standAfter 6 (some .int) ∈ gW := gW_in (List.mem_append_right _ (List.mem_append_right _ (List.mem_append_left _ (List.mem_of_getElem? (i := 73) rfl)))) rfl
set_option maxRecDepth 20000 in
theorem q387 : Cond.methodLink RX5 165 yX5_ofStand ∈ gW := gW_in (List.mem_append_right _ (List.mem_append_right _ (List.mem_append_left _ (List.mem_of_getElem? (i := 74) rfl)))) rfl
set_option maxRecDepth 20000 in
theorem q388 : Cond.instanceMethod yX5_ofStand ∈ gW := gW_in (List.mem_append_right _ (List.mem_append_right _ (List.mem_append_left _ (List.mem_of_getElem? (i := 76) rfl)))) rfl
set_option maxRecDepth 20000 in
theorem q389 : Cond.selects RX5 yX5_ofStand yX5_ofStand ∈ gW := gW_in (List.mem_append_left _ (List.mem_of_getElem? (i := 9) rfl)) rfl
set_option maxRecDepth 20000 in
theorem q390 : Cond.code yX5_ofStand cX5_ofStand 3 (some .int) ∈ gW := gW_in (List.mem_append_right _ (List.mem_append_right _ (List.mem_append_left _ (List.mem_of_getElem? (i := 77) rfl)))) rfl
set_option maxRecDepth 20000 in
theorem q391 : Cond.methodLink RX5 171 yX3_openSet ∈ gW := gW_in (List.mem_append_right _ (List.mem_append_right _ (List.mem_append_left _ (List.mem_of_getElem? (i := 78) rfl)))) rfl
set_option maxRecDepth 20000 in
theorem q392 : Cond.methodLink RX5 174 yX3_mostWithin ∈ gW := gW_in (List.mem_append_right _ (List.mem_append_right _ (List.mem_append_left _ (List.mem_of_getElem? (i := 79) rfl)))) rfl
set_option maxRecDepth 20000 in
theorem q393 : Cond.static yX3_mostWithin ∈ gW := gW_in (List.mem_append_right _ (List.mem_append_right _ (List.mem_append_left _ (List.mem_of_getElem? (i := 80) rfl)))) rfl
set_option maxRecDepth 20000 in
theorem q394 : Cond.code yX3_mostWithin cX3_mostWithin 4 (some .int) ∈ gW := gW_in (List.mem_append_right _ (List.mem_append_right _ (List.mem_append_left _ (List.mem_of_getElem? (i := 81) rfl)))) rfl
set_option maxRecDepth 20000 in
theorem q395 : Cond.methodLink RX3 33 Lib.Math.max.name ∈ gW := gW_in (List.mem_append_right _ (List.mem_append_right _ (List.mem_append_left _ (List.mem_of_getElem? (i := 83) rfl)))) rfl
set_option maxRecDepth 20000 in
theorem q396 : Cond.static Lib.Math.max.name ∈ gW := gW_in (List.mem_append_right _ (List.mem_append_right _ (List.mem_append_left _ (List.mem_of_getElem? (i := 84) rfl)))) rfl
set_option maxRecDepth 20000 in
theorem q397 : Cond.code Lib.Math.max.name Lib.Math.max.code 2 (some .int) ∈ gW := gW_in (List.mem_append_right _ (List.mem_append_right _ (List.mem_append_left _ (List.mem_of_getElem? (i := 85) rfl)))) rfl
set_option maxRecDepth 20000 in
theorem q398 : Cond.methodLink RX3 30 yX3_manyWithin ∈ gW := gW_in (List.mem_append_right _ (List.mem_append_right _ (List.mem_append_left _ (List.mem_of_getElem? (i := 82) rfl)))) rfl
set_option maxRecDepth 20000 in
theorem q399 : Cond.methodLink RL 53 yX6_day ∈ gW := gW_in (List.mem_append_right _ (List.mem_append_right _ (List.mem_append_right _ (List.mem_append_right _ (List.mem_of_getElem? (i := 14) rfl))))) rfl
set_option maxRecDepth 20000 in
theorem q400 : Cond.instanceMethod yX6_day ∈ gW := gW_in (List.mem_append_right _ (List.mem_append_right _ (List.mem_append_right _ (List.mem_append_right _ (List.mem_of_getElem? (i := 15) rfl))))) rfl
set_option maxRecDepth 20000 in
theorem q401 : Cond.selects RX6 yX6_day yX6_day ∈ gW := gW_in (List.mem_append_right _ (List.mem_append_right _ (List.mem_append_right _ (List.mem_append_right _ (List.mem_of_getElem? (i := 16) rfl))))) rfl
set_option maxRecDepth 20000 in
theorem q402 : Cond.code yX6_day cX6_day 11 (some .int) ∈ gW := gW_in (List.mem_append_right _ (List.mem_append_right _ (List.mem_append_right _ (List.mem_append_right _ (List.mem_of_getElem? (i := 17) rfl))))) rfl
set_option maxRecDepth 20000 in
theorem q403 : Cond.methodLink RX6 157 yX6_nestNow ∈ gW := gW_in (List.mem_append_right _ (List.mem_append_right _ (List.mem_append_right _ (List.mem_append_right _ (List.mem_of_getElem? (i := 18) rfl))))) rfl
set_option maxRecDepth 20000 in
theorem q404 : Cond.instanceMethod yX6_nestNow ∈ gW := gW_in (List.mem_append_right _ (List.mem_append_right _ (List.mem_append_right _ (List.mem_append_right _ (List.mem_of_getElem? (i := 20) rfl))))) rfl
set_option maxRecDepth 20000 in
theorem q405 : Cond.selects RX6 yX6_nestNow yX6_nestNow ∈ gW := gW_in (List.mem_append_left _ (List.mem_of_getElem? (i := 37) rfl)) rfl
set_option maxRecDepth 20000 in
theorem q406 : Cond.code yX6_nestNow cX6_nestNow 3 (some .int) ∈ gW := gW_in (List.mem_append_right _ (List.mem_append_right _ (List.mem_append_right _ (List.mem_append_right _ (List.mem_of_getElem? (i := 21) rfl))))) rfl
set_option maxRecDepth 20000 in
theorem q407 : Cond.methodLink RX6 160 yX6_goDay ∈ gW := gW_in (List.mem_append_right _ (List.mem_append_right _ (List.mem_append_right _ (List.mem_append_right _ (List.mem_of_getElem? (i := 22) rfl))))) rfl
set_option maxRecDepth 20000 in
theorem q408 : Cond.instanceMethod yX6_goDay ∈ gW := gW_in (List.mem_append_right _ (List.mem_append_right _ (List.mem_append_right _ (List.mem_append_right _ (List.mem_of_getElem? (i := 24) rfl))))) rfl
set_option maxRecDepth 20000 in
theorem q409 : Cond.selects RX6 yX6_goDay yX6_goDay ∈ gW := gW_in (List.mem_append_left _ (List.mem_of_getElem? (i := 38) rfl)) rfl
set_option maxRecDepth 20000 in
theorem q410 : Cond.code yX6_goDay cX6_goDay 4 (some .int) ∈ gW := gW_in (List.mem_append_right _ (List.mem_append_right _ (List.mem_append_right _ (List.mem_append_right _ (List.mem_of_getElem? (i := 25) rfl))))) rfl
set_option maxRecDepth 20000 in
theorem q411 : Cond.methodLink RX6 164 yX6_tellDay ∈ gW := gW_in (List.mem_append_right _ (List.mem_append_right _ (List.mem_append_right _ (List.mem_append_right _ (List.mem_of_getElem? (i := 26) rfl))))) rfl
set_option maxRecDepth 20000 in
theorem q412 : Cond.instanceMethod yX6_tellDay ∈ gW := gW_in (List.mem_append_right _ (List.mem_append_right _ (List.mem_append_right _ (List.mem_append_right _ (List.mem_of_getElem? (i := 28) rfl))))) rfl
set_option maxRecDepth 20000 in
theorem q413 : Cond.selects RX6 yX6_tellDay yX6_tellDay ∈ gW := gW_in (List.mem_append_left _ (List.mem_of_getElem? (i := 39) rfl)) rfl
set_option maxRecDepth 20000 in
theorem q414 : Cond.code yX6_tellDay cX6_tellDay 4 (some .int) ∈ gW := gW_in (List.mem_append_right _ (List.mem_append_right _ (List.mem_append_right _ (List.mem_append_right _ (List.mem_of_getElem? (i := 29) rfl))))) rfl
set_option maxRecDepth 20000 in
theorem q415 : Cond.methodLink RX6 170 yX6_handSet ∈ gW := gW_in (List.mem_append_right _ (List.mem_append_right _ (List.mem_append_right _ (List.mem_append_right _ (List.mem_of_getElem? (i := 30) rfl))))) rfl
set_option maxRecDepth 20000 in
theorem q416 : Cond.instanceMethod yX6_handSet ∈ gW := gW_in (List.mem_append_right _ (List.mem_append_right _ (List.mem_append_right _ (List.mem_append_right _ (List.mem_of_getElem? (i := 32) rfl))))) rfl
set_option maxRecDepth 20000 in
theorem q417 : Cond.selects RX6 yX6_handSet yX6_handSet ∈ gW := gW_in (List.mem_append_left _ (List.mem_of_getElem? (i := 40) rfl)) rfl
set_option maxRecDepth 20000 in
theorem q418 : Cond.code yX6_handSet cX6_handSet 3 (some .int) ∈ gW := gW_in (List.mem_append_right _ (List.mem_append_right _ (List.mem_append_right _ (List.mem_append_right _ (List.mem_of_getElem? (i := 33) rfl))))) rfl
set_option maxRecDepth 20000 in
theorem q419 : Cond.methodLink RX6 167 yX6_becomeNest ∈ gW := gW_in (List.mem_append_right _ (List.mem_append_right _ (List.mem_append_right _ (List.mem_append_right _ (List.mem_of_getElem? (i := 34) rfl))))) rfl
set_option maxRecDepth 20000 in
theorem q420 : Cond.instanceMethod yX6_becomeNest ∈ gW := gW_in (List.mem_append_right _ (List.mem_append_right _ (List.mem_append_right _ (List.mem_append_right _ (List.mem_of_getElem? (i := 36) rfl))))) rfl
set_option maxRecDepth 20000 in
theorem q421 : Cond.selects RX6 yX6_becomeNest yX6_becomeNest ∈ gW := gW_in (List.mem_append_left _ (List.mem_of_getElem? (i := 41) rfl)) rfl
set_option maxRecDepth 20000 in
theorem q422 : Cond.code yX6_becomeNest cX6_becomeNest 4 none ∈ gW := gW_in (List.mem_append_right _ (List.mem_append_right _ (List.mem_append_right _ (List.mem_append_right _ (List.mem_of_getElem? (i := 37) rfl))))) rfl
set_option maxRecDepth 20000 in
theorem q423 : Cond.methodLink RL 54 yX5_fewest ∈ gW := gW_in (List.mem_append_right _ (List.mem_append_right _ (List.mem_append_left _ (List.mem_of_getElem? (i := 86) rfl)))) rfl
set_option maxRecDepth 20000 in
theorem q424 : Cond.instanceMethod yX5_fewest ∈ gW := gW_in (List.mem_append_right _ (List.mem_append_right _ (List.mem_append_left _ (List.mem_of_getElem? (i := 87) rfl)))) rfl
set_option maxRecDepth 20000 in
theorem q425 : Cond.selects RX5 yX5_fewest yX5_fewest ∈ gW := gW_in (List.mem_append_right _ (List.mem_append_right _ (List.mem_append_left _ (List.mem_of_getElem? (i := 88) rfl)))) rfl
set_option maxRecDepth 20000 in
theorem q426 : Cond.code yX5_fewest cX5_fewest 7 (some .int) ∈ gW := gW_in (List.mem_append_right _ (List.mem_append_right _ (List.mem_append_left _ (List.mem_of_getElem? (i := 89) rfl)))) rfl
set_option maxRecDepth 20000 in
theorem q427 : Cond.methodLink RX5 191 yX1_go ∈ gW := gW_in (List.mem_append_right _ (List.mem_append_right _ (List.mem_append_left _ (List.mem_of_getElem? (i := 90) rfl)))) rfl
set_option maxRecDepth 20000 in
theorem q428 : Cond.instanceMethod yX1_go ∈ gW := gW_in (List.mem_append_right _ (List.mem_append_right _ (List.mem_append_left _ (List.mem_of_getElem? (i := 91) rfl)))) rfl
set_option maxRecDepth 20000 in
theorem q429 : Cond.selects RX1 yX1_go yX1_go ∈ gW := gW_in (List.mem_append_right _ (List.mem_append_right _ (List.mem_append_left _ (List.mem_of_getElem? (i := 92) rfl)))) rfl
set_option maxRecDepth 20000 in
theorem q430 : Cond.code yX1_go cX1_go 5 none ∈ gW := gW_in (List.mem_append_right _ (List.mem_append_right _ (List.mem_append_left _ (List.mem_of_getElem? (i := 93) rfl)))) rfl
set_option maxRecDepth 20000 in
theorem q431 : Cond.fieldLink RX1 27 "NestedDolls$Search" "many" "I" ∈ gW := gW_in (List.mem_append_right _ (List.mem_append_left _ (List.mem_of_getElem? (i := 34) rfl))) rfl
set_option maxRecDepth 20000 in
theorem q432 : Cond.fieldLink RX1 31 "NestedDolls$Search" "count" "I" ∈ gW := gW_in (List.mem_append_right _ (List.mem_append_left _ (List.mem_of_getElem? (i := 35) rfl))) rfl
set_option maxRecDepth 20000 in
theorem q433 : Cond.fieldLink RX1 34 "NestedDolls$Search" "fitting" "I" ∈ gW := gW_in (List.mem_append_right _ (List.mem_append_left _ (List.mem_of_getElem? (i := 36) rfl))) rfl
set_option maxRecDepth 20000 in
theorem q434 : Cond.methodLink RX1 37 yJ7_fill_d0a16 ∈ gW := gW_in (List.mem_append_right _ (List.mem_append_right _ (List.mem_append_left _ (List.mem_of_getElem? (i := 94) rfl)))) rfl
set_option maxRecDepth 20000 in
theorem q435 : Cond.static yJ7_fill_d0a16 ∈ gW := gW_in (List.mem_append_right _ (List.mem_append_right _ (List.mem_append_left _ (List.mem_of_getElem? (i := 95) rfl)))) rfl
set_option maxRecDepth 20000 in
theorem q436 : Cond.initialized RJ7 ∈ gW := gW_in (List.mem_append_right _ (List.mem_append_left _ (List.mem_of_getElem? (i := 10) rfl))) rfl
set_option maxRecDepth 20000 in
theorem q437 : Cond.code yJ7_fill_d0a16 cJ7_fill_d0a16 5 none ∈ gW := gW_in (List.mem_append_right _ (List.mem_append_right _ (List.mem_append_left _ (List.mem_of_getElem? (i := 96) rfl)))) rfl
set_option maxRecDepth 20000 in
theorem q438 : Cond.methodLink RX1 43 yX1_reach ∈ gW := gW_in (List.mem_append_right _ (List.mem_append_right _ (List.mem_append_left _ (List.mem_of_getElem? (i := 97) rfl)))) rfl
set_option maxRecDepth 20000 in
theorem q439 : Cond.instanceMethod yX1_reach ∈ gW := gW_in (List.mem_append_right _ (List.mem_append_right _ (List.mem_append_left _ (List.mem_of_getElem? (i := 99) rfl)))) rfl
set_option maxRecDepth 20000 in
theorem q440 : Cond.selects RX1 yX1_reach yX1_reach ∈ gW := gW_in (List.mem_append_left _ (List.mem_of_getElem? (i := 10) rfl)) rfl
set_option maxRecDepth 20000 in
theorem q441 : Cond.code yX1_reach cX1_reach 7 none ∈ gW := gW_in (List.mem_append_right _ (List.mem_append_right _ (List.mem_append_left _ (List.mem_of_getElem? (i := 100) rfl)))) rfl
set_option maxRecDepth 20000 in
theorem q442 : Cond.methodLink RX1 47 yX1_goOn ∈ gW := gW_in (List.mem_append_right _ (List.mem_append_right _ (List.mem_append_left _ (List.mem_of_getElem? (i := 101) rfl)))) rfl
set_option maxRecDepth 20000 in
theorem q443 : Cond.instanceMethod yX1_goOn ∈ gW := gW_in (List.mem_append_right _ (List.mem_append_right _ (List.mem_append_left _ (List.mem_of_getElem? (i := 103) rfl)))) rfl
set_option maxRecDepth 20000 in
theorem q444 : Cond.selects RX1 yX1_goOn yX1_goOn ∈ gW := gW_in (List.mem_append_left _ (List.mem_of_getElem? (i := 11) rfl)) rfl
set_option maxRecDepth 20000 in
theorem q445 : Cond.code yX1_goOn cX1_goOn 4 none ∈ gW := gW_in (List.mem_append_right _ (List.mem_append_right _ (List.mem_append_left _ (List.mem_of_getElem? (i := 104) rfl)))) rfl
set_option maxRecDepth 20000 in
theorem q446 : Cond.methodLink RX1 51 yX3_doable ∈ gW := gW_in (List.mem_append_right _ (List.mem_append_right _ (List.mem_append_left _ (List.mem_of_getElem? (i := 105) rfl)))) rfl
set_option maxRecDepth 20000 in
theorem q447 : Cond.methodLink RX1 59 yX3_after ∈ gW := gW_in (List.mem_append_right _ (List.mem_append_right _ (List.mem_append_left _ (List.mem_of_getElem? (i := 107) rfl)))) rfl
set_option maxRecDepth 20000 in
theorem q448 : Cond.methodLink RX5 195 yX5_nestTold ∈ gW := gW_in (List.mem_append_right _ (List.mem_append_right _ (List.mem_append_left _ (List.mem_of_getElem? (i := 108) rfl)))) rfl
set_option maxRecDepth 20000 in
theorem q449 : Cond.instanceMethod yX5_nestTold ∈ gW := gW_in (List.mem_append_right _ (List.mem_append_right _ (List.mem_append_left _ (List.mem_of_getElem? (i := 110) rfl)))) rfl
set_option maxRecDepth 20000 in
theorem q450 : Cond.selects RX5 yX5_nestTold yX5_nestTold ∈ gW := gW_in (List.mem_append_left _ (List.mem_of_getElem? (i := 12) rfl)) rfl
set_option maxRecDepth 20000 in
theorem q451 : Cond.code yX5_nestTold cX5_nestTold 5 (some .int) ∈ gW := gW_in (List.mem_append_right _ (List.mem_append_right _ (List.mem_append_left _ (List.mem_of_getElem? (i := 111) rfl)))) rfl
set_option maxRecDepth 20000 in
theorem q452 : Cond.methodLink RX5 208 yX3_moved ∈ gW := gW_in (List.mem_append_right _ (List.mem_append_right _ (List.mem_append_left _ (List.mem_of_getElem? (i := 112) rfl)))) rfl
set_option maxRecDepth 20000 in
theorem q453 : Cond.methodLink RX5 199 yX1_find ∈ gW := gW_in (List.mem_append_right _ (List.mem_append_right _ (List.mem_append_left _ (List.mem_of_getElem? (i := 113) rfl)))) rfl
set_option maxRecDepth 20000 in
theorem q454 : Cond.instanceMethod yX1_find ∈ gW := gW_in (List.mem_append_right _ (List.mem_append_right _ (List.mem_append_left _ (List.mem_of_getElem? (i := 114) rfl)))) rfl
set_option maxRecDepth 20000 in
theorem q455 : Cond.selects RX1 yX1_find yX1_find ∈ gW := gW_in (List.mem_append_right _ (List.mem_append_right _ (List.mem_append_left _ (List.mem_of_getElem? (i := 115) rfl)))) rfl
set_option maxRecDepth 20000 in
theorem q456 : Cond.code yX1_find cX1_find 3 (some .int) ∈ gW := gW_in (List.mem_append_right _ (List.mem_append_right _ (List.mem_append_left _ (List.mem_of_getElem? (i := 116) rfl)))) rfl
set_option maxRecDepth 20000 in
theorem q457 : Cond.methodLink RX5 202 yX1_lengthTo ∈ gW := gW_in (List.mem_append_right _ (List.mem_append_right _ (List.mem_append_left _ (List.mem_of_getElem? (i := 117) rfl)))) rfl
set_option maxRecDepth 20000 in
theorem q458 : Cond.instanceMethod yX1_lengthTo ∈ gW := gW_in (List.mem_append_right _ (List.mem_append_right _ (List.mem_append_left _ (List.mem_of_getElem? (i := 118) rfl)))) rfl
set_option maxRecDepth 20000 in
theorem q459 : Cond.selects RX1 yX1_lengthTo yX1_lengthTo ∈ gW := gW_in (List.mem_append_right _ (List.mem_append_right _ (List.mem_append_left _ (List.mem_of_getElem? (i := 119) rfl)))) rfl
set_option maxRecDepth 20000 in
theorem q460 : Cond.code yX1_lengthTo cX1_lengthTo 4 (some .int) ∈ gW := gW_in (List.mem_append_right _ (List.mem_append_right _ (List.mem_append_left _ (List.mem_of_getElem? (i := 120) rfl)))) rfl
set_option maxRecDepth 20000 in
theorem q461 : Cond.methodLink RX5 205 yX1_actTo ∈ gW := gW_in (List.mem_append_right _ (List.mem_append_right _ (List.mem_append_left _ (List.mem_of_getElem? (i := 121) rfl)))) rfl
set_option maxRecDepth 20000 in
theorem q462 : Cond.instanceMethod yX1_actTo ∈ gW := gW_in (List.mem_append_right _ (List.mem_append_right _ (List.mem_append_left _ (List.mem_of_getElem? (i := 122) rfl)))) rfl
set_option maxRecDepth 20000 in
theorem q463 : Cond.selects RX1 yX1_actTo yX1_actTo ∈ gW := gW_in (List.mem_append_right _ (List.mem_append_right _ (List.mem_append_left _ (List.mem_of_getElem? (i := 123) rfl)))) rfl
set_option maxRecDepth 20000 in
theorem q464 : Cond.code yX1_actTo cX1_actTo 5 (some .int) ∈ gW := gW_in (List.mem_append_right _ (List.mem_append_right _ (List.mem_append_left _ (List.mem_of_getElem? (i := 124) rfl)))) rfl
set_option maxRecDepth 20000 in
theorem q465 : Cond.methodLink RX1 81 yX1_lengthTo ∈ gW := gW_in (List.mem_append_right _ (List.mem_append_right _ (List.mem_append_left _ (List.mem_of_getElem? (i := 125) rfl)))) rfl
set_option maxRecDepth 20000 in
theorem q466 : Cond.methodLink RL 57 yX6_fewest ∈ gW := gW_in (List.mem_append_right _ (List.mem_append_right _ (List.mem_append_right _ (List.mem_append_right _ (List.mem_of_getElem? (i := 38) rfl))))) rfl
set_option maxRecDepth 20000 in
theorem q467 : Cond.instanceMethod yX6_fewest ∈ gW := gW_in (List.mem_append_right _ (List.mem_append_right _ (List.mem_append_right _ (List.mem_append_right _ (List.mem_of_getElem? (i := 39) rfl))))) rfl
set_option maxRecDepth 20000 in
theorem q468 : Cond.selects RX6 yX6_fewest yX6_fewest ∈ gW := gW_in (List.mem_append_right _ (List.mem_append_right _ (List.mem_append_right _ (List.mem_append_right _ (List.mem_of_getElem? (i := 40) rfl))))) rfl
set_option maxRecDepth 20000 in
theorem q469 : Cond.code yX6_fewest cX6_fewest 10 (some .int) ∈ gW := gW_in (List.mem_append_right _ (List.mem_append_right _ (List.mem_append_right _ (List.mem_append_right _ (List.mem_of_getElem? (i := 41) rfl))))) rfl
set_option maxRecDepth 20000 in
theorem q470 : Cond.methodLink RX6 179 yX6_findNests ∈ gW := gW_in (List.mem_append_right _ (List.mem_append_right _ (List.mem_append_right _ (List.mem_append_right _ (List.mem_of_getElem? (i := 42) rfl))))) rfl
set_option maxRecDepth 20000 in
theorem q471 : Cond.instanceMethod yX6_findNests ∈ gW := gW_in (List.mem_append_right _ (List.mem_append_right _ (List.mem_append_right _ (List.mem_append_right _ (List.mem_of_getElem? (i := 44) rfl))))) rfl
set_option maxRecDepth 20000 in
theorem q472 : Cond.selects RX6 yX6_findNests yX6_findNests ∈ gW := gW_in (List.mem_append_left _ (List.mem_of_getElem? (i := 42) rfl)) rfl
set_option maxRecDepth 20000 in
theorem q473 : Cond.code yX6_findNests cX6_findNests 5 none ∈ gW := gW_in (List.mem_append_right _ (List.mem_append_right _ (List.mem_append_right _ (List.mem_append_right _ (List.mem_of_getElem? (i := 45) rfl))))) rfl
set_option maxRecDepth 20000 in
theorem q474 : Cond.fieldLink RX6 173 "NestedDollsModel" "come" "I" ∈ gW := gW_in (List.mem_append_right _ (List.mem_append_right _ (List.mem_append_right _ (List.mem_append_left _ (List.mem_of_getElem? (i := 83) rfl))))) rfl
set_option maxRecDepth 20000 in
theorem q475 : Cond.methodLink RX6 182 yX6_findFar ∈ gW := gW_in (List.mem_append_right _ (List.mem_append_right _ (List.mem_append_right _ (List.mem_append_right _ (List.mem_of_getElem? (i := 46) rfl))))) rfl
set_option maxRecDepth 20000 in
theorem q476 : Cond.instanceMethod yX6_findFar ∈ gW := gW_in (List.mem_append_right _ (List.mem_append_right _ (List.mem_append_right _ (List.mem_append_right _ (List.mem_of_getElem? (i := 48) rfl))))) rfl
set_option maxRecDepth 20000 in
theorem q477 : Cond.selects RX6 yX6_findFar yX6_findFar ∈ gW := gW_in (List.mem_append_left _ (List.mem_of_getElem? (i := 43) rfl)) rfl
set_option maxRecDepth 20000 in
theorem q478 : Cond.code yX6_findFar cX6_findFar 6 none ∈ gW := gW_in (List.mem_append_right _ (List.mem_append_right _ (List.mem_append_right _ (List.mem_append_right _ (List.mem_of_getElem? (i := 49) rfl))))) rfl
set_option maxRecDepth 20000 in
theorem q479 : Cond.methodLink RX6 176 yX6_isTold ∈ gW := gW_in (List.mem_append_right _ (List.mem_append_right _ (List.mem_append_right _ (List.mem_append_right _ (List.mem_of_getElem? (i := 50) rfl))))) rfl
set_option maxRecDepth 20000 in
theorem q480 : Cond.instanceMethod yX6_isTold ∈ gW := gW_in (List.mem_append_right _ (List.mem_append_right _ (List.mem_append_right _ (List.mem_append_right _ (List.mem_of_getElem? (i := 52) rfl))))) rfl
set_option maxRecDepth 20000 in
theorem q481 : Cond.selects RX6 yX6_isTold yX6_isTold ∈ gW := gW_in (List.mem_append_left _ (List.mem_of_getElem? (i := 44) rfl)) rfl
set_option maxRecDepth 20000 in
theorem q482 : Cond.code yX6_isTold cX6_isTold 4 (some .boolean) ∈ gW := gW_in (List.mem_append_right _ (List.mem_append_right _ (List.mem_append_right _ (List.mem_append_right _ (List.mem_of_getElem? (i := 53) rfl))))) rfl
set_option maxRecDepth 20000 in
theorem q483 : Cond.methodLink RL 58 yX5_stands ∈ gW := gW_in (List.mem_append_right _ (List.mem_append_right _ (List.mem_append_left _ (List.mem_of_getElem? (i := 126) rfl)))) rfl
set_option maxRecDepth 20000 in
theorem q484 : Cond.instanceMethod yX5_stands ∈ gW := gW_in (List.mem_append_right _ (List.mem_append_right _ (List.mem_append_left _ (List.mem_of_getElem? (i := 127) rfl)))) rfl
set_option maxRecDepth 20000 in
theorem q485 : Cond.selects RX5 yX5_stands yX5_stands ∈ gW := gW_in (List.mem_append_right _ (List.mem_append_right _ (List.mem_append_left _ (List.mem_of_getElem? (i := 128) rfl)))) rfl
set_option maxRecDepth 20000 in
theorem q486 : Cond.code yX5_stands cX5_stands 2 (some .int) ∈ gW := gW_in (List.mem_append_right _ (List.mem_append_right _ (List.mem_append_left _ (List.mem_of_getElem? (i := 129) rfl)))) rfl
set_option maxRecDepth 20000 in
theorem q487 : Cond.methodLink RX5 211 yX1_howMany ∈ gW := gW_in (List.mem_append_right _ (List.mem_append_right _ (List.mem_append_left _ (List.mem_of_getElem? (i := 130) rfl)))) rfl
set_option maxRecDepth 20000 in
theorem q488 : Cond.instanceMethod yX1_howMany ∈ gW := gW_in (List.mem_append_right _ (List.mem_append_right _ (List.mem_append_left _ (List.mem_of_getElem? (i := 131) rfl)))) rfl
set_option maxRecDepth 20000 in
theorem q489 : Cond.selects RX1 yX1_howMany yX1_howMany ∈ gW := gW_in (List.mem_append_right _ (List.mem_append_right _ (List.mem_append_left _ (List.mem_of_getElem? (i := 132) rfl)))) rfl
set_option maxRecDepth 20000 in
theorem q490 : Cond.code yX1_howMany cX1_howMany 4 (some .int) ∈ gW := gW_in (List.mem_append_right _ (List.mem_append_right _ (List.mem_append_left _ (List.mem_of_getElem? (i := 133) rfl)))) rfl
set_option maxRecDepth 20000 in
theorem q491 : Cond.methodLink RX1 63 yX1_isOf ∈ gW := gW_in (List.mem_append_right _ (List.mem_append_right _ (List.mem_append_left _ (List.mem_of_getElem? (i := 134) rfl)))) rfl
set_option maxRecDepth 20000 in
theorem q492 : Cond.instanceMethod yX1_isOf ∈ gW := gW_in (List.mem_append_right _ (List.mem_append_right _ (List.mem_append_left _ (List.mem_of_getElem? (i := 136) rfl)))) rfl
set_option maxRecDepth 20000 in
theorem q493 : Cond.selects RX1 yX1_isOf yX1_isOf ∈ gW := gW_in (List.mem_append_left _ (List.mem_of_getElem? (i := 13) rfl)) rfl
set_option maxRecDepth 20000 in
theorem q494 : Cond.code yX1_isOf cX1_isOf 3 (some .boolean) ∈ gW := gW_in (List.mem_append_right _ (List.mem_append_right _ (List.mem_append_left _ (List.mem_of_getElem? (i := 137) rfl)))) rfl
set_option maxRecDepth 20000 in
theorem q495 : Cond.methodLink RX1 66 yX3_openSet ∈ gW := gW_in (List.mem_append_right _ (List.mem_append_right _ (List.mem_append_left _ (List.mem_of_getElem? (i := 138) rfl)))) rfl
set_option maxRecDepth 20000 in
theorem q496 : Cond.methodLink RX1 70 yX3_tableSet ∈ gW := gW_in (List.mem_append_right _ (List.mem_append_right _ (List.mem_append_left _ (List.mem_of_getElem? (i := 139) rfl)))) rfl
set_option maxRecDepth 20000 in
theorem q497 : Cond.methodLink RX1 73 yJ6_bitCount_0f7a4 ∈ gW := gW_in (List.mem_append_right _ (List.mem_append_right _ (List.mem_append_left _ (List.mem_of_getElem? (i := 140) rfl)))) rfl
set_option maxRecDepth 20000 in
theorem q498 : Cond.methodLink RX1 78 yX3_handSet ∈ gW := gW_in (List.mem_append_right _ (List.mem_append_right _ (List.mem_append_left _ (List.mem_of_getElem? (i := 141) rfl)))) rfl
set_option maxRecDepth 20000 in
theorem q499 : Cond.methodLink RL 61 yX6_stands ∈ gW := gW_in (List.mem_append_right _ (List.mem_append_right _ (List.mem_append_right _ (List.mem_append_right _ (List.mem_of_getElem? (i := 54) rfl))))) rfl
set_option maxRecDepth 20000 in
theorem q500 : Cond.instanceMethod yX6_stands ∈ gW := gW_in (List.mem_append_right _ (List.mem_append_right _ (List.mem_append_right _ (List.mem_append_right _ (List.mem_of_getElem? (i := 55) rfl))))) rfl
set_option maxRecDepth 20000 in
theorem q501 : Cond.selects RX6 yX6_stands yX6_stands ∈ gW := gW_in (List.mem_append_right _ (List.mem_append_right _ (List.mem_append_right _ (List.mem_append_right _ (List.mem_of_getElem? (i := 56) rfl))))) rfl
set_option maxRecDepth 20000 in
theorem q502 : Cond.code yX6_stands cX6_stands 6 (some .int) ∈ gW := gW_in (List.mem_append_right _ (List.mem_append_right _ (List.mem_append_right _ (List.mem_append_right _ (List.mem_of_getElem? (i := 57) rfl))))) rfl
set_option maxRecDepth 20000 in
theorem q503 : Cond.methodLink RL 62 yX5_tidy ∈ gW := gW_in (List.mem_append_right _ (List.mem_append_right _ (List.mem_append_left _ (List.mem_of_getElem? (i := 142) rfl)))) rfl
set_option maxRecDepth 20000 in
theorem q504 : Cond.instanceMethod yX5_tidy ∈ gW := gW_in (List.mem_append_right _ (List.mem_append_right _ (List.mem_append_left _ (List.mem_of_getElem? (i := 143) rfl)))) rfl
set_option maxRecDepth 20000 in
theorem q505 : Cond.selects RX5 yX5_tidy yX5_tidy ∈ gW := gW_in (List.mem_append_right _ (List.mem_append_right _ (List.mem_append_left _ (List.mem_of_getElem? (i := 144) rfl)))) rfl
set_option maxRecDepth 20000 in
theorem q506 : Cond.code yX5_tidy cX5_tidy 3 (some .int) ∈ gW := gW_in (List.mem_append_right _ (List.mem_append_right _ (List.mem_append_left _ (List.mem_of_getElem? (i := 145) rfl)))) rfl
set_option maxRecDepth 20000 in
theorem q507 : Cond.methodLink RX5 214 yX5_leastOnTable ∈ gW := gW_in (List.mem_append_right _ (List.mem_append_right _ (List.mem_append_left _ (List.mem_of_getElem? (i := 146) rfl)))) rfl
set_option maxRecDepth 20000 in
theorem q508 : Cond.static yX5_leastOnTable ∈ gW := gW_in (List.mem_append_right _ (List.mem_append_right _ (List.mem_append_left _ (List.mem_of_getElem? (i := 147) rfl)))) rfl
set_option maxRecDepth 20000 in
theorem q509 : Cond.code yX5_leastOnTable cX5_leastOnTable 6 (some .int) ∈ gW := gW_in (List.mem_append_right _ (List.mem_append_right _ (List.mem_append_left _ (List.mem_of_getElem? (i := 148) rfl)))) rfl
set_option maxRecDepth 20000 in
theorem q510 : Cond.methodLink RX5 231 Lib.Math.min.name ∈ gW := gW_in (List.mem_append_right _ (List.mem_append_right _ (List.mem_append_left _ (List.mem_of_getElem? (i := 155) rfl)))) rfl
set_option maxRecDepth 20000 in
theorem q511 : Cond.methodLink RX5 224 yX5_isFree ∈ gW := gW_in (List.mem_append_right _ (List.mem_append_right _ (List.mem_append_left _ (List.mem_of_getElem? (i := 149) rfl)))) rfl
set_option maxRecDepth 20000 in
theorem q512 : Cond.static yX5_isFree ∈ gW := gW_in (List.mem_append_right _ (List.mem_append_right _ (List.mem_append_left _ (List.mem_of_getElem? (i := 150) rfl)))) rfl
set_option maxRecDepth 20000 in
theorem q513 : Cond.code yX5_isFree cX5_isFree 4 (some .boolean) ∈ gW := gW_in (List.mem_append_right _ (List.mem_append_right _ (List.mem_append_left _ (List.mem_of_getElem? (i := 151) rfl)))) rfl
set_option maxRecDepth 20000 in
theorem q514 : Cond.methodLink RX5 227 yX5_leastWith ∈ gW := gW_in (List.mem_append_right _ (List.mem_append_right _ (List.mem_append_left _ (List.mem_of_getElem? (i := 152) rfl)))) rfl
set_option maxRecDepth 20000 in
theorem q515 : Cond.static yX5_leastWith ∈ gW := gW_in (List.mem_append_right _ (List.mem_append_right _ (List.mem_append_left _ (List.mem_of_getElem? (i := 153) rfl)))) rfl
set_option maxRecDepth 20000 in
theorem q516 : Cond.code yX5_leastWith cX5_leastWith 5 (some .int) ∈ gW := gW_in (List.mem_append_right _ (List.mem_append_right _ (List.mem_append_left _ (List.mem_of_getElem? (i := 154) rfl)))) rfl
set_option maxRecDepth 20000 in
theorem q517 : Cond.methodLink RX5 218 yX5_tidyPlace ∈ gW := gW_in (List.mem_append_right _ (List.mem_append_right _ (List.mem_append_left _ (List.mem_of_getElem? (i := 156) rfl)))) rfl
set_option maxRecDepth 20000 in
theorem q518 : Cond.instanceMethod yX5_tidyPlace ∈ gW := gW_in (List.mem_append_right _ (List.mem_append_right _ (List.mem_append_left _ (List.mem_of_getElem? (i := 158) rfl)))) rfl
set_option maxRecDepth 20000 in
theorem q519 : Cond.selects RX5 yX5_tidyPlace yX5_tidyPlace ∈ gW := gW_in (List.mem_append_left _ (List.mem_of_getElem? (i := 14) rfl)) rfl
set_option maxRecDepth 20000 in
theorem q520 : Cond.code yX5_tidyPlace cX5_tidyPlace 6 (some .int) ∈ gW := gW_in (List.mem_append_right _ (List.mem_append_right _ (List.mem_append_left _ (List.mem_of_getElem? (i := 159) rfl)))) rfl
set_option maxRecDepth 20000 in
theorem q521 : Cond.methodLink RX5 221 yX5_firstPlace ∈ gW := gW_in (List.mem_append_right _ (List.mem_append_right _ (List.mem_append_left _ (List.mem_of_getElem? (i := 160) rfl)))) rfl
set_option maxRecDepth 20000 in
theorem q522 : Cond.static yX5_firstPlace ∈ gW := gW_in (List.mem_append_right _ (List.mem_append_right _ (List.mem_append_left _ (List.mem_of_getElem? (i := 161) rfl)))) rfl
set_option maxRecDepth 20000 in
theorem q523 : Cond.code yX5_firstPlace cX5_firstPlace 6 (some .int) ∈ gW := gW_in (List.mem_append_right _ (List.mem_append_right _ (List.mem_append_left _ (List.mem_of_getElem? (i := 162) rfl)))) rfl
set_option maxRecDepth 20000 in
theorem q524 : Cond.methodLink RL 65 yX6_tidy ∈ gW := gW_in (List.mem_append_right _ (List.mem_append_right _ (List.mem_append_right _ (List.mem_append_right _ (List.mem_of_getElem? (i := 58) rfl))))) rfl
set_option maxRecDepth 20000 in
theorem q525 : Cond.instanceMethod yX6_tidy ∈ gW := gW_in (List.mem_append_right _ (List.mem_append_right _ (List.mem_append_right _ (List.mem_append_right _ (List.mem_of_getElem? (i := 59) rfl))))) rfl
set_option maxRecDepth 20000 in
theorem q526 : Cond.selects RX6 yX6_tidy yX6_tidy ∈ gW := gW_in (List.mem_append_right _ (List.mem_append_right _ (List.mem_append_right _ (List.mem_append_right _ (List.mem_of_getElem? (i := 60) rfl))))) rfl
set_option maxRecDepth 20000 in
theorem q527 : Cond.code yX6_tidy cX6_tidy 7 (some .int) ∈ gW := gW_in (List.mem_append_right _ (List.mem_append_right _ (List.mem_append_right _ (List.mem_append_right _ (List.mem_of_getElem? (i := 61) rfl))))) rfl
set_option maxRecDepth 20000 in
theorem q528 : Cond.methodLink RX6 185 yX6_canTidy ∈ gW := gW_in (List.mem_append_right _ (List.mem_append_right _ (List.mem_append_right _ (List.mem_append_right _ (List.mem_of_getElem? (i := 62) rfl))))) rfl
set_option maxRecDepth 20000 in
theorem q529 : Cond.instanceMethod yX6_canTidy ∈ gW := gW_in (List.mem_append_right _ (List.mem_append_right _ (List.mem_append_right _ (List.mem_append_right _ (List.mem_of_getElem? (i := 64) rfl))))) rfl
set_option maxRecDepth 20000 in
theorem q530 : Cond.selects RX6 yX6_canTidy yX6_canTidy ∈ gW := gW_in (List.mem_append_left _ (List.mem_of_getElem? (i := 45) rfl)) rfl
set_option maxRecDepth 20000 in
theorem q531 : Cond.code yX6_canTidy cX6_canTidy 6 (some .boolean) ∈ gW := gW_in (List.mem_append_right _ (List.mem_append_right _ (List.mem_append_right _ (List.mem_append_right _ (List.mem_of_getElem? (i := 65) rfl))))) rfl
set_option maxRecDepth 20000 in
theorem q532 : Cond.methodLink RL 66 yX5_chain ∈ gW := gW_in (List.mem_append_right _ (List.mem_append_right _ (List.mem_append_left _ (List.mem_of_getElem? (i := 163) rfl)))) rfl
set_option maxRecDepth 20000 in
theorem q533 : Cond.instanceMethod yX5_chain ∈ gW := gW_in (List.mem_append_right _ (List.mem_append_right _ (List.mem_append_left _ (List.mem_of_getElem? (i := 164) rfl)))) rfl
set_option maxRecDepth 20000 in
theorem q534 : Cond.selects RX5 yX5_chain yX5_chain ∈ gW := gW_in (List.mem_append_right _ (List.mem_append_right _ (List.mem_append_left _ (List.mem_of_getElem? (i := 165) rfl)))) rfl
set_option maxRecDepth 20000 in
theorem q535 : Cond.code yX5_chain cX5_chain 4 (some .int) ∈ gW := gW_in (List.mem_append_right _ (List.mem_append_right _ (List.mem_append_left _ (List.mem_of_getElem? (i := 166) rfl)))) rfl
set_option maxRecDepth 20000 in
theorem q536 : Cond.methodLink RX5 239 Lib.Math.max.name ∈ gW := gW_in (List.mem_append_right _ (List.mem_append_right _ (List.mem_append_left _ (List.mem_of_getElem? (i := 170) rfl)))) rfl
set_option maxRecDepth 20000 in
theorem q537 : Cond.methodLink RX5 236 yX5_longestFrom ∈ gW := gW_in (List.mem_append_right _ (List.mem_append_right _ (List.mem_append_left _ (List.mem_of_getElem? (i := 167) rfl)))) rfl
set_option maxRecDepth 20000 in
theorem q538 : Cond.static yX5_longestFrom ∈ gW := gW_in (List.mem_append_right _ (List.mem_append_right _ (List.mem_append_left _ (List.mem_of_getElem? (i := 168) rfl)))) rfl
set_option maxRecDepth 20000 in
theorem q539 : Cond.code yX5_longestFrom cX5_longestFrom 6 (some .int) ∈ gW := gW_in (List.mem_append_right _ (List.mem_append_right _ (List.mem_append_left _ (List.mem_of_getElem? (i := 169) rfl)))) rfl
set_option maxRecDepth 20000 in
theorem q540 : Cond.methodLink RL 69 yX6_chain ∈ gW := gW_in (List.mem_append_right _ (List.mem_append_right _ (List.mem_append_right _ (List.mem_append_right _ (List.mem_of_getElem? (i := 66) rfl))))) rfl
set_option maxRecDepth 20000 in
theorem q541 : Cond.instanceMethod yX6_chain ∈ gW := gW_in (List.mem_append_right _ (List.mem_append_right _ (List.mem_append_right _ (List.mem_append_right _ (List.mem_of_getElem? (i := 67) rfl))))) rfl
set_option maxRecDepth 20000 in
theorem q542 : Cond.selects RX6 yX6_chain yX6_chain ∈ gW := gW_in (List.mem_append_right _ (List.mem_append_right _ (List.mem_append_right _ (List.mem_append_right _ (List.mem_of_getElem? (i := 68) rfl))))) rfl
set_option maxRecDepth 20000 in
theorem q543 : Cond.code yX6_chain cX6_chain 6 (some .int) ∈ gW := gW_in (List.mem_append_right _ (List.mem_append_right _ (List.mem_append_right _ (List.mem_append_right _ (List.mem_of_getElem? (i := 69) rfl))))) rfl
set_option maxRecDepth 20000 in
theorem q544 : Cond.methodLink RL 70 yX5_reading ∈ gW := gW_in (List.mem_append_right _ (List.mem_append_right _ (List.mem_append_left _ (List.mem_of_getElem? (i := 171) rfl)))) rfl
set_option maxRecDepth 20000 in
theorem q545 : Cond.instanceMethod yX5_reading ∈ gW := gW_in (List.mem_append_right _ (List.mem_append_right _ (List.mem_append_left _ (List.mem_of_getElem? (i := 172) rfl)))) rfl
set_option maxRecDepth 20000 in
theorem q546 : Cond.selects RX5 yX5_reading yX5_reading ∈ gW := gW_in (List.mem_append_right _ (List.mem_append_right _ (List.mem_append_left _ (List.mem_of_getElem? (i := 173) rfl)))) rfl
set_option maxRecDepth 20000 in
theorem q547 : Cond.code yX5_reading cX5_reading 4 (some .int) ∈ gW := gW_in (List.mem_append_right _ (List.mem_append_right _ (List.mem_append_left _ (List.mem_of_getElem? (i := 174) rfl)))) rfl
set_option maxRecDepth 20000 in
theorem q548 : Cond.methodLink RL 74 yX6_reading ∈ gW := gW_in (List.mem_append_right _ (List.mem_append_right _ (List.mem_append_right _ (List.mem_append_right _ (List.mem_of_getElem? (i := 70) rfl))))) rfl
set_option maxRecDepth 20000 in
theorem q549 : Cond.instanceMethod yX6_reading ∈ gW := gW_in (List.mem_append_right _ (List.mem_append_right _ (List.mem_append_right _ (List.mem_append_right _ (List.mem_of_getElem? (i := 71) rfl))))) rfl
set_option maxRecDepth 20000 in
theorem q550 : Cond.selects RX6 yX6_reading yX6_reading ∈ gW := gW_in (List.mem_append_right _ (List.mem_append_right _ (List.mem_append_right _ (List.mem_append_right _ (List.mem_of_getElem? (i := 72) rfl))))) rfl
set_option maxRecDepth 20000 in
theorem q551 : Cond.code yX6_reading cX6_reading 4 (some .int) ∈ gW := gW_in (List.mem_append_right _ (List.mem_append_right _ (List.mem_append_right _ (List.mem_append_right _ (List.mem_of_getElem? (i := 73) rfl))))) rfl
set_option maxRecDepth 20000 in
theorem q552 : Cond.methodLink RL 75 yX5_back ∈ gW := gW_in (List.mem_append_right _ (List.mem_append_right _ (List.mem_append_left _ (List.mem_of_getElem? (i := 175) rfl)))) rfl
set_option maxRecDepth 20000 in
theorem q553 : Cond.instanceMethod yX5_back ∈ gW := gW_in (List.mem_append_right _ (List.mem_append_right _ (List.mem_append_left _ (List.mem_of_getElem? (i := 176) rfl)))) rfl
set_option maxRecDepth 20000 in
theorem q554 : Cond.selects RX5 yX5_back yX5_back ∈ gW := gW_in (List.mem_append_right _ (List.mem_append_right _ (List.mem_append_left _ (List.mem_of_getElem? (i := 177) rfl)))) rfl
set_option maxRecDepth 20000 in
theorem q555 : Cond.code yX5_back cX5_back 2 (some .int) ∈ gW := gW_in (List.mem_append_right _ (List.mem_append_right _ (List.mem_append_left _ (List.mem_of_getElem? (i := 178) rfl)))) rfl
set_option maxRecDepth 20000 in
theorem q556 : Cond.methodLink RL 78 yX6_back ∈ gW := gW_in (List.mem_append_right _ (List.mem_append_right _ (List.mem_append_right _ (List.mem_append_right _ (List.mem_of_getElem? (i := 74) rfl))))) rfl
set_option maxRecDepth 20000 in
theorem q557 : Cond.instanceMethod yX6_back ∈ gW := gW_in (List.mem_append_right _ (List.mem_append_right _ (List.mem_append_right _ (List.mem_append_right _ (List.mem_of_getElem? (i := 75) rfl))))) rfl
set_option maxRecDepth 20000 in
theorem q558 : Cond.selects RX6 yX6_back yX6_back ∈ gW := gW_in (List.mem_append_right _ (List.mem_append_right _ (List.mem_append_right _ (List.mem_append_right _ (List.mem_of_getElem? (i := 76) rfl))))) rfl
set_option maxRecDepth 20000 in
theorem q559 : Cond.code yX6_back cX6_back 2 (some .int) ∈ gW := gW_in (List.mem_append_right _ (List.mem_append_right _ (List.mem_append_right _ (List.mem_append_right _ (List.mem_of_getElem? (i := 77) rfl))))) rfl
set_option maxRecDepth 20000 in
theorem q560 : Cond.methodLink RL 79 yX5_girths ∈ gW := gW_in (List.mem_append_right _ (List.mem_append_right _ (List.mem_append_left _ (List.mem_of_getElem? (i := 179) rfl)))) rfl
set_option maxRecDepth 20000 in
theorem q561 : Cond.instanceMethod yX5_girths ∈ gW := gW_in (List.mem_append_right _ (List.mem_append_right _ (List.mem_append_left _ (List.mem_of_getElem? (i := 180) rfl)))) rfl
set_option maxRecDepth 20000 in
theorem q562 : Cond.selects RX5 yX5_girths yX5_girths ∈ gW := gW_in (List.mem_append_right _ (List.mem_append_right _ (List.mem_append_left _ (List.mem_of_getElem? (i := 181) rfl)))) rfl
set_option maxRecDepth 20000 in
theorem q563 : Cond.code yX5_girths cX5_girths 5 (some .int) ∈ gW := gW_in (List.mem_append_right _ (List.mem_append_right _ (List.mem_append_left _ (List.mem_of_getElem? (i := 182) rfl)))) rfl
set_option maxRecDepth 20000 in
theorem q564 : Cond.methodLink RX5 242 yX5_readingsAreSo ∈ gW := gW_in (List.mem_append_right _ (List.mem_append_right _ (List.mem_append_left _ (List.mem_of_getElem? (i := 183) rfl)))) rfl
set_option maxRecDepth 20000 in
theorem q565 : Cond.instanceMethod yX5_readingsAreSo ∈ gW := gW_in (List.mem_append_right _ (List.mem_append_right _ (List.mem_append_left _ (List.mem_of_getElem? (i := 185) rfl)))) rfl
set_option maxRecDepth 20000 in
theorem q566 : Cond.selects RX5 yX5_readingsAreSo yX5_readingsAreSo ∈ gW := gW_in (List.mem_append_left _ (List.mem_of_getElem? (i := 15) rfl)) rfl
set_option maxRecDepth 20000 in
theorem q567 : Cond.code yX5_readingsAreSo cX5_readingsAreSo 4 (some .boolean) ∈ gW := gW_in (List.mem_append_right _ (List.mem_append_right _ (List.mem_append_left _ (List.mem_of_getElem? (i := 186) rfl)))) rfl
set_option maxRecDepth 20000 in
theorem q568 : Cond.methodLink RL 82 yX6_girths ∈ gW := gW_in (List.mem_append_right _ (List.mem_append_right _ (List.mem_append_right _ (List.mem_append_right _ (List.mem_of_getElem? (i := 78) rfl))))) rfl
set_option maxRecDepth 20000 in
theorem q569 : Cond.instanceMethod yX6_girths ∈ gW := gW_in (List.mem_append_right _ (List.mem_append_right _ (List.mem_append_right _ (List.mem_append_right _ (List.mem_of_getElem? (i := 79) rfl))))) rfl
set_option maxRecDepth 20000 in
theorem q570 : Cond.selects RX6 yX6_girths yX6_girths ∈ gW := gW_in (List.mem_append_right _ (List.mem_append_right _ (List.mem_append_right _ (List.mem_append_right _ (List.mem_of_getElem? (i := 80) rfl))))) rfl
set_option maxRecDepth 20000 in
theorem q571 : Cond.code yX6_girths cX6_girths 5 (some .int) ∈ gW := gW_in (List.mem_append_right _ (List.mem_append_right _ (List.mem_append_right _ (List.mem_append_right _ (List.mem_of_getElem? (i := 81) rfl))))) rfl
set_option maxRecDepth 20000 in
theorem q572 : Cond.methodLink RX6 188 yX6_areSo ∈ gW := gW_in (List.mem_append_right _ (List.mem_append_right _ (List.mem_append_right _ (List.mem_append_right _ (List.mem_of_getElem? (i := 82) rfl))))) rfl
set_option maxRecDepth 20000 in
theorem q573 : Cond.instanceMethod yX6_areSo ∈ gW := gW_in (List.mem_append_right _ (List.mem_append_right _ (List.mem_append_right _ (List.mem_append_right _ (List.mem_of_getElem? (i := 84) rfl))))) rfl
set_option maxRecDepth 20000 in
theorem q574 : Cond.selects RX6 yX6_areSo yX6_areSo ∈ gW := gW_in (List.mem_append_left _ (List.mem_of_getElem? (i := 46) rfl)) rfl
set_option maxRecDepth 20000 in
theorem q575 : Cond.code yX6_areSo cX6_areSo 2 (some .boolean) ∈ gW := gW_in (List.mem_append_right _ (List.mem_append_right _ (List.mem_append_right _ (List.mem_append_right _ (List.mem_of_getElem? (i := 85) rfl))))) rfl
set_option maxRecDepth 20000 in
theorem q576 : Cond.methodLink RL 83 yX5_rooms ∈ gW := gW_in (List.mem_append_right _ (List.mem_append_right _ (List.mem_append_left _ (List.mem_of_getElem? (i := 187) rfl)))) rfl
set_option maxRecDepth 20000 in
theorem q577 : Cond.instanceMethod yX5_rooms ∈ gW := gW_in (List.mem_append_right _ (List.mem_append_right _ (List.mem_append_left _ (List.mem_of_getElem? (i := 188) rfl)))) rfl
set_option maxRecDepth 20000 in
theorem q578 : Cond.selects RX5 yX5_rooms yX5_rooms ∈ gW := gW_in (List.mem_append_right _ (List.mem_append_right _ (List.mem_append_left _ (List.mem_of_getElem? (i := 189) rfl)))) rfl
set_option maxRecDepth 20000 in
theorem q579 : Cond.code yX5_rooms cX5_rooms 5 (some .int) ∈ gW := gW_in (List.mem_append_right _ (List.mem_append_right _ (List.mem_append_left _ (List.mem_of_getElem? (i := 190) rfl)))) rfl
set_option maxRecDepth 20000 in
theorem q580 : Cond.methodLink RL 86 yX6_rooms ∈ gW := gW_in (List.mem_append_right _ (List.mem_append_right _ (List.mem_append_right _ (List.mem_append_right _ (List.mem_of_getElem? (i := 86) rfl))))) rfl
set_option maxRecDepth 20000 in
theorem q581 : Cond.instanceMethod yX6_rooms ∈ gW := gW_in (List.mem_append_right _ (List.mem_append_right _ (List.mem_append_right _ (List.mem_append_right _ (List.mem_of_getElem? (i := 87) rfl))))) rfl
set_option maxRecDepth 20000 in
theorem q582 : Cond.selects RX6 yX6_rooms yX6_rooms ∈ gW := gW_in (List.mem_append_right _ (List.mem_append_right _ (List.mem_append_right _ (List.mem_append_right _ (List.mem_of_getElem? (i := 88) rfl))))) rfl
set_option maxRecDepth 20000 in
theorem q583 : Cond.code yX6_rooms cX6_rooms 5 (some .int) ∈ gW := gW_in (List.mem_append_right _ (List.mem_append_right _ (List.mem_append_right _ (List.mem_append_right _ (List.mem_of_getElem? (i := 89) rfl))))) rfl
set_option maxRecDepth 20000 in
theorem q584 : Cond.methodLink RL 87 yX5_kinds ∈ gW := gW_in (List.mem_append_right _ (List.mem_append_right _ (List.mem_append_left _ (List.mem_of_getElem? (i := 191) rfl)))) rfl
set_option maxRecDepth 20000 in
theorem q585 : Cond.instanceMethod yX5_kinds ∈ gW := gW_in (List.mem_append_right _ (List.mem_append_right _ (List.mem_append_left _ (List.mem_of_getElem? (i := 192) rfl)))) rfl
set_option maxRecDepth 20000 in
theorem q586 : Cond.selects RX5 yX5_kinds yX5_kinds ∈ gW := gW_in (List.mem_append_right _ (List.mem_append_right _ (List.mem_append_left _ (List.mem_of_getElem? (i := 193) rfl)))) rfl
set_option maxRecDepth 20000 in
theorem q587 : Cond.code yX5_kinds cX5_kinds 5 (some .int) ∈ gW := gW_in (List.mem_append_right _ (List.mem_append_right _ (List.mem_append_left _ (List.mem_of_getElem? (i := 194) rfl)))) rfl
set_option maxRecDepth 20000 in
theorem q588 : Cond.methodLink RL 90 yX6_kinds ∈ gW := gW_in (List.mem_append_right _ (List.mem_append_right _ (List.mem_append_right _ (List.mem_append_right _ (List.mem_of_getElem? (i := 90) rfl))))) rfl
set_option maxRecDepth 20000 in
theorem q589 : Cond.instanceMethod yX6_kinds ∈ gW := gW_in (List.mem_append_right _ (List.mem_append_right _ (List.mem_append_right _ (List.mem_append_right _ (List.mem_of_getElem? (i := 91) rfl))))) rfl
set_option maxRecDepth 20000 in
theorem q590 : Cond.selects RX6 yX6_kinds yX6_kinds ∈ gW := gW_in (List.mem_append_right _ (List.mem_append_right _ (List.mem_append_right _ (List.mem_append_right _ (List.mem_of_getElem? (i := 92) rfl))))) rfl
set_option maxRecDepth 20000 in
theorem q591 : Cond.code yX6_kinds cX6_kinds 5 (some .int) ∈ gW := gW_in (List.mem_append_right _ (List.mem_append_right _ (List.mem_append_right _ (List.mem_append_right _ (List.mem_of_getElem? (i := 93) rfl))))) rfl
set_option maxRecDepth 20000 in
theorem q592 : Cond.methodLink RL 91 yX5_odds ∈ gW := gW_in (List.mem_append_right _ (List.mem_append_right _ (List.mem_append_left _ (List.mem_of_getElem? (i := 195) rfl)))) rfl
set_option maxRecDepth 20000 in
theorem q593 : Cond.instanceMethod yX5_odds ∈ gW := gW_in (List.mem_append_right _ (List.mem_append_right _ (List.mem_append_left _ (List.mem_of_getElem? (i := 196) rfl)))) rfl
set_option maxRecDepth 20000 in
theorem q594 : Cond.selects RX5 yX5_odds yX5_odds ∈ gW := gW_in (List.mem_append_right _ (List.mem_append_right _ (List.mem_append_left _ (List.mem_of_getElem? (i := 197) rfl)))) rfl
set_option maxRecDepth 20000 in
theorem q595 : Cond.code yX5_odds cX5_odds 5 (some .long) ∈ gW := gW_in (List.mem_append_right _ (List.mem_append_right _ (List.mem_append_left _ (List.mem_of_getElem? (i := 198) rfl)))) rfl
set_option maxRecDepth 20000 in
theorem q596 : Cond.constantLong RX5 246 (-9223372036854775808) ∈ gW := gW_in (List.mem_append_right _ (List.mem_append_right _ (List.mem_append_left _ (List.mem_of_getElem? (i := 199) rfl)))) rfl
set_option maxRecDepth 20000 in
theorem q597 : Cond.methodLink RX5 248 yX5_commonDivisor ∈ gW := gW_in (List.mem_append_right _ (List.mem_append_right _ (List.mem_append_left _ (List.mem_of_getElem? (i := 200) rfl)))) rfl
set_option maxRecDepth 20000 in
theorem q598 : Cond.static yX5_commonDivisor ∈ gW := gW_in (List.mem_append_right _ (List.mem_append_right _ (List.mem_append_left _ (List.mem_of_getElem? (i := 201) rfl)))) rfl
set_option maxRecDepth 20000 in
theorem q599 : Cond.code yX5_commonDivisor cX5_commonDivisor 3 (some .int) ∈ gW := gW_in (List.mem_append_right _ (List.mem_append_right _ (List.mem_append_left _ (List.mem_of_getElem? (i := 202) rfl)))) rfl
set_option maxRecDepth 20000 in
theorem q600 : Cond.methodLink RL 95 yX6_odds ∈ gW := gW_in (List.mem_append_right _ (List.mem_append_right _ (List.mem_append_right _ (List.mem_append_right _ (List.mem_of_getElem? (i := 94) rfl))))) rfl
set_option maxRecDepth 20000 in
theorem q601 : Cond.instanceMethod yX6_odds ∈ gW := gW_in (List.mem_append_right _ (List.mem_append_right _ (List.mem_append_right _ (List.mem_append_right _ (List.mem_of_getElem? (i := 95) rfl))))) rfl
set_option maxRecDepth 20000 in
theorem q602 : Cond.selects RX6 yX6_odds yX6_odds ∈ gW := gW_in (List.mem_append_right _ (List.mem_append_right _ (List.mem_append_right _ (List.mem_append_right _ (List.mem_of_getElem? (i := 96) rfl))))) rfl
set_option maxRecDepth 20000 in
theorem q603 : Cond.code yX6_odds cX6_odds 5 (some .long) ∈ gW := gW_in (List.mem_append_right _ (List.mem_append_right _ (List.mem_append_right _ (List.mem_append_right _ (List.mem_of_getElem? (i := 97) rfl))))) rfl
set_option maxRecDepth 20000 in
theorem q604 : Cond.constantLong RX6 69 (-9223372036854775808) ∈ gW := gW_in (List.mem_append_right _ (List.mem_append_right _ (List.mem_append_right _ (List.mem_append_right _ (List.mem_of_getElem? (i := 98) rfl))))) rfl
set_option maxRecDepth 20000 in
theorem q605 : Cond.methodLink RX6 192 yX6_inLeastTerms ∈ gW := gW_in (List.mem_append_right _ (List.mem_append_right _ (List.mem_append_right _ (List.mem_append_right _ (List.mem_of_getElem? (i := 99) rfl))))) rfl
set_option maxRecDepth 20000 in
theorem q606 : Cond.static yX6_inLeastTerms ∈ gW := gW_in (List.mem_append_right _ (List.mem_append_right _ (List.mem_append_right _ (List.mem_append_right _ (List.mem_of_getElem? (i := 100) rfl))))) rfl
set_option maxRecDepth 20000 in
theorem q607 : Cond.code yX6_inLeastTerms cX6_inLeastTerms 11 (some .long) ∈ gW := gW_in (List.mem_append_right _ (List.mem_append_right _ (List.mem_append_right _ (List.mem_append_right _ (List.mem_of_getElem? (i := 101) rfl))))) rfl
set_option maxRecDepth 20000 in
theorem q608 : Cond.methodLink RL 96 yX5_sheet ∈ gW := gW_in (List.mem_append_right _ (List.mem_append_right _ (List.mem_append_left _ (List.mem_of_getElem? (i := 203) rfl)))) rfl
set_option maxRecDepth 20000 in
theorem q609 : Cond.instanceMethod yX5_sheet ∈ gW := gW_in (List.mem_append_right _ (List.mem_append_right _ (List.mem_append_left _ (List.mem_of_getElem? (i := 204) rfl)))) rfl
set_option maxRecDepth 20000 in
theorem q610 : Cond.selects RX5 yX5_sheet yX5_sheet ∈ gW := gW_in (List.mem_append_right _ (List.mem_append_right _ (List.mem_append_left _ (List.mem_of_getElem? (i := 205) rfl)))) rfl
set_option maxRecDepth 20000 in
theorem q611 : Cond.code yX5_sheet cX5_sheet 4 (some .int) ∈ gW := gW_in (List.mem_append_right _ (List.mem_append_right _ (List.mem_append_left _ (List.mem_of_getElem? (i := 206) rfl)))) rfl
set_option maxRecDepth 20000 in
theorem q612 : Cond.methodLink RX5 251 yX2_renew ∈ gW := gW_in (List.mem_append_right _ (List.mem_append_right _ (List.mem_append_left _ (List.mem_of_getElem? (i := 207) rfl)))) rfl
set_option maxRecDepth 20000 in
theorem q613 : Cond.instanceMethod yX2_renew ∈ gW := gW_in (List.mem_append_right _ (List.mem_append_right _ (List.mem_append_left _ (List.mem_of_getElem? (i := 208) rfl)))) rfl
set_option maxRecDepth 20000 in
theorem q614 : Cond.selects RX2 yX2_renew yX2_renew ∈ gW := gW_in (List.mem_append_right _ (List.mem_append_right _ (List.mem_append_left _ (List.mem_of_getElem? (i := 209) rfl)))) rfl
set_option maxRecDepth 20000 in
theorem q615 : Cond.code yX2_renew cX2_renew 3 none ∈ gW := gW_in (List.mem_append_right _ (List.mem_append_right _ (List.mem_append_left _ (List.mem_of_getElem? (i := 210) rfl)))) rfl
set_option maxRecDepth 20000 in
theorem q616 : Cond.methodLink RX2 19 Lib.Math.min.name ∈ gW := gW_in (List.mem_append_right _ (List.mem_append_right _ (List.mem_append_left _ (List.mem_of_getElem? (i := 211) rfl)))) rfl
set_option maxRecDepth 20000 in
theorem q617 : Cond.methodLink RX2 25 Lib.Math.max.name ∈ gW := gW_in (List.mem_append_right _ (List.mem_append_right _ (List.mem_append_left _ (List.mem_of_getElem? (i := 212) rfl)))) rfl
set_option maxRecDepth 20000 in
theorem q618 : Cond.methodLink RX2 31 yJ7_fill_53178 ∈ gW := gW_in (List.mem_append_right _ (List.mem_append_right _ (List.mem_append_left _ (List.mem_of_getElem? (i := 213) rfl)))) rfl
set_option maxRecDepth 20000 in
theorem q619 : Cond.static yJ7_fill_53178 ∈ gW := gW_in (List.mem_append_right _ (List.mem_append_right _ (List.mem_append_left _ (List.mem_of_getElem? (i := 214) rfl)))) rfl
set_option maxRecDepth 20000 in
theorem q620 : Cond.code yJ7_fill_53178 cJ7_fill_53178 4 none ∈ gW := gW_in (List.mem_append_right _ (List.mem_append_right _ (List.mem_append_left _ (List.mem_of_getElem? (i := 215) rfl)))) rfl
set_option maxRecDepth 20000 in
theorem q621 : Cond.methodLink RL 99 yX6_sheet ∈ gW := gW_in (List.mem_append_right _ (List.mem_append_right _ (List.mem_append_right _ (List.mem_append_right _ (List.mem_of_getElem? (i := 102) rfl))))) rfl
set_option maxRecDepth 20000 in
theorem q622 : Cond.instanceMethod yX6_sheet ∈ gW := gW_in (List.mem_append_right _ (List.mem_append_right _ (List.mem_append_right _ (List.mem_append_right _ (List.mem_of_getElem? (i := 103) rfl))))) rfl
set_option maxRecDepth 20000 in
theorem q623 : Cond.selects RX6 yX6_sheet yX6_sheet ∈ gW := gW_in (List.mem_append_right _ (List.mem_append_right _ (List.mem_append_right _ (List.mem_append_right _ (List.mem_of_getElem? (i := 104) rfl))))) rfl
set_option maxRecDepth 20000 in
theorem q624 : Cond.code yX6_sheet cX6_sheet 5 (some .int) ∈ gW := gW_in (List.mem_append_right _ (List.mem_append_right _ (List.mem_append_right _ (List.mem_append_right _ (List.mem_of_getElem? (i := 105) rfl))))) rfl
set_option maxRecDepth 20000 in
theorem q625 : Cond.methodLink RL 100 yX5_lose ∈ gW := gW_in (List.mem_append_right _ (List.mem_append_right _ (List.mem_append_left _ (List.mem_of_getElem? (i := 216) rfl)))) rfl
set_option maxRecDepth 20000 in
theorem q626 : Cond.instanceMethod yX5_lose ∈ gW := gW_in (List.mem_append_right _ (List.mem_append_right _ (List.mem_append_left _ (List.mem_of_getElem? (i := 217) rfl)))) rfl
set_option maxRecDepth 20000 in
theorem q627 : Cond.selects RX5 yX5_lose yX5_lose ∈ gW := gW_in (List.mem_append_right _ (List.mem_append_right _ (List.mem_append_left _ (List.mem_of_getElem? (i := 218) rfl)))) rfl
set_option maxRecDepth 20000 in
theorem q628 : Cond.code yX5_lose cX5_lose 2 (some .int) ∈ gW := gW_in (List.mem_append_right _ (List.mem_append_right _ (List.mem_append_left _ (List.mem_of_getElem? (i := 219) rfl)))) rfl
set_option maxRecDepth 20000 in
theorem q629 : Cond.methodLink RX5 255 yX2_hasNothing ∈ gW := gW_in (List.mem_append_right _ (List.mem_append_right _ (List.mem_append_left _ (List.mem_of_getElem? (i := 220) rfl)))) rfl
set_option maxRecDepth 20000 in
theorem q630 : Cond.methodLink RX5 258 yX2_clear ∈ gW := gW_in (List.mem_append_right _ (List.mem_append_right _ (List.mem_append_left _ (List.mem_of_getElem? (i := 221) rfl)))) rfl
set_option maxRecDepth 20000 in
theorem q631 : Cond.instanceMethod yX2_clear ∈ gW := gW_in (List.mem_append_right _ (List.mem_append_right _ (List.mem_append_left _ (List.mem_of_getElem? (i := 222) rfl)))) rfl
set_option maxRecDepth 20000 in
theorem q632 : Cond.selects RX2 yX2_clear yX2_clear ∈ gW := gW_in (List.mem_append_right _ (List.mem_append_right _ (List.mem_append_left _ (List.mem_of_getElem? (i := 223) rfl)))) rfl
set_option maxRecDepth 20000 in
theorem q633 : Cond.code yX2_clear cX2_clear 1 none ∈ gW := gW_in (List.mem_append_right _ (List.mem_append_right _ (List.mem_append_left _ (List.mem_of_getElem? (i := 224) rfl)))) rfl
set_option maxRecDepth 20000 in
theorem q634 : Cond.methodLink RL 103 yX6_lose ∈ gW := gW_in (List.mem_append_right _ (List.mem_append_right _ (List.mem_append_right _ (List.mem_append_right _ (List.mem_of_getElem? (i := 106) rfl))))) rfl
set_option maxRecDepth 20000 in
theorem q635 : Cond.instanceMethod yX6_lose ∈ gW := gW_in (List.mem_append_right _ (List.mem_append_right _ (List.mem_append_right _ (List.mem_append_right _ (List.mem_of_getElem? (i := 107) rfl))))) rfl
set_option maxRecDepth 20000 in
theorem q636 : Cond.selects RX6 yX6_lose yX6_lose ∈ gW := gW_in (List.mem_append_right _ (List.mem_append_right _ (List.mem_append_right _ (List.mem_append_right _ (List.mem_of_getElem? (i := 108) rfl))))) rfl
set_option maxRecDepth 20000 in
theorem q637 : Cond.code yX6_lose cX6_lose 3 (some .int) ∈ gW := gW_in (List.mem_append_right _ (List.mem_append_right _ (List.mem_append_right _ (List.mem_append_right _ (List.mem_of_getElem? (i := 109) rfl))))) rfl
set_option maxRecDepth 20000 in
theorem q638 : Cond.methodLink RL 104 yX5_put ∈ gW := gW_in (List.mem_append_right _ (List.mem_append_right _ (List.mem_append_left _ (List.mem_of_getElem? (i := 225) rfl)))) rfl
set_option maxRecDepth 20000 in
theorem q639 : Cond.instanceMethod yX5_put ∈ gW := gW_in (List.mem_append_right _ (List.mem_append_right _ (List.mem_append_left _ (List.mem_of_getElem? (i := 226) rfl)))) rfl
set_option maxRecDepth 20000 in
theorem q640 : Cond.selects RX5 yX5_put yX5_put ∈ gW := gW_in (List.mem_append_right _ (List.mem_append_right _ (List.mem_append_left _ (List.mem_of_getElem? (i := 227) rfl)))) rfl
set_option maxRecDepth 20000 in
theorem q641 : Cond.code yX5_put cX5_put 4 (some .int) ∈ gW := gW_in (List.mem_append_right _ (List.mem_append_right _ (List.mem_append_left _ (List.mem_of_getElem? (i := 228) rfl)))) rfl
set_option maxRecDepth 20000 in
theorem q642 : Cond.methodLink RX5 261 yX2_hasCells ∈ gW := gW_in (List.mem_append_right _ (List.mem_append_right _ (List.mem_append_left _ (List.mem_of_getElem? (i := 229) rfl)))) rfl
set_option maxRecDepth 20000 in
theorem q643 : Cond.methodLink RX5 264 yX2_write ∈ gW := gW_in (List.mem_append_right _ (List.mem_append_right _ (List.mem_append_left _ (List.mem_of_getElem? (i := 230) rfl)))) rfl
set_option maxRecDepth 20000 in
theorem q644 : Cond.instanceMethod yX2_write ∈ gW := gW_in (List.mem_append_right _ (List.mem_append_right _ (List.mem_append_left _ (List.mem_of_getElem? (i := 231) rfl)))) rfl
set_option maxRecDepth 20000 in
theorem q645 : Cond.selects RX2 yX2_write yX2_write ∈ gW := gW_in (List.mem_append_right _ (List.mem_append_right _ (List.mem_append_left _ (List.mem_of_getElem? (i := 232) rfl)))) rfl
set_option maxRecDepth 20000 in
theorem q646 : Cond.code yX2_write cX2_write 3 none ∈ gW := gW_in (List.mem_append_right _ (List.mem_append_right _ (List.mem_append_left _ (List.mem_of_getElem? (i := 233) rfl)))) rfl
set_option maxRecDepth 20000 in
theorem q647 : Cond.methodLink RX2 37 yX2_cut ∈ gW := gW_in (List.mem_append_right _ (List.mem_append_right _ (List.mem_append_left _ (List.mem_of_getElem? (i := 234) rfl)))) rfl
set_option maxRecDepth 20000 in
theorem q648 : Cond.instanceMethod yX2_cut ∈ gW := gW_in (List.mem_append_right _ (List.mem_append_right _ (List.mem_append_left _ (List.mem_of_getElem? (i := 236) rfl)))) rfl
set_option maxRecDepth 20000 in
theorem q649 : Cond.selects RX2 yX2_cut yX2_cut ∈ gW := gW_in (List.mem_append_left _ (List.mem_of_getElem? (i := 16) rfl)) rfl
set_option maxRecDepth 20000 in
theorem q650 : Cond.code yX2_cut cX2_cut 2 (some .int) ∈ gW := gW_in (List.mem_append_right _ (List.mem_append_right _ (List.mem_append_left _ (List.mem_of_getElem? (i := 237) rfl)))) rfl
set_option maxRecDepth 20000 in
theorem q651 : Cond.methodLink RL 107 yX6_put ∈ gW := gW_in (List.mem_append_right _ (List.mem_append_right _ (List.mem_append_right _ (List.mem_append_right _ (List.mem_of_getElem? (i := 110) rfl))))) rfl
set_option maxRecDepth 20000 in
theorem q652 : Cond.instanceMethod yX6_put ∈ gW := gW_in (List.mem_append_right _ (List.mem_append_right _ (List.mem_append_right _ (List.mem_append_right _ (List.mem_of_getElem? (i := 111) rfl))))) rfl
set_option maxRecDepth 20000 in
theorem q653 : Cond.selects RX6 yX6_put yX6_put ∈ gW := gW_in (List.mem_append_right _ (List.mem_append_right _ (List.mem_append_right _ (List.mem_append_right _ (List.mem_of_getElem? (i := 112) rfl))))) rfl
set_option maxRecDepth 20000 in
theorem q654 : Cond.code yX6_put cX6_put 4 (some .int) ∈ gW := gW_in (List.mem_append_right _ (List.mem_append_right _ (List.mem_append_right _ (List.mem_append_right _ (List.mem_of_getElem? (i := 113) rfl))))) rfl
set_option maxRecDepth 20000 in
theorem q655 : Cond.methodLink RL 108 yX5_cell ∈ gW := gW_in (List.mem_append_right _ (List.mem_append_right _ (List.mem_append_left _ (List.mem_of_getElem? (i := 238) rfl)))) rfl
set_option maxRecDepth 20000 in
theorem q656 : Cond.instanceMethod yX5_cell ∈ gW := gW_in (List.mem_append_right _ (List.mem_append_right _ (List.mem_append_left _ (List.mem_of_getElem? (i := 239) rfl)))) rfl
set_option maxRecDepth 20000 in
theorem q657 : Cond.selects RX5 yX5_cell yX5_cell ∈ gW := gW_in (List.mem_append_right _ (List.mem_append_right _ (List.mem_append_right _ (List.mem_append_left _ (List.mem_of_getElem? (i := 0) rfl))))) rfl
set_option maxRecDepth 20000 in
theorem q658 : Cond.code yX5_cell cX5_cell 4 (some .long) ∈ gW := gW_in (List.mem_append_right _ (List.mem_append_right _ (List.mem_append_right _ (List.mem_append_left _ (List.mem_of_getElem? (i := 1) rfl))))) rfl
set_option maxRecDepth 20000 in
theorem q659 : Cond.methodLink RL 112 yX6_cell ∈ gW := gW_in (List.mem_append_right _ (List.mem_append_right _ (List.mem_append_right _ (List.mem_append_right _ (List.mem_of_getElem? (i := 114) rfl))))) rfl
set_option maxRecDepth 20000 in
theorem q660 : Cond.instanceMethod yX6_cell ∈ gW := gW_in (List.mem_append_right _ (List.mem_append_right _ (List.mem_append_right _ (List.mem_append_right _ (List.mem_of_getElem? (i := 115) rfl))))) rfl
set_option maxRecDepth 20000 in
theorem q661 : Cond.selects RX6 yX6_cell yX6_cell ∈ gW := gW_in (List.mem_append_right _ (List.mem_append_right _ (List.mem_append_right _ (List.mem_append_right _ (List.mem_of_getElem? (i := 116) rfl))))) rfl
set_option maxRecDepth 20000 in
theorem q662 : Cond.code yX6_cell cX6_cell 4 (some .long) ∈ gW := gW_in (List.mem_append_right _ (List.mem_append_right _ (List.mem_append_right _ (List.mem_append_right _ (List.mem_of_getElem? (i := 117) rfl))))) rfl
set_option maxRecDepth 20000 in
theorem q663 : Cond.methodLink RX6 196 yX6_lost ∈ gW := gW_in (List.mem_append_right _ (List.mem_append_right _ (List.mem_append_right _ (List.mem_append_right _ (List.mem_of_getElem? (i := 118) rfl))))) rfl
set_option maxRecDepth 20000 in
theorem q664 : Cond.instanceMethod yX6_lost ∈ gW := gW_in (List.mem_append_right _ (List.mem_append_right _ (List.mem_append_right _ (List.mem_append_right _ (List.mem_of_getElem? (i := 120) rfl))))) rfl
set_option maxRecDepth 20000 in
theorem q665 : Cond.selects RX6 yX6_lost yX6_lost ∈ gW := gW_in (List.mem_append_left _ (List.mem_of_getElem? (i := 47) rfl)) rfl
set_option maxRecDepth 20000 in
theorem q666 : Cond.code yX6_lost cX6_lost 2 (some .long) ∈ gW := gW_in (List.mem_append_right _ (List.mem_append_right _ (List.mem_append_right _ (List.mem_append_right _ (List.mem_of_getElem? (i := 121) rfl))))) rfl
set_option maxRecDepth 20000 in
theorem q667 : Cond.methodLink RL 113 yX5_copy ∈ gW := gW_in (List.mem_append_right _ (List.mem_append_right _ (List.mem_append_right _ (List.mem_append_left _ (List.mem_of_getElem? (i := 2) rfl))))) rfl
set_option maxRecDepth 20000 in
theorem q668 : Cond.instanceMethod yX5_copy ∈ gW := gW_in (List.mem_append_right _ (List.mem_append_right _ (List.mem_append_right _ (List.mem_append_left _ (List.mem_of_getElem? (i := 3) rfl))))) rfl
set_option maxRecDepth 20000 in
theorem q669 : Cond.selects RX5 yX5_copy yX5_copy ∈ gW := gW_in (List.mem_append_right _ (List.mem_append_right _ (List.mem_append_right _ (List.mem_append_left _ (List.mem_of_getElem? (i := 4) rfl))))) rfl
set_option maxRecDepth 20000 in
theorem q670 : Cond.code yX5_copy cX5_copy 6 (some .int) ∈ gW := gW_in (List.mem_append_right _ (List.mem_append_right _ (List.mem_append_right _ (List.mem_append_left _ (List.mem_of_getElem? (i := 5) rfl))))) rfl
set_option maxRecDepth 20000 in
theorem q671 : Cond.methodLink RX5 267 yX2_isLike ∈ gW := gW_in (List.mem_append_right _ (List.mem_append_right _ (List.mem_append_right _ (List.mem_append_left _ (List.mem_of_getElem? (i := 6) rfl))))) rfl
set_option maxRecDepth 20000 in
theorem q672 : Cond.instanceMethod yX2_isLike ∈ gW := gW_in (List.mem_append_right _ (List.mem_append_right _ (List.mem_append_right _ (List.mem_append_left _ (List.mem_of_getElem? (i := 7) rfl))))) rfl
set_option maxRecDepth 20000 in
theorem q673 : Cond.selects RX2 yX2_isLike yX2_isLike ∈ gW := gW_in (List.mem_append_right _ (List.mem_append_right _ (List.mem_append_right _ (List.mem_append_left _ (List.mem_of_getElem? (i := 8) rfl))))) rfl
set_option maxRecDepth 20000 in
theorem q674 : Cond.code yX2_isLike cX2_isLike 2 (some .boolean) ∈ gW := gW_in (List.mem_append_right _ (List.mem_append_right _ (List.mem_append_right _ (List.mem_append_left _ (List.mem_of_getElem? (i := 9) rfl))))) rfl
set_option maxRecDepth 20000 in
theorem q675 : Cond.methodLink RX5 271 yX2_send ∈ gW := gW_in (List.mem_append_right _ (List.mem_append_right _ (List.mem_append_right _ (List.mem_append_left _ (List.mem_of_getElem? (i := 10) rfl))))) rfl
set_option maxRecDepth 20000 in
theorem q676 : Cond.instanceMethod yX2_send ∈ gW := gW_in (List.mem_append_right _ (List.mem_append_right _ (List.mem_append_right _ (List.mem_append_left _ (List.mem_of_getElem? (i := 11) rfl))))) rfl
set_option maxRecDepth 20000 in
theorem q677 : Cond.selects RX2 yX2_send yX2_send ∈ gW := gW_in (List.mem_append_right _ (List.mem_append_right _ (List.mem_append_right _ (List.mem_append_left _ (List.mem_of_getElem? (i := 12) rfl))))) rfl
set_option maxRecDepth 20000 in
theorem q678 : Cond.code yX2_send cX2_send 5 none ∈ gW := gW_in (List.mem_append_right _ (List.mem_append_right _ (List.mem_append_right _ (List.mem_append_left _ (List.mem_of_getElem? (i := 13) rfl))))) rfl
set_option maxRecDepth 20000 in
theorem q679 : Cond.methodLink RX2 52 arraycopyName ∈ gW := gW_in (List.mem_append_right _ (List.mem_append_right _ (List.mem_append_right _ (List.mem_append_left _ (List.mem_of_getElem? (i := 14) rfl))))) rfl
set_option maxRecDepth 20000 in
theorem q680 : Cond.native arraycopyName ∈ gW := gW_in (List.mem_append_right _ (List.mem_append_right _ (List.mem_append_right _ (List.mem_append_left _ (List.mem_of_getElem? (i := 16) rfl))))) rfl
set_option maxRecDepth 20000 in
theorem q681 : Cond.static arraycopyName ∈ gW := gW_in (List.mem_append_right _ (List.mem_append_right _ (List.mem_append_right _ (List.mem_append_left _ (List.mem_of_getElem? (i := 15) rfl))))) rfl
set_option maxRecDepth 20000 in
theorem q682 : Cond.initialized "java/lang/System" ∈ gW := gW_in (List.mem_append_right _ (List.mem_append_left _ (List.mem_of_getElem? (i := 11) rfl))) rfl
set_option maxRecDepth 20000 in
theorem q683 : Cond.methodLink RL 116 yX6_copy ∈ gW := gW_in (List.mem_append_right _ (List.mem_append_right _ (List.mem_append_right _ (List.mem_append_right _ (List.mem_of_getElem? (i := 122) rfl))))) rfl
set_option maxRecDepth 20000 in
theorem q684 : Cond.instanceMethod yX6_copy ∈ gW := gW_in (List.mem_append_right _ (List.mem_append_right _ (List.mem_append_right _ (List.mem_append_right _ (List.mem_of_getElem? (i := 123) rfl))))) rfl
set_option maxRecDepth 20000 in
theorem q685 : Cond.selects RX6 yX6_copy yX6_copy ∈ gW := gW_in (List.mem_append_right _ (List.mem_append_right _ (List.mem_append_right _ (List.mem_append_right _ (List.mem_of_getElem? (i := 124) rfl))))) rfl
set_option maxRecDepth 20000 in
theorem q686 : Cond.code yX6_copy cX6_copy 10 (some .int) ∈ gW := gW_in (List.mem_append_right _ (List.mem_append_right _ (List.mem_append_right _ (List.mem_append_right _ (List.mem_of_getElem? (i := 125) rfl))))) rfl
set_option maxRecDepth 20000 in
theorem q687 : Cond.methodLink RL 117 yX5_tell ∈ gW := gW_in (List.mem_append_right _ (List.mem_append_right _ (List.mem_append_right _ (List.mem_append_left _ (List.mem_of_getElem? (i := 17) rfl))))) rfl
set_option maxRecDepth 20000 in
theorem q688 : Cond.instanceMethod yX5_tell ∈ gW := gW_in (List.mem_append_right _ (List.mem_append_right _ (List.mem_append_right _ (List.mem_append_left _ (List.mem_of_getElem? (i := 18) rfl))))) rfl
set_option maxRecDepth 20000 in
theorem q689 : Cond.selects RX5 yX5_tell yX5_tell ∈ gW := gW_in (List.mem_append_right _ (List.mem_append_right _ (List.mem_append_right _ (List.mem_append_left _ (List.mem_of_getElem? (i := 19) rfl))))) rfl
set_option maxRecDepth 20000 in
theorem q690 : Cond.code yX5_tell cX5_tell 2 (some .int) ∈ gW := gW_in (List.mem_append_right _ (List.mem_append_right _ (List.mem_append_right _ (List.mem_append_left _ (List.mem_of_getElem? (i := 20) rfl))))) rfl
set_option maxRecDepth 20000 in
theorem q691 : Cond.methodLink RX5 275 yX5_tellBrushed ∈ gW := gW_in (List.mem_append_right _ (List.mem_append_right _ (List.mem_append_right _ (List.mem_append_left _ (List.mem_of_getElem? (i := 21) rfl))))) rfl
set_option maxRecDepth 20000 in
theorem q692 : Cond.instanceMethod yX5_tellBrushed ∈ gW := gW_in (List.mem_append_right _ (List.mem_append_right _ (List.mem_append_right _ (List.mem_append_left _ (List.mem_of_getElem? (i := 23) rfl))))) rfl
set_option maxRecDepth 20000 in
theorem q693 : Cond.selects RX5 yX5_tellBrushed yX5_tellBrushed ∈ gW := gW_in (List.mem_append_left _ (List.mem_of_getElem? (i := 17) rfl)) rfl
set_option maxRecDepth 20000 in
theorem q694 : Cond.code yX5_tellBrushed cX5_tellBrushed 2 (some .int) ∈ gW := gW_in (List.mem_append_right _ (List.mem_append_right _ (List.mem_append_right _ (List.mem_append_left _ (List.mem_of_getElem? (i := 24) rfl))))) rfl
set_option maxRecDepth 20000 in
theorem q695 : Cond.methodLink RX5 285 yX5_leave ∈ gW := gW_in (List.mem_append_right _ (List.mem_append_right _ (List.mem_append_right _ (List.mem_append_left _ (List.mem_of_getElem? (i := 25) rfl))))) rfl
set_option maxRecDepth 20000 in
theorem q696 : Cond.instanceMethod yX5_leave ∈ gW := gW_in (List.mem_append_right _ (List.mem_append_right _ (List.mem_append_right _ (List.mem_append_left _ (List.mem_of_getElem? (i := 27) rfl))))) rfl
set_option maxRecDepth 20000 in
theorem q697 : Cond.selects RX5 yX5_leave yX5_leave ∈ gW := gW_in (List.mem_append_left _ (List.mem_of_getElem? (i := 18) rfl)) rfl
set_option maxRecDepth 20000 in
theorem q698 : Cond.code yX5_leave cX5_leave 2 none ∈ gW := gW_in (List.mem_append_right _ (List.mem_append_right _ (List.mem_append_right _ (List.mem_append_left _ (List.mem_of_getElem? (i := 28) rfl))))) rfl
set_option maxRecDepth 20000 in
theorem q699 : Cond.fieldLink RX5 289 "NestedDolls" "traced" "I" ∈ gW := gW_in (List.mem_append_right _ (List.mem_append_left _ (List.mem_of_getElem? (i := 101) rfl))) rfl
set_option maxRecDepth 20000 in
theorem q700 : Cond.methodLink RX5 282 yX5_tellPlain ∈ gW := gW_in (List.mem_append_right _ (List.mem_append_right _ (List.mem_append_right _ (List.mem_append_left _ (List.mem_of_getElem? (i := 29) rfl))))) rfl
set_option maxRecDepth 20000 in
theorem q701 : Cond.instanceMethod yX5_tellPlain ∈ gW := gW_in (List.mem_append_right _ (List.mem_append_right _ (List.mem_append_right _ (List.mem_append_left _ (List.mem_of_getElem? (i := 31) rfl))))) rfl
set_option maxRecDepth 20000 in
theorem q702 : Cond.selects RX5 yX5_tellPlain yX5_tellPlain ∈ gW := gW_in (List.mem_append_left _ (List.mem_of_getElem? (i := 19) rfl)) rfl
set_option maxRecDepth 20000 in
theorem q703 : Cond.code yX5_tellPlain cX5_tellPlain 2 (some .int) ∈ gW := gW_in (List.mem_append_right _ (List.mem_append_right _ (List.mem_append_right _ (List.mem_append_left _ (List.mem_of_getElem? (i := 32) rfl))))) rfl
set_option maxRecDepth 20000 in
theorem q704 : Cond.methodLink RX5 279 yX5_tellSwollen ∈ gW := gW_in (List.mem_append_right _ (List.mem_append_right _ (List.mem_append_right _ (List.mem_append_left _ (List.mem_of_getElem? (i := 33) rfl))))) rfl
set_option maxRecDepth 20000 in
theorem q705 : Cond.instanceMethod yX5_tellSwollen ∈ gW := gW_in (List.mem_append_right _ (List.mem_append_right _ (List.mem_append_right _ (List.mem_append_left _ (List.mem_of_getElem? (i := 35) rfl))))) rfl
set_option maxRecDepth 20000 in
theorem q706 : Cond.selects RX5 yX5_tellSwollen yX5_tellSwollen ∈ gW := gW_in (List.mem_append_left _ (List.mem_of_getElem? (i := 20) rfl)) rfl
set_option maxRecDepth 20000 in
theorem q707 : Cond.code yX5_tellSwollen cX5_tellSwollen 3 (some .int) ∈ gW := gW_in (List.mem_append_right _ (List.mem_append_right _ (List.mem_append_right _ (List.mem_append_left _ (List.mem_of_getElem? (i := 36) rfl))))) rfl
set_option maxRecDepth 20000 in
theorem q708 : Cond.methodLink RL 120 yX6_tell ∈ gW := gW_in (List.mem_append_right _ (List.mem_append_right _ (List.mem_append_right _ (List.mem_append_right _ (List.mem_of_getElem? (i := 126) rfl))))) rfl
set_option maxRecDepth 20000 in
theorem q709 : Cond.instanceMethod yX6_tell ∈ gW := gW_in (List.mem_append_right _ (List.mem_append_right _ (List.mem_append_right _ (List.mem_append_right _ (List.mem_of_getElem? (i := 127) rfl))))) rfl
set_option maxRecDepth 20000 in
theorem q710 : Cond.selects RX6 yX6_tell yX6_tell ∈ gW := gW_in (List.mem_append_right _ (List.mem_append_right _ (List.mem_append_right _ (List.mem_append_right _ (List.mem_of_getElem? (i := 128) rfl))))) rfl
set_option maxRecDepth 20000 in
theorem q711 : Cond.code yX6_tell cX6_tell 3 (some .int) ∈ gW := gW_in (List.mem_append_right _ (List.mem_append_right _ (List.mem_append_right _ (List.mem_append_right _ (List.mem_of_getElem? (i := 129) rfl))))) rfl
set_option maxRecDepth 20000 in
theorem q712 : Cond.methodLink RX6 203 yX6_begins ∈ gW := gW_in (List.mem_append_right _ (List.mem_append_right _ (List.mem_append_right _ (List.mem_append_right _ (List.mem_of_getElem? (i := 130) rfl))))) rfl
set_option maxRecDepth 20000 in
theorem q713 : Cond.instanceMethod yX6_begins ∈ gW := gW_in (List.mem_append_right _ (List.mem_append_right _ (List.mem_append_right _ (List.mem_append_right _ (List.mem_of_getElem? (i := 132) rfl))))) rfl
set_option maxRecDepth 20000 in
theorem q714 : Cond.selects RX6 yX6_begins yX6_begins ∈ gW := gW_in (List.mem_append_left _ (List.mem_of_getElem? (i := 48) rfl)) rfl
set_option maxRecDepth 20000 in
theorem q715 : Cond.code yX6_begins cX6_begins 2 none ∈ gW := gW_in (List.mem_append_right _ (List.mem_append_right _ (List.mem_append_right _ (List.mem_append_right _ (List.mem_of_getElem? (i := 133) rfl))))) rfl
set_option maxRecDepth 20000 in
theorem q716 : Cond.fieldLink RX6 200 "NestedDollsModel" "trace" "I" ∈ gW := gW_in (List.mem_append_right _ (List.mem_append_right _ (List.mem_append_right _ (List.mem_append_left _ (List.mem_of_getElem? (i := 65) rfl))))) rfl
set_option maxRecDepth 20000 in
theorem q717 : Cond.methodLink RL 121 yX5_shake ∈ gW := gW_in (List.mem_append_right _ (List.mem_append_right _ (List.mem_append_right _ (List.mem_append_left _ (List.mem_of_getElem? (i := 37) rfl))))) rfl
set_option maxRecDepth 20000 in
theorem q718 : Cond.instanceMethod yX5_shake ∈ gW := gW_in (List.mem_append_right _ (List.mem_append_right _ (List.mem_append_right _ (List.mem_append_left _ (List.mem_of_getElem? (i := 38) rfl))))) rfl
set_option maxRecDepth 20000 in
theorem q719 : Cond.selects RX5 yX5_shake yX5_shake ∈ gW := gW_in (List.mem_append_right _ (List.mem_append_right _ (List.mem_append_right _ (List.mem_append_left _ (List.mem_of_getElem? (i := 39) rfl))))) rfl
set_option maxRecDepth 20000 in
theorem q720 : Cond.code yX5_shake cX5_shake 2 (some .int) ∈ gW := gW_in (List.mem_append_right _ (List.mem_append_right _ (List.mem_append_right _ (List.mem_append_left _ (List.mem_of_getElem? (i := 40) rfl))))) rfl
set_option maxRecDepth 20000 in
theorem q721 : Cond.methodLink RL 124 yX6_shake ∈ gW := gW_in (List.mem_append_right _ (List.mem_append_right _ (List.mem_append_right _ (List.mem_append_right _ (List.mem_of_getElem? (i := 134) rfl))))) rfl
set_option maxRecDepth 20000 in
theorem q722 : Cond.instanceMethod yX6_shake ∈ gW := gW_in (List.mem_append_right _ (List.mem_append_right _ (List.mem_append_right _ (List.mem_append_right _ (List.mem_of_getElem? (i := 135) rfl))))) rfl
set_option maxRecDepth 20000 in
theorem q723 : Cond.selects RX6 yX6_shake yX6_shake ∈ gW := gW_in (List.mem_append_right _ (List.mem_append_right _ (List.mem_append_right _ (List.mem_append_right _ (List.mem_of_getElem? (i := 136) rfl))))) rfl
set_option maxRecDepth 20000 in
theorem q724 : Cond.code yX6_shake cX6_shake 2 (some .int) ∈ gW := gW_in (List.mem_append_right _ (List.mem_append_right _ (List.mem_append_right _ (List.mem_append_right _ (List.mem_of_getElem? (i := 137) rfl))))) rfl
set_option maxRecDepth 20000 in
theorem q725 : Cond.methodLink RL 125 yX5_as ∈ gW := gW_in (List.mem_append_right _ (List.mem_append_right _ (List.mem_append_right _ (List.mem_append_left _ (List.mem_of_getElem? (i := 41) rfl))))) rfl
set_option maxRecDepth 20000 in
theorem q726 : Cond.instanceMethod yX5_as ∈ gW := gW_in (List.mem_append_right _ (List.mem_append_right _ (List.mem_append_right _ (List.mem_append_left _ (List.mem_of_getElem? (i := 42) rfl))))) rfl
set_option maxRecDepth 20000 in
theorem q727 : Cond.selects RX5 yX5_as yX5_as ∈ gW := gW_in (List.mem_append_right _ (List.mem_append_right _ (List.mem_append_right _ (List.mem_append_left _ (List.mem_of_getElem? (i := 43) rfl))))) rfl
set_option maxRecDepth 20000 in
theorem q728 : Cond.code yX5_as cX5_as 3 (some .int) ∈ gW := gW_in (List.mem_append_right _ (List.mem_append_right _ (List.mem_append_right _ (List.mem_append_left _ (List.mem_of_getElem? (i := 44) rfl))))) rfl
set_option maxRecDepth 20000 in
theorem q729 : Cond.methodLink RL 128 yX6_as ∈ gW := gW_in (List.mem_append_right _ (List.mem_append_right _ (List.mem_append_right _ (List.mem_append_right _ (List.mem_of_getElem? (i := 138) rfl))))) rfl
set_option maxRecDepth 20000 in
theorem q730 : Cond.instanceMethod yX6_as ∈ gW := gW_in (List.mem_append_right _ (List.mem_append_right _ (List.mem_append_right _ (List.mem_append_right _ (List.mem_of_getElem? (i := 139) rfl))))) rfl
set_option maxRecDepth 20000 in
theorem q731 : Cond.selects RX6 yX6_as yX6_as ∈ gW := gW_in (List.mem_append_right _ (List.mem_append_right _ (List.mem_append_right _ (List.mem_append_right _ (List.mem_of_getElem? (i := 140) rfl))))) rfl
set_option maxRecDepth 20000 in
theorem q732 : Cond.code yX6_as cX6_as 3 (some .int) ∈ gW := gW_in (List.mem_append_right _ (List.mem_append_right _ (List.mem_append_right _ (List.mem_append_right _ (List.mem_of_getElem? (i := 141) rfl))))) rfl
set_option maxRecDepth 20000 in
theorem q733 : Cond.methodLink RL 129 yX5_trace ∈ gW := gW_in (List.mem_append_right _ (List.mem_append_right _ (List.mem_append_right _ (List.mem_append_left _ (List.mem_of_getElem? (i := 45) rfl))))) rfl
set_option maxRecDepth 20000 in
theorem q734 : Cond.instanceMethod yX5_trace ∈ gW := gW_in (List.mem_append_right _ (List.mem_append_right _ (List.mem_append_right _ (List.mem_append_left _ (List.mem_of_getElem? (i := 46) rfl))))) rfl
set_option maxRecDepth 20000 in
theorem q735 : Cond.selects RX5 yX5_trace yX5_trace ∈ gW := gW_in (List.mem_append_right _ (List.mem_append_right _ (List.mem_append_right _ (List.mem_append_left _ (List.mem_of_getElem? (i := 47) rfl))))) rfl
set_option maxRecDepth 20000 in
theorem q736 : Cond.code yX5_trace cX5_trace 1 (some .int) ∈ gW := gW_in (List.mem_append_right _ (List.mem_append_right _ (List.mem_append_right _ (List.mem_append_left _ (List.mem_of_getElem? (i := 48) rfl))))) rfl
set_option maxRecDepth 20000 in
theorem q737 : Cond.methodLink RL 132 yX6_trace ∈ gW := gW_in (List.mem_append_right _ (List.mem_append_right _ (List.mem_append_right _ (List.mem_append_right _ (List.mem_of_getElem? (i := 142) rfl))))) rfl
set_option maxRecDepth 20000 in
theorem q738 : Cond.instanceMethod yX6_trace ∈ gW := gW_in (List.mem_append_right _ (List.mem_append_right _ (List.mem_append_right _ (List.mem_append_right _ (List.mem_of_getElem? (i := 143) rfl))))) rfl
set_option maxRecDepth 20000 in
theorem q739 : Cond.selects RX6 yX6_trace yX6_trace ∈ gW := gW_in (List.mem_append_right _ (List.mem_append_right _ (List.mem_append_right _ (List.mem_append_right _ (List.mem_of_getElem? (i := 144) rfl))))) rfl
set_option maxRecDepth 20000 in
theorem q740 : Cond.code yX6_trace cX6_trace 1 (some .int) ∈ gW := gW_in (List.mem_append_right _ (List.mem_append_right _ (List.mem_append_right _ (List.mem_append_right _ (List.mem_of_getElem? (i := 145) rfl))))) rfl
set_option maxRecDepth 20000 in
theorem q741 : Cond.methodLink RL 133 yX5_fault ∈ gW := gW_in (List.mem_append_right _ (List.mem_append_right _ (List.mem_append_right _ (List.mem_append_left _ (List.mem_of_getElem? (i := 49) rfl))))) rfl
set_option maxRecDepth 20000 in
theorem q742 : Cond.instanceMethod yX5_fault ∈ gW := gW_in (List.mem_append_right _ (List.mem_append_right _ (List.mem_append_right _ (List.mem_append_left _ (List.mem_of_getElem? (i := 50) rfl))))) rfl
set_option maxRecDepth 20000 in
theorem q743 : Cond.selects RX5 yX5_fault yX5_fault ∈ gW := gW_in (List.mem_append_right _ (List.mem_append_right _ (List.mem_append_right _ (List.mem_append_left _ (List.mem_of_getElem? (i := 51) rfl))))) rfl
set_option maxRecDepth 20000 in
theorem q744 : Cond.code yX5_fault cX5_fault 1 (some .int) ∈ gW := gW_in (List.mem_append_right _ (List.mem_append_right _ (List.mem_append_right _ (List.mem_append_left _ (List.mem_of_getElem? (i := 52) rfl))))) rfl
set_option maxRecDepth 20000 in
theorem q745 : Cond.methodLink RL 136 yX6_fault ∈ gW := gW_in (List.mem_append_right _ (List.mem_append_right _ (List.mem_append_right _ (List.mem_append_right _ (List.mem_of_getElem? (i := 146) rfl))))) rfl
set_option maxRecDepth 20000 in
theorem q746 : Cond.instanceMethod yX6_fault ∈ gW := gW_in (List.mem_append_right _ (List.mem_append_right _ (List.mem_append_right _ (List.mem_append_right _ (List.mem_of_getElem? (i := 147) rfl))))) rfl
set_option maxRecDepth 20000 in
theorem q747 : Cond.selects RX6 yX6_fault yX6_fault ∈ gW := gW_in (List.mem_append_right _ (List.mem_append_right _ (List.mem_append_right _ (List.mem_append_right _ (List.mem_of_getElem? (i := 148) rfl))))) rfl
set_option maxRecDepth 20000 in
theorem q748 : Cond.code yX6_fault cX6_fault 1 (some .int) ∈ gW := gW_in (List.mem_append_right _ (List.mem_append_right _ (List.mem_append_right _ (List.mem_append_right _ (List.mem_of_getElem? (i := 149) rfl))))) rfl
set_option maxRecDepth 20000 in
theorem q749 : Cond.methodLink RL 137 yX5_many ∈ gW := gW_in (List.mem_append_right _ (List.mem_append_right _ (List.mem_append_right _ (List.mem_append_left _ (List.mem_of_getElem? (i := 53) rfl))))) rfl
set_option maxRecDepth 20000 in
theorem q750 : Cond.instanceMethod yX5_many ∈ gW := gW_in (List.mem_append_right _ (List.mem_append_right _ (List.mem_append_right _ (List.mem_append_left _ (List.mem_of_getElem? (i := 54) rfl))))) rfl
set_option maxRecDepth 20000 in
theorem q751 : Cond.selects RX5 yX5_many yX5_many ∈ gW := gW_in (List.mem_append_right _ (List.mem_append_right _ (List.mem_append_right _ (List.mem_append_left _ (List.mem_of_getElem? (i := 55) rfl))))) rfl
set_option maxRecDepth 20000 in
theorem q752 : Cond.code yX5_many cX5_many 2 (some .int) ∈ gW := gW_in (List.mem_append_right _ (List.mem_append_right _ (List.mem_append_right _ (List.mem_append_left _ (List.mem_of_getElem? (i := 56) rfl))))) rfl
set_option maxRecDepth 20000 in
theorem q753 : Cond.methodLink RL 140 yX6_many ∈ gW := gW_in (List.mem_append_right _ (List.mem_append_right _ (List.mem_append_right _ (List.mem_append_right _ (List.mem_of_getElem? (i := 150) rfl))))) rfl
set_option maxRecDepth 20000 in
theorem q754 : Cond.instanceMethod yX6_many ∈ gW := gW_in (List.mem_append_right _ (List.mem_append_right _ (List.mem_append_right _ (List.mem_append_right _ (List.mem_of_getElem? (i := 151) rfl))))) rfl
set_option maxRecDepth 20000 in
theorem q755 : Cond.selects RX6 yX6_many yX6_many ∈ gW := gW_in (List.mem_append_right _ (List.mem_append_right _ (List.mem_append_right _ (List.mem_append_right _ (List.mem_of_getElem? (i := 152) rfl))))) rfl
set_option maxRecDepth 20000 in
theorem q756 : Cond.code yX6_many cX6_many 4 (some .int) ∈ gW := gW_in (List.mem_append_right _ (List.mem_append_right _ (List.mem_append_right _ (List.mem_append_right _ (List.mem_of_getElem? (i := 153) rfl))))) rfl
set_option maxRecDepth 20000 in
theorem q757 : Cond.lays "NestedDolls$Doll" "NestedDolls$Doll" "kind" "I" ∈ gW := gW_in (List.mem_append_right _ (List.mem_append_left _ (List.mem_of_getElem? (i := 69) rfl))) rfl
set_option maxRecDepth 20000 in
theorem q758 : Cond.lays "NestedDolls$Doll" "NestedDolls$Doll" "girth" "I" ∈ gW := gW_in (List.mem_append_right _ (List.mem_append_left _ (List.mem_of_getElem? (i := 71) rfl))) rfl
set_option maxRecDepth 20000 in
theorem q759 : Cond.lays "NestedDolls$Doll" "NestedDolls$Doll" "room" "I" ∈ gW := gW_in (List.mem_append_right _ (List.mem_append_left _ (List.mem_of_getElem? (i := 73) rfl))) rfl
set_option maxRecDepth 20000 in
theorem q760 : Cond.laysFinal "NestedDolls$Search" "NestedDolls$Search" "reached" "[I" ∈ gW := gW_in (List.mem_append_right _ (List.mem_append_left _ (List.mem_of_getElem? (i := 37) rfl))) rfl
set_option maxRecDepth 20000 in
theorem q761 : Cond.laysFinal "NestedDolls$Search" "NestedDolls$Search" "from" "[I" ∈ gW := gW_in (List.mem_append_right _ (List.mem_append_left _ (List.mem_of_getElem? (i := 39) rfl))) rfl
set_option maxRecDepth 20000 in
theorem q762 : Cond.laysFinal "NestedDolls$Search" "NestedDolls$Search" "by" "[I" ∈ gW := gW_in (List.mem_append_right _ (List.mem_append_left _ (List.mem_of_getElem? (i := 41) rfl))) rfl
set_option maxRecDepth 20000 in
theorem q763 : Cond.laysFinal "NestedDolls$Search" "NestedDolls$Search" "seen" "[J" ∈ gW := gW_in (List.mem_append_right _ (List.mem_append_left _ (List.mem_of_getElem? (i := 43) rfl))) rfl
set_option maxRecDepth 20000 in
theorem q764 : Cond.lays "NestedDolls$Search" "NestedDolls$Search" "many" "I" ∈ gW := gW_in (List.mem_append_right _ (List.mem_append_left _ (List.mem_of_getElem? (i := 45) rfl))) rfl
set_option maxRecDepth 20000 in
theorem q765 : Cond.lays "NestedDolls$Search" "NestedDolls$Search" "count" "I" ∈ gW := gW_in (List.mem_append_right _ (List.mem_append_left _ (List.mem_of_getElem? (i := 47) rfl))) rfl
set_option maxRecDepth 20000 in
theorem q766 : Cond.lays "NestedDolls$Search" "NestedDolls$Search" "fitting" "I" ∈ gW := gW_in (List.mem_append_right _ (List.mem_append_left _ (List.mem_of_getElem? (i := 49) rfl))) rfl
set_option maxRecDepth 20000 in
theorem q767 : Cond.laysFinal "NestedDolls$Sheet" "NestedDolls$Sheet" "cells" "[I" ∈ gW := gW_in (List.mem_append_right _ (List.mem_append_left _ (List.mem_of_getElem? (i := 84) rfl))) rfl
set_option maxRecDepth 20000 in
theorem q768 : Cond.lays "NestedDolls$Sheet" "NestedDolls$Sheet" "laneOfRow" "I" ∈ gW := gW_in (List.mem_append_right _ (List.mem_append_left _ (List.mem_of_getElem? (i := 86) rfl))) rfl
set_option maxRecDepth 20000 in
theorem q769 : Cond.lays "NestedDolls$Sheet" "NestedDolls$Sheet" "size" "I" ∈ gW := gW_in (List.mem_append_right _ (List.mem_append_left _ (List.mem_of_getElem? (i := 88) rfl))) rfl
set_option maxRecDepth 20000 in
theorem q770 : Cond.laysFinal "NestedDolls" "NestedDolls" "row" "[LNestedDolls$Doll;" ∈ gW := gW_in (List.mem_append_right _ (List.mem_append_left _ (List.mem_of_getElem? (i := 103) rfl))) rfl
set_option maxRecDepth 20000 in
theorem q771 : Cond.laysFinal "NestedDolls" "NestedDolls" "sheets" "[LNestedDolls$Sheet;" ∈ gW := gW_in (List.mem_append_right _ (List.mem_append_left _ (List.mem_of_getElem? (i := 105) rfl))) rfl
set_option maxRecDepth 20000 in
theorem q772 : Cond.laysFinal "NestedDolls" "NestedDolls" "readFirst" "[I" ∈ gW := gW_in (List.mem_append_right _ (List.mem_append_left _ (List.mem_of_getElem? (i := 107) rfl))) rfl
set_option maxRecDepth 20000 in
theorem q773 : Cond.laysFinal "NestedDolls" "NestedDolls" "readSecond" "[I" ∈ gW := gW_in (List.mem_append_right _ (List.mem_append_left _ (List.mem_of_getElem? (i := 109) rfl))) rfl
set_option maxRecDepth 20000 in
theorem q774 : Cond.laysFinal "NestedDolls" "NestedDolls" "readFits" "[Z" ∈ gW := gW_in (List.mem_append_right _ (List.mem_append_left _ (List.mem_of_getElem? (i := 111) rfl))) rfl
set_option maxRecDepth 20000 in
theorem q775 : Cond.laysFinal "NestedDolls" "NestedDolls" "search" "LNestedDolls$Search;" ∈ gW := gW_in (List.mem_append_right _ (List.mem_append_left _ (List.mem_of_getElem? (i := 113) rfl))) rfl
set_option maxRecDepth 20000 in
theorem q776 : Cond.lays "NestedDolls" "NestedDolls" "count" "I" ∈ gW := gW_in (List.mem_append_right _ (List.mem_append_left _ (List.mem_of_getElem? (i := 115) rfl))) rfl
set_option maxRecDepth 20000 in
theorem q777 : Cond.lays "NestedDolls" "NestedDolls" "stand" "I" ∈ gW := gW_in (List.mem_append_right _ (List.mem_append_left _ (List.mem_of_getElem? (i := 117) rfl))) rfl
set_option maxRecDepth 20000 in
theorem q778 : Cond.lays "NestedDolls" "NestedDolls" "acts" "I" ∈ gW := gW_in (List.mem_append_right _ (List.mem_append_left _ (List.mem_of_getElem? (i := 119) rfl))) rfl
set_option maxRecDepth 20000 in
theorem q779 : Cond.lays "NestedDolls" "NestedDolls" "readings" "I" ∈ gW := gW_in (List.mem_append_right _ (List.mem_append_left _ (List.mem_of_getElem? (i := 121) rfl))) rfl
set_option maxRecDepth 20000 in
theorem q780 : Cond.lays "NestedDolls" "NestedDolls" "traced" "I" ∈ gW := gW_in (List.mem_append_right _ (List.mem_append_left _ (List.mem_of_getElem? (i := 123) rfl))) rfl
set_option maxRecDepth 20000 in
theorem q781 : Cond.lays "NestedDolls" "NestedDolls" "latestFault" "I" ∈ gW := gW_in (List.mem_append_right _ (List.mem_append_left _ (List.mem_of_getElem? (i := 125) rfl))) rfl
set_option maxRecDepth 20000 in
theorem q782 : Cond.lays "NestedDollsModel" "NestedDollsModel" "fault" "I" ∈ gW := gW_in (List.mem_append_right _ (List.mem_append_right _ (List.mem_append_right _ (List.mem_append_left _ (List.mem_of_getElem? (i := 91) rfl))))) rfl
set_option maxRecDepth 20000 in
theorem q783 : Cond.lays "NestedDollsModel" "NestedDollsModel" "trace" "I" ∈ gW := gW_in (List.mem_append_right _ (List.mem_append_right _ (List.mem_append_right _ (List.mem_append_left _ (List.mem_of_getElem? (i := 93) rfl))))) rfl
set_option maxRecDepth 20000 in
theorem q784 : Cond.laysFinal "NestedDollsModel" "NestedDollsModel" "sorts" "[I" ∈ gW := gW_in (List.mem_append_right _ (List.mem_append_right _ (List.mem_append_right _ (List.mem_append_left _ (List.mem_of_getElem? (i := 95) rfl))))) rfl
set_option maxRecDepth 20000 in
theorem q785 : Cond.laysFinal "NestedDollsModel" "NestedDollsModel" "sheetLong" "[I" ∈ gW := gW_in (List.mem_append_right _ (List.mem_append_right _ (List.mem_append_right _ (List.mem_append_left _ (List.mem_of_getElem? (i := 97) rfl))))) rfl
set_option maxRecDepth 20000 in
theorem q786 : Cond.laysFinal "NestedDollsModel" "NestedDollsModel" "cells" "[I" ∈ gW := gW_in (List.mem_append_right _ (List.mem_append_right _ (List.mem_append_right _ (List.mem_append_left _ (List.mem_of_getElem? (i := 99) rfl))))) rfl
set_option maxRecDepth 20000 in
theorem q787 : Cond.lays "NestedDollsModel" "NestedDollsModel" "dolls" "I" ∈ gW := gW_in (List.mem_append_right _ (List.mem_append_right _ (List.mem_append_right _ (List.mem_append_left _ (List.mem_of_getElem? (i := 101) rfl))))) rfl
set_option maxRecDepth 20000 in
theorem q788 : Cond.lays "NestedDollsModel" "NestedDollsModel" "done" "I" ∈ gW := gW_in (List.mem_append_right _ (List.mem_append_right _ (List.mem_append_right _ (List.mem_append_left _ (List.mem_of_getElem? (i := 103) rfl))))) rfl
set_option maxRecDepth 20000 in
theorem q789 : Cond.laysFinal "NestedDollsModel" "NestedDollsModel" "kind" "[I" ∈ gW := gW_in (List.mem_append_right _ (List.mem_append_right _ (List.mem_append_right _ (List.mem_append_left _ (List.mem_of_getElem? (i := 105) rfl))))) rfl
set_option maxRecDepth 20000 in
theorem q790 : Cond.laysFinal "NestedDollsModel" "NestedDollsModel" "girth" "[I" ∈ gW := gW_in (List.mem_append_right _ (List.mem_append_right _ (List.mem_append_right _ (List.mem_append_left _ (List.mem_of_getElem? (i := 107) rfl))))) rfl
set_option maxRecDepth 20000 in
theorem q791 : Cond.laysFinal "NestedDollsModel" "NestedDollsModel" "room" "[I" ∈ gW := gW_in (List.mem_append_right _ (List.mem_append_right _ (List.mem_append_right _ (List.mem_append_left _ (List.mem_of_getElem? (i := 109) rfl))))) rfl
set_option maxRecDepth 20000 in
theorem q792 : Cond.laysFinal "NestedDollsModel" "NestedDollsModel" "where" "[I" ∈ gW := gW_in (List.mem_append_right _ (List.mem_append_right _ (List.mem_append_right _ (List.mem_append_left _ (List.mem_of_getElem? (i := 111) rfl))))) rfl
set_option maxRecDepth 20000 in
theorem q793 : Cond.lays "NestedDollsModel" "NestedDollsModel" "open" "I" ∈ gW := gW_in (List.mem_append_right _ (List.mem_append_right _ (List.mem_append_right _ (List.mem_append_left _ (List.mem_of_getElem? (i := 113) rfl))))) rfl
set_option maxRecDepth 20000 in
theorem q794 : Cond.lays "NestedDollsModel" "NestedDollsModel" "at" "I" ∈ gW := gW_in (List.mem_append_right _ (List.mem_append_right _ (List.mem_append_right _ (List.mem_append_left _ (List.mem_of_getElem? (i := 115) rfl))))) rfl
set_option maxRecDepth 20000 in
theorem q795 : Cond.lays "NestedDollsModel" "NestedDollsModel" "readDolls" "I" ∈ gW := gW_in (List.mem_append_right _ (List.mem_append_right _ (List.mem_append_right _ (List.mem_append_left _ (List.mem_of_getElem? (i := 117) rfl))))) rfl
set_option maxRecDepth 20000 in
theorem q796 : Cond.laysFinal "NestedDollsModel" "NestedDollsModel" "read" "[I" ∈ gW := gW_in (List.mem_append_right _ (List.mem_append_right _ (List.mem_append_right _ (List.mem_append_left _ (List.mem_of_getElem? (i := 119) rfl))))) rfl
set_option maxRecDepth 20000 in
theorem q797 : Cond.laysFinal "NestedDollsModel" "NestedDollsModel" "placeOf" "[I" ∈ gW := gW_in (List.mem_append_right _ (List.mem_append_right _ (List.mem_append_right _ (List.mem_append_left _ (List.mem_of_getElem? (i := 121) rfl))))) rfl
set_option maxRecDepth 20000 in
theorem q798 : Cond.laysFinal "NestedDollsModel" "NestedDollsModel" "nests" "[I" ∈ gW := gW_in (List.mem_append_right _ (List.mem_append_right _ (List.mem_append_right _ (List.mem_append_left _ (List.mem_of_getElem? (i := 123) rfl))))) rfl
set_option maxRecDepth 20000 in
theorem q799 : Cond.laysFinal "NestedDollsModel" "NestedDollsModel" "leads" "[I" ∈ gW := gW_in (List.mem_append_right _ (List.mem_append_right _ (List.mem_append_right _ (List.mem_append_left _ (List.mem_of_getElem? (i := 125) rfl))))) rfl
set_option maxRecDepth 20000 in
theorem q800 : Cond.laysFinal "NestedDollsModel" "NestedDollsModel" "far" "[I" ∈ gW := gW_in (List.mem_append_right _ (List.mem_append_right _ (List.mem_append_right _ (List.mem_append_left _ (List.mem_of_getElem? (i := 127) rfl))))) rfl
set_option maxRecDepth 20000 in
theorem q801 : Cond.lays "NestedDollsModel" "NestedDollsModel" "come" "I" ∈ gW := gW_in (List.mem_append_right _ (List.mem_append_right _ (List.mem_append_right _ (List.mem_append_left _ (List.mem_of_getElem? (i := 129) rfl))))) rfl
set_option maxRecDepth 20000 in
theorem q802 : Cond.laysFinal "NestedDollsModel" "NestedDollsModel" "tidied" "[I" ∈ gW := gW_in (List.mem_append_right _ (List.mem_append_right _ (List.mem_append_right _ (List.mem_append_left _ (List.mem_of_getElem? (i := 131) rfl))))) rfl
set_option maxRecDepth 20000 in
theorem q803 : Cond.laysFinal "NestedDollsModel" "NestedDollsModel" "bestTidied" "[I" ∈ gW := gW_in (List.mem_append_right _ (List.mem_append_right _ (List.mem_append_right _ (List.mem_append_left _ (List.mem_of_getElem? (i := 133) rfl))))) rfl
set_option maxRecDepth 20000 in
theorem q804 : Cond.laysFinal "NestedDollsModel" "NestedDollsModel" "chains" "[I" ∈ gW := gW_in (List.mem_append_right _ (List.mem_append_right _ (List.mem_append_right _ (List.mem_append_left _ (List.mem_of_getElem? (i := 135) rfl))))) rfl
set_option maxRecDepth 20000 in
theorem q805 : Cond.lays "NestedDollsModel" "NestedDollsModel" "readings" "I" ∈ gW := gW_in (List.mem_append_right _ (List.mem_append_right _ (List.mem_append_right _ (List.mem_append_left _ (List.mem_of_getElem? (i := 137) rfl))))) rfl
set_option maxRecDepth 20000 in
theorem q806 : Cond.laysFinal "NestedDollsModel" "NestedDollsModel" "readOne" "[I" ∈ gW := gW_in (List.mem_append_right _ (List.mem_append_right _ (List.mem_append_right _ (List.mem_append_left _ (List.mem_of_getElem? (i := 139) rfl))))) rfl
set_option maxRecDepth 20000 in
theorem q807 : Cond.laysFinal "NestedDollsModel" "NestedDollsModel" "readOther" "[I" ∈ gW := gW_in (List.mem_append_right _ (List.mem_append_right _ (List.mem_append_right _ (List.mem_append_left _ (List.mem_of_getElem? (i := 141) rfl))))) rfl
set_option maxRecDepth 20000 in
theorem q808 : Cond.laysFinal "NestedDollsModel" "NestedDollsModel" "readFits" "[I" ∈ gW := gW_in (List.mem_append_right _ (List.mem_append_right _ (List.mem_append_right _ (List.mem_append_left _ (List.mem_of_getElem? (i := 143) rfl))))) rfl
theorem gX0 : ∀ w ∈ wsX00, w ∈ gW := by
  intro w h
  obtain ⟨k, hk, rfl⟩ := List.mem_map.mp h
  have hk := List.mem_range.mp hk
  match k, hk with
  | 0, _ => exact q757
  | 1, _ => exact q758
  | 2, _ => exact q759
  | k + 3, h => exact absurd h (by omega)
theorem gX1 : ∀ w ∈ wsX10, w ∈ gW := by
  intro w h
  obtain ⟨k, hk, rfl⟩ := List.mem_map.mp h
  have hk := List.mem_range.mp hk
  match k, hk with
  | 0, _ => exact q760
  | 1, _ => exact q761
  | 2, _ => exact q762
  | 3, _ => exact q763
  | 4, _ => exact q764
  | 5, _ => exact q765
  | 6, _ => exact q766
  | k + 7, h => exact absurd h (by omega)
theorem gX2 : ∀ w ∈ wsX20, w ∈ gW := by
  intro w h
  obtain ⟨k, hk, rfl⟩ := List.mem_map.mp h
  have hk := List.mem_range.mp hk
  match k, hk with
  | 0, _ => exact q767
  | 1, _ => exact q768
  | 2, _ => exact q769
  | k + 3, h => exact absurd h (by omega)
theorem gX5 : ∀ w ∈ wsX50, w ∈ gW := by
  intro w h
  obtain ⟨k, hk, rfl⟩ := List.mem_map.mp h
  have hk := List.mem_range.mp hk
  match k, hk with
  | 0, _ => exact q770
  | 1, _ => exact q771
  | 2, _ => exact q772
  | 3, _ => exact q773
  | 4, _ => exact q774
  | 5, _ => exact q775
  | 6, _ => exact q776
  | 7, _ => exact q777
  | 8, _ => exact q778
  | 9, _ => exact q779
  | 10, _ => exact q780
  | 11, _ => exact q781
  | k + 12, h => exact absurd h (by omega)
theorem gX6 : ∀ w ∈ wsX60, w ∈ gW := by
  intro w h
  obtain ⟨k, hk, rfl⟩ := List.mem_map.mp h
  have hk := List.mem_range.mp hk
  match k, hk with
  | 0, _ => exact q782
  | 1, _ => exact q783
  | 2, _ => exact q784
  | 3, _ => exact q785
  | 4, _ => exact q786
  | 5, _ => exact q787
  | 6, _ => exact q788
  | 7, _ => exact q789
  | 8, _ => exact q790
  | 9, _ => exact q791
  | 10, _ => exact q792
  | 11, _ => exact q793
  | 12, _ => exact q794
  | 13, _ => exact q795
  | 14, _ => exact q796
  | 15, _ => exact q797
  | 16, _ => exact q798
  | 17, _ => exact q799
  | 18, _ => exact q800
  | 19, _ => exact q801
  | 20, _ => exact q802
  | 21, _ => exact q803
  | 22, _ => exact q804
  | 23, _ => exact q805
  | 24, _ => exact q806
  | 25, _ => exact q807
  | 26, _ => exact q808
  | k + 27, h => exact absurd h (by omega)
