theorem tbin_1 : ∀ w ∈ tables_1_1, w ∈ lw_tbl := fun _ h => List.mem_append_right _ (List.mem_append_left _ h)
theorem tbin_2 : ∀ w ∈ tables_1_2, w ∈ lw_tbl := fun _ h => List.mem_append_right _ (List.mem_append_right _ (List.mem_append_left _ h))
theorem tbin_3 : ∀ w ∈ tables_1_3, w ∈ lw_tbl := fun _ h => List.mem_append_right _ (List.mem_append_right _ (List.mem_append_right _ (List.mem_append_left _ h)))
theorem tbin_4 : ∀ w ∈ tables_1_4, w ∈ lw_tbl := fun _ h => List.mem_append_right _ (List.mem_append_right _ (List.mem_append_right _ (List.mem_append_right _ (List.mem_append_left _ h))))
theorem tbin_5 : ∀ w ∈ tables_1_5, w ∈ lw_tbl := fun _ h => List.mem_append_right _ (List.mem_append_right _ (List.mem_append_right _ (List.mem_append_right _ (List.mem_append_right _ (List.mem_append_left _ h)))))
theorem tbin_6 : ∀ w ∈ tables_1_6, w ∈ lw_tbl := fun _ h => List.mem_append_right _ (List.mem_append_right _ (List.mem_append_right _ (List.mem_append_right _ (List.mem_append_right _ (List.mem_append_right _ (List.mem_append_left _ h))))))
theorem tbin_7 : ∀ w ∈ tables_1_7, w ∈ lw_tbl := fun _ h => List.mem_append_right _ (List.mem_append_right _ (List.mem_append_right _ (List.mem_append_right _ (List.mem_append_right _ (List.mem_append_right _ (List.mem_append_right _ (h)))))))
def WT : List Cond := lw_tbl.filter goodWord
theorem wt {w : Cond} (h : w ∈ lw_tbl) (g : goodWord w = true) : w ∈ WT := List.mem_filter.mpr ⟨h, g⟩
theorem tbse : ∀ q ∈ lw_privs, Cond.selects q.1.cls q.1 q.1 ∈ lw_tbl := fun q h => List.mem_append_left _ (List.mem_map.mpr ⟨q, h, rfl⟩)
theorem cl_L_7 : (Cond.classLink RL 7 RX7 : Cond) ∈ WT := wt (tbin_1 _ (List.mem_of_getElem? (i := 18) rfl)) rfl
theorem ins_X7 : (Cond.instantiable RX7 10 : Cond) ∈ WT := wt (tbin_1 _ (List.mem_of_getElem? (i := 19) rfl)) rfl
theorem ini_X7 : (Cond.initialized RX7 : Cond) ∈ WT := wt (tbin_1 _ (List.mem_of_getElem? (i := 1) rfl)) rfl
theorem cl_L_10 : (Cond.classLink RL 10 RX8 : Cond) ∈ WT := wt (tbin_5 _ (List.mem_of_getElem? (i := 14) rfl)) rfl
theorem ins_X8 : (Cond.instantiable RX8 46 : Cond) ∈ WT := wt (tbin_5 _ (List.mem_of_getElem? (i := 15) rfl)) rfl
theorem ini_X8 : (Cond.initialized RX8 : Cond) ∈ WT := wt (tbin_1 _ (List.mem_of_getElem? (i := 10) rfl)) rfl
theorem ml_L_9 : (Cond.methodLink RL 9 yX7_init : Cond) ∈ WT := wt (tbin_1 _ (List.mem_of_getElem? (i := 20) rfl)) rfl
theorem im_X7_init : (Cond.instanceMethod yX7_init : Cond) ∈ WT := wt (tbin_1 _ (List.mem_of_getElem? (i := 21) rfl)) rfl
theorem co_X7_init : (Cond.code yX7_init cX7_init 1 none : Cond) ∈ WT := wt (tbin_1 _ (List.mem_of_getElem? (i := 22) rfl)) rfl
theorem ml_X7_3 : (Cond.methodLink RX7 3 objectInit : Cond) ∈ WT := wt (tbin_1 _ (List.mem_of_getElem? (i := 23) rfl)) rfl
theorem im_objectInit : (Cond.instanceMethod objectInit : Cond) ∈ WT := wt (tbin_1 _ (List.mem_of_getElem? (i := 24) rfl)) rfl
theorem co_objectInit : (Cond.code objectInit ⟨#[0xb1]⟩ 1 none : Cond) ∈ WT := wt (tbin_1 _ (List.mem_of_getElem? (i := 25) rfl)) rfl
theorem cl_X7_9 : (Cond.classLink RX7 9 RX4 : Cond) ∈ WT := wt (tbin_1 _ (List.mem_of_getElem? (i := 26) rfl)) rfl
theorem ins_X4 : (Cond.instantiable RX4 14 : Cond) ∈ WT := wt (tbin_1 _ (List.mem_of_getElem? (i := 27) rfl)) rfl
theorem ini_X4 : (Cond.initialized RX4 : Cond) ∈ WT := wt (tbin_1 _ (List.mem_of_getElem? (i := 2) rfl)) rfl
theorem fl_X7_12 : (Cond.fieldLink RX7 12 "CornerWinds" "now" "LCornerWinds$State;" : Cond) ∈ WT := wt (tbin_2 _ (List.mem_of_getElem? (i := 62) rfl)) rfl
theorem fl_X7_16 : (Cond.fieldLink RX7 16 "CornerWinds" "images" "[LCornerWinds$State;" : Cond) ∈ WT := wt (tbin_2 _ (List.mem_of_getElem? (i := 63) rfl)) rfl
theorem cl_X7_20 : (Cond.classLink RX7 20 RX1 : Cond) ∈ WT := wt (tbin_1 _ (List.mem_of_getElem? (i := 132) rfl)) rfl
theorem ins_X1 : (Cond.instantiable RX1 18 : Cond) ∈ WT := wt (tbin_1 _ (List.mem_of_getElem? (i := 133) rfl)) rfl
theorem ini_X1 : (Cond.initialized RX1 : Cond) ∈ WT := wt (tbin_1 _ (List.mem_of_getElem? (i := 6) rfl)) rfl
theorem fl_X7_25 : (Cond.fieldLink RX7 25 "CornerWinds" "bearing" "LCornerWinds$Bearing;" : Cond) ∈ WT := wt (tbin_2 _ (List.mem_of_getElem? (i := 64) rfl)) rfl
theorem cl_X7_29 : (Cond.classLink RX7 29 RX2 : Cond) ∈ WT := wt (tbin_1 _ (List.mem_of_getElem? (i := 199) rfl)) rfl
theorem ins_X2 : (Cond.instantiable RX2 10 : Cond) ∈ WT := wt (tbin_1 _ (List.mem_of_getElem? (i := 200) rfl)) rfl
theorem ini_X2 : (Cond.initialized RX2 : Cond) ∈ WT := wt (tbin_1 _ (List.mem_of_getElem? (i := 7) rfl)) rfl
theorem fl_X7_34 : (Cond.fieldLink RX7 34 "CornerWinds" "mending" "LCornerWinds$Mending;" : Cond) ∈ WT := wt (tbin_2 _ (List.mem_of_getElem? (i := 65) rfl)) rfl
theorem cl_X7_38 : (Cond.classLink RX7 38 RX3 : Cond) ∈ WT := wt (tbin_2 _ (List.mem_of_getElem? (i := 1) rfl)) rfl
theorem ins_X3 : (Cond.instantiable RX3 11 : Cond) ∈ WT := wt (tbin_2 _ (List.mem_of_getElem? (i := 2) rfl)) rfl
theorem ini_X3 : (Cond.initialized RX3 : Cond) ∈ WT := wt (tbin_1 _ (List.mem_of_getElem? (i := 8) rfl)) rfl
theorem fl_X7_41 : (Cond.fieldLink RX7 41 "CornerWinds" "reader" "LCornerWinds$Reader;" : Cond) ∈ WT := wt (tbin_2 _ (List.mem_of_getElem? (i := 66) rfl)) rfl
theorem cl_X7_45 : (Cond.classLink RX7 45 RX0 : Cond) ∈ WT := wt (tbin_2 _ (List.mem_of_getElem? (i := 42) rfl)) rfl
theorem ins_X0 : (Cond.instantiable RX0 4 : Cond) ∈ WT := wt (tbin_2 _ (List.mem_of_getElem? (i := 43) rfl)) rfl
theorem ini_X0 : (Cond.initialized RX0 : Cond) ∈ WT := wt (tbin_1 _ (List.mem_of_getElem? (i := 9) rfl)) rfl
theorem fl_X7_48 : (Cond.fieldLink RX7 48 "CornerWinds" "asker" "LCornerWinds$Asker;" : Cond) ∈ WT := wt (tbin_2 _ (List.mem_of_getElem? (i := 67) rfl)) rfl
theorem arrayClass__int : (Cond.arrayClass .int : Cond) ∈ WT := wt (tbin_1 _ (List.mem_of_getElem? (i := 51) rfl)) rfl
theorem fl_X7_52 : (Cond.fieldLink RX7 52 "CornerWinds" "tape" "[I" : Cond) ∈ WT := wt (tbin_2 _ (List.mem_of_getElem? (i := 68) rfl)) rfl
theorem fl_X7_56 : (Cond.fieldLink RX7 56 "CornerWinds" "tapeLength" "I" : Cond) ∈ WT := wt (tbin_2 _ (List.mem_of_getElem? (i := 69) rfl)) rfl
theorem fl_X7_60 : (Cond.fieldLink RX7 60 "CornerWinds" "fault" "I" : Cond) ∈ WT := wt (tbin_2 _ (List.mem_of_getElem? (i := 70) rfl)) rfl
theorem fl_X7_63 : (Cond.fieldLink RX7 63 "CornerWinds" "refusedBy" "I" : Cond) ∈ WT := wt (tbin_2 _ (List.mem_of_getElem? (i := 71) rfl)) rfl
theorem ml_X7_11 : (Cond.methodLink RX7 11 yX4_init : Cond) ∈ WT := wt (tbin_1 _ (List.mem_of_getElem? (i := 28) rfl)) rfl
theorem im_X4_init : (Cond.instanceMethod yX4_init : Cond) ∈ WT := wt (tbin_1 _ (List.mem_of_getElem? (i := 29) rfl)) rfl
theorem co_X4_init : (Cond.code yX4_init cX4_init 1 none : Cond) ∈ WT := wt (tbin_1 _ (List.mem_of_getElem? (i := 30) rfl)) rfl
theorem ml_X4_3 : (Cond.methodLink RX4 3 objectInit : Cond) ∈ WT := wt (tbin_1 _ (List.mem_of_getElem? (i := 31) rfl)) rfl
theorem fl_X4_9 : (Cond.fieldLink RX4 9 "CornerWinds$State" "stiff" "[I" : Cond) ∈ WT := wt (tbin_1 _ (List.mem_of_getElem? (i := 62) rfl)) rfl
theorem fl_X4_15 : (Cond.fieldLink RX4 15 "CornerWinds$State" "bolted" "[I" : Cond) ∈ WT := wt (tbin_1 _ (List.mem_of_getElem? (i := 65) rfl)) rfl
theorem fl_X4_18 : (Cond.fieldLink RX4 18 "CornerWinds$State" "quarters" "[I" : Cond) ∈ WT := wt (tbin_1 _ (List.mem_of_getElem? (i := 69) rfl)) rfl
theorem fl_X4_21 : (Cond.fieldLink RX4 21 "CornerWinds$State" "area" "[I" : Cond) ∈ WT := wt (tbin_1 _ (List.mem_of_getElem? (i := 72) rfl)) rfl
theorem fl_X4_24 : (Cond.fieldLink RX4 24 "CornerWinds$State" "dead" "[I" : Cond) ∈ WT := wt (tbin_1 _ (List.mem_of_getElem? (i := 75) rfl)) rfl
theorem fl_X4_27 : (Cond.fieldLink RX4 27 "CornerWinds$State" "terms" "[I" : Cond) ∈ WT := wt (tbin_1 _ (List.mem_of_getElem? (i := 79) rfl)) rfl
theorem fl_X4_30 : (Cond.fieldLink RX4 30 "CornerWinds$State" "known" "[I" : Cond) ∈ WT := wt (tbin_1 _ (List.mem_of_getElem? (i := 84) rfl)) rfl
theorem cl_X4_33 : (Cond.classLink RX4 33 RX5 : Cond) ∈ WT := wt (tbin_1 _ (List.mem_of_getElem? (i := 32) rfl)) rfl
theorem ins_X5 : (Cond.instantiable RX5 3 : Cond) ∈ WT := wt (tbin_1 _ (List.mem_of_getElem? (i := 33) rfl)) rfl
theorem ini_X5 : (Cond.initialized RX5 : Cond) ∈ WT := wt (tbin_1 _ (List.mem_of_getElem? (i := 3) rfl)) rfl
theorem fl_X4_38 : (Cond.fieldLink RX4 38 "CornerWinds$State" "winds" "LCornerWinds$Table;" : Cond) ∈ WT := wt (tbin_1 _ (List.mem_of_getElem? (i := 86) rfl)) rfl
theorem fl_X4_42 : (Cond.fieldLink RX4 42 "CornerWinds$State" "steps" "LCornerWinds$Table;" : Cond) ∈ WT := wt (tbin_1 _ (List.mem_of_getElem? (i := 89) rfl)) rfl
theorem fl_X4_45 : (Cond.fieldLink RX4 45 "CornerWinds$State" "streets" "LCornerWinds$Table;" : Cond) ∈ WT := wt (tbin_1 _ (List.mem_of_getElem? (i := 91) rfl)) rfl
theorem fl_X4_48 : (Cond.fieldLink RX4 48 "CornerWinds$State" "storms" "LCornerWinds$Table;" : Cond) ∈ WT := wt (tbin_1 _ (List.mem_of_getElem? (i := 93) rfl)) rfl
theorem fl_X4_51 : (Cond.fieldLink RX4 51 "CornerWinds$State" "towers" "LCornerWinds$Table;" : Cond) ∈ WT := wt (tbin_1 _ (List.mem_of_getElem? (i := 95) rfl)) rfl
theorem cl_X4_54 : (Cond.classLink RX4 54 RX6 : Cond) ∈ WT := wt (tbin_1 _ (List.mem_of_getElem? (i := 52) rfl)) rfl
theorem fl_X4_56 : (Cond.fieldLink RX4 56 "CornerWinds$State" "texts" "[LCornerWinds$Text;" : Cond) ∈ WT := wt (tbin_1 _ (List.mem_of_getElem? (i := 98) rfl)) rfl
theorem fl_X4_60 : (Cond.fieldLink RX4 60 "CornerWinds$State" "textCount" "I" : Cond) ∈ WT := wt (tbin_1 _ (List.mem_of_getElem? (i := 100) rfl)) rfl
theorem ml_X4_73 : (Cond.methodLink RX4 73 arraycopyName : Cond) ∈ WT := wt (tbin_1 _ (List.mem_of_getElem? (i := 59) rfl)) rfl
theorem st_arraycopyName : (Cond.static arraycopyName : Cond) ∈ WT := wt (tbin_1 _ (List.mem_of_getElem? (i := 60) rfl)) rfl
theorem ini_java_lang_System : (Cond.initialized "java/lang/System" : Cond) ∈ WT := wt (tbin_1 _ (List.mem_of_getElem? (i := 5) rfl)) rfl
theorem ml_X4_35 : (Cond.methodLink RX4 35 yX5_init : Cond) ∈ WT := wt (tbin_1 _ (List.mem_of_getElem? (i := 34) rfl)) rfl
theorem im_X5_init : (Cond.instanceMethod yX5_init : Cond) ∈ WT := wt (tbin_1 _ (List.mem_of_getElem? (i := 35) rfl)) rfl
theorem co_X5_init : (Cond.code yX5_init cX5_init 3 none : Cond) ∈ WT := wt (tbin_1 _ (List.mem_of_getElem? (i := 36) rfl)) rfl
theorem ml_X5_1 : (Cond.methodLink RX5 1 objectInit : Cond) ∈ WT := wt (tbin_1 _ (List.mem_of_getElem? (i := 37) rfl)) rfl
theorem fl_X5_7 : (Cond.fieldLink RX5 7 "CornerWinds$Table" "size" "I" : Cond) ∈ WT := wt (tbin_1 _ (List.mem_of_getElem? (i := 40) rfl)) rfl
theorem fl_X5_13 : (Cond.fieldLink RX5 13 "CornerWinds$Table" "width" "I" : Cond) ∈ WT := wt (tbin_1 _ (List.mem_of_getElem? (i := 38) rfl)) rfl
theorem fl_X5_16 : (Cond.fieldLink RX5 16 "CornerWinds$Table" "cells" "[I" : Cond) ∈ WT := wt (tbin_1 _ (List.mem_of_getElem? (i := 39) rfl)) rfl
theorem ml_X4_64 : (Cond.methodLink RX4 64 yJ7_fill_53178 : Cond) ∈ WT := wt (tbin_1 _ (List.mem_of_getElem? (i := 54) rfl)) rfl
theorem st_J7_fill_53178 : (Cond.static yJ7_fill_53178 : Cond) ∈ WT := wt (tbin_1 _ (List.mem_of_getElem? (i := 55) rfl)) rfl
theorem ini_J7 : (Cond.initialized RJ7 : Cond) ∈ WT := wt (tbin_1 _ (List.mem_of_getElem? (i := 4) rfl)) rfl
theorem co_J7_fill_53178 : (Cond.code yJ7_fill_53178 cJ7_fill_53178 4 none : Cond) ∈ WT := wt (tbin_1 _ (List.mem_of_getElem? (i := 56) rfl)) rfl
theorem ml_X7_22 : (Cond.methodLink RX7 22 yX1_init : Cond) ∈ WT := wt (tbin_1 _ (List.mem_of_getElem? (i := 134) rfl)) rfl
theorem im_X1_init : (Cond.instanceMethod yX1_init : Cond) ∈ WT := wt (tbin_1 _ (List.mem_of_getElem? (i := 135) rfl)) rfl
theorem co_X1_init : (Cond.code yX1_init cX1_init 2 none : Cond) ∈ WT := wt (tbin_1 _ (List.mem_of_getElem? (i := 136) rfl)) rfl
theorem ml_X1_3 : (Cond.methodLink RX1 3 objectInit : Cond) ∈ WT := wt (tbin_1 _ (List.mem_of_getElem? (i := 137) rfl)) rfl
theorem fl_X1_9 : (Cond.fieldLink RX1 9 "CornerWinds$Bearing" "holds" "[I" : Cond) ∈ WT := wt (tbin_1 _ (List.mem_of_getElem? (i := 139) rfl)) rfl
theorem fl_X1_15 : (Cond.fieldLink RX1 15 "CornerWinds$Bearing" "order" "[I" : Cond) ∈ WT := wt (tbin_1 _ (List.mem_of_getElem? (i := 142) rfl)) rfl
theorem fl_X1_18 : (Cond.fieldLink RX1 18 "CornerWinds$Bearing" "lost" "I" : Cond) ∈ WT := wt (tbin_1 _ (List.mem_of_getElem? (i := 144) rfl)) rfl
theorem fl_X1_22 : (Cond.fieldLink RX1 22 "CornerWinds$Bearing" "fallen" "I" : Cond) ∈ WT := wt (tbin_1 _ (List.mem_of_getElem? (i := 146) rfl)) rfl
theorem fl_X1_25 : (Cond.fieldLink RX1 25 "CornerWinds$Bearing" "area" "[I" : Cond) ∈ WT := wt (tbin_1 _ (List.mem_of_getElem? (i := 148) rfl)) rfl
theorem fl_X1_28 : (Cond.fieldLink RX1 28 "CornerWinds$Bearing" "leverArea" "[I" : Cond) ∈ WT := wt (tbin_1 _ (List.mem_of_getElem? (i := 149) rfl)) rfl
theorem fl_X1_31 : (Cond.fieldLink RX1 31 "CornerWinds$Bearing" "lean" "I" : Cond) ∈ WT := wt (tbin_1 _ (List.mem_of_getElem? (i := 150) rfl)) rfl
theorem fl_X1_34 : (Cond.fieldLink RX1 34 "CornerWinds$Bearing" "east" "J" : Cond) ∈ WT := wt (tbin_1 _ (List.mem_of_getElem? (i := 151) rfl)) rfl
theorem fl_X1_38 : (Cond.fieldLink RX1 38 "CornerWinds$Bearing" "north" "J" : Cond) ∈ WT := wt (tbin_1 _ (List.mem_of_getElem? (i := 152) rfl)) rfl
theorem fl_X1_41 : (Cond.fieldLink RX1 41 "CornerWinds$Bearing" "gone" "[I" : Cond) ∈ WT := wt (tbin_1 _ (List.mem_of_getElem? (i := 153) rfl)) rfl
theorem fl_X1_44 : (Cond.fieldLink RX1 44 "CornerWinds$Bearing" "worst" "[I" : Cond) ∈ WT := wt (tbin_1 _ (List.mem_of_getElem? (i := 154) rfl)) rfl
theorem arrayClass__long : (Cond.arrayClass .long : Cond) ∈ WT := wt (tbin_1 _ (List.mem_of_getElem? (i := 198) rfl)) rfl
theorem fl_X1_47 : (Cond.fieldLink RX1 47 "CornerWinds$Bearing" "excess" "[J" : Cond) ∈ WT := wt (tbin_1 _ (List.mem_of_getElem? (i := 155) rfl)) rfl
theorem fl_X1_51 : (Cond.fieldLink RX1 51 "CornerWinds$Bearing" "tierFalls" "[I" : Cond) ∈ WT := wt (tbin_1 _ (List.mem_of_getElem? (i := 156) rfl)) rfl
theorem fl_X1_54 : (Cond.fieldLink RX1 54 "CornerWinds$Bearing" "faceStiff" "[I" : Cond) ∈ WT := wt (tbin_1 _ (List.mem_of_getElem? (i := 157) rfl)) rfl
theorem fl_X1_57 : (Cond.fieldLink RX1 57 "CornerWinds$Bearing" "shift" "[J" : Cond) ∈ WT := wt (tbin_1 _ (List.mem_of_getElem? (i := 158) rfl)) rfl
theorem fl_X1_60 : (Cond.fieldLink RX1 60 "CornerWinds$Bearing" "upright" "[J" : Cond) ∈ WT := wt (tbin_1 _ (List.mem_of_getElem? (i := 159) rfl)) rfl
theorem fl_X1_63 : (Cond.fieldLink RX1 63 "CornerWinds$Bearing" "divisor" "[J" : Cond) ∈ WT := wt (tbin_1 _ (List.mem_of_getElem? (i := 160) rfl)) rfl
theorem fl_X1_66 : (Cond.fieldLink RX1 66 "CornerWinds$Bearing" "state" "LCornerWinds$State;" : Cond) ∈ WT := wt (tbin_1 _ (List.mem_of_getElem? (i := 138) rfl)) rfl
theorem ml_X7_31 : (Cond.methodLink RX7 31 yX2_init : Cond) ∈ WT := wt (tbin_1 _ (List.mem_of_getElem? (i := 201) rfl)) rfl
theorem im_X2_init : (Cond.instanceMethod yX2_init : Cond) ∈ WT := wt (tbin_1 _ (List.mem_of_getElem? (i := 202) rfl)) rfl
theorem co_X2_init : (Cond.code yX2_init cX2_init 3 none : Cond) ∈ WT := wt (tbin_1 _ (List.mem_of_getElem? (i := 203) rfl)) rfl
theorem ml_X2_3 : (Cond.methodLink RX2 3 objectInit : Cond) ∈ WT := wt (tbin_1 _ (List.mem_of_getElem? (i := 204) rfl)) rfl
theorem fl_X2_9 : (Cond.fieldLink RX2 9 "CornerWinds$Mending" "wished" "[I" : Cond) ∈ WT := wt (tbin_1 _ (List.mem_of_getElem? (i := 207) rfl)) rfl
theorem fl_X2_15 : (Cond.fieldLink RX2 15 "CornerWinds$Mending" "size" "I" : Cond) ∈ WT := wt (tbin_1 _ (List.mem_of_getElem? (i := 209) rfl)) rfl
theorem fl_X2_19 : (Cond.fieldLink RX2 19 "CornerWinds$Mending" "latest" "[I" : Cond) ∈ WT := wt (tbin_1 _ (List.mem_of_getElem? (i := 211) rfl)) rfl
theorem fl_X2_22 : (Cond.fieldLink RX2 22 "CornerWinds$Mending" "nights" "I" : Cond) ∈ WT := wt (tbin_1 _ (List.mem_of_getElem? (i := 213) rfl)) rfl
theorem fl_X2_25 : (Cond.fieldLink RX2 25 "CornerWinds$Mending" "risk" "[J" : Cond) ∈ WT := wt (tbin_1 _ (List.mem_of_getElem? (i := 215) rfl)) rfl
theorem fl_X2_29 : (Cond.fieldLink RX2 29 "CornerWinds$Mending" "falls" "[I" : Cond) ∈ WT := wt (tbin_1 _ (List.mem_of_getElem? (i := 217) rfl)) rfl
theorem fl_X2_32 : (Cond.fieldLink RX2 32 "CornerWinds$Mending" "tierFalls" "[I" : Cond) ∈ WT := wt (tbin_1 _ (List.mem_of_getElem? (i := 218) rfl)) rfl
theorem fl_X2_35 : (Cond.fieldLink RX2 35 "CornerWinds$Mending" "year" "[I" : Cond) ∈ WT := wt (tbin_1 _ (List.mem_of_getElem? (i := 219) rfl)) rfl
theorem fl_X2_38 : (Cond.fieldLink RX2 38 "CornerWinds$Mending" "state" "LCornerWinds$State;" : Cond) ∈ WT := wt (tbin_1 _ (List.mem_of_getElem? (i := 205) rfl)) rfl
theorem fl_X2_42 : (Cond.fieldLink RX2 42 "CornerWinds$Mending" "bearing" "LCornerWinds$Bearing;" : Cond) ∈ WT := wt (tbin_1 _ (List.mem_of_getElem? (i := 206) rfl)) rfl
theorem im_X3_init : (Cond.instanceMethod yX3_init : Cond) ∈ WT := wt (tbin_2 _ (List.mem_of_getElem? (i := 4) rfl)) rfl
theorem co_X3_init : (Cond.code yX3_init cX3_init 1 none : Cond) ∈ WT := wt (tbin_2 _ (List.mem_of_getElem? (i := 5) rfl)) rfl
theorem ml_X3_5 : (Cond.methodLink RX3 5 objectInit : Cond) ∈ WT := wt (tbin_2 _ (List.mem_of_getElem? (i := 6) rfl)) rfl
theorem fl_X3_11 : (Cond.fieldLink RX3 11 "CornerWinds$Reader" "start" "I" : Cond) ∈ WT := wt (tbin_2 _ (List.mem_of_getElem? (i := 7) rfl)) rfl
theorem fl_X3_15 : (Cond.fieldLink RX3 15 "CornerWinds$Reader" "tape" "[I" : Cond) ∈ WT := wt (tbin_2 _ (List.mem_of_getElem? (i := 9) rfl)) rfl
theorem fl_X3_19 : (Cond.fieldLink RX3 19 "CornerWinds$Reader" "length" "I" : Cond) ∈ WT := wt (tbin_2 _ (List.mem_of_getElem? (i := 10) rfl)) rfl
theorem fl_X3_22 : (Cond.fieldLink RX3 22 "CornerWinds$Reader" "place" "I" : Cond) ∈ WT := wt (tbin_2 _ (List.mem_of_getElem? (i := 11) rfl)) rfl
theorem fl_X3_25 : (Cond.fieldLink RX3 25 "CornerWinds$Reader" "token" "I" : Cond) ∈ WT := wt (tbin_2 _ (List.mem_of_getElem? (i := 12) rfl)) rfl
theorem fl_X3_28 : (Cond.fieldLink RX3 28 "CornerWinds$Reader" "number" "I" : Cond) ∈ WT := wt (tbin_2 _ (List.mem_of_getElem? (i := 13) rfl)) rfl
theorem fl_X3_31 : (Cond.fieldLink RX3 31 "CornerWinds$Reader" "leaves" "I" : Cond) ∈ WT := wt (tbin_2 _ (List.mem_of_getElem? (i := 14) rfl)) rfl
theorem fl_X3_36 : (Cond.fieldLink RX3 36 "CornerWinds$Reader" "clauses" "[I" : Cond) ∈ WT := wt (tbin_2 _ (List.mem_of_getElem? (i := 15) rfl)) rfl
theorem fl_X3_39 : (Cond.fieldLink RX3 39 "CornerWinds$Reader" "clauseCount" "I" : Cond) ∈ WT := wt (tbin_2 _ (List.mem_of_getElem? (i := 16) rfl)) rfl
theorem fl_X3_42 : (Cond.fieldLink RX3 42 "CornerWinds$Reader" "code" "[I" : Cond) ∈ WT := wt (tbin_2 _ (List.mem_of_getElem? (i := 17) rfl)) rfl
theorem fl_X3_45 : (Cond.fieldLink RX3 45 "CornerWinds$Reader" "size" "I" : Cond) ∈ WT := wt (tbin_2 _ (List.mem_of_getElem? (i := 18) rfl)) rfl
theorem im_X0_init : (Cond.instanceMethod yX0_init : Cond) ∈ WT := wt (tbin_2 _ (List.mem_of_getElem? (i := 45) rfl)) rfl
theorem co_X0_init : (Cond.code yX0_init cX0_init 1 none : Cond) ∈ WT := wt (tbin_2 _ (List.mem_of_getElem? (i := 46) rfl)) rfl
theorem ml_X0_3 : (Cond.methodLink RX0 3 objectInit : Cond) ∈ WT := wt (tbin_2 _ (List.mem_of_getElem? (i := 47) rfl)) rfl
theorem fl_X0_9 : (Cond.fieldLink RX0 9 "CornerWinds$Asker" "told" "J" : Cond) ∈ WT := wt (tbin_2 _ (List.mem_of_getElem? (i := 48) rfl)) rfl
theorem fl_X0_15 : (Cond.fieldLink RX0 15 "CornerWinds$Asker" "values" "[I" : Cond) ∈ WT := wt (tbin_2 _ (List.mem_of_getElem? (i := 50) rfl)) rfl
theorem fl_X0_19 : (Cond.fieldLink RX0 19 "CornerWinds$Asker" "stack" "[J" : Cond) ∈ WT := wt (tbin_2 _ (List.mem_of_getElem? (i := 51) rfl)) rfl
theorem fl_X0_23 : (Cond.fieldLink RX0 23 "CornerWinds$Asker" "height" "I" : Cond) ∈ WT := wt (tbin_2 _ (List.mem_of_getElem? (i := 52) rfl)) rfl
theorem ml_L_12 : (Cond.methodLink RL 12 yX8_init : Cond) ∈ WT := wt (tbin_5 _ (List.mem_of_getElem? (i := 16) rfl)) rfl
theorem im_X8_init : (Cond.instanceMethod yX8_init : Cond) ∈ WT := wt (tbin_5 _ (List.mem_of_getElem? (i := 17) rfl)) rfl
theorem co_X8_init : (Cond.code yX8_init cX8_init 2 none : Cond) ∈ WT := wt (tbin_5 _ (List.mem_of_getElem? (i := 18) rfl)) rfl
theorem ml_X8_7 : (Cond.methodLink RX8 7 objectInit : Cond) ∈ WT := wt (tbin_5 _ (List.mem_of_getElem? (i := 19) rfl)) rfl
theorem fl_X8_13 : (Cond.fieldLink RX8 13 "CornerWindsModel" "kept" "[I" : Cond) ∈ WT := wt (tbin_5 _ (List.mem_of_getElem? (i := 21) rfl)) rfl
theorem fl_X8_17 : (Cond.fieldLink RX8 17 "CornerWindsModel" "images" "[I" : Cond) ∈ WT := wt (tbin_5 _ (List.mem_of_getElem? (i := 22) rfl)) rfl
theorem arrayClass__boolean : (Cond.arrayClass .boolean : Cond) ∈ WT := wt (tbin_5 _ (List.mem_of_getElem? (i := 157) rfl)) rfl
theorem fl_X8_20 : (Cond.fieldLink RX8 20 "CornerWindsModel" "hasImage" "[Z" : Cond) ∈ WT := wt (tbin_5 _ (List.mem_of_getElem? (i := 23) rfl)) rfl
theorem fl_X8_24 : (Cond.fieldLink RX8 24 "CornerWindsModel" "gone" "[Z" : Cond) ∈ WT := wt (tbin_5 _ (List.mem_of_getElem? (i := 24) rfl)) rfl
theorem fl_X8_27 : (Cond.fieldLink RX8 27 "CornerWindsModel" "stiffOf" "[J" : Cond) ∈ WT := wt (tbin_5 _ (List.mem_of_getElem? (i := 25) rfl)) rfl
theorem fl_X8_31 : (Cond.fieldLink RX8 31 "CornerWindsModel" "moves" "[J" : Cond) ∈ WT := wt (tbin_5 _ (List.mem_of_getElem? (i := 26) rfl)) rfl
theorem fl_X8_34 : (Cond.fieldLink RX8 34 "CornerWindsModel" "went" "[I" : Cond) ∈ WT := wt (tbin_5 _ (List.mem_of_getElem? (i := 32) rfl)) rfl
theorem arrayClass__byte : (Cond.arrayClass .byte : Cond) ∈ WT := wt (tbin_3 _ (List.mem_of_getElem? (i := 168) rfl)) rfl
theorem fl_X8_37 : (Cond.fieldLink RX8 37 "CornerWindsModel" "words" "[B" : Cond) ∈ WT := wt (tbin_5 _ (List.mem_of_getElem? (i := 35) rfl)) rfl
theorem fl_X8_41 : (Cond.fieldLink RX8 41 "CornerWindsModel" "tape" "[B" : Cond) ∈ WT := wt (tbin_5 _ (List.mem_of_getElem? (i := 36) rfl)) rfl
theorem fl_X8_44 : (Cond.fieldLink RX8 44 "CornerWindsModel" "five" "[I" : Cond) ∈ WT := wt (tbin_5 _ (List.mem_of_getElem? (i := 37) rfl)) rfl
theorem fl_X8_47 : (Cond.fieldLink RX8 47 "CornerWindsModel" "fault" "I" : Cond) ∈ WT := wt (tbin_5 _ (List.mem_of_getElem? (i := 39) rfl)) rfl
theorem fl_X8_50 : (Cond.fieldLink RX8 50 "CornerWindsModel" "code" "[I" : Cond) ∈ WT := wt (tbin_5 _ (List.mem_of_getElem? (i := 40) rfl)) rfl
theorem fl_X8_53 : (Cond.fieldLink RX8 53 "CornerWindsModel" "value" "[I" : Cond) ∈ WT := wt (tbin_5 _ (List.mem_of_getElem? (i := 41) rfl)) rfl
theorem fl_X8_56 : (Cond.fieldLink RX8 56 "CornerWindsModel" "placed" "[I" : Cond) ∈ WT := wt (tbin_5 _ (List.mem_of_getElem? (i := 42) rfl)) rfl
theorem fl_X8_59 : (Cond.fieldLink RX8 59 "CornerWindsModel" "asked" "[J" : Cond) ∈ WT := wt (tbin_5 _ (List.mem_of_getElem? (i := 50) rfl)) rfl
theorem fl_X8_62 : (Cond.fieldLink RX8 62 "CornerWindsModel" "flags" "[Z" : Cond) ∈ WT := wt (tbin_5 _ (List.mem_of_getElem? (i := 51) rfl)) rfl
theorem fl_X8_65 : (Cond.fieldLink RX8 65 "CornerWindsModel" "saved" "[I" : Cond) ∈ WT := wt (tbin_5 _ (List.mem_of_getElem? (i := 57) rfl)) rfl
theorem fl_X8_68 : (Cond.fieldLink RX8 68 "CornerWindsModel" "wishes" "[I" : Cond) ∈ WT := wt (tbin_5 _ (List.mem_of_getElem? (i := 58) rfl)) rfl
theorem fl_X8_71 : (Cond.fieldLink RX8 71 "CornerWindsModel" "costs" "[J" : Cond) ∈ WT := wt (tbin_5 _ (List.mem_of_getElem? (i := 60) rfl)) rfl
theorem fl_X8_74 : (Cond.fieldLink RX8 74 "CornerWindsModel" "behind" "[J" : Cond) ∈ WT := wt (tbin_5 _ (List.mem_of_getElem? (i := 61) rfl)) rfl
theorem fl_X8_77 : (Cond.fieldLink RX8 77 "CornerWindsModel" "nights" "[I" : Cond) ∈ WT := wt (tbin_5 _ (List.mem_of_getElem? (i := 62) rfl)) rfl
theorem fl_X8_80 : (Cond.fieldLink RX8 80 "CornerWindsModel" "nightMany" "I" : Cond) ∈ WT := wt (tbin_5 _ (List.mem_of_getElem? (i := 63) rfl)) rfl
theorem ml_L_13 : (Cond.methodLink RL 13 yX7_stiff : Cond) ∈ WT := wt (tbin_2 _ (List.mem_of_getElem? (i := 93) rfl)) rfl
theorem im_X7_stiff : (Cond.instanceMethod yX7_stiff : Cond) ∈ WT := wt (tbin_2 _ (List.mem_of_getElem? (i := 94) rfl)) rfl
theorem se_X7_stiff : (Cond.selects RX7 yX7_stiff yX7_stiff : Cond) ∈ WT := wt (tbin_2 _ (List.mem_of_getElem? (i := 95) rfl)) rfl
theorem co_X7_stiff : (Cond.code yX7_stiff cX7_stiff 4 (some .int) : Cond) ∈ WT := wt (tbin_2 _ (List.mem_of_getElem? (i := 96) rfl)) rfl
theorem fl_X7_74 : (Cond.fieldLink RX7 74 "CornerWinds$State" "stiff" "[I" : Cond) ∈ WT := wt (tbin_1 _ (List.mem_of_getElem? (i := 63) rfl)) rfl
theorem ml_X7_66 : (Cond.methodLink RX7 66 yX7_isJoint : Cond) ∈ WT := wt (tbin_2 _ (List.mem_of_getElem? (i := 97) rfl)) rfl
theorem st_X7_isJoint : (Cond.static yX7_isJoint : Cond) ∈ WT := wt (tbin_2 _ (List.mem_of_getElem? (i := 98) rfl)) rfl
theorem co_X7_isJoint : (Cond.code yX7_isJoint cX7_isJoint 1 (some .boolean) : Cond) ∈ WT := wt (tbin_2 _ (List.mem_of_getElem? (i := 99) rfl)) rfl
theorem ml_X7_70 : (Cond.methodLink RX7 70 yX7_refuse : Cond) ∈ WT := wt (tbin_2 _ (List.mem_of_getElem? (i := 100) rfl)) rfl
theorem im_X7_refuse : (Cond.instanceMethod yX7_refuse : Cond) ∈ WT := wt (tbin_2 _ (List.mem_of_getElem? (i := 102) rfl)) rfl
theorem se_X7_refuse : (Cond.selects RX7 yX7_refuse yX7_refuse : Cond) ∈ WT := wt (tbse _ (List.mem_of_getElem? (i := 0) rfl)) rfl
theorem co_X7_refuse : (Cond.code yX7_refuse cX7_refuse 2 (some .int) : Cond) ∈ WT := wt (tbin_2 _ (List.mem_of_getElem? (i := 103) rfl)) rfl
theorem ml_X7_77 : (Cond.methodLink RX7 77 yX7_accept : Cond) ∈ WT := wt (tbin_2 _ (List.mem_of_getElem? (i := 104) rfl)) rfl
theorem im_X7_accept : (Cond.instanceMethod yX7_accept : Cond) ∈ WT := wt (tbin_2 _ (List.mem_of_getElem? (i := 106) rfl)) rfl
theorem se_X7_accept : (Cond.selects RX7 yX7_accept yX7_accept : Cond) ∈ WT := wt (tbse _ (List.mem_of_getElem? (i := 1) rfl)) rfl
theorem co_X7_accept : (Cond.code yX7_accept cX7_accept 2 (some .int) : Cond) ∈ WT := wt (tbin_2 _ (List.mem_of_getElem? (i := 107) rfl)) rfl
theorem ml_L_17 : (Cond.methodLink RL 17 yX8_stiff : Cond) ∈ WT := wt (tbin_5 _ (List.mem_of_getElem? (i := 177) rfl)) rfl
theorem im_X8_stiff : (Cond.instanceMethod yX8_stiff : Cond) ∈ WT := wt (tbin_5 _ (List.mem_of_getElem? (i := 178) rfl)) rfl
theorem se_X8_stiff : (Cond.selects RX8 yX8_stiff yX8_stiff : Cond) ∈ WT := wt (tbin_5 _ (List.mem_of_getElem? (i := 179) rfl)) rfl
theorem co_X8_stiff : (Cond.code yX8_stiff cX8_stiff 4 (some .int) : Cond) ∈ WT := wt (tbin_5 _ (List.mem_of_getElem? (i := 180) rfl)) rfl
theorem ml_X8_94 : (Cond.methodLink RX8 94 yX8_isJoint : Cond) ∈ WT := wt (tbin_5 _ (List.mem_of_getElem? (i := 181) rfl)) rfl
theorem st_X8_isJoint : (Cond.static yX8_isJoint : Cond) ∈ WT := wt (tbin_5 _ (List.mem_of_getElem? (i := 182) rfl)) rfl
theorem co_X8_isJoint : (Cond.code yX8_isJoint cX8_isJoint 1 (some .boolean) : Cond) ∈ WT := wt (tbin_5 _ (List.mem_of_getElem? (i := 183) rfl)) rfl
theorem ml_X8_83 : (Cond.methodLink RX8 83 yX8_in : Cond) ∈ WT := wt (tbin_5 _ (List.mem_of_getElem? (i := 162) rfl)) rfl
theorem st_X8_in : (Cond.static yX8_in : Cond) ∈ WT := wt (tbin_5 _ (List.mem_of_getElem? (i := 163) rfl)) rfl
theorem co_X8_in : (Cond.code yX8_in cX8_in 3 (some .boolean) : Cond) ∈ WT := wt (tbin_5 _ (List.mem_of_getElem? (i := 164) rfl)) rfl
theorem ml_X8_87 : (Cond.methodLink RX8 87 yX8_refuses : Cond) ∈ WT := wt (tbin_5 _ (List.mem_of_getElem? (i := 165) rfl)) rfl
theorem im_X8_refuses : (Cond.instanceMethod yX8_refuses : Cond) ∈ WT := wt (tbin_5 _ (List.mem_of_getElem? (i := 167) rfl)) rfl
theorem se_X8_refuses : (Cond.selects RX8 yX8_refuses yX8_refuses : Cond) ∈ WT := wt (tbse _ (List.mem_of_getElem? (i := 42) rfl)) rfl
theorem co_X8_refuses : (Cond.code yX8_refuses cX8_refuses 2 (some .int) : Cond) ∈ WT := wt (tbin_5 _ (List.mem_of_getElem? (i := 168) rfl)) rfl
theorem fl_X8_3 : (Cond.fieldLink RX8 3 "CornerWindsModel" "status" "I" : Cond) ∈ WT := wt (tbin_5 _ (List.mem_of_getElem? (i := 20) rfl)) rfl
theorem ml_X8_91 : (Cond.methodLink RX8 91 yX8_good : Cond) ∈ WT := wt (tbin_5 _ (List.mem_of_getElem? (i := 169) rfl)) rfl
theorem im_X8_good : (Cond.instanceMethod yX8_good : Cond) ∈ WT := wt (tbin_5 _ (List.mem_of_getElem? (i := 171) rfl)) rfl
theorem se_X8_good : (Cond.selects RX8 yX8_good yX8_good : Cond) ∈ WT := wt (tbse _ (List.mem_of_getElem? (i := 43) rfl)) rfl
theorem co_X8_good : (Cond.code yX8_good cX8_good 2 (some .int) : Cond) ∈ WT := wt (tbin_5 _ (List.mem_of_getElem? (i := 172) rfl)) rfl
theorem ml_L_18 : (Cond.methodLink RL 18 yX7_tier : Cond) ∈ WT := wt (tbin_2 _ (List.mem_of_getElem? (i := 108) rfl)) rfl
theorem im_X7_tier : (Cond.instanceMethod yX7_tier : Cond) ∈ WT := wt (tbin_2 _ (List.mem_of_getElem? (i := 109) rfl)) rfl
theorem se_X7_tier : (Cond.selects RX7 yX7_tier yX7_tier : Cond) ∈ WT := wt (tbin_2 _ (List.mem_of_getElem? (i := 110) rfl)) rfl
theorem co_X7_tier : (Cond.code yX7_tier cX7_tier 6 (some .int) : Cond) ∈ WT := wt (tbin_2 _ (List.mem_of_getElem? (i := 111) rfl)) rfl
theorem kc_X7_84 : (Cond.constant RX7 84 (100000) : Cond) ∈ WT := wt (tbin_2 _ (List.mem_of_getElem? (i := 115) rfl)) rfl
theorem fl_X7_85 : (Cond.fieldLink RX7 85 "CornerWinds$State" "area" "[I" : Cond) ∈ WT := wt (tbin_1 _ (List.mem_of_getElem? (i := 74) rfl)) rfl
theorem fl_X7_88 : (Cond.fieldLink RX7 88 "CornerWinds$State" "dead" "[I" : Cond) ∈ WT := wt (tbin_1 _ (List.mem_of_getElem? (i := 77) rfl)) rfl
theorem ml_X7_80 : (Cond.methodLink RX7 80 yX7_isWithin : Cond) ∈ WT := wt (tbin_2 _ (List.mem_of_getElem? (i := 112) rfl)) rfl
theorem st_X7_isWithin : (Cond.static yX7_isWithin : Cond) ∈ WT := wt (tbin_2 _ (List.mem_of_getElem? (i := 113) rfl)) rfl
theorem co_X7_isWithin : (Cond.code yX7_isWithin cX7_isWithin 3 (some .boolean) : Cond) ∈ WT := wt (tbin_2 _ (List.mem_of_getElem? (i := 114) rfl)) rfl
theorem ml_L_22 : (Cond.methodLink RL 22 yX8_tier : Cond) ∈ WT := wt (tbin_5 _ (List.mem_of_getElem? (i := 184) rfl)) rfl
theorem im_X8_tier : (Cond.instanceMethod yX8_tier : Cond) ∈ WT := wt (tbin_5 _ (List.mem_of_getElem? (i := 185) rfl)) rfl
theorem se_X8_tier : (Cond.selects RX8 yX8_tier yX8_tier : Cond) ∈ WT := wt (tbin_5 _ (List.mem_of_getElem? (i := 186) rfl)) rfl
theorem co_X8_tier : (Cond.code yX8_tier cX8_tier 6 (some .int) : Cond) ∈ WT := wt (tbin_5 _ (List.mem_of_getElem? (i := 187) rfl)) rfl
theorem kc_X8_98 : (Cond.constant RX8 98 (100000) : Cond) ∈ WT := wt (tbin_5 _ (List.mem_of_getElem? (i := 188) rfl)) rfl
theorem ml_L_23 : (Cond.methodLink RL 23 yX7_terms : Cond) ∈ WT := wt (tbin_2 _ (List.mem_of_getElem? (i := 116) rfl)) rfl
theorem im_X7_terms : (Cond.instanceMethod yX7_terms : Cond) ∈ WT := wt (tbin_2 _ (List.mem_of_getElem? (i := 117) rfl)) rfl
theorem se_X7_terms : (Cond.selects RX7 yX7_terms yX7_terms : Cond) ∈ WT := wt (tbin_2 _ (List.mem_of_getElem? (i := 118) rfl)) rfl
theorem co_X7_terms : (Cond.code yX7_terms cX7_terms 6 (some .int) : Cond) ∈ WT := wt (tbin_2 _ (List.mem_of_getElem? (i := 119) rfl)) rfl
theorem fl_X7_91 : (Cond.fieldLink RX7 91 "CornerWinds" "TERM_LEAST" "[I" : Cond) ∈ WT := wt (tbin_2 _ (List.mem_of_getElem? (i := 120) rfl)) rfl
theorem fl_X7_94 : (Cond.fieldLink RX7 94 "CornerWinds" "TERM_MOST" "[I" : Cond) ∈ WT := wt (tbin_2 _ (List.mem_of_getElem? (i := 122) rfl)) rfl
theorem fl_X7_97 : (Cond.fieldLink RX7 97 "CornerWinds$State" "terms" "[I" : Cond) ∈ WT := wt (tbin_1 _ (List.mem_of_getElem? (i := 82) rfl)) rfl
theorem ml_L_26 : (Cond.methodLink RL 26 yX8_terms : Cond) ∈ WT := wt (tbin_5 _ (List.mem_of_getElem? (i := 189) rfl)) rfl
theorem im_X8_terms : (Cond.instanceMethod yX8_terms : Cond) ∈ WT := wt (tbin_5 _ (List.mem_of_getElem? (i := 190) rfl)) rfl
theorem se_X8_terms : (Cond.selects RX8 yX8_terms yX8_terms : Cond) ∈ WT := wt (tbin_5 _ (List.mem_of_getElem? (i := 191) rfl)) rfl
theorem co_X8_terms : (Cond.code yX8_terms cX8_terms 6 (some .int) : Cond) ∈ WT := wt (tbin_5 _ (List.mem_of_getElem? (i := 192) rfl)) rfl
theorem ml_X8_99 : (Cond.methodLink RX8 99 yX8_term : Cond) ∈ WT := wt (tbin_5 _ (List.mem_of_getElem? (i := 193) rfl)) rfl
theorem im_X8_term : (Cond.instanceMethod yX8_term : Cond) ∈ WT := wt (tbin_5 _ (List.mem_of_getElem? (i := 195) rfl)) rfl
theorem se_X8_term : (Cond.selects RX8 yX8_term yX8_term : Cond) ∈ WT := wt (tbse _ (List.mem_of_getElem? (i := 44) rfl)) rfl
theorem co_X8_term : (Cond.code yX8_term cX8_term 2 (some .int) : Cond) ∈ WT := wt (tbin_5 _ (List.mem_of_getElem? (i := 196) rfl)) rfl
theorem ml_L_27 : (Cond.methodLink RL 27 yX7_wind : Cond) ∈ WT := wt (tbin_2 _ (List.mem_of_getElem? (i := 124) rfl)) rfl
theorem im_X7_wind : (Cond.instanceMethod yX7_wind : Cond) ∈ WT := wt (tbin_2 _ (List.mem_of_getElem? (i := 125) rfl)) rfl
theorem se_X7_wind : (Cond.selects RX7 yX7_wind yX7_wind : Cond) ∈ WT := wt (tbin_2 _ (List.mem_of_getElem? (i := 126) rfl)) rfl
theorem co_X7_wind : (Cond.code yX7_wind cX7_wind 4 (some .int) : Cond) ∈ WT := wt (tbin_2 _ (List.mem_of_getElem? (i := 127) rfl)) rfl
theorem kc_X7_103 : (Cond.constant RX7 103 (1000000) : Cond) ∈ WT := wt (tbin_2 _ (List.mem_of_getElem? (i := 131) rfl)) rfl
theorem fl_X7_104 : (Cond.fieldLink RX7 104 "CornerWinds$State" "winds" "LCornerWinds$Table;" : Cond) ∈ WT := wt (tbin_1 _ (List.mem_of_getElem? (i := 88) rfl)) rfl
theorem fl_X7_121 : (Cond.fieldLink RX7 121 "CornerWinds$Table" "size" "I" : Cond) ∈ WT := wt (tbin_1 _ (List.mem_of_getElem? (i := 41) rfl)) rfl
theorem ml_X7_100 : (Cond.methodLink RX7 100 yX7_isWay : Cond) ∈ WT := wt (tbin_2 _ (List.mem_of_getElem? (i := 128) rfl)) rfl
theorem st_X7_isWay : (Cond.static yX7_isWay : Cond) ∈ WT := wt (tbin_2 _ (List.mem_of_getElem? (i := 129) rfl)) rfl
theorem co_X7_isWay : (Cond.code yX7_isWay cX7_isWay 1 (some .boolean) : Cond) ∈ WT := wt (tbin_2 _ (List.mem_of_getElem? (i := 130) rfl)) rfl
theorem ml_X7_108 : (Cond.methodLink RX7 108 yX5_isFull : Cond) ∈ WT := wt (tbin_2 _ (List.mem_of_getElem? (i := 132) rfl)) rfl
theorem im_X5_isFull : (Cond.instanceMethod yX5_isFull : Cond) ∈ WT := wt (tbin_2 _ (List.mem_of_getElem? (i := 133) rfl)) rfl
theorem se_X5_isFull : (Cond.selects RX5 yX5_isFull yX5_isFull : Cond) ∈ WT := wt (tbin_2 _ (List.mem_of_getElem? (i := 134) rfl)) rfl
theorem co_X5_isFull : (Cond.code yX5_isFull cX5_isFull 1 (some .boolean) : Cond) ∈ WT := wt (tbin_2 _ (List.mem_of_getElem? (i := 135) rfl)) rfl
theorem ml_X7_114 : (Cond.methodLink RX7 114 yX5_open : Cond) ∈ WT := wt (tbin_2 _ (List.mem_of_getElem? (i := 136) rfl)) rfl
theorem im_X5_open : (Cond.instanceMethod yX5_open : Cond) ∈ WT := wt (tbin_2 _ (List.mem_of_getElem? (i := 137) rfl)) rfl
theorem se_X5_open : (Cond.selects RX5 yX5_open yX5_open : Cond) ∈ WT := wt (tbin_2 _ (List.mem_of_getElem? (i := 138) rfl)) rfl
theorem co_X5_open : (Cond.code yX5_open cX5_open 1 none : Cond) ∈ WT := wt (tbin_2 _ (List.mem_of_getElem? (i := 139) rfl)) rfl
theorem ml_X5_20 : (Cond.methodLink RX5 20 yX5_isFull : Cond) ∈ WT := wt (tbin_2 _ (List.mem_of_getElem? (i := 140) rfl)) rfl
theorem ml_X7_117 : (Cond.methodLink RX7 117 yX5_put : Cond) ∈ WT := wt (tbin_2 _ (List.mem_of_getElem? (i := 141) rfl)) rfl
theorem im_X5_put : (Cond.instanceMethod yX5_put : Cond) ∈ WT := wt (tbin_2 _ (List.mem_of_getElem? (i := 142) rfl)) rfl
theorem se_X5_put : (Cond.selects RX5 yX5_put yX5_put : Cond) ∈ WT := wt (tbin_2 _ (List.mem_of_getElem? (i := 143) rfl)) rfl
theorem co_X5_put : (Cond.code yX5_put cX5_put 3 none : Cond) ∈ WT := wt (tbin_2 _ (List.mem_of_getElem? (i := 144) rfl)) rfl
theorem ml_L_30 : (Cond.methodLink RL 30 yX8_wind : Cond) ∈ WT := wt (tbin_5 _ (List.mem_of_getElem? (i := 197) rfl)) rfl
theorem im_X8_wind : (Cond.instanceMethod yX8_wind : Cond) ∈ WT := wt (tbin_5 _ (List.mem_of_getElem? (i := 198) rfl)) rfl
theorem se_X8_wind : (Cond.selects RX8 yX8_wind yX8_wind : Cond) ∈ WT := wt (tbin_5 _ (List.mem_of_getElem? (i := 199) rfl)) rfl
theorem co_X8_wind : (Cond.code yX8_wind cX8_wind 5 (some .int) : Cond) ∈ WT := wt (tbin_5 _ (List.mem_of_getElem? (i := 200) rfl)) rfl
theorem kc_X8_102 : (Cond.constant RX8 102 (1000000) : Cond) ∈ WT := wt (tbin_5 _ (List.mem_of_getElem? (i := 201) rfl)) rfl
theorem ml_L_31 : (Cond.methodLink RL 31 yX7_plate : Cond) ∈ WT := wt (tbin_2 _ (List.mem_of_getElem? (i := 145) rfl)) rfl
theorem im_X7_plate : (Cond.instanceMethod yX7_plate : Cond) ∈ WT := wt (tbin_2 _ (List.mem_of_getElem? (i := 146) rfl)) rfl
theorem se_X7_plate : (Cond.selects RX7 yX7_plate yX7_plate : Cond) ∈ WT := wt (tbin_2 _ (List.mem_of_getElem? (i := 147) rfl)) rfl
theorem co_X7_plate : (Cond.code yX7_plate cX7_plate 4 (some .int) : Cond) ∈ WT := wt (tbin_2 _ (List.mem_of_getElem? (i := 148) rfl)) rfl
theorem fl_X7_124 : (Cond.fieldLink RX7 124 "CornerWinds$State" "bolted" "[I" : Cond) ∈ WT := wt (tbin_1 _ (List.mem_of_getElem? (i := 68) rfl)) rfl
theorem fl_X7_127 : (Cond.fieldLink RX7 127 "CornerWinds$State" "quarters" "[I" : Cond) ∈ WT := wt (tbin_1 _ (List.mem_of_getElem? (i := 71) rfl)) rfl
theorem ml_L_34 : (Cond.methodLink RL 34 yX8_plate : Cond) ∈ WT := wt (tbin_5 _ (List.mem_of_getElem? (i := 202) rfl)) rfl
theorem im_X8_plate : (Cond.instanceMethod yX8_plate : Cond) ∈ WT := wt (tbin_5 _ (List.mem_of_getElem? (i := 203) rfl)) rfl
theorem se_X8_plate : (Cond.selects RX8 yX8_plate yX8_plate : Cond) ∈ WT := wt (tbin_5 _ (List.mem_of_getElem? (i := 204) rfl)) rfl
theorem co_X8_plate : (Cond.code yX8_plate cX8_plate 4 (some .int) : Cond) ∈ WT := wt (tbin_5 _ (List.mem_of_getElem? (i := 205) rfl)) rfl
theorem ml_L_35 : (Cond.methodLink RL 35 yX7_joint : Cond) ∈ WT := wt (tbin_2 _ (List.mem_of_getElem? (i := 149) rfl)) rfl
theorem im_X7_joint : (Cond.instanceMethod yX7_joint : Cond) ∈ WT := wt (tbin_2 _ (List.mem_of_getElem? (i := 150) rfl)) rfl
theorem se_X7_joint : (Cond.selects RX7 yX7_joint yX7_joint : Cond) ∈ WT := wt (tbin_2 _ (List.mem_of_getElem? (i := 151) rfl)) rfl
theorem co_X7_joint : (Cond.code yX7_joint cX7_joint 3 (some .int) : Cond) ∈ WT := wt (tbin_2 _ (List.mem_of_getElem? (i := 152) rfl)) rfl
theorem ml_X7_130 : (Cond.methodLink RX7 130 yX4_holdOf : Cond) ∈ WT := wt (tbin_2 _ (List.mem_of_getElem? (i := 153) rfl)) rfl
theorem im_X4_holdOf : (Cond.instanceMethod yX4_holdOf : Cond) ∈ WT := wt (tbin_2 _ (List.mem_of_getElem? (i := 154) rfl)) rfl
theorem se_X4_holdOf : (Cond.selects RX4 yX4_holdOf yX4_holdOf : Cond) ∈ WT := wt (tbin_2 _ (List.mem_of_getElem? (i := 155) rfl)) rfl
theorem co_X4_holdOf : (Cond.code yX4_holdOf cX4_holdOf 4 (some .int) : Cond) ∈ WT := wt (tbin_2 _ (List.mem_of_getElem? (i := 156) rfl)) rfl
theorem ml_L_38 : (Cond.methodLink RL 38 yX8_joint : Cond) ∈ WT := wt (tbin_5 _ (List.mem_of_getElem? (i := 206) rfl)) rfl
theorem im_X8_joint : (Cond.instanceMethod yX8_joint : Cond) ∈ WT := wt (tbin_5 _ (List.mem_of_getElem? (i := 207) rfl)) rfl
theorem se_X8_joint : (Cond.selects RX8 yX8_joint yX8_joint : Cond) ∈ WT := wt (tbin_5 _ (List.mem_of_getElem? (i := 208) rfl)) rfl
theorem co_X8_joint : (Cond.code yX8_joint cX8_joint 3 (some .int) : Cond) ∈ WT := wt (tbin_5 _ (List.mem_of_getElem? (i := 209) rfl)) rfl
theorem ml_X8_103 : (Cond.methodLink RX8 103 yX8_holdsOf : Cond) ∈ WT := wt (tbin_5 _ (List.mem_of_getElem? (i := 210) rfl)) rfl
theorem im_X8_holdsOf : (Cond.instanceMethod yX8_holdsOf : Cond) ∈ WT := wt (tbin_5 _ (List.mem_of_getElem? (i := 212) rfl)) rfl
theorem se_X8_holdsOf : (Cond.selects RX8 yX8_holdsOf yX8_holdsOf : Cond) ∈ WT := wt (tbse _ (List.mem_of_getElem? (i := 45) rfl)) rfl
theorem co_X8_holdsOf : (Cond.code yX8_holdsOf cX8_holdsOf 2 (some .int) : Cond) ∈ WT := wt (tbin_5 _ (List.mem_of_getElem? (i := 213) rfl)) rfl
theorem ml_L_39 : (Cond.methodLink RL 39 yX7_tension : Cond) ∈ WT := wt (tbin_2 _ (List.mem_of_getElem? (i := 157) rfl)) rfl
theorem im_X7_tension : (Cond.instanceMethod yX7_tension : Cond) ∈ WT := wt (tbin_2 _ (List.mem_of_getElem? (i := 158) rfl)) rfl
theorem se_X7_tension : (Cond.selects RX7 yX7_tension yX7_tension : Cond) ∈ WT := wt (tbin_2 _ (List.mem_of_getElem? (i := 159) rfl)) rfl
theorem co_X7_tension : (Cond.code yX7_tension cX7_tension 4 (some .long) : Cond) ∈ WT := wt (tbin_2 _ (List.mem_of_getElem? (i := 160) rfl)) rfl
theorem kl_X7_137 : (Cond.constantLong RX7 137 (-1000000000000) : Cond) ∈ WT := wt (tbin_2 _ (List.mem_of_getElem? (i := 165) rfl)) rfl
theorem ml_X7_133 : (Cond.methodLink RX7 133 yX7_isBlowing : Cond) ∈ WT := wt (tbin_2 _ (List.mem_of_getElem? (i := 161) rfl)) rfl
theorem im_X7_isBlowing : (Cond.instanceMethod yX7_isBlowing : Cond) ∈ WT := wt (tbin_2 _ (List.mem_of_getElem? (i := 163) rfl)) rfl
theorem se_X7_isBlowing : (Cond.selects RX7 yX7_isBlowing yX7_isBlowing : Cond) ∈ WT := wt (tbse _ (List.mem_of_getElem? (i := 2) rfl)) rfl
theorem co_X7_isBlowing : (Cond.code yX7_isBlowing cX7_isBlowing 3 (some .boolean) : Cond) ∈ WT := wt (tbin_2 _ (List.mem_of_getElem? (i := 164) rfl)) rfl
theorem ml_X7_139 : (Cond.methodLink RX7 139 yX1_ready : Cond) ∈ WT := wt (tbin_2 _ (List.mem_of_getElem? (i := 166) rfl)) rfl
theorem im_X1_ready : (Cond.instanceMethod yX1_ready : Cond) ∈ WT := wt (tbin_2 _ (List.mem_of_getElem? (i := 167) rfl)) rfl
theorem se_X1_ready : (Cond.selects RX1 yX1_ready yX1_ready : Cond) ∈ WT := wt (tbin_2 _ (List.mem_of_getElem? (i := 168) rfl)) rfl
theorem co_X1_ready : (Cond.code yX1_ready cX1_ready 4 none : Cond) ∈ WT := wt (tbin_2 _ (List.mem_of_getElem? (i := 169) rfl)) rfl
theorem fl_X1_70 : (Cond.fieldLink RX1 70 "CornerWinds$State" "area" "[I" : Cond) ∈ WT := wt (tbin_1 _ (List.mem_of_getElem? (i := 73) rfl)) rfl
theorem fl_X1_77 : (Cond.fieldLink RX1 77 "CornerWinds$State" "terms" "[I" : Cond) ∈ WT := wt (tbin_1 _ (List.mem_of_getElem? (i := 81) rfl)) rfl
theorem ml_X1_73 : (Cond.methodLink RX1 73 yX4_holdOf : Cond) ∈ WT := wt (tbin_2 _ (List.mem_of_getElem? (i := 170) rfl)) rfl
theorem ml_X1_80 : (Cond.methodLink RX1 80 yX1_standLegAt : Cond) ∈ WT := wt (tbin_2 _ (List.mem_of_getElem? (i := 171) rfl)) rfl
theorem im_X1_standLegAt : (Cond.instanceMethod yX1_standLegAt : Cond) ∈ WT := wt (tbin_2 _ (List.mem_of_getElem? (i := 172) rfl)) rfl
theorem se_X1_standLegAt : (Cond.selects RX1 yX1_standLegAt yX1_standLegAt : Cond) ∈ WT := wt (tbin_2 _ (List.mem_of_getElem? (i := 173) rfl)) rfl
theorem co_X1_standLegAt : (Cond.code yX1_standLegAt cX1_standLegAt 2 none : Cond) ∈ WT := wt (tbin_2 _ (List.mem_of_getElem? (i := 174) rfl)) rfl
theorem ml_X7_142 : (Cond.methodLink RX7 142 yX1_blow : Cond) ∈ WT := wt (tbin_2 _ (List.mem_of_getElem? (i := 176) rfl)) rfl
theorem im_X1_blow : (Cond.instanceMethod yX1_blow : Cond) ∈ WT := wt (tbin_2 _ (List.mem_of_getElem? (i := 177) rfl)) rfl
theorem se_X1_blow : (Cond.selects RX1 yX1_blow yX1_blow : Cond) ∈ WT := wt (tbin_2 _ (List.mem_of_getElem? (i := 178) rfl)) rfl
theorem co_X1_blow : (Cond.code yX1_blow cX1_blow 7 none : Cond) ∈ WT := wt (tbin_2 _ (List.mem_of_getElem? (i := 179) rfl)) rfl
theorem fl_X1_87 : (Cond.fieldLink RX1 87 "CornerWinds$State" "winds" "LCornerWinds$Table;" : Cond) ∈ WT := wt (tbin_1 _ (List.mem_of_getElem? (i := 87) rfl)) rfl
theorem ml_X1_91 : (Cond.methodLink RX1 91 yX5_cell : Cond) ∈ WT := wt (tbin_2 _ (List.mem_of_getElem? (i := 180) rfl)) rfl
theorem im_X5_cell : (Cond.instanceMethod yX5_cell : Cond) ∈ WT := wt (tbin_2 _ (List.mem_of_getElem? (i := 181) rfl)) rfl
theorem se_X5_cell : (Cond.selects RX5 yX5_cell yX5_cell : Cond) ∈ WT := wt (tbin_2 _ (List.mem_of_getElem? (i := 182) rfl)) rfl
theorem co_X5_cell : (Cond.code yX5_cell cX5_cell 3 (some .int) : Cond) ∈ WT := wt (tbin_2 _ (List.mem_of_getElem? (i := 183) rfl)) rfl
theorem ml_X7_145 : (Cond.methodLink RX7 145 yX1_stands : Cond) ∈ WT := wt (tbin_2 _ (List.mem_of_getElem? (i := 188) rfl)) rfl
theorem im_X1_stands : (Cond.instanceMethod yX1_stands : Cond) ∈ WT := wt (tbin_2 _ (List.mem_of_getElem? (i := 189) rfl)) rfl
theorem se_X1_stands : (Cond.selects RX1 yX1_stands yX1_stands : Cond) ∈ WT := wt (tbin_2 _ (List.mem_of_getElem? (i := 190) rfl)) rfl
theorem co_X1_stands : (Cond.code yX1_stands cX1_stands 19 (some .boolean) : Cond) ∈ WT := wt (tbin_2 _ (List.mem_of_getElem? (i := 191) rfl)) rfl
theorem kl_X1_107 : (Cond.constantLong RX1 107 (2) : Cond) ∈ WT := wt (tbin_2 _ (List.mem_of_getElem? (i := 196) rfl)) rfl
theorem ml_X1_103 : (Cond.methodLink RX1 103 yX1_addStiffs : Cond) ∈ WT := wt (tbin_2 _ (List.mem_of_getElem? (i := 192) rfl)) rfl
theorem im_X1_addStiffs : (Cond.instanceMethod yX1_addStiffs : Cond) ∈ WT := wt (tbin_2 _ (List.mem_of_getElem? (i := 194) rfl)) rfl
theorem se_X1_addStiffs : (Cond.selects RX1 yX1_addStiffs yX1_addStiffs : Cond) ∈ WT := wt (tbse _ (List.mem_of_getElem? (i := 3) rfl)) rfl
theorem co_X1_addStiffs : (Cond.code yX1_addStiffs cX1_addStiffs 7 none : Cond) ∈ WT := wt (tbin_2 _ (List.mem_of_getElem? (i := 195) rfl)) rfl
theorem fl_X1_113 : (Cond.fieldLink RX1 113 "CornerWinds$State" "stiff" "[I" : Cond) ∈ WT := wt (tbin_1 _ (List.mem_of_getElem? (i := 64) rfl)) rfl
theorem ml_X1_109 : (Cond.methodLink RX1 109 yX1_hasCommonDivisors : Cond) ∈ WT := wt (tbin_2 _ (List.mem_of_getElem? (i := 197) rfl)) rfl
theorem im_X1_hasCommonDivisors : (Cond.instanceMethod yX1_hasCommonDivisors : Cond) ∈ WT := wt (tbin_2 _ (List.mem_of_getElem? (i := 199) rfl)) rfl
theorem se_X1_hasCommonDivisors : (Cond.selects RX1 yX1_hasCommonDivisors yX1_hasCommonDivisors : Cond) ∈ WT := wt (tbse _ (List.mem_of_getElem? (i := 4) rfl)) rfl
theorem co_X1_hasCommonDivisors : (Cond.code yX1_hasCommonDivisors cX1_hasCommonDivisors 6 (some .boolean) : Cond) ∈ WT := wt (tbin_2 _ (List.mem_of_getElem? (i := 200) rfl)) rfl
theorem kl_X1_116 : (Cond.constantLong RX1 116 (1000) : Cond) ∈ WT := wt (tbin_2 _ (List.mem_of_getElem? (i := 201) rfl)) rfl
theorem ml_X7_148 : (Cond.methodLink RX7 148 yX1_thousandths : Cond) ∈ WT := wt (tbin_2 _ (List.mem_of_getElem? (i := 202) rfl)) rfl
theorem im_X1_thousandths : (Cond.instanceMethod yX1_thousandths : Cond) ∈ WT := wt (tbin_2 _ (List.mem_of_getElem? (i := 203) rfl)) rfl
theorem se_X1_thousandths : (Cond.selects RX1 yX1_thousandths yX1_thousandths : Cond) ∈ WT := wt (tbin_2 _ (List.mem_of_getElem? (i := 204) rfl)) rfl
theorem co_X1_thousandths : (Cond.code yX1_thousandths cX1_thousandths 6 (some .long) : Cond) ∈ WT := wt (tbin_2 _ (List.mem_of_getElem? (i := 205) rfl)) rfl
theorem fl_X1_121 : (Cond.fieldLink RX1 121 "CornerWinds$State" "dead" "[I" : Cond) ∈ WT := wt (tbin_1 _ (List.mem_of_getElem? (i := 78) rfl)) rfl
theorem kl_X1_124 : (Cond.constantLong RX1 124 (-1000000000000) : Cond) ∈ WT := wt (tbin_2 _ (List.mem_of_getElem? (i := 209) rfl)) rfl
theorem ml_X1_118 : (Cond.methodLink RX1 118 yX1_faceOf : Cond) ∈ WT := wt (tbin_2 _ (List.mem_of_getElem? (i := 206) rfl)) rfl
theorem st_X1_faceOf : (Cond.static yX1_faceOf : Cond) ∈ WT := wt (tbin_2 _ (List.mem_of_getElem? (i := 207) rfl)) rfl
theorem co_X1_faceOf : (Cond.code yX1_faceOf cX1_faceOf 1 (some .int) : Cond) ∈ WT := wt (tbin_2 _ (List.mem_of_getElem? (i := 208) rfl)) rfl
theorem ml_X1_126 : (Cond.methodLink RX1 126 yX1_pullOf : Cond) ∈ WT := wt (tbin_2 _ (List.mem_of_getElem? (i := 210) rfl)) rfl
theorem im_X1_pullOf : (Cond.instanceMethod yX1_pullOf : Cond) ∈ WT := wt (tbin_2 _ (List.mem_of_getElem? (i := 212) rfl)) rfl
theorem se_X1_pullOf : (Cond.selects RX1 yX1_pullOf yX1_pullOf : Cond) ∈ WT := wt (tbse _ (List.mem_of_getElem? (i := 5) rfl)) rfl
theorem co_X1_pullOf : (Cond.code yX1_pullOf cX1_pullOf 5 (some .long) : Cond) ∈ WT := wt (tbin_2 _ (List.mem_of_getElem? (i := 213) rfl)) rfl
theorem ml_L_43 : (Cond.methodLink RL 43 yX8_tension : Cond) ∈ WT := wt (tbin_5 _ (List.mem_of_getElem? (i := 214) rfl)) rfl
theorem im_X8_tension : (Cond.instanceMethod yX8_tension : Cond) ∈ WT := wt (tbin_5 _ (List.mem_of_getElem? (i := 215) rfl)) rfl
theorem se_X8_tension : (Cond.selects RX8 yX8_tension yX8_tension : Cond) ∈ WT := wt (tbin_5 _ (List.mem_of_getElem? (i := 216) rfl)) rfl
theorem co_X8_tension : (Cond.code yX8_tension cX8_tension 4 (some .long) : Cond) ∈ WT := wt (tbin_5 _ (List.mem_of_getElem? (i := 217) rfl)) rfl
theorem kl_X8_139 : (Cond.constantLong RX8 139 (-1000000000000) : Cond) ∈ WT := wt (tbin_5 _ (List.mem_of_getElem? (i := 222) rfl)) rfl
theorem fl_X8_133 : (Cond.fieldLink RX8 133 "CornerWindsModel" "upper" "J" : Cond) ∈ WT := wt (tbin_5 _ (List.mem_of_getElem? (i := 30) rfl)) rfl
theorem fl_X8_128 : (Cond.fieldLink RX8 128 "CornerWindsModel" "lower" "J" : Cond) ∈ WT := wt (tbin_5 _ (List.mem_of_getElem? (i := 31) rfl)) rfl
theorem ml_X8_136 : (Cond.methodLink RX8 136 yX8_isWind : Cond) ∈ WT := wt (tbin_5 _ (List.mem_of_getElem? (i := 218) rfl)) rfl
theorem im_X8_isWind : (Cond.instanceMethod yX8_isWind : Cond) ∈ WT := wt (tbin_5 _ (List.mem_of_getElem? (i := 220) rfl)) rfl
theorem se_X8_isWind : (Cond.selects RX8 yX8_isWind yX8_isWind : Cond) ∈ WT := wt (tbse _ (List.mem_of_getElem? (i := 46) rfl)) rfl
theorem co_X8_isWind : (Cond.code yX8_isWind cX8_isWind 2 (some .boolean) : Cond) ∈ WT := wt (tbin_5 _ (List.mem_of_getElem? (i := 221) rfl)) rfl
theorem ml_X8_141 : (Cond.methodLink RX8 141 yX8_noneGone : Cond) ∈ WT := wt (tbin_5 _ (List.mem_of_getElem? (i := 223) rfl)) rfl
theorem im_X8_noneGone : (Cond.instanceMethod yX8_noneGone : Cond) ∈ WT := wt (tbin_5 _ (List.mem_of_getElem? (i := 225) rfl)) rfl
theorem se_X8_noneGone : (Cond.selects RX8 yX8_noneGone yX8_noneGone : Cond) ∈ WT := wt (tbse _ (List.mem_of_getElem? (i := 47) rfl)) rfl
theorem co_X8_noneGone : (Cond.code yX8_noneGone cX8_noneGone 2 none : Cond) ∈ WT := wt (tbin_5 _ (List.mem_of_getElem? (i := 226) rfl)) rfl
theorem ml_X8_144 : (Cond.methodLink RX8 144 yX8_lays : Cond) ∈ WT := wt (tbin_5 _ (List.mem_of_getElem? (i := 227) rfl)) rfl
theorem im_X8_lays : (Cond.instanceMethod yX8_lays : Cond) ∈ WT := wt (tbin_5 _ (List.mem_of_getElem? (i := 229) rfl)) rfl
theorem se_X8_lays : (Cond.selects RX8 yX8_lays yX8_lays : Cond) ∈ WT := wt (tbse _ (List.mem_of_getElem? (i := 48) rfl)) rfl
theorem co_X8_lays : (Cond.code yX8_lays cX8_lays 29 (some .boolean) : Cond) ∈ WT := wt (tbin_5 _ (List.mem_of_getElem? (i := 230) rfl)) rfl
theorem fl_X8_116 : (Cond.fieldLink RX8 116 "CornerWindsModel" "upEast" "J" : Cond) ∈ WT := wt (tbin_5 _ (List.mem_of_getElem? (i := 29) rfl)) rfl
theorem fl_X8_120 : (Cond.fieldLink RX8 120 "CornerWindsModel" "upNorth" "J" : Cond) ∈ WT := wt (tbin_5 _ (List.mem_of_getElem? (i := 28) rfl)) rfl
theorem fl_X8_123 : (Cond.fieldLink RX8 123 "CornerWindsModel" "delta" "J" : Cond) ∈ WT := wt (tbin_5 _ (List.mem_of_getElem? (i := 27) rfl)) rfl
theorem ml_X8_109 : (Cond.methodLink RX8 109 yX8_windOf : Cond) ∈ WT := wt (tbin_5 _ (List.mem_of_getElem? (i := 231) rfl)) rfl
theorem im_X8_windOf : (Cond.instanceMethod yX8_windOf : Cond) ∈ WT := wt (tbin_5 _ (List.mem_of_getElem? (i := 233) rfl)) rfl
theorem se_X8_windOf : (Cond.selects RX8 yX8_windOf yX8_windOf : Cond) ∈ WT := wt (tbse _ (List.mem_of_getElem? (i := 49) rfl)) rfl
theorem co_X8_windOf : (Cond.code yX8_windOf cX8_windOf 3 (some .int) : Cond) ∈ WT := wt (tbin_5 _ (List.mem_of_getElem? (i := 234) rfl)) rfl
theorem ml_X8_106 : (Cond.methodLink RX8 106 yX8_eastOf : Cond) ∈ WT := wt (tbin_5 _ (List.mem_of_getElem? (i := 235) rfl)) rfl
theorem st_X8_eastOf : (Cond.static yX8_eastOf : Cond) ∈ WT := wt (tbin_5 _ (List.mem_of_getElem? (i := 236) rfl)) rfl
theorem co_X8_eastOf : (Cond.code yX8_eastOf cX8_eastOf 1 (some .int) : Cond) ∈ WT := wt (tbin_5 _ (List.mem_of_getElem? (i := 237) rfl)) rfl
theorem ml_X8_113 : (Cond.methodLink RX8 113 yX8_northOf : Cond) ∈ WT := wt (tbin_5 _ (List.mem_of_getElem? (i := 238) rfl)) rfl
theorem st_X8_northOf : (Cond.static yX8_northOf : Cond) ∈ WT := wt (tbin_5 _ (List.mem_of_getElem? (i := 239) rfl)) rfl
theorem co_X8_northOf : (Cond.code yX8_northOf cX8_northOf 1 (some .int) : Cond) ∈ WT := wt (tbin_6 _ (List.mem_of_getElem? (i := 0) rfl)) rfl
theorem ml_X8_147 : (Cond.methodLink RX8 147 yX8_pulls : Cond) ∈ WT := wt (tbin_6 _ (List.mem_of_getElem? (i := 1) rfl)) rfl
theorem im_X8_pulls : (Cond.instanceMethod yX8_pulls : Cond) ∈ WT := wt (tbin_6 _ (List.mem_of_getElem? (i := 3) rfl)) rfl
theorem se_X8_pulls : (Cond.selects RX8 yX8_pulls yX8_pulls : Cond) ∈ WT := wt (tbse _ (List.mem_of_getElem? (i := 50) rfl)) rfl
theorem co_X8_pulls : (Cond.code yX8_pulls cX8_pulls 8 none : Cond) ∈ WT := wt (tbin_6 _ (List.mem_of_getElem? (i := 4) rfl)) rfl
theorem kl_X8_126 : (Cond.constantLong RX8 126 (1000000) : Cond) ∈ WT := wt (tbin_6 _ (List.mem_of_getElem? (i := 5) rfl)) rfl
theorem kl_X8_131 : (Cond.constantLong RX8 131 (1000) : Cond) ∈ WT := wt (tbin_6 _ (List.mem_of_getElem? (i := 6) rfl)) rfl
theorem ml_X8_151 : (Cond.methodLink RX8 151 yX8_thousand : Cond) ∈ WT := wt (tbin_6 _ (List.mem_of_getElem? (i := 7) rfl)) rfl
theorem st_X8_thousand : (Cond.static yX8_thousand : Cond) ∈ WT := wt (tbin_6 _ (List.mem_of_getElem? (i := 8) rfl)) rfl
theorem co_X8_thousand : (Cond.code yX8_thousand cX8_thousand 4 (some .long) : Cond) ∈ WT := wt (tbin_6 _ (List.mem_of_getElem? (i := 9) rfl)) rfl
theorem ml_L_44 : (Cond.methodLink RL 44 yX7_goes : Cond) ∈ WT := wt (tbin_2 _ (List.mem_of_getElem? (i := 214) rfl)) rfl
theorem im_X7_goes : (Cond.instanceMethod yX7_goes : Cond) ∈ WT := wt (tbin_2 _ (List.mem_of_getElem? (i := 215) rfl)) rfl
theorem se_X7_goes : (Cond.selects RX7 yX7_goes yX7_goes : Cond) ∈ WT := wt (tbin_2 _ (List.mem_of_getElem? (i := 216) rfl)) rfl
theorem co_X7_goes : (Cond.code yX7_goes cX7_goes 4 (some .int) : Cond) ∈ WT := wt (tbin_2 _ (List.mem_of_getElem? (i := 217) rfl)) rfl
theorem fl_X7_155 : (Cond.fieldLink RX7 155 "CornerWinds$Bearing" "lost" "I" : Cond) ∈ WT := wt (tbin_1 _ (List.mem_of_getElem? (i := 145) rfl)) rfl
theorem fl_X7_158 : (Cond.fieldLink RX7 158 "CornerWinds$Bearing" "order" "[I" : Cond) ∈ WT := wt (tbin_1 _ (List.mem_of_getElem? (i := 143) rfl)) rfl
theorem ml_X7_152 : (Cond.methodLink RX7 152 yX1_breakUp : Cond) ∈ WT := wt (tbin_2 _ (List.mem_of_getElem? (i := 218) rfl)) rfl
theorem im_X1_breakUp : (Cond.instanceMethod yX1_breakUp : Cond) ∈ WT := wt (tbin_2 _ (List.mem_of_getElem? (i := 219) rfl)) rfl
theorem se_X1_breakUp : (Cond.selects RX1 yX1_breakUp yX1_breakUp : Cond) ∈ WT := wt (tbin_2 _ (List.mem_of_getElem? (i := 220) rfl)) rfl
theorem co_X1_breakUp : (Cond.code yX1_breakUp cX1_breakUp 5 none : Cond) ∈ WT := wt (tbin_2 _ (List.mem_of_getElem? (i := 221) rfl)) rfl
theorem ml_X1_136 : (Cond.methodLink RX1 136 yX1_blow : Cond) ∈ WT := wt (tbin_2 _ (List.mem_of_getElem? (i := 222) rfl)) rfl
theorem ml_X1_139 : (Cond.methodLink RX1 139 yX1_look : Cond) ∈ WT := wt (tbin_2 _ (List.mem_of_getElem? (i := 223) rfl)) rfl
theorem im_X1_look : (Cond.instanceMethod yX1_look : Cond) ∈ WT := wt (tbin_2 _ (List.mem_of_getElem? (i := 225) rfl)) rfl
theorem se_X1_look : (Cond.selects RX1 yX1_look yX1_look : Cond) ∈ WT := wt (tbse _ (List.mem_of_getElem? (i := 6) rfl)) rfl
theorem co_X1_look : (Cond.code yX1_look cX1_look 11 none : Cond) ∈ WT := wt (tbin_2 _ (List.mem_of_getElem? (i := 226) rfl)) rfl
theorem kl_X1_130 : (Cond.constantLong RX1 130 (-1) : Cond) ∈ WT := wt (tbin_2 _ (List.mem_of_getElem? (i := 227) rfl)) rfl
theorem ml_X1_132 : (Cond.methodLink RX1 132 yX1_stands : Cond) ∈ WT := wt (tbin_2 _ (List.mem_of_getElem? (i := 228) rfl)) rfl
theorem ml_X1_142 : (Cond.methodLink RX1 142 yX1_worstOfAll : Cond) ∈ WT := wt (tbin_2 _ (List.mem_of_getElem? (i := 229) rfl)) rfl
theorem im_X1_worstOfAll : (Cond.instanceMethod yX1_worstOfAll : Cond) ∈ WT := wt (tbin_2 _ (List.mem_of_getElem? (i := 231) rfl)) rfl
theorem se_X1_worstOfAll : (Cond.selects RX1 yX1_worstOfAll yX1_worstOfAll : Cond) ∈ WT := wt (tbse _ (List.mem_of_getElem? (i := 7) rfl)) rfl
theorem co_X1_worstOfAll : (Cond.code yX1_worstOfAll cX1_worstOfAll 5 (some .int) : Cond) ∈ WT := wt (tbin_2 _ (List.mem_of_getElem? (i := 232) rfl)) rfl
theorem ml_L_47 : (Cond.methodLink RL 47 yX8_goes : Cond) ∈ WT := wt (tbin_6 _ (List.mem_of_getElem? (i := 10) rfl)) rfl
theorem im_X8_goes : (Cond.instanceMethod yX8_goes : Cond) ∈ WT := wt (tbin_6 _ (List.mem_of_getElem? (i := 11) rfl)) rfl
theorem se_X8_goes : (Cond.selects RX8 yX8_goes yX8_goes : Cond) ∈ WT := wt (tbin_6 _ (List.mem_of_getElem? (i := 12) rfl)) rfl
theorem co_X8_goes : (Cond.code yX8_goes cX8_goes 4 (some .int) : Cond) ∈ WT := wt (tbin_6 _ (List.mem_of_getElem? (i := 13) rfl)) rfl
theorem fl_X8_155 : (Cond.fieldLink RX8 155 "CornerWindsModel" "wentMany" "I" : Cond) ∈ WT := wt (tbin_5 _ (List.mem_of_getElem? (i := 33) rfl)) rfl
theorem ml_X8_161 : (Cond.methodLink RX8 161 yX8_blows : Cond) ∈ WT := wt (tbin_6 _ (List.mem_of_getElem? (i := 14) rfl)) rfl
theorem im_X8_blows : (Cond.instanceMethod yX8_blows : Cond) ∈ WT := wt (tbin_6 _ (List.mem_of_getElem? (i := 16) rfl)) rfl
theorem se_X8_blows : (Cond.selects RX8 yX8_blows yX8_blows : Cond) ∈ WT := wt (tbse _ (List.mem_of_getElem? (i := 51) rfl)) rfl
theorem co_X8_blows : (Cond.code yX8_blows cX8_blows 13 none : Cond) ∈ WT := wt (tbin_6 _ (List.mem_of_getElem? (i := 17) rfl)) rfl
theorem fl_X8_158 : (Cond.fieldLink RX8 158 "CornerWindsModel" "fallen" "I" : Cond) ∈ WT := wt (tbin_5 _ (List.mem_of_getElem? (i := 34) rfl)) rfl
theorem ml_L_48 : (Cond.methodLink RL 48 yX7_falls : Cond) ∈ WT := wt (tbin_2 _ (List.mem_of_getElem? (i := 233) rfl)) rfl
theorem im_X7_falls : (Cond.instanceMethod yX7_falls : Cond) ∈ WT := wt (tbin_2 _ (List.mem_of_getElem? (i := 234) rfl)) rfl
theorem se_X7_falls : (Cond.selects RX7 yX7_falls yX7_falls : Cond) ∈ WT := wt (tbin_2 _ (List.mem_of_getElem? (i := 235) rfl)) rfl
theorem co_X7_falls : (Cond.code yX7_falls cX7_falls 3 (some .int) : Cond) ∈ WT := wt (tbin_2 _ (List.mem_of_getElem? (i := 236) rfl)) rfl
theorem fl_X7_161 : (Cond.fieldLink RX7 161 "CornerWinds$Bearing" "fallen" "I" : Cond) ∈ WT := wt (tbin_1 _ (List.mem_of_getElem? (i := 147) rfl)) rfl
theorem ml_L_51 : (Cond.methodLink RL 51 yX8_falls : Cond) ∈ WT := wt (tbin_6 _ (List.mem_of_getElem? (i := 18) rfl)) rfl
theorem im_X8_falls : (Cond.instanceMethod yX8_falls : Cond) ∈ WT := wt (tbin_6 _ (List.mem_of_getElem? (i := 19) rfl)) rfl
theorem se_X8_falls : (Cond.selects RX8 yX8_falls yX8_falls : Cond) ∈ WT := wt (tbin_6 _ (List.mem_of_getElem? (i := 20) rfl)) rfl
theorem co_X8_falls : (Cond.code yX8_falls cX8_falls 3 (some .int) : Cond) ∈ WT := wt (tbin_6 _ (List.mem_of_getElem? (i := 21) rfl)) rfl
theorem ml_L_52 : (Cond.methodLink RL 52 yX7_feed : Cond) ∈ WT := wt (tbin_2 _ (List.mem_of_getElem? (i := 237) rfl)) rfl
theorem im_X7_feed : (Cond.instanceMethod yX7_feed : Cond) ∈ WT := wt (tbin_2 _ (List.mem_of_getElem? (i := 238) rfl)) rfl
theorem se_X7_feed : (Cond.selects RX7 yX7_feed yX7_feed : Cond) ∈ WT := wt (tbin_2 _ (List.mem_of_getElem? (i := 239) rfl)) rfl
theorem co_X7_feed : (Cond.code yX7_feed cX7_feed 6 (some .int) : Cond) ∈ WT := wt (tbin_3 _ (List.mem_of_getElem? (i := 0) rfl)) rfl
theorem ml_X7_164 : (Cond.methodLink RX7 164 yX7_writeBytes : Cond) ∈ WT := wt (tbin_3 _ (List.mem_of_getElem? (i := 1) rfl)) rfl
theorem im_X7_writeBytes : (Cond.instanceMethod yX7_writeBytes : Cond) ∈ WT := wt (tbin_3 _ (List.mem_of_getElem? (i := 3) rfl)) rfl
theorem se_X7_writeBytes : (Cond.selects RX7 yX7_writeBytes yX7_writeBytes : Cond) ∈ WT := wt (tbse _ (List.mem_of_getElem? (i := 8) rfl)) rfl
theorem co_X7_writeBytes : (Cond.code yX7_writeBytes cX7_writeBytes 3 none : Cond) ∈ WT := wt (tbin_3 _ (List.mem_of_getElem? (i := 4) rfl)) rfl
theorem ml_L_56 : (Cond.methodLink RL 56 yX8_feed : Cond) ∈ WT := wt (tbin_6 _ (List.mem_of_getElem? (i := 22) rfl)) rfl
theorem im_X8_feed : (Cond.instanceMethod yX8_feed : Cond) ∈ WT := wt (tbin_6 _ (List.mem_of_getElem? (i := 23) rfl)) rfl
theorem se_X8_feed : (Cond.selects RX8 yX8_feed yX8_feed : Cond) ∈ WT := wt (tbin_6 _ (List.mem_of_getElem? (i := 24) rfl)) rfl
theorem co_X8_feed : (Cond.code yX8_feed cX8_feed 7 (some .int) : Cond) ∈ WT := wt (tbin_6 _ (List.mem_of_getElem? (i := 25) rfl)) rfl
theorem fl_X8_165 : (Cond.fieldLink RX8 165 "CornerWindsModel" "taped" "I" : Cond) ∈ WT := wt (tbin_5 _ (List.mem_of_getElem? (i := 38) rfl)) rfl
theorem ml_L_57 : (Cond.methodLink RL 57 yX7_end : Cond) ∈ WT := wt (tbin_3 _ (List.mem_of_getElem? (i := 5) rfl)) rfl
theorem im_X7_end : (Cond.instanceMethod yX7_end : Cond) ∈ WT := wt (tbin_3 _ (List.mem_of_getElem? (i := 6) rfl)) rfl
theorem se_X7_end : (Cond.selects RX7 yX7_end yX7_end : Cond) ∈ WT := wt (tbin_3 _ (List.mem_of_getElem? (i := 7) rfl)) rfl
theorem co_X7_end : (Cond.code yX7_end cX7_end 2 (some .int) : Cond) ∈ WT := wt (tbin_3 _ (List.mem_of_getElem? (i := 8) rfl)) rfl
theorem ml_L_61 : (Cond.methodLink RL 61 yX8_end : Cond) ∈ WT := wt (tbin_6 _ (List.mem_of_getElem? (i := 26) rfl)) rfl
theorem im_X8_end : (Cond.instanceMethod yX8_end : Cond) ∈ WT := wt (tbin_6 _ (List.mem_of_getElem? (i := 27) rfl)) rfl
theorem se_X8_end : (Cond.selects RX8 yX8_end yX8_end : Cond) ∈ WT := wt (tbin_6 _ (List.mem_of_getElem? (i := 28) rfl)) rfl
theorem co_X8_end : (Cond.code yX8_end cX8_end 2 (some .int) : Cond) ∈ WT := wt (tbin_6 _ (List.mem_of_getElem? (i := 29) rfl)) rfl
theorem ml_L_62 : (Cond.methodLink RL 62 yX7_rule : Cond) ∈ WT := wt (tbin_3 _ (List.mem_of_getElem? (i := 9) rfl)) rfl
theorem im_X7_rule : (Cond.instanceMethod yX7_rule : Cond) ∈ WT := wt (tbin_3 _ (List.mem_of_getElem? (i := 10) rfl)) rfl
theorem se_X7_rule : (Cond.selects RX7 yX7_rule yX7_rule : Cond) ∈ WT := wt (tbin_3 _ (List.mem_of_getElem? (i := 11) rfl)) rfl
theorem co_X7_rule : (Cond.code yX7_rule cX7_rule 3 (some .int) : Cond) ∈ WT := wt (tbin_3 _ (List.mem_of_getElem? (i := 12) rfl)) rfl
theorem fl_X7_172 : (Cond.fieldLink RX7 172 "CornerWinds$State" "textCount" "I" : Cond) ∈ WT := wt (tbin_1 _ (List.mem_of_getElem? (i := 101) rfl)) rfl
theorem fl_X7_179 : (Cond.fieldLink RX7 179 "CornerWinds$Reader" "start" "I" : Cond) ∈ WT := wt (tbin_2 _ (List.mem_of_getElem? (i := 8) rfl)) rfl
theorem fl_X7_182 : (Cond.fieldLink RX7 182 "CornerWinds$State" "texts" "[LCornerWinds$Text;" : Cond) ∈ WT := wt (tbin_1 _ (List.mem_of_getElem? (i := 99) rfl)) rfl
theorem ml_X7_168 : (Cond.methodLink RX7 168 yX7_takeTape : Cond) ∈ WT := wt (tbin_3 _ (List.mem_of_getElem? (i := 13) rfl)) rfl
theorem im_X7_takeTape : (Cond.instanceMethod yX7_takeTape : Cond) ∈ WT := wt (tbin_3 _ (List.mem_of_getElem? (i := 15) rfl)) rfl
theorem se_X7_takeTape : (Cond.selects RX7 yX7_takeTape yX7_takeTape : Cond) ∈ WT := wt (tbse _ (List.mem_of_getElem? (i := 9) rfl)) rfl
theorem co_X7_takeTape : (Cond.code yX7_takeTape cX7_takeTape 2 (some .int) : Cond) ∈ WT := wt (tbin_3 _ (List.mem_of_getElem? (i := 16) rfl)) rfl
theorem ml_X7_175 : (Cond.methodLink RX7 175 yX3_read : Cond) ∈ WT := wt (tbin_3 _ (List.mem_of_getElem? (i := 17) rfl)) rfl
theorem im_X3_read : (Cond.instanceMethod yX3_read : Cond) ∈ WT := wt (tbin_3 _ (List.mem_of_getElem? (i := 18) rfl)) rfl
theorem se_X3_read : (Cond.selects RX3 yX3_read yX3_read : Cond) ∈ WT := wt (tbin_3 _ (List.mem_of_getElem? (i := 19) rfl)) rfl
theorem co_X3_read : (Cond.code yX3_read cX3_read 4 (some (.object "CornerWinds$Text")) : Cond) ∈ WT := wt (tbin_3 _ (List.mem_of_getElem? (i := 20) rfl)) rfl
theorem ml_X3_48 : (Cond.methodLink RX3 48 Lib.Math.min.name : Cond) ∈ WT := wt (tbin_3 _ (List.mem_of_getElem? (i := 21) rfl)) rfl
theorem st_Lib_Math_min_name : (Cond.static Lib.Math.min.name : Cond) ∈ WT := wt (tbin_3 _ (List.mem_of_getElem? (i := 22) rfl)) rfl
theorem ini_java_lang_Math : (Cond.initialized "java/lang/Math" : Cond) ∈ WT := wt (tbin_1 _ (List.mem_of_getElem? (i := 11) rfl)) rfl
theorem co_Lib_Math_min_name : (Cond.code Lib.Math.min.name Lib.Math.min.code 2 (some .int) : Cond) ∈ WT := wt (tbin_3 _ (List.mem_of_getElem? (i := 23) rfl)) rfl
theorem cl_X3_34 : (Cond.classLink RX3 34 RX6 : Cond) ∈ WT := wt (tbin_3 _ (List.mem_of_getElem? (i := 141) rfl)) rfl
theorem ins_X6 : (Cond.instantiable RX6 2 : Cond) ∈ WT := wt (tbin_3 _ (List.mem_of_getElem? (i := 142) rfl)) rfl
theorem ini_X6 : (Cond.initialized RX6 : Cond) ∈ WT := wt (tbin_1 _ (List.mem_of_getElem? (i := 16) rfl)) rfl
theorem ml_X3_54 : (Cond.methodLink RX3 54 yX3_advance : Cond) ∈ WT := wt (tbin_3 _ (List.mem_of_getElem? (i := 24) rfl)) rfl
theorem im_X3_advance : (Cond.instanceMethod yX3_advance : Cond) ∈ WT := wt (tbin_3 _ (List.mem_of_getElem? (i := 26) rfl)) rfl
theorem se_X3_advance : (Cond.selects RX3 yX3_advance yX3_advance : Cond) ∈ WT := wt (tbse _ (List.mem_of_getElem? (i := 10) rfl)) rfl
theorem co_X3_advance : (Cond.code yX3_advance cX3_advance 1 none : Cond) ∈ WT := wt (tbin_3 _ (List.mem_of_getElem? (i := 27) rfl)) rfl
theorem ml_X3_70 : (Cond.methodLink RX3 70 yX3_isLetter : Cond) ∈ WT := wt (tbin_3 _ (List.mem_of_getElem? (i := 28) rfl)) rfl
theorem st_X3_isLetter : (Cond.static yX3_isLetter : Cond) ∈ WT := wt (tbin_3 _ (List.mem_of_getElem? (i := 29) rfl)) rfl
theorem co_X3_isLetter : (Cond.code yX3_isLetter cX3_isLetter 1 (some .boolean) : Cond) ∈ WT := wt (tbin_3 _ (List.mem_of_getElem? (i := 30) rfl)) rfl
theorem ml_X3_74 : (Cond.methodLink RX3 74 yX3_takeWord : Cond) ∈ WT := wt (tbin_3 _ (List.mem_of_getElem? (i := 31) rfl)) rfl
theorem im_X3_takeWord : (Cond.instanceMethod yX3_takeWord : Cond) ∈ WT := wt (tbin_3 _ (List.mem_of_getElem? (i := 33) rfl)) rfl
theorem se_X3_takeWord : (Cond.selects RX3 yX3_takeWord yX3_takeWord : Cond) ∈ WT := wt (tbse _ (List.mem_of_getElem? (i := 11) rfl)) rfl
theorem co_X3_takeWord : (Cond.code yX3_takeWord cX3_takeWord 2 none : Cond) ∈ WT := wt (tbin_3 _ (List.mem_of_getElem? (i := 34) rfl)) rfl
theorem ml_X3_83 : (Cond.methodLink RX3 83 yX3_isWord : Cond) ∈ WT := wt (tbin_3 _ (List.mem_of_getElem? (i := 35) rfl)) rfl
theorem im_X3_isWord : (Cond.instanceMethod yX3_isWord : Cond) ∈ WT := wt (tbin_3 _ (List.mem_of_getElem? (i := 37) rfl)) rfl
theorem se_X3_isWord : (Cond.selects RX3 yX3_isWord yX3_isWord : Cond) ∈ WT := wt (tbse _ (List.mem_of_getElem? (i := 12) rfl)) rfl
theorem co_X3_isWord : (Cond.code yX3_isWord cX3_isWord 4 (some .boolean) : Cond) ∈ WT := wt (tbin_3 _ (List.mem_of_getElem? (i := 38) rfl)) rfl
theorem ml_X3_88 : (Cond.methodLink RX3 88 yJ0_charAt_5068e : Cond) ∈ WT := wt (tbin_3 _ (List.mem_of_getElem? (i := 40) rfl)) rfl
theorem im_J0_charAt_5068e : (Cond.instanceMethod yJ0_charAt_5068e : Cond) ∈ WT := wt (tbin_3 _ (List.mem_of_getElem? (i := 41) rfl)) rfl
theorem se_J0_charAt_5068e : (Cond.selects RJ0 yJ0_charAt_5068e yJ0_charAt_5068e : Cond) ∈ WT := wt (tbin_3 _ (List.mem_of_getElem? (i := 42) rfl)) rfl
theorem ini_J0 : (Cond.initialized RJ0 : Cond) ∈ WT := wt (tbin_1 _ (List.mem_of_getElem? (i := 12) rfl)) rfl
theorem co_J0_charAt_5068e : (Cond.code yJ0_charAt_5068e cJ0_charAt_5068e 2 (some .char) : Cond) ∈ WT := wt (tbin_3 _ (List.mem_of_getElem? (i := 43) rfl)) rfl
theorem fl_J0_9 : (Cond.fieldLink RJ0 9 "java/lang/String" "value" "[B" : Cond) ∈ WT := wt (tbin_7 _ (List.mem_of_getElem? (i := 92) rfl)) rfl
theorem ml_J0_492 : (Cond.methodLink RJ0 492 yJ0_isLatin1_aae02 : Cond) ∈ WT := wt (tbin_3 _ (List.mem_of_getElem? (i := 44) rfl)) rfl
theorem im_J0_isLatin1_aae02 : (Cond.instanceMethod yJ0_isLatin1_aae02 : Cond) ∈ WT := wt (tbin_3 _ (List.mem_of_getElem? (i := 45) rfl)) rfl
theorem se_J0_isLatin1_aae02 : (Cond.selects RJ0 yJ0_isLatin1_aae02 yJ0_isLatin1_aae02 : Cond) ∈ WT := wt (tbin_3 _ (List.mem_of_getElem? (i := 46) rfl)) rfl
theorem co_J0_isLatin1_aae02 : (Cond.code yJ0_isLatin1_aae02 cJ0_isLatin1_aae02 1 (some .boolean) : Cond) ∈ WT := wt (tbin_3 _ (List.mem_of_getElem? (i := 47) rfl)) rfl
theorem fl_J0_38 : (Cond.fieldLink RJ0 38 "java/lang/String" "COMPACT_STRINGS" "Z" : Cond) ∈ WT := wt (tbin_3 _ (List.mem_of_getElem? (i := 48) rfl)) rfl
theorem fl_J0_15 : (Cond.fieldLink RJ0 15 "java/lang/String" "coder" "B" : Cond) ∈ WT := wt (tbin_7 _ (List.mem_of_getElem? (i := 91) rfl)) rfl
theorem ml_J0_495 : (Cond.methodLink RJ0 495 yJ1_charAt_3b067 : Cond) ∈ WT := wt (tbin_3 _ (List.mem_of_getElem? (i := 50) rfl)) rfl
theorem st_J1_charAt_3b067 : (Cond.static yJ1_charAt_3b067 : Cond) ∈ WT := wt (tbin_3 _ (List.mem_of_getElem? (i := 51) rfl)) rfl
theorem ini_J1 : (Cond.initialized RJ1 : Cond) ∈ WT := wt (tbin_1 _ (List.mem_of_getElem? (i := 13) rfl)) rfl
theorem co_J1_charAt_3b067 : (Cond.code yJ1_charAt_3b067 cJ1_charAt_3b067 2 (some .char) : Cond) ∈ WT := wt (tbin_3 _ (List.mem_of_getElem? (i := 52) rfl)) rfl
theorem ml_J1_9 : (Cond.methodLink RJ1 9 yJ0_checkIndex_df160 : Cond) ∈ WT := wt (tbin_3 _ (List.mem_of_getElem? (i := 53) rfl)) rfl
theorem st_J0_checkIndex_df160 : (Cond.static yJ0_checkIndex_df160 : Cond) ∈ WT := wt (tbin_3 _ (List.mem_of_getElem? (i := 54) rfl)) rfl
theorem co_J0_checkIndex_df160 : (Cond.code yJ0_checkIndex_df160 cJ0_checkIndex_df160 2 none : Cond) ∈ WT := wt (tbin_3 _ (List.mem_of_getElem? (i := 55) rfl)) rfl
theorem fl_J0_1053 : (Cond.fieldLink RJ0 1053 "jdk/internal/util/Preconditions" "SIOOBE_FORMATTER" "Ljava/util/function/BiFunction;" : Cond) ∈ WT := wt (tbin_3 _ (List.mem_of_getElem? (i := 56) rfl)) rfl
theorem ml_J0_1059 : (Cond.methodLink RJ0 1059 yJ3_checkIndex_8e157 : Cond) ∈ WT := wt (tbin_3 _ (List.mem_of_getElem? (i := 58) rfl)) rfl
theorem st_J3_checkIndex_8e157 : (Cond.static yJ3_checkIndex_8e157 : Cond) ∈ WT := wt (tbin_3 _ (List.mem_of_getElem? (i := 59) rfl)) rfl
theorem ini_J3 : (Cond.initialized RJ3 : Cond) ∈ WT := wt (tbin_1 _ (List.mem_of_getElem? (i := 14) rfl)) rfl
theorem co_J3_checkIndex_8e157 : (Cond.code yJ3_checkIndex_8e157 cJ3_checkIndex_8e157 3 (some .int) : Cond) ∈ WT := wt (tbin_3 _ (List.mem_of_getElem? (i := 60) rfl)) rfl
theorem ml_J0_498 : (Cond.methodLink RJ0 498 yJ2_charAt_3b067 : Cond) ∈ WT := wt (tbin_3 _ (List.mem_of_getElem? (i := 61) rfl)) rfl
theorem st_J2_charAt_3b067 : (Cond.static yJ2_charAt_3b067 : Cond) ∈ WT := wt (tbin_3 _ (List.mem_of_getElem? (i := 62) rfl)) rfl
theorem ini_J2 : (Cond.initialized RJ2 : Cond) ∈ WT := wt (tbin_1 _ (List.mem_of_getElem? (i := 15) rfl)) rfl
theorem co_J2_charAt_3b067 : (Cond.code yJ2_charAt_3b067 cJ2_charAt_3b067 2 (some .char) : Cond) ∈ WT := wt (tbin_3 _ (List.mem_of_getElem? (i := 63) rfl)) rfl
theorem ml_J2_67 : (Cond.methodLink RJ2 67 yJ2_checkIndex_2214a : Cond) ∈ WT := wt (tbin_3 _ (List.mem_of_getElem? (i := 64) rfl)) rfl
theorem st_J2_checkIndex_2214a : (Cond.static yJ2_checkIndex_2214a : Cond) ∈ WT := wt (tbin_3 _ (List.mem_of_getElem? (i := 65) rfl)) rfl
theorem co_J2_checkIndex_2214a : (Cond.code yJ2_checkIndex_2214a cJ2_checkIndex_2214a 2 none : Cond) ∈ WT := wt (tbin_3 _ (List.mem_of_getElem? (i := 66) rfl)) rfl
theorem ml_J2_48 : (Cond.methodLink RJ2 48 yJ2_length_9d52b : Cond) ∈ WT := wt (tbin_3 _ (List.mem_of_getElem? (i := 67) rfl)) rfl
theorem st_J2_length_9d52b : (Cond.static yJ2_length_9d52b : Cond) ∈ WT := wt (tbin_3 _ (List.mem_of_getElem? (i := 68) rfl)) rfl
theorem co_J2_length_9d52b : (Cond.code yJ2_length_9d52b cJ2_length_9d52b 1 (some .int) : Cond) ∈ WT := wt (tbin_3 _ (List.mem_of_getElem? (i := 69) rfl)) rfl
theorem ml_J2_414 : (Cond.methodLink RJ2 414 yJ0_checkIndex_df160 : Cond) ∈ WT := wt (tbin_3 _ (List.mem_of_getElem? (i := 70) rfl)) rfl
theorem ml_J2_71 : (Cond.methodLink RJ2 71 yJ2_getChar_3b067 : Cond) ∈ WT := wt (tbin_3 _ (List.mem_of_getElem? (i := 71) rfl)) rfl
theorem st_J2_getChar_3b067 : (Cond.static yJ2_getChar_3b067 : Cond) ∈ WT := wt (tbin_3 _ (List.mem_of_getElem? (i := 72) rfl)) rfl
theorem co_J2_getChar_3b067 : (Cond.code yJ2_getChar_3b067 cJ2_getChar_3b067 2 (some .char) : Cond) ∈ WT := wt (tbin_3 _ (List.mem_of_getElem? (i := 73) rfl)) rfl
theorem fl_J2_44 : (Cond.fieldLink RJ2 44 "java/lang/StringUTF16" "$assertionsDisabled" "Z" : Cond) ∈ WT := wt (tbin_3 _ (List.mem_of_getElem? (i := 74) rfl)) rfl
theorem fl_J2_59 : (Cond.fieldLink RJ2 59 "java/lang/StringUTF16" "HI_BYTE_SHIFT" "I" : Cond) ∈ WT := wt (tbin_3 _ (List.mem_of_getElem? (i := 76) rfl)) rfl
theorem fl_J2_63 : (Cond.fieldLink RJ2 63 "java/lang/StringUTF16" "LO_BYTE_SHIFT" "I" : Cond) ∈ WT := wt (tbin_3 _ (List.mem_of_getElem? (i := 78) rfl)) rfl
theorem ml_X3_77 : (Cond.methodLink RX3 77 yX3_isDigit : Cond) ∈ WT := wt (tbin_3 _ (List.mem_of_getElem? (i := 80) rfl)) rfl
theorem st_X3_isDigit : (Cond.static yX3_isDigit : Cond) ∈ WT := wt (tbin_3 _ (List.mem_of_getElem? (i := 81) rfl)) rfl
theorem co_X3_isDigit : (Cond.code yX3_isDigit cX3_isDigit 1 (some .boolean) : Cond) ∈ WT := wt (tbin_3 _ (List.mem_of_getElem? (i := 82) rfl)) rfl
theorem ml_X3_80 : (Cond.methodLink RX3 80 yX3_takeNumber : Cond) ∈ WT := wt (tbin_3 _ (List.mem_of_getElem? (i := 83) rfl)) rfl
theorem im_X3_takeNumber : (Cond.instanceMethod yX3_takeNumber : Cond) ∈ WT := wt (tbin_3 _ (List.mem_of_getElem? (i := 85) rfl)) rfl
theorem se_X3_takeNumber : (Cond.selects RX3 yX3_takeNumber yX3_takeNumber : Cond) ∈ WT := wt (tbse _ (List.mem_of_getElem? (i := 13) rfl)) rfl
theorem co_X3_takeNumber : (Cond.code yX3_takeNumber cX3_takeNumber 1 none : Cond) ∈ WT := wt (tbin_3 _ (List.mem_of_getElem? (i := 86) rfl)) rfl
theorem kc_X3_94 : (Cond.constant RX3 94 (100001) : Cond) ∈ WT := wt (tbin_3 _ (List.mem_of_getElem? (i := 87) rfl)) rfl
theorem kc_X3_95 : (Cond.constant RX3 95 (100000) : Cond) ∈ WT := wt (tbin_3 _ (List.mem_of_getElem? (i := 88) rfl)) rfl
theorem ml_X3_57 : (Cond.methodLink RX3 57 yX3_readClause : Cond) ∈ WT := wt (tbin_3 _ (List.mem_of_getElem? (i := 89) rfl)) rfl
theorem im_X3_readClause : (Cond.instanceMethod yX3_readClause : Cond) ∈ WT := wt (tbin_3 _ (List.mem_of_getElem? (i := 91) rfl)) rfl
theorem se_X3_readClause : (Cond.selects RX3 yX3_readClause yX3_readClause : Cond) ∈ WT := wt (tbse _ (List.mem_of_getElem? (i := 14) rfl)) rfl
theorem co_X3_readClause : (Cond.code yX3_readClause cX3_readClause 4 (some .boolean) : Cond) ∈ WT := wt (tbin_3 _ (List.mem_of_getElem? (i := 92) rfl)) rfl
theorem ml_X3_96 : (Cond.methodLink RX3 96 yX3_readSum : Cond) ∈ WT := wt (tbin_3 _ (List.mem_of_getElem? (i := 93) rfl)) rfl
theorem im_X3_readSum : (Cond.instanceMethod yX3_readSum : Cond) ∈ WT := wt (tbin_3 _ (List.mem_of_getElem? (i := 95) rfl)) rfl
theorem se_X3_readSum : (Cond.selects RX3 yX3_readSum yX3_readSum : Cond) ∈ WT := wt (tbse _ (List.mem_of_getElem? (i := 15) rfl)) rfl
theorem co_X3_readSum : (Cond.code yX3_readSum cX3_readSum 5 (some .boolean) : Cond) ∈ WT := wt (tbin_3 _ (List.mem_of_getElem? (i := 96) rfl)) rfl
theorem ml_X3_130 : (Cond.methodLink RX3 130 yX3_readTerm : Cond) ∈ WT := wt (tbin_3 _ (List.mem_of_getElem? (i := 97) rfl)) rfl
theorem im_X3_readTerm : (Cond.instanceMethod yX3_readTerm : Cond) ∈ WT := wt (tbin_3 _ (List.mem_of_getElem? (i := 99) rfl)) rfl
theorem se_X3_readTerm : (Cond.selects RX3 yX3_readTerm yX3_readTerm : Cond) ∈ WT := wt (tbse _ (List.mem_of_getElem? (i := 16) rfl)) rfl
theorem ml_X3_109 : (Cond.methodLink RX3 109 yX3_write : Cond) ∈ WT := wt (tbin_3 _ (List.mem_of_getElem? (i := 125) rfl)) rfl
theorem im_X3_write : (Cond.instanceMethod yX3_write : Cond) ∈ WT := wt (tbin_3 _ (List.mem_of_getElem? (i := 127) rfl)) rfl
theorem se_X3_write : (Cond.selects RX3 yX3_write yX3_write : Cond) ∈ WT := wt (tbse _ (List.mem_of_getElem? (i := 23) rfl)) rfl
theorem co_X3_write : (Cond.code yX3_write cX3_write 3 none : Cond) ∈ WT := wt (tbin_3 _ (List.mem_of_getElem? (i := 128) rfl)) rfl
theorem co_X3_readBoth : (Cond.code yX3_readBoth cX3_readBoth 5 (some .boolean) : Cond) ∈ WT := wt (tbin_3 _ (List.mem_of_getElem? (i := 116) rfl)) rfl
theorem ml_X3_117 : (Cond.methodLink RX3 117 yX3_readPlain : Cond) ∈ WT := wt (tbin_3 _ (List.mem_of_getElem? (i := 117) rfl)) rfl
theorem im_X3_readPlain : (Cond.instanceMethod yX3_readPlain : Cond) ∈ WT := wt (tbin_3 _ (List.mem_of_getElem? (i := 119) rfl)) rfl
theorem se_X3_readPlain : (Cond.selects RX3 yX3_readPlain yX3_readPlain : Cond) ∈ WT := wt (tbse _ (List.mem_of_getElem? (i := 21) rfl)) rfl
theorem ml_X3_113 : (Cond.methodLink RX3 113 yX3_land : Cond) ∈ WT := wt (tbin_3 _ (List.mem_of_getElem? (i := 133) rfl)) rfl
theorem im_X3_land : (Cond.instanceMethod yX3_land : Cond) ∈ WT := wt (tbin_3 _ (List.mem_of_getElem? (i := 135) rfl)) rfl
theorem se_X3_land : (Cond.selects RX3 yX3_land yX3_land : Cond) ∈ WT := wt (tbse _ (List.mem_of_getElem? (i := 25) rfl)) rfl
theorem co_X3_land : (Cond.code yX3_land cX3_land 2 none : Cond) ∈ WT := wt (tbin_3 _ (List.mem_of_getElem? (i := 136) rfl)) rfl
theorem co_X3_readBracketed : (Cond.code yX3_readBracketed cX3_readBracketed 4 (some .boolean) : Cond) ∈ WT := wt (tbin_3 _ (List.mem_of_getElem? (i := 108) rfl)) rfl
theorem ml_X3_99 : (Cond.methodLink RX3 99 yX3_readTest : Cond) ∈ WT := wt (tbin_3 _ (List.mem_of_getElem? (i := 109) rfl)) rfl
theorem im_X3_readTest : (Cond.instanceMethod yX3_readTest : Cond) ∈ WT := wt (tbin_3 _ (List.mem_of_getElem? (i := 111) rfl)) rfl
theorem se_X3_readTest : (Cond.selects RX3 yX3_readTest yX3_readTest : Cond) ∈ WT := wt (tbse _ (List.mem_of_getElem? (i := 19) rfl)) rfl
theorem co_X3_readComparison : (Cond.code yX3_readComparison cX3_readComparison 4 (some .boolean) : Cond) ∈ WT := wt (tbin_3 _ (List.mem_of_getElem? (i := 132) rfl)) rfl
theorem co_X3_readPart : (Cond.code yX3_readPart cX3_readPart 3 (some .boolean) : Cond) ∈ WT := wt (tbin_3 _ (List.mem_of_getElem? (i := 104) rfl)) rfl
theorem ml_X3_120 : (Cond.methodLink RX3 120 yX3_readBracketed : Cond) ∈ WT := wt (tbin_3 _ (List.mem_of_getElem? (i := 105) rfl)) rfl
theorem im_X3_readBracketed : (Cond.instanceMethod yX3_readBracketed : Cond) ∈ WT := wt (tbin_3 _ (List.mem_of_getElem? (i := 107) rfl)) rfl
theorem se_X3_readBracketed : (Cond.selects RX3 yX3_readBracketed yX3_readBracketed : Cond) ∈ WT := wt (tbse _ (List.mem_of_getElem? (i := 18) rfl)) rfl
theorem ml_X3_124 : (Cond.methodLink RX3 124 yX3_readLeaf : Cond) ∈ WT := wt (tbin_3 _ (List.mem_of_getElem? (i := 121) rfl)) rfl
theorem im_X3_readLeaf : (Cond.instanceMethod yX3_readLeaf : Cond) ∈ WT := wt (tbin_3 _ (List.mem_of_getElem? (i := 123) rfl)) rfl
theorem se_X3_readLeaf : (Cond.selects RX3 yX3_readLeaf yX3_readLeaf : Cond) ∈ WT := wt (tbse _ (List.mem_of_getElem? (i := 22) rfl)) rfl
theorem co_X3_readLeaf : (Cond.code yX3_readLeaf cX3_readLeaf 1 (some .boolean) : Cond) ∈ WT := wt (tbin_3 _ (List.mem_of_getElem? (i := 124) rfl)) rfl
theorem co_X3_readPlain : (Cond.code yX3_readPlain cX3_readPlain 4 (some .boolean) : Cond) ∈ WT := wt (tbin_3 _ (List.mem_of_getElem? (i := 120) rfl)) rfl
theorem ml_X3_127 : (Cond.methodLink RX3 127 yX3_readComparison : Cond) ∈ WT := wt (tbin_3 _ (List.mem_of_getElem? (i := 129) rfl)) rfl
theorem im_X3_readComparison : (Cond.instanceMethod yX3_readComparison : Cond) ∈ WT := wt (tbin_3 _ (List.mem_of_getElem? (i := 131) rfl)) rfl
theorem se_X3_readComparison : (Cond.selects RX3 yX3_readComparison yX3_readComparison : Cond) ∈ WT := wt (tbse _ (List.mem_of_getElem? (i := 24) rfl)) rfl
theorem co_X3_readTerm : (Cond.code yX3_readTerm cX3_readTerm 5 (some .boolean) : Cond) ∈ WT := wt (tbin_3 _ (List.mem_of_getElem? (i := 100) rfl)) rfl
theorem ml_X3_133 : (Cond.methodLink RX3 133 yX3_readPart : Cond) ∈ WT := wt (tbin_3 _ (List.mem_of_getElem? (i := 101) rfl)) rfl
theorem im_X3_readPart : (Cond.instanceMethod yX3_readPart : Cond) ∈ WT := wt (tbin_3 _ (List.mem_of_getElem? (i := 103) rfl)) rfl
theorem se_X3_readPart : (Cond.selects RX3 yX3_readPart yX3_readPart : Cond) ∈ WT := wt (tbse _ (List.mem_of_getElem? (i := 17) rfl)) rfl
theorem co_X3_readTest : (Cond.code yX3_readTest cX3_readTest 5 (some .boolean) : Cond) ∈ WT := wt (tbin_3 _ (List.mem_of_getElem? (i := 112) rfl)) rfl
theorem ml_X3_106 : (Cond.methodLink RX3 106 yX3_readBoth : Cond) ∈ WT := wt (tbin_3 _ (List.mem_of_getElem? (i := 113) rfl)) rfl
theorem im_X3_readBoth : (Cond.instanceMethod yX3_readBoth : Cond) ∈ WT := wt (tbin_3 _ (List.mem_of_getElem? (i := 115) rfl)) rfl
theorem se_X3_readBoth : (Cond.selects RX3 yX3_readBoth yX3_readBoth : Cond) ∈ WT := wt (tbse _ (List.mem_of_getElem? (i := 20) rfl)) rfl
theorem ml_X3_102 : (Cond.methodLink RX3 102 yX3_noteClause : Cond) ∈ WT := wt (tbin_3 _ (List.mem_of_getElem? (i := 137) rfl)) rfl
theorem im_X3_noteClause : (Cond.instanceMethod yX3_noteClause : Cond) ∈ WT := wt (tbin_3 _ (List.mem_of_getElem? (i := 139) rfl)) rfl
theorem se_X3_noteClause : (Cond.selects RX3 yX3_noteClause yX3_noteClause : Cond) ∈ WT := wt (tbse _ (List.mem_of_getElem? (i := 26) rfl)) rfl
theorem co_X3_noteClause : (Cond.code yX3_noteClause cX3_noteClause 5 none : Cond) ∈ WT := wt (tbin_3 _ (List.mem_of_getElem? (i := 140) rfl)) rfl
theorem ml_X3_61 : (Cond.methodLink RX3 61 yJ7_copyOf_59c91 : Cond) ∈ WT := wt (tbin_3 _ (List.mem_of_getElem? (i := 143) rfl)) rfl
theorem st_J7_copyOf_59c91 : (Cond.static yJ7_copyOf_59c91 : Cond) ∈ WT := wt (tbin_3 _ (List.mem_of_getElem? (i := 144) rfl)) rfl
theorem co_J7_copyOf_59c91 : (Cond.code yJ7_copyOf_59c91 cJ7_copyOf_59c91 3 (some (.array .int)) : Cond) ∈ WT := wt (tbin_3 _ (List.mem_of_getElem? (i := 145) rfl)) rfl
theorem ml_J7_316 : (Cond.methodLink RJ7 316 ⟨"[I", "clone", "()Ljava/lang/Object;"⟩ : Cond) ∈ WT := wt (tbin_3 _ (List.mem_of_getElem? (i := 146) rfl)) rfl
theorem cl_J7_317 : (Cond.classLink RJ7 317 "[I" : Cond) ∈ WT := wt (tbin_3 _ (List.mem_of_getElem? (i := 152) rfl)) rfl
theorem ml_J7_304 : (Cond.methodLink RJ7 304 Lib.Math.min.name : Cond) ∈ WT := wt (tbin_3 _ (List.mem_of_getElem? (i := 153) rfl)) rfl
theorem ml_J7_150 : (Cond.methodLink RJ7 150 arraycopyName : Cond) ∈ WT := wt (tbin_3 _ (List.mem_of_getElem? (i := 154) rfl)) rfl
theorem ml_X3_67 : (Cond.methodLink RX3 67 yX6_init : Cond) ∈ WT := wt (tbin_3 _ (List.mem_of_getElem? (i := 155) rfl)) rfl
theorem im_X6_init : (Cond.instanceMethod yX6_init : Cond) ∈ WT := wt (tbin_3 _ (List.mem_of_getElem? (i := 156) rfl)) rfl
theorem co_X6_init : (Cond.code yX6_init cX6_init 3 none : Cond) ∈ WT := wt (tbin_3 _ (List.mem_of_getElem? (i := 157) rfl)) rfl
theorem ml_X6_1 : (Cond.methodLink RX6 1 objectInit : Cond) ∈ WT := wt (tbin_3 _ (List.mem_of_getElem? (i := 158) rfl)) rfl
theorem fl_X6_7 : (Cond.fieldLink RX6 7 "CornerWinds$Text" "clauses" "[I" : Cond) ∈ WT := wt (tbin_3 _ (List.mem_of_getElem? (i := 159) rfl)) rfl
theorem fl_X6_13 : (Cond.fieldLink RX6 13 "CornerWinds$Text" "code" "[I" : Cond) ∈ WT := wt (tbin_3 _ (List.mem_of_getElem? (i := 161) rfl)) rfl
theorem ml_L_66 : (Cond.methodLink RL 66 yX8_rule : Cond) ∈ WT := wt (tbin_6 _ (List.mem_of_getElem? (i := 30) rfl)) rfl
theorem im_X8_rule : (Cond.instanceMethod yX8_rule : Cond) ∈ WT := wt (tbin_6 _ (List.mem_of_getElem? (i := 31) rfl)) rfl
theorem se_X8_rule : (Cond.selects RX8 yX8_rule yX8_rule : Cond) ∈ WT := wt (tbin_6 _ (List.mem_of_getElem? (i := 32) rfl)) rfl
theorem co_X8_rule : (Cond.code yX8_rule cX8_rule 3 (some .int) : Cond) ∈ WT := wt (tbin_6 _ (List.mem_of_getElem? (i := 33) rfl)) rfl
theorem fl_X8_168 : (Cond.fieldLink RX8 168 "CornerWindsModel" "tokens" "I" : Cond) ∈ WT := wt (tbin_5 _ (List.mem_of_getElem? (i := 43) rfl)) rfl
theorem ml_X8_234 : (Cond.methodLink RX8 234 yX8_reads : Cond) ∈ WT := wt (tbin_6 _ (List.mem_of_getElem? (i := 34) rfl)) rfl
theorem im_X8_reads : (Cond.instanceMethod yX8_reads : Cond) ∈ WT := wt (tbin_6 _ (List.mem_of_getElem? (i := 36) rfl)) rfl
theorem se_X8_reads : (Cond.selects RX8 yX8_reads yX8_reads : Cond) ∈ WT := wt (tbse _ (List.mem_of_getElem? (i := 52) rfl)) rfl
theorem co_X8_reads : (Cond.code yX8_reads cX8_reads 2 (some .boolean) : Cond) ∈ WT := wt (tbin_6 _ (List.mem_of_getElem? (i := 37) rfl)) rfl
theorem fl_X8_187 : (Cond.fieldLink RX8 187 "CornerWindsModel" "token" "I" : Cond) ∈ WT := wt (tbin_5 _ (List.mem_of_getElem? (i := 44) rfl)) rfl
theorem fl_X8_196 : (Cond.fieldLink RX8 196 "CornerWindsModel" "leaves" "I" : Cond) ∈ WT := wt (tbin_5 _ (List.mem_of_getElem? (i := 45) rfl)) rfl
theorem fl_X8_180 : (Cond.fieldLink RX8 180 "CornerWindsModel" "bad" "I" : Cond) ∈ WT := wt (tbin_5 _ (List.mem_of_getElem? (i := 46) rfl)) rfl
theorem ml_X8_228 : (Cond.methodLink RX8 228 yX8_cuts : Cond) ∈ WT := wt (tbin_6 _ (List.mem_of_getElem? (i := 38) rfl)) rfl
theorem im_X8_cuts : (Cond.instanceMethod yX8_cuts : Cond) ∈ WT := wt (tbin_6 _ (List.mem_of_getElem? (i := 40) rfl)) rfl
theorem se_X8_cuts : (Cond.selects RX8 yX8_cuts yX8_cuts : Cond) ∈ WT := wt (tbse _ (List.mem_of_getElem? (i := 53) rfl)) rfl
theorem co_X8_cuts : (Cond.code yX8_cuts cX8_cuts 6 none : Cond) ∈ WT := wt (tbin_6 _ (List.mem_of_getElem? (i := 41) rfl)) rfl
theorem ml_X8_171 : (Cond.methodLink RX8 171 yX8_isSmall : Cond) ∈ WT := wt (tbin_6 _ (List.mem_of_getElem? (i := 42) rfl)) rfl
theorem st_X8_isSmall : (Cond.static yX8_isSmall : Cond) ∈ WT := wt (tbin_6 _ (List.mem_of_getElem? (i := 43) rfl)) rfl
theorem co_X8_isSmall : (Cond.code yX8_isSmall cX8_isSmall 1 (some .boolean) : Cond) ∈ WT := wt (tbin_6 _ (List.mem_of_getElem? (i := 44) rfl)) rfl
theorem ml_X8_174 : (Cond.methodLink RX8 174 yX8_isDigit : Cond) ∈ WT := wt (tbin_6 _ (List.mem_of_getElem? (i := 45) rfl)) rfl
theorem st_X8_isDigit : (Cond.static yX8_isDigit : Cond) ∈ WT := wt (tbin_6 _ (List.mem_of_getElem? (i := 46) rfl)) rfl
theorem co_X8_isDigit : (Cond.code yX8_isDigit cX8_isDigit 1 (some .boolean) : Cond) ∈ WT := wt (tbin_6 _ (List.mem_of_getElem? (i := 47) rfl)) rfl
theorem ml_X8_177 : (Cond.methodLink RX8 177 yX8_wordOf : Cond) ∈ WT := wt (tbin_6 _ (List.mem_of_getElem? (i := 48) rfl)) rfl
theorem im_X8_wordOf : (Cond.instanceMethod yX8_wordOf : Cond) ∈ WT := wt (tbin_6 _ (List.mem_of_getElem? (i := 50) rfl)) rfl
theorem se_X8_wordOf : (Cond.selects RX8 yX8_wordOf yX8_wordOf : Cond) ∈ WT := wt (tbse _ (List.mem_of_getElem? (i := 54) rfl)) rfl
theorem co_X8_wordOf : (Cond.code yX8_wordOf cX8_wordOf 8 (some .int) : Cond) ∈ WT := wt (tbin_6 _ (List.mem_of_getElem? (i := 51) rfl)) rfl
theorem ml_X8_231 : (Cond.methodLink RX8 231 yX8_readClause : Cond) ∈ WT := wt (tbin_6 _ (List.mem_of_getElem? (i := 52) rfl)) rfl
theorem im_X8_readClause : (Cond.instanceMethod yX8_readClause : Cond) ∈ WT := wt (tbin_6 _ (List.mem_of_getElem? (i := 54) rfl)) rfl
theorem se_X8_readClause : (Cond.selects RX8 yX8_readClause yX8_readClause : Cond) ∈ WT := wt (tbse _ (List.mem_of_getElem? (i := 55) rfl)) rfl
theorem co_X8_readClause : (Cond.code yX8_readClause cX8_readClause 1 none : Cond) ∈ WT := wt (tbin_6 _ (List.mem_of_getElem? (i := 55) rfl)) rfl
theorem ml_X8_190 : (Cond.methodLink RX8 190 yX8_takes : Cond) ∈ WT := wt (tbin_6 _ (List.mem_of_getElem? (i := 56) rfl)) rfl
theorem im_X8_takes : (Cond.instanceMethod yX8_takes : Cond) ∈ WT := wt (tbin_6 _ (List.mem_of_getElem? (i := 58) rfl)) rfl
theorem se_X8_takes : (Cond.selects RX8 yX8_takes yX8_takes : Cond) ∈ WT := wt (tbse _ (List.mem_of_getElem? (i := 56) rfl)) rfl
theorem co_X8_takes : (Cond.code yX8_takes cX8_takes 3 (some .boolean) : Cond) ∈ WT := wt (tbin_6 _ (List.mem_of_getElem? (i := 59) rfl)) rfl
theorem ml_X8_183 : (Cond.methodLink RX8 183 yX8_fine : Cond) ∈ WT := wt (tbin_6 _ (List.mem_of_getElem? (i := 60) rfl)) rfl
theorem im_X8_fine : (Cond.instanceMethod yX8_fine : Cond) ∈ WT := wt (tbin_6 _ (List.mem_of_getElem? (i := 62) rfl)) rfl
theorem se_X8_fine : (Cond.selects RX8 yX8_fine yX8_fine : Cond) ∈ WT := wt (tbse _ (List.mem_of_getElem? (i := 57) rfl)) rfl
theorem co_X8_fine : (Cond.code yX8_fine cX8_fine 1 (some .boolean) : Cond) ∈ WT := wt (tbin_6 _ (List.mem_of_getElem? (i := 63) rfl)) rfl
theorem ml_X8_199 : (Cond.methodLink RX8 199 yX8_readSum : Cond) ∈ WT := wt (tbin_6 _ (List.mem_of_getElem? (i := 64) rfl)) rfl
theorem im_X8_readSum : (Cond.instanceMethod yX8_readSum : Cond) ∈ WT := wt (tbin_6 _ (List.mem_of_getElem? (i := 66) rfl)) rfl
theorem se_X8_readSum : (Cond.selects RX8 yX8_readSum yX8_readSum : Cond) ∈ WT := wt (tbse _ (List.mem_of_getElem? (i := 58) rfl)) rfl
theorem co_X8_readSum : (Cond.code yX8_readSum cX8_readSum 2 none : Cond) ∈ WT := wt (tbin_6 _ (List.mem_of_getElem? (i := 67) rfl)) rfl
theorem ml_X8_222 : (Cond.methodLink RX8 222 yX8_readTerm : Cond) ∈ WT := wt (tbin_6 _ (List.mem_of_getElem? (i := 68) rfl)) rfl
theorem im_X8_readTerm : (Cond.instanceMethod yX8_readTerm : Cond) ∈ WT := wt (tbin_6 _ (List.mem_of_getElem? (i := 70) rfl)) rfl
theorem se_X8_readTerm : (Cond.selects RX8 yX8_readTerm yX8_readTerm : Cond) ∈ WT := wt (tbse _ (List.mem_of_getElem? (i := 59) rfl)) rfl
theorem ml_X8_215 : (Cond.methodLink RX8 215 yX8_sign : Cond) ∈ WT := wt (tbin_6 _ (List.mem_of_getElem? (i := 76) rfl)) rfl
theorem st_X8_sign : (Cond.static yX8_sign : Cond) ∈ WT := wt (tbin_6 _ (List.mem_of_getElem? (i := 77) rfl)) rfl
theorem co_X8_sign : (Cond.code yX8_sign cX8_sign 1 (some .int) : Cond) ∈ WT := wt (tbin_6 _ (List.mem_of_getElem? (i := 78) rfl)) rfl
theorem co_X8_readPart : (Cond.code yX8_readPart cX8_readPart 3 none : Cond) ∈ WT := wt (tbin_6 _ (List.mem_of_getElem? (i := 75) rfl)) rfl
theorem ml_X8_193 : (Cond.methodLink RX8 193 yX8_faults : Cond) ∈ WT := wt (tbin_6 _ (List.mem_of_getElem? (i := 79) rfl)) rfl
theorem im_X8_faults : (Cond.instanceMethod yX8_faults : Cond) ∈ WT := wt (tbin_6 _ (List.mem_of_getElem? (i := 81) rfl)) rfl
theorem se_X8_faults : (Cond.selects RX8 yX8_faults yX8_faults : Cond) ∈ WT := wt (tbse _ (List.mem_of_getElem? (i := 61) rfl)) rfl
theorem co_X8_faults : (Cond.code yX8_faults cX8_faults 1 none : Cond) ∈ WT := wt (tbin_6 _ (List.mem_of_getElem? (i := 82) rfl)) rfl
theorem ml_X8_203 : (Cond.methodLink RX8 203 yX8_must : Cond) ∈ WT := wt (tbin_6 _ (List.mem_of_getElem? (i := 83) rfl)) rfl
theorem im_X8_must : (Cond.instanceMethod yX8_must : Cond) ∈ WT := wt (tbin_6 _ (List.mem_of_getElem? (i := 85) rfl)) rfl
theorem se_X8_must : (Cond.selects RX8 yX8_must yX8_must : Cond) ∈ WT := wt (tbse _ (List.mem_of_getElem? (i := 62) rfl)) rfl
theorem co_X8_must : (Cond.code yX8_must cX8_must 2 none : Cond) ∈ WT := wt (tbin_6 _ (List.mem_of_getElem? (i := 86) rfl)) rfl
theorem ml_X8_219 : (Cond.methodLink RX8 219 yX8_leaf : Cond) ∈ WT := wt (tbin_6 _ (List.mem_of_getElem? (i := 87) rfl)) rfl
theorem im_X8_leaf : (Cond.instanceMethod yX8_leaf : Cond) ∈ WT := wt (tbin_6 _ (List.mem_of_getElem? (i := 89) rfl)) rfl
theorem se_X8_leaf : (Cond.selects RX8 yX8_leaf yX8_leaf : Cond) ∈ WT := wt (tbse _ (List.mem_of_getElem? (i := 63) rfl)) rfl
theorem co_X8_leaf : (Cond.code yX8_leaf cX8_leaf 1 none : Cond) ∈ WT := wt (tbin_6 _ (List.mem_of_getElem? (i := 90) rfl)) rfl
theorem co_X8_readTerm : (Cond.code yX8_readTerm cX8_readTerm 2 none : Cond) ∈ WT := wt (tbin_6 _ (List.mem_of_getElem? (i := 71) rfl)) rfl
theorem ml_X8_225 : (Cond.methodLink RX8 225 yX8_readPart : Cond) ∈ WT := wt (tbin_6 _ (List.mem_of_getElem? (i := 72) rfl)) rfl
theorem im_X8_readPart : (Cond.instanceMethod yX8_readPart : Cond) ∈ WT := wt (tbin_6 _ (List.mem_of_getElem? (i := 74) rfl)) rfl
theorem se_X8_readPart : (Cond.selects RX8 yX8_readPart yX8_readPart : Cond) ∈ WT := wt (tbse _ (List.mem_of_getElem? (i := 60) rfl)) rfl
theorem ml_X8_206 : (Cond.methodLink RX8 206 yX8_readTest : Cond) ∈ WT := wt (tbin_6 _ (List.mem_of_getElem? (i := 91) rfl)) rfl
theorem im_X8_readTest : (Cond.instanceMethod yX8_readTest : Cond) ∈ WT := wt (tbin_6 _ (List.mem_of_getElem? (i := 93) rfl)) rfl
theorem se_X8_readTest : (Cond.selects RX8 yX8_readTest yX8_readTest : Cond) ∈ WT := wt (tbse _ (List.mem_of_getElem? (i := 64) rfl)) rfl
theorem co_X8_readTest : (Cond.code yX8_readTest cX8_readTest 2 none : Cond) ∈ WT := wt (tbin_6 _ (List.mem_of_getElem? (i := 94) rfl)) rfl
theorem ml_X8_209 : (Cond.methodLink RX8 209 yX8_readBoth : Cond) ∈ WT := wt (tbin_6 _ (List.mem_of_getElem? (i := 95) rfl)) rfl
theorem im_X8_readBoth : (Cond.instanceMethod yX8_readBoth : Cond) ∈ WT := wt (tbin_6 _ (List.mem_of_getElem? (i := 97) rfl)) rfl
theorem se_X8_readBoth : (Cond.selects RX8 yX8_readBoth yX8_readBoth : Cond) ∈ WT := wt (tbse _ (List.mem_of_getElem? (i := 65) rfl)) rfl
theorem co_X8_readBoth : (Cond.code yX8_readBoth cX8_readBoth 2 none : Cond) ∈ WT := wt (tbin_6 _ (List.mem_of_getElem? (i := 98) rfl)) rfl
theorem ml_X8_212 : (Cond.methodLink RX8 212 yX8_readPlain : Cond) ∈ WT := wt (tbin_6 _ (List.mem_of_getElem? (i := 99) rfl)) rfl
theorem im_X8_readPlain : (Cond.instanceMethod yX8_readPlain : Cond) ∈ WT := wt (tbin_6 _ (List.mem_of_getElem? (i := 101) rfl)) rfl
theorem se_X8_readPlain : (Cond.selects RX8 yX8_readPlain yX8_readPlain : Cond) ∈ WT := wt (tbse _ (List.mem_of_getElem? (i := 66) rfl)) rfl
theorem co_X8_readPlain : (Cond.code yX8_readPlain cX8_readPlain 4 none : Cond) ∈ WT := wt (tbin_6 _ (List.mem_of_getElem? (i := 102) rfl)) rfl
theorem ml_L_67 : (Cond.methodLink RL 67 yX7_fault : Cond) ∈ WT := wt (tbin_3 _ (List.mem_of_getElem? (i := 169) rfl)) rfl
theorem im_X7_fault : (Cond.instanceMethod yX7_fault : Cond) ∈ WT := wt (tbin_3 _ (List.mem_of_getElem? (i := 170) rfl)) rfl
theorem se_X7_fault : (Cond.selects RX7 yX7_fault yX7_fault : Cond) ∈ WT := wt (tbin_3 _ (List.mem_of_getElem? (i := 171) rfl)) rfl
theorem co_X7_fault : (Cond.code yX7_fault cX7_fault 1 (some .int) : Cond) ∈ WT := wt (tbin_3 _ (List.mem_of_getElem? (i := 172) rfl)) rfl
theorem ml_L_70 : (Cond.methodLink RL 70 yX8_fault : Cond) ∈ WT := wt (tbin_6 _ (List.mem_of_getElem? (i := 103) rfl)) rfl
theorem im_X8_fault : (Cond.instanceMethod yX8_fault : Cond) ∈ WT := wt (tbin_6 _ (List.mem_of_getElem? (i := 104) rfl)) rfl
theorem se_X8_fault : (Cond.selects RX8 yX8_fault yX8_fault : Cond) ∈ WT := wt (tbin_6 _ (List.mem_of_getElem? (i := 105) rfl)) rfl
theorem co_X8_fault : (Cond.code yX8_fault cX8_fault 1 (some .int) : Cond) ∈ WT := wt (tbin_6 _ (List.mem_of_getElem? (i := 106) rfl)) rfl
theorem ml_L_71 : (Cond.methodLink RL 71 yX7_need : Cond) ∈ WT := wt (tbin_3 _ (List.mem_of_getElem? (i := 173) rfl)) rfl
theorem im_X7_need : (Cond.instanceMethod yX7_need : Cond) ∈ WT := wt (tbin_3 _ (List.mem_of_getElem? (i := 174) rfl)) rfl
theorem se_X7_need : (Cond.selects RX7 yX7_need yX7_need : Cond) ∈ WT := wt (tbin_3 _ (List.mem_of_getElem? (i := 175) rfl)) rfl
theorem co_X7_need : (Cond.code yX7_need cX7_need 5 (some .int) : Cond) ∈ WT := wt (tbin_3 _ (List.mem_of_getElem? (i := 176) rfl)) rfl
theorem ml_X7_186 : (Cond.methodLink RX7 186 yX7_textAt : Cond) ∈ WT := wt (tbin_3 _ (List.mem_of_getElem? (i := 177) rfl)) rfl
theorem im_X7_textAt : (Cond.instanceMethod yX7_textAt : Cond) ∈ WT := wt (tbin_3 _ (List.mem_of_getElem? (i := 179) rfl)) rfl
theorem se_X7_textAt : (Cond.selects RX7 yX7_textAt yX7_textAt : Cond) ∈ WT := wt (tbse _ (List.mem_of_getElem? (i := 27) rfl)) rfl
theorem co_X7_textAt : (Cond.code yX7_textAt cX7_textAt 2 (some (.object "CornerWinds$Text")) : Cond) ∈ WT := wt (tbin_3 _ (List.mem_of_getElem? (i := 180) rfl)) rfl
theorem ml_X7_190 : (Cond.methodLink RX7 190 yX7_isDay : Cond) ∈ WT := wt (tbin_3 _ (List.mem_of_getElem? (i := 181) rfl)) rfl
theorem st_X7_isDay : (Cond.static yX7_isDay : Cond) ∈ WT := wt (tbin_3 _ (List.mem_of_getElem? (i := 182) rfl)) rfl
theorem co_X7_isDay : (Cond.code yX7_isDay cX7_isDay 1 (some .boolean) : Cond) ∈ WT := wt (tbin_3 _ (List.mem_of_getElem? (i := 183) rfl)) rfl
theorem ml_X7_193 : (Cond.methodLink RX7 193 yX7_needBy : Cond) ∈ WT := wt (tbin_3 _ (List.mem_of_getElem? (i := 184) rfl)) rfl
theorem im_X7_needBy : (Cond.instanceMethod yX7_needBy : Cond) ∈ WT := wt (tbin_3 _ (List.mem_of_getElem? (i := 186) rfl)) rfl
theorem se_X7_needBy : (Cond.selects RX7 yX7_needBy yX7_needBy : Cond) ∈ WT := wt (tbse _ (List.mem_of_getElem? (i := 28) rfl)) rfl
theorem co_X7_needBy : (Cond.code yX7_needBy cX7_needBy 10 (some .int) : Cond) ∈ WT := wt (tbin_3 _ (List.mem_of_getElem? (i := 187) rfl)) rfl
theorem fl_X7_309 : (Cond.fieldLink RX7 309 "CornerWinds$Asker" "told" "J" : Cond) ∈ WT := wt (tbin_2 _ (List.mem_of_getElem? (i := 49) rfl)) rfl
theorem ml_X7_330 : (Cond.methodLink RX7 330 Lib.MathLoose.max_long.x : Cond) ∈ WT := wt (tbin_4 _ (List.mem_of_getElem? (i := 2) rfl)) rfl
theorem ml_X7_316 : (Cond.methodLink RX7 316 yX4_isOnFace : Cond) ∈ WT := wt (tbin_3 _ (List.mem_of_getElem? (i := 188) rfl)) rfl
theorem im_X4_isOnFace : (Cond.instanceMethod yX4_isOnFace : Cond) ∈ WT := wt (tbin_3 _ (List.mem_of_getElem? (i := 189) rfl)) rfl
theorem se_X4_isOnFace : (Cond.selects RX4 yX4_isOnFace yX4_isOnFace : Cond) ∈ WT := wt (tbin_3 _ (List.mem_of_getElem? (i := 190) rfl)) rfl
theorem co_X4_isOnFace : (Cond.code yX4_isOnFace cX4_isOnFace 2 (some .boolean) : Cond) ∈ WT := wt (tbin_3 _ (List.mem_of_getElem? (i := 191) rfl)) rfl
theorem ml_X4_83 : (Cond.methodLink RX4 83 yX5_cell : Cond) ∈ WT := wt (tbin_3 _ (List.mem_of_getElem? (i := 192) rfl)) rfl
theorem ml_X7_319 : (Cond.methodLink RX7 319 yX1_loadOf : Cond) ∈ WT := wt (tbin_3 _ (List.mem_of_getElem? (i := 193) rfl)) rfl
theorem im_X1_loadOf : (Cond.instanceMethod yX1_loadOf : Cond) ∈ WT := wt (tbin_3 _ (List.mem_of_getElem? (i := 194) rfl)) rfl
theorem se_X1_loadOf : (Cond.selects RX1 yX1_loadOf yX1_loadOf : Cond) ∈ WT := wt (tbin_3 _ (List.mem_of_getElem? (i := 195) rfl)) rfl
theorem co_X1_loadOf : (Cond.code yX1_loadOf cX1_loadOf 4 (some .int) : Cond) ∈ WT := wt (tbin_3 _ (List.mem_of_getElem? (i := 196) rfl)) rfl
theorem ml_X7_322 : (Cond.methodLink RX7 322 yX0_faceJoint : Cond) ∈ WT := wt (tbin_3 _ (List.mem_of_getElem? (i := 197) rfl)) rfl
theorem im_X0_faceJoint : (Cond.instanceMethod yX0_faceJoint : Cond) ∈ WT := wt (tbin_3 _ (List.mem_of_getElem? (i := 198) rfl)) rfl
theorem se_X0_faceJoint : (Cond.selects RX0 yX0_faceJoint yX0_faceJoint : Cond) ∈ WT := wt (tbin_3 _ (List.mem_of_getElem? (i := 199) rfl)) rfl
theorem co_X0_faceJoint : (Cond.code yX0_faceJoint cX0_faceJoint 4 none : Cond) ∈ WT := wt (tbin_3 _ (List.mem_of_getElem? (i := 200) rfl)) rfl
theorem fl_X0_33 : (Cond.fieldLink RX0 33 "CornerWinds$State" "dead" "[I" : Cond) ∈ WT := wt (tbin_1 _ (List.mem_of_getElem? (i := 76) rfl)) rfl
theorem fl_X0_47 : (Cond.fieldLink RX0 47 "CornerWinds$State" "terms" "[I" : Cond) ∈ WT := wt (tbin_1 _ (List.mem_of_getElem? (i := 80) rfl)) rfl
theorem fl_X0_50 : (Cond.fieldLink RX0 50 "CornerWinds$State" "bolted" "[I" : Cond) ∈ WT := wt (tbin_1 _ (List.mem_of_getElem? (i := 66) rfl)) rfl
theorem fl_X0_53 : (Cond.fieldLink RX0 53 "CornerWinds$State" "quarters" "[I" : Cond) ∈ WT := wt (tbin_1 _ (List.mem_of_getElem? (i := 70) rfl)) rfl
theorem ml_X0_27 : (Cond.methodLink RX0 27 yJ7_fill_53178 : Cond) ∈ WT := wt (tbin_3 _ (List.mem_of_getElem? (i := 201) rfl)) rfl
theorem ml_X0_38 : (Cond.methodLink RX0 38 yX1_faceOf : Cond) ∈ WT := wt (tbin_3 _ (List.mem_of_getElem? (i := 202) rfl)) rfl
theorem ml_X0_44 : (Cond.methodLink RX0 44 yX4_holdOf : Cond) ∈ WT := wt (tbin_3 _ (List.mem_of_getElem? (i := 203) rfl)) rfl
theorem ml_X7_326 : (Cond.methodLink RX7 326 yX0_faceWind : Cond) ∈ WT := wt (tbin_3 _ (List.mem_of_getElem? (i := 204) rfl)) rfl
theorem im_X0_faceWind : (Cond.instanceMethod yX0_faceWind : Cond) ∈ WT := wt (tbin_3 _ (List.mem_of_getElem? (i := 205) rfl)) rfl
theorem se_X0_faceWind : (Cond.selects RX0 yX0_faceWind yX0_faceWind : Cond) ∈ WT := wt (tbin_3 _ (List.mem_of_getElem? (i := 206) rfl)) rfl
theorem co_X0_faceWind : (Cond.code yX0_faceWind cX0_faceWind 3 none : Cond) ∈ WT := wt (tbin_3 _ (List.mem_of_getElem? (i := 207) rfl)) rfl
theorem ml_X7_305 : (Cond.methodLink RX7 305 yX0_tells : Cond) ∈ WT := wt (tbin_3 _ (List.mem_of_getElem? (i := 208) rfl)) rfl
theorem im_X0_tells : (Cond.instanceMethod yX0_tells : Cond) ∈ WT := wt (tbin_3 _ (List.mem_of_getElem? (i := 209) rfl)) rfl
theorem se_X0_tells : (Cond.selects RX0 yX0_tells yX0_tells : Cond) ∈ WT := wt (tbin_3 _ (List.mem_of_getElem? (i := 210) rfl)) rfl
theorem co_X0_tells : (Cond.code yX0_tells cX0_tells 5 (some .boolean) : Cond) ∈ WT := wt (tbin_3 _ (List.mem_of_getElem? (i := 211) rfl)) rfl
theorem fl_X0_68 : (Cond.fieldLink RX0 68 "CornerWinds$Text" "clauses" "[I" : Cond) ∈ WT := wt (tbin_3 _ (List.mem_of_getElem? (i := 160) rfl)) rfl
theorem ml_X0_71 : (Cond.methodLink RX0 71 yX0_isHolding : Cond) ∈ WT := wt (tbin_3 _ (List.mem_of_getElem? (i := 212) rfl)) rfl
theorem im_X0_isHolding : (Cond.instanceMethod yX0_isHolding : Cond) ∈ WT := wt (tbin_3 _ (List.mem_of_getElem? (i := 214) rfl)) rfl
theorem se_X0_isHolding : (Cond.selects RX0 yX0_isHolding yX0_isHolding : Cond) ∈ WT := wt (tbse _ (List.mem_of_getElem? (i := 29) rfl)) rfl
theorem co_X0_isHolding : (Cond.code yX0_isHolding cX0_isHolding 7 (some .boolean) : Cond) ∈ WT := wt (tbin_3 _ (List.mem_of_getElem? (i := 215) rfl)) rfl
theorem fl_X0_75 : (Cond.fieldLink RX0 75 "CornerWinds$Text" "code" "[I" : Cond) ∈ WT := wt (tbin_3 _ (List.mem_of_getElem? (i := 162) rfl)) rfl
theorem ml_X0_78 : (Cond.methodLink RX0 78 yX0_works : Cond) ∈ WT := wt (tbin_3 _ (List.mem_of_getElem? (i := 216) rfl)) rfl
theorem im_X0_works : (Cond.instanceMethod yX0_works : Cond) ∈ WT := wt (tbin_3 _ (List.mem_of_getElem? (i := 218) rfl)) rfl
theorem se_X0_works : (Cond.selects RX0 yX0_works yX0_works : Cond) ∈ WT := wt (tbse _ (List.mem_of_getElem? (i := 30) rfl)) rfl
theorem co_X0_works : (Cond.code yX0_works cX0_works 10 (some .boolean) : Cond) ∈ WT := wt (tbin_3 _ (List.mem_of_getElem? (i := 219) rfl)) rfl
theorem ml_X0_82 : (Cond.methodLink RX0 82 Lib.Math.min.name : Cond) ∈ WT := wt (tbin_3 _ (List.mem_of_getElem? (i := 220) rfl)) rfl
theorem ml_X0_87 : (Cond.methodLink RX0 87 Lib.Math.max.name : Cond) ∈ WT := wt (tbin_3 _ (List.mem_of_getElem? (i := 221) rfl)) rfl
theorem st_Lib_Math_max_name : (Cond.static Lib.Math.max.name : Cond) ∈ WT := wt (tbin_3 _ (List.mem_of_getElem? (i := 222) rfl)) rfl
theorem co_Lib_Math_max_name : (Cond.code Lib.Math.max.name Lib.Math.max.code 2 (some .int) : Cond) ∈ WT := wt (tbin_3 _ (List.mem_of_getElem? (i := 223) rfl)) rfl
theorem ml_X0_90 : (Cond.methodLink RX0 90 yX0_push : Cond) ∈ WT := wt (tbin_3 _ (List.mem_of_getElem? (i := 224) rfl)) rfl
theorem im_X0_push : (Cond.instanceMethod yX0_push : Cond) ∈ WT := wt (tbin_3 _ (List.mem_of_getElem? (i := 226) rfl)) rfl
theorem se_X0_push : (Cond.selects RX0 yX0_push yX0_push : Cond) ∈ WT := wt (tbse _ (List.mem_of_getElem? (i := 31) rfl)) rfl
theorem co_X0_push : (Cond.code yX0_push cX0_push 3 none : Cond) ∈ WT := wt (tbin_3 _ (List.mem_of_getElem? (i := 227) rfl)) rfl
theorem ml_X0_94 : (Cond.methodLink RX0 94 yX0_valueOf : Cond) ∈ WT := wt (tbin_3 _ (List.mem_of_getElem? (i := 228) rfl)) rfl
theorem im_X0_valueOf : (Cond.instanceMethod yX0_valueOf : Cond) ∈ WT := wt (tbin_3 _ (List.mem_of_getElem? (i := 230) rfl)) rfl
theorem se_X0_valueOf : (Cond.selects RX0 yX0_valueOf yX0_valueOf : Cond) ∈ WT := wt (tbse _ (List.mem_of_getElem? (i := 32) rfl)) rfl
theorem co_X0_valueOf : (Cond.code yX0_valueOf cX0_valueOf 3 (some .int) : Cond) ∈ WT := wt (tbin_3 _ (List.mem_of_getElem? (i := 231) rfl)) rfl
theorem ml_X0_97 : (Cond.methodLink RX0 97 yX0_pop : Cond) ∈ WT := wt (tbin_3 _ (List.mem_of_getElem? (i := 232) rfl)) rfl
theorem im_X0_pop : (Cond.instanceMethod yX0_pop : Cond) ∈ WT := wt (tbin_3 _ (List.mem_of_getElem? (i := 234) rfl)) rfl
theorem se_X0_pop : (Cond.selects RX0 yX0_pop yX0_pop : Cond) ∈ WT := wt (tbse _ (List.mem_of_getElem? (i := 33) rfl)) rfl
theorem co_X0_pop : (Cond.code yX0_pop cX0_pop 1 (some .long) : Cond) ∈ WT := wt (tbin_3 _ (List.mem_of_getElem? (i := 235) rfl)) rfl
theorem ml_X0_103 : (Cond.methodLink RX0 103 yX0_joins : Cond) ∈ WT := wt (tbin_3 _ (List.mem_of_getElem? (i := 236) rfl)) rfl
theorem im_X0_joins : (Cond.instanceMethod yX0_joins : Cond) ∈ WT := wt (tbin_3 _ (List.mem_of_getElem? (i := 238) rfl)) rfl
theorem se_X0_joins : (Cond.selects RX0 yX0_joins yX0_joins : Cond) ∈ WT := wt (tbse _ (List.mem_of_getElem? (i := 34) rfl)) rfl
theorem co_X0_joins : (Cond.code yX0_joins cX0_joins 8 (some .boolean) : Cond) ∈ WT := wt (tbin_3 _ (List.mem_of_getElem? (i := 239) rfl)) rfl
theorem kl_X0_107 : (Cond.constantLong RX0 107 (1000000000) : Cond) ∈ WT := wt (tbin_4 _ (List.mem_of_getElem? (i := 0) rfl)) rfl
theorem kl_X0_109 : (Cond.constantLong RX0 109 (-1000000000) : Cond) ∈ WT := wt (tbin_4 _ (List.mem_of_getElem? (i := 1) rfl)) rfl
theorem ml_L_74 : (Cond.methodLink RL 74 yX8_need : Cond) ∈ WT := wt (tbin_6 _ (List.mem_of_getElem? (i := 107) rfl)) rfl
theorem im_X8_need : (Cond.instanceMethod yX8_need : Cond) ∈ WT := wt (tbin_6 _ (List.mem_of_getElem? (i := 108) rfl)) rfl
theorem se_X8_need : (Cond.selects RX8 yX8_need yX8_need : Cond) ∈ WT := wt (tbin_6 _ (List.mem_of_getElem? (i := 109) rfl)) rfl
theorem co_X8_need : (Cond.code yX8_need cX8_need 4 (some .int) : Cond) ∈ WT := wt (tbin_6 _ (List.mem_of_getElem? (i := 110) rfl)) rfl
theorem ml_X8_306 : (Cond.methodLink RX8 306 yX8_isText : Cond) ∈ WT := wt (tbin_6 _ (List.mem_of_getElem? (i := 111) rfl)) rfl
theorem im_X8_isText : (Cond.instanceMethod yX8_isText : Cond) ∈ WT := wt (tbin_6 _ (List.mem_of_getElem? (i := 113) rfl)) rfl
theorem se_X8_isText : (Cond.selects RX8 yX8_isText yX8_isText : Cond) ∈ WT := wt (tbse _ (List.mem_of_getElem? (i := 67) rfl)) rfl
theorem co_X8_isText : (Cond.code yX8_isText cX8_isText 2 (some .boolean) : Cond) ∈ WT := wt (tbin_6 _ (List.mem_of_getElem? (i := 114) rfl)) rfl
theorem ml_X8_309 : (Cond.methodLink RX8 309 yX8_isDay : Cond) ∈ WT := wt (tbin_6 _ (List.mem_of_getElem? (i := 115) rfl)) rfl
theorem st_X8_isDay : (Cond.static yX8_isDay : Cond) ∈ WT := wt (tbin_6 _ (List.mem_of_getElem? (i := 116) rfl)) rfl
theorem co_X8_isDay : (Cond.code yX8_isDay cX8_isDay 1 (some .boolean) : Cond) ∈ WT := wt (tbin_6 _ (List.mem_of_getElem? (i := 117) rfl)) rfl
theorem ml_X8_312 : (Cond.methodLink RX8 312 yX8_needOf : Cond) ∈ WT := wt (tbin_6 _ (List.mem_of_getElem? (i := 118) rfl)) rfl
theorem im_X8_needOf : (Cond.instanceMethod yX8_needOf : Cond) ∈ WT := wt (tbin_6 _ (List.mem_of_getElem? (i := 120) rfl)) rfl
theorem se_X8_needOf : (Cond.selects RX8 yX8_needOf yX8_needOf : Cond) ∈ WT := wt (tbse _ (List.mem_of_getElem? (i := 68) rfl)) rfl
theorem co_X8_needOf : (Cond.code yX8_needOf cX8_needOf 7 (some .long) : Cond) ∈ WT := wt (tbin_6 _ (List.mem_of_getElem? (i := 121) rfl)) rfl
theorem fl_X8_290 : (Cond.fieldLink RX8 290 "CornerWindsModel" "hasEdge" "Z" : Cond) ∈ WT := wt (tbin_5 _ (List.mem_of_getElem? (i := 56) rfl)) rfl
theorem fl_X8_284 : (Cond.fieldLink RX8 284 "CornerWindsModel" "hasNeed" "Z" : Cond) ∈ WT := wt (tbin_5 _ (List.mem_of_getElem? (i := 54) rfl)) rfl
theorem fl_X8_293 : (Cond.fieldLink RX8 293 "CornerWindsModel" "needs" "J" : Cond) ∈ WT := wt (tbin_5 _ (List.mem_of_getElem? (i := 52) rfl)) rfl
theorem ml_X8_299 : (Cond.methodLink RX8 299 yX8_asksJoint : Cond) ∈ WT := wt (tbin_6 _ (List.mem_of_getElem? (i := 122) rfl)) rfl
theorem im_X8_asksJoint : (Cond.instanceMethod yX8_asksJoint : Cond) ∈ WT := wt (tbin_6 _ (List.mem_of_getElem? (i := 124) rfl)) rfl
theorem se_X8_asksJoint : (Cond.selects RX8 yX8_asksJoint yX8_asksJoint : Cond) ∈ WT := wt (tbse _ (List.mem_of_getElem? (i := 69) rfl)) rfl
theorem co_X8_asksJoint : (Cond.code yX8_asksJoint cX8_asksJoint 5 none : Cond) ∈ WT := wt (tbin_6 _ (List.mem_of_getElem? (i := 125) rfl)) rfl
theorem ml_X8_303 : (Cond.methodLink RX8 303 yX8_asks : Cond) ∈ WT := wt (tbin_6 _ (List.mem_of_getElem? (i := 126) rfl)) rfl
theorem im_X8_asks : (Cond.instanceMethod yX8_asks : Cond) ∈ WT := wt (tbin_6 _ (List.mem_of_getElem? (i := 128) rfl)) rfl
theorem se_X8_asks : (Cond.selects RX8 yX8_asks yX8_asks : Cond) ∈ WT := wt (tbse _ (List.mem_of_getElem? (i := 70) rfl)) rfl
theorem co_X8_asks : (Cond.code yX8_asks cX8_asks 7 none : Cond) ∈ WT := wt (tbin_6 _ (List.mem_of_getElem? (i := 129) rfl)) rfl
theorem fl_X8_240 : (Cond.fieldLink RX8 240 "CornerWindsModel" "go" "I" : Cond) ∈ WT := wt (tbin_5 _ (List.mem_of_getElem? (i := 47) rfl)) rfl
theorem fl_X8_237 : (Cond.fieldLink RX8 237 "CornerWindsModel" "goEnd" "I" : Cond) ∈ WT := wt (tbin_5 _ (List.mem_of_getElem? (i := 48) rfl)) rfl
theorem fl_X8_287 : (Cond.fieldLink RX8 287 "CornerWindsModel" "hasLook" "Z" : Cond) ∈ WT := wt (tbin_5 _ (List.mem_of_getElem? (i := 55) rfl)) rfl
theorem fl_X8_250 : (Cond.fieldLink RX8 250 "CornerWindsModel" "broken" "Z" : Cond) ∈ WT := wt (tbin_5 _ (List.mem_of_getElem? (i := 49) rfl)) rfl
theorem fl_X8_296 : (Cond.fieldLink RX8 296 "CornerWindsModel" "looks" "J" : Cond) ∈ WT := wt (tbin_5 _ (List.mem_of_getElem? (i := 53) rfl)) rfl
theorem ml_X8_243 : (Cond.methodLink RX8 243 yX8_codeAt : Cond) ∈ WT := wt (tbin_6 _ (List.mem_of_getElem? (i := 130) rfl)) rfl
theorem im_X8_codeAt : (Cond.instanceMethod yX8_codeAt : Cond) ∈ WT := wt (tbin_6 _ (List.mem_of_getElem? (i := 132) rfl)) rfl
theorem se_X8_codeAt : (Cond.selects RX8 yX8_codeAt yX8_codeAt : Cond) ∈ WT := wt (tbse _ (List.mem_of_getElem? (i := 71) rfl)) rfl
theorem co_X8_codeAt : (Cond.code yX8_codeAt cX8_codeAt 2 (some .int) : Cond) ∈ WT := wt (tbin_6 _ (List.mem_of_getElem? (i := 133) rfl)) rfl
theorem ml_X8_268 : (Cond.methodLink RX8 268 yX8_sumOf : Cond) ∈ WT := wt (tbin_6 _ (List.mem_of_getElem? (i := 134) rfl)) rfl
theorem im_X8_sumOf : (Cond.instanceMethod yX8_sumOf : Cond) ∈ WT := wt (tbin_6 _ (List.mem_of_getElem? (i := 136) rfl)) rfl
theorem se_X8_sumOf : (Cond.selects RX8 yX8_sumOf yX8_sumOf : Cond) ∈ WT := wt (tbse _ (List.mem_of_getElem? (i := 72) rfl)) rfl
theorem co_X8_sumOf : (Cond.code yX8_sumOf cX8_sumOf 7 (some .long) : Cond) ∈ WT := wt (tbin_6 _ (List.mem_of_getElem? (i := 137) rfl)) rfl
theorem ml_X8_254 : (Cond.methodLink RX8 254 yX8_termOf : Cond) ∈ WT := wt (tbin_6 _ (List.mem_of_getElem? (i := 138) rfl)) rfl
theorem im_X8_termOf : (Cond.instanceMethod yX8_termOf : Cond) ∈ WT := wt (tbin_6 _ (List.mem_of_getElem? (i := 140) rfl)) rfl
theorem se_X8_termOf : (Cond.selects RX8 yX8_termOf yX8_termOf : Cond) ∈ WT := wt (tbse _ (List.mem_of_getElem? (i := 73) rfl)) rfl
theorem ml_X8_258 : (Cond.methodLink RX8 258 yX8_bounded : Cond) ∈ WT := wt (tbin_6 _ (List.mem_of_getElem? (i := 150) rfl)) rfl
theorem im_X8_bounded : (Cond.instanceMethod yX8_bounded : Cond) ∈ WT := wt (tbin_6 _ (List.mem_of_getElem? (i := 152) rfl)) rfl
theorem se_X8_bounded : (Cond.selects RX8 yX8_bounded yX8_bounded : Cond) ∈ WT := wt (tbse _ (List.mem_of_getElem? (i := 76) rfl)) rfl
theorem co_X8_bounded : (Cond.code yX8_bounded cX8_bounded 4 (some .long) : Cond) ∈ WT := wt (tbin_6 _ (List.mem_of_getElem? (i := 153) rfl)) rfl
theorem kl_X8_246 : (Cond.constantLong RX8 246 (1000000000) : Cond) ∈ WT := wt (tbin_6 _ (List.mem_of_getElem? (i := 154) rfl)) rfl
theorem kl_X8_248 : (Cond.constantLong RX8 248 (-1000000000) : Cond) ∈ WT := wt (tbin_6 _ (List.mem_of_getElem? (i := 155) rfl)) rfl
theorem co_X8_partOf : (Cond.code yX8_partOf cX8_partOf 4 (some .long) : Cond) ∈ WT := wt (tbin_6 _ (List.mem_of_getElem? (i := 145) rfl)) rfl
theorem ml_X8_265 : (Cond.methodLink RX8 265 yX8_passes : Cond) ∈ WT := wt (tbin_6 _ (List.mem_of_getElem? (i := 146) rfl)) rfl
theorem im_X8_passes : (Cond.instanceMethod yX8_passes : Cond) ∈ WT := wt (tbin_6 _ (List.mem_of_getElem? (i := 148) rfl)) rfl
theorem se_X8_passes : (Cond.selects RX8 yX8_passes yX8_passes : Cond) ∈ WT := wt (tbse _ (List.mem_of_getElem? (i := 75) rfl)) rfl
theorem co_X8_passes : (Cond.code yX8_passes cX8_passes 3 (some .boolean) : Cond) ∈ WT := wt (tbin_6 _ (List.mem_of_getElem? (i := 149) rfl)) rfl
theorem co_X8_termOf : (Cond.code yX8_termOf cX8_termOf 7 (some .long) : Cond) ∈ WT := wt (tbin_6 _ (List.mem_of_getElem? (i := 141) rfl)) rfl
theorem ml_X8_262 : (Cond.methodLink RX8 262 yX8_partOf : Cond) ∈ WT := wt (tbin_6 _ (List.mem_of_getElem? (i := 142) rfl)) rfl
theorem im_X8_partOf : (Cond.instanceMethod yX8_partOf : Cond) ∈ WT := wt (tbin_6 _ (List.mem_of_getElem? (i := 144) rfl)) rfl
theorem se_X8_partOf : (Cond.selects RX8 yX8_partOf yX8_partOf : Cond) ∈ WT := wt (tbse _ (List.mem_of_getElem? (i := 74) rfl)) rfl
theorem ml_X8_281 : (Cond.methodLink RX8 281 yX8_testOf : Cond) ∈ WT := wt (tbin_6 _ (List.mem_of_getElem? (i := 156) rfl)) rfl
theorem im_X8_testOf : (Cond.instanceMethod yX8_testOf : Cond) ∈ WT := wt (tbin_6 _ (List.mem_of_getElem? (i := 158) rfl)) rfl
theorem se_X8_testOf : (Cond.selects RX8 yX8_testOf yX8_testOf : Cond) ∈ WT := wt (tbse _ (List.mem_of_getElem? (i := 77) rfl)) rfl
theorem co_X8_testOf : (Cond.code yX8_testOf cX8_testOf 4 (some .boolean) : Cond) ∈ WT := wt (tbin_6 _ (List.mem_of_getElem? (i := 159) rfl)) rfl
theorem ml_X8_271 : (Cond.methodLink RX8 271 yX8_bothOf : Cond) ∈ WT := wt (tbin_6 _ (List.mem_of_getElem? (i := 160) rfl)) rfl
theorem im_X8_bothOf : (Cond.instanceMethod yX8_bothOf : Cond) ∈ WT := wt (tbin_6 _ (List.mem_of_getElem? (i := 162) rfl)) rfl
theorem se_X8_bothOf : (Cond.selects RX8 yX8_bothOf yX8_bothOf : Cond) ∈ WT := wt (tbse _ (List.mem_of_getElem? (i := 78) rfl)) rfl
theorem co_X8_bothOf : (Cond.code yX8_bothOf cX8_bothOf 4 (some .boolean) : Cond) ∈ WT := wt (tbin_6 _ (List.mem_of_getElem? (i := 163) rfl)) rfl
theorem ml_X8_275 : (Cond.methodLink RX8 275 yX8_plainOf : Cond) ∈ WT := wt (tbin_6 _ (List.mem_of_getElem? (i := 164) rfl)) rfl
theorem im_X8_plainOf : (Cond.instanceMethod yX8_plainOf : Cond) ∈ WT := wt (tbin_6 _ (List.mem_of_getElem? (i := 166) rfl)) rfl
theorem se_X8_plainOf : (Cond.selects RX8 yX8_plainOf yX8_plainOf : Cond) ∈ WT := wt (tbse _ (List.mem_of_getElem? (i := 79) rfl)) rfl
theorem co_X8_plainOf : (Cond.code yX8_plainOf cX8_plainOf 3 (some .boolean) : Cond) ∈ WT := wt (tbin_6 _ (List.mem_of_getElem? (i := 167) rfl)) rfl
theorem ml_X8_278 : (Cond.methodLink RX8 278 yX8_positiveOf : Cond) ∈ WT := wt (tbin_6 _ (List.mem_of_getElem? (i := 168) rfl)) rfl
theorem im_X8_positiveOf : (Cond.instanceMethod yX8_positiveOf : Cond) ∈ WT := wt (tbin_6 _ (List.mem_of_getElem? (i := 170) rfl)) rfl
theorem se_X8_positiveOf : (Cond.selects RX8 yX8_positiveOf yX8_positiveOf : Cond) ∈ WT := wt (tbse _ (List.mem_of_getElem? (i := 80) rfl)) rfl
theorem co_X8_positiveOf : (Cond.code yX8_positiveOf cX8_positiveOf 8 (some .boolean) : Cond) ∈ WT := wt (tbin_6 _ (List.mem_of_getElem? (i := 171) rfl)) rfl
theorem ml_L_75 : (Cond.methodLink RL 75 yX7_step : Cond) ∈ WT := wt (tbin_4 _ (List.mem_of_getElem? (i := 5) rfl)) rfl
theorem im_X7_step : (Cond.instanceMethod yX7_step : Cond) ∈ WT := wt (tbin_4 _ (List.mem_of_getElem? (i := 6) rfl)) rfl
theorem se_X7_step : (Cond.selects RX7 yX7_step yX7_step : Cond) ∈ WT := wt (tbin_4 _ (List.mem_of_getElem? (i := 7) rfl)) rfl
theorem co_X7_step : (Cond.code yX7_step cX7_step 9 (some .int) : Cond) ∈ WT := wt (tbin_4 _ (List.mem_of_getElem? (i := 8) rfl)) rfl
theorem fl_X7_200 : (Cond.fieldLink RX7 200 "CornerWinds$State" "steps" "LCornerWinds$Table;" : Cond) ∈ WT := wt (tbin_1 _ (List.mem_of_getElem? (i := 90) rfl)) rfl
theorem ml_X7_197 : (Cond.methodLink RX7 197 yX7_isPerson : Cond) ∈ WT := wt (tbin_4 _ (List.mem_of_getElem? (i := 9) rfl)) rfl
theorem st_X7_isPerson : (Cond.static yX7_isPerson : Cond) ∈ WT := wt (tbin_4 _ (List.mem_of_getElem? (i := 10) rfl)) rfl
theorem co_X7_isPerson : (Cond.code yX7_isPerson cX7_isPerson 1 (some .boolean) : Cond) ∈ WT := wt (tbin_4 _ (List.mem_of_getElem? (i := 11) rfl)) rfl
theorem ml_X7_203 : (Cond.methodLink RX7 203 yX5_cell : Cond) ∈ WT := wt (tbin_4 _ (List.mem_of_getElem? (i := 12) rfl)) rfl
theorem ml_L_78 : (Cond.methodLink RL 78 yX8_step : Cond) ∈ WT := wt (tbin_6 _ (List.mem_of_getElem? (i := 172) rfl)) rfl
theorem im_X8_step : (Cond.instanceMethod yX8_step : Cond) ∈ WT := wt (tbin_6 _ (List.mem_of_getElem? (i := 173) rfl)) rfl
theorem se_X8_step : (Cond.selects RX8 yX8_step yX8_step : Cond) ∈ WT := wt (tbin_6 _ (List.mem_of_getElem? (i := 174) rfl)) rfl
theorem co_X8_step : (Cond.code yX8_step cX8_step 9 (some .int) : Cond) ∈ WT := wt (tbin_6 _ (List.mem_of_getElem? (i := 175) rfl)) rfl
theorem ml_X8_316 : (Cond.methodLink RX8 316 yX8_stepOf : Cond) ∈ WT := wt (tbin_6 _ (List.mem_of_getElem? (i := 176) rfl)) rfl
theorem im_X8_stepOf : (Cond.instanceMethod yX8_stepOf : Cond) ∈ WT := wt (tbin_6 _ (List.mem_of_getElem? (i := 178) rfl)) rfl
theorem se_X8_stepOf : (Cond.selects RX8 yX8_stepOf yX8_stepOf : Cond) ∈ WT := wt (tbse _ (List.mem_of_getElem? (i := 81) rfl)) rfl
theorem co_X8_stepOf : (Cond.code yX8_stepOf cX8_stepOf 3 (some .int) : Cond) ∈ WT := wt (tbin_6 _ (List.mem_of_getElem? (i := 179) rfl)) rfl
theorem ml_X8_319 : (Cond.methodLink RX8 319 yX8_becomes : Cond) ∈ WT := wt (tbin_6 _ (List.mem_of_getElem? (i := 180) rfl)) rfl
theorem im_X8_becomes : (Cond.instanceMethod yX8_becomes : Cond) ∈ WT := wt (tbin_6 _ (List.mem_of_getElem? (i := 182) rfl)) rfl
theorem se_X8_becomes : (Cond.selects RX8 yX8_becomes yX8_becomes : Cond) ∈ WT := wt (tbse _ (List.mem_of_getElem? (i := 82) rfl)) rfl
theorem co_X8_becomes : (Cond.code yX8_becomes cX8_becomes 3 none : Cond) ∈ WT := wt (tbin_6 _ (List.mem_of_getElem? (i := 183) rfl)) rfl
theorem ml_L_79 : (Cond.methodLink RL 79 yX7_drawing : Cond) ∈ WT := wt (tbin_4 _ (List.mem_of_getElem? (i := 13) rfl)) rfl
theorem im_X7_drawing : (Cond.instanceMethod yX7_drawing : Cond) ∈ WT := wt (tbin_4 _ (List.mem_of_getElem? (i := 14) rfl)) rfl
theorem se_X7_drawing : (Cond.selects RX7 yX7_drawing yX7_drawing : Cond) ∈ WT := wt (tbin_4 _ (List.mem_of_getElem? (i := 15) rfl)) rfl
theorem co_X7_drawing : (Cond.code yX7_drawing cX7_drawing 3 (some .int) : Cond) ∈ WT := wt (tbin_4 _ (List.mem_of_getElem? (i := 16) rfl)) rfl
theorem ml_L_82 : (Cond.methodLink RL 82 yX8_drawing : Cond) ∈ WT := wt (tbin_6 _ (List.mem_of_getElem? (i := 184) rfl)) rfl
theorem im_X8_drawing : (Cond.instanceMethod yX8_drawing : Cond) ∈ WT := wt (tbin_6 _ (List.mem_of_getElem? (i := 185) rfl)) rfl
theorem se_X8_drawing : (Cond.selects RX8 yX8_drawing yX8_drawing : Cond) ∈ WT := wt (tbin_6 _ (List.mem_of_getElem? (i := 186) rfl)) rfl
theorem co_X8_drawing : (Cond.code yX8_drawing cX8_drawing 3 (some .int) : Cond) ∈ WT := wt (tbin_6 _ (List.mem_of_getElem? (i := 187) rfl)) rfl
theorem ml_L_83 : (Cond.methodLink RL 83 yX7_saw : Cond) ∈ WT := wt (tbin_4 _ (List.mem_of_getElem? (i := 17) rfl)) rfl
theorem im_X7_saw : (Cond.instanceMethod yX7_saw : Cond) ∈ WT := wt (tbin_4 _ (List.mem_of_getElem? (i := 18) rfl)) rfl
theorem se_X7_saw : (Cond.selects RX7 yX7_saw yX7_saw : Cond) ∈ WT := wt (tbin_4 _ (List.mem_of_getElem? (i := 19) rfl)) rfl
theorem co_X7_saw : (Cond.code yX7_saw cX7_saw 5 (some .int) : Cond) ∈ WT := wt (tbin_4 _ (List.mem_of_getElem? (i := 20) rfl)) rfl
theorem fl_X7_207 : (Cond.fieldLink RX7 207 "CornerWinds$Bearing" "holds" "[I" : Cond) ∈ WT := wt (tbin_1 _ (List.mem_of_getElem? (i := 141) rfl)) rfl
theorem kc_X7_216 : (Cond.constant RX7 216 (-1431655766) : Cond) ∈ WT := wt (tbin_4 _ (List.mem_of_getElem? (i := 22) rfl)) rfl
theorem ml_X7_210 : (Cond.methodLink RX7 210 yJ7_fill_53178 : Cond) ∈ WT := wt (tbin_4 _ (List.mem_of_getElem? (i := 21) rfl)) rfl
theorem ml_X7_217 : (Cond.methodLink RX7 217 yX1_fallsOfAll : Cond) ∈ WT := wt (tbin_4 _ (List.mem_of_getElem? (i := 23) rfl)) rfl
theorem im_X1_fallsOfAll : (Cond.instanceMethod yX1_fallsOfAll : Cond) ∈ WT := wt (tbin_4 _ (List.mem_of_getElem? (i := 24) rfl)) rfl
theorem se_X1_fallsOfAll : (Cond.selects RX1 yX1_fallsOfAll yX1_fallsOfAll : Cond) ∈ WT := wt (tbin_4 _ (List.mem_of_getElem? (i := 25) rfl)) rfl
theorem co_X1_fallsOfAll : (Cond.code yX1_fallsOfAll cX1_fallsOfAll 3 (some .int) : Cond) ∈ WT := wt (tbin_4 _ (List.mem_of_getElem? (i := 26) rfl)) rfl
theorem ml_X1_149 : (Cond.methodLink RX1 149 yX1_fallsOf : Cond) ∈ WT := wt (tbin_4 _ (List.mem_of_getElem? (i := 27) rfl)) rfl
theorem im_X1_fallsOf : (Cond.instanceMethod yX1_fallsOf : Cond) ∈ WT := wt (tbin_4 _ (List.mem_of_getElem? (i := 28) rfl)) rfl
theorem se_X1_fallsOf : (Cond.selects RX1 yX1_fallsOf yX1_fallsOf : Cond) ∈ WT := wt (tbin_4 _ (List.mem_of_getElem? (i := 29) rfl)) rfl
theorem co_X1_fallsOf : (Cond.code yX1_fallsOf cX1_fallsOf 6 (some .int) : Cond) ∈ WT := wt (tbin_4 _ (List.mem_of_getElem? (i := 30) rfl)) rfl
theorem fl_X1_146 : (Cond.fieldLink RX1 146 "CornerWinds$Table" "size" "I" : Cond) ∈ WT := wt (tbin_1 _ (List.mem_of_getElem? (i := 43) rfl)) rfl
theorem ml_X1_152 : (Cond.methodLink RX1 152 yX1_allFalls : Cond) ∈ WT := wt (tbin_4 _ (List.mem_of_getElem? (i := 31) rfl)) rfl
theorem im_X1_allFalls : (Cond.instanceMethod yX1_allFalls : Cond) ∈ WT := wt (tbin_4 _ (List.mem_of_getElem? (i := 33) rfl)) rfl
theorem se_X1_allFalls : (Cond.selects RX1 yX1_allFalls yX1_allFalls : Cond) ∈ WT := wt (tbse _ (List.mem_of_getElem? (i := 35) rfl)) rfl
theorem co_X1_allFalls : (Cond.code yX1_allFalls cX1_allFalls 3 (some .int) : Cond) ∈ WT := wt (tbin_4 _ (List.mem_of_getElem? (i := 34) rfl)) rfl
theorem ml_X7_220 : (Cond.methodLink RX7 220 yX1_fallsAnew : Cond) ∈ WT := wt (tbin_4 _ (List.mem_of_getElem? (i := 35) rfl)) rfl
theorem im_X1_fallsAnew : (Cond.instanceMethod yX1_fallsAnew : Cond) ∈ WT := wt (tbin_4 _ (List.mem_of_getElem? (i := 36) rfl)) rfl
theorem se_X1_fallsAnew : (Cond.selects RX1 yX1_fallsAnew yX1_fallsAnew : Cond) ∈ WT := wt (tbin_4 _ (List.mem_of_getElem? (i := 37) rfl)) rfl
theorem co_X1_fallsAnew : (Cond.code yX1_fallsAnew cX1_fallsAnew 3 (some .int) : Cond) ∈ WT := wt (tbin_4 _ (List.mem_of_getElem? (i := 38) rfl)) rfl
theorem ml_L_86 : (Cond.methodLink RL 86 yX8_saw : Cond) ∈ WT := wt (tbin_6 _ (List.mem_of_getElem? (i := 188) rfl)) rfl
theorem im_X8_saw : (Cond.instanceMethod yX8_saw : Cond) ∈ WT := wt (tbin_6 _ (List.mem_of_getElem? (i := 189) rfl)) rfl
theorem se_X8_saw : (Cond.selects RX8 yX8_saw yX8_saw : Cond) ∈ WT := wt (tbin_6 _ (List.mem_of_getElem? (i := 190) rfl)) rfl
theorem co_X8_saw : (Cond.code yX8_saw cX8_saw 5 (some .int) : Cond) ∈ WT := wt (tbin_6 _ (List.mem_of_getElem? (i := 191) rfl)) rfl
theorem ml_X8_322 : (Cond.methodLink RX8 322 yX8_saves : Cond) ∈ WT := wt (tbin_6 _ (List.mem_of_getElem? (i := 192) rfl)) rfl
theorem im_X8_saves : (Cond.instanceMethod yX8_saves : Cond) ∈ WT := wt (tbin_6 _ (List.mem_of_getElem? (i := 194) rfl)) rfl
theorem se_X8_saves : (Cond.selects RX8 yX8_saves yX8_saves : Cond) ∈ WT := wt (tbse _ (List.mem_of_getElem? (i := 83) rfl)) rfl
theorem co_X8_saves : (Cond.code yX8_saves cX8_saves 2 none : Cond) ∈ WT := wt (tbin_6 _ (List.mem_of_getElem? (i := 195) rfl)) rfl
theorem ml_X8_325 : (Cond.methodLink RX8 325 yX8_fallsBy : Cond) ∈ WT := wt (tbin_6 _ (List.mem_of_getElem? (i := 196) rfl)) rfl
theorem im_X8_fallsBy : (Cond.instanceMethod yX8_fallsBy : Cond) ∈ WT := wt (tbin_6 _ (List.mem_of_getElem? (i := 198) rfl)) rfl
theorem se_X8_fallsBy : (Cond.selects RX8 yX8_fallsBy yX8_fallsBy : Cond) ∈ WT := wt (tbse _ (List.mem_of_getElem? (i := 84) rfl)) rfl
theorem co_X8_fallsBy : (Cond.code yX8_fallsBy cX8_fallsBy 4 (some .int) : Cond) ∈ WT := wt (tbin_6 _ (List.mem_of_getElem? (i := 199) rfl)) rfl
theorem ml_X8_328 : (Cond.methodLink RX8 328 yX8_restores : Cond) ∈ WT := wt (tbin_6 _ (List.mem_of_getElem? (i := 200) rfl)) rfl
theorem im_X8_restores : (Cond.instanceMethod yX8_restores : Cond) ∈ WT := wt (tbin_6 _ (List.mem_of_getElem? (i := 202) rfl)) rfl
theorem se_X8_restores : (Cond.selects RX8 yX8_restores yX8_restores : Cond) ∈ WT := wt (tbse _ (List.mem_of_getElem? (i := 85) rfl)) rfl
theorem co_X8_restores : (Cond.code yX8_restores cX8_restores 2 none : Cond) ∈ WT := wt (tbin_6 _ (List.mem_of_getElem? (i := 203) rfl)) rfl
theorem ml_L_87 : (Cond.methodLink RL 87 yX7_odds : Cond) ∈ WT := wt (tbin_4 _ (List.mem_of_getElem? (i := 39) rfl)) rfl
theorem im_X7_odds : (Cond.instanceMethod yX7_odds : Cond) ∈ WT := wt (tbin_4 _ (List.mem_of_getElem? (i := 40) rfl)) rfl
theorem se_X7_odds : (Cond.selects RX7 yX7_odds yX7_odds : Cond) ∈ WT := wt (tbin_4 _ (List.mem_of_getElem? (i := 41) rfl)) rfl
theorem co_X7_odds : (Cond.code yX7_odds cX7_odds 5 (some .int) : Cond) ∈ WT := wt (tbin_4 _ (List.mem_of_getElem? (i := 42) rfl)) rfl
theorem ml_X7_223 : (Cond.methodLink RX7 223 yX4_currents : Cond) ∈ WT := wt (tbin_4 _ (List.mem_of_getElem? (i := 43) rfl)) rfl
theorem im_X4_currents : (Cond.instanceMethod yX4_currents : Cond) ∈ WT := wt (tbin_4 _ (List.mem_of_getElem? (i := 44) rfl)) rfl
theorem se_X4_currents : (Cond.selects RX4 yX4_currents yX4_currents : Cond) ∈ WT := wt (tbin_4 _ (List.mem_of_getElem? (i := 45) rfl)) rfl
theorem co_X4_currents : (Cond.code yX4_currents cX4_currents 1 (some .int) : Cond) ∈ WT := wt (tbin_4 _ (List.mem_of_getElem? (i := 46) rfl)) rfl
theorem kc_X4_87 : (Cond.constant RX4 87 (-1431655766) : Cond) ∈ WT := wt (tbin_4 _ (List.mem_of_getElem? (i := 47) rfl)) rfl
theorem ml_X7_226 : (Cond.methodLink RX7 226 yX4_yearOf : Cond) ∈ WT := wt (tbin_4 _ (List.mem_of_getElem? (i := 48) rfl)) rfl
theorem im_X4_yearOf : (Cond.instanceMethod yX4_yearOf : Cond) ∈ WT := wt (tbin_4 _ (List.mem_of_getElem? (i := 49) rfl)) rfl
theorem se_X4_yearOf : (Cond.selects RX4 yX4_yearOf yX4_yearOf : Cond) ∈ WT := wt (tbin_4 _ (List.mem_of_getElem? (i := 50) rfl)) rfl
theorem co_X4_yearOf : (Cond.code yX4_yearOf cX4_yearOf 7 (some .int) : Cond) ∈ WT := wt (tbin_4 _ (List.mem_of_getElem? (i := 51) rfl)) rfl
theorem fl_X4_88 : (Cond.fieldLink RX4 88 "CornerWinds$Table" "size" "I" : Cond) ∈ WT := wt (tbin_1 _ (List.mem_of_getElem? (i := 42) rfl)) rfl
theorem ml_L_90 : (Cond.methodLink RL 90 yX8_odds : Cond) ∈ WT := wt (tbin_6 _ (List.mem_of_getElem? (i := 204) rfl)) rfl
theorem im_X8_odds : (Cond.instanceMethod yX8_odds : Cond) ∈ WT := wt (tbin_6 _ (List.mem_of_getElem? (i := 205) rfl)) rfl
theorem se_X8_odds : (Cond.selects RX8 yX8_odds yX8_odds : Cond) ∈ WT := wt (tbin_6 _ (List.mem_of_getElem? (i := 206) rfl)) rfl
theorem co_X8_odds : (Cond.code yX8_odds cX8_odds 6 (some .int) : Cond) ∈ WT := wt (tbin_6 _ (List.mem_of_getElem? (i := 207) rfl)) rfl
theorem ml_X8_335 : (Cond.methodLink RX8 335 yX8_yearBy : Cond) ∈ WT := wt (tbin_6 _ (List.mem_of_getElem? (i := 208) rfl)) rfl
theorem im_X8_yearBy : (Cond.instanceMethod yX8_yearBy : Cond) ∈ WT := wt (tbin_6 _ (List.mem_of_getElem? (i := 210) rfl)) rfl
theorem se_X8_yearBy : (Cond.selects RX8 yX8_yearBy yX8_yearBy : Cond) ∈ WT := wt (tbse _ (List.mem_of_getElem? (i := 86) rfl)) rfl
theorem co_X8_yearBy : (Cond.code yX8_yearBy cX8_yearBy 4 (some .long) : Cond) ∈ WT := wt (tbin_6 _ (List.mem_of_getElem? (i := 211) rfl)) rfl
theorem ml_X8_331 : (Cond.methodLink RX8 331 yX8_oddsOf : Cond) ∈ WT := wt (tbin_6 _ (List.mem_of_getElem? (i := 212) rfl)) rfl
theorem im_X8_oddsOf : (Cond.instanceMethod yX8_oddsOf : Cond) ∈ WT := wt (tbin_6 _ (List.mem_of_getElem? (i := 214) rfl)) rfl
theorem se_X8_oddsOf : (Cond.selects RX8 yX8_oddsOf yX8_oddsOf : Cond) ∈ WT := wt (tbse _ (List.mem_of_getElem? (i := 87) rfl)) rfl
theorem co_X8_oddsOf : (Cond.code yX8_oddsOf cX8_oddsOf 5 (some .long) : Cond) ∈ WT := wt (tbin_6 _ (List.mem_of_getElem? (i := 215) rfl)) rfl
theorem ml_L_91 : (Cond.methodLink RL 91 yX7_wish : Cond) ∈ WT := wt (tbin_4 _ (List.mem_of_getElem? (i := 52) rfl)) rfl
theorem im_X7_wish : (Cond.instanceMethod yX7_wish : Cond) ∈ WT := wt (tbin_4 _ (List.mem_of_getElem? (i := 53) rfl)) rfl
theorem se_X7_wish : (Cond.selects RX7 yX7_wish yX7_wish : Cond) ∈ WT := wt (tbin_4 _ (List.mem_of_getElem? (i := 54) rfl)) rfl
theorem co_X7_wish : (Cond.code yX7_wish cX7_wish 2 (some .int) : Cond) ∈ WT := wt (tbin_4 _ (List.mem_of_getElem? (i := 55) rfl)) rfl
theorem fl_X7_232 : (Cond.fieldLink RX7 232 "CornerWinds$Mending" "size" "I" : Cond) ∈ WT := wt (tbin_1 _ (List.mem_of_getElem? (i := 210) rfl)) rfl
theorem fl_X7_233 : (Cond.fieldLink RX7 233 "CornerWinds$Mending" "wished" "[I" : Cond) ∈ WT := wt (tbin_1 _ (List.mem_of_getElem? (i := 208) rfl)) rfl
theorem ml_X7_229 : (Cond.methodLink RX7 229 yX2_isWished : Cond) ∈ WT := wt (tbin_4 _ (List.mem_of_getElem? (i := 56) rfl)) rfl
theorem im_X2_isWished : (Cond.instanceMethod yX2_isWished : Cond) ∈ WT := wt (tbin_4 _ (List.mem_of_getElem? (i := 57) rfl)) rfl
theorem se_X2_isWished : (Cond.selects RX2 yX2_isWished yX2_isWished : Cond) ∈ WT := wt (tbin_4 _ (List.mem_of_getElem? (i := 58) rfl)) rfl
theorem co_X2_isWished : (Cond.code yX2_isWished cX2_isWished 3 (some .boolean) : Cond) ∈ WT := wt (tbin_4 _ (List.mem_of_getElem? (i := 59) rfl)) rfl
theorem ml_L_94 : (Cond.methodLink RL 94 yX8_wish : Cond) ∈ WT := wt (tbin_6 _ (List.mem_of_getElem? (i := 216) rfl)) rfl
theorem im_X8_wish : (Cond.instanceMethod yX8_wish : Cond) ∈ WT := wt (tbin_6 _ (List.mem_of_getElem? (i := 217) rfl)) rfl
theorem se_X8_wish : (Cond.selects RX8 yX8_wish yX8_wish : Cond) ∈ WT := wt (tbin_6 _ (List.mem_of_getElem? (i := 218) rfl)) rfl
theorem co_X8_wish : (Cond.code yX8_wish cX8_wish 3 (some .int) : Cond) ∈ WT := wt (tbin_6 _ (List.mem_of_getElem? (i := 219) rfl)) rfl
theorem fl_X8_338 : (Cond.fieldLink RX8 338 "CornerWindsModel" "wished" "I" : Cond) ∈ WT := wt (tbin_5 _ (List.mem_of_getElem? (i := 59) rfl)) rfl
theorem ml_L_95 : (Cond.methodLink RL 95 yX7_clear : Cond) ∈ WT := wt (tbin_4 _ (List.mem_of_getElem? (i := 60) rfl)) rfl
theorem im_X7_clear : (Cond.instanceMethod yX7_clear : Cond) ∈ WT := wt (tbin_4 _ (List.mem_of_getElem? (i := 61) rfl)) rfl
theorem se_X7_clear : (Cond.selects RX7 yX7_clear yX7_clear : Cond) ∈ WT := wt (tbin_4 _ (List.mem_of_getElem? (i := 62) rfl)) rfl
theorem co_X7_clear : (Cond.code yX7_clear cX7_clear 2 (some .int) : Cond) ∈ WT := wt (tbin_4 _ (List.mem_of_getElem? (i := 63) rfl)) rfl
theorem ml_L_98 : (Cond.methodLink RL 98 yX8_clear : Cond) ∈ WT := wt (tbin_6 _ (List.mem_of_getElem? (i := 220) rfl)) rfl
theorem im_X8_clear : (Cond.instanceMethod yX8_clear : Cond) ∈ WT := wt (tbin_6 _ (List.mem_of_getElem? (i := 221) rfl)) rfl
theorem se_X8_clear : (Cond.selects RX8 yX8_clear yX8_clear : Cond) ∈ WT := wt (tbin_6 _ (List.mem_of_getElem? (i := 222) rfl)) rfl
theorem co_X8_clear : (Cond.code yX8_clear cX8_clear 2 (some .int) : Cond) ∈ WT := wt (tbin_6 _ (List.mem_of_getElem? (i := 223) rfl)) rfl
theorem ml_L_99 : (Cond.methodLink RL 99 yX7_best : Cond) ∈ WT := wt (tbin_4 _ (List.mem_of_getElem? (i := 64) rfl)) rfl
theorem im_X7_best : (Cond.instanceMethod yX7_best : Cond) ∈ WT := wt (tbin_4 _ (List.mem_of_getElem? (i := 65) rfl)) rfl
theorem se_X7_best : (Cond.selects RX7 yX7_best yX7_best : Cond) ∈ WT := wt (tbin_4 _ (List.mem_of_getElem? (i := 66) rfl)) rfl
theorem co_X7_best : (Cond.code yX7_best cX7_best 1 (some .long) : Cond) ∈ WT := wt (tbin_4 _ (List.mem_of_getElem? (i := 67) rfl)) rfl
theorem kl_X7_239 : (Cond.constantLong RX7 239 (-1) : Cond) ∈ WT := wt (tbin_4 _ (List.mem_of_getElem? (i := 72) rfl)) rfl
theorem fl_X7_250 : (Cond.fieldLink RX7 250 "CornerWinds$Mending" "risk" "[J" : Cond) ∈ WT := wt (tbin_1 _ (List.mem_of_getElem? (i := 216) rfl)) rfl
theorem ml_X7_236 : (Cond.methodLink RX7 236 yX2_canBe : Cond) ∈ WT := wt (tbin_4 _ (List.mem_of_getElem? (i := 68) rfl)) rfl
theorem im_X2_canBe : (Cond.instanceMethod yX2_canBe : Cond) ∈ WT := wt (tbin_4 _ (List.mem_of_getElem? (i := 69) rfl)) rfl
theorem se_X2_canBe : (Cond.selects RX2 yX2_canBe yX2_canBe : Cond) ∈ WT := wt (tbin_4 _ (List.mem_of_getElem? (i := 70) rfl)) rfl
theorem co_X2_canBe : (Cond.code yX2_canBe cX2_canBe 2 (some .boolean) : Cond) ∈ WT := wt (tbin_4 _ (List.mem_of_getElem? (i := 71) rfl)) rfl
theorem fl_X2_46 : (Cond.fieldLink RX2 46 "CornerWinds$State" "bolted" "[I" : Cond) ∈ WT := wt (tbin_1 _ (List.mem_of_getElem? (i := 67) rfl)) rfl
theorem ml_X7_241 : (Cond.methodLink RX7 241 yX2_weighSets : Cond) ∈ WT := wt (tbin_4 _ (List.mem_of_getElem? (i := 73) rfl)) rfl
theorem im_X2_weighSets : (Cond.instanceMethod yX2_weighSets : Cond) ∈ WT := wt (tbin_4 _ (List.mem_of_getElem? (i := 74) rfl)) rfl
theorem se_X2_weighSets : (Cond.selects RX2 yX2_weighSets yX2_weighSets : Cond) ∈ WT := wt (tbin_4 _ (List.mem_of_getElem? (i := 75) rfl)) rfl
theorem co_X2_weighSets : (Cond.code yX2_weighSets cX2_weighSets 2 none : Cond) ∈ WT := wt (tbin_4 _ (List.mem_of_getElem? (i := 76) rfl)) rfl
theorem fl_X2_76 : (Cond.fieldLink RX2 76 "CornerWinds$State" "terms" "[I" : Cond) ∈ WT := wt (tbin_1 _ (List.mem_of_getElem? (i := 83) rfl)) rfl
theorem ml_X2_57 : (Cond.methodLink RX2 57 yX1_ready : Cond) ∈ WT := wt (tbin_4 _ (List.mem_of_getElem? (i := 77) rfl)) rfl
theorem ml_X2_62 : (Cond.methodLink RX2 62 yJ7_fill_53178 : Cond) ∈ WT := wt (tbin_4 _ (List.mem_of_getElem? (i := 78) rfl)) rfl
theorem ml_X2_68 : (Cond.methodLink RX2 68 yX2_addFallsOf : Cond) ∈ WT := wt (tbin_4 _ (List.mem_of_getElem? (i := 79) rfl)) rfl
theorem im_X2_addFallsOf : (Cond.instanceMethod yX2_addFallsOf : Cond) ∈ WT := wt (tbin_4 _ (List.mem_of_getElem? (i := 81) rfl)) rfl
theorem se_X2_addFallsOf : (Cond.selects RX2 yX2_addFallsOf yX2_addFallsOf : Cond) ∈ WT := wt (tbse _ (List.mem_of_getElem? (i := 36) rfl)) rfl
theorem co_X2_addFallsOf : (Cond.code yX2_addFallsOf cX2_addFallsOf 6 none : Cond) ∈ WT := wt (tbin_4 _ (List.mem_of_getElem? (i := 82) rfl)) rfl
theorem ml_X2_82 : (Cond.methodLink RX2 82 yX2_mend : Cond) ∈ WT := wt (tbin_4 _ (List.mem_of_getElem? (i := 83) rfl)) rfl
theorem im_X2_mend : (Cond.instanceMethod yX2_mend : Cond) ∈ WT := wt (tbin_4 _ (List.mem_of_getElem? (i := 85) rfl)) rfl
theorem se_X2_mend : (Cond.selects RX2 yX2_mend yX2_mend : Cond) ∈ WT := wt (tbse _ (List.mem_of_getElem? (i := 37) rfl)) rfl
theorem co_X2_mend : (Cond.code yX2_mend cX2_mend 4 none : Cond) ∈ WT := wt (tbin_4 _ (List.mem_of_getElem? (i := 86) rfl)) rfl
theorem fl_X2_98 : (Cond.fieldLink RX2 98 "CornerWinds$Bearing" "holds" "[I" : Cond) ∈ WT := wt (tbin_1 _ (List.mem_of_getElem? (i := 140) rfl)) rfl
theorem ml_X2_101 : (Cond.methodLink RX2 101 yX4_holdOf : Cond) ∈ WT := wt (tbin_4 _ (List.mem_of_getElem? (i := 87) rfl)) rfl
theorem ml_X2_85 : (Cond.methodLink RX2 85 yX4_currents : Cond) ∈ WT := wt (tbin_4 _ (List.mem_of_getElem? (i := 88) rfl)) rfl
theorem ml_X2_88 : (Cond.methodLink RX2 88 yX1_stirsOf : Cond) ∈ WT := wt (tbin_4 _ (List.mem_of_getElem? (i := 89) rfl)) rfl
theorem im_X1_stirsOf : (Cond.instanceMethod yX1_stirsOf : Cond) ∈ WT := wt (tbin_4 _ (List.mem_of_getElem? (i := 90) rfl)) rfl
theorem se_X1_stirsOf : (Cond.selects RX1 yX1_stirsOf yX1_stirsOf : Cond) ∈ WT := wt (tbin_4 _ (List.mem_of_getElem? (i := 91) rfl)) rfl
theorem co_X1_stirsOf : (Cond.code yX1_stirsOf cX1_stirsOf 5 (some .int) : Cond) ∈ WT := wt (tbin_4 _ (List.mem_of_getElem? (i := 92) rfl)) rfl
theorem ml_X2_91 : (Cond.methodLink RX2 91 yX2_wishesIn : Cond) ∈ WT := wt (tbin_4 _ (List.mem_of_getElem? (i := 93) rfl)) rfl
theorem im_X2_wishesIn : (Cond.instanceMethod yX2_wishesIn : Cond) ∈ WT := wt (tbin_4 _ (List.mem_of_getElem? (i := 95) rfl)) rfl
theorem se_X2_wishesIn : (Cond.selects RX2 yX2_wishesIn yX2_wishesIn : Cond) ∈ WT := wt (tbse _ (List.mem_of_getElem? (i := 38) rfl)) rfl
theorem co_X2_wishesIn : (Cond.code yX2_wishesIn cX2_wishesIn 4 (some .int) : Cond) ∈ WT := wt (tbin_4 _ (List.mem_of_getElem? (i := 96) rfl)) rfl
theorem ml_X2_72 : (Cond.methodLink RX2 72 yX2_sets : Cond) ∈ WT := wt (tbin_4 _ (List.mem_of_getElem? (i := 97) rfl)) rfl
theorem im_X2_sets : (Cond.instanceMethod yX2_sets : Cond) ∈ WT := wt (tbin_4 _ (List.mem_of_getElem? (i := 99) rfl)) rfl
theorem se_X2_sets : (Cond.selects RX2 yX2_sets yX2_sets : Cond) ∈ WT := wt (tbse _ (List.mem_of_getElem? (i := 39) rfl)) rfl
theorem co_X2_sets : (Cond.code yX2_sets cX2_sets 1 (some .int) : Cond) ∈ WT := wt (tbin_4 _ (List.mem_of_getElem? (i := 100) rfl)) rfl
theorem ml_X2_51 : (Cond.methodLink RX2 51 Lib.Math.min.name : Cond) ∈ WT := wt (tbin_4 _ (List.mem_of_getElem? (i := 101) rfl)) rfl
theorem ml_X2_95 : (Cond.methodLink RX2 95 yX1_fallsOf : Cond) ∈ WT := wt (tbin_4 _ (List.mem_of_getElem? (i := 102) rfl)) rfl
theorem ml_X2_79 : (Cond.methodLink RX2 79 yX4_yearOf : Cond) ∈ WT := wt (tbin_4 _ (List.mem_of_getElem? (i := 103) rfl)) rfl
theorem ml_X7_244 : (Cond.methodLink RX7 244 yX2_weighRows : Cond) ∈ WT := wt (tbin_4 _ (List.mem_of_getElem? (i := 104) rfl)) rfl
theorem im_X2_weighRows : (Cond.instanceMethod yX2_weighRows : Cond) ∈ WT := wt (tbin_4 _ (List.mem_of_getElem? (i := 105) rfl)) rfl
theorem se_X2_weighRows : (Cond.selects RX2 yX2_weighRows yX2_weighRows : Cond) ∈ WT := wt (tbin_4 _ (List.mem_of_getElem? (i := 106) rfl)) rfl
theorem co_X2_weighRows : (Cond.code yX2_weighRows cX2_weighRows 3 none : Cond) ∈ WT := wt (tbin_4 _ (List.mem_of_getElem? (i := 107) rfl)) rfl
theorem ml_X2_104 : (Cond.methodLink RX2 104 yX2_nextWish : Cond) ∈ WT := wt (tbin_4 _ (List.mem_of_getElem? (i := 108) rfl)) rfl
theorem im_X2_nextWish : (Cond.instanceMethod yX2_nextWish : Cond) ∈ WT := wt (tbin_4 _ (List.mem_of_getElem? (i := 110) rfl)) rfl
theorem se_X2_nextWish : (Cond.selects RX2 yX2_nextWish yX2_nextWish : Cond) ∈ WT := wt (tbse _ (List.mem_of_getElem? (i := 40) rfl)) rfl
theorem co_X2_nextWish : (Cond.code yX2_nextWish cX2_nextWish 5 (some .int) : Cond) ∈ WT := wt (tbin_4 _ (List.mem_of_getElem? (i := 111) rfl)) rfl
theorem ml_X2_107 : (Cond.methodLink RX2 107 Lib.Math.max.name : Cond) ∈ WT := wt (tbin_4 _ (List.mem_of_getElem? (i := 112) rfl)) rfl
theorem ml_X7_247 : (Cond.methodLink RX7 247 yX2_keepRow : Cond) ∈ WT := wt (tbin_4 _ (List.mem_of_getElem? (i := 113) rfl)) rfl
theorem im_X2_keepRow : (Cond.instanceMethod yX2_keepRow : Cond) ∈ WT := wt (tbin_4 _ (List.mem_of_getElem? (i := 114) rfl)) rfl
theorem se_X2_keepRow : (Cond.selects RX2 yX2_keepRow yX2_keepRow : Cond) ∈ WT := wt (tbin_4 _ (List.mem_of_getElem? (i := 115) rfl)) rfl
theorem co_X2_keepRow : (Cond.code yX2_keepRow cX2_keepRow 3 none : Cond) ∈ WT := wt (tbin_4 _ (List.mem_of_getElem? (i := 116) rfl)) rfl
theorem ml_L_103 : (Cond.methodLink RL 103 yX8_best : Cond) ∈ WT := wt (tbin_6 _ (List.mem_of_getElem? (i := 224) rfl)) rfl
theorem im_X8_best : (Cond.instanceMethod yX8_best : Cond) ∈ WT := wt (tbin_6 _ (List.mem_of_getElem? (i := 225) rfl)) rfl
theorem se_X8_best : (Cond.selects RX8 yX8_best yX8_best : Cond) ∈ WT := wt (tbin_6 _ (List.mem_of_getElem? (i := 226) rfl)) rfl
theorem co_X8_best : (Cond.code yX8_best cX8_best 8 (some .long) : Cond) ∈ WT := wt (tbin_6 _ (List.mem_of_getElem? (i := 227) rfl)) rfl
theorem kl_X8_348 : (Cond.constantLong RX8 348 (-1) : Cond) ∈ WT := wt (tbin_6 _ (List.mem_of_getElem? (i := 232) rfl)) rfl
theorem ml_X8_345 : (Cond.methodLink RX8 345 yX8_canMend : Cond) ∈ WT := wt (tbin_6 _ (List.mem_of_getElem? (i := 228) rfl)) rfl
theorem im_X8_canMend : (Cond.instanceMethod yX8_canMend : Cond) ∈ WT := wt (tbin_6 _ (List.mem_of_getElem? (i := 230) rfl)) rfl
theorem se_X8_canMend : (Cond.selects RX8 yX8_canMend yX8_canMend : Cond) ∈ WT := wt (tbse _ (List.mem_of_getElem? (i := 88) rfl)) rfl
theorem co_X8_canMend : (Cond.code yX8_canMend cX8_canMend 2 (some .boolean) : Cond) ∈ WT := wt (tbin_6 _ (List.mem_of_getElem? (i := 231) rfl)) rfl
theorem ml_X8_350 : (Cond.methodLink RX8 350 yX8_prices : Cond) ∈ WT := wt (tbin_6 _ (List.mem_of_getElem? (i := 233) rfl)) rfl
theorem im_X8_prices : (Cond.instanceMethod yX8_prices : Cond) ∈ WT := wt (tbin_6 _ (List.mem_of_getElem? (i := 235) rfl)) rfl
theorem se_X8_prices : (Cond.selects RX8 yX8_prices yX8_prices : Cond) ∈ WT := wt (tbse _ (List.mem_of_getElem? (i := 89) rfl)) rfl
theorem co_X8_prices : (Cond.code yX8_prices cX8_prices 3 none : Cond) ∈ WT := wt (tbin_6 _ (List.mem_of_getElem? (i := 236) rfl)) rfl
theorem ml_X8_341 : (Cond.methodLink RX8 341 yX8_year : Cond) ∈ WT := wt (tbin_6 _ (List.mem_of_getElem? (i := 237) rfl)) rfl
theorem im_X8_year : (Cond.instanceMethod yX8_year : Cond) ∈ WT := wt (tbin_6 _ (List.mem_of_getElem? (i := 239) rfl)) rfl
theorem se_X8_year : (Cond.selects RX8 yX8_year yX8_year : Cond) ∈ WT := wt (tbse _ (List.mem_of_getElem? (i := 90) rfl)) rfl
theorem co_X8_year : (Cond.code yX8_year cX8_year 1 (some .long) : Cond) ∈ WT := wt (tbin_7 _ (List.mem_of_getElem? (i := 0) rfl)) rfl
theorem ml_L_104 : (Cond.methodLink RL 104 yX7_night : Cond) ∈ WT := wt (tbin_4 _ (List.mem_of_getElem? (i := 117) rfl)) rfl
theorem im_X7_night : (Cond.instanceMethod yX7_night : Cond) ∈ WT := wt (tbin_4 _ (List.mem_of_getElem? (i := 118) rfl)) rfl
theorem se_X7_night : (Cond.selects RX7 yX7_night yX7_night : Cond) ∈ WT := wt (tbin_4 _ (List.mem_of_getElem? (i := 119) rfl)) rfl
theorem co_X7_night : (Cond.code yX7_night cX7_night 2 (some .int) : Cond) ∈ WT := wt (tbin_4 _ (List.mem_of_getElem? (i := 120) rfl)) rfl
theorem fl_X7_254 : (Cond.fieldLink RX7 254 "CornerWinds$Mending" "nights" "I" : Cond) ∈ WT := wt (tbin_1 _ (List.mem_of_getElem? (i := 214) rfl)) rfl
theorem fl_X7_257 : (Cond.fieldLink RX7 257 "CornerWinds$Mending" "latest" "[I" : Cond) ∈ WT := wt (tbin_1 _ (List.mem_of_getElem? (i := 212) rfl)) rfl
theorem ml_L_107 : (Cond.methodLink RL 107 yX8_night : Cond) ∈ WT := wt (tbin_7 _ (List.mem_of_getElem? (i := 1) rfl)) rfl
theorem im_X8_night : (Cond.instanceMethod yX8_night : Cond) ∈ WT := wt (tbin_7 _ (List.mem_of_getElem? (i := 2) rfl)) rfl
theorem se_X8_night : (Cond.selects RX8 yX8_night yX8_night : Cond) ∈ WT := wt (tbin_7 _ (List.mem_of_getElem? (i := 3) rfl)) rfl
theorem co_X8_night : (Cond.code yX8_night cX8_night 2 (some .int) : Cond) ∈ WT := wt (tbin_7 _ (List.mem_of_getElem? (i := 4) rfl)) rfl
theorem ml_L_108 : (Cond.methodLink RL 108 yX7_low : Cond) ∈ WT := wt (tbin_4 _ (List.mem_of_getElem? (i := 121) rfl)) rfl
theorem im_X7_low : (Cond.instanceMethod yX7_low : Cond) ∈ WT := wt (tbin_4 _ (List.mem_of_getElem? (i := 122) rfl)) rfl
theorem se_X7_low : (Cond.selects RX7 yX7_low yX7_low : Cond) ∈ WT := wt (tbin_4 _ (List.mem_of_getElem? (i := 123) rfl)) rfl
theorem co_X7_low : (Cond.code yX7_low cX7_low 1 (some .long) : Cond) ∈ WT := wt (tbin_4 _ (List.mem_of_getElem? (i := 124) rfl)) rfl
theorem ml_X7_260 : (Cond.methodLink RX7 260 yX2_leastSum : Cond) ∈ WT := wt (tbin_4 _ (List.mem_of_getElem? (i := 125) rfl)) rfl
theorem im_X2_leastSum : (Cond.instanceMethod yX2_leastSum : Cond) ∈ WT := wt (tbin_4 _ (List.mem_of_getElem? (i := 126) rfl)) rfl
theorem se_X2_leastSum : (Cond.selects RX2 yX2_leastSum yX2_leastSum : Cond) ∈ WT := wt (tbin_4 _ (List.mem_of_getElem? (i := 127) rfl)) rfl
theorem co_X2_leastSum : (Cond.code yX2_leastSum cX2_leastSum 6 (some .long) : Cond) ∈ WT := wt (tbin_4 _ (List.mem_of_getElem? (i := 128) rfl)) rfl
theorem ml_X2_110 : (Cond.methodLink RX2 110 yJ6_bitCount_0f7a4 : Cond) ∈ WT := wt (tbin_4 _ (List.mem_of_getElem? (i := 129) rfl)) rfl
theorem st_J6_bitCount_0f7a4 : (Cond.static yJ6_bitCount_0f7a4 : Cond) ∈ WT := wt (tbin_4 _ (List.mem_of_getElem? (i := 130) rfl)) rfl
theorem ini_J6 : (Cond.initialized RJ6 : Cond) ∈ WT := wt (tbin_1 _ (List.mem_of_getElem? (i := 17) rfl)) rfl
theorem co_J6_bitCount_0f7a4 : (Cond.code yJ6_bitCount_0f7a4 cJ6_bitCount_0f7a4 1 (some .int) : Cond) ∈ WT := wt (tbin_4 _ (List.mem_of_getElem? (i := 131) rfl)) rfl
theorem kc_J6_265 : (Cond.constant RJ6 265 (1431655765) : Cond) ∈ WT := wt (tbin_4 _ (List.mem_of_getElem? (i := 132) rfl)) rfl
theorem kc_J6_266 : (Cond.constant RJ6 266 (858993459) : Cond) ∈ WT := wt (tbin_4 _ (List.mem_of_getElem? (i := 133) rfl)) rfl
theorem kc_J6_267 : (Cond.constant RJ6 267 (252645135) : Cond) ∈ WT := wt (tbin_4 _ (List.mem_of_getElem? (i := 134) rfl)) rfl
theorem ml_L_111 : (Cond.methodLink RL 111 yX8_low : Cond) ∈ WT := wt (tbin_7 _ (List.mem_of_getElem? (i := 5) rfl)) rfl
theorem im_X8_low : (Cond.instanceMethod yX8_low : Cond) ∈ WT := wt (tbin_7 _ (List.mem_of_getElem? (i := 6) rfl)) rfl
theorem se_X8_low : (Cond.selects RX8 yX8_low yX8_low : Cond) ∈ WT := wt (tbin_7 _ (List.mem_of_getElem? (i := 7) rfl)) rfl
theorem co_X8_low : (Cond.code yX8_low cX8_low 7 (some .long) : Cond) ∈ WT := wt (tbin_7 _ (List.mem_of_getElem? (i := 8) rfl)) rfl
theorem ml_X8_353 : (Cond.methodLink RX8 353 yX8_ones : Cond) ∈ WT := wt (tbin_7 _ (List.mem_of_getElem? (i := 9) rfl)) rfl
theorem st_X8_ones : (Cond.static yX8_ones : Cond) ∈ WT := wt (tbin_7 _ (List.mem_of_getElem? (i := 10) rfl)) rfl
theorem co_X8_ones : (Cond.code yX8_ones cX8_ones 3 (some .int) : Cond) ∈ WT := wt (tbin_7 _ (List.mem_of_getElem? (i := 11) rfl)) rfl
theorem ml_L_112 : (Cond.methodLink RL 112 yX7_enough : Cond) ∈ WT := wt (tbin_4 _ (List.mem_of_getElem? (i := 135) rfl)) rfl
theorem im_X7_enough : (Cond.instanceMethod yX7_enough : Cond) ∈ WT := wt (tbin_4 _ (List.mem_of_getElem? (i := 136) rfl)) rfl
theorem se_X7_enough : (Cond.selects RX7 yX7_enough yX7_enough : Cond) ∈ WT := wt (tbin_4 _ (List.mem_of_getElem? (i := 137) rfl)) rfl
theorem co_X7_enough : (Cond.code yX7_enough cX7_enough 2 (some .int) : Cond) ∈ WT := wt (tbin_4 _ (List.mem_of_getElem? (i := 138) rfl)) rfl
theorem ml_X7_264 : (Cond.methodLink RX7 264 yX1_facesAreEnough : Cond) ∈ WT := wt (tbin_4 _ (List.mem_of_getElem? (i := 139) rfl)) rfl
theorem im_X1_facesAreEnough : (Cond.instanceMethod yX1_facesAreEnough : Cond) ∈ WT := wt (tbin_4 _ (List.mem_of_getElem? (i := 140) rfl)) rfl
theorem se_X1_facesAreEnough : (Cond.selects RX1 yX1_facesAreEnough yX1_facesAreEnough : Cond) ∈ WT := wt (tbin_4 _ (List.mem_of_getElem? (i := 141) rfl)) rfl
theorem co_X1_facesAreEnough : (Cond.code yX1_facesAreEnough cX1_facesAreEnough 11 (some .boolean) : Cond) ∈ WT := wt (tbin_4 _ (List.mem_of_getElem? (i := 142) rfl)) rfl
theorem ml_X1_159 : (Cond.methodLink RX1 159 Lib.MathLoose.max_long.x : Cond) ∈ WT := wt (tbin_4 _ (List.mem_of_getElem? (i := 144) rfl)) rfl
theorem ml_X1_155 : (Cond.methodLink RX1 155 yX4_isOnFace : Cond) ∈ WT := wt (tbin_4 _ (List.mem_of_getElem? (i := 143) rfl)) rfl
theorem ml_L_115 : (Cond.methodLink RL 115 yX8_enough : Cond) ∈ WT := wt (tbin_7 _ (List.mem_of_getElem? (i := 12) rfl)) rfl
theorem im_X8_enough : (Cond.instanceMethod yX8_enough : Cond) ∈ WT := wt (tbin_7 _ (List.mem_of_getElem? (i := 13) rfl)) rfl
theorem se_X8_enough : (Cond.selects RX8 yX8_enough yX8_enough : Cond) ∈ WT := wt (tbin_7 _ (List.mem_of_getElem? (i := 14) rfl)) rfl
theorem co_X8_enough : (Cond.code yX8_enough cX8_enough 2 (some .int) : Cond) ∈ WT := wt (tbin_7 _ (List.mem_of_getElem? (i := 15) rfl)) rfl
theorem ml_X8_356 : (Cond.methodLink RX8 356 yX8_isEnough : Cond) ∈ WT := wt (tbin_7 _ (List.mem_of_getElem? (i := 16) rfl)) rfl
theorem im_X8_isEnough : (Cond.instanceMethod yX8_isEnough : Cond) ∈ WT := wt (tbin_7 _ (List.mem_of_getElem? (i := 18) rfl)) rfl
theorem se_X8_isEnough : (Cond.selects RX8 yX8_isEnough yX8_isEnough : Cond) ∈ WT := wt (tbse _ (List.mem_of_getElem? (i := 91) rfl)) rfl
theorem co_X8_isEnough : (Cond.code yX8_isEnough cX8_isEnough 6 (some .boolean) : Cond) ∈ WT := wt (tbin_7 _ (List.mem_of_getElem? (i := 19) rfl)) rfl
theorem ml_L_116 : (Cond.methodLink RL 116 yX7_move : Cond) ∈ WT := wt (tbin_4 _ (List.mem_of_getElem? (i := 145) rfl)) rfl
theorem im_X7_move : (Cond.instanceMethod yX7_move : Cond) ∈ WT := wt (tbin_4 _ (List.mem_of_getElem? (i := 146) rfl)) rfl
theorem se_X7_move : (Cond.selects RX7 yX7_move yX7_move : Cond) ∈ WT := wt (tbin_4 _ (List.mem_of_getElem? (i := 147) rfl)) rfl
theorem co_X7_move : (Cond.code yX7_move cX7_move 2 (some .int) : Cond) ∈ WT := wt (tbin_4 _ (List.mem_of_getElem? (i := 148) rfl)) rfl
theorem ml_X7_267 : (Cond.methodLink RX7 267 yX1_standLegAt : Cond) ∈ WT := wt (tbin_4 _ (List.mem_of_getElem? (i := 149) rfl)) rfl
theorem ml_X7_270 : (Cond.methodLink RX7 270 yX1_facesAreEnoughForAll : Cond) ∈ WT := wt (tbin_4 _ (List.mem_of_getElem? (i := 150) rfl)) rfl
theorem im_X1_facesAreEnoughForAll : (Cond.instanceMethod yX1_facesAreEnoughForAll : Cond) ∈ WT := wt (tbin_4 _ (List.mem_of_getElem? (i := 151) rfl)) rfl
theorem se_X1_facesAreEnoughForAll : (Cond.selects RX1 yX1_facesAreEnoughForAll yX1_facesAreEnoughForAll : Cond) ∈ WT := wt (tbin_4 _ (List.mem_of_getElem? (i := 152) rfl)) rfl
theorem co_X1_facesAreEnoughForAll : (Cond.code yX1_facesAreEnoughForAll cX1_facesAreEnoughForAll 2 (some .boolean) : Cond) ∈ WT := wt (tbin_4 _ (List.mem_of_getElem? (i := 153) rfl)) rfl
theorem ml_X1_165 : (Cond.methodLink RX1 165 yX1_facesAreEnough : Cond) ∈ WT := wt (tbin_4 _ (List.mem_of_getElem? (i := 154) rfl)) rfl
theorem ml_L_119 : (Cond.methodLink RL 119 yX8_move : Cond) ∈ WT := wt (tbin_7 _ (List.mem_of_getElem? (i := 20) rfl)) rfl
theorem im_X8_move : (Cond.instanceMethod yX8_move : Cond) ∈ WT := wt (tbin_7 _ (List.mem_of_getElem? (i := 21) rfl)) rfl
theorem se_X8_move : (Cond.selects RX8 yX8_move yX8_move : Cond) ∈ WT := wt (tbin_7 _ (List.mem_of_getElem? (i := 22) rfl)) rfl
theorem co_X8_move : (Cond.code yX8_move cX8_move 6 (some .int) : Cond) ∈ WT := wt (tbin_7 _ (List.mem_of_getElem? (i := 23) rfl)) rfl
theorem ml_L_120 : (Cond.methodLink RL 120 yX7_find : Cond) ∈ WT := wt (tbin_4 _ (List.mem_of_getElem? (i := 155) rfl)) rfl
theorem im_X7_find : (Cond.instanceMethod yX7_find : Cond) ∈ WT := wt (tbin_4 _ (List.mem_of_getElem? (i := 156) rfl)) rfl
theorem se_X7_find : (Cond.selects RX7 yX7_find yX7_find : Cond) ∈ WT := wt (tbin_4 _ (List.mem_of_getElem? (i := 157) rfl)) rfl
theorem co_X7_find : (Cond.code yX7_find cX7_find 4 (some .int) : Cond) ∈ WT := wt (tbin_4 _ (List.mem_of_getElem? (i := 158) rfl)) rfl
theorem ml_X7_273 : (Cond.methodLink RX7 273 yX7_isFact : Cond) ∈ WT := wt (tbin_4 _ (List.mem_of_getElem? (i := 159) rfl)) rfl
theorem st_X7_isFact : (Cond.static yX7_isFact : Cond) ∈ WT := wt (tbin_4 _ (List.mem_of_getElem? (i := 160) rfl)) rfl
theorem co_X7_isFact : (Cond.code yX7_isFact cX7_isFact 1 (some .boolean) : Cond) ∈ WT := wt (tbin_4 _ (List.mem_of_getElem? (i := 161) rfl)) rfl
theorem ml_X7_276 : (Cond.methodLink RX7 276 yX4_learn : Cond) ∈ WT := wt (tbin_4 _ (List.mem_of_getElem? (i := 162) rfl)) rfl
theorem im_X4_learn : (Cond.instanceMethod yX4_learn : Cond) ∈ WT := wt (tbin_4 _ (List.mem_of_getElem? (i := 163) rfl)) rfl
theorem se_X4_learn : (Cond.selects RX4 yX4_learn yX4_learn : Cond) ∈ WT := wt (tbin_4 _ (List.mem_of_getElem? (i := 164) rfl)) rfl
theorem co_X4_learn : (Cond.code yX4_learn cX4_learn 5 none : Cond) ∈ WT := wt (tbin_4 _ (List.mem_of_getElem? (i := 165) rfl)) rfl
theorem ml_X4_91 : (Cond.methodLink RX4 91 Lib.Math.min.name : Cond) ∈ WT := wt (tbin_4 _ (List.mem_of_getElem? (i := 166) rfl)) rfl
theorem ml_L_123 : (Cond.methodLink RL 123 yX8_find : Cond) ∈ WT := wt (tbin_7 _ (List.mem_of_getElem? (i := 24) rfl)) rfl
theorem im_X8_find : (Cond.instanceMethod yX8_find : Cond) ∈ WT := wt (tbin_7 _ (List.mem_of_getElem? (i := 25) rfl)) rfl
theorem se_X8_find : (Cond.selects RX8 yX8_find yX8_find : Cond) ∈ WT := wt (tbin_7 _ (List.mem_of_getElem? (i := 26) rfl)) rfl
theorem co_X8_find : (Cond.code yX8_find cX8_find 4 (some .int) : Cond) ∈ WT := wt (tbin_7 _ (List.mem_of_getElem? (i := 27) rfl)) rfl
theorem ml_X8_359 : (Cond.methodLink RX8 359 yX8_isEight : Cond) ∈ WT := wt (tbin_7 _ (List.mem_of_getElem? (i := 28) rfl)) rfl
theorem st_X8_isEight : (Cond.static yX8_isEight : Cond) ∈ WT := wt (tbin_7 _ (List.mem_of_getElem? (i := 29) rfl)) rfl
theorem co_X8_isEight : (Cond.code yX8_isEight cX8_isEight 1 (some .boolean) : Cond) ∈ WT := wt (tbin_7 _ (List.mem_of_getElem? (i := 30) rfl)) rfl
theorem ml_X8_362 : (Cond.methodLink RX8 362 yX8_knows : Cond) ∈ WT := wt (tbin_7 _ (List.mem_of_getElem? (i := 31) rfl)) rfl
theorem im_X8_knows : (Cond.instanceMethod yX8_knows : Cond) ∈ WT := wt (tbin_7 _ (List.mem_of_getElem? (i := 33) rfl)) rfl
theorem se_X8_knows : (Cond.selects RX8 yX8_knows yX8_knows : Cond) ∈ WT := wt (tbse _ (List.mem_of_getElem? (i := 92) rfl)) rfl
theorem co_X8_knows : (Cond.code yX8_knows cX8_knows 5 none : Cond) ∈ WT := wt (tbin_7 _ (List.mem_of_getElem? (i := 34) rfl)) rfl
theorem ml_L_124 : (Cond.methodLink RL 124 yX7_tell : Cond) ∈ WT := wt (tbin_4 _ (List.mem_of_getElem? (i := 167) rfl)) rfl
theorem im_X7_tell : (Cond.instanceMethod yX7_tell : Cond) ∈ WT := wt (tbin_4 _ (List.mem_of_getElem? (i := 168) rfl)) rfl
theorem se_X7_tell : (Cond.selects RX7 yX7_tell yX7_tell : Cond) ∈ WT := wt (tbin_4 _ (List.mem_of_getElem? (i := 169) rfl)) rfl
theorem co_X7_tell : (Cond.code yX7_tell cX7_tell 5 (some .int) : Cond) ∈ WT := wt (tbin_4 _ (List.mem_of_getElem? (i := 170) rfl)) rfl
theorem fl_X7_280 : (Cond.fieldLink RX7 280 "CornerWinds$State" "known" "[I" : Cond) ∈ WT := wt (tbin_1 _ (List.mem_of_getElem? (i := 85) rfl)) rfl
theorem ml_L_128 : (Cond.methodLink RL 128 yX8_tell : Cond) ∈ WT := wt (tbin_7 _ (List.mem_of_getElem? (i := 35) rfl)) rfl
theorem im_X8_tell : (Cond.instanceMethod yX8_tell : Cond) ∈ WT := wt (tbin_7 _ (List.mem_of_getElem? (i := 36) rfl)) rfl
theorem se_X8_tell : (Cond.selects RX8 yX8_tell yX8_tell : Cond) ∈ WT := wt (tbin_7 _ (List.mem_of_getElem? (i := 37) rfl)) rfl
theorem co_X8_tell : (Cond.code yX8_tell cX8_tell 5 (some .int) : Cond) ∈ WT := wt (tbin_7 _ (List.mem_of_getElem? (i := 38) rfl)) rfl
theorem ml_X8_365 : (Cond.methodLink RX8 365 yX8_knewBy : Cond) ∈ WT := wt (tbin_7 _ (List.mem_of_getElem? (i := 39) rfl)) rfl
theorem im_X8_knewBy : (Cond.instanceMethod yX8_knewBy : Cond) ∈ WT := wt (tbin_7 _ (List.mem_of_getElem? (i := 41) rfl)) rfl
theorem se_X8_knewBy : (Cond.selects RX8 yX8_knewBy yX8_knewBy : Cond) ∈ WT := wt (tbse _ (List.mem_of_getElem? (i := 93) rfl)) rfl
theorem co_X8_knewBy : (Cond.code yX8_knewBy cX8_knewBy 5 (some .boolean) : Cond) ∈ WT := wt (tbin_7 _ (List.mem_of_getElem? (i := 42) rfl)) rfl
theorem ml_L_129 : (Cond.methodLink RL 129 yX7_knew : Cond) ∈ WT := wt (tbin_4 _ (List.mem_of_getElem? (i := 171) rfl)) rfl
theorem im_X7_knew : (Cond.instanceMethod yX7_knew : Cond) ∈ WT := wt (tbin_4 _ (List.mem_of_getElem? (i := 172) rfl)) rfl
theorem se_X7_knew : (Cond.selects RX7 yX7_knew yX7_knew : Cond) ∈ WT := wt (tbin_4 _ (List.mem_of_getElem? (i := 173) rfl)) rfl
theorem co_X7_knew : (Cond.code yX7_knew cX7_knew 4 (some .int) : Cond) ∈ WT := wt (tbin_4 _ (List.mem_of_getElem? (i := 174) rfl)) rfl
theorem ml_L_132 : (Cond.methodLink RL 132 yX8_knew : Cond) ∈ WT := wt (tbin_7 _ (List.mem_of_getElem? (i := 43) rfl)) rfl
theorem im_X8_knew : (Cond.instanceMethod yX8_knew : Cond) ∈ WT := wt (tbin_7 _ (List.mem_of_getElem? (i := 44) rfl)) rfl
theorem se_X8_knew : (Cond.selects RX8 yX8_knew yX8_knew : Cond) ∈ WT := wt (tbin_7 _ (List.mem_of_getElem? (i := 45) rfl)) rfl
theorem co_X8_knew : (Cond.code yX8_knew cX8_knew 3 (some .int) : Cond) ∈ WT := wt (tbin_7 _ (List.mem_of_getElem? (i := 46) rfl)) rfl
theorem ml_L_133 : (Cond.methodLink RL 133 yX7_owed : Cond) ∈ WT := wt (tbin_4 _ (List.mem_of_getElem? (i := 175) rfl)) rfl
theorem im_X7_owed : (Cond.instanceMethod yX7_owed : Cond) ∈ WT := wt (tbin_4 _ (List.mem_of_getElem? (i := 176) rfl)) rfl
theorem se_X7_owed : (Cond.selects RX7 yX7_owed yX7_owed : Cond) ∈ WT := wt (tbin_4 _ (List.mem_of_getElem? (i := 177) rfl)) rfl
theorem co_X7_owed : (Cond.code yX7_owed cX7_owed 6 (some .int) : Cond) ∈ WT := wt (tbin_4 _ (List.mem_of_getElem? (i := 178) rfl)) rfl
theorem ml_X7_283 : (Cond.methodLink RX7 283 yX4_firstOfOthers : Cond) ∈ WT := wt (tbin_4 _ (List.mem_of_getElem? (i := 179) rfl)) rfl
theorem im_X4_firstOfOthers : (Cond.instanceMethod yX4_firstOfOthers : Cond) ∈ WT := wt (tbin_4 _ (List.mem_of_getElem? (i := 180) rfl)) rfl
theorem se_X4_firstOfOthers : (Cond.selects RX4 yX4_firstOfOthers yX4_firstOfOthers : Cond) ∈ WT := wt (tbin_4 _ (List.mem_of_getElem? (i := 181) rfl)) rfl
theorem co_X4_firstOfOthers : (Cond.code yX4_firstOfOthers cX4_firstOfOthers 5 (some .int) : Cond) ∈ WT := wt (tbin_4 _ (List.mem_of_getElem? (i := 182) rfl)) rfl
theorem ml_L_136 : (Cond.methodLink RL 136 yX8_owed : Cond) ∈ WT := wt (tbin_7 _ (List.mem_of_getElem? (i := 47) rfl)) rfl
theorem im_X8_owed : (Cond.instanceMethod yX8_owed : Cond) ∈ WT := wt (tbin_7 _ (List.mem_of_getElem? (i := 48) rfl)) rfl
theorem se_X8_owed : (Cond.selects RX8 yX8_owed yX8_owed : Cond) ∈ WT := wt (tbin_7 _ (List.mem_of_getElem? (i := 49) rfl)) rfl
theorem co_X8_owed : (Cond.code yX8_owed cX8_owed 8 (some .int) : Cond) ∈ WT := wt (tbin_7 _ (List.mem_of_getElem? (i := 50) rfl)) rfl
theorem ml_L_137 : (Cond.methodLink RL 137 yX7_street : Cond) ∈ WT := wt (tbin_4 _ (List.mem_of_getElem? (i := 183) rfl)) rfl
theorem im_X7_street : (Cond.instanceMethod yX7_street : Cond) ∈ WT := wt (tbin_4 _ (List.mem_of_getElem? (i := 184) rfl)) rfl
theorem se_X7_street : (Cond.selects RX7 yX7_street yX7_street : Cond) ∈ WT := wt (tbin_4 _ (List.mem_of_getElem? (i := 185) rfl)) rfl
theorem co_X7_street : (Cond.code yX7_street cX7_street 4 (some .int) : Cond) ∈ WT := wt (tbin_4 _ (List.mem_of_getElem? (i := 186) rfl)) rfl
theorem fl_X7_286 : (Cond.fieldLink RX7 286 "CornerWinds$State" "streets" "LCornerWinds$Table;" : Cond) ∈ WT := wt (tbin_1 _ (List.mem_of_getElem? (i := 92) rfl)) rfl
theorem ml_L_140 : (Cond.methodLink RL 140 yX8_street : Cond) ∈ WT := wt (tbin_7 _ (List.mem_of_getElem? (i := 51) rfl)) rfl
theorem im_X8_street : (Cond.instanceMethod yX8_street : Cond) ∈ WT := wt (tbin_7 _ (List.mem_of_getElem? (i := 52) rfl)) rfl
theorem se_X8_street : (Cond.selects RX8 yX8_street yX8_street : Cond) ∈ WT := wt (tbin_7 _ (List.mem_of_getElem? (i := 53) rfl)) rfl
theorem co_X8_street : (Cond.code yX8_street cX8_street 5 (some .int) : Cond) ∈ WT := wt (tbin_7 _ (List.mem_of_getElem? (i := 54) rfl)) rfl
theorem ml_L_141 : (Cond.methodLink RL 141 yX7_under : Cond) ∈ WT := wt (tbin_4 _ (List.mem_of_getElem? (i := 187) rfl)) rfl
theorem im_X7_under : (Cond.instanceMethod yX7_under : Cond) ∈ WT := wt (tbin_4 _ (List.mem_of_getElem? (i := 188) rfl)) rfl
theorem se_X7_under : (Cond.selects RX7 yX7_under yX7_under : Cond) ∈ WT := wt (tbin_4 _ (List.mem_of_getElem? (i := 189) rfl)) rfl
theorem co_X7_under : (Cond.code yX7_under cX7_under 3 (some .int) : Cond) ∈ WT := wt (tbin_4 _ (List.mem_of_getElem? (i := 190) rfl)) rfl
theorem ml_X7_289 : (Cond.methodLink RX7 289 yX4_peopleUnder : Cond) ∈ WT := wt (tbin_4 _ (List.mem_of_getElem? (i := 191) rfl)) rfl
theorem im_X4_peopleUnder : (Cond.instanceMethod yX4_peopleUnder : Cond) ∈ WT := wt (tbin_4 _ (List.mem_of_getElem? (i := 192) rfl)) rfl
theorem se_X4_peopleUnder : (Cond.selects RX4 yX4_peopleUnder yX4_peopleUnder : Cond) ∈ WT := wt (tbin_4 _ (List.mem_of_getElem? (i := 193) rfl)) rfl
theorem co_X4_peopleUnder : (Cond.code yX4_peopleUnder cX4_peopleUnder 7 (some .int) : Cond) ∈ WT := wt (tbin_4 _ (List.mem_of_getElem? (i := 194) rfl)) rfl
theorem ml_L_144 : (Cond.methodLink RL 144 yX8_under : Cond) ∈ WT := wt (tbin_7 _ (List.mem_of_getElem? (i := 55) rfl)) rfl
theorem im_X8_under : (Cond.instanceMethod yX8_under : Cond) ∈ WT := wt (tbin_7 _ (List.mem_of_getElem? (i := 56) rfl)) rfl
theorem se_X8_under : (Cond.selects RX8 yX8_under yX8_under : Cond) ∈ WT := wt (tbin_7 _ (List.mem_of_getElem? (i := 57) rfl)) rfl
theorem co_X8_under : (Cond.code yX8_under cX8_under 8 (some .int) : Cond) ∈ WT := wt (tbin_7 _ (List.mem_of_getElem? (i := 58) rfl)) rfl
theorem ml_L_145 : (Cond.methodLink RL 145 yX7_row : Cond) ∈ WT := wt (tbin_4 _ (List.mem_of_getElem? (i := 195) rfl)) rfl
theorem im_X7_row : (Cond.instanceMethod yX7_row : Cond) ∈ WT := wt (tbin_4 _ (List.mem_of_getElem? (i := 196) rfl)) rfl
theorem se_X7_row : (Cond.selects RX7 yX7_row yX7_row : Cond) ∈ WT := wt (tbin_4 _ (List.mem_of_getElem? (i := 197) rfl)) rfl
theorem co_X7_row : (Cond.code yX7_row cX7_row 4 (some .int) : Cond) ∈ WT := wt (tbin_4 _ (List.mem_of_getElem? (i := 198) rfl)) rfl
theorem fl_X7_292 : (Cond.fieldLink RX7 292 "CornerWinds$State" "storms" "LCornerWinds$Table;" : Cond) ∈ WT := wt (tbin_1 _ (List.mem_of_getElem? (i := 94) rfl)) rfl
theorem ml_L_148 : (Cond.methodLink RL 148 yX8_row : Cond) ∈ WT := wt (tbin_7 _ (List.mem_of_getElem? (i := 59) rfl)) rfl
theorem im_X8_row : (Cond.instanceMethod yX8_row : Cond) ∈ WT := wt (tbin_7 _ (List.mem_of_getElem? (i := 60) rfl)) rfl
theorem se_X8_row : (Cond.selects RX8 yX8_row yX8_row : Cond) ∈ WT := wt (tbin_7 _ (List.mem_of_getElem? (i := 61) rfl)) rfl
theorem co_X8_row : (Cond.code yX8_row cX8_row 6 (some .int) : Cond) ∈ WT := wt (tbin_7 _ (List.mem_of_getElem? (i := 62) rfl)) rfl
theorem ml_L_149 : (Cond.methodLink RL 149 yX7_call : Cond) ∈ WT := wt (tbin_4 _ (List.mem_of_getElem? (i := 199) rfl)) rfl
theorem im_X7_call : (Cond.instanceMethod yX7_call : Cond) ∈ WT := wt (tbin_4 _ (List.mem_of_getElem? (i := 200) rfl)) rfl
theorem se_X7_call : (Cond.selects RX7 yX7_call yX7_call : Cond) ∈ WT := wt (tbin_4 _ (List.mem_of_getElem? (i := 201) rfl)) rfl
theorem co_X7_call : (Cond.code yX7_call cX7_call 2 (some .int) : Cond) ∈ WT := wt (tbin_4 _ (List.mem_of_getElem? (i := 202) rfl)) rfl
theorem ml_X7_295 : (Cond.methodLink RX7 295 yX4_costAt : Cond) ∈ WT := wt (tbin_4 _ (List.mem_of_getElem? (i := 203) rfl)) rfl
theorem im_X4_costAt : (Cond.instanceMethod yX4_costAt : Cond) ∈ WT := wt (tbin_4 _ (List.mem_of_getElem? (i := 204) rfl)) rfl
theorem se_X4_costAt : (Cond.selects RX4 yX4_costAt yX4_costAt : Cond) ∈ WT := wt (tbin_4 _ (List.mem_of_getElem? (i := 205) rfl)) rfl
theorem co_X4_costAt : (Cond.code yX4_costAt cX4_costAt 5 (some .int) : Cond) ∈ WT := wt (tbin_4 _ (List.mem_of_getElem? (i := 206) rfl)) rfl
theorem ml_X4_96 : (Cond.methodLink RX4 96 yX4_hoursLeft : Cond) ∈ WT := wt (tbin_4 _ (List.mem_of_getElem? (i := 207) rfl)) rfl
theorem im_X4_hoursLeft : (Cond.instanceMethod yX4_hoursLeft : Cond) ∈ WT := wt (tbin_4 _ (List.mem_of_getElem? (i := 209) rfl)) rfl
theorem se_X4_hoursLeft : (Cond.selects RX4 yX4_hoursLeft yX4_hoursLeft : Cond) ∈ WT := wt (tbse _ (List.mem_of_getElem? (i := 41) rfl)) rfl
theorem co_X4_hoursLeft : (Cond.code yX4_hoursLeft cX4_hoursLeft 5 (some .int) : Cond) ∈ WT := wt (tbin_4 _ (List.mem_of_getElem? (i := 210) rfl)) rfl
theorem ml_L_152 : (Cond.methodLink RL 152 yX8_call : Cond) ∈ WT := wt (tbin_7 _ (List.mem_of_getElem? (i := 63) rfl)) rfl
theorem im_X8_call : (Cond.instanceMethod yX8_call : Cond) ∈ WT := wt (tbin_7 _ (List.mem_of_getElem? (i := 64) rfl)) rfl
theorem se_X8_call : (Cond.selects RX8 yX8_call yX8_call : Cond) ∈ WT := wt (tbin_7 _ (List.mem_of_getElem? (i := 65) rfl)) rfl
theorem co_X8_call : (Cond.code yX8_call cX8_call 2 (some .int) : Cond) ∈ WT := wt (tbin_7 _ (List.mem_of_getElem? (i := 66) rfl)) rfl
theorem ml_X8_368 : (Cond.methodLink RX8 368 yX8_callOf : Cond) ∈ WT := wt (tbin_7 _ (List.mem_of_getElem? (i := 67) rfl)) rfl
theorem im_X8_callOf : (Cond.instanceMethod yX8_callOf : Cond) ∈ WT := wt (tbin_7 _ (List.mem_of_getElem? (i := 69) rfl)) rfl
theorem se_X8_callOf : (Cond.selects RX8 yX8_callOf yX8_callOf : Cond) ∈ WT := wt (tbse _ (List.mem_of_getElem? (i := 94) rfl)) rfl
theorem co_X8_callOf : (Cond.code yX8_callOf cX8_callOf 7 (some .int) : Cond) ∈ WT := wt (tbin_7 _ (List.mem_of_getElem? (i := 70) rfl)) rfl
theorem ml_L_153 : (Cond.methodLink RL 153 yX7_when : Cond) ∈ WT := wt (tbin_4 _ (List.mem_of_getElem? (i := 211) rfl)) rfl
theorem im_X7_when : (Cond.instanceMethod yX7_when : Cond) ∈ WT := wt (tbin_4 _ (List.mem_of_getElem? (i := 212) rfl)) rfl
theorem se_X7_when : (Cond.selects RX7 yX7_when yX7_when : Cond) ∈ WT := wt (tbin_4 _ (List.mem_of_getElem? (i := 213) rfl)) rfl
theorem co_X7_when : (Cond.code yX7_when cX7_when 5 (some .int) : Cond) ∈ WT := wt (tbin_4 _ (List.mem_of_getElem? (i := 214) rfl)) rfl
theorem ml_L_156 : (Cond.methodLink RL 156 yX8_when : Cond) ∈ WT := wt (tbin_7 _ (List.mem_of_getElem? (i := 71) rfl)) rfl
theorem im_X8_when : (Cond.instanceMethod yX8_when : Cond) ∈ WT := wt (tbin_7 _ (List.mem_of_getElem? (i := 72) rfl)) rfl
theorem se_X8_when : (Cond.selects RX8 yX8_when yX8_when : Cond) ∈ WT := wt (tbin_7 _ (List.mem_of_getElem? (i := 73) rfl)) rfl
theorem co_X8_when : (Cond.code yX8_when cX8_when 3 (some .int) : Cond) ∈ WT := wt (tbin_7 _ (List.mem_of_getElem? (i := 74) rfl)) rfl
theorem ml_L_157 : (Cond.methodLink RL 157 yX7_tower : Cond) ∈ WT := wt (tbin_4 _ (List.mem_of_getElem? (i := 215) rfl)) rfl
theorem im_X7_tower : (Cond.instanceMethod yX7_tower : Cond) ∈ WT := wt (tbin_4 _ (List.mem_of_getElem? (i := 216) rfl)) rfl
theorem se_X7_tower : (Cond.selects RX7 yX7_tower yX7_tower : Cond) ∈ WT := wt (tbin_4 _ (List.mem_of_getElem? (i := 217) rfl)) rfl
theorem co_X7_tower : (Cond.code yX7_tower cX7_tower 6 (some .int) : Cond) ∈ WT := wt (tbin_4 _ (List.mem_of_getElem? (i := 218) rfl)) rfl
theorem fl_X7_298 : (Cond.fieldLink RX7 298 "CornerWinds$State" "towers" "LCornerWinds$Table;" : Cond) ∈ WT := wt (tbin_1 _ (List.mem_of_getElem? (i := 97) rfl)) rfl
theorem ml_L_160 : (Cond.methodLink RL 160 yX8_tower : Cond) ∈ WT := wt (tbin_7 _ (List.mem_of_getElem? (i := 75) rfl)) rfl
theorem im_X8_tower : (Cond.instanceMethod yX8_tower : Cond) ∈ WT := wt (tbin_7 _ (List.mem_of_getElem? (i := 76) rfl)) rfl
theorem se_X8_tower : (Cond.selects RX8 yX8_tower yX8_tower : Cond) ∈ WT := wt (tbin_7 _ (List.mem_of_getElem? (i := 77) rfl)) rfl
theorem co_X8_tower : (Cond.code yX8_tower cX8_tower 8 (some .int) : Cond) ∈ WT := wt (tbin_7 _ (List.mem_of_getElem? (i := 78) rfl)) rfl
theorem ml_L_161 : (Cond.methodLink RL 161 yX7_first : Cond) ∈ WT := wt (tbin_4 _ (List.mem_of_getElem? (i := 219) rfl)) rfl
theorem im_X7_first : (Cond.instanceMethod yX7_first : Cond) ∈ WT := wt (tbin_4 _ (List.mem_of_getElem? (i := 220) rfl)) rfl
theorem se_X7_first : (Cond.selects RX7 yX7_first yX7_first : Cond) ∈ WT := wt (tbin_4 _ (List.mem_of_getElem? (i := 221) rfl)) rfl
theorem co_X7_first : (Cond.code yX7_first cX7_first 7 (some .int) : Cond) ∈ WT := wt (tbin_4 _ (List.mem_of_getElem? (i := 222) rfl)) rfl
theorem ml_X7_301 : (Cond.methodLink RX7 301 yX0_faceTower : Cond) ∈ WT := wt (tbin_4 _ (List.mem_of_getElem? (i := 223) rfl)) rfl
theorem im_X0_faceTower : (Cond.instanceMethod yX0_faceTower : Cond) ∈ WT := wt (tbin_4 _ (List.mem_of_getElem? (i := 224) rfl)) rfl
theorem se_X0_faceTower : (Cond.selects RX0 yX0_faceTower yX0_faceTower : Cond) ∈ WT := wt (tbin_4 _ (List.mem_of_getElem? (i := 225) rfl)) rfl
theorem co_X0_faceTower : (Cond.code yX0_faceTower cX0_faceTower 3 none : Cond) ∈ WT := wt (tbin_4 _ (List.mem_of_getElem? (i := 226) rfl)) rfl
theorem fl_X0_56 : (Cond.fieldLink RX0 56 "CornerWinds$State" "towers" "LCornerWinds$Table;" : Cond) ∈ WT := wt (tbin_1 _ (List.mem_of_getElem? (i := 96) rfl)) rfl
theorem ml_X0_60 : (Cond.methodLink RX0 60 yX5_cell : Cond) ∈ WT := wt (tbin_4 _ (List.mem_of_getElem? (i := 227) rfl)) rfl
theorem ml_L_164 : (Cond.methodLink RL 164 yX8_first : Cond) ∈ WT := wt (tbin_7 _ (List.mem_of_getElem? (i := 79) rfl)) rfl
theorem im_X8_first : (Cond.instanceMethod yX8_first : Cond) ∈ WT := wt (tbin_7 _ (List.mem_of_getElem? (i := 80) rfl)) rfl
theorem se_X8_first : (Cond.selects RX8 yX8_first yX8_first : Cond) ∈ WT := wt (tbin_7 _ (List.mem_of_getElem? (i := 81) rfl)) rfl
theorem co_X8_first : (Cond.code yX8_first cX8_first 7 (some .int) : Cond) ∈ WT := wt (tbin_7 _ (List.mem_of_getElem? (i := 82) rfl)) rfl
theorem ml_L_165 : (Cond.methodLink RL 165 yX7_image : Cond) ∈ WT := wt (tbin_4 _ (List.mem_of_getElem? (i := 228) rfl)) rfl
theorem im_X7_image : (Cond.instanceMethod yX7_image : Cond) ∈ WT := wt (tbin_4 _ (List.mem_of_getElem? (i := 229) rfl)) rfl
theorem se_X7_image : (Cond.selects RX7 yX7_image yX7_image : Cond) ∈ WT := wt (tbin_4 _ (List.mem_of_getElem? (i := 230) rfl)) rfl
theorem co_X7_image : (Cond.code yX7_image cX7_image 3 (some .int) : Cond) ∈ WT := wt (tbin_4 _ (List.mem_of_getElem? (i := 231) rfl)) rfl
theorem ml_X7_313 : (Cond.methodLink RX7 313 yX4_become : Cond) ∈ WT := wt (tbin_4 _ (List.mem_of_getElem? (i := 232) rfl)) rfl
theorem im_X4_become : (Cond.instanceMethod yX4_become : Cond) ∈ WT := wt (tbin_4 _ (List.mem_of_getElem? (i := 233) rfl)) rfl
theorem se_X4_become : (Cond.selects RX4 yX4_become yX4_become : Cond) ∈ WT := wt (tbin_4 _ (List.mem_of_getElem? (i := 234) rfl)) rfl
theorem co_X4_become : (Cond.code yX4_become cX4_become 3 none : Cond) ∈ WT := wt (tbin_4 _ (List.mem_of_getElem? (i := 235) rfl)) rfl
theorem ml_X4_79 : (Cond.methodLink RX4 79 yX5_become : Cond) ∈ WT := wt (tbin_4 _ (List.mem_of_getElem? (i := 236) rfl)) rfl
theorem im_X5_become : (Cond.instanceMethod yX5_become : Cond) ∈ WT := wt (tbin_4 _ (List.mem_of_getElem? (i := 237) rfl)) rfl
theorem se_X5_become : (Cond.selects RX5 yX5_become yX5_become : Cond) ∈ WT := wt (tbin_4 _ (List.mem_of_getElem? (i := 238) rfl)) rfl
theorem co_X5_become : (Cond.code yX5_become cX5_become 3 none : Cond) ∈ WT := wt (tbin_4 _ (List.mem_of_getElem? (i := 239) rfl)) rfl
theorem ml_X5_24 : (Cond.methodLink RX5 24 Lib.Math.min.name : Cond) ∈ WT := wt (tbin_5 _ (List.mem_of_getElem? (i := 0) rfl)) rfl
theorem ml_X5_30 : (Cond.methodLink RX5 30 arraycopyName : Cond) ∈ WT := wt (tbin_5 _ (List.mem_of_getElem? (i := 1) rfl)) rfl
theorem ml_L_168 : (Cond.methodLink RL 168 yX8_image : Cond) ∈ WT := wt (tbin_5 _ (List.mem_of_getElem? (i := 158) rfl)) rfl
theorem im_X8_image : (Cond.instanceMethod yX8_image : Cond) ∈ WT := wt (tbin_5 _ (List.mem_of_getElem? (i := 159) rfl)) rfl
theorem se_X8_image : (Cond.selects RX8 yX8_image yX8_image : Cond) ∈ WT := wt (tbin_5 _ (List.mem_of_getElem? (i := 160) rfl)) rfl
theorem co_X8_image : (Cond.code yX8_image cX8_image 3 (some .int) : Cond) ∈ WT := wt (tbin_5 _ (List.mem_of_getElem? (i := 161) rfl)) rfl
theorem ml_L_169 : (Cond.methodLink RL 169 yX7_back : Cond) ∈ WT := wt (tbin_5 _ (List.mem_of_getElem? (i := 2) rfl)) rfl
theorem im_X7_back : (Cond.instanceMethod yX7_back : Cond) ∈ WT := wt (tbin_5 _ (List.mem_of_getElem? (i := 3) rfl)) rfl
theorem se_X7_back : (Cond.selects RX7 yX7_back yX7_back : Cond) ∈ WT := wt (tbin_5 _ (List.mem_of_getElem? (i := 4) rfl)) rfl
theorem co_X7_back : (Cond.code yX7_back cX7_back 3 (some .int) : Cond) ∈ WT := wt (tbin_5 _ (List.mem_of_getElem? (i := 5) rfl)) rfl
theorem ml_L_172 : (Cond.methodLink RL 172 yX8_back : Cond) ∈ WT := wt (tbin_5 _ (List.mem_of_getElem? (i := 173) rfl)) rfl
theorem im_X8_back : (Cond.instanceMethod yX8_back : Cond) ∈ WT := wt (tbin_5 _ (List.mem_of_getElem? (i := 174) rfl)) rfl
theorem se_X8_back : (Cond.selects RX8 yX8_back yX8_back : Cond) ∈ WT := wt (tbin_5 _ (List.mem_of_getElem? (i := 175) rfl)) rfl
theorem co_X8_back : (Cond.code yX8_back cX8_back 3 (some .int) : Cond) ∈ WT := wt (tbin_5 _ (List.mem_of_getElem? (i := 176) rfl)) rfl
theorem ml_L_173 : (Cond.methodLink RL 173 yX7_count : Cond) ∈ WT := wt (tbin_5 _ (List.mem_of_getElem? (i := 6) rfl)) rfl
theorem im_X7_count : (Cond.instanceMethod yX7_count : Cond) ∈ WT := wt (tbin_5 _ (List.mem_of_getElem? (i := 7) rfl)) rfl
theorem se_X7_count : (Cond.selects RX7 yX7_count yX7_count : Cond) ∈ WT := wt (tbin_5 _ (List.mem_of_getElem? (i := 8) rfl)) rfl
theorem co_X7_count : (Cond.code yX7_count cX7_count 2 (some .int) : Cond) ∈ WT := wt (tbin_5 _ (List.mem_of_getElem? (i := 9) rfl)) rfl
theorem ml_L_176 : (Cond.methodLink RL 176 yX8_count : Cond) ∈ WT := wt (tbin_7 _ (List.mem_of_getElem? (i := 83) rfl)) rfl
theorem im_X8_count : (Cond.instanceMethod yX8_count : Cond) ∈ WT := wt (tbin_7 _ (List.mem_of_getElem? (i := 84) rfl)) rfl
theorem se_X8_count : (Cond.selects RX8 yX8_count yX8_count : Cond) ∈ WT := wt (tbin_7 _ (List.mem_of_getElem? (i := 85) rfl)) rfl
theorem co_X8_count : (Cond.code yX8_count cX8_count 2 (some .int) : Cond) ∈ WT := wt (tbin_7 _ (List.mem_of_getElem? (i := 86) rfl)) rfl
theorem ml_L_177 : (Cond.methodLink RL 177 yX7_status : Cond) ∈ WT := wt (tbin_5 _ (List.mem_of_getElem? (i := 10) rfl)) rfl
theorem im_X7_status : (Cond.instanceMethod yX7_status : Cond) ∈ WT := wt (tbin_5 _ (List.mem_of_getElem? (i := 11) rfl)) rfl
theorem se_X7_status : (Cond.selects RX7 yX7_status yX7_status : Cond) ∈ WT := wt (tbin_5 _ (List.mem_of_getElem? (i := 12) rfl)) rfl
theorem co_X7_status : (Cond.code yX7_status cX7_status 1 (some .int) : Cond) ∈ WT := wt (tbin_5 _ (List.mem_of_getElem? (i := 13) rfl)) rfl
theorem ml_L_180 : (Cond.methodLink RL 180 yX8_status : Cond) ∈ WT := wt (tbin_7 _ (List.mem_of_getElem? (i := 87) rfl)) rfl
theorem im_X8_status : (Cond.instanceMethod yX8_status : Cond) ∈ WT := wt (tbin_7 _ (List.mem_of_getElem? (i := 88) rfl)) rfl
theorem se_X8_status : (Cond.selects RX8 yX8_status yX8_status : Cond) ∈ WT := wt (tbin_7 _ (List.mem_of_getElem? (i := 89) rfl)) rfl
theorem co_X8_status : (Cond.code yX8_status cX8_status 1 (some .int) : Cond) ∈ WT := wt (tbin_7 _ (List.mem_of_getElem? (i := 90) rfl)) rfl
theorem inTX0 : ∀ w ∈ wsX00, w ∈ lw_tbl := by decide +kernel
theorem inlX0 : ∀ w ∈ wsX00, w ∈ WT := fun w h => wt (inTX0 w h) (List.all_eq_true.mp (show wsX00.all goodWord = true by decide +kernel) w h)
theorem inTX1 : ∀ w ∈ wsX10, w ∈ lw_tbl := by decide +kernel
theorem inlX1 : ∀ w ∈ wsX10, w ∈ WT := fun w h => wt (inTX1 w h) (List.all_eq_true.mp (show wsX10.all goodWord = true by decide +kernel) w h)
theorem inTX2 : ∀ w ∈ wsX20, w ∈ lw_tbl := by decide +kernel
theorem inlX2 : ∀ w ∈ wsX20, w ∈ WT := fun w h => wt (inTX2 w h) (List.all_eq_true.mp (show wsX20.all goodWord = true by decide +kernel) w h)
theorem inTX3 : ∀ w ∈ wsX30, w ∈ lw_tbl := by decide +kernel
theorem inlX3 : ∀ w ∈ wsX30, w ∈ WT := fun w h => wt (inTX3 w h) (List.all_eq_true.mp (show wsX30.all goodWord = true by decide +kernel) w h)
theorem inTX4 : ∀ w ∈ wsX40, w ∈ lw_tbl := by decide +kernel
theorem inlX4 : ∀ w ∈ wsX40, w ∈ WT := fun w h => wt (inTX4 w h) (List.all_eq_true.mp (show wsX40.all goodWord = true by decide +kernel) w h)
theorem inTX5 : ∀ w ∈ wsX50, w ∈ lw_tbl := by decide +kernel
theorem inlX5 : ∀ w ∈ wsX50, w ∈ WT := fun w h => wt (inTX5 w h) (List.all_eq_true.mp (show wsX50.all goodWord = true by decide +kernel) w h)
theorem inTX6 : ∀ w ∈ wsX60, w ∈ lw_tbl := by decide +kernel
theorem inlX6 : ∀ w ∈ wsX60, w ∈ WT := fun w h => wt (inTX6 w h) (List.all_eq_true.mp (show wsX60.all goodWord = true by decide +kernel) w h)
theorem inTX7 : ∀ w ∈ wsX70, w ∈ lw_tbl := by decide +kernel
theorem inlX7 : ∀ w ∈ wsX70, w ∈ WT := fun w h => wt (inTX7 w h) (List.all_eq_true.mp (show wsX70.all goodWord = true by decide +kernel) w h)
theorem inTX8 : ∀ w ∈ wsX80, w ∈ lw_tbl := by decide +kernel
theorem inlX8 : ∀ w ∈ wsX80, w ∈ WT := fun w h => wt (inTX8 w h) (List.all_eq_true.mp (show wsX80.all goodWord = true by decide +kernel) w h)
theorem inTJx8e188 : ∀ w ∈ wsJx8e1880, w ∈ lw_tbl := by decide +kernel
theorem inlJx8e188 : ∀ w ∈ wsJx8e1880, w ∈ WT := fun w h => wt (inTJx8e188 w h) (List.all_eq_true.mp (show wsJx8e1880.all goodWord = true by decide +kernel) w h)
theorem inTJ6 : ∀ w ∈ wsJ60, w ∈ lw_tbl := by decide +kernel
theorem inlJ6 : ∀ w ∈ wsJ60, w ∈ WT := fun w h => wt (inTJ6 w h) (List.all_eq_true.mp (show wsJ60.all goodWord = true by decide +kernel) w h)
theorem inTJ9 : ∀ w ∈ wsJ90, w ∈ lw_tbl := by decide +kernel
theorem inlJ9 : ∀ w ∈ wsJ90, w ∈ WT := fun w h => wt (inTJ9 w h) (List.all_eq_true.mp (show wsJ90.all goodWord = true by decide +kernel) w h)
theorem inTJ0 : ∀ w ∈ wsJ00, w ∈ lw_tbl := by decide +kernel
theorem inlJ0 : ∀ w ∈ wsJ00, w ∈ WT := fun w h => wt (inTJ0 w h) (List.all_eq_true.mp (show wsJ00.all goodWord = true by decide +kernel) w h)
theorem inTJ1 : ∀ w ∈ wsJ10, w ∈ lw_tbl := by decide +kernel
theorem inlJ1 : ∀ w ∈ wsJ10, w ∈ WT := fun w h => wt (inTJ1 w h) (List.all_eq_true.mp (show wsJ10.all goodWord = true by decide +kernel) w h)
theorem inTJ2 : ∀ w ∈ wsJ20, w ∈ lw_tbl := by decide +kernel
theorem inlJ2 : ∀ w ∈ wsJ20, w ∈ WT := fun w h => wt (inTJ2 w h) (List.all_eq_true.mp (show wsJ20.all goodWord = true by decide +kernel) w h)
theorem inTJ10 : ∀ w ∈ wsJ100, w ∈ lw_tbl := by decide +kernel
theorem inlJ10 : ∀ w ∈ wsJ100, w ∈ WT := fun w h => wt (inTJ10 w h) (List.all_eq_true.mp (show wsJ100.all goodWord = true by decide +kernel) w h)
theorem inTJ7 : ∀ w ∈ wsJ70, w ∈ lw_tbl := by decide +kernel
theorem inlJ7 : ∀ w ∈ wsJ70, w ∈ WT := fun w h => wt (inTJ7 w h) (List.all_eq_true.mp (show wsJ70.all goodWord = true by decide +kernel) w h)
theorem inTJ3 : ∀ w ∈ wsJ30, w ∈ lw_tbl := by decide +kernel
theorem inlJ3 : ∀ w ∈ wsJ30, w ∈ WT := fun w h => wt (inTJ3 w h) (List.all_eq_true.mp (show wsJ30.all goodWord = true by decide +kernel) w h)
