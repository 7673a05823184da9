/-! LINKS (made by wip/gen/links.py): fields, calls, classes, constants: words of the tables by their places -/
set_option maxRecDepth 100000 in
theorem uw_Ask : ∀ w ∈ u_ws R_Ask F_Ask 1, w ∈ a_w0 := fun w hw => a_w0_in (List.mem_append_right _ ((by decide +kernel : ∀ w ∈ u_ws R_Ask F_Ask 1, w ∈ tables_1) w hw)) ((by decide +kernel : ∀ w ∈ u_ws R_Ask F_Ask 1, goodWord w = true) w hw)
set_option maxRecDepth 100000 in
theorem uw_Box : ∀ w ∈ u_ws R_Box F_Box 9, w ∈ a_w0 := fun w hw => a_w0_in (List.mem_append_right _ ((by decide +kernel : ∀ w ∈ u_ws R_Box F_Box 9, w ∈ tables_1) w hw)) ((by decide +kernel : ∀ w ∈ u_ws R_Box F_Box 9, goodWord w = true) w hw)
set_option maxRecDepth 100000 in
theorem uw_Len : ∀ w ∈ u_ws R_Len F_Len 11, w ∈ a_w0 := fun w hw => a_w0_in (List.mem_append_right _ ((by decide +kernel : ∀ w ∈ u_ws R_Len F_Len 11, w ∈ tables_1) w hw)) ((by decide +kernel : ∀ w ∈ u_ws R_Len F_Len 11, goodWord w = true) w hw)
set_option maxRecDepth 100000 in
theorem uw_Lik : ∀ w ∈ u_ws R_Lik F_Lik 2, w ∈ a_w0 := fun w hw => a_w0_in (List.mem_append_right _ ((by decide +kernel : ∀ w ∈ u_ws R_Lik F_Lik 2, w ∈ tables_1) w hw)) ((by decide +kernel : ∀ w ∈ u_ws R_Lik F_Lik 2, goodWord w = true) w hw)
set_option maxRecDepth 100000 in
theorem uw_Pla : ∀ w ∈ u_ws R_Pla F_Pla 8, w ∈ a_w0 := fun w hw => a_w0_in (List.mem_append_right _ ((by decide +kernel : ∀ w ∈ u_ws R_Pla F_Pla 8, w ∈ tables_1) w hw)) ((by decide +kernel : ∀ w ∈ u_ws R_Pla F_Pla 8, goodWord w = true) w hw)
set_option maxRecDepth 100000 in
theorem uw_Rea : ∀ w ∈ u_ws R_Rea F_Rea 8, w ∈ a_w0 := fun w hw => a_w0_in (List.mem_append_right _ ((by decide +kernel : ∀ w ∈ u_ws R_Rea F_Rea 8, w ∈ tables_1) w hw)) ((by decide +kernel : ∀ w ∈ u_ws R_Rea F_Rea 8, goodWord w = true) w hw)
set_option maxRecDepth 100000 in
theorem uw_Row : ∀ w ∈ u_ws R_Row F_Row 8, w ∈ a_w0 := fun w hw => a_w0_in (List.mem_append_right _ ((by decide +kernel : ∀ w ∈ u_ws R_Row F_Row 8, w ∈ tables_1) w hw)) ((by decide +kernel : ∀ w ∈ u_ws R_Row F_Row 8, goodWord w = true) w hw)
set_option maxRecDepth 100000 in
theorem uw_Tab : ∀ w ∈ u_ws R_Tab F_Tab 11, w ∈ a_w0 := fun w hw => a_w0_in (List.mem_append_right _ ((by decide +kernel : ∀ w ∈ u_ws R_Tab F_Tab 11, w ∈ tables_1) w hw)) ((by decide +kernel : ∀ w ∈ u_ws R_Tab F_Tab 11, goodWord w = true) w hw)
set_option maxRecDepth 100000 in
theorem uw_Way : ∀ w ∈ u_ws R_Way F_Way 9, w ∈ a_w0 := fun w hw => a_w0_in (List.mem_append_right _ ((by decide +kernel : ∀ w ∈ u_ws R_Way F_Way 9, w ∈ tables_1) w hw)) ((by decide +kernel : ∀ w ∈ u_ws R_Way F_Way 9, goodWord w = true) w hw)
set_option maxRecDepth 100000 in
theorem uw_Led : ∀ w ∈ u_ws R_Led F_Led 10, w ∈ a_w0 := fun w hw => a_w0_in (List.mem_append_right _ ((by decide +kernel : ∀ w ∈ u_ws R_Led F_Led 10, w ∈ tables_1) w hw)) ((by decide +kernel : ∀ w ∈ u_ws R_Led F_Led 10, goodWord w = true) w hw)
set_option maxRecDepth 100000 in
theorem uw_Mod : ∀ w ∈ u_ws R_Mod F_Mod 61, w ∈ a_w0 := fun w hw => a_w0_in (List.mem_append_right _ ((by decide +kernel : ∀ w ∈ u_ws R_Mod F_Mod 61, w ∈ tables_1) w hw)) ((by decide +kernel : ∀ w ∈ u_ws R_Mod F_Mod 61, goodWord w = true) w hw)
theorem w_43 : Cond.fieldLink "LedTables$Lens" 11 "LedTables$Lens" "orders" "[I" ∈ a_w0 := a_w0_in (List.mem_append_right _ (List.mem_of_getElem? (i := 43) (by decide +kernel))) rfl
theorem fl_Len_11 : a_fl R_Len 11 2 0 := ⟨R_Len, F_Len, 11, rfl, by decide, rfl, w_43, uw_Len, t_Len_ok, n_Len⟩
theorem w_44 : Cond.fieldLink "LedTables$Lens" 15 "LedTables$Lens" "operands" "[I" ∈ a_w0 := a_w0_in (List.mem_append_right _ (List.mem_of_getElem? (i := 44) (by decide +kernel))) rfl
theorem fl_Len_15 : a_fl R_Len 15 2 1 := ⟨R_Len, F_Len, 11, rfl, by decide, rfl, w_44, uw_Len, t_Len_ok, n_Len⟩
theorem w_45 : Cond.fieldLink "LedTables$Lens" 41 "LedTables$Lens" "used" "I" ∈ a_w0 := a_w0_in (List.mem_append_right _ (List.mem_of_getElem? (i := 45) (by decide +kernel))) rfl
theorem fl_Len_41 : a_fl R_Len 41 2 2 := ⟨R_Len, F_Len, 11, rfl, by decide, rfl, w_45, uw_Len, t_Len_ok, n_Len⟩
theorem w_46 : Cond.fieldLink "LedTables$Lens" 18 "LedTables$Lens" "starts" "[I" ∈ a_w0 := a_w0_in (List.mem_append_right _ (List.mem_of_getElem? (i := 46) (by decide +kernel))) rfl
theorem fl_Len_18 : a_fl R_Len 18 2 3 := ⟨R_Len, F_Len, 11, rfl, by decide, rfl, w_46, uw_Len, t_Len_ok, n_Len⟩
theorem w_47 : Cond.fieldLink "LedTables$Lens" 21 "LedTables$Lens" "ends" "[I" ∈ a_w0 := a_w0_in (List.mem_append_right _ (List.mem_of_getElem? (i := 47) (by decide +kernel))) rfl
theorem fl_Len_21 : a_fl R_Len 21 2 4 := ⟨R_Len, F_Len, 11, rfl, by decide, rfl, w_47, uw_Len, t_Len_ok, n_Len⟩
theorem w_48 : Cond.fieldLink "LedTables$Lens" 24 "LedTables$Lens" "lawStarts" "[I" ∈ a_w0 := a_w0_in (List.mem_append_right _ (List.mem_of_getElem? (i := 48) (by decide +kernel))) rfl
theorem fl_Len_24 : a_fl R_Len 24 2 5 := ⟨R_Len, F_Len, 11, rfl, by decide, rfl, w_48, uw_Len, t_Len_ok, n_Len⟩
theorem w_49 : Cond.fieldLink "LedTables$Lens" 27 "LedTables$Lens" "lawEnds" "[I" ∈ a_w0 := a_w0_in (List.mem_append_right _ (List.mem_of_getElem? (i := 49) (by decide +kernel))) rfl
theorem fl_Len_27 : a_fl R_Len 27 2 6 := ⟨R_Len, F_Len, 11, rfl, by decide, rfl, w_49, uw_Len, t_Len_ok, n_Len⟩
theorem w_50 : Cond.fieldLink "LedTables$Lens" 45 "LedTables$Lens" "laws" "I" ∈ a_w0 := a_w0_in (List.mem_append_right _ (List.mem_of_getElem? (i := 50) (by decide +kernel))) rfl
theorem fl_Len_45 : a_fl R_Len 45 2 7 := ⟨R_Len, F_Len, 11, rfl, by decide, rfl, w_50, uw_Len, t_Len_ok, n_Len⟩
theorem w_51 : Cond.fieldLink "LedTables$Lens" 30 "LedTables$Lens" "kept" "[Z" ∈ a_w0 := a_w0_in (List.mem_append_right _ (List.mem_of_getElem? (i := 51) (by decide +kernel))) rfl
theorem fl_Len_30 : a_fl R_Len 30 2 8 := ⟨R_Len, F_Len, 11, rfl, by decide, rfl, w_51, uw_Len, t_Len_ok, n_Len⟩
theorem w_52 : Cond.fieldLink "LedTables$Lens" 34 "LedTables$Lens" "waiting" "[I" ∈ a_w0 := a_w0_in (List.mem_append_right _ (List.mem_of_getElem? (i := 52) (by decide +kernel))) rfl
theorem fl_Len_34 : a_fl R_Len 34 2 9 := ⟨R_Len, F_Len, 11, rfl, by decide, rfl, w_52, uw_Len, t_Len_ok, n_Len⟩
theorem w_53 : Cond.fieldLink "LedTables$Lens" 48 "LedTables$Lens" "clauses" "I" ∈ a_w0 := a_w0_in (List.mem_append_right _ (List.mem_of_getElem? (i := 53) (by decide +kernel))) rfl
theorem fl_Len_48 : a_fl R_Len 48 2 10 := ⟨R_Len, F_Len, 11, rfl, by decide, rfl, w_53, uw_Len, t_Len_ok, n_Len⟩
theorem w_54 : Cond.fieldLink "LedTables$Reader" 69 "LedTables$Lens" "clauses" "I" ∈ a_w0 := a_w0_in (List.mem_append_right _ (List.mem_of_getElem? (i := 54) (by decide +kernel))) rfl
theorem fl_Rea_69 : a_fl R_Rea 69 2 10 := ⟨R_Len, F_Len, 11, rfl, by decide, rfl, w_54, uw_Len, t_Len_ok, n_Len⟩
theorem w_55 : Cond.fieldLink "LedTables" 109 "LedTables$Lens" "clauses" "I" ∈ a_w0 := a_w0_in (List.mem_append_right _ (List.mem_of_getElem? (i := 55) (by decide +kernel))) rfl
theorem fl_Led_109 : a_fl R_Led 109 2 10 := ⟨R_Len, F_Len, 11, rfl, by decide, rfl, w_55, uw_Len, t_Len_ok, n_Len⟩
theorem w_87 : Cond.fieldLink "LedTables$Reader" 9 "LedTables$Reader" "text" "[I" ∈ a_w0 := a_w0_in (List.mem_append_right _ (List.mem_of_getElem? (i := 87) (by decide +kernel))) rfl
theorem fl_Rea_9 : a_fl R_Rea 9 5 0 := ⟨R_Rea, F_Rea, 8, rfl, by decide, rfl, w_87, uw_Rea, t_Rea_ok, n_Rea⟩
theorem w_88 : Cond.fieldLink "LedTables$Reader" 25 "LedTables$Reader" "length" "I" ∈ a_w0 := a_w0_in (List.mem_append_right _ (List.mem_of_getElem? (i := 88) (by decide +kernel))) rfl
theorem fl_Rea_25 : a_fl R_Rea 25 5 1 := ⟨R_Rea, F_Rea, 8, rfl, by decide, rfl, w_88, uw_Rea, t_Rea_ok, n_Rea⟩
theorem w_89 : Cond.fieldLink "LedTables$Reader" 29 "LedTables$Reader" "at" "I" ∈ a_w0 := a_w0_in (List.mem_append_right _ (List.mem_of_getElem? (i := 89) (by decide +kernel))) rfl
theorem fl_Rea_29 : a_fl R_Rea 29 5 2 := ⟨R_Rea, F_Rea, 8, rfl, by decide, rfl, w_89, uw_Rea, t_Rea_ok, n_Rea⟩
theorem w_90 : Cond.fieldLink "LedTables$Reader" 32 "LedTables$Reader" "open" "I" ∈ a_w0 := a_w0_in (List.mem_append_right _ (List.mem_of_getElem? (i := 90) (by decide +kernel))) rfl
theorem fl_Rea_32 : a_fl R_Rea 32 5 3 := ⟨R_Rea, F_Rea, 8, rfl, by decide, rfl, w_90, uw_Rea, t_Rea_ok, n_Rea⟩
theorem w_91 : Cond.fieldLink "LedTables$Reader" 72 "LedTables$Reader" "oldLettersAlone" "Z" ∈ a_w0 := a_w0_in (List.mem_append_right _ (List.mem_of_getElem? (i := 91) (by decide +kernel))) rfl
theorem fl_Rea_72 : a_fl R_Rea 72 5 4 := ⟨R_Rea, F_Rea, 8, rfl, by decide, rfl, w_91, uw_Rea, t_Rea_ok, n_Rea⟩
theorem w_92 : Cond.fieldLink "LedTables$Reader" 15 "LedTables$Reader" "draft" "LLedTables$Lens;" ∈ a_w0 := a_w0_in (List.mem_append_right _ (List.mem_of_getElem? (i := 92) (by decide +kernel))) rfl
theorem fl_Rea_15 : a_fl R_Rea 15 5 5 := ⟨R_Rea, F_Rea, 8, rfl, by decide, rfl, w_92, uw_Rea, t_Rea_ok, n_Rea⟩
theorem w_93 : Cond.fieldLink "LedTables" 103 "LedTables$Reader" "draft" "LLedTables$Lens;" ∈ a_w0 := a_w0_in (List.mem_append_right _ (List.mem_of_getElem? (i := 93) (by decide +kernel))) rfl
theorem fl_Led_103 : a_fl R_Led 103 5 5 := ⟨R_Rea, F_Rea, 8, rfl, by decide, rfl, w_93, uw_Rea, t_Rea_ok, n_Rea⟩
theorem w_94 : Cond.fieldLink "LedTables$Reader" 35 "LedTables$Reader" "fault" "I" ∈ a_w0 := a_w0_in (List.mem_append_right _ (List.mem_of_getElem? (i := 94) (by decide +kernel))) rfl
theorem fl_Rea_35 : a_fl R_Rea 35 5 6 := ⟨R_Rea, F_Rea, 8, rfl, by decide, rfl, w_94, uw_Rea, t_Rea_ok, n_Rea⟩
theorem w_95 : Cond.fieldLink "LedTables" 100 "LedTables$Reader" "fault" "I" ∈ a_w0 := a_w0_in (List.mem_append_right _ (List.mem_of_getElem? (i := 95) (by decide +kernel))) rfl
theorem fl_Led_100 : a_fl R_Led 100 5 6 := ⟨R_Rea, F_Rea, 8, rfl, by decide, rfl, w_95, uw_Rea, t_Rea_ok, n_Rea⟩
theorem w_96 : Cond.fieldLink "LedTables$Reader" 38 "LedTables$Reader" "place" "I" ∈ a_w0 := a_w0_in (List.mem_append_right _ (List.mem_of_getElem? (i := 96) (by decide +kernel))) rfl
theorem fl_Rea_38 : a_fl R_Rea 38 5 7 := ⟨R_Rea, F_Rea, 8, rfl, by decide, rfl, w_96, uw_Rea, t_Rea_ok, n_Rea⟩
theorem w_97 : Cond.fieldLink "LedTables" 97 "LedTables$Reader" "place" "I" ∈ a_w0 := a_w0_in (List.mem_append_right _ (List.mem_of_getElem? (i := 97) (by decide +kernel))) rfl
theorem fl_Led_97 : a_fl R_Led 97 5 7 := ⟨R_Rea, F_Rea, 8, rfl, by decide, rfl, w_97, uw_Rea, t_Rea_ok, n_Rea⟩
theorem w_121 : Cond.fieldLink "LedTables$Box" 33 "LedTables$Box" "lens" "LLedTables$Lens;" ∈ a_w0 := a_w0_in (List.mem_append_right _ (List.mem_of_getElem? (i := 121) (by decide +kernel))) rfl
theorem fl_Box_33 : a_fl R_Box 33 1 0 := ⟨R_Box, F_Box, 9, rfl, by decide, rfl, w_121, uw_Box, t_Box_ok, n_Box⟩
theorem w_122 : Cond.fieldLink "LedTables$Box" 9 "LedTables$Box" "least" "[I" ∈ a_w0 := a_w0_in (List.mem_append_right _ (List.mem_of_getElem? (i := 122) (by decide +kernel))) rfl
theorem fl_Box_9 : a_fl R_Box 9 1 1 := ⟨R_Box, F_Box, 9, rfl, by decide, rfl, w_122, uw_Box, t_Box_ok, n_Box⟩
theorem w_123 : Cond.fieldLink "LedTables$Box" 15 "LedTables$Box" "greatest" "[I" ∈ a_w0 := a_w0_in (List.mem_append_right _ (List.mem_of_getElem? (i := 123) (by decide +kernel))) rfl
theorem fl_Box_15 : a_fl R_Box 15 1 2 := ⟨R_Box, F_Box, 9, rfl, by decide, rfl, w_123, uw_Box, t_Box_ok, n_Box⟩
theorem w_124 : Cond.fieldLink "LedTables$Box" 18 "LedTables$Box" "old" "[I" ∈ a_w0 := a_w0_in (List.mem_append_right _ (List.mem_of_getElem? (i := 124) (by decide +kernel))) rfl
theorem fl_Box_18 : a_fl R_Box 18 1 3 := ⟨R_Box, F_Box, 9, rfl, by decide, rfl, w_124, uw_Box, t_Box_ok, n_Box⟩
theorem w_125 : Cond.fieldLink "LedTables$Box" 21 "LedTables$Box" "fresh" "[I" ∈ a_w0 := a_w0_in (List.mem_append_right _ (List.mem_of_getElem? (i := 125) (by decide +kernel))) rfl
theorem fl_Box_21 : a_fl R_Box 21 1 4 := ⟨R_Box, F_Box, 9, rfl, by decide, rfl, w_125, uw_Box, t_Box_ok, n_Box⟩
theorem w_126 : Cond.fieldLink "LedTables$Box" 24 "LedTables$Box" "beside" "[I" ∈ a_w0 := a_w0_in (List.mem_append_right _ (List.mem_of_getElem? (i := 126) (by decide +kernel))) rfl
theorem fl_Box_24 : a_fl R_Box 24 1 5 := ⟨R_Box, F_Box, 9, rfl, by decide, rfl, w_126, uw_Box, t_Box_ok, n_Box⟩
theorem w_127 : Cond.fieldLink "LedTables$Box" 27 "LedTables$Box" "again" "[I" ∈ a_w0 := a_w0_in (List.mem_append_right _ (List.mem_of_getElem? (i := 127) (by decide +kernel))) rfl
theorem fl_Box_27 : a_fl R_Box 27 1 6 := ⟨R_Box, F_Box, 9, rfl, by decide, rfl, w_127, uw_Box, t_Box_ok, n_Box⟩
theorem w_128 : Cond.fieldLink "LedTables$Box" 30 "LedTables$Box" "freshAgain" "[I" ∈ a_w0 := a_w0_in (List.mem_append_right _ (List.mem_of_getElem? (i := 128) (by decide +kernel))) rfl
theorem fl_Box_30 : a_fl R_Box 30 1 7 := ⟨R_Box, F_Box, 9, rfl, by decide, rfl, w_128, uw_Box, t_Box_ok, n_Box⟩
theorem w_129 : Cond.fieldLink "LedTables$Box" 37 "LedTables$Box" "likes" "LLedTables$Likes;" ∈ a_w0 := a_w0_in (List.mem_append_right _ (List.mem_of_getElem? (i := 129) (by decide +kernel))) rfl
theorem fl_Box_37 : a_fl R_Box 37 1 8 := ⟨R_Box, F_Box, 9, rfl, by decide, rfl, w_129, uw_Box, t_Box_ok, n_Box⟩
theorem w_155 : Cond.fieldLink "LedTables$Plan" 9 "LedTables$Plan" "holds" "[I" ∈ a_w0 := a_w0_in (List.mem_append_right _ (List.mem_of_getElem? (i := 155) (by decide +kernel))) rfl
theorem fl_Pla_9 : a_fl R_Pla 9 4 0 := ⟨R_Pla, F_Pla, 8, rfl, by decide, rfl, w_155, uw_Pla, t_Pla_ok, n_Pla⟩
theorem w_156 : Cond.fieldLink "LedTables$Plan" 15 "LedTables$Plan" "needs" "[I" ∈ a_w0 := a_w0_in (List.mem_append_right _ (List.mem_of_getElem? (i := 156) (by decide +kernel))) rfl
theorem fl_Pla_15 : a_fl R_Pla 15 4 1 := ⟨R_Pla, F_Pla, 8, rfl, by decide, rfl, w_156, uw_Pla, t_Pla_ok, n_Pla⟩
theorem w_157 : Cond.fieldLink "LedTables$Plan" 18 "LedTables$Plan" "prices" "[I" ∈ a_w0 := a_w0_in (List.mem_append_right _ (List.mem_of_getElem? (i := 157) (by decide +kernel))) rfl
theorem fl_Pla_18 : a_fl R_Pla 18 4 2 := ⟨R_Pla, F_Pla, 8, rfl, by decide, rfl, w_157, uw_Pla, t_Pla_ok, n_Pla⟩
theorem w_158 : Cond.fieldLink "LedTables$Plan" 21 "LedTables$Plan" "orders" "[Z" ∈ a_w0 := a_w0_in (List.mem_append_right _ (List.mem_of_getElem? (i := 158) (by decide +kernel))) rfl
theorem fl_Pla_21 : a_fl R_Pla 21 4 3 := ⟨R_Pla, F_Pla, 8, rfl, by decide, rfl, w_158, uw_Pla, t_Pla_ok, n_Pla⟩
theorem w_159 : Cond.fieldLink "LedTables$Plan" 25 "LedTables$Plan" "bars" "[Z" ∈ a_w0 := a_w0_in (List.mem_append_right _ (List.mem_of_getElem? (i := 159) (by decide +kernel))) rfl
theorem fl_Pla_25 : a_fl R_Pla 25 4 4 := ⟨R_Pla, F_Pla, 8, rfl, by decide, rfl, w_159, uw_Pla, t_Pla_ok, n_Pla⟩
theorem w_160 : Cond.fieldLink "LedTables$Plan" 32 "LedTables$Plan" "changes" "I" ∈ a_w0 := a_w0_in (List.mem_append_right _ (List.mem_of_getElem? (i := 160) (by decide +kernel))) rfl
theorem fl_Pla_32 : a_fl R_Pla 32 4 5 := ⟨R_Pla, F_Pla, 8, rfl, by decide, rfl, w_160, uw_Pla, t_Pla_ok, n_Pla⟩
theorem w_161 : Cond.fieldLink "LedTables$Ways" 89 "LedTables$Plan" "changes" "I" ∈ a_w0 := a_w0_in (List.mem_append_right _ (List.mem_of_getElem? (i := 161) (by decide +kernel))) rfl
theorem fl_Way_89 : a_fl R_Way 89 4 5 := ⟨R_Pla, F_Pla, 8, rfl, by decide, rfl, w_161, uw_Pla, t_Pla_ok, n_Pla⟩
theorem w_162 : Cond.fieldLink "LedTables" 311 "LedTables$Plan" "changes" "I" ∈ a_w0 := a_w0_in (List.mem_append_right _ (List.mem_of_getElem? (i := 162) (by decide +kernel))) rfl
theorem fl_Led_311 : a_fl R_Led 311 4 5 := ⟨R_Pla, F_Pla, 8, rfl, by decide, rfl, w_162, uw_Pla, t_Pla_ok, n_Pla⟩
theorem w_163 : Cond.fieldLink "LedTables$Plan" 35 "LedTables$Plan" "programs" "I" ∈ a_w0 := a_w0_in (List.mem_append_right _ (List.mem_of_getElem? (i := 163) (by decide +kernel))) rfl
theorem fl_Pla_35 : a_fl R_Pla 35 4 6 := ⟨R_Pla, F_Pla, 8, rfl, by decide, rfl, w_163, uw_Pla, t_Pla_ok, n_Pla⟩
theorem w_164 : Cond.fieldLink "LedTables$Ways" 78 "LedTables$Plan" "programs" "I" ∈ a_w0 := a_w0_in (List.mem_append_right _ (List.mem_of_getElem? (i := 164) (by decide +kernel))) rfl
theorem fl_Way_78 : a_fl R_Way 78 4 6 := ⟨R_Pla, F_Pla, 8, rfl, by decide, rfl, w_164, uw_Pla, t_Pla_ok, n_Pla⟩
theorem w_165 : Cond.fieldLink "LedTables" 314 "LedTables$Plan" "programs" "I" ∈ a_w0 := a_w0_in (List.mem_append_right _ (List.mem_of_getElem? (i := 165) (by decide +kernel))) rfl
theorem fl_Led_314 : a_fl R_Led 314 4 6 := ⟨R_Pla, F_Pla, 8, rfl, by decide, rfl, w_165, uw_Pla, t_Pla_ok, n_Pla⟩
theorem w_166 : Cond.fieldLink "LedTables$Plan" 28 "LedTables$Plan" "age" "I" ∈ a_w0 := a_w0_in (List.mem_append_right _ (List.mem_of_getElem? (i := 166) (by decide +kernel))) rfl
theorem fl_Pla_28 : a_fl R_Pla 28 4 7 := ⟨R_Pla, F_Pla, 8, rfl, by decide, rfl, w_166, uw_Pla, t_Pla_ok, n_Pla⟩
theorem w_167 : Cond.fieldLink "LedTables$Ways" 44 "LedTables$Plan" "age" "I" ∈ a_w0 := a_w0_in (List.mem_append_right _ (List.mem_of_getElem? (i := 167) (by decide +kernel))) rfl
theorem fl_Way_44 : a_fl R_Way 44 4 7 := ⟨R_Pla, F_Pla, 8, rfl, by decide, rfl, w_167, uw_Pla, t_Pla_ok, n_Pla⟩
theorem w_191 : Cond.fieldLink "LedTables$Asked" 11 "LedTables$Asked" "ticks" "[I" ∈ a_w0 := a_w0_in (List.mem_append_right _ (List.mem_of_getElem? (i := 191) (by decide +kernel))) rfl
theorem fl_Ask_11 : a_fl R_Ask 11 0 0 := ⟨R_Ask, F_Ask, 1, rfl, by decide, rfl, w_191, uw_Ask, t_Ask_ok, n_Ask⟩
theorem w_208 : Cond.fieldLink "LedTables$Row" 9 "LedTables$Row" "old" "[I" ∈ a_w0 := a_w0_in (List.mem_append_right _ (List.mem_of_getElem? (i := 208) (by decide +kernel))) rfl
theorem fl_Row_9 : a_fl R_Row 9 6 0 := ⟨R_Row, F_Row, 8, rfl, by decide, rfl, w_208, uw_Row, t_Row_ok, n_Row⟩
theorem w_209 : Cond.fieldLink "LedTables$Table" 92 "LedTables$Row" "old" "[I" ∈ a_w0 := a_w0_in (List.mem_append_right _ (List.mem_of_getElem? (i := 209) (by decide +kernel))) rfl
theorem fl_Tab_92 : a_fl R_Tab 92 6 0 := ⟨R_Row, F_Row, 8, rfl, by decide, rfl, w_209, uw_Row, t_Row_ok, n_Row⟩
theorem w_210 : Cond.fieldLink "LedTables$Row" 15 "LedTables$Row" "fresh" "[I" ∈ a_w0 := a_w0_in (List.mem_append_right _ (List.mem_of_getElem? (i := 210) (by decide +kernel))) rfl
theorem fl_Row_15 : a_fl R_Row 15 6 1 := ⟨R_Row, F_Row, 8, rfl, by decide, rfl, w_210, uw_Row, t_Row_ok, n_Row⟩
theorem w_211 : Cond.fieldLink "LedTables$Table" 95 "LedTables$Row" "fresh" "[I" ∈ a_w0 := a_w0_in (List.mem_append_right _ (List.mem_of_getElem? (i := 211) (by decide +kernel))) rfl
theorem fl_Tab_95 : a_fl R_Tab 95 6 1 := ⟨R_Row, F_Row, 8, rfl, by decide, rfl, w_211, uw_Row, t_Row_ok, n_Row⟩
theorem w_212 : Cond.fieldLink "LedTables$Row" 18 "LedTables$Row" "beside" "[I" ∈ a_w0 := a_w0_in (List.mem_append_right _ (List.mem_of_getElem? (i := 212) (by decide +kernel))) rfl
theorem fl_Row_18 : a_fl R_Row 18 6 2 := ⟨R_Row, F_Row, 8, rfl, by decide, rfl, w_212, uw_Row, t_Row_ok, n_Row⟩
theorem w_213 : Cond.fieldLink "LedTables$Table" 104 "LedTables$Row" "beside" "[I" ∈ a_w0 := a_w0_in (List.mem_append_right _ (List.mem_of_getElem? (i := 213) (by decide +kernel))) rfl
theorem fl_Tab_104 : a_fl R_Tab 104 6 2 := ⟨R_Row, F_Row, 8, rfl, by decide, rfl, w_213, uw_Row, t_Row_ok, n_Row⟩
theorem w_214 : Cond.fieldLink "LedTables$Row" 25 "LedTables$Row" "kind" "I" ∈ a_w0 := a_w0_in (List.mem_append_right _ (List.mem_of_getElem? (i := 214) (by decide +kernel))) rfl
theorem fl_Row_25 : a_fl R_Row 25 6 3 := ⟨R_Row, F_Row, 8, rfl, by decide, rfl, w_214, uw_Row, t_Row_ok, n_Row⟩
theorem w_215 : Cond.fieldLink "LedTables$Table" 40 "LedTables$Row" "kind" "I" ∈ a_w0 := a_w0_in (List.mem_append_right _ (List.mem_of_getElem? (i := 215) (by decide +kernel))) rfl
theorem fl_Tab_40 : a_fl R_Tab 40 6 3 := ⟨R_Row, F_Row, 8, rfl, by decide, rfl, w_215, uw_Row, t_Row_ok, n_Row⟩
theorem w_216 : Cond.fieldLink "LedTables$Row" 29 "LedTables$Row" "since" "I" ∈ a_w0 := a_w0_in (List.mem_append_right _ (List.mem_of_getElem? (i := 216) (by decide +kernel))) rfl
theorem fl_Row_29 : a_fl R_Row 29 6 4 := ⟨R_Row, F_Row, 8, rfl, by decide, rfl, w_216, uw_Row, t_Row_ok, n_Row⟩
theorem w_217 : Cond.fieldLink "LedTables$Row" 32 "LedTables$Row" "by" "I" ∈ a_w0 := a_w0_in (List.mem_append_right _ (List.mem_of_getElem? (i := 217) (by decide +kernel))) rfl
theorem fl_Row_32 : a_fl R_Row 32 6 5 := ⟨R_Row, F_Row, 8, rfl, by decide, rfl, w_217, uw_Row, t_Row_ok, n_Row⟩
theorem w_218 : Cond.fieldLink "LedTables$Row" 35 "LedTables$Row" "writtenAt" "I" ∈ a_w0 := a_w0_in (List.mem_append_right _ (List.mem_of_getElem? (i := 218) (by decide +kernel))) rfl
theorem fl_Row_35 : a_fl R_Row 35 6 6 := ⟨R_Row, F_Row, 8, rfl, by decide, rfl, w_218, uw_Row, t_Row_ok, n_Row⟩
theorem w_219 : Cond.fieldLink "LedTables$Row" 21 "LedTables$Row" "written" "[Z" ∈ a_w0 := a_w0_in (List.mem_append_right _ (List.mem_of_getElem? (i := 219) (by decide +kernel))) rfl
theorem fl_Row_21 : a_fl R_Row 21 6 7 := ⟨R_Row, F_Row, 8, rfl, by decide, rfl, w_219, uw_Row, t_Row_ok, n_Row⟩
theorem w_237 : Cond.fieldLink "LedTables$Table" 27 "LedTables$Table" "lens" "LLedTables$Lens;" ∈ a_w0 := a_w0_in (List.mem_append_right _ (List.mem_of_getElem? (i := 237) (by decide +kernel))) rfl
theorem fl_Tab_27 : a_fl R_Tab 27 7 0 := ⟨R_Tab, F_Tab, 11, rfl, by decide, rfl, w_237, uw_Tab, t_Tab_ok, n_Tab⟩
theorem w_238 : Cond.fieldLink "LedTables$Table" 31 "LedTables$Table" "asked" "LLedTables$Asked;" ∈ a_w0 := a_w0_in (List.mem_append_right _ (List.mem_of_getElem? (i := 238) (by decide +kernel))) rfl
theorem fl_Tab_31 : a_fl R_Tab 31 7 1 := ⟨R_Tab, F_Tab, 11, rfl, by decide, rfl, w_238, uw_Tab, t_Tab_ok, n_Tab⟩
theorem w_239 : Cond.fieldLink "LedTables$Table" 11 "LedTables$Table" "rows" "[LLedTables$Row;" ∈ a_w0 := a_w0_in (List.mem_append_right _ (List.mem_of_getElem? (i := 239) (by decide +kernel))) rfl
theorem fl_Tab_11 : a_fl R_Tab 11 7 2 := ⟨R_Tab, F_Tab, 11, rfl, by decide, rfl, w_239, uw_Tab, t_Tab_ok, n_Tab⟩
theorem w_240 : Cond.fieldLink "LedTables$Table" 17 "LedTables$Table" "oldNow" "[I" ∈ a_w0 := a_w0_in (List.mem_append_right _ (List.mem_of_getElem? (i := 240) (by decide +kernel))) rfl
theorem fl_Tab_17 : a_fl R_Tab 17 7 3 := ⟨R_Tab, F_Tab, 11, rfl, by decide, rfl, w_240, uw_Tab, t_Tab_ok, n_Tab⟩
theorem w_241 : Cond.fieldLink "LedTables" 115 "LedTables$Table" "oldNow" "[I" ∈ a_w0 := a_w0_in (List.mem_append_right _ (List.mem_of_getElem? (i := 241) (by decide +kernel))) rfl
theorem fl_Led_115 : a_fl R_Led 115 7 3 := ⟨R_Tab, F_Tab, 11, rfl, by decide, rfl, w_241, uw_Tab, t_Tab_ok, n_Tab⟩
theorem w_242 : Cond.fieldLink "LedTables$Table" 21 "LedTables$Table" "newNow" "[I" ∈ a_w0 := a_w0_in (List.mem_append_right _ (List.mem_of_getElem? (i := 242) (by decide +kernel))) rfl
theorem fl_Tab_21 : a_fl R_Tab 21 7 4 := ⟨R_Tab, F_Tab, 11, rfl, by decide, rfl, w_242, uw_Tab, t_Tab_ok, n_Tab⟩
theorem w_243 : Cond.fieldLink "LedTables" 122 "LedTables$Table" "newNow" "[I" ∈ a_w0 := a_w0_in (List.mem_append_right _ (List.mem_of_getElem? (i := 243) (by decide +kernel))) rfl
theorem fl_Led_122 : a_fl R_Led 122 7 4 := ⟨R_Tab, F_Tab, 11, rfl, by decide, rfl, w_243, uw_Tab, t_Tab_ok, n_Tab⟩
theorem w_244 : Cond.fieldLink "LedTables$Table" 24 "LedTables$Table" "besideNow" "[I" ∈ a_w0 := a_w0_in (List.mem_append_right _ (List.mem_of_getElem? (i := 244) (by decide +kernel))) rfl
theorem fl_Tab_24 : a_fl R_Tab 24 7 5 := ⟨R_Tab, F_Tab, 11, rfl, by decide, rfl, w_244, uw_Tab, t_Tab_ok, n_Tab⟩
theorem w_245 : Cond.fieldLink "LedTables" 129 "LedTables$Table" "besideNow" "[I" ∈ a_w0 := a_w0_in (List.mem_append_right _ (List.mem_of_getElem? (i := 245) (by decide +kernel))) rfl
theorem fl_Led_129 : a_fl R_Led 129 7 5 := ⟨R_Tab, F_Tab, 11, rfl, by decide, rfl, w_245, uw_Tab, t_Tab_ok, n_Tab⟩
theorem w_246 : Cond.fieldLink "LedTables$Table" 43 "LedTables$Table" "stage" "I" ∈ a_w0 := a_w0_in (List.mem_append_right _ (List.mem_of_getElem? (i := 246) (by decide +kernel))) rfl
theorem fl_Tab_43 : a_fl R_Tab 43 7 6 := ⟨R_Tab, F_Tab, 11, rfl, by decide, rfl, w_246, uw_Tab, t_Tab_ok, n_Tab⟩
theorem w_247 : Cond.fieldLink "LedTables" 85 "LedTables$Table" "stage" "I" ∈ a_w0 := a_w0_in (List.mem_append_right _ (List.mem_of_getElem? (i := 247) (by decide +kernel))) rfl
theorem fl_Led_85 : a_fl R_Led 85 7 6 := ⟨R_Tab, F_Tab, 11, rfl, by decide, rfl, w_247, uw_Tab, t_Tab_ok, n_Tab⟩
theorem w_248 : Cond.fieldLink "LedTables$Table" 64 "LedTables$Table" "now" "I" ∈ a_w0 := a_w0_in (List.mem_append_right _ (List.mem_of_getElem? (i := 248) (by decide +kernel))) rfl
theorem fl_Tab_64 : a_fl R_Tab 64 7 7 := ⟨R_Tab, F_Tab, 11, rfl, by decide, rfl, w_248, uw_Tab, t_Tab_ok, n_Tab⟩
theorem w_249 : Cond.fieldLink "LedTables" 259 "LedTables$Table" "now" "I" ∈ a_w0 := a_w0_in (List.mem_append_right _ (List.mem_of_getElem? (i := 249) (by decide +kernel))) rfl
theorem fl_Led_259 : a_fl R_Led 259 7 7 := ⟨R_Tab, F_Tab, 11, rfl, by decide, rfl, w_249, uw_Tab, t_Tab_ok, n_Tab⟩
theorem w_250 : Cond.fieldLink "LedTables$Table" 144 "LedTables$Table" "firstForm" "I" ∈ a_w0 := a_w0_in (List.mem_append_right _ (List.mem_of_getElem? (i := 250) (by decide +kernel))) rfl
theorem fl_Tab_144 : a_fl R_Tab 144 7 8 := ⟨R_Tab, F_Tab, 11, rfl, by decide, rfl, w_250, uw_Tab, t_Tab_ok, n_Tab⟩
theorem w_251 : Cond.fieldLink "LedTables" 256 "LedTables$Table" "firstForm" "I" ∈ a_w0 := a_w0_in (List.mem_append_right _ (List.mem_of_getElem? (i := 251) (by decide +kernel))) rfl
theorem fl_Led_256 : a_fl R_Led 256 7 8 := ⟨R_Tab, F_Tab, 11, rfl, by decide, rfl, w_251, uw_Tab, t_Tab_ok, n_Tab⟩
theorem w_252 : Cond.fieldLink "LedTables$Table" 174 "LedTables$Table" "fallAt" "I" ∈ a_w0 := a_w0_in (List.mem_append_right _ (List.mem_of_getElem? (i := 252) (by decide +kernel))) rfl
theorem fl_Tab_174 : a_fl R_Tab 174 7 9 := ⟨R_Tab, F_Tab, 11, rfl, by decide, rfl, w_252, uw_Tab, t_Tab_ok, n_Tab⟩
theorem w_253 : Cond.fieldLink "LedTables" 269 "LedTables$Table" "fallAt" "I" ∈ a_w0 := a_w0_in (List.mem_append_right _ (List.mem_of_getElem? (i := 253) (by decide +kernel))) rfl
theorem fl_Led_269 : a_fl R_Led 269 7 9 := ⟨R_Tab, F_Tab, 11, rfl, by decide, rfl, w_253, uw_Tab, t_Tab_ok, n_Tab⟩
theorem w_254 : Cond.fieldLink "LedTables$Table" 36 "LedTables$Table" "quietTicks" "I" ∈ a_w0 := a_w0_in (List.mem_append_right _ (List.mem_of_getElem? (i := 254) (by decide +kernel))) rfl
theorem fl_Tab_36 : a_fl R_Tab 36 7 10 := ⟨R_Tab, F_Tab, 11, rfl, by decide, rfl, w_254, uw_Tab, t_Tab_ok, n_Tab⟩
theorem w_255 : Cond.fieldLink "LedTables" 275 "LedTables$Table" "quietTicks" "I" ∈ a_w0 := a_w0_in (List.mem_append_right _ (List.mem_of_getElem? (i := 255) (by decide +kernel))) rfl
theorem fl_Led_275 : a_fl R_Led 275 7 10 := ⟨R_Tab, F_Tab, 11, rfl, by decide, rfl, w_255, uw_Tab, t_Tab_ok, n_Tab⟩
theorem w_279 : Cond.fieldLink "LedTables" 11 "LedTables" "tape" "[I" ∈ a_w0 := a_w0_in (List.mem_append_right _ (List.mem_of_getElem? (i := 279) (by decide +kernel))) rfl
theorem fl_Led_11 : a_fl R_Led 11 9 0 := ⟨R_Led, F_Led, 10, rfl, by decide, rfl, w_279, uw_Led, t_Led_ok, n_Led⟩
theorem w_280 : Cond.fieldLink "LedTables" 15 "LedTables" "taped" "I" ∈ a_w0 := a_w0_in (List.mem_append_right _ (List.mem_of_getElem? (i := 280) (by decide +kernel))) rfl
theorem fl_Led_15 : a_fl R_Led 15 9 1 := ⟨R_Led, F_Led, 10, rfl, by decide, rfl, w_280, uw_Led, t_Led_ok, n_Led⟩
theorem w_281 : Cond.fieldLink "LedTables" 22 "LedTables" "lens" "LLedTables$Lens;" ∈ a_w0 := a_w0_in (List.mem_append_right _ (List.mem_of_getElem? (i := 281) (by decide +kernel))) rfl
theorem fl_Led_22 : a_fl R_Led 22 9 2 := ⟨R_Led, F_Led, 10, rfl, by decide, rfl, w_281, uw_Led, t_Led_ok, n_Led⟩
theorem w_282 : Cond.fieldLink "LedTables" 31 "LedTables" "reader" "LLedTables$Reader;" ∈ a_w0 := a_w0_in (List.mem_append_right _ (List.mem_of_getElem? (i := 282) (by decide +kernel))) rfl
theorem fl_Led_31 : a_fl R_Led 31 9 3 := ⟨R_Led, F_Led, 10, rfl, by decide, rfl, w_282, uw_Led, t_Led_ok, n_Led⟩
theorem w_283 : Cond.fieldLink "LedTables" 35 "LedTables" "faultPlace" "I" ∈ a_w0 := a_w0_in (List.mem_append_right _ (List.mem_of_getElem? (i := 283) (by decide +kernel))) rfl
theorem fl_Led_35 : a_fl R_Led 35 9 4 := ⟨R_Led, F_Led, 10, rfl, by decide, rfl, w_283, uw_Led, t_Led_ok, n_Led⟩
theorem w_284 : Cond.fieldLink "LedTables" 43 "LedTables" "box" "LLedTables$Box;" ∈ a_w0 := a_w0_in (List.mem_append_right _ (List.mem_of_getElem? (i := 284) (by decide +kernel))) rfl
theorem fl_Led_43 : a_fl R_Led 43 9 5 := ⟨R_Led, F_Led, 10, rfl, by decide, rfl, w_284, uw_Led, t_Led_ok, n_Led⟩
theorem w_285 : Cond.fieldLink "LedTables" 50 "LedTables" "plan" "LLedTables$Plan;" ∈ a_w0 := a_w0_in (List.mem_append_right _ (List.mem_of_getElem? (i := 285) (by decide +kernel))) rfl
theorem fl_Led_50 : a_fl R_Led 50 9 6 := ⟨R_Led, F_Led, 10, rfl, by decide, rfl, w_285, uw_Led, t_Led_ok, n_Led⟩
theorem w_286 : Cond.fieldLink "LedTables" 54 "LedTables" "ways" "LLedTables$Ways;" ∈ a_w0 := a_w0_in (List.mem_append_right _ (List.mem_of_getElem? (i := 286) (by decide +kernel))) rfl
theorem fl_Led_54 : a_fl R_Led 54 9 7 := ⟨R_Led, F_Led, 10, rfl, by decide, rfl, w_286, uw_Led, t_Led_ok, n_Led⟩
theorem w_287 : Cond.fieldLink "LedTables" 61 "LedTables" "asked" "LLedTables$Asked;" ∈ a_w0 := a_w0_in (List.mem_append_right _ (List.mem_of_getElem? (i := 287) (by decide +kernel))) rfl
theorem fl_Led_61 : a_fl R_Led 61 9 8 := ⟨R_Led, F_Led, 10, rfl, by decide, rfl, w_287, uw_Led, t_Led_ok, n_Led⟩
theorem w_288 : Cond.fieldLink "LedTables" 70 "LedTables" "table" "LLedTables$Table;" ∈ a_w0 := a_w0_in (List.mem_append_right _ (List.mem_of_getElem? (i := 288) (by decide +kernel))) rfl
theorem fl_Led_70 : a_fl R_Led 70 9 9 := ⟨R_Led, F_Led, 10, rfl, by decide, rfl, w_288, uw_Led, t_Led_ok, n_Led⟩
theorem w_337 : Cond.fieldLink "LedTables$Likes" 11 "LedTables$Likes" "first" "[I" ∈ a_w0 := a_w0_in (List.mem_append_right _ (List.mem_of_getElem? (i := 337) (by decide +kernel))) rfl
theorem fl_Lik_11 : a_fl R_Lik 11 3 0 := ⟨R_Lik, F_Lik, 2, rfl, by decide, rfl, w_337, uw_Lik, t_Lik_ok, n_Lik⟩
theorem w_338 : Cond.fieldLink "LedTables$Likes" 16 "LedTables$Likes" "seen" "[I" ∈ a_w0 := a_w0_in (List.mem_append_right _ (List.mem_of_getElem? (i := 338) (by decide +kernel))) rfl
theorem fl_Lik_16 : a_fl R_Lik 16 3 1 := ⟨R_Lik, F_Lik, 2, rfl, by decide, rfl, w_338, uw_Lik, t_Lik_ok, n_Lik⟩
theorem w_1044 : Cond.fieldLink "LedTables$Ways" 33 "LedTables$Ways" "plan" "LLedTables$Plan;" ∈ a_w0 := a_w0_in (List.mem_append_right _ (List.mem_of_getElem? (i := 1044) (by decide +kernel))) rfl
theorem fl_Way_33 : a_fl R_Way 33 8 0 := ⟨R_Way, F_Way, 9, rfl, by decide, rfl, w_1044, uw_Way, t_Way_ok, n_Way⟩
theorem w_1045 : Cond.fieldLink "LedTables$Ways" 13 "LedTables$Ways" "standing" "[Z" ∈ a_w0 := a_w0_in (List.mem_append_right _ (List.mem_of_getElem? (i := 1045) (by decide +kernel))) rfl
theorem fl_Way_13 : a_fl R_Way 13 8 1 := ⟨R_Way, F_Way, 9, rfl, by decide, rfl, w_1045, uw_Way, t_Way_ok, n_Way⟩
theorem w_1046 : Cond.fieldLink "LedTables$Ways" 17 "LedTables$Ways" "weight" "[I" ∈ a_w0 := a_w0_in (List.mem_append_right _ (List.mem_of_getElem? (i := 1046) (by decide +kernel))) rfl
theorem fl_Way_17 : a_fl R_Way 17 8 2 := ⟨R_Way, F_Way, 9, rfl, by decide, rfl, w_1046, uw_Way, t_Way_ok, n_Way⟩
theorem w_1047 : Cond.fieldLink "LedTables$Ways" 21 "LedTables$Ways" "rewritings" "[I" ∈ a_w0 := a_w0_in (List.mem_append_right _ (List.mem_of_getElem? (i := 1047) (by decide +kernel))) rfl
theorem fl_Way_21 : a_fl R_Way 21 8 3 := ⟨R_Way, F_Way, 9, rfl, by decide, rfl, w_1047, uw_Way, t_Way_ok, n_Way⟩
theorem w_1048 : Cond.fieldLink "LedTables$Ways" 24 "LedTables$Ways" "backs" "[Z" ∈ a_w0 := a_w0_in (List.mem_append_right _ (List.mem_of_getElem? (i := 1048) (by decide +kernel))) rfl
theorem fl_Way_24 : a_fl R_Way 24 8 4 := ⟨R_Way, F_Way, 9, rfl, by decide, rfl, w_1048, uw_Way, t_Way_ok, n_Way⟩
theorem w_1049 : Cond.fieldLink "LedTables$Ways" 27 "LedTables$Ways" "pairsKept" "[Z" ∈ a_w0 := a_w0_in (List.mem_append_right _ (List.mem_of_getElem? (i := 1049) (by decide +kernel))) rfl
theorem fl_Way_27 : a_fl R_Way 27 8 5 := ⟨R_Way, F_Way, 9, rfl, by decide, rfl, w_1049, uw_Way, t_Way_ok, n_Way⟩
theorem w_1050 : Cond.fieldLink "LedTables$Ways" 30 "LedTables$Ways" "stages" "[I" ∈ a_w0 := a_w0_in (List.mem_append_right _ (List.mem_of_getElem? (i := 1050) (by decide +kernel))) rfl
theorem fl_Way_30 : a_fl R_Way 30 8 6 := ⟨R_Way, F_Way, 9, rfl, by decide, rfl, w_1050, uw_Way, t_Way_ok, n_Way⟩
theorem w_1051 : Cond.fieldLink "LedTables$Ways" 37 "LedTables$Ways" "nodes" "I" ∈ a_w0 := a_w0_in (List.mem_append_right _ (List.mem_of_getElem? (i := 1051) (by decide +kernel))) rfl
theorem fl_Way_37 : a_fl R_Way 37 8 7 := ⟨R_Way, F_Way, 9, rfl, by decide, rfl, w_1051, uw_Way, t_Way_ok, n_Way⟩
theorem w_1052 : Cond.fieldLink "LedTables$Ways" 41 "LedTables$Ways" "age" "I" ∈ a_w0 := a_w0_in (List.mem_append_right _ (List.mem_of_getElem? (i := 1052) (by decide +kernel))) rfl
theorem fl_Way_41 : a_fl R_Way 41 8 8 := ⟨R_Way, F_Way, 9, rfl, by decide, rfl, w_1052, uw_Way, t_Way_ok, n_Way⟩
theorem w_1435 : Cond.fieldLink "LedTablesModel" 131 "LedTablesModel" "thrown" "I" ∈ a_w0 := a_w0_in (List.mem_append_right _ (List.mem_of_getElem? (i := 1435) (by decide +kernel))) rfl
theorem fl_Mod_131 : a_fl R_Mod 131 10 0 := ⟨R_Mod, F_Mod, 61, rfl, by decide, rfl, w_1435, uw_Mod, t_Mod_ok, n_Mod⟩
theorem w_1436 : Cond.fieldLink "LedTablesModel" 134 "LedTablesModel" "tape" "I" ∈ a_w0 := a_w0_in (List.mem_append_right _ (List.mem_of_getElem? (i := 1436) (by decide +kernel))) rfl
theorem fl_Mod_134 : a_fl R_Mod 134 10 1 := ⟨R_Mod, F_Mod, 61, rfl, by decide, rfl, w_1436, uw_Mod, t_Mod_ok, n_Mod⟩
theorem w_1437 : Cond.fieldLink "LedTablesModel" 137 "LedTablesModel" "size" "I" ∈ a_w0 := a_w0_in (List.mem_append_right _ (List.mem_of_getElem? (i := 1437) (by decide +kernel))) rfl
theorem fl_Mod_137 : a_fl R_Mod 137 10 2 := ⟨R_Mod, F_Mod, 61, rfl, by decide, rfl, w_1437, uw_Mod, t_Mod_ok, n_Mod⟩
theorem w_1438 : Cond.fieldLink "LedTablesModel" 250 "LedTablesModel" "lensSize" "I" ∈ a_w0 := a_w0_in (List.mem_append_right _ (List.mem_of_getElem? (i := 1438) (by decide +kernel))) rfl
theorem fl_Mod_250 : a_fl R_Mod 250 10 3 := ⟨R_Mod, F_Mod, 61, rfl, by decide, rfl, w_1438, uw_Mod, t_Mod_ok, n_Mod⟩
theorem w_1439 : Cond.fieldLink "LedTablesModel" 259 "LedTablesModel" "clauses" "I" ∈ a_w0 := a_w0_in (List.mem_append_right _ (List.mem_of_getElem? (i := 1439) (by decide +kernel))) rfl
theorem fl_Mod_259 : a_fl R_Mod 259 10 4 := ⟨R_Mod, F_Mod, 61, rfl, by decide, rfl, w_1439, uw_Mod, t_Mod_ok, n_Mod⟩
theorem w_1440 : Cond.fieldLink "LedTablesModel" 11 "LedTablesModel" "place" "I" ∈ a_w0 := a_w0_in (List.mem_append_right _ (List.mem_of_getElem? (i := 1440) (by decide +kernel))) rfl
theorem fl_Mod_11 : a_fl R_Mod 11 10 5 := ⟨R_Mod, F_Mod, 61, rfl, by decide, rfl, w_1440, uw_Mod, t_Mod_ok, n_Mod⟩
theorem w_1441 : Cond.fieldLink "LedTablesModel" 253 "LedTablesModel" "laws" "I" ∈ a_w0 := a_w0_in (List.mem_append_right _ (List.mem_of_getElem? (i := 1441) (by decide +kernel))) rfl
theorem fl_Mod_253 : a_fl R_Mod 253 10 6 := ⟨R_Mod, F_Mod, 61, rfl, by decide, rfl, w_1441, uw_Mod, t_Mod_ok, n_Mod⟩
theorem w_1442 : Cond.fieldLink "LedTablesModel" 256 "LedTablesModel" "keeps" "I" ∈ a_w0 := a_w0_in (List.mem_append_right _ (List.mem_of_getElem? (i := 1442) (by decide +kernel))) rfl
theorem fl_Mod_256 : a_fl R_Mod 256 10 7 := ⟨R_Mod, F_Mod, 61, rfl, by decide, rfl, w_1442, uw_Mod, t_Mod_ok, n_Mod⟩
theorem w_1443 : Cond.fieldLink "LedTablesModel" 15 "LedTablesModel" "fed" "[I" ∈ a_w0 := a_w0_in (List.mem_append_right _ (List.mem_of_getElem? (i := 1443) (by decide +kernel))) rfl
theorem fl_Mod_15 : a_fl R_Mod 15 10 8 := ⟨R_Mod, F_Mod, 61, rfl, by decide, rfl, w_1443, uw_Mod, t_Mod_ok, n_Mod⟩
theorem w_1444 : Cond.fieldLink "LedTablesModel" 19 "LedTablesModel" "lens" "[I" ∈ a_w0 := a_w0_in (List.mem_append_right _ (List.mem_of_getElem? (i := 1444) (by decide +kernel))) rfl
theorem fl_Mod_19 : a_fl R_Mod 19 10 9 := ⟨R_Mod, F_Mod, 61, rfl, by decide, rfl, w_1444, uw_Mod, t_Mod_ok, n_Mod⟩
theorem w_1445 : Cond.fieldLink "LedTablesModel" 22 "LedTablesModel" "begins" "[I" ∈ a_w0 := a_w0_in (List.mem_append_right _ (List.mem_of_getElem? (i := 1445) (by decide +kernel))) rfl
theorem fl_Mod_22 : a_fl R_Mod 22 10 10 := ⟨R_Mod, F_Mod, 61, rfl, by decide, rfl, w_1445, uw_Mod, t_Mod_ok, n_Mod⟩
theorem w_1446 : Cond.fieldLink "LedTablesModel" 25 "LedTablesModel" "lawAt" "[I" ∈ a_w0 := a_w0_in (List.mem_append_right _ (List.mem_of_getElem? (i := 1446) (by decide +kernel))) rfl
theorem fl_Mod_25 : a_fl R_Mod 25 10 11 := ⟨R_Mod, F_Mod, 61, rfl, by decide, rfl, w_1446, uw_Mod, t_Mod_ok, n_Mod⟩
theorem w_1447 : Cond.fieldLink "LedTablesModel" 262 "LedTablesModel" "hasLens" "Z" ∈ a_w0 := a_w0_in (List.mem_append_right _ (List.mem_of_getElem? (i := 1447) (by decide +kernel))) rfl
theorem fl_Mod_262 : a_fl R_Mod 262 10 12 := ⟨R_Mod, F_Mod, 61, rfl, by decide, rfl, w_1447, uw_Mod, t_Mod_ok, n_Mod⟩
theorem w_1448 : Cond.fieldLink "LedTablesModel" 143 "LedTablesModel" "at" "I" ∈ a_w0 := a_w0_in (List.mem_append_right _ (List.mem_of_getElem? (i := 1448) (by decide +kernel))) rfl
theorem fl_Mod_143 : a_fl R_Mod 143 10 13 := ⟨R_Mod, F_Mod, 61, rfl, by decide, rfl, w_1448, uw_Mod, t_Mod_ok, n_Mod⟩
theorem w_1449 : Cond.fieldLink "LedTablesModel" 174 "LedTablesModel" "open" "I" ∈ a_w0 := a_w0_in (List.mem_append_right _ (List.mem_of_getElem? (i := 1449) (by decide +kernel))) rfl
theorem fl_Mod_174 : a_fl R_Mod 174 10 14 := ⟨R_Mod, F_Mod, 61, rfl, by decide, rfl, w_1449, uw_Mod, t_Mod_ok, n_Mod⟩
theorem w_1450 : Cond.fieldLink "LedTablesModel" 150 "LedTablesModel" "fault" "I" ∈ a_w0 := a_w0_in (List.mem_append_right _ (List.mem_of_getElem? (i := 1450) (by decide +kernel))) rfl
theorem fl_Mod_150 : a_fl R_Mod 150 10 15 := ⟨R_Mod, F_Mod, 61, rfl, by decide, rfl, w_1450, uw_Mod, t_Mod_ok, n_Mod⟩
theorem w_1451 : Cond.fieldLink "LedTablesModel" 153 "LedTablesModel" "faultAt" "I" ∈ a_w0 := a_w0_in (List.mem_append_right _ (List.mem_of_getElem? (i := 1451) (by decide +kernel))) rfl
theorem fl_Mod_153 : a_fl R_Mod 153 10 16 := ⟨R_Mod, F_Mod, 61, rfl, by decide, rfl, w_1451, uw_Mod, t_Mod_ok, n_Mod⟩
theorem w_1452 : Cond.fieldLink "LedTablesModel" 140 "LedTablesModel" "which" "I" ∈ a_w0 := a_w0_in (List.mem_append_right _ (List.mem_of_getElem? (i := 1452) (by decide +kernel))) rfl
theorem fl_Mod_140 : a_fl R_Mod 140 10 17 := ⟨R_Mod, F_Mod, 61, rfl, by decide, rfl, w_1452, uw_Mod, t_Mod_ok, n_Mod⟩
theorem w_1453 : Cond.fieldLink "LedTablesModel" 184 "LedTablesModel" "isOldAlone" "Z" ∈ a_w0 := a_w0_in (List.mem_append_right _ (List.mem_of_getElem? (i := 1453) (by decide +kernel))) rfl
theorem fl_Mod_184 : a_fl R_Mod 184 10 18 := ⟨R_Mod, F_Mod, 61, rfl, by decide, rfl, w_1453, uw_Mod, t_Mod_ok, n_Mod⟩
theorem w_1454 : Cond.fieldLink "LedTablesModel" 224 "LedTablesModel" "foundClauses" "I" ∈ a_w0 := a_w0_in (List.mem_append_right _ (List.mem_of_getElem? (i := 1454) (by decide +kernel))) rfl
theorem fl_Mod_224 : a_fl R_Mod 224 10 19 := ⟨R_Mod, F_Mod, 61, rfl, by decide, rfl, w_1454, uw_Mod, t_Mod_ok, n_Mod⟩
theorem w_1455 : Cond.fieldLink "LedTablesModel" 227 "LedTablesModel" "foundLaws" "I" ∈ a_w0 := a_w0_in (List.mem_append_right _ (List.mem_of_getElem? (i := 1455) (by decide +kernel))) rfl
theorem fl_Mod_227 : a_fl R_Mod 227 10 20 := ⟨R_Mod, F_Mod, 61, rfl, by decide, rfl, w_1455, uw_Mod, t_Mod_ok, n_Mod⟩
theorem w_1456 : Cond.fieldLink "LedTablesModel" 230 "LedTablesModel" "foundKeeps" "I" ∈ a_w0 := a_w0_in (List.mem_append_right _ (List.mem_of_getElem? (i := 1456) (by decide +kernel))) rfl
theorem fl_Mod_230 : a_fl R_Mod 230 10 21 := ⟨R_Mod, F_Mod, 61, rfl, by decide, rfl, w_1456, uw_Mod, t_Mod_ok, n_Mod⟩
theorem w_1457 : Cond.fieldLink "LedTablesModel" 28 "LedTablesModel" "foundBegins" "[I" ∈ a_w0 := a_w0_in (List.mem_append_right _ (List.mem_of_getElem? (i := 1457) (by decide +kernel))) rfl
theorem fl_Mod_28 : a_fl R_Mod 28 10 22 := ⟨R_Mod, F_Mod, 61, rfl, by decide, rfl, w_1457, uw_Mod, t_Mod_ok, n_Mod⟩
theorem w_1458 : Cond.fieldLink "LedTablesModel" 31 "LedTablesModel" "foundLawAt" "[I" ∈ a_w0 := a_w0_in (List.mem_append_right _ (List.mem_of_getElem? (i := 1458) (by decide +kernel))) rfl
theorem fl_Mod_31 : a_fl R_Mod 31 10 23 := ⟨R_Mod, F_Mod, 61, rfl, by decide, rfl, w_1458, uw_Mod, t_Mod_ok, n_Mod⟩
theorem w_1459 : Cond.fieldLink "LedTablesModel" 34 "LedTablesModel" "old" "[I" ∈ a_w0 := a_w0_in (List.mem_append_right _ (List.mem_of_getElem? (i := 1459) (by decide +kernel))) rfl
theorem fl_Mod_34 : a_fl R_Mod 34 10 24 := ⟨R_Mod, F_Mod, 61, rfl, by decide, rfl, w_1459, uw_Mod, t_Mod_ok, n_Mod⟩
theorem w_1460 : Cond.fieldLink "LedTablesModel" 37 "LedTablesModel" "fresh" "[I" ∈ a_w0 := a_w0_in (List.mem_append_right _ (List.mem_of_getElem? (i := 1460) (by decide +kernel))) rfl
theorem fl_Mod_37 : a_fl R_Mod 37 10 25 := ⟨R_Mod, F_Mod, 61, rfl, by decide, rfl, w_1460, uw_Mod, t_Mod_ok, n_Mod⟩
theorem w_1461 : Cond.fieldLink "LedTablesModel" 40 "LedTablesModel" "seen" "[I" ∈ a_w0 := a_w0_in (List.mem_append_right _ (List.mem_of_getElem? (i := 1461) (by decide +kernel))) rfl
theorem fl_Mod_40 : a_fl R_Mod 40 10 26 := ⟨R_Mod, F_Mod, 61, rfl, by decide, rfl, w_1461, uw_Mod, t_Mod_ok, n_Mod⟩
theorem w_1462 : Cond.fieldLink "LedTablesModel" 43 "LedTablesModel" "put" "[I" ∈ a_w0 := a_w0_in (List.mem_append_right _ (List.mem_of_getElem? (i := 1462) (by decide +kernel))) rfl
theorem fl_Mod_43 : a_fl R_Mod 43 10 27 := ⟨R_Mod, F_Mod, 61, rfl, by decide, rfl, w_1462, uw_Mod, t_Mod_ok, n_Mod⟩
theorem w_1463 : Cond.fieldLink "LedTablesModel" 46 "LedTablesModel" "low" "[I" ∈ a_w0 := a_w0_in (List.mem_append_right _ (List.mem_of_getElem? (i := 1463) (by decide +kernel))) rfl
theorem fl_Mod_46 : a_fl R_Mod 46 10 28 := ⟨R_Mod, F_Mod, 61, rfl, by decide, rfl, w_1463, uw_Mod, t_Mod_ok, n_Mod⟩
theorem w_1464 : Cond.fieldLink "LedTablesModel" 49 "LedTablesModel" "high" "[I" ∈ a_w0 := a_w0_in (List.mem_append_right _ (List.mem_of_getElem? (i := 1464) (by decide +kernel))) rfl
theorem fl_Mod_49 : a_fl R_Mod 49 10 29 := ⟨R_Mod, F_Mod, 61, rfl, by decide, rfl, w_1464, uw_Mod, t_Mod_ok, n_Mod⟩
theorem w_1465 : Cond.fieldLink "LedTablesModel" 52 "LedTablesModel" "row" "[I" ∈ a_w0 := a_w0_in (List.mem_append_right _ (List.mem_of_getElem? (i := 1465) (by decide +kernel))) rfl
theorem fl_Mod_52 : a_fl R_Mod 52 10 30 := ⟨R_Mod, F_Mod, 61, rfl, by decide, rfl, w_1465, uw_Mod, t_Mod_ok, n_Mod⟩
theorem w_1466 : Cond.fieldLink "LedTablesModel" 55 "LedTablesModel" "kept" "[I" ∈ a_w0 := a_w0_in (List.mem_append_right _ (List.mem_of_getElem? (i := 1466) (by decide +kernel))) rfl
theorem fl_Mod_55 : a_fl R_Mod 55 10 31 := ⟨R_Mod, F_Mod, 61, rfl, by decide, rfl, w_1466, uw_Mod, t_Mod_ok, n_Mod⟩
theorem w_1467 : Cond.fieldLink "LedTablesModel" 58 "LedTablesModel" "first" "[I" ∈ a_w0 := a_w0_in (List.mem_append_right _ (List.mem_of_getElem? (i := 1467) (by decide +kernel))) rfl
theorem fl_Mod_58 : a_fl R_Mod 58 10 32 := ⟨R_Mod, F_Mod, 61, rfl, by decide, rfl, w_1467, uw_Mod, t_Mod_ok, n_Mod⟩
theorem w_1468 : Cond.fieldLink "LedTablesModel" 63 "LedTablesModel" "groupSeen" "[[I" ∈ a_w0 := a_w0_in (List.mem_append_right _ (List.mem_of_getElem? (i := 1468) (by decide +kernel))) rfl
theorem fl_Mod_63 : a_fl R_Mod 63 10 33 := ⟨R_Mod, F_Mod, 61, rfl, by decide, rfl, w_1468, uw_Mod, t_Mod_ok, n_Mod⟩
theorem w_1469 : Cond.fieldLink "LedTablesModel" 66 "LedTablesModel" "isGroup" "[Z" ∈ a_w0 := a_w0_in (List.mem_append_right _ (List.mem_of_getElem? (i := 1469) (by decide +kernel))) rfl
theorem fl_Mod_66 : a_fl R_Mod 66 10 34 := ⟨R_Mod, F_Mod, 61, rfl, by decide, rfl, w_1469, uw_Mod, t_Mod_ok, n_Mod⟩
theorem w_1470 : Cond.fieldLink "LedTablesModel" 309 "LedTablesModel" "changes" "I" ∈ a_w0 := a_w0_in (List.mem_append_right _ (List.mem_of_getElem? (i := 1470) (by decide +kernel))) rfl
theorem fl_Mod_309 : a_fl R_Mod 309 10 35 := ⟨R_Mod, F_Mod, 61, rfl, by decide, rfl, w_1470, uw_Mod, t_Mod_ok, n_Mod⟩
theorem w_1471 : Cond.fieldLink "LedTablesModel" 312 "LedTablesModel" "programs" "I" ∈ a_w0 := a_w0_in (List.mem_append_right _ (List.mem_of_getElem? (i := 1471) (by decide +kernel))) rfl
theorem fl_Mod_312 : a_fl R_Mod 312 10 36 := ⟨R_Mod, F_Mod, 61, rfl, by decide, rfl, w_1471, uw_Mod, t_Mod_ok, n_Mod⟩
theorem w_1472 : Cond.fieldLink "LedTablesModel" 70 "LedTablesModel" "hold" "[[I" ∈ a_w0 := a_w0_in (List.mem_append_right _ (List.mem_of_getElem? (i := 1472) (by decide +kernel))) rfl
theorem fl_Mod_70 : a_fl R_Mod 70 10 38 := ⟨R_Mod, F_Mod, 61, rfl, by decide, rfl, w_1472, uw_Mod, t_Mod_ok, n_Mod⟩
theorem w_1473 : Cond.fieldLink "LedTablesModel" 73 "LedTablesModel" "need" "[[I" ∈ a_w0 := a_w0_in (List.mem_append_right _ (List.mem_of_getElem? (i := 1473) (by decide +kernel))) rfl
theorem fl_Mod_73 : a_fl R_Mod 73 10 39 := ⟨R_Mod, F_Mod, 61, rfl, by decide, rfl, w_1473, uw_Mod, t_Mod_ok, n_Mod⟩
theorem w_1474 : Cond.fieldLink "LedTablesModel" 78 "LedTablesModel" "isOrder" "[[Z" ∈ a_w0 := a_w0_in (List.mem_append_right _ (List.mem_of_getElem? (i := 1474) (by decide +kernel))) rfl
theorem fl_Mod_78 : a_fl R_Mod 78 10 40 := ⟨R_Mod, F_Mod, 61, rfl, by decide, rfl, w_1474, uw_Mod, t_Mod_ok, n_Mod⟩
theorem w_1475 : Cond.fieldLink "LedTablesModel" 81 "LedTablesModel" "isBar" "[[Z" ∈ a_w0 := a_w0_in (List.mem_append_right _ (List.mem_of_getElem? (i := 1475) (by decide +kernel))) rfl
theorem fl_Mod_81 : a_fl R_Mod 81 10 41 := ⟨R_Mod, F_Mod, 61, rfl, by decide, rfl, w_1475, uw_Mod, t_Mod_ok, n_Mod⟩
theorem w_1476 : Cond.fieldLink "LedTablesModel" 84 "LedTablesModel" "price" "[I" ∈ a_w0 := a_w0_in (List.mem_append_right _ (List.mem_of_getElem? (i := 1476) (by decide +kernel))) rfl
theorem fl_Mod_84 : a_fl R_Mod 84 10 42 := ⟨R_Mod, F_Mod, 61, rfl, by decide, rfl, w_1476, uw_Mod, t_Mod_ok, n_Mod⟩
theorem w_1477 : Cond.fieldLink "LedTablesModel" 87 "LedTablesModel" "best" "[I" ∈ a_w0 := a_w0_in (List.mem_append_right _ (List.mem_of_getElem? (i := 1477) (by decide +kernel))) rfl
theorem fl_Mod_87 : a_fl R_Mod 87 10 43 := ⟨R_Mod, F_Mod, 61, rfl, by decide, rfl, w_1477, uw_Mod, t_Mod_ok, n_Mod⟩
theorem w_1478 : Cond.fieldLink "LedTablesModel" 90 "LedTablesModel" "stood" "[Z" ∈ a_w0 := a_w0_in (List.mem_append_right _ (List.mem_of_getElem? (i := 1478) (by decide +kernel))) rfl
theorem fl_Mod_90 : a_fl R_Mod 90 10 44 := ⟨R_Mod, F_Mod, 61, rfl, by decide, rfl, w_1478, uw_Mod, t_Mod_ok, n_Mod⟩
theorem w_1479 : Cond.fieldLink "LedTablesModel" 244 "LedTablesModel" "stage" "I" ∈ a_w0 := a_w0_in (List.mem_append_right _ (List.mem_of_getElem? (i := 1479) (by decide +kernel))) rfl
theorem fl_Mod_244 : a_fl R_Mod 244 10 45 := ⟨R_Mod, F_Mod, 61, rfl, by decide, rfl, w_1479, uw_Mod, t_Mod_ok, n_Mod⟩
theorem w_1480 : Cond.fieldLink "LedTablesModel" 351 "LedTablesModel" "tick" "I" ∈ a_w0 := a_w0_in (List.mem_append_right _ (List.mem_of_getElem? (i := 1480) (by decide +kernel))) rfl
theorem fl_Mod_351 : a_fl R_Mod 351 10 46 := ⟨R_Mod, F_Mod, 61, rfl, by decide, rfl, w_1480, uw_Mod, t_Mod_ok, n_Mod⟩
theorem w_1481 : Cond.fieldLink "LedTablesModel" 383 "LedTablesModel" "formFirst" "I" ∈ a_w0 := a_w0_in (List.mem_append_right _ (List.mem_of_getElem? (i := 1481) (by decide +kernel))) rfl
theorem fl_Mod_383 : a_fl R_Mod 383 10 47 := ⟨R_Mod, F_Mod, 61, rfl, by decide, rfl, w_1481, uw_Mod, t_Mod_ok, n_Mod⟩
theorem w_1482 : Cond.fieldLink "LedTablesModel" 93 "LedTablesModel" "quiet" "I" ∈ a_w0 := a_w0_in (List.mem_append_right _ (List.mem_of_getElem? (i := 1482) (by decide +kernel))) rfl
theorem fl_Mod_93 : a_fl R_Mod 93 10 48 := ⟨R_Mod, F_Mod, 61, rfl, by decide, rfl, w_1482, uw_Mod, t_Mod_ok, n_Mod⟩
theorem w_1483 : Cond.fieldLink "LedTablesModel" 397 "LedTablesModel" "fall" "I" ∈ a_w0 := a_w0_in (List.mem_append_right _ (List.mem_of_getElem? (i := 1483) (by decide +kernel))) rfl
theorem fl_Mod_397 : a_fl R_Mod 397 10 49 := ⟨R_Mod, F_Mod, 61, rfl, by decide, rfl, w_1483, uw_Mod, t_Mod_ok, n_Mod⟩
theorem w_1484 : Cond.fieldLink "LedTablesModel" 96 "LedTablesModel" "isThere" "[Z" ∈ a_w0 := a_w0_in (List.mem_append_right _ (List.mem_of_getElem? (i := 1484) (by decide +kernel))) rfl
theorem fl_Mod_96 : a_fl R_Mod 96 10 50 := ⟨R_Mod, F_Mod, 61, rfl, by decide, rfl, w_1484, uw_Mod, t_Mod_ok, n_Mod⟩
theorem w_1485 : Cond.fieldLink "LedTablesModel" 99 "LedTablesModel" "isBroken" "[Z" ∈ a_w0 := a_w0_in (List.mem_append_right _ (List.mem_of_getElem? (i := 1485) (by decide +kernel))) rfl
theorem fl_Mod_99 : a_fl R_Mod 99 10 51 := ⟨R_Mod, F_Mod, 61, rfl, by decide, rfl, w_1485, uw_Mod, t_Mod_ok, n_Mod⟩
theorem w_1486 : Cond.fieldLink "LedTablesModel" 102 "LedTablesModel" "kind" "[I" ∈ a_w0 := a_w0_in (List.mem_append_right _ (List.mem_of_getElem? (i := 1486) (by decide +kernel))) rfl
theorem fl_Mod_102 : a_fl R_Mod 102 10 52 := ⟨R_Mod, F_Mod, 61, rfl, by decide, rfl, w_1486, uw_Mod, t_Mod_ok, n_Mod⟩
theorem w_1487 : Cond.fieldLink "LedTablesModel" 105 "LedTablesModel" "since" "[I" ∈ a_w0 := a_w0_in (List.mem_append_right _ (List.mem_of_getElem? (i := 1487) (by decide +kernel))) rfl
theorem fl_Mod_105 : a_fl R_Mod 105 10 53 := ⟨R_Mod, F_Mod, 61, rfl, by decide, rfl, w_1487, uw_Mod, t_Mod_ok, n_Mod⟩
theorem w_1488 : Cond.fieldLink "LedTablesModel" 108 "LedTablesModel" "by" "[I" ∈ a_w0 := a_w0_in (List.mem_append_right _ (List.mem_of_getElem? (i := 1488) (by decide +kernel))) rfl
theorem fl_Mod_108 : a_fl R_Mod 108 10 54 := ⟨R_Mod, F_Mod, 61, rfl, by decide, rfl, w_1488, uw_Mod, t_Mod_ok, n_Mod⟩
theorem w_1489 : Cond.fieldLink "LedTablesModel" 111 "LedTablesModel" "rowOld" "[[I" ∈ a_w0 := a_w0_in (List.mem_append_right _ (List.mem_of_getElem? (i := 1489) (by decide +kernel))) rfl
theorem fl_Mod_111 : a_fl R_Mod 111 10 55 := ⟨R_Mod, F_Mod, 61, rfl, by decide, rfl, w_1489, uw_Mod, t_Mod_ok, n_Mod⟩
theorem w_1490 : Cond.fieldLink "LedTablesModel" 114 "LedTablesModel" "rowNew" "[[I" ∈ a_w0 := a_w0_in (List.mem_append_right _ (List.mem_of_getElem? (i := 1490) (by decide +kernel))) rfl
theorem fl_Mod_114 : a_fl R_Mod 114 10 56 := ⟨R_Mod, F_Mod, 61, rfl, by decide, rfl, w_1490, uw_Mod, t_Mod_ok, n_Mod⟩
theorem w_1491 : Cond.fieldLink "LedTablesModel" 117 "LedTablesModel" "beside" "[[I" ∈ a_w0 := a_w0_in (List.mem_append_right _ (List.mem_of_getElem? (i := 1491) (by decide +kernel))) rfl
theorem fl_Mod_117 : a_fl R_Mod 117 10 57 := ⟨R_Mod, F_Mod, 61, rfl, by decide, rfl, w_1491, uw_Mod, t_Mod_ok, n_Mod⟩
theorem w_1492 : Cond.fieldLink "LedTablesModel" 120 "LedTablesModel" "written" "[[I" ∈ a_w0 := a_w0_in (List.mem_append_right _ (List.mem_of_getElem? (i := 1492) (by decide +kernel))) rfl
theorem fl_Mod_120 : a_fl R_Mod 120 10 58 := ⟨R_Mod, F_Mod, 61, rfl, by decide, rfl, w_1492, uw_Mod, t_Mod_ok, n_Mod⟩
theorem w_1493 : Cond.fieldLink "LedTablesModel" 125 "LedTablesModel" "reads" "[[[I" ∈ a_w0 := a_w0_in (List.mem_append_right _ (List.mem_of_getElem? (i := 1493) (by decide +kernel))) rfl
theorem fl_Mod_125 : a_fl R_Mod 125 10 59 := ⟨R_Mod, F_Mod, 61, rfl, by decide, rfl, w_1493, uw_Mod, t_Mod_ok, n_Mod⟩
theorem w_1494 : Cond.fieldLink "LedTablesModel" 128 "LedTablesModel" "writes" "[[[I" ∈ a_w0 := a_w0_in (List.mem_append_right _ (List.mem_of_getElem? (i := 1494) (by decide +kernel))) rfl
theorem fl_Mod_128 : a_fl R_Mod 128 10 60 := ⟨R_Mod, F_Mod, 61, rfl, by decide, rfl, w_1494, uw_Mod, t_Mod_ok, n_Mod⟩
theorem ok_Led_init : a_ok M_Led_init := ⟨by decide +kernel, rfl, by decide +kernel⟩
theorem w_1 : Cond.initialized "LedTables" ∈ a_w0 := a_w0_in (List.mem_append_right _ (List.mem_of_getElem? (i := 1) (by decide +kernel))) rfl
theorem w_29 : Cond.code ⟨"LedTables", "<init>", "()V"⟩ prog_1_method_1_code 1 none ∈ a_w0 := a_w0_in (List.mem_append_right _ (List.mem_of_getElem? (i := 29) (by decide +kernel))) rfl
theorem cm_Led_init : a_cm M_Led_init 0 := ⟨w_29, rfl, w_1, by decide, by decide +kernel, by decide +kernel, by decide +kernel⟩
theorem ok_Len_init : a_ok M_Len_init := ⟨by decide +kernel, rfl, by decide +kernel⟩
theorem w_2 : Cond.initialized "LedTables$Lens" ∈ a_w0 := a_w0_in (List.mem_append_right _ (List.mem_of_getElem? (i := 2) (by decide +kernel))) rfl
theorem w_37 : Cond.code ⟨"LedTables$Lens", "<init>", "()V"⟩ prog_4_method_1_code 2 none ∈ a_w0 := a_w0_in (List.mem_append_right _ (List.mem_of_getElem? (i := 37) (by decide +kernel))) rfl
theorem cm_Len_init : a_cm M_Len_init 0 := ⟨w_37, rfl, w_2, by decide, by decide +kernel, by decide +kernel, by decide +kernel⟩
theorem ok_Len_addOrder : a_ok M_Len_addOrder := ⟨by decide +kernel, rfl, by decide +kernel⟩
theorem w_42 : Cond.code ⟨"LedTables$Lens", "addOrder", "(II)I"⟩ prog_4_method_4_code 3 (some .int) ∈ a_w0 := a_w0_in (List.mem_append_right _ (List.mem_of_getElem? (i := 42) (by decide +kernel))) rfl
theorem cm_Len_addOrder : a_cm M_Len_addOrder 2 := ⟨w_42, rfl, w_2, by decide, by decide +kernel, by decide +kernel, by decide +kernel⟩
theorem ok_Rea_init : a_ok M_Rea_init := ⟨by decide +kernel, rfl, by decide +kernel⟩
theorem w_3 : Cond.initialized "LedTables$Reader" ∈ a_w0 := a_w0_in (List.mem_append_right _ (List.mem_of_getElem? (i := 3) (by decide +kernel))) rfl
theorem w_85 : Cond.code ⟨"LedTables$Reader", "<init>", "([ILLedTables$Lens;)V"⟩ prog_7_method_1_code 3 none ∈ a_w0 := a_w0_in (List.mem_append_right _ (List.mem_of_getElem? (i := 85) (by decide +kernel))) rfl
theorem cm_Rea_init : a_cm M_Rea_init 2 := ⟨w_85, rfl, w_3, by decide, by decide +kernel, by decide +kernel, by decide +kernel⟩
theorem ok_Box_init : a_ok M_Box_init := ⟨by decide +kernel, rfl, by decide +kernel⟩
theorem w_4 : Cond.initialized "LedTables$Box" ∈ a_w0 := a_w0_in (List.mem_append_right _ (List.mem_of_getElem? (i := 4) (by decide +kernel))) rfl
theorem w_119 : Cond.code ⟨"LedTables$Box", "<init>", "(LLedTables$Lens;)V"⟩ prog_3_method_1_code 2 none ∈ a_w0 := a_w0_in (List.mem_append_right _ (List.mem_of_getElem? (i := 119) (by decide +kernel))) rfl
theorem cm_Box_init : a_cm M_Box_init 1 := ⟨w_119, rfl, w_4, by decide, by decide +kernel, by decide +kernel, by decide +kernel⟩
theorem ok_Pla_init : a_ok M_Pla_init := ⟨by decide +kernel, rfl, by decide +kernel⟩
theorem w_5 : Cond.initialized "LedTables$Plan" ∈ a_w0 := a_w0_in (List.mem_append_right _ (List.mem_of_getElem? (i := 5) (by decide +kernel))) rfl
theorem w_153 : Cond.code ⟨"LedTables$Plan", "<init>", "()V"⟩ prog_6_method_1_code 2 none ∈ a_w0 := a_w0_in (List.mem_append_right _ (List.mem_of_getElem? (i := 153) (by decide +kernel))) rfl
theorem cm_Pla_init : a_cm M_Pla_init 0 := ⟨w_153, rfl, w_5, by decide, by decide +kernel, by decide +kernel, by decide +kernel⟩
theorem ok_Ask_init : a_ok M_Ask_init := ⟨by decide +kernel, rfl, by decide +kernel⟩
theorem w_6 : Cond.initialized "LedTables$Asked" ∈ a_w0 := a_w0_in (List.mem_append_right _ (List.mem_of_getElem? (i := 6) (by decide +kernel))) rfl
theorem w_189 : Cond.code ⟨"LedTables$Asked", "<init>", "()V"⟩ prog_2_method_1_code 2 none ∈ a_w0 := a_w0_in (List.mem_append_right _ (List.mem_of_getElem? (i := 189) (by decide +kernel))) rfl
theorem cm_Ask_init : a_cm M_Ask_init 0 := ⟨w_189, rfl, w_6, by decide, by decide +kernel, by decide +kernel, by decide +kernel⟩
theorem ok_Tab_init : a_ok M_Tab_init := ⟨by decide +kernel, rfl, by decide +kernel⟩
theorem w_7 : Cond.initialized "LedTables$Table" ∈ a_w0 := a_w0_in (List.mem_append_right _ (List.mem_of_getElem? (i := 7) (by decide +kernel))) rfl
theorem w_199 : Cond.code ⟨"LedTables$Table", "<init>", "(LLedTables$Lens;LLedTables$Asked;)V"⟩ prog_9_method_1_code 4 none ∈ a_w0 := a_w0_in (List.mem_append_right _ (List.mem_of_getElem? (i := 199) (by decide +kernel))) rfl
theorem cm_Tab_init : a_cm M_Tab_init 2 := ⟨w_199, rfl, w_7, by decide, by decide +kernel, by decide +kernel, by decide +kernel⟩
theorem ok_Row_init : a_ok M_Row_init := ⟨by decide +kernel, rfl, by decide +kernel⟩
theorem w_8 : Cond.initialized "LedTables$Row" ∈ a_w0 := a_w0_in (List.mem_append_right _ (List.mem_of_getElem? (i := 8) (by decide +kernel))) rfl
theorem w_206 : Cond.code ⟨"LedTables$Row", "<init>", "()V"⟩ prog_8_method_1_code 1 none ∈ a_w0 := a_w0_in (List.mem_append_right _ (List.mem_of_getElem? (i := 206) (by decide +kernel))) rfl
theorem cm_Row_init : a_cm M_Row_init 0 := ⟨w_206, rfl, w_8, by decide, by decide +kernel, by decide +kernel, by decide +kernel⟩
theorem ok_Led_feed : a_ok M_Led_feed := ⟨by decide +kernel, rfl, by decide +kernel⟩
theorem w_313 : Cond.code ⟨"LedTables", "feed", "(IIIII)I"⟩ prog_1_method_2_code 6 (some .int) ∈ a_w0 := a_w0_in (List.mem_append_right _ (List.mem_of_getElem? (i := 313) (by decide +kernel))) rfl
theorem cm_Led_feed : a_cm M_Led_feed 5 := ⟨w_313, rfl, w_1, by decide, by decide +kernel, by decide +kernel, by decide +kernel⟩
theorem ok_Led_feedNumber : a_ok M_Led_feedNumber := ⟨by decide +kernel, rfl, by decide +kernel⟩
theorem w_317 : Cond.code ⟨"LedTables", "feedNumber", "(I)V"⟩ prog_1_method_3_code 3 none ∈ a_w0 := a_w0_in (List.mem_append_right _ (List.mem_of_getElem? (i := 317) (by decide +kernel))) rfl
theorem cm_Led_feedNumber : a_cm M_Led_feedNumber 1 := ⟨w_317, rfl, w_1, by decide, by decide +kernel, by decide +kernel, by decide +kernel⟩
theorem ok_Led_fault : a_ok M_Led_fault := ⟨by decide +kernel, rfl, by decide +kernel⟩
theorem w_321 : Cond.code ⟨"LedTables", "fault", "()I"⟩ prog_1_method_5_code 1 (some .int) ∈ a_w0 := a_w0_in (List.mem_append_right _ (List.mem_of_getElem? (i := 321) (by decide +kernel))) rfl
theorem cm_Led_fault : a_cm M_Led_fault 0 := ⟨w_321, rfl, w_1, by decide, by decide +kernel, by decide +kernel, by decide +kernel⟩
theorem ok_Led_lost : a_ok M_Led_lost := ⟨by decide +kernel, rfl, by decide +kernel⟩
theorem w_325 : Cond.code ⟨"LedTables", "lost", "()I"⟩ prog_1_method_12_code 1 (some .int) ∈ a_w0 := a_w0_in (List.mem_append_right _ (List.mem_of_getElem? (i := 325) (by decide +kernel))) rfl
theorem cm_Led_lost : a_cm M_Led_lost 0 := ⟨w_325, rfl, w_1, by decide, by decide +kernel, by decide +kernel, by decide +kernel⟩
theorem ok_Box_lostLetters : a_ok M_Box_lostLetters := ⟨by decide +kernel, rfl, by decide +kernel⟩
theorem w_329 : Cond.code ⟨"LedTables$Box", "lostLetters", "()I"⟩ prog_3_method_6_code 6 (some .int) ∈ a_w0 := a_w0_in (List.mem_append_right _ (List.mem_of_getElem? (i := 329) (by decide +kernel))) rfl
theorem cm_Box_lostLetters : a_cm M_Box_lostLetters 0 := ⟨w_329, rfl, w_4, by decide, by decide +kernel, by decide +kernel, by decide +kernel⟩
theorem ok_Lik_init : a_ok M_Lik_init := ⟨by decide +kernel, rfl, by decide +kernel⟩
theorem w_21 : Cond.initialized "LedTables$Likes" ∈ a_w0 := a_w0_in (List.mem_append_right _ (List.mem_of_getElem? (i := 21) (by decide +kernel))) rfl
theorem w_334 : Cond.code ⟨"LedTables$Likes", "<init>", "()V"⟩ prog_5_method_1_code 1 none ∈ a_w0 := a_w0_in (List.mem_append_right _ (List.mem_of_getElem? (i := 334) (by decide +kernel))) rfl
theorem cm_Lik_init : a_cm M_Lik_init 0 := ⟨w_334, rfl, w_21, by decide, by decide +kernel, by decide +kernel, by decide +kernel⟩
theorem ok_Lik_forget : a_ok M_Lik_forget := ⟨by decide +kernel, rfl, by decide +kernel⟩
theorem w_347 : Cond.code ⟨"LedTables$Likes", "forget", "()V"⟩ prog_5_method_2_code 2 none ∈ a_w0 := a_w0_in (List.mem_append_right _ (List.mem_of_getElem? (i := 347) (by decide +kernel))) rfl
theorem cm_Lik_forget : a_cm M_Lik_forget 0 := ⟨w_347, rfl, w_21, by decide, by decide +kernel, by decide +kernel, by decide +kernel⟩
theorem ok_Box_manyBoxed : a_ok M_Box_manyBoxed := ⟨by decide +kernel, rfl, by decide +kernel⟩
theorem w_351 : Cond.code ⟨"LedTables$Box", "manyBoxed", "()I"⟩ prog_3_method_9_code 3 (some .int) ∈ a_w0 := a_w0_in (List.mem_append_right _ (List.mem_of_getElem? (i := 351) (by decide +kernel))) rfl
theorem cm_Box_manyBoxed : a_cm M_Box_manyBoxed 0 := ⟨w_351, rfl, w_4, by decide, by decide +kernel, by decide +kernel, by decide +kernel⟩
theorem ok_Box_seeRow : a_ok M_Box_seeRow := ⟨by decide +kernel, rfl, by decide +kernel⟩
theorem w_358 : Cond.code ⟨"LedTables$Box", "seeRow", "(I)V"⟩ prog_3_method_8_code 2 none ∈ a_w0 := a_w0_in (List.mem_append_right _ (List.mem_of_getElem? (i := 358) (by decide +kernel))) rfl
theorem cm_Box_seeRow : a_cm M_Box_seeRow 1 := ⟨w_358, rfl, w_4, by decide, by decide +kernel, by decide +kernel, by decide +kernel⟩
theorem ok_Box_fillRow : a_ok M_Box_fillRow := ⟨by decide +kernel, rfl, by decide +kernel⟩
theorem w_362 : Cond.code ⟨"LedTables$Box", "fillRow", "(I[I)V"⟩ prog_3_method_10_code 6 none ∈ a_w0 := a_w0_in (List.mem_append_right _ (List.mem_of_getElem? (i := 362) (by decide +kernel))) rfl
theorem cm_Box_fillRow : a_cm M_Box_fillRow 2 := ⟨w_362, rfl, w_4, by decide, by decide +kernel, by decide +kernel, by decide +kernel⟩
theorem ok_Len_toNew : a_ok M_Len_toNew := ⟨by decide +kernel, rfl, by decide +kernel⟩
theorem w_369 : Cond.code ⟨"LedTables$Lens", "toNew", "([I[I)V"⟩ prog_4_method_11_code 5 none ∈ a_w0 := a_w0_in (List.mem_append_right _ (List.mem_of_getElem? (i := 369) (by decide +kernel))) rfl
theorem cm_Len_toNew : a_cm M_Len_toNew 2 := ⟨w_369, rfl, w_2, by decide, by decide +kernel, by decide +kernel, by decide +kernel⟩
theorem ok_Len_work : a_ok M_Len_work := ⟨by decide +kernel, rfl, by decide +kernel⟩
theorem w_373 : Cond.code ⟨"LedTables$Lens", "work", "(II[I[I)I"⟩ prog_4_method_15_code 10 (some .int) ∈ a_w0 := a_w0_in (List.mem_append_right _ (List.mem_of_getElem? (i := 373) (by decide +kernel))) rfl
theorem cm_Len_work : a_cm M_Len_work 4 := ⟨w_373, rfl, w_2, by decide, by decide +kernel, by decide +kernel, by decide +kernel⟩
theorem ok_Len_valueOf : a_ok M_Len_valueOf := ⟨by decide +kernel, rfl, by decide +kernel⟩
theorem w_376 : Cond.code ⟨"LedTables$Lens", "valueOf", "(II[I[I)I"⟩ prog_4_method_16_code 5 (some .int) ∈ a_w0 := a_w0_in (List.mem_append_right _ (List.mem_of_getElem? (i := 376) (by decide +kernel))) rfl
theorem cm_Len_valueOf : a_cm M_Len_valueOf 4 := ⟨w_376, rfl, w_2, by decide, by decide +kernel, by decide +kernel, by decide +kernel⟩
theorem ok_Len_join : a_ok M_Len_join := ⟨by decide +kernel, rfl, by decide +kernel⟩
theorem w_379 : Cond.code ⟨"LedTables$Lens", "join", "(III)I"⟩ prog_4_method_17_code 3 (some .int) ∈ a_w0 := a_w0_in (List.mem_append_right _ (List.mem_of_getElem? (i := 379) (by decide +kernel))) rfl
theorem cm_Len_join : a_cm M_Len_join 3 := ⟨w_379, rfl, w_2, by decide, by decide +kernel, by decide +kernel, by decide +kernel⟩
theorem ok_Len_toBeside : a_ok M_Len_toBeside := ⟨by decide +kernel, rfl, by decide +kernel⟩
theorem w_383 : Cond.code ⟨"LedTables$Lens", "toBeside", "([I[I)V"⟩ prog_4_method_12_code 4 none ∈ a_w0 := a_w0_in (List.mem_append_right _ (List.mem_of_getElem? (i := 383) (by decide +kernel))) rfl
theorem cm_Len_toBeside : a_cm M_Len_toBeside 2 := ⟨w_383, rfl, w_2, by decide, by decide +kernel, by decide +kernel, by decide +kernel⟩
theorem ok_Lik_firstLike : a_ok M_Lik_firstLike := ⟨by decide +kernel, rfl, by decide +kernel⟩
theorem w_387 : Cond.code ⟨"LedTables$Likes", "firstLike", "(I[I[I)I"⟩ prog_5_method_3_code 7 (some .int) ∈ a_w0 := a_w0_in (List.mem_append_right _ (List.mem_of_getElem? (i := 387) (by decide +kernel))) rfl
theorem cm_Lik_firstLike : a_cm M_Lik_firstLike 3 := ⟨w_387, rfl, w_21, by decide, by decide +kernel, by decide +kernel, by decide +kernel⟩
theorem ok_Lik_keepSeen : a_ok M_Lik_keepSeen := ⟨by decide +kernel, rfl, by decide +kernel⟩
theorem w_391 : Cond.code ⟨"LedTables$Likes", "keepSeen", "(I[I[I)V"⟩ prog_5_method_4_code 4 none ∈ a_w0 := a_w0_in (List.mem_append_right _ (List.mem_of_getElem? (i := 391) (by decide +kernel))) rfl
theorem cm_Lik_keepSeen : a_cm M_Lik_keepSeen 3 := ⟨w_391, rfl, w_21, by decide, by decide +kernel, by decide +kernel, by decide +kernel⟩
theorem ok_Lik_placeOf : a_ok M_Lik_placeOf := ⟨by decide +kernel, rfl, by decide +kernel⟩
theorem w_397 : Cond.code ⟨"LedTables$Likes", "placeOf", "([I[I)I"⟩ prog_5_method_6_code 4 (some .int) ∈ a_w0 := a_w0_in (List.mem_append_right _ (List.mem_of_getElem? (i := 397) (by decide +kernel))) rfl
theorem cm_Lik_placeOf : a_cm M_Lik_placeOf 2 := ⟨w_397, rfl, w_21, by decide, by decide +kernel, by decide +kernel, by decide +kernel⟩
theorem ok_Lik_isSameSeen : a_ok M_Lik_isSameSeen := ⟨by decide +kernel, rfl, by decide +kernel⟩
theorem w_403 : Cond.code ⟨"LedTables$Likes", "isSameSeen", "(II)Z"⟩ prog_5_method_5_code 4 (some .boolean) ∈ a_w0 := a_w0_in (List.mem_append_right _ (List.mem_of_getElem? (i := 403) (by decide +kernel))) rfl
theorem cm_Lik_isSameSeen : a_cm M_Lik_isSameSeen 2 := ⟨w_403, rfl, w_21, by decide, by decide +kernel, by decide +kernel, by decide +kernel⟩
theorem ok_Len_isKept : a_ok M_Len_isKept := ⟨by decide +kernel, rfl, by decide +kernel⟩
theorem w_407 : Cond.code ⟨"LedTables$Lens", "isKept", "(I)Z"⟩ prog_4_method_10_code 2 (some .boolean) ∈ a_w0 := a_w0_in (List.mem_append_right _ (List.mem_of_getElem? (i := 407) (by decide +kernel))) rfl
theorem cm_Len_isKept : a_cm M_Len_isKept 1 := ⟨w_407, rfl, w_2, by decide, by decide +kernel, by decide +kernel, by decide +kernel⟩
theorem ok_Led_wrong : a_ok M_Led_wrong := ⟨by decide +kernel, rfl, by decide +kernel⟩
theorem w_411 : Cond.code ⟨"LedTables", "wrong", "()I"⟩ prog_1_method_13_code 1 (some .int) ∈ a_w0 := a_w0_in (List.mem_append_right _ (List.mem_of_getElem? (i := 411) (by decide +kernel))) rfl
theorem cm_Led_wrong : a_cm M_Led_wrong 0 := ⟨w_411, rfl, w_1, by decide, by decide +kernel, by decide +kernel, by decide +kernel⟩
theorem ok_Box_manyWrong : a_ok M_Box_manyWrong := ⟨by decide +kernel, rfl, by decide +kernel⟩
theorem w_415 : Cond.code ⟨"LedTables$Box", "manyWrong", "()I"⟩ prog_3_method_5_code 4 (some .int) ∈ a_w0 := a_w0_in (List.mem_append_right _ (List.mem_of_getElem? (i := 415) (by decide +kernel))) rfl
theorem cm_Box_manyWrong : a_cm M_Box_manyWrong 0 := ⟨w_415, rfl, w_4, by decide, by decide +kernel, by decide +kernel, by decide +kernel⟩
theorem ok_Len_isRight : a_ok M_Len_isRight := ⟨by decide +kernel, rfl, by decide +kernel⟩
theorem w_419 : Cond.code ⟨"LedTables$Lens", "isRight", "([I[I)Z"⟩ prog_4_method_14_code 4 (some .boolean) ∈ a_w0 := a_w0_in (List.mem_append_right _ (List.mem_of_getElem? (i := 419) (by decide +kernel))) rfl
theorem cm_Len_isRight : a_cm M_Len_isRight 2 := ⟨w_419, rfl, w_2, by decide, by decide +kernel, by decide +kernel, by decide +kernel⟩
theorem ok_Led_change : a_ok M_Led_change := ⟨by decide +kernel, rfl, by decide +kernel⟩
theorem w_423 : Cond.code ⟨"LedTables", "change", "()I"⟩ prog_1_method_14_code 1 (some .int) ∈ a_w0 := a_w0_in (List.mem_append_right _ (List.mem_of_getElem? (i := 423) (by decide +kernel))) rfl
theorem cm_Led_change : a_cm M_Led_change 0 := ⟨w_423, rfl, w_1, by decide, by decide +kernel, by decide +kernel, by decide +kernel⟩
theorem ok_Pla_addChange : a_ok M_Pla_addChange := ⟨by decide +kernel, rfl, by decide +kernel⟩
theorem w_427 : Cond.code ⟨"LedTables$Plan", "addChange", "()I"⟩ prog_6_method_2_code 1 (some .int) ∈ a_w0 := a_w0_in (List.mem_append_right _ (List.mem_of_getElem? (i := 427) (by decide +kernel))) rfl
theorem cm_Pla_addChange : a_cm M_Pla_addChange 0 := ⟨w_427, rfl, w_5, by decide, by decide +kernel, by decide +kernel, by decide +kernel⟩
theorem ok_Led_program : a_ok M_Led_program := ⟨by decide +kernel, rfl, by decide +kernel⟩
theorem w_431 : Cond.code ⟨"LedTables", "program", "()I"⟩ prog_1_method_17_code 1 (some .int) ∈ a_w0 := a_w0_in (List.mem_append_right _ (List.mem_of_getElem? (i := 431) (by decide +kernel))) rfl
theorem cm_Led_program : a_cm M_Led_program 0 := ⟨w_431, rfl, w_1, by decide, by decide +kernel, by decide +kernel, by decide +kernel⟩
theorem ok_Pla_addProgram : a_ok M_Pla_addProgram := ⟨by decide +kernel, rfl, by decide +kernel⟩
theorem w_435 : Cond.code ⟨"LedTables$Plan", "addProgram", "()I"⟩ prog_6_method_3_code 1 (some .int) ∈ a_w0 := a_w0_in (List.mem_append_right _ (List.mem_of_getElem? (i := 435) (by decide +kernel))) rfl
theorem cm_Pla_addProgram : a_cm M_Pla_addProgram 0 := ⟨w_435, rfl, w_5, by decide, by decide +kernel, by decide +kernel, by decide +kernel⟩
theorem ok_Led_go : a_ok M_Led_go := ⟨by decide +kernel, rfl, by decide +kernel⟩
theorem w_439 : Cond.code ⟨"LedTables", "go", "()I"⟩ prog_1_method_26_code 1 (some .int) ∈ a_w0 := a_w0_in (List.mem_append_right _ (List.mem_of_getElem? (i := 439) (by decide +kernel))) rfl
theorem cm_Led_go : a_cm M_Led_go 0 := ⟨w_439, rfl, w_1, by decide, by decide +kernel, by decide +kernel, by decide +kernel⟩
theorem ok_Tab_goOn : a_ok M_Tab_goOn := ⟨by decide +kernel, rfl, by decide +kernel⟩
theorem w_443 : Cond.code ⟨"LedTables$Table", "goOn", "()I"⟩ prog_9_method_3_code 1 (some .int) ∈ a_w0 := a_w0_in (List.mem_append_right _ (List.mem_of_getElem? (i := 443) (by decide +kernel))) rfl
theorem cm_Tab_goOn : a_cm M_Tab_goOn 0 := ⟨w_443, rfl, w_7, by decide, by decide +kernel, by decide +kernel, by decide +kernel⟩
theorem ok_Tab_mayGoOn : a_ok M_Tab_mayGoOn := ⟨by decide +kernel, rfl, by decide +kernel⟩
theorem w_447 : Cond.code ⟨"LedTables$Table", "mayGoOn", "()Z"⟩ prog_9_method_4_code 1 (some .boolean) ∈ a_w0 := a_w0_in (List.mem_append_right _ (List.mem_of_getElem? (i := 447) (by decide +kernel))) rfl
theorem cm_Tab_mayGoOn : a_cm M_Tab_mayGoOn 0 := ⟨w_447, rfl, w_7, by decide, by decide +kernel, by decide +kernel, by decide +kernel⟩
theorem ok_Tab_manyOf : a_ok M_Tab_manyOf := ⟨by decide +kernel, rfl, by decide +kernel⟩
theorem w_451 : Cond.code ⟨"LedTables$Table", "manyOf", "(I)I"⟩ prog_9_method_29_code 4 (some .int) ∈ a_w0 := a_w0_in (List.mem_append_right _ (List.mem_of_getElem? (i := 451) (by decide +kernel))) rfl
theorem cm_Tab_manyOf : a_cm M_Tab_manyOf 1 := ⟨w_451, rfl, w_7, by decide, by decide +kernel, by decide +kernel, by decide +kernel⟩
theorem ok_Tab_manyBroken : a_ok M_Tab_manyBroken := ⟨by decide +kernel, rfl, by decide +kernel⟩
theorem w_455 : Cond.code ⟨"LedTables$Table", "manyBroken", "()I"⟩ prog_9_method_30_code 3 (some .int) ∈ a_w0 := a_w0_in (List.mem_append_right _ (List.mem_of_getElem? (i := 455) (by decide +kernel))) rfl
theorem cm_Tab_manyBroken : a_cm M_Tab_manyBroken 0 := ⟨w_455, rfl, w_7, by decide, by decide +kernel, by decide +kernel, by decide +kernel⟩
theorem ok_Row_isBroken : a_ok M_Row_isBroken := ⟨by decide +kernel, rfl, by decide +kernel⟩
theorem w_459 : Cond.code ⟨"LedTables$Row", "isBroken", "()Z"⟩ prog_8_method_5_code 1 (some .boolean) ∈ a_w0 := a_w0_in (List.mem_append_right _ (List.mem_of_getElem? (i := 459) (by decide +kernel))) rfl
theorem cm_Row_isBroken : a_cm M_Row_isBroken 0 := ⟨w_459, rfl, w_8, by decide, by decide +kernel, by decide +kernel, by decide +kernel⟩
theorem ok_Tab_manyOdd : a_ok M_Tab_manyOdd := ⟨by decide +kernel, rfl, by decide +kernel⟩
theorem w_463 : Cond.code ⟨"LedTables$Table", "manyOdd", "()I"⟩ prog_9_method_31_code 3 (some .int) ∈ a_w0 := a_w0_in (List.mem_append_right _ (List.mem_of_getElem? (i := 463) (by decide +kernel))) rfl
theorem cm_Tab_manyOdd : a_cm M_Tab_manyOdd 0 := ⟨w_463, rfl, w_7, by decide, by decide +kernel, by decide +kernel, by decide +kernel⟩
theorem ok_Tab_isOdd : a_ok M_Tab_isOdd := ⟨by decide +kernel, rfl, by decide +kernel⟩
theorem w_467 : Cond.code ⟨"LedTables$Table", "isOdd", "(LLedTables$Row;)Z"⟩ prog_9_method_23_code 2 (some .boolean) ∈ a_w0 := a_w0_in (List.mem_append_right _ (List.mem_of_getElem? (i := 467) (by decide +kernel))) rfl
theorem cm_Tab_isOdd : a_cm M_Tab_isOdd 1 := ⟨w_467, rfl, w_7, by decide, by decide +kernel, by decide +kernel, by decide +kernel⟩
theorem ok_Led_areAlike : a_ok M_Led_areAlike := ⟨by decide +kernel, rfl, by decide +kernel⟩
theorem w_471 : Cond.code ⟨"LedTables", "areAlike", "([I[I)Z"⟩ prog_1_method_53_code 3 (some .boolean) ∈ a_w0 := a_w0_in (List.mem_append_right _ (List.mem_of_getElem? (i := 471) (by decide +kernel))) rfl
theorem cm_Led_areAlike : a_cm M_Led_areAlike 2 := ⟨w_471, rfl, w_1, by decide, by decide +kernel, by decide +kernel, by decide +kernel⟩
theorem ok_Ask_isOldAsked : a_ok M_Ask_isOldAsked := ⟨by decide +kernel, rfl, by decide +kernel⟩
theorem w_475 : Cond.code ⟨"LedTables$Asked", "isOldAsked", "(I)Z"⟩ prog_2_method_6_code 3 (some .boolean) ∈ a_w0 := a_w0_in (List.mem_append_right _ (List.mem_of_getElem? (i := 475) (by decide +kernel))) rfl
theorem cm_Ask_isOldAsked : a_cm M_Ask_isOldAsked 1 := ⟨w_475, rfl, w_6, by decide, by decide +kernel, by decide +kernel, by decide +kernel⟩
theorem ok_Ask_oldAskers : a_ok M_Ask_oldAskers := ⟨by decide +kernel, rfl, by decide +kernel⟩
theorem w_479 : Cond.code ⟨"LedTables$Asked", "oldAskers", "(II)I"⟩ prog_2_method_5_code 6 (some .int) ∈ a_w0 := a_w0_in (List.mem_append_right _ (List.mem_of_getElem? (i := 479) (by decide +kernel))) rfl
theorem cm_Ask_oldAskers : a_cm M_Ask_oldAskers 2 := ⟨w_479, rfl, w_6, by decide, by decide +kernel, by decide +kernel, by decide +kernel⟩
theorem ok_Ask_latest : a_ok M_Ask_latest := ⟨by decide +kernel, rfl, by decide +kernel⟩
theorem w_483 : Cond.code ⟨"LedTables$Asked", "latest", "(IIIZ)I"⟩ prog_2_method_4_code 5 (some .int) ∈ a_w0 := a_w0_in (List.mem_append_right _ (List.mem_of_getElem? (i := 483) (by decide +kernel))) rfl
theorem cm_Ask_latest : a_cm M_Ask_latest 4 := ⟨w_483, rfl, w_6, by decide, by decide +kernel, by decide +kernel, by decide +kernel⟩
theorem ok_Ask_slot : a_ok M_Ask_slot := ⟨by decide +kernel, rfl, by decide +kernel⟩
theorem w_486 : Cond.code ⟨"LedTables$Asked", "slot", "(IIIZ)I"⟩ prog_2_method_2_code 5 (some .int) ∈ a_w0 := a_w0_in (List.mem_append_right _ (List.mem_of_getElem? (i := 486) (by decide +kernel))) rfl
theorem cm_Ask_slot : a_cm M_Ask_slot 4 := ⟨w_486, rfl, w_6, by decide, by decide +kernel, by decide +kernel, by decide +kernel⟩
theorem ok_Tab_dropOldForm : a_ok M_Tab_dropOldForm := ⟨by decide +kernel, rfl, by decide +kernel⟩
theorem w_491 : Cond.code ⟨"LedTables$Table", "dropOldForm", "()V"⟩ prog_9_method_5_code 3 none ∈ a_w0 := a_w0_in (List.mem_append_right _ (List.mem_of_getElem? (i := 491) (by decide +kernel))) rfl
theorem cm_Tab_dropOldForm : a_cm M_Tab_dropOldForm 0 := ⟨w_491, rfl, w_7, by decide, by decide +kernel, by decide +kernel, by decide +kernel⟩
theorem ok_Led_back : a_ok M_Led_back := ⟨by decide +kernel, rfl, by decide +kernel⟩
theorem w_495 : Cond.code ⟨"LedTables", "back", "()I"⟩ prog_1_method_27_code 1 (some .int) ∈ a_w0 := a_w0_in (List.mem_append_right _ (List.mem_of_getElem? (i := 495) (by decide +kernel))) rfl
theorem cm_Led_back : a_cm M_Led_back 0 := ⟨w_495, rfl, w_1, by decide, by decide +kernel, by decide +kernel, by decide +kernel⟩
theorem ok_Tab_goBack : a_ok M_Tab_goBack := ⟨by decide +kernel, rfl, by decide +kernel⟩
theorem w_499 : Cond.code ⟨"LedTables$Table", "goBack", "()I"⟩ prog_9_method_6_code 1 (some .int) ∈ a_w0 := a_w0_in (List.mem_append_right _ (List.mem_of_getElem? (i := 499) (by decide +kernel))) rfl
theorem cm_Tab_goBack : a_cm M_Tab_goBack 0 := ⟨w_499, rfl, w_7, by decide, by decide +kernel, by decide +kernel, by decide +kernel⟩
theorem ok_Tab_dropNewForm : a_ok M_Tab_dropNewForm := ⟨by decide +kernel, rfl, by decide +kernel⟩
theorem w_503 : Cond.code ⟨"LedTables$Table", "dropNewForm", "()V"⟩ prog_9_method_7_code 3 none ∈ a_w0 := a_w0_in (List.mem_append_right _ (List.mem_of_getElem? (i := 503) (by decide +kernel))) rfl
theorem cm_Tab_dropNewForm : a_cm M_Tab_dropNewForm 0 := ⟨w_503, rfl, w_7, by decide, by decide +kernel, by decide +kernel, by decide +kernel⟩
theorem ok_Row_heal : a_ok M_Row_heal := ⟨by decide +kernel, rfl, by decide +kernel⟩
theorem w_507 : Cond.code ⟨"LedTables$Row", "heal", "()V"⟩ prog_8_method_3_code 1 none ∈ a_w0 := a_w0_in (List.mem_append_right _ (List.mem_of_getElem? (i := 507) (by decide +kernel))) rfl
theorem cm_Row_heal : a_cm M_Row_heal 0 := ⟨w_507, rfl, w_8, by decide, by decide +kernel, by decide +kernel, by decide +kernel⟩
theorem ok_Led_count : a_ok M_Led_count := ⟨by decide +kernel, rfl, by decide +kernel⟩
theorem w_511 : Cond.code ⟨"LedTables", "count", "(I)I"⟩ prog_1_method_43_code 2 (some .int) ∈ a_w0 := a_w0_in (List.mem_append_right _ (List.mem_of_getElem? (i := 511) (by decide +kernel))) rfl
theorem cm_Led_count : a_cm M_Led_count 1 := ⟨w_511, rfl, w_1, by decide, by decide +kernel, by decide +kernel, by decide +kernel⟩
theorem ok_Tab_manyRows : a_ok M_Tab_manyRows := ⟨by decide +kernel, rfl, by decide +kernel⟩
theorem w_515 : Cond.code ⟨"LedTables$Table", "manyRows", "()I"⟩ prog_9_method_28_code 3 (some .int) ∈ a_w0 := a_w0_in (List.mem_append_right _ (List.mem_of_getElem? (i := 515) (by decide +kernel))) rfl
theorem cm_Tab_manyRows : a_cm M_Tab_manyRows 0 := ⟨w_515, rfl, w_7, by decide, by decide +kernel, by decide +kernel, by decide +kernel⟩
theorem ok_Law_lens : a_ok M_Law_lens := ⟨by decide +kernel, rfl, by decide +kernel⟩
theorem w_0 : Cond.initialized "LedTablesLaw" ∈ a_w0 := a_w0_in (List.mem_append_right _ (List.mem_of_getElem? (i := 0) (by decide +kernel))) rfl
theorem ok_Led_lens : a_ok M_Led_lens := ⟨by decide +kernel, rfl, by decide +kernel⟩
theorem w_527 : Cond.code ⟨"LedTables", "lens", "(I)I"⟩ prog_1_method_4_code 2 (some .int) ∈ a_w0 := a_w0_in (List.mem_append_right _ (List.mem_of_getElem? (i := 527) (by decide +kernel))) rfl
theorem cm_Led_lens : a_cm M_Led_lens 1 := ⟨w_527, rfl, w_1, by decide, by decide +kernel, by decide +kernel, by decide +kernel⟩
theorem ok_Rea_readLens : a_ok M_Rea_readLens := ⟨by decide +kernel, rfl, by decide +kernel⟩
theorem w_616 : Cond.code ⟨"LedTables$Reader", "readLens", "(I)Z"⟩ prog_7_method_2_code 3 (some .boolean) ∈ a_w0 := a_w0_in (List.mem_append_right _ (List.mem_of_getElem? (i := 616) (by decide +kernel))) rfl
theorem cm_Rea_readLens : a_cm M_Rea_readLens 1 := ⟨w_616, rfl, w_3, by decide, by decide +kernel, by decide +kernel, by decide +kernel⟩
theorem ok_Len_empty : a_ok M_Len_empty := ⟨by decide +kernel, rfl, by decide +kernel⟩
theorem w_621 : Cond.code ⟨"LedTables$Lens", "empty", "()V"⟩ prog_4_method_2_code 2 none ∈ a_w0 := a_w0_in (List.mem_append_right _ (List.mem_of_getElem? (i := 621) (by decide +kernel))) rfl
theorem cm_Len_empty : a_cm M_Len_empty 0 := ⟨w_621, rfl, w_2, by decide, by decide +kernel, by decide +kernel, by decide +kernel⟩
theorem ok_Rea_skipBlanks : a_ok M_Rea_skipBlanks := ⟨by decide +kernel, rfl, by decide +kernel⟩
theorem w_625 : Cond.code ⟨"LedTables$Reader", "skipBlanks", "()V"⟩ prog_7_method_25_code 2 none ∈ a_w0 := a_w0_in (List.mem_append_right _ (List.mem_of_getElem? (i := 625) (by decide +kernel))) rfl
theorem cm_Rea_skipBlanks : a_cm M_Rea_skipBlanks 0 := ⟨w_625, rfl, w_3, by decide, by decide +kernel, by decide +kernel, by decide +kernel⟩
theorem ok_Rea_readClause : a_ok M_Rea_readClause := ⟨by decide +kernel, rfl, by decide +kernel⟩
theorem w_629 : Cond.code ⟨"LedTables$Reader", "readClause", "()Z"⟩ prog_7_method_3_code 4 (some .boolean) ∈ a_w0 := a_w0_in (List.mem_append_right _ (List.mem_of_getElem? (i := 629) (by decide +kernel))) rfl
theorem cm_Rea_readClause : a_cm M_Rea_readClause 0 := ⟨w_629, rfl, w_3, by decide, by decide +kernel, by decide +kernel, by decide +kernel⟩
theorem ok_Rea_letterHere : a_ok M_Rea_letterHere := ⟨by decide +kernel, rfl, by decide +kernel⟩
theorem w_633 : Cond.code ⟨"LedTables$Reader", "letterHere", "()I"⟩ prog_7_method_24_code 3 (some .int) ∈ a_w0 := a_w0_in (List.mem_append_right _ (List.mem_of_getElem? (i := 633) (by decide +kernel))) rfl
theorem cm_Rea_letterHere : a_cm M_Rea_letterHere 0 := ⟨w_633, rfl, w_3, by decide, by decide +kernel, by decide +kernel, by decide +kernel⟩
theorem ok_Rea_byteAt : a_ok M_Rea_byteAt := ⟨by decide +kernel, rfl, by decide +kernel⟩
theorem w_637 : Cond.code ⟨"LedTables$Reader", "byteAt", "(I)I"⟩ prog_7_method_26_code 2 (some .int) ∈ a_w0 := a_w0_in (List.mem_append_right _ (List.mem_of_getElem? (i := 637) (by decide +kernel))) rfl
theorem cm_Rea_byteAt : a_cm M_Rea_byteAt 1 := ⟨w_637, rfl, w_3, by decide, by decide +kernel, by decide +kernel, by decide +kernel⟩
theorem ok_Rea_isSmall : a_ok M_Rea_isSmall := ⟨by decide +kernel, rfl, by decide +kernel⟩
theorem w_640 : Cond.code ⟨"LedTables$Reader", "isSmall", "(I)Z"⟩ prog_7_method_28_code 1 (some .boolean) ∈ a_w0 := a_w0_in (List.mem_append_right _ (List.mem_of_getElem? (i := 640) (by decide +kernel))) rfl
theorem cm_Rea_isSmall : a_cm M_Rea_isSmall 1 := ⟨w_640, rfl, w_3, by decide, by decide +kernel, by decide +kernel, by decide +kernel⟩
theorem ok_Rea_isCapital : a_ok M_Rea_isCapital := ⟨by decide +kernel, rfl, by decide +kernel⟩
theorem w_643 : Cond.code ⟨"LedTables$Reader", "isCapital", "(I)Z"⟩ prog_7_method_29_code 1 (some .boolean) ∈ a_w0 := a_w0_in (List.mem_append_right _ (List.mem_of_getElem? (i := 643) (by decide +kernel))) rfl
theorem cm_Rea_isCapital : a_cm M_Rea_isCapital 1 := ⟨w_643, rfl, w_3, by decide, by decide +kernel, by decide +kernel, by decide +kernel⟩
theorem ok_Rea_isWord : a_ok M_Rea_isWord := ⟨by decide +kernel, rfl, by decide +kernel⟩
theorem w_648 : Cond.code ⟨"LedTables$Reader", "isWord", "(Ljava/lang/String;)Z"⟩ prog_7_method_23_code 3 (some .boolean) ∈ a_w0 := a_w0_in (List.mem_append_right _ (List.mem_of_getElem? (i := 648) (by decide +kernel))) rfl
theorem cm_Rea_isWord : a_cm M_Rea_isWord 1 := ⟨w_648, rfl, w_3, by decide, by decide +kernel, by decide +kernel, by decide +kernel⟩
theorem ok_Rea_fail : a_ok M_Rea_fail := ⟨by decide +kernel, rfl, by decide +kernel⟩
theorem w_701 : Cond.code ⟨"LedTables$Reader", "fail", "(I)Z"⟩ prog_7_method_30_code 2 (some .boolean) ∈ a_w0 := a_w0_in (List.mem_append_right _ (List.mem_of_getElem? (i := 701) (by decide +kernel))) rfl
theorem cm_Rea_fail : a_cm M_Rea_fail 1 := ⟨w_701, rfl, w_3, by decide, by decide +kernel, by decide +kernel, by decide +kernel⟩
theorem ok_Rea_readKeep : a_ok M_Rea_readKeep := ⟨by decide +kernel, rfl, by decide +kernel⟩
theorem w_705 : Cond.code ⟨"LedTables$Reader", "readKeep", "()Z"⟩ prog_7_method_4_code 2 (some .boolean) ∈ a_w0 := a_w0_in (List.mem_append_right _ (List.mem_of_getElem? (i := 705) (by decide +kernel))) rfl
theorem cm_Rea_readKeep : a_cm M_Rea_readKeep 0 := ⟨w_705, rfl, w_3, by decide, by decide +kernel, by decide +kernel, by decide +kernel⟩
theorem ok_Len_keepLetter : a_ok M_Len_keepLetter := ⟨by decide +kernel, rfl, by decide +kernel⟩
theorem w_709 : Cond.code ⟨"LedTables$Lens", "keepLetter", "(I)V"⟩ prog_4_method_9_code 2 none ∈ a_w0 := a_w0_in (List.mem_append_right _ (List.mem_of_getElem? (i := 709) (by decide +kernel))) rfl
theorem cm_Len_keepLetter : a_cm M_Len_keepLetter 1 := ⟨w_709, rfl, w_2, by decide, by decide +kernel, by decide +kernel, by decide +kernel⟩
theorem ok_Rea_readSign : a_ok M_Rea_readSign := ⟨by decide +kernel, rfl, by decide +kernel⟩
theorem w_713 : Cond.code ⟨"LedTables$Reader", "readSign", "(C)Z"⟩ prog_7_method_21_code 2 (some .boolean) ∈ a_w0 := a_w0_in (List.mem_append_right _ (List.mem_of_getElem? (i := 713) (by decide +kernel))) rfl
theorem cm_Rea_readSign : a_cm M_Rea_readSign 1 := ⟨w_713, rfl, w_3, by decide, by decide +kernel, by decide +kernel, by decide +kernel⟩
theorem ok_Rea_isSign : a_ok M_Rea_isSign := ⟨by decide +kernel, rfl, by decide +kernel⟩
theorem w_717 : Cond.code ⟨"LedTables$Reader", "isSign", "(C)Z"⟩ prog_7_method_22_code 2 (some .boolean) ∈ a_w0 := a_w0_in (List.mem_append_right _ (List.mem_of_getElem? (i := 717) (by decide +kernel))) rfl
theorem cm_Rea_isSign : a_cm M_Rea_isSign 1 := ⟨w_717, rfl, w_3, by decide, by decide +kernel, by decide +kernel, by decide +kernel⟩
theorem ok_Rea_readLaw : a_ok M_Rea_readLaw := ⟨by decide +kernel, rfl, by decide +kernel⟩
theorem w_721 : Cond.code ⟨"LedTables$Reader", "readLaw", "()Z"⟩ prog_7_method_5_code 2 (some .boolean) ∈ a_w0 := a_w0_in (List.mem_append_right _ (List.mem_of_getElem? (i := 721) (by decide +kernel))) rfl
theorem cm_Rea_readLaw : a_cm M_Rea_readLaw 0 := ⟨w_721, rfl, w_3, by decide, by decide +kernel, by decide +kernel, by decide +kernel⟩
theorem ok_Len_here : a_ok M_Len_here := ⟨by decide +kernel, rfl, by decide +kernel⟩
theorem w_725 : Cond.code ⟨"LedTables$Lens", "here", "()I"⟩ prog_4_method_6_code 1 (some .int) ∈ a_w0 := a_w0_in (List.mem_append_right _ (List.mem_of_getElem? (i := 725) (by decide +kernel))) rfl
theorem cm_Len_here : a_cm M_Len_here 0 := ⟨w_725, rfl, w_2, by decide, by decide +kernel, by decide +kernel, by decide +kernel⟩
theorem ok_Rea_readAny : a_ok M_Rea_readAny := ⟨by decide +kernel, rfl, by decide +kernel⟩
theorem w_729 : Cond.code ⟨"LedTables$Reader", "readAny", "()Z"⟩ prog_7_method_14_code 2 (some .boolean) ∈ a_w0 := a_w0_in (List.mem_append_right _ (List.mem_of_getElem? (i := 729) (by decide +kernel))) rfl
theorem cm_Rea_readAny : a_cm M_Rea_readAny 0 := ⟨w_729, rfl, w_3, by decide, by decide +kernel, by decide +kernel, by decide +kernel⟩
theorem ok_Rea_readAll : a_ok M_Rea_readAll := ⟨by decide +kernel, rfl, by decide +kernel⟩
theorem w_733 : Cond.code ⟨"LedTables$Reader", "readAll", "()Z"⟩ prog_7_method_15_code 2 (some .boolean) ∈ a_w0 := a_w0_in (List.mem_append_right _ (List.mem_of_getElem? (i := 733) (by decide +kernel))) rfl
theorem cm_Rea_readAll : a_cm M_Rea_readAll 0 := ⟨w_733, rfl, w_3, by decide, by decide +kernel, by decide +kernel, by decide +kernel⟩
theorem ok_Rea_readTest : a_ok M_Rea_readTest := ⟨by decide +kernel, rfl, by decide +kernel⟩
theorem w_737 : Cond.code ⟨"LedTables$Reader", "readTest", "()Z"⟩ prog_7_method_16_code 1 (some .boolean) ∈ a_w0 := a_w0_in (List.mem_append_right _ (List.mem_of_getElem? (i := 737) (by decide +kernel))) rfl
theorem cm_Rea_readTest : a_cm M_Rea_readTest 0 := ⟨w_737, rfl, w_3, by decide, by decide +kernel, by decide +kernel, by decide +kernel⟩
theorem ok_Rea_readNot : a_ok M_Rea_readNot := ⟨by decide +kernel, rfl, by decide +kernel⟩
theorem w_742 : Cond.code ⟨"LedTables$Reader", "readNot", "()Z"⟩ prog_7_method_17_code 1 (some .boolean) ∈ a_w0 := a_w0_in (List.mem_append_right _ (List.mem_of_getElem? (i := 742) (by decide +kernel))) rfl
theorem cm_Rea_readNot : a_cm M_Rea_readNot 0 := ⟨w_742, rfl, w_3, by decide, by decide +kernel, by decide +kernel, by decide +kernel⟩
theorem ok_Rea_readOpening : a_ok M_Rea_readOpening := ⟨by decide +kernel, rfl, by decide +kernel⟩
theorem w_747 : Cond.code ⟨"LedTables$Reader", "readOpening", "(C)Z"⟩ prog_7_method_19_code 2 (some .boolean) ∈ a_w0 := a_w0_in (List.mem_append_right _ (List.mem_of_getElem? (i := 747) (by decide +kernel))) rfl
theorem cm_Rea_readOpening : a_cm M_Rea_readOpening 1 := ⟨w_747, rfl, w_3, by decide, by decide +kernel, by decide +kernel, by decide +kernel⟩
theorem ok_Rea_readClosing : a_ok M_Rea_readClosing := ⟨by decide +kernel, rfl, by decide +kernel⟩
theorem w_751 : Cond.code ⟨"LedTables$Reader", "readClosing", "(C)Z"⟩ prog_7_method_20_code 2 (some .boolean) ∈ a_w0 := a_w0_in (List.mem_append_right _ (List.mem_of_getElem? (i := 751) (by decide +kernel))) rfl
theorem cm_Rea_readClosing : a_cm M_Rea_readClosing 1 := ⟨w_751, rfl, w_3, by decide, by decide +kernel, by decide +kernel, by decide +kernel⟩
theorem ok_Rea_readComparison : a_ok M_Rea_readComparison := ⟨by decide +kernel, rfl, by decide +kernel⟩
theorem w_755 : Cond.code ⟨"LedTables$Reader", "readComparison", "()Z"⟩ prog_7_method_18_code 2 (some .boolean) ∈ a_w0 := a_w0_in (List.mem_append_right _ (List.mem_of_getElem? (i := 755) (by decide +kernel))) rfl
theorem cm_Rea_readComparison : a_cm M_Rea_readComparison 0 := ⟨w_755, rfl, w_3, by decide, by decide +kernel, by decide +kernel, by decide +kernel⟩
theorem ok_Rea_readSum : a_ok M_Rea_readSum := ⟨by decide +kernel, rfl, by decide +kernel⟩
theorem w_759 : Cond.code ⟨"LedTables$Reader", "readSum", "()Z"⟩ prog_7_method_7_code 3 (some .boolean) ∈ a_w0 := a_w0_in (List.mem_append_right _ (List.mem_of_getElem? (i := 759) (by decide +kernel))) rfl
theorem cm_Rea_readSum : a_cm M_Rea_readSum 0 := ⟨w_759, rfl, w_3, by decide, by decide +kernel, by decide +kernel, by decide +kernel⟩
theorem ok_Rea_readProduct : a_ok M_Rea_readProduct := ⟨by decide +kernel, rfl, by decide +kernel⟩
theorem w_763 : Cond.code ⟨"LedTables$Reader", "readProduct", "()Z"⟩ prog_7_method_8_code 3 (some .boolean) ∈ a_w0 := a_w0_in (List.mem_append_right _ (List.mem_of_getElem? (i := 763) (by decide +kernel))) rfl
theorem cm_Rea_readProduct : a_cm M_Rea_readProduct 0 := ⟨w_763, rfl, w_3, by decide, by decide +kernel, by decide +kernel, by decide +kernel⟩
theorem ok_Rea_readUnit : a_ok M_Rea_readUnit := ⟨by decide +kernel, rfl, by decide +kernel⟩
theorem w_767 : Cond.code ⟨"LedTables$Reader", "readUnit", "()Z"⟩ prog_7_method_9_code 2 (some .boolean) ∈ a_w0 := a_w0_in (List.mem_append_right _ (List.mem_of_getElem? (i := 767) (by decide +kernel))) rfl
theorem cm_Rea_readUnit : a_cm M_Rea_readUnit 0 := ⟨w_767, rfl, w_3, by decide, by decide +kernel, by decide +kernel, by decide +kernel⟩
theorem ok_Rea_isDigit : a_ok M_Rea_isDigit := ⟨by decide +kernel, rfl, by decide +kernel⟩
theorem w_770 : Cond.code ⟨"LedTables$Reader", "isDigit", "(I)Z"⟩ prog_7_method_27_code 1 (some .boolean) ∈ a_w0 := a_w0_in (List.mem_append_right _ (List.mem_of_getElem? (i := 770) (by decide +kernel))) rfl
theorem cm_Rea_isDigit : a_cm M_Rea_isDigit 1 := ⟨w_770, rfl, w_3, by decide, by decide +kernel, by decide +kernel, by decide +kernel⟩
theorem ok_Rea_readNumber : a_ok M_Rea_readNumber := ⟨by decide +kernel, rfl, by decide +kernel⟩
theorem w_774 : Cond.code ⟨"LedTables$Reader", "readNumber", "()Z"⟩ prog_7_method_10_code 4 (some .boolean) ∈ a_w0 := a_w0_in (List.mem_append_right _ (List.mem_of_getElem? (i := 774) (by decide +kernel))) rfl
theorem cm_Rea_readNumber : a_cm M_Rea_readNumber 0 := ⟨w_774, rfl, w_3, by decide, by decide +kernel, by decide +kernel, by decide +kernel⟩
theorem ok_Rea_readOperand : a_ok M_Rea_readOperand := ⟨by decide +kernel, rfl, by decide +kernel⟩
theorem w_778 : Cond.code ⟨"LedTables$Reader", "readOperand", "(I)Z"⟩ prog_7_method_11_code 2 (some .boolean) ∈ a_w0 := a_w0_in (List.mem_append_right _ (List.mem_of_getElem? (i := 778) (by decide +kernel))) rfl
theorem cm_Rea_readOperand : a_cm M_Rea_readOperand 1 := ⟨w_778, rfl, w_3, by decide, by decide +kernel, by decide +kernel, by decide +kernel⟩
theorem ok_Rea_readPair : a_ok M_Rea_readPair := ⟨by decide +kernel, rfl, by decide +kernel⟩
theorem w_783 : Cond.code ⟨"LedTables$Reader", "readPair", "(I)Z"⟩ prog_7_method_12_code 2 (some .boolean) ∈ a_w0 := a_w0_in (List.mem_append_right _ (List.mem_of_getElem? (i := 783) (by decide +kernel))) rfl
theorem cm_Rea_readPair : a_cm M_Rea_readPair 1 := ⟨w_783, rfl, w_3, by decide, by decide +kernel, by decide +kernel, by decide +kernel⟩
theorem ok_Rea_readIf : a_ok M_Rea_readIf := ⟨by decide +kernel, rfl, by decide +kernel⟩
theorem w_789 : Cond.code ⟨"LedTables$Reader", "readIf", "()Z"⟩ prog_7_method_13_code 3 (some .boolean) ∈ a_w0 := a_w0_in (List.mem_append_right _ (List.mem_of_getElem? (i := 789) (by decide +kernel))) rfl
theorem cm_Rea_readIf : a_cm M_Rea_readIf 0 := ⟨w_789, rfl, w_3, by decide, by decide +kernel, by decide +kernel, by decide +kernel⟩
theorem ok_Len_jumpHere : a_ok M_Len_jumpHere := ⟨by decide +kernel, rfl, by decide +kernel⟩
theorem w_793 : Cond.code ⟨"LedTables$Lens", "jumpHere", "(I)V"⟩ prog_4_method_5_code 2 none ∈ a_w0 := a_w0_in (List.mem_append_right _ (List.mem_of_getElem? (i := 793) (by decide +kernel))) rfl
theorem cm_Len_jumpHere : a_cm M_Len_jumpHere 1 := ⟨w_793, rfl, w_2, by decide, by decide +kernel, by decide +kernel, by decide +kernel⟩
theorem ok_Len_endLaw : a_ok M_Len_endLaw := ⟨by decide +kernel, rfl, by decide +kernel⟩
theorem w_799 : Cond.code ⟨"LedTables$Lens", "endLaw", "(I)V"⟩ prog_4_method_8_code 2 none ∈ a_w0 := a_w0_in (List.mem_append_right _ (List.mem_of_getElem? (i := 799) (by decide +kernel))) rfl
theorem cm_Len_endLaw : a_cm M_Len_endLaw 1 := ⟨w_799, rfl, w_2, by decide, by decide +kernel, by decide +kernel, by decide +kernel⟩
theorem ok_Rea_readEquals : a_ok M_Rea_readEquals := ⟨by decide +kernel, rfl, by decide +kernel⟩
theorem w_803 : Cond.code ⟨"LedTables$Reader", "readEquals", "(I)Z"⟩ prog_7_method_6_code 3 (some .boolean) ∈ a_w0 := a_w0_in (List.mem_append_right _ (List.mem_of_getElem? (i := 803) (by decide +kernel))) rfl
theorem cm_Rea_readEquals : a_cm M_Rea_readEquals 1 := ⟨w_803, rfl, w_3, by decide, by decide +kernel, by decide +kernel, by decide +kernel⟩
theorem ok_Len_endLetter : a_ok M_Len_endLetter := ⟨by decide +kernel, rfl, by decide +kernel⟩
theorem w_807 : Cond.code ⟨"LedTables$Lens", "endLetter", "(II)V"⟩ prog_4_method_7_code 3 none ∈ a_w0 := a_w0_in (List.mem_append_right _ (List.mem_of_getElem? (i := 807) (by decide +kernel))) rfl
theorem cm_Len_endLetter : a_cm M_Len_endLetter 2 := ⟨w_807, rfl, w_2, by decide, by decide +kernel, by decide +kernel, by decide +kernel⟩
theorem ok_Len_become : a_ok M_Len_become := ⟨by decide +kernel, rfl, by decide +kernel⟩
theorem w_811 : Cond.code ⟨"LedTables$Lens", "become", "(LLedTables$Lens;)V"⟩ prog_4_method_3_code 3 none ∈ a_w0 := a_w0_in (List.mem_append_right _ (List.mem_of_getElem? (i := 811) (by decide +kernel))) rfl
theorem cm_Len_become : a_cm M_Len_become 1 := ⟨w_811, rfl, w_2, by decide, by decide +kernel, by decide +kernel, by decide +kernel⟩
theorem ok_Law_see : a_ok M_Law_see := ⟨by decide +kernel, rfl, by decide +kernel⟩
theorem ok_Led_see : a_ok M_Led_see := ⟨by decide +kernel, rfl, by decide +kernel⟩
theorem w_819 : Cond.code ⟨"LedTables", "see", "(IIIII)I"⟩ prog_1_method_6_code 6 (some .int) ∈ a_w0 := a_w0_in (List.mem_append_right _ (List.mem_of_getElem? (i := 819) (by decide +kernel))) rfl
theorem cm_Led_see : a_cm M_Led_see 5 := ⟨w_819, rfl, w_1, by decide, by decide +kernel, by decide +kernel, by decide +kernel⟩
theorem ok_Led_checkLetter : a_ok M_Led_checkLetter := ⟨by decide +kernel, rfl, by decide +kernel⟩
theorem w_822 : Cond.code ⟨"LedTables", "checkLetter", "(I)V"⟩ prog_1_method_45_code 1 none ∈ a_w0 := a_w0_in (List.mem_append_right _ (List.mem_of_getElem? (i := 822) (by decide +kernel))) rfl
theorem cm_Led_checkLetter : a_cm M_Led_checkLetter 1 := ⟨w_822, rfl, w_1, by decide, by decide +kernel, by decide +kernel, by decide +kernel⟩
theorem ok_Led_checkRange : a_ok M_Led_checkRange := ⟨by decide +kernel, rfl, by decide +kernel⟩
theorem w_825 : Cond.code ⟨"LedTables", "checkRange", "(III)V"⟩ prog_1_method_44_code 3 none ∈ a_w0 := a_w0_in (List.mem_append_right _ (List.mem_of_getElem? (i := 825) (by decide +kernel))) rfl
theorem cm_Led_checkRange : a_cm M_Led_checkRange 3 := ⟨w_825, rfl, w_1, by decide, by decide +kernel, by decide +kernel, by decide +kernel⟩
theorem ok_Led_fill : a_ok M_Led_fill := ⟨by decide +kernel, rfl, by decide +kernel⟩
theorem w_829 : Cond.code ⟨"LedTables", "fill", "([IIIII)V"⟩ prog_1_method_8_code 5 none ∈ a_w0 := a_w0_in (List.mem_append_right _ (List.mem_of_getElem? (i := 829) (by decide +kernel))) rfl
theorem cm_Led_fill : a_cm M_Led_fill 5 := ⟨w_829, rfl, w_1, by decide, by decide +kernel, by decide +kernel, by decide +kernel⟩
theorem ok_Law_put : a_ok M_Law_put := ⟨by decide +kernel, rfl, by decide +kernel⟩
theorem ok_Led_put : a_ok M_Led_put := ⟨by decide +kernel, rfl, by decide +kernel⟩
theorem w_837 : Cond.code ⟨"LedTables", "put", "(IIIIII)I"⟩ prog_1_method_7_code 7 (some .int) ∈ a_w0 := a_w0_in (List.mem_append_right _ (List.mem_of_getElem? (i := 837) (by decide +kernel))) rfl
theorem cm_Led_put : a_cm M_Led_put 6 := ⟨w_837, rfl, w_1, by decide, by decide +kernel, by decide +kernel, by decide +kernel⟩
theorem ok_Len_toOld : a_ok M_Len_toOld := ⟨by decide +kernel, rfl, by decide +kernel⟩
theorem w_842 : Cond.code ⟨"LedTables$Lens", "toOld", "([I[I[I)V"⟩ prog_4_method_13_code 5 none ∈ a_w0 := a_w0_in (List.mem_append_right _ (List.mem_of_getElem? (i := 842) (by decide +kernel))) rfl
theorem cm_Len_toOld : a_cm M_Len_toOld 3 := ⟨w_842, rfl, w_2, by decide, by decide +kernel, by decide +kernel, by decide +kernel⟩
theorem ok_Law_box : a_ok M_Law_box := ⟨by decide +kernel, rfl, by decide +kernel⟩
theorem ok_Led_box : a_ok M_Led_box := ⟨by decide +kernel, rfl, by decide +kernel⟩
theorem w_849 : Cond.code ⟨"LedTables", "box", "(III)V"⟩ prog_1_method_9_code 4 none ∈ a_w0 := a_w0_in (List.mem_append_right _ (List.mem_of_getElem? (i := 849) (by decide +kernel))) rfl
theorem cm_Led_box : a_cm M_Led_box 3 := ⟨w_849, rfl, w_1, by decide, by decide +kernel, by decide +kernel, by decide +kernel⟩
theorem ok_Box_bound : a_ok M_Box_bound := ⟨by decide +kernel, rfl, by decide +kernel⟩
theorem w_853 : Cond.code ⟨"LedTables$Box", "bound", "(III)V"⟩ prog_3_method_2_code 4 none ∈ a_w0 := a_w0_in (List.mem_append_right _ (List.mem_of_getElem? (i := 853) (by decide +kernel))) rfl
theorem cm_Box_bound : a_cm M_Box_bound 3 := ⟨w_853, rfl, w_4, by decide, by decide +kernel, by decide +kernel, by decide +kernel⟩
theorem ok_Law_agree : a_ok M_Law_agree := ⟨by decide +kernel, rfl, by decide +kernel⟩
theorem ok_Led_agree : a_ok M_Led_agree := ⟨by decide +kernel, rfl, by decide +kernel⟩
theorem w_860 : Cond.code ⟨"LedTables", "agree", "(II)I"⟩ prog_1_method_10_code 3 (some .int) ∈ a_w0 := a_w0_in (List.mem_append_right _ (List.mem_of_getElem? (i := 860) (by decide +kernel))) rfl
theorem cm_Led_agree : a_cm M_Led_agree 2 := ⟨w_860, rfl, w_1, by decide, by decide +kernel, by decide +kernel, by decide +kernel⟩
theorem ok_Box_firstUnlike : a_ok M_Box_firstUnlike := ⟨by decide +kernel, rfl, by decide +kernel⟩
theorem w_864 : Cond.code ⟨"LedTables$Box", "firstUnlike", "(II)I"⟩ prog_3_method_3_code 5 (some .int) ∈ a_w0 := a_w0_in (List.mem_append_right _ (List.mem_of_getElem? (i := 864) (by decide +kernel))) rfl
theorem cm_Box_firstUnlike : a_cm M_Box_firstUnlike 2 := ⟨w_864, rfl, w_4, by decide, by decide +kernel, by decide +kernel, by decide +kernel⟩
theorem ok_Box_comesBack : a_ok M_Box_comesBack := ⟨by decide +kernel, rfl, by decide +kernel⟩
theorem w_868 : Cond.code ⟨"LedTables$Box", "comesBack", "(II)Z"⟩ prog_3_method_7_code 3 (some .boolean) ∈ a_w0 := a_w0_in (List.mem_append_right _ (List.mem_of_getElem? (i := 868) (by decide +kernel))) rfl
theorem cm_Box_comesBack : a_cm M_Box_comesBack 2 := ⟨w_868, rfl, w_4, by decide, by decide +kernel, by decide +kernel, by decide +kernel⟩
theorem ok_Law_unlike : a_ok M_Law_unlike := ⟨by decide +kernel, rfl, by decide +kernel⟩
theorem ok_Led_unlike : a_ok M_Led_unlike := ⟨by decide +kernel, rfl, by decide +kernel⟩
theorem w_878 : Cond.code ⟨"LedTables", "unlike", "(I)I"⟩ prog_1_method_11_code 2 (some .int) ∈ a_w0 := a_w0_in (List.mem_append_right _ (List.mem_of_getElem? (i := 878) (by decide +kernel))) rfl
theorem cm_Led_unlike : a_cm M_Led_unlike 1 := ⟨w_878, rfl, w_1, by decide, by decide +kernel, by decide +kernel, by decide +kernel⟩
theorem ok_Box_manyUnlike : a_ok M_Box_manyUnlike := ⟨by decide +kernel, rfl, by decide +kernel⟩
theorem w_882 : Cond.code ⟨"LedTables$Box", "manyUnlike", "(I)I"⟩ prog_3_method_4_code 5 (some .int) ∈ a_w0 := a_w0_in (List.mem_append_right _ (List.mem_of_getElem? (i := 882) (by decide +kernel))) rfl
theorem cm_Box_manyUnlike : a_cm M_Box_manyUnlike 1 := ⟨w_882, rfl, w_4, by decide, by decide +kernel, by decide +kernel, by decide +kernel⟩
theorem ok_Law_hold : a_ok M_Law_hold := ⟨by decide +kernel, rfl, by decide +kernel⟩
theorem ok_Led_hold : a_ok M_Led_hold := ⟨by decide +kernel, rfl, by decide +kernel⟩
theorem w_890 : Cond.code ⟨"LedTables", "hold", "(III)I"⟩ prog_1_method_15_code 4 (some .int) ∈ a_w0 := a_w0_in (List.mem_append_right _ (List.mem_of_getElem? (i := 890) (by decide +kernel))) rfl
theorem cm_Led_hold : a_cm M_Led_hold 3 := ⟨w_890, rfl, w_1, by decide, by decide +kernel, by decide +kernel, by decide +kernel⟩
theorem ok_Led_checkChange : a_ok M_Led_checkChange := ⟨by decide +kernel, rfl, by decide +kernel⟩
theorem w_894 : Cond.code ⟨"LedTables", "checkChange", "(I)V"⟩ prog_1_method_50_code 2 none ∈ a_w0 := a_w0_in (List.mem_append_right _ (List.mem_of_getElem? (i := 894) (by decide +kernel))) rfl
theorem cm_Led_checkChange : a_cm M_Led_checkChange 1 := ⟨w_894, rfl, w_1, by decide, by decide +kernel, by decide +kernel, by decide +kernel⟩
theorem ok_Pla_tellHold : a_ok M_Pla_tellHold := ⟨by decide +kernel, rfl, by decide +kernel⟩
theorem w_914 : Cond.code ⟨"LedTables$Plan", "tellHold", "(III)I"⟩ prog_6_method_4_code 4 (some .int) ∈ a_w0 := a_w0_in (List.mem_append_right _ (List.mem_of_getElem? (i := 914) (by decide +kernel))) rfl
theorem cm_Pla_tellHold : a_cm M_Pla_tellHold 3 := ⟨w_914, rfl, w_5, by decide, by decide +kernel, by decide +kernel, by decide +kernel⟩
theorem ok_Pla_tell : a_ok M_Pla_tell := ⟨by decide +kernel, rfl, by decide +kernel⟩
theorem w_918 : Cond.code ⟨"LedTables$Plan", "tell", "([III)I"⟩ prog_6_method_7_code 5 (some .int) ∈ a_w0 := a_w0_in (List.mem_append_right _ (List.mem_of_getElem? (i := 918) (by decide +kernel))) rfl
theorem cm_Pla_tell : a_cm M_Pla_tell 3 := ⟨w_918, rfl, w_5, by decide, by decide +kernel, by decide +kernel, by decide +kernel⟩
theorem ok_Law_order : a_ok M_Law_order := ⟨by decide +kernel, rfl, by decide +kernel⟩
theorem ok_Led_order : a_ok M_Led_order := ⟨by decide +kernel, rfl, by decide +kernel⟩
theorem w_925 : Cond.code ⟨"LedTables", "order", "(IIZ)I"⟩ prog_1_method_16_code 5 (some .int) ∈ a_w0 := a_w0_in (List.mem_append_right _ (List.mem_of_getElem? (i := 925) (by decide +kernel))) rfl
theorem cm_Led_order : a_cm M_Led_order 3 := ⟨w_925, rfl, w_1, by decide, by decide +kernel, by decide +kernel, by decide +kernel⟩
theorem ok_Pla_tellBar : a_ok M_Pla_tellBar := ⟨by decide +kernel, rfl, by decide +kernel⟩
theorem w_930 : Cond.code ⟨"LedTables$Plan", "tellBar", "(II)Z"⟩ prog_6_method_9_code 3 (some .boolean) ∈ a_w0 := a_w0_in (List.mem_append_right _ (List.mem_of_getElem? (i := 930) (by decide +kernel))) rfl
theorem cm_Pla_tellBar : a_cm M_Pla_tellBar 2 := ⟨w_930, rfl, w_5, by decide, by decide +kernel, by decide +kernel, by decide +kernel⟩
theorem ok_Pla_tellPair : a_ok M_Pla_tellPair := ⟨by decide +kernel, rfl, by decide +kernel⟩
theorem w_936 : Cond.code ⟨"LedTables$Plan", "tellPair", "([ZII)Z"⟩ prog_6_method_10_code 5 (some .boolean) ∈ a_w0 := a_w0_in (List.mem_append_right _ (List.mem_of_getElem? (i := 936) (by decide +kernel))) rfl
theorem cm_Pla_tellPair : a_cm M_Pla_tellPair 3 := ⟨w_936, rfl, w_5, by decide, by decide +kernel, by decide +kernel, by decide +kernel⟩
theorem ok_Pla_tellOrder : a_ok M_Pla_tellOrder := ⟨by decide +kernel, rfl, by decide +kernel⟩
theorem w_940 : Cond.code ⟨"LedTables$Plan", "tellOrder", "(II)Z"⟩ prog_6_method_8_code 3 (some .boolean) ∈ a_w0 := a_w0_in (List.mem_append_right _ (List.mem_of_getElem? (i := 940) (by decide +kernel))) rfl
theorem cm_Pla_tellOrder : a_cm M_Pla_tellOrder 2 := ⟨w_940, rfl, w_5, by decide, by decide +kernel, by decide +kernel, by decide +kernel⟩
theorem ok_Law_need : a_ok M_Law_need := ⟨by decide +kernel, rfl, by decide +kernel⟩
theorem ok_Led_need : a_ok M_Led_need := ⟨by decide +kernel, rfl, by decide +kernel⟩
theorem w_948 : Cond.code ⟨"LedTables", "need", "(III)I"⟩ prog_1_method_18_code 4 (some .int) ∈ a_w0 := a_w0_in (List.mem_append_right _ (List.mem_of_getElem? (i := 948) (by decide +kernel))) rfl
theorem cm_Led_need : a_cm M_Led_need 3 := ⟨w_948, rfl, w_1, by decide, by decide +kernel, by decide +kernel, by decide +kernel⟩
theorem ok_Led_checkProgram : a_ok M_Led_checkProgram := ⟨by decide +kernel, rfl, by decide +kernel⟩
theorem w_952 : Cond.code ⟨"LedTables", "checkProgram", "(I)V"⟩ prog_1_method_51_code 2 none ∈ a_w0 := a_w0_in (List.mem_append_right _ (List.mem_of_getElem? (i := 952) (by decide +kernel))) rfl
theorem cm_Led_checkProgram : a_cm M_Led_checkProgram 1 := ⟨w_952, rfl, w_1, by decide, by decide +kernel, by decide +kernel, by decide +kernel⟩
theorem ok_Pla_tellNeed : a_ok M_Pla_tellNeed := ⟨by decide +kernel, rfl, by decide +kernel⟩
theorem w_972 : Cond.code ⟨"LedTables$Plan", "tellNeed", "(III)I"⟩ prog_6_method_5_code 4 (some .int) ∈ a_w0 := a_w0_in (List.mem_append_right _ (List.mem_of_getElem? (i := 972) (by decide +kernel))) rfl
theorem cm_Pla_tellNeed : a_cm M_Pla_tellNeed 3 := ⟨w_972, rfl, w_5, by decide, by decide +kernel, by decide +kernel, by decide +kernel⟩
theorem ok_Law_price : a_ok M_Law_price := ⟨by decide +kernel, rfl, by decide +kernel⟩
theorem ok_Led_price : a_ok M_Led_price := ⟨by decide +kernel, rfl, by decide +kernel⟩
theorem w_979 : Cond.code ⟨"LedTables", "price", "(II)I"⟩ prog_1_method_19_code 3 (some .int) ∈ a_w0 := a_w0_in (List.mem_append_right _ (List.mem_of_getElem? (i := 979) (by decide +kernel))) rfl
theorem cm_Led_price : a_cm M_Led_price 2 := ⟨w_979, rfl, w_1, by decide, by decide +kernel, by decide +kernel, by decide +kernel⟩
theorem ok_Pla_tellPrice : a_ok M_Pla_tellPrice := ⟨by decide +kernel, rfl, by decide +kernel⟩
theorem w_983 : Cond.code ⟨"LedTables$Plan", "tellPrice", "(II)I"⟩ prog_6_method_6_code 3 (some .int) ∈ a_w0 := a_w0_in (List.mem_append_right _ (List.mem_of_getElem? (i := 983) (by decide +kernel))) rfl
theorem cm_Pla_tellPrice : a_cm M_Pla_tellPrice 2 := ⟨w_983, rfl, w_5, by decide, by decide +kernel, by decide +kernel, by decide +kernel⟩
theorem ok_Law_stands : a_ok M_Law_stands := ⟨by decide +kernel, rfl, by decide +kernel⟩
theorem ok_Led_stands : a_ok M_Led_stands := ⟨by decide +kernel, rfl, by decide +kernel⟩
theorem w_990 : Cond.code ⟨"LedTables", "stands", "(II)Z"⟩ prog_1_method_20_code 3 (some .boolean) ∈ a_w0 := a_w0_in (List.mem_append_right _ (List.mem_of_getElem? (i := 990) (by decide +kernel))) rfl
theorem cm_Led_stands : a_cm M_Led_stands 2 := ⟨w_990, rfl, w_1, by decide, by decide +kernel, by decide +kernel, by decide +kernel⟩
theorem ok_Led_checkNode : a_ok M_Led_checkNode := ⟨by decide +kernel, rfl, by decide +kernel⟩
theorem w_994 : Cond.code ⟨"LedTables", "checkNode", "(II)V"⟩ prog_1_method_52_code 3 none ∈ a_w0 := a_w0_in (List.mem_append_right _ (List.mem_of_getElem? (i := 994) (by decide +kernel))) rfl
theorem cm_Led_checkNode : a_cm M_Led_checkNode 2 := ⟨w_994, rfl, w_1, by decide, by decide +kernel, by decide +kernel, by decide +kernel⟩
theorem ok_Pla_manyNodes : a_ok M_Pla_manyNodes := ⟨by decide +kernel, rfl, by decide +kernel⟩
theorem w_998 : Cond.code ⟨"LedTables$Plan", "manyNodes", "()I"⟩ prog_6_method_13_code 1 (some .int) ∈ a_w0 := a_w0_in (List.mem_append_right _ (List.mem_of_getElem? (i := 998) (by decide +kernel))) rfl
theorem cm_Pla_manyNodes : a_cm M_Pla_manyNodes 0 := ⟨w_998, rfl, w_5, by decide, by decide +kernel, by decide +kernel, by decide +kernel⟩
theorem ok_Pla_power : a_ok M_Pla_power := ⟨by decide +kernel, rfl, by decide +kernel⟩
theorem w_1001 : Cond.code ⟨"LedTables$Plan", "power", "(I)I"⟩ prog_6_method_15_code 1 (some .int) ∈ a_w0 := a_w0_in (List.mem_append_right _ (List.mem_of_getElem? (i := 1001) (by decide +kernel))) rfl
theorem cm_Pla_power : a_cm M_Pla_power 1 := ⟨w_1001, rfl, w_5, by decide, by decide +kernel, by decide +kernel, by decide +kernel⟩
theorem ok_Pla_manySets : a_ok M_Pla_manySets := ⟨by decide +kernel, rfl, by decide +kernel⟩
theorem w_1007 : Cond.code ⟨"LedTables$Plan", "manySets", "()I"⟩ prog_6_method_14_code 1 (some .int) ∈ a_w0 := a_w0_in (List.mem_append_right _ (List.mem_of_getElem? (i := 1007) (by decide +kernel))) rfl
theorem cm_Pla_manySets : a_cm M_Pla_manySets 0 := ⟨w_1007, rfl, w_5, by decide, by decide +kernel, by decide +kernel, by decide +kernel⟩
theorem ok_Pla_isStanding : a_ok M_Pla_isStanding := ⟨by decide +kernel, rfl, by decide +kernel⟩
theorem w_1011 : Cond.code ⟨"LedTables$Plan", "isStanding", "(II)Z"⟩ prog_6_method_17_code 4 (some .boolean) ∈ a_w0 := a_w0_in (List.mem_append_right _ (List.mem_of_getElem? (i := 1011) (by decide +kernel))) rfl
theorem cm_Pla_isStanding : a_cm M_Pla_isStanding 2 := ⟨w_1011, rfl, w_5, by decide, by decide +kernel, by decide +kernel, by decide +kernel⟩
theorem ok_Pla_stagesFor : a_ok M_Pla_stagesFor := ⟨by decide +kernel, rfl, by decide +kernel⟩
theorem w_1015 : Cond.code ⟨"LedTables$Plan", "stagesFor", "(II)I"⟩ prog_6_method_18_code 8 (some .int) ∈ a_w0 := a_w0_in (List.mem_append_right _ (List.mem_of_getElem? (i := 1015) (by decide +kernel))) rfl
theorem cm_Pla_stagesFor : a_cm M_Pla_stagesFor 2 := ⟨w_1015, rfl, w_5, by decide, by decide +kernel, by decide +kernel, by decide +kernel⟩
theorem ok_Pla_stageOf : a_ok M_Pla_stageOf := ⟨by decide +kernel, rfl, by decide +kernel⟩
theorem w_1018 : Cond.code ⟨"LedTables$Plan", "stageOf", "(II)I"⟩ prog_6_method_16_code 3 (some .int) ∈ a_w0 := a_w0_in (List.mem_append_right _ (List.mem_of_getElem? (i := 1018) (by decide +kernel))) rfl
theorem cm_Pla_stageOf : a_cm M_Pla_stageOf 2 := ⟨w_1018, rfl, w_5, by decide, by decide +kernel, by decide +kernel, by decide +kernel⟩
theorem ok_Pla_keepsPairs : a_ok M_Pla_keepsPairs := ⟨by decide +kernel, rfl, by decide +kernel⟩
theorem w_1022 : Cond.code ⟨"LedTables$Plan", "keepsPairs", "(I)Z"⟩ prog_6_method_19_code 7 (some .boolean) ∈ a_w0 := a_w0_in (List.mem_append_right _ (List.mem_of_getElem? (i := 1022) (by decide +kernel))) rfl
theorem cm_Pla_keepsPairs : a_cm M_Pla_keepsPairs 1 := ⟨w_1022, rfl, w_5, by decide, by decide +kernel, by decide +kernel, by decide +kernel⟩
theorem ok_Pla_isUnderWay : a_ok M_Pla_isUnderWay := ⟨by decide +kernel, rfl, by decide +kernel⟩
theorem w_1025 : Cond.code ⟨"LedTables$Plan", "isUnderWay", "(I)Z"⟩ prog_6_method_20_code 1 (some .boolean) ∈ a_w0 := a_w0_in (List.mem_append_right _ (List.mem_of_getElem? (i := 1025) (by decide +kernel))) rfl
theorem cm_Pla_isUnderWay : a_cm M_Pla_isUnderWay 1 := ⟨w_1025, rfl, w_5, by decide, by decide +kernel, by decide +kernel, by decide +kernel⟩
theorem ok_Law_way : a_ok M_Law_way := ⟨by decide +kernel, rfl, by decide +kernel⟩
theorem ok_Led_way : a_ok M_Led_way := ⟨by decide +kernel, rfl, by decide +kernel⟩
theorem w_1032 : Cond.code ⟨"LedTables", "way", "(III)I"⟩ prog_1_method_21_code 4 (some .int) ∈ a_w0 := a_w0_in (List.mem_append_right _ (List.mem_of_getElem? (i := 1032) (by decide +kernel))) rfl
theorem cm_Led_way : a_cm M_Led_way 3 := ⟨w_1032, rfl, w_1, by decide, by decide +kernel, by decide +kernel, by decide +kernel⟩
theorem ok_Led_worked : a_ok M_Led_worked := ⟨by decide +kernel, rfl, by decide +kernel⟩
theorem w_1037 : Cond.code ⟨"LedTables", "worked", "()LLedTables$Ways;"⟩ prog_1_method_25_code 1 (some (.object "LedTables$Ways")) ∈ a_w0 := a_w0_in (List.mem_append_right _ (List.mem_of_getElem? (i := 1037) (by decide +kernel))) rfl
theorem cm_Led_worked : a_cm M_Led_worked 0 := ⟨w_1037, rfl, w_1, by decide, by decide +kernel, by decide +kernel, by decide +kernel⟩
theorem ok_Way_init : a_ok M_Way_init := ⟨by decide +kernel, rfl, by decide +kernel⟩
theorem w_24 : Cond.initialized "LedTables$Ways" ∈ a_w0 := a_w0_in (List.mem_append_right _ (List.mem_of_getElem? (i := 24) (by decide +kernel))) rfl
theorem w_1042 : Cond.code ⟨"LedTables$Ways", "<init>", "(LLedTables$Plan;)V"⟩ prog_10_method_1_code 2 none ∈ a_w0 := a_w0_in (List.mem_append_right _ (List.mem_of_getElem? (i := 1042) (by decide +kernel))) rfl
theorem cm_Way_init : a_cm M_Way_init 1 := ⟨w_1042, rfl, w_24, by decide, by decide +kernel, by decide +kernel, by decide +kernel⟩
theorem ok_Way_workIfStale : a_ok M_Way_workIfStale := ⟨by decide +kernel, rfl, by decide +kernel⟩
theorem w_1075 : Cond.code ⟨"LedTables$Ways", "workIfStale", "()V"⟩ prog_10_method_2_code 2 none ∈ a_w0 := a_w0_in (List.mem_append_right _ (List.mem_of_getElem? (i := 1075) (by decide +kernel))) rfl
theorem cm_Way_workIfStale : a_cm M_Way_workIfStale 0 := ⟨w_1075, rfl, w_24, by decide, by decide +kernel, by decide +kernel, by decide +kernel⟩
theorem ok_Way_beginSet : a_ok M_Way_beginSet := ⟨by decide +kernel, rfl, by decide +kernel⟩
theorem w_1083 : Cond.code ⟨"LedTables$Ways", "beginSet", "(I)V"⟩ prog_10_method_3_code 8 none ∈ a_w0 := a_w0_in (List.mem_append_right _ (List.mem_of_getElem? (i := 1083) (by decide +kernel))) rfl
theorem cm_Way_beginSet : a_cm M_Way_beginSet 1 := ⟨w_1083, rfl, w_24, by decide, by decide +kernel, by decide +kernel, by decide +kernel⟩
theorem ok_Way_hasStages : a_ok M_Way_hasStages := ⟨by decide +kernel, rfl, by decide +kernel⟩
theorem w_1088 : Cond.code ⟨"LedTables$Ways", "hasStages", "(I)Z"⟩ prog_10_method_4_code 3 (some .boolean) ∈ a_w0 := a_w0_in (List.mem_append_right _ (List.mem_of_getElem? (i := 1088) (by decide +kernel))) rfl
theorem cm_Way_hasStages : a_cm M_Way_hasStages 1 := ⟨w_1088, rfl, w_24, by decide, by decide +kernel, by decide +kernel, by decide +kernel⟩
theorem ok_Pla_priceOf : a_ok M_Pla_priceOf := ⟨by decide +kernel, rfl, by decide +kernel⟩
theorem w_1094 : Cond.code ⟨"LedTables$Plan", "priceOf", "(I)I"⟩ prog_6_method_12_code 2 (some .int) ∈ a_w0 := a_w0_in (List.mem_append_right _ (List.mem_of_getElem? (i := 1094) (by decide +kernel))) rfl
theorem cm_Pla_priceOf : a_cm M_Pla_priceOf 1 := ⟨w_1094, rfl, w_5, by decide, by decide +kernel, by decide +kernel, by decide +kernel⟩
theorem ok_Way_learn : a_ok M_Way_learn := ⟨by decide +kernel, rfl, by decide +kernel⟩
theorem w_1098 : Cond.code ⟨"LedTables$Ways", "learn", "(IIII)Z"⟩ prog_10_method_6_code 6 (some .boolean) ∈ a_w0 := a_w0_in (List.mem_append_right _ (List.mem_of_getElem? (i := 1098) (by decide +kernel))) rfl
theorem cm_Way_learn : a_cm M_Way_learn 4 := ⟨w_1098, rfl, w_24, by decide, by decide +kernel, by decide +kernel, by decide +kernel⟩
theorem ok_Way_isPlace : a_ok M_Way_isPlace := ⟨by decide +kernel, rfl, by decide +kernel⟩
theorem w_1101 : Cond.code ⟨"LedTables$Ways", "isPlace", "(I)Z"⟩ prog_10_method_10_code 1 (some .boolean) ∈ a_w0 := a_w0_in (List.mem_append_right _ (List.mem_of_getElem? (i := 1101) (by decide +kernel))) rfl
theorem cm_Way_isPlace : a_cm M_Way_isPlace 1 := ⟨w_1101, rfl, w_24, by decide, by decide +kernel, by decide +kernel, by decide +kernel⟩
theorem ok_Way_settleSet : a_ok M_Way_settleSet := ⟨by decide +kernel, rfl, by decide +kernel⟩
theorem w_1105 : Cond.code ⟨"LedTables$Ways", "settleSet", "(I)V"⟩ prog_10_method_5_code 8 none ∈ a_w0 := a_w0_in (List.mem_append_right _ (List.mem_of_getElem? (i := 1105) (by decide +kernel))) rfl
theorem cm_Way_settleSet : a_cm M_Way_settleSet 1 := ⟨w_1105, rfl, w_24, by decide, by decide +kernel, by decide +kernel, by decide +kernel⟩
theorem ok_Way_nextOf : a_ok M_Way_nextOf := ⟨by decide +kernel, rfl, by decide +kernel⟩
theorem w_1109 : Cond.code ⟨"LedTables$Ways", "nextOf", "(III)I"⟩ prog_10_method_7_code 7 (some .int) ∈ a_w0 := a_w0_in (List.mem_append_right _ (List.mem_of_getElem? (i := 1109) (by decide +kernel))) rfl
theorem cm_Way_nextOf : a_cm M_Way_nextOf 3 := ⟨w_1109, rfl, w_24, by decide, by decide +kernel, by decide +kernel, by decide +kernel⟩
theorem ok_Way_holdingOf : a_ok M_Way_holdingOf := ⟨by decide +kernel, rfl, by decide +kernel⟩
theorem w_1114 : Cond.code ⟨"LedTables$Ways", "holdingOf", "(II)I"⟩ prog_10_method_8_code 3 (some .int) ∈ a_w0 := a_w0_in (List.mem_append_right _ (List.mem_of_getElem? (i := 1114) (by decide +kernel))) rfl
theorem cm_Way_holdingOf : a_cm M_Way_holdingOf 2 := ⟨w_1114, rfl, w_24, by decide, by decide +kernel, by decide +kernel, by decide +kernel⟩
theorem ok_Pla_holdAt : a_ok M_Pla_holdAt := ⟨by decide +kernel, rfl, by decide +kernel⟩
theorem w_1118 : Cond.code ⟨"LedTables$Plan", "holdAt", "(II)I"⟩ prog_6_method_11_code 4 (some .int) ∈ a_w0 := a_w0_in (List.mem_append_right _ (List.mem_of_getElem? (i := 1118) (by decide +kernel))) rfl
theorem cm_Pla_holdAt : a_cm M_Pla_holdAt 2 := ⟨w_1118, rfl, w_5, by decide, by decide +kernel, by decide +kernel, by decide +kernel⟩
theorem ok_Way_partOfWay : a_ok M_Way_partOfWay := ⟨by decide +kernel, rfl, by decide +kernel⟩
theorem w_1122 : Cond.code ⟨"LedTables$Ways", "partOfWay", "(III)I"⟩ prog_10_method_11_code 6 (some .int) ∈ a_w0 := a_w0_in (List.mem_append_right _ (List.mem_of_getElem? (i := 1122) (by decide +kernel))) rfl
theorem cm_Way_partOfWay : a_cm M_Way_partOfWay 3 := ⟨w_1122, rfl, w_24, by decide, by decide +kernel, by decide +kernel, by decide +kernel⟩
theorem ok_Way_placeOf : a_ok M_Way_placeOf := ⟨by decide +kernel, rfl, by decide +kernel⟩
theorem w_1126 : Cond.code ⟨"LedTables$Ways", "placeOf", "(II)I"⟩ prog_10_method_9_code 4 (some .int) ∈ a_w0 := a_w0_in (List.mem_append_right _ (List.mem_of_getElem? (i := 1126) (by decide +kernel))) rfl
theorem cm_Way_placeOf : a_cm M_Way_placeOf 2 := ⟨w_1126, rfl, w_24, by decide, by decide +kernel, by decide +kernel, by decide +kernel⟩
theorem ok_Way_stepOfWay : a_ok M_Way_stepOfWay := ⟨by decide +kernel, rfl, by decide +kernel⟩
theorem w_1130 : Cond.code ⟨"LedTables$Ways", "stepOfWay", "(II)I"⟩ prog_10_method_12_code 5 (some .int) ∈ a_w0 := a_w0_in (List.mem_append_right _ (List.mem_of_getElem? (i := 1130) (by decide +kernel))) rfl
theorem cm_Way_stepOfWay : a_cm M_Way_stepOfWay 2 := ⟨w_1130, rfl, w_24, by decide, by decide +kernel, by decide +kernel, by decide +kernel⟩
theorem ok_Way_bestStep : a_ok M_Way_bestStep := ⟨by decide +kernel, rfl, by decide +kernel⟩
theorem w_1134 : Cond.code ⟨"LedTables$Ways", "bestStep", "(I)I"⟩ prog_10_method_13_code 6 (some .int) ∈ a_w0 := a_w0_in (List.mem_append_right _ (List.mem_of_getElem? (i := 1134) (by decide +kernel))) rfl
theorem cm_Way_bestStep : a_cm M_Way_bestStep 1 := ⟨w_1134, rfl, w_24, by decide, by decide +kernel, by decide +kernel, by decide +kernel⟩
theorem ok_Way_behind : a_ok M_Way_behind := ⟨by decide +kernel, rfl, by decide +kernel⟩
theorem w_1139 : Cond.code ⟨"LedTables$Ways", "behind", "(II)I"⟩ prog_10_method_14_code 4 (some .int) ∈ a_w0 := a_w0_in (List.mem_append_right _ (List.mem_of_getElem? (i := 1139) (by decide +kernel))) rfl
theorem cm_Way_behind : a_cm M_Way_behind 2 := ⟨w_1139, rfl, w_24, by decide, by decide +kernel, by decide +kernel, by decide +kernel⟩
theorem ok_Law_fewest : a_ok M_Law_fewest := ⟨by decide +kernel, rfl, by decide +kernel⟩
theorem ok_Led_fewest : a_ok M_Led_fewest := ⟨by decide +kernel, rfl, by decide +kernel⟩
theorem w_1146 : Cond.code ⟨"LedTables", "fewest", "(II)I"⟩ prog_1_method_22_code 3 (some .int) ∈ a_w0 := a_w0_in (List.mem_append_right _ (List.mem_of_getElem? (i := 1146) (by decide +kernel))) rfl
theorem cm_Led_fewest : a_cm M_Led_fewest 2 := ⟨w_1146, rfl, w_1, by decide, by decide +kernel, by decide +kernel, by decide +kernel⟩
theorem ok_Way_fewestRewritten : a_ok M_Way_fewestRewritten := ⟨by decide +kernel, rfl, by decide +kernel⟩
theorem w_1150 : Cond.code ⟨"LedTables$Ways", "fewestRewritten", "(II)I"⟩ prog_10_method_15_code 4 (some .int) ∈ a_w0 := a_w0_in (List.mem_append_right _ (List.mem_of_getElem? (i := 1150) (by decide +kernel))) rfl
theorem cm_Way_fewestRewritten : a_cm M_Way_fewestRewritten 2 := ⟨w_1150, rfl, w_24, by decide, by decide +kernel, by decide +kernel, by decide +kernel⟩
theorem ok_Law_isBack : a_ok M_Law_isBack := ⟨by decide +kernel, rfl, by decide +kernel⟩
theorem ok_Led_isBack : a_ok M_Led_isBack := ⟨by decide +kernel, rfl, by decide +kernel⟩
theorem w_1157 : Cond.code ⟨"LedTables", "isBack", "(II)Z"⟩ prog_1_method_23_code 3 (some .boolean) ∈ a_w0 := a_w0_in (List.mem_append_right _ (List.mem_of_getElem? (i := 1157) (by decide +kernel))) rfl
theorem cm_Led_isBack : a_cm M_Led_isBack 2 := ⟨w_1157, rfl, w_1, by decide, by decide +kernel, by decide +kernel, by decide +kernel⟩
theorem ok_Way_hasBack : a_ok M_Way_hasBack := ⟨by decide +kernel, rfl, by decide +kernel⟩
theorem w_1161 : Cond.code ⟨"LedTables$Ways", "hasBack", "(II)Z"⟩ prog_10_method_16_code 3 (some .boolean) ∈ a_w0 := a_w0_in (List.mem_append_right _ (List.mem_of_getElem? (i := 1161) (by decide +kernel))) rfl
theorem cm_Way_hasBack : a_cm M_Way_hasBack 2 := ⟨w_1161, rfl, w_24, by decide, by decide +kernel, by decide +kernel, by decide +kernel⟩
theorem ok_Law_last : a_ok M_Law_last := ⟨by decide +kernel, rfl, by decide +kernel⟩
theorem ok_Led_last : a_ok M_Led_last := ⟨by decide +kernel, rfl, by decide +kernel⟩
theorem w_1168 : Cond.code ⟨"LedTables", "last", "(II)I"⟩ prog_1_method_24_code 3 (some .int) ∈ a_w0 := a_w0_in (List.mem_append_right _ (List.mem_of_getElem? (i := 1168) (by decide +kernel))) rfl
theorem cm_Led_last : a_cm M_Led_last 2 := ⟨w_1168, rfl, w_1, by decide, by decide +kernel, by decide +kernel, by decide +kernel⟩
theorem ok_Way_lastBack : a_ok M_Way_lastBack := ⟨by decide +kernel, rfl, by decide +kernel⟩
theorem w_1172 : Cond.code ⟨"LedTables$Ways", "lastBack", "(II)I"⟩ prog_10_method_17_code 7 (some .int) ∈ a_w0 := a_w0_in (List.mem_append_right _ (List.mem_of_getElem? (i := 1172) (by decide +kernel))) rfl
theorem cm_Way_lastBack : a_cm M_Way_lastBack 2 := ⟨w_1172, rfl, w_24, by decide, by decide +kernel, by decide +kernel, by decide +kernel⟩
theorem ok_Law_insert : a_ok M_Law_insert := ⟨by decide +kernel, rfl, by decide +kernel⟩
theorem ok_Led_insert : a_ok M_Led_insert := ⟨by decide +kernel, rfl, by decide +kernel⟩
theorem w_1179 : Cond.code ⟨"LedTables", "insert", "(I)I"⟩ prog_1_method_28_code 2 (some .int) ∈ a_w0 := a_w0_in (List.mem_append_right _ (List.mem_of_getElem? (i := 1179) (by decide +kernel))) rfl
theorem cm_Led_insert : a_cm M_Led_insert 1 := ⟨w_1179, rfl, w_1, by decide, by decide +kernel, by decide +kernel, by decide +kernel⟩
theorem ok_Led_checkKey : a_ok M_Led_checkKey := ⟨by decide +kernel, rfl, by decide +kernel⟩
theorem w_1182 : Cond.code ⟨"LedTables", "checkKey", "(I)V"⟩ prog_1_method_47_code 1 none ∈ a_w0 := a_w0_in (List.mem_append_right _ (List.mem_of_getElem? (i := 1182) (by decide +kernel))) rfl
theorem cm_Led_checkKey : a_cm M_Led_checkKey 1 := ⟨w_1182, rfl, w_1, by decide, by decide +kernel, by decide +kernel, by decide +kernel⟩
theorem ok_Tab_addRow : a_ok M_Tab_addRow := ⟨by decide +kernel, rfl, by decide +kernel⟩
theorem w_1187 : Cond.code ⟨"LedTables$Table", "addRow", "(I)I"⟩ prog_9_method_8_code 3 (some .int) ∈ a_w0 := a_w0_in (List.mem_append_right _ (List.mem_of_getElem? (i := 1187) (by decide +kernel))) rfl
theorem cm_Tab_addRow : a_cm M_Tab_addRow 1 := ⟨w_1187, rfl, w_7, by decide, by decide +kernel, by decide +kernel, by decide +kernel⟩
theorem ok_Tab_isThere : a_ok M_Tab_isThere := ⟨by decide +kernel, rfl, by decide +kernel⟩
theorem w_1191 : Cond.code ⟨"LedTables$Table", "isThere", "(I)Z"⟩ prog_9_method_2_code 2 (some .boolean) ∈ a_w0 := a_w0_in (List.mem_append_right _ (List.mem_of_getElem? (i := 1191) (by decide +kernel))) rfl
theorem cm_Tab_isThere : a_cm M_Tab_isThere 1 := ⟨w_1191, rfl, w_7, by decide, by decide +kernel, by decide +kernel, by decide +kernel⟩
theorem ok_Row_begin : a_ok M_Row_begin := ⟨by decide +kernel, rfl, by decide +kernel⟩
theorem w_1195 : Cond.code ⟨"LedTables$Row", "begin", "()V"⟩ prog_8_method_2_code 2 none ∈ a_w0 := a_w0_in (List.mem_append_right _ (List.mem_of_getElem? (i := 1195) (by decide +kernel))) rfl
theorem cm_Row_begin : a_cm M_Row_begin 0 := ⟨w_1195, rfl, w_8, by decide, by decide +kernel, by decide +kernel, by decide +kernel⟩
theorem ok_Tab_seeAnew : a_ok M_Tab_seeAnew := ⟨by decide +kernel, rfl, by decide +kernel⟩
theorem w_1200 : Cond.code ⟨"LedTables$Table", "seeAnew", "(LLedTables$Row;)V"⟩ prog_9_method_10_code 2 none ∈ a_w0 := a_w0_in (List.mem_append_right _ (List.mem_of_getElem? (i := 1200) (by decide +kernel))) rfl
theorem cm_Tab_seeAnew : a_cm M_Tab_seeAnew 1 := ⟨w_1200, rfl, w_7, by decide, by decide +kernel, by decide +kernel, by decide +kernel⟩
theorem ok_Tab_lead : a_ok M_Tab_lead := ⟨by decide +kernel, rfl, by decide +kernel⟩
theorem w_1205 : Cond.code ⟨"LedTables$Table", "lead", "(LLedTables$Row;)V"⟩ prog_9_method_11_code 2 none ∈ a_w0 := a_w0_in (List.mem_append_right _ (List.mem_of_getElem? (i := 1205) (by decide +kernel))) rfl
theorem cm_Tab_lead : a_cm M_Tab_lead 1 := ⟨w_1205, rfl, w_7, by decide, by decide +kernel, by decide +kernel, by decide +kernel⟩
theorem ok_Law_delete : a_ok M_Law_delete := ⟨by decide +kernel, rfl, by decide +kernel⟩
theorem ok_Led_delete : a_ok M_Led_delete := ⟨by decide +kernel, rfl, by decide +kernel⟩
theorem w_1213 : Cond.code ⟨"LedTables", "delete", "(I)Z"⟩ prog_1_method_29_code 2 (some .boolean) ∈ a_w0 := a_w0_in (List.mem_append_right _ (List.mem_of_getElem? (i := 1213) (by decide +kernel))) rfl
theorem cm_Led_delete : a_cm M_Led_delete 1 := ⟨w_1213, rfl, w_1, by decide, by decide +kernel, by decide +kernel, by decide +kernel⟩
theorem ok_Tab_dropRow : a_ok M_Tab_dropRow := ⟨by decide +kernel, rfl, by decide +kernel⟩
theorem w_1217 : Cond.code ⟨"LedTables$Table", "dropRow", "(I)Z"⟩ prog_9_method_9_code 2 (some .boolean) ∈ a_w0 := a_w0_in (List.mem_append_right _ (List.mem_of_getElem? (i := 1217) (by decide +kernel))) rfl
theorem cm_Tab_dropRow : a_cm M_Tab_dropRow 1 := ⟨w_1217, rfl, w_7, by decide, by decide +kernel, by decide +kernel, by decide +kernel⟩
theorem ok_Law_read : a_ok M_Law_read := ⟨by decide +kernel, rfl, by decide +kernel⟩
theorem ok_Led_read : a_ok M_Led_read := ⟨by decide +kernel, rfl, by decide +kernel⟩
theorem w_1224 : Cond.code ⟨"LedTables", "read", "(IIII)I"⟩ prog_1_method_30_code 5 (some .int) ∈ a_w0 := a_w0_in (List.mem_append_right _ (List.mem_of_getElem? (i := 1224) (by decide +kernel))) rfl
theorem cm_Led_read : a_cm M_Led_read 4 := ⟨w_1224, rfl, w_1, by decide, by decide +kernel, by decide +kernel, by decide +kernel⟩
theorem ok_Led_checkAsked : a_ok M_Led_checkAsked := ⟨by decide +kernel, rfl, by decide +kernel⟩
theorem w_1227 : Cond.code ⟨"LedTables", "checkAsked", "(III)V"⟩ prog_1_method_46_code 3 none ∈ a_w0 := a_w0_in (List.mem_append_right _ (List.mem_of_getElem? (i := 1227) (by decide +kernel))) rfl
theorem cm_Led_checkAsked : a_cm M_Led_checkAsked 3 := ⟨w_1227, rfl, w_1, by decide, by decide +kernel, by decide +kernel, by decide +kernel⟩
theorem ok_Led_checkThere : a_ok M_Led_checkThere := ⟨by decide +kernel, rfl, by decide +kernel⟩
theorem w_1231 : Cond.code ⟨"LedTables", "checkThere", "(I)V"⟩ prog_1_method_49_code 2 none ∈ a_w0 := a_w0_in (List.mem_append_right _ (List.mem_of_getElem? (i := 1231) (by decide +kernel))) rfl
theorem cm_Led_checkThere : a_cm M_Led_checkThere 1 := ⟨w_1231, rfl, w_1, by decide, by decide +kernel, by decide +kernel, by decide +kernel⟩
theorem ok_Tab_readLetter : a_ok M_Tab_readLetter := ⟨by decide +kernel, rfl, by decide +kernel⟩
theorem w_1237 : Cond.code ⟨"LedTables$Table", "readLetter", "(IIII)I"⟩ prog_9_method_16_code 5 (some .int) ∈ a_w0 := a_w0_in (List.mem_append_right _ (List.mem_of_getElem? (i := 1237) (by decide +kernel))) rfl
theorem cm_Tab_readLetter : a_cm M_Tab_readLetter 4 := ⟨w_1237, rfl, w_7, by decide, by decide +kernel, by decide +kernel, by decide +kernel⟩
theorem ok_Ask_note : a_ok M_Ask_note := ⟨by decide +kernel, rfl, by decide +kernel⟩
theorem w_1241 : Cond.code ⟨"LedTables$Asked", "note", "(IIIZI)V"⟩ prog_2_method_3_code 6 none ∈ a_w0 := a_w0_in (List.mem_append_right _ (List.mem_of_getElem? (i := 1241) (by decide +kernel))) rfl
theorem cm_Ask_note : a_cm M_Ask_note 5 := ⟨w_1241, rfl, w_6, by decide, by decide +kernel, by decide +kernel, by decide +kernel⟩
theorem ok_Tab_oldAsIf : a_ok M_Tab_oldAsIf := ⟨by decide +kernel, rfl, by decide +kernel⟩
theorem w_1245 : Cond.code ⟨"LedTables$Table", "oldAsIf", "(LLedTables$Row;[I)V"⟩ prog_9_method_12_code 3 none ∈ a_w0 := a_w0_in (List.mem_append_right _ (List.mem_of_getElem? (i := 1245) (by decide +kernel))) rfl
theorem cm_Tab_oldAsIf : a_cm M_Tab_oldAsIf 2 := ⟨w_1245, rfl, w_7, by decide, by decide +kernel, by decide +kernel, by decide +kernel⟩
theorem ok_Row_hasOld : a_ok M_Row_hasOld := ⟨by decide +kernel, rfl, by decide +kernel⟩
theorem w_1249 : Cond.code ⟨"LedTables$Row", "hasOld", "()Z"⟩ prog_8_method_8_code 1 (some .boolean) ∈ a_w0 := a_w0_in (List.mem_append_right _ (List.mem_of_getElem? (i := 1249) (by decide +kernel))) rfl
theorem cm_Row_hasOld : a_cm M_Row_hasOld 0 := ⟨w_1249, rfl, w_8, by decide, by decide +kernel, by decide +kernel, by decide +kernel⟩
theorem ok_Tab_copyLetters : a_ok M_Tab_copyLetters := ⟨by decide +kernel, rfl, by decide +kernel⟩
theorem w_1252 : Cond.code ⟨"LedTables$Table", "copyLetters", "([I[I)V"⟩ prog_9_method_15_code 2 none ∈ a_w0 := a_w0_in (List.mem_append_right _ (List.mem_of_getElem? (i := 1252) (by decide +kernel))) rfl
theorem cm_Tab_copyLetters : a_cm M_Tab_copyLetters 2 := ⟨w_1252, rfl, w_7, by decide, by decide +kernel, by decide +kernel, by decide +kernel⟩
theorem ok_Tab_newAsIf : a_ok M_Tab_newAsIf := ⟨by decide +kernel, rfl, by decide +kernel⟩
theorem w_1258 : Cond.code ⟨"LedTables$Table", "newAsIf", "(LLedTables$Row;[I)V"⟩ prog_9_method_13_code 3 none ∈ a_w0 := a_w0_in (List.mem_append_right _ (List.mem_of_getElem? (i := 1258) (by decide +kernel))) rfl
theorem cm_Tab_newAsIf : a_cm M_Tab_newAsIf 2 := ⟨w_1258, rfl, w_7, by decide, by decide +kernel, by decide +kernel, by decide +kernel⟩
theorem ok_Row_hasNew : a_ok M_Row_hasNew := ⟨by decide +kernel, rfl, by decide +kernel⟩
theorem w_1262 : Cond.code ⟨"LedTables$Row", "hasNew", "()Z"⟩ prog_8_method_9_code 1 (some .boolean) ∈ a_w0 := a_w0_in (List.mem_append_right _ (List.mem_of_getElem? (i := 1262) (by decide +kernel))) rfl
theorem cm_Row_hasNew : a_cm M_Row_hasNew 0 := ⟨w_1262, rfl, w_8, by decide, by decide +kernel, by decide +kernel, by decide +kernel⟩
theorem ok_Law_write : a_ok M_Law_write := ⟨by decide +kernel, rfl, by decide +kernel⟩
theorem ok_Led_write : a_ok M_Led_write := ⟨by decide +kernel, rfl, by decide +kernel⟩
theorem w_1269 : Cond.code ⟨"LedTables", "write", "(IIIII)I"⟩ prog_1_method_31_code 6 (some .int) ∈ a_w0 := a_w0_in (List.mem_append_right _ (List.mem_of_getElem? (i := 1269) (by decide +kernel))) rfl
theorem cm_Led_write : a_cm M_Led_write 5 := ⟨w_1269, rfl, w_1, by decide, by decide +kernel, by decide +kernel, by decide +kernel⟩
theorem ok_Tab_writeLetter : a_ok M_Tab_writeLetter := ⟨by decide +kernel, rfl, by decide +kernel⟩
theorem w_1275 : Cond.code ⟨"LedTables$Table", "writeLetter", "(IIIII)Z"⟩ prog_9_method_17_code 7 (some .boolean) ∈ a_w0 := a_w0_in (List.mem_append_right _ (List.mem_of_getElem? (i := 1275) (by decide +kernel))) rfl
theorem cm_Tab_writeLetter : a_cm M_Tab_writeLetter 5 := ⟨w_1275, rfl, w_7, by decide, by decide +kernel, by decide +kernel, by decide +kernel⟩
theorem ok_Row_isWritten : a_ok M_Row_isWritten := ⟨by decide +kernel, rfl, by decide +kernel⟩
theorem w_1279 : Cond.code ⟨"LedTables$Row", "isWritten", "(II)Z"⟩ prog_8_method_10_code 3 (some .boolean) ∈ a_w0 := a_w0_in (List.mem_append_right _ (List.mem_of_getElem? (i := 1279) (by decide +kernel))) rfl
theorem cm_Row_isWritten : a_cm M_Row_isWritten 2 := ⟨w_1279, rfl, w_8, by decide, by decide +kernel, by decide +kernel, by decide +kernel⟩
theorem ok_Row_noteWritten : a_ok M_Row_noteWritten := ⟨by decide +kernel, rfl, by decide +kernel⟩
theorem w_1283 : Cond.code ⟨"LedTables$Row", "noteWritten", "(II)V"⟩ prog_8_method_11_code 3 none ∈ a_w0 := a_w0_in (List.mem_append_right _ (List.mem_of_getElem? (i := 1283) (by decide +kernel))) rfl
theorem cm_Row_noteWritten : a_cm M_Row_noteWritten 2 := ⟨w_1283, rfl, w_8, by decide, by decide +kernel, by decide +kernel, by decide +kernel⟩
theorem ok_Tab_writeOld : a_ok M_Tab_writeOld := ⟨by decide +kernel, rfl, by decide +kernel⟩
theorem w_1287 : Cond.code ⟨"LedTables$Table", "writeOld", "(LLedTables$Row;II)V"⟩ prog_9_method_18_code 4 none ∈ a_w0 := a_w0_in (List.mem_append_right _ (List.mem_of_getElem? (i := 1287) (by decide +kernel))) rfl
theorem cm_Tab_writeOld : a_cm M_Tab_writeOld 3 := ⟨w_1287, rfl, w_7, by decide, by decide +kernel, by decide +kernel, by decide +kernel⟩
theorem ok_Tab_writeNew : a_ok M_Tab_writeNew := ⟨by decide +kernel, rfl, by decide +kernel⟩
theorem w_1291 : Cond.code ⟨"LedTables$Table", "writeNew", "(LLedTables$Row;II)V"⟩ prog_9_method_19_code 4 none ∈ a_w0 := a_w0_in (List.mem_append_right _ (List.mem_of_getElem? (i := 1291) (by decide +kernel))) rfl
theorem cm_Tab_writeNew : a_cm M_Tab_writeNew 3 := ⟨w_1291, rfl, w_7, by decide, by decide +kernel, by decide +kernel, by decide +kernel⟩
theorem ok_Tab_besideAsIf : a_ok M_Tab_besideAsIf := ⟨by decide +kernel, rfl, by decide +kernel⟩
theorem w_1295 : Cond.code ⟨"LedTables$Table", "besideAsIf", "(LLedTables$Row;[I)V"⟩ prog_9_method_14_code 3 none ∈ a_w0 := a_w0_in (List.mem_append_right _ (List.mem_of_getElem? (i := 1295) (by decide +kernel))) rfl
theorem cm_Tab_besideAsIf : a_cm M_Tab_besideAsIf 2 := ⟨w_1295, rfl, w_7, by decide, by decide +kernel, by decide +kernel, by decide +kernel⟩
theorem ok_Row_breakBy : a_ok M_Row_breakBy := ⟨by decide +kernel, rfl, by decide +kernel⟩
theorem w_1299 : Cond.code ⟨"LedTables$Row", "breakBy", "(II)V"⟩ prog_8_method_4_code 3 none ∈ a_w0 := a_w0_in (List.mem_append_right _ (List.mem_of_getElem? (i := 1299) (by decide +kernel))) rfl
theorem cm_Row_breakBy : a_cm M_Row_breakBy 2 := ⟨w_1299, rfl, w_8, by decide, by decide +kernel, by decide +kernel, by decide +kernel⟩
theorem ok_Law_first : a_ok M_Law_first := ⟨by decide +kernel, rfl, by decide +kernel⟩
theorem ok_Led_first : a_ok M_Led_first := ⟨by decide +kernel, rfl, by decide +kernel⟩
theorem w_1307 : Cond.code ⟨"LedTables", "first", "(I)I"⟩ prog_1_method_32_code 3 (some .int) ∈ a_w0 := a_w0_in (List.mem_append_right _ (List.mem_of_getElem? (i := 1307) (by decide +kernel))) rfl
theorem cm_Led_first : a_cm M_Led_first 1 := ⟨w_1307, rfl, w_1, by decide, by decide +kernel, by decide +kernel, by decide +kernel⟩
theorem ok_Law_tick : a_ok M_Law_tick := ⟨by decide +kernel, rfl, by decide +kernel⟩
theorem ok_Led_tick : a_ok M_Led_tick := ⟨by decide +kernel, rfl, by decide +kernel⟩
theorem w_1314 : Cond.code ⟨"LedTables", "tick", "(I)I"⟩ prog_1_method_33_code 2 (some .int) ∈ a_w0 := a_w0_in (List.mem_append_right _ (List.mem_of_getElem? (i := 1314) (by decide +kernel))) rfl
theorem cm_Led_tick : a_cm M_Led_tick 1 := ⟨w_1314, rfl, w_1, by decide, by decide +kernel, by decide +kernel, by decide +kernel⟩
theorem ok_Law_bite : a_ok M_Law_bite := ⟨by decide +kernel, rfl, by decide +kernel⟩
theorem ok_Led_bite : a_ok M_Led_bite := ⟨by decide +kernel, rfl, by decide +kernel⟩
theorem w_1322 : Cond.code ⟨"LedTables", "bite", "(I)I"⟩ prog_1_method_34_code 2 (some .int) ∈ a_w0 := a_w0_in (List.mem_append_right _ (List.mem_of_getElem? (i := 1322) (by decide +kernel))) rfl
theorem cm_Led_bite : a_cm M_Led_bite 1 := ⟨w_1322, rfl, w_1, by decide, by decide +kernel, by decide +kernel, by decide +kernel⟩
theorem ok_Tab_leadRows : a_ok M_Tab_leadRows := ⟨by decide +kernel, rfl, by decide +kernel⟩
theorem w_1327 : Cond.code ⟨"LedTables$Table", "leadRows", "(I)I"⟩ prog_9_method_20_code 6 (some .int) ∈ a_w0 := a_w0_in (List.mem_append_right _ (List.mem_of_getElem? (i := 1327) (by decide +kernel))) rfl
theorem cm_Tab_leadRows : a_cm M_Tab_leadRows 1 := ⟨w_1327, rfl, w_7, by decide, by decide +kernel, by decide +kernel, by decide +kernel⟩
theorem ok_Law_fall : a_ok M_Law_fall := ⟨by decide +kernel, rfl, by decide +kernel⟩
theorem ok_Led_fall : a_ok M_Led_fall := ⟨by decide +kernel, rfl, by decide +kernel⟩
theorem w_1335 : Cond.code ⟨"LedTables", "fall", "(I)I"⟩ prog_1_method_35_code 3 (some .int) ∈ a_w0 := a_w0_in (List.mem_append_right _ (List.mem_of_getElem? (i := 1335) (by decide +kernel))) rfl
theorem cm_Led_fall : a_cm M_Led_fall 1 := ⟨w_1335, rfl, w_1, by decide, by decide +kernel, by decide +kernel, by decide +kernel⟩
theorem ok_Law_row : a_ok M_Law_row := ⟨by decide +kernel, rfl, by decide +kernel⟩
theorem ok_Led_row : a_ok M_Led_row := ⟨by decide +kernel, rfl, by decide +kernel⟩
theorem w_1342 : Cond.code ⟨"LedTables", "row", "(II)I"⟩ prog_1_method_36_code 3 (some .int) ∈ a_w0 := a_w0_in (List.mem_append_right _ (List.mem_of_getElem? (i := 1342) (by decide +kernel))) rfl
theorem cm_Led_row : a_cm M_Led_row 2 := ⟨w_1342, rfl, w_1, by decide, by decide +kernel, by decide +kernel, by decide +kernel⟩
theorem ok_Tab_tellRow : a_ok M_Tab_tellRow := ⟨by decide +kernel, rfl, by decide +kernel⟩
theorem w_1346 : Cond.code ⟨"LedTables$Table", "tellRow", "(II)I"⟩ prog_9_method_21_code 4 (some .int) ∈ a_w0 := a_w0_in (List.mem_append_right _ (List.mem_of_getElem? (i := 1346) (by decide +kernel))) rfl
theorem cm_Tab_tellRow : a_cm M_Tab_tellRow 2 := ⟨w_1346, rfl, w_7, by decide, by decide +kernel, by decide +kernel, by decide +kernel⟩
theorem ok_Row_brokenSince : a_ok M_Row_brokenSince := ⟨by decide +kernel, rfl, by decide +kernel⟩
theorem w_1350 : Cond.code ⟨"LedTables$Row", "brokenSince", "()I"⟩ prog_8_method_6_code 1 (some .int) ∈ a_w0 := a_w0_in (List.mem_append_right _ (List.mem_of_getElem? (i := 1350) (by decide +kernel))) rfl
theorem cm_Row_brokenSince : a_cm M_Row_brokenSince 0 := ⟨w_1350, rfl, w_8, by decide, by decide +kernel, by decide +kernel, by decide +kernel⟩
theorem ok_Row_brokenBy : a_ok M_Row_brokenBy := ⟨by decide +kernel, rfl, by decide +kernel⟩
theorem w_1354 : Cond.code ⟨"LedTables$Row", "brokenBy", "()I"⟩ prog_8_method_7_code 1 (some .int) ∈ a_w0 := a_w0_in (List.mem_append_right _ (List.mem_of_getElem? (i := 1354) (by decide +kernel))) rfl
theorem cm_Row_brokenBy : a_cm M_Row_brokenBy 0 := ⟨w_1354, rfl, w_8, by decide, by decide +kernel, by decide +kernel, by decide +kernel⟩
theorem ok_Tab_tellBeside : a_ok M_Tab_tellBeside := ⟨by decide +kernel, rfl, by decide +kernel⟩
theorem w_1358 : Cond.code ⟨"LedTables$Table", "tellBeside", "(LLedTables$Row;I)I"⟩ prog_9_method_22_code 3 (some .int) ∈ a_w0 := a_w0_in (List.mem_append_right _ (List.mem_of_getElem? (i := 1358) (by decide +kernel))) rfl
theorem cm_Tab_tellBeside : a_cm M_Tab_tellBeside 2 := ⟨w_1358, rfl, w_7, by decide, by decide +kernel, by decide +kernel, by decide +kernel⟩
theorem ok_Law_quiet : a_ok M_Law_quiet := ⟨by decide +kernel, rfl, by decide +kernel⟩
theorem ok_Led_quiet : a_ok M_Led_quiet := ⟨by decide +kernel, rfl, by decide +kernel⟩
theorem w_1365 : Cond.code ⟨"LedTables", "quiet", "(I)I"⟩ prog_1_method_37_code 3 (some .int) ∈ a_w0 := a_w0_in (List.mem_append_right _ (List.mem_of_getElem? (i := 1365) (by decide +kernel))) rfl
theorem cm_Led_quiet : a_cm M_Led_quiet 1 := ⟨w_1365, rfl, w_1, by decide, by decide +kernel, by decide +kernel, by decide +kernel⟩
theorem ok_Law_asked : a_ok M_Law_asked := ⟨by decide +kernel, rfl, by decide +kernel⟩
theorem ok_Led_asked : a_ok M_Led_asked := ⟨by decide +kernel, rfl, by decide +kernel⟩
theorem w_1372 : Cond.code ⟨"LedTables", "asked", "(IIIZ)I"⟩ prog_1_method_38_code 5 (some .int) ∈ a_w0 := a_w0_in (List.mem_append_right _ (List.mem_of_getElem? (i := 1372) (by decide +kernel))) rfl
theorem cm_Led_asked : a_cm M_Led_asked 4 := ⟨w_1372, rfl, w_1, by decide, by decide +kernel, by decide +kernel, by decide +kernel⟩
theorem ok_Law_still : a_ok M_Law_still := ⟨by decide +kernel, rfl, by decide +kernel⟩
theorem ok_Led_still : a_ok M_Led_still := ⟨by decide +kernel, rfl, by decide +kernel⟩
theorem w_1380 : Cond.code ⟨"LedTables", "still", "(II)I"⟩ prog_1_method_39_code 3 (some .int) ∈ a_w0 := a_w0_in (List.mem_append_right _ (List.mem_of_getElem? (i := 1380) (by decide +kernel))) rfl
theorem cm_Led_still : a_cm M_Led_still 2 := ⟨w_1380, rfl, w_1, by decide, by decide +kernel, by decide +kernel, by decide +kernel⟩
theorem ok_Law_sum : a_ok M_Law_sum := ⟨by decide +kernel, rfl, by decide +kernel⟩
theorem ok_Led_sum : a_ok M_Led_sum := ⟨by decide +kernel, rfl, by decide +kernel⟩
theorem w_1388 : Cond.code ⟨"LedTables", "sum", "(II)I"⟩ prog_1_method_40_code 3 (some .int) ∈ a_w0 := a_w0_in (List.mem_append_right _ (List.mem_of_getElem? (i := 1388) (by decide +kernel))) rfl
theorem cm_Led_sum : a_cm M_Led_sum 2 := ⟨w_1388, rfl, w_1, by decide, by decide +kernel, by decide +kernel, by decide +kernel⟩
theorem ok_Led_checkSpan : a_ok M_Led_checkSpan := ⟨by decide +kernel, rfl, by decide +kernel⟩
theorem w_1391 : Cond.code ⟨"LedTables", "checkSpan", "(II)V"⟩ prog_1_method_48_code 2 none ∈ a_w0 := a_w0_in (List.mem_append_right _ (List.mem_of_getElem? (i := 1391) (by decide +kernel))) rfl
theorem cm_Led_checkSpan : a_cm M_Led_checkSpan 2 := ⟨w_1391, rfl, w_1, by decide, by decide +kernel, by decide +kernel, by decide +kernel⟩
theorem ok_Tab_sumOf : a_ok M_Tab_sumOf := ⟨by decide +kernel, rfl, by decide +kernel⟩
theorem w_1395 : Cond.code ⟨"LedTables$Table", "sumOf", "(II)I"⟩ prog_9_method_25_code 6 (some .int) ∈ a_w0 := a_w0_in (List.mem_append_right _ (List.mem_of_getElem? (i := 1395) (by decide +kernel))) rfl
theorem cm_Tab_sumOf : a_cm M_Tab_sumOf 2 := ⟨w_1395, rfl, w_7, by decide, by decide +kernel, by decide +kernel, by decide +kernel⟩
theorem ok_Tab_weigh : a_ok M_Tab_weigh := ⟨by decide +kernel, rfl, by decide +kernel⟩
theorem w_1399 : Cond.code ⟨"LedTables$Table", "weigh", "([I)I"⟩ prog_9_method_26_code 1 (some .int) ∈ a_w0 := a_w0_in (List.mem_append_right _ (List.mem_of_getElem? (i := 1399) (by decide +kernel))) rfl
theorem cm_Tab_weigh : a_cm M_Tab_weigh 1 := ⟨w_1399, rfl, w_7, by decide, by decide +kernel, by decide +kernel, by decide +kernel⟩
theorem ok_Law_halves : a_ok M_Law_halves := ⟨by decide +kernel, rfl, by decide +kernel⟩
theorem ok_Led_halves : a_ok M_Led_halves := ⟨by decide +kernel, rfl, by decide +kernel⟩
theorem w_1406 : Cond.code ⟨"LedTables", "halves", "(II)I"⟩ prog_1_method_41_code 3 (some .int) ∈ a_w0 := a_w0_in (List.mem_append_right _ (List.mem_of_getElem? (i := 1406) (by decide +kernel))) rfl
theorem cm_Led_halves : a_cm M_Led_halves 2 := ⟨w_1406, rfl, w_1, by decide, by decide +kernel, by decide +kernel, by decide +kernel⟩
theorem ok_Tab_halve : a_ok M_Tab_halve := ⟨by decide +kernel, rfl, by decide +kernel⟩
theorem w_1410 : Cond.code ⟨"LedTables$Table", "halve", "(II)I"⟩ prog_9_method_27_code 7 (some .int) ∈ a_w0 := a_w0_in (List.mem_append_right _ (List.mem_of_getElem? (i := 1410) (by decide +kernel))) rfl
theorem cm_Tab_halve : a_cm M_Tab_halve 2 := ⟨w_1410, rfl, w_7, by decide, by decide +kernel, by decide +kernel, by decide +kernel⟩
theorem ok_Law_mend : a_ok M_Law_mend := ⟨by decide +kernel, rfl, by decide +kernel⟩
theorem ok_Led_mend : a_ok M_Led_mend := ⟨by decide +kernel, rfl, by decide +kernel⟩
theorem w_1418 : Cond.code ⟨"LedTables", "mend", "(I)Z"⟩ prog_1_method_42_code 2 (some .boolean) ∈ a_w0 := a_w0_in (List.mem_append_right _ (List.mem_of_getElem? (i := 1418) (by decide +kernel))) rfl
theorem cm_Led_mend : a_cm M_Led_mend 1 := ⟨w_1418, rfl, w_1, by decide, by decide +kernel, by decide +kernel, by decide +kernel⟩
theorem ok_Tab_mendRow : a_ok M_Tab_mendRow := ⟨by decide +kernel, rfl, by decide +kernel⟩
theorem w_1422 : Cond.code ⟨"LedTables$Table", "mendRow", "(I)Z"⟩ prog_9_method_24_code 2 (some .boolean) ∈ a_w0 := a_w0_in (List.mem_append_right _ (List.mem_of_getElem? (i := 1422) (by decide +kernel))) rfl
theorem cm_Tab_mendRow : a_cm M_Tab_mendRow 1 := ⟨w_1422, rfl, w_7, by decide, by decide +kernel, by decide +kernel, by decide +kernel⟩
theorem ok_Mod_init : a_ok M_Mod_init := ⟨by decide +kernel, rfl, by decide +kernel⟩
theorem w_9 : Cond.initialized "LedTablesModel" ∈ a_w0 := a_w0_in (List.mem_append_right _ (List.mem_of_getElem? (i := 9) (by decide +kernel))) rfl
theorem w_1427 : Cond.code ⟨"LedTablesModel", "<init>", "()V"⟩ prog_12_method_1_code 4 none ∈ a_w0 := a_w0_in (List.mem_append_right _ (List.mem_of_getElem? (i := 1427) (by decide +kernel))) rfl
theorem cm_Mod_init : a_cm M_Mod_init 0 := ⟨w_1427, rfl, w_9, by decide, by decide +kernel, by decide +kernel, by decide +kernel⟩
theorem ok_Mod_thrown : a_ok M_Mod_thrown := ⟨by decide +kernel, rfl, by decide +kernel⟩
theorem w_1621 : Cond.code ⟨"LedTablesModel", "thrown", "()I"⟩ prog_12_method_2_code 1 (some .int) ∈ a_w0 := a_w0_in (List.mem_append_right _ (List.mem_of_getElem? (i := 1621) (by decide +kernel))) rfl
theorem cm_Mod_thrown : a_cm M_Mod_thrown 0 := ⟨w_1621, rfl, w_9, by decide, by decide +kernel, by decide +kernel, by decide +kernel⟩
theorem ok_Mod_feed : a_ok M_Mod_feed := ⟨by decide +kernel, rfl, by decide +kernel⟩
theorem w_1625 : Cond.code ⟨"LedTablesModel", "feed", "(IIIII)I"⟩ prog_12_method_5_code 8 (some .int) ∈ a_w0 := a_w0_in (List.mem_append_right _ (List.mem_of_getElem? (i := 1625) (by decide +kernel))) rfl
theorem cm_Mod_feed : a_cm M_Mod_feed 5 := ⟨w_1625, rfl, w_9, by decide, by decide +kernel, by decide +kernel, by decide +kernel⟩
theorem ok_Mod_lens : a_ok M_Mod_lens := ⟨by decide +kernel, rfl, by decide +kernel⟩
theorem w_1629 : Cond.code ⟨"LedTablesModel", "lens", "(I)I"⟩ prog_12_method_27_code 3 (some .int) ∈ a_w0 := a_w0_in (List.mem_append_right _ (List.mem_of_getElem? (i := 1629) (by decide +kernel))) rfl
theorem cm_Mod_lens : a_cm M_Mod_lens 1 := ⟨w_1629, rfl, w_9, by decide, by decide +kernel, by decide +kernel, by decide +kernel⟩
theorem ok_Mod_in : a_ok M_Mod_in := ⟨by decide +kernel, rfl, by decide +kernel⟩
theorem w_1632 : Cond.code ⟨"LedTablesModel", "in", "(III)Z"⟩ prog_12_method_4_code 3 (some .boolean) ∈ a_w0 := a_w0_in (List.mem_append_right _ (List.mem_of_getElem? (i := 1632) (by decide +kernel))) rfl
theorem cm_Mod_in : a_cm M_Mod_in 3 := ⟨w_1632, rfl, w_9, by decide, by decide +kernel, by decide +kernel, by decide +kernel⟩
theorem ok_Mod_bad : a_ok M_Mod_bad := ⟨by decide +kernel, rfl, by decide +kernel⟩
theorem w_1636 : Cond.code ⟨"LedTablesModel", "bad", "(ZI)Z"⟩ prog_12_method_3_code 3 (some .boolean) ∈ a_w0 := a_w0_in (List.mem_append_right _ (List.mem_of_getElem? (i := 1636) (by decide +kernel))) rfl
theorem cm_Mod_bad : a_cm M_Mod_bad 2 := ⟨w_1636, rfl, w_9, by decide, by decide +kernel, by decide +kernel, by decide +kernel⟩
theorem ok_Mod_readAll : a_ok M_Mod_readAll := ⟨by decide +kernel, rfl, by decide +kernel⟩
theorem w_1640 : Cond.code ⟨"LedTablesModel", "readAll", "()V"⟩ prog_12_method_26_code 2 none ∈ a_w0 := a_w0_in (List.mem_append_right _ (List.mem_of_getElem? (i := 1640) (by decide +kernel))) rfl
theorem cm_Mod_readAll : a_cm M_Mod_readAll 0 := ⟨w_1640, rfl, w_9, by decide, by decide +kernel, by decide +kernel, by decide +kernel⟩
theorem ok_Mod_blanks : a_ok M_Mod_blanks := ⟨by decide +kernel, rfl, by decide +kernel⟩
theorem w_1644 : Cond.code ⟨"LedTablesModel", "blanks", "()V"⟩ prog_12_method_7_code 1 none ∈ a_w0 := a_w0_in (List.mem_append_right _ (List.mem_of_getElem? (i := 1644) (by decide +kernel))) rfl
theorem cm_Mod_blanks : a_cm M_Mod_blanks 0 := ⟨w_1644, rfl, w_9, by decide, by decide +kernel, by decide +kernel, by decide +kernel⟩
theorem ok_Mod_byteAt : a_ok M_Mod_byteAt := ⟨by decide +kernel, rfl, by decide +kernel⟩
theorem w_1648 : Cond.code ⟨"LedTablesModel", "byteAt", "(I)I"⟩ prog_12_method_6_code 2 (some .int) ∈ a_w0 := a_w0_in (List.mem_append_right _ (List.mem_of_getElem? (i := 1648) (by decide +kernel))) rfl
theorem cm_Mod_byteAt : a_cm M_Mod_byteAt 1 := ⟨w_1648, rfl, w_9, by decide, by decide +kernel, by decide +kernel, by decide +kernel⟩
theorem ok_Mod_clause : a_ok M_Mod_clause := ⟨by decide +kernel, rfl, by decide +kernel⟩
theorem w_1652 : Cond.code ⟨"LedTablesModel", "clause", "()V"⟩ prog_12_method_25_code 6 none ∈ a_w0 := a_w0_in (List.mem_append_right _ (List.mem_of_getElem? (i := 1652) (by decide +kernel))) rfl
theorem cm_Mod_clause : a_cm M_Mod_clause 0 := ⟨w_1652, rfl, w_9, by decide, by decide +kernel, by decide +kernel, by decide +kernel⟩
theorem ok_Mod_letterHere : a_ok M_Mod_letterHere := ⟨by decide +kernel, rfl, by decide +kernel⟩
theorem w_1656 : Cond.code ⟨"LedTablesModel", "letterHere", "()I"⟩ prog_12_method_12_code 2 (some .int) ∈ a_w0 := a_w0_in (List.mem_append_right _ (List.mem_of_getElem? (i := 1656) (by decide +kernel))) rfl
theorem cm_Mod_letterHere : a_cm M_Mod_letterHere 0 := ⟨w_1656, rfl, w_9, by decide, by decide +kernel, by decide +kernel, by decide +kernel⟩
theorem ok_Mod_isLetter : a_ok M_Mod_isLetter := ⟨by decide +kernel, rfl, by decide +kernel⟩
theorem w_1659 : Cond.code ⟨"LedTablesModel", "isLetter", "(I)Z"⟩ prog_12_method_10_code 1 (some .boolean) ∈ a_w0 := a_w0_in (List.mem_append_right _ (List.mem_of_getElem? (i := 1659) (by decide +kernel))) rfl
theorem cm_Mod_isLetter : a_cm M_Mod_isLetter 1 := ⟨w_1659, rfl, w_9, by decide, by decide +kernel, by decide +kernel, by decide +kernel⟩
theorem ok_Mod_isSmall : a_ok M_Mod_isSmall := ⟨by decide +kernel, rfl, by decide +kernel⟩
theorem w_1662 : Cond.code ⟨"LedTablesModel", "isSmall", "(I)Z"⟩ prog_12_method_9_code 1 (some .boolean) ∈ a_w0 := a_w0_in (List.mem_append_right _ (List.mem_of_getElem? (i := 1662) (by decide +kernel))) rfl
theorem cm_Mod_isSmall : a_cm M_Mod_isSmall 1 := ⟨w_1662, rfl, w_9, by decide, by decide +kernel, by decide +kernel, by decide +kernel⟩
theorem ok_Mod_wordHere : a_ok M_Mod_wordHere := ⟨by decide +kernel, rfl, by decide +kernel⟩
theorem w_1666 : Cond.code ⟨"LedTablesModel", "wordHere", "()I"⟩ prog_12_method_13_code 3 (some .int) ∈ a_w0 := a_w0_in (List.mem_append_right _ (List.mem_of_getElem? (i := 1666) (by decide +kernel))) rfl
theorem cm_Mod_wordHere : a_cm M_Mod_wordHere 0 := ⟨w_1666, rfl, w_9, by decide, by decide +kernel, by decide +kernel, by decide +kernel⟩
theorem ok_Mod_word : a_ok M_Mod_word := ⟨by decide +kernel, rfl, by decide +kernel⟩
theorem w_1669 : Cond.code ⟨"LedTablesModel", "word", "(IIIII)I"⟩ prog_12_method_14_code 6 (some .int) ∈ a_w0 := a_w0_in (List.mem_append_right _ (List.mem_of_getElem? (i := 1669) (by decide +kernel))) rfl
theorem cm_Mod_word : a_cm M_Mod_word 5 := ⟨w_1669, rfl, w_9, by decide, by decide +kernel, by decide +kernel, by decide +kernel⟩
theorem ok_Mod_wrongAt : a_ok M_Mod_wrongAt := ⟨by decide +kernel, rfl, by decide +kernel⟩
theorem w_1673 : Cond.code ⟨"LedTablesModel", "wrongAt", "(II)V"⟩ prog_12_method_8_code 3 none ∈ a_w0 := a_w0_in (List.mem_append_right _ (List.mem_of_getElem? (i := 1673) (by decide +kernel))) rfl
theorem cm_Mod_wrongAt : a_cm M_Mod_wrongAt 2 := ⟨w_1673, rfl, w_9, by decide, by decide +kernel, by decide +kernel, by decide +kernel⟩
theorem ok_Mod_skipWord : a_ok M_Mod_skipWord := ⟨by decide +kernel, rfl, by decide +kernel⟩
theorem w_1677 : Cond.code ⟨"LedTablesModel", "skipWord", "()V"⟩ prog_12_method_15_code 1 none ∈ a_w0 := a_w0_in (List.mem_append_right _ (List.mem_of_getElem? (i := 1677) (by decide +kernel))) rfl
theorem cm_Mod_skipWord : a_cm M_Mod_skipWord 0 := ⟨w_1677, rfl, w_9, by decide, by decide +kernel, by decide +kernel, by decide +kernel⟩
theorem ok_Mod_ors : a_ok M_Mod_ors := ⟨by decide +kernel, rfl, by decide +kernel⟩
theorem w_1681 : Cond.code ⟨"LedTablesModel", "ors", "()Z"⟩ prog_12_method_24_code 3 (some .boolean) ∈ a_w0 := a_w0_in (List.mem_append_right _ (List.mem_of_getElem? (i := 1681) (by decide +kernel))) rfl
theorem cm_Mod_ors : a_cm M_Mod_ors 0 := ⟨w_1681, rfl, w_9, by decide, by decide +kernel, by decide +kernel, by decide +kernel⟩
theorem ok_Mod_ands : a_ok M_Mod_ands := ⟨by decide +kernel, rfl, by decide +kernel⟩
theorem w_1685 : Cond.code ⟨"LedTablesModel", "ands", "()Z"⟩ prog_12_method_23_code 3 (some .boolean) ∈ a_w0 := a_w0_in (List.mem_append_right _ (List.mem_of_getElem? (i := 1685) (by decide +kernel))) rfl
theorem cm_Mod_ands : a_cm M_Mod_ands 0 := ⟨w_1685, rfl, w_9, by decide, by decide +kernel, by decide +kernel, by decide +kernel⟩
theorem ok_Mod_test : a_ok M_Mod_test := ⟨by decide +kernel, rfl, by decide +kernel⟩
theorem w_1689 : Cond.code ⟨"LedTablesModel", "test", "()Z"⟩ prog_12_method_22_code 4 (some .boolean) ∈ a_w0 := a_w0_in (List.mem_append_right _ (List.mem_of_getElem? (i := 1689) (by decide +kernel))) rfl
theorem cm_Mod_test : a_cm M_Mod_test 0 := ⟨w_1689, rfl, w_9, by decide, by decide +kernel, by decide +kernel, by decide +kernel⟩
theorem ok_Mod_opens : a_ok M_Mod_opens := ⟨by decide +kernel, rfl, by decide +kernel⟩
theorem w_1693 : Cond.code ⟨"LedTablesModel", "opens", "(I)V"⟩ prog_12_method_18_code 2 none ∈ a_w0 := a_w0_in (List.mem_append_right _ (List.mem_of_getElem? (i := 1693) (by decide +kernel))) rfl
theorem cm_Mod_opens : a_cm M_Mod_opens 1 := ⟨w_1693, rfl, w_9, by decide, by decide +kernel, by decide +kernel, by decide +kernel⟩
theorem ok_Mod_sign : a_ok M_Mod_sign := ⟨by decide +kernel, rfl, by decide +kernel⟩
theorem w_1697 : Cond.code ⟨"LedTablesModel", "sign", "(I)V"⟩ prog_12_method_16_code 2 none ∈ a_w0 := a_w0_in (List.mem_append_right _ (List.mem_of_getElem? (i := 1697) (by decide +kernel))) rfl
theorem cm_Mod_sign : a_cm M_Mod_sign 1 := ⟨w_1697, rfl, w_9, by decide, by decide +kernel, by decide +kernel, by decide +kernel⟩
theorem ok_Mod_total : a_ok M_Mod_total := ⟨by decide +kernel, rfl, by decide +kernel⟩
theorem w_1701 : Cond.code ⟨"LedTablesModel", "total", "()I"⟩ prog_12_method_21_code 4 (some .int) ∈ a_w0 := a_w0_in (List.mem_append_right _ (List.mem_of_getElem? (i := 1701) (by decide +kernel))) rfl
theorem cm_Mod_total : a_cm M_Mod_total 0 := ⟨w_1701, rfl, w_9, by decide, by decide +kernel, by decide +kernel, by decide +kernel⟩
theorem ok_Mod_product : a_ok M_Mod_product := ⟨by decide +kernel, rfl, by decide +kernel⟩
theorem w_1705 : Cond.code ⟨"LedTablesModel", "product", "()I"⟩ prog_12_method_20_code 4 (some .int) ∈ a_w0 := a_w0_in (List.mem_append_right _ (List.mem_of_getElem? (i := 1705) (by decide +kernel))) rfl
theorem cm_Mod_product : a_cm M_Mod_product 0 := ⟨w_1705, rfl, w_9, by decide, by decide +kernel, by decide +kernel, by decide +kernel⟩
theorem ok_Mod_unit : a_ok M_Mod_unit := ⟨by decide +kernel, rfl, by decide +kernel⟩
theorem w_1709 : Cond.code ⟨"LedTablesModel", "unit", "()I"⟩ prog_12_method_19_code 9 (some .int) ∈ a_w0 := a_w0_in (List.mem_append_right _ (List.mem_of_getElem? (i := 1709) (by decide +kernel))) rfl
theorem cm_Mod_unit : a_cm M_Mod_unit 0 := ⟨w_1709, rfl, w_9, by decide, by decide +kernel, by decide +kernel, by decide +kernel⟩
theorem ok_Mod_isDigit : a_ok M_Mod_isDigit := ⟨by decide +kernel, rfl, by decide +kernel⟩
theorem w_1712 : Cond.code ⟨"LedTablesModel", "isDigit", "(I)Z"⟩ prog_12_method_11_code 1 (some .boolean) ∈ a_w0 := a_w0_in (List.mem_append_right _ (List.mem_of_getElem? (i := 1712) (by decide +kernel))) rfl
theorem cm_Mod_isDigit : a_cm M_Mod_isDigit 1 := ⟨w_1712, rfl, w_9, by decide, by decide +kernel, by decide +kernel, by decide +kernel⟩
theorem ok_Mod_number : a_ok M_Mod_number := ⟨by decide +kernel, rfl, by decide +kernel⟩
theorem w_1716 : Cond.code ⟨"LedTablesModel", "number", "()I"⟩ prog_12_method_17_code 3 (some .int) ∈ a_w0 := a_w0_in (List.mem_append_right _ (List.mem_of_getElem? (i := 1716) (by decide +kernel))) rfl
theorem cm_Mod_number : a_cm M_Mod_number 0 := ⟨w_1716, rfl, w_9, by decide, by decide +kernel, by decide +kernel, by decide +kernel⟩
theorem ok_Mod_fault : a_ok M_Mod_fault := ⟨by decide +kernel, rfl, by decide +kernel⟩
theorem w_1721 : Cond.code ⟨"LedTablesModel", "fault", "()I"⟩ prog_12_method_28_code 1 (some .int) ∈ a_w0 := a_w0_in (List.mem_append_right _ (List.mem_of_getElem? (i := 1721) (by decide +kernel))) rfl
theorem cm_Mod_fault : a_cm M_Mod_fault 0 := ⟨w_1721, rfl, w_9, by decide, by decide +kernel, by decide +kernel, by decide +kernel⟩
theorem ok_Mod_see : a_ok M_Mod_see := ⟨by decide +kernel, rfl, by decide +kernel⟩
theorem w_1725 : Cond.code ⟨"LedTablesModel", "see", "(IIIII)I"⟩ prog_12_method_35_code 6 (some .int) ∈ a_w0 := a_w0_in (List.mem_append_right _ (List.mem_of_getElem? (i := 1725) (by decide +kernel))) rfl
theorem cm_Mod_see : a_cm M_Mod_see 5 := ⟨w_1725, rfl, w_9, by decide, by decide +kernel, by decide +kernel, by decide +kernel⟩
theorem ok_Mod_sees : a_ok M_Mod_sees := ⟨by decide +kernel, rfl, by decide +kernel⟩
theorem w_1729 : Cond.code ⟨"LedTablesModel", "sees", "()V"⟩ prog_12_method_31_code 2 none ∈ a_w0 := a_w0_in (List.mem_append_right _ (List.mem_of_getElem? (i := 1729) (by decide +kernel))) rfl
theorem cm_Mod_sees : a_cm M_Mod_sees 0 := ⟨w_1729, rfl, w_9, by decide, by decide +kernel, by decide +kernel, by decide +kernel⟩
theorem ok_Mod_valueOf : a_ok M_Mod_valueOf := ⟨by decide +kernel, rfl, by decide +kernel⟩
theorem w_1733 : Cond.code ⟨"LedTablesModel", "valueOf", "(I)I"⟩ prog_12_method_30_code 2 (some .int) ∈ a_w0 := a_w0_in (List.mem_append_right _ (List.mem_of_getElem? (i := 1733) (by decide +kernel))) rfl
theorem cm_Mod_valueOf : a_cm M_Mod_valueOf 1 := ⟨w_1733, rfl, w_9, by decide, by decide +kernel, by decide +kernel, by decide +kernel⟩
theorem ok_Mod_readsAt : a_ok M_Mod_readsAt := ⟨by decide +kernel, rfl, by decide +kernel⟩
theorem w_1737 : Cond.code ⟨"LedTablesModel", "readsAt", "(I)V"⟩ prog_12_method_29_code 2 none ∈ a_w0 := a_w0_in (List.mem_append_right _ (List.mem_of_getElem? (i := 1737) (by decide +kernel))) rfl
theorem cm_Mod_readsAt : a_cm M_Mod_readsAt 1 := ⟨w_1737, rfl, w_9, by decide, by decide +kernel, by decide +kernel, by decide +kernel⟩
theorem ok_Mod_put : a_ok M_Mod_put := ⟨by decide +kernel, rfl, by decide +kernel⟩
theorem w_1741 : Cond.code ⟨"LedTablesModel", "put", "(IIIIII)I"⟩ prog_12_method_36_code 8 (some .int) ∈ a_w0 := a_w0_in (List.mem_append_right _ (List.mem_of_getElem? (i := 1741) (by decide +kernel))) rfl
theorem cm_Mod_put : a_cm M_Mod_put 6 := ⟨w_1741, rfl, w_9, by decide, by decide +kernel, by decide +kernel, by decide +kernel⟩
theorem ok_Mod_isKept : a_ok M_Mod_isKept := ⟨by decide +kernel, rfl, by decide +kernel⟩
theorem w_1745 : Cond.code ⟨"LedTablesModel", "isKept", "(I)Z"⟩ prog_12_method_32_code 2 (some .boolean) ∈ a_w0 := a_w0_in (List.mem_append_right _ (List.mem_of_getElem? (i := 1745) (by decide +kernel))) rfl
theorem cm_Mod_isKept : a_cm M_Mod_isKept 1 := ⟨w_1745, rfl, w_9, by decide, by decide +kernel, by decide +kernel, by decide +kernel⟩
theorem ok_Mod_puts : a_ok M_Mod_puts := ⟨by decide +kernel, rfl, by decide +kernel⟩
theorem w_1749 : Cond.code ⟨"LedTablesModel", "puts", "()V"⟩ prog_12_method_33_code 2 none ∈ a_w0 := a_w0_in (List.mem_append_right _ (List.mem_of_getElem? (i := 1749) (by decide +kernel))) rfl
theorem cm_Mod_puts : a_cm M_Mod_puts 0 := ⟨w_1749, rfl, w_9, by decide, by decide +kernel, by decide +kernel, by decide +kernel⟩
theorem ok_Mod_box : a_ok M_Mod_box := ⟨by decide +kernel, rfl, by decide +kernel⟩
theorem w_1753 : Cond.code ⟨"LedTablesModel", "box", "(III)V"⟩ prog_12_method_37_code 4 none ∈ a_w0 := a_w0_in (List.mem_append_right _ (List.mem_of_getElem? (i := 1753) (by decide +kernel))) rfl
theorem cm_Mod_box : a_cm M_Mod_box 3 := ⟨w_1753, rfl, w_9, by decide, by decide +kernel, by decide +kernel, by decide +kernel⟩
theorem ok_Mod_agree : a_ok M_Mod_agree := ⟨by decide +kernel, rfl, by decide +kernel⟩
theorem w_1757 : Cond.code ⟨"LedTablesModel", "agree", "(II)I"⟩ prog_12_method_43_code 3 (some .int) ∈ a_w0 := a_w0_in (List.mem_append_right _ (List.mem_of_getElem? (i := 1757) (by decide +kernel))) rfl
theorem cm_Mod_agree : a_cm M_Mod_agree 2 := ⟨w_1757, rfl, w_9, by decide, by decide +kernel, by decide +kernel, by decide +kernel⟩
theorem ok_Mod_unlikeRows : a_ok M_Mod_unlikeRows := ⟨by decide +kernel, rfl, by decide +kernel⟩
theorem w_1761 : Cond.code ⟨"LedTablesModel", "unlikeRows", "(I)I"⟩ prog_12_method_42_code 5 (some .int) ∈ a_w0 := a_w0_in (List.mem_append_right _ (List.mem_of_getElem? (i := 1761) (by decide +kernel))) rfl
theorem cm_Mod_unlikeRows : a_cm M_Mod_unlikeRows 1 := ⟨w_1761, rfl, w_9, by decide, by decide +kernel, by decide +kernel, by decide +kernel⟩
theorem ok_Mod_begin : a_ok M_Mod_begin := ⟨by decide +kernel, rfl, by decide +kernel⟩
theorem w_1765 : Cond.code ⟨"LedTablesModel", "begin", "()V"⟩ prog_12_method_38_code 2 none ∈ a_w0 := a_w0_in (List.mem_append_right _ (List.mem_of_getElem? (i := 1765) (by decide +kernel))) rfl
theorem cm_Mod_begin : a_cm M_Mod_begin 0 := ⟨w_1765, rfl, w_9, by decide, by decide +kernel, by decide +kernel, by decide +kernel⟩
theorem ok_Mod_agreesAt : a_ok M_Mod_agreesAt := ⟨by decide +kernel, rfl, by decide +kernel⟩
theorem w_1769 : Cond.code ⟨"LedTablesModel", "agreesAt", "(I)Z"⟩ prog_12_method_41_code 3 (some .boolean) ∈ a_w0 := a_w0_in (List.mem_append_right _ (List.mem_of_getElem? (i := 1769) (by decide +kernel))) rfl
theorem cm_Mod_agreesAt : a_cm M_Mod_agreesAt 1 := ⟨w_1769, rfl, w_9, by decide, by decide +kernel, by decide +kernel, by decide +kernel⟩
theorem ok_Mod_seesRow : a_ok M_Mod_seesRow := ⟨by decide +kernel, rfl, by decide +kernel⟩
theorem w_1773 : Cond.code ⟨"LedTablesModel", "seesRow", "()V"⟩ prog_12_method_40_code 2 none ∈ a_w0 := a_w0_in (List.mem_append_right _ (List.mem_of_getElem? (i := 1773) (by decide +kernel))) rfl
theorem cm_Mod_seesRow : a_cm M_Mod_seesRow 0 := ⟨w_1773, rfl, w_9, by decide, by decide +kernel, by decide +kernel, by decide +kernel⟩
theorem ok_Mod_goesOn : a_ok M_Mod_goesOn := ⟨by decide +kernel, rfl, by decide +kernel⟩
theorem w_1777 : Cond.code ⟨"LedTablesModel", "goesOn", "()Z"⟩ prog_12_method_39_code 2 (some .boolean) ∈ a_w0 := a_w0_in (List.mem_append_right _ (List.mem_of_getElem? (i := 1777) (by decide +kernel))) rfl
theorem cm_Mod_goesOn : a_cm M_Mod_goesOn 0 := ⟨w_1777, rfl, w_9, by decide, by decide +kernel, by decide +kernel, by decide +kernel⟩
theorem ok_Mod_unlike : a_ok M_Mod_unlike := ⟨by decide +kernel, rfl, by decide +kernel⟩
theorem w_1782 : Cond.code ⟨"LedTablesModel", "unlike", "(I)I"⟩ prog_12_method_44_code 2 (some .int) ∈ a_w0 := a_w0_in (List.mem_append_right _ (List.mem_of_getElem? (i := 1782) (by decide +kernel))) rfl
theorem cm_Mod_unlike : a_cm M_Mod_unlike 1 := ⟨w_1782, rfl, w_9, by decide, by decide +kernel, by decide +kernel, by decide +kernel⟩
theorem ok_Mod_lost : a_ok M_Mod_lost := ⟨by decide +kernel, rfl, by decide +kernel⟩
theorem w_1786 : Cond.code ⟨"LedTablesModel", "lost", "()I"⟩ prog_12_method_47_code 5 (some .int) ∈ a_w0 := a_w0_in (List.mem_append_right _ (List.mem_of_getElem? (i := 1786) (by decide +kernel))) rfl
theorem cm_Mod_lost : a_cm M_Mod_lost 0 := ⟨w_1786, rfl, w_9, by decide, by decide +kernel, by decide +kernel, by decide +kernel⟩
theorem ok_Mod_groupOf : a_ok M_Mod_groupOf := ⟨by decide +kernel, rfl, by decide +kernel⟩
theorem w_1790 : Cond.code ⟨"LedTablesModel", "groupOf", "()I"⟩ prog_12_method_45_code 3 (some .int) ∈ a_w0 := a_w0_in (List.mem_append_right _ (List.mem_of_getElem? (i := 1790) (by decide +kernel))) rfl
theorem cm_Mod_groupOf : a_cm M_Mod_groupOf 0 := ⟨w_1790, rfl, w_9, by decide, by decide +kernel, by decide +kernel, by decide +kernel⟩
theorem ok_Mod_isOfGroup : a_ok M_Mod_isOfGroup := ⟨by decide +kernel, rfl, by decide +kernel⟩
theorem w_1794 : Cond.code ⟨"LedTablesModel", "isOfGroup", "(I)Z"⟩ prog_12_method_46_code 3 (some .boolean) ∈ a_w0 := a_w0_in (List.mem_append_right _ (List.mem_of_getElem? (i := 1794) (by decide +kernel))) rfl
theorem cm_Mod_isOfGroup : a_cm M_Mod_isOfGroup 1 := ⟨w_1794, rfl, w_9, by decide, by decide +kernel, by decide +kernel, by decide +kernel⟩
theorem ok_Mod_wrong : a_ok M_Mod_wrong := ⟨by decide +kernel, rfl, by decide +kernel⟩
theorem w_1798 : Cond.code ⟨"LedTablesModel", "wrong", "()I"⟩ prog_12_method_48_code 3 (some .int) ∈ a_w0 := a_w0_in (List.mem_append_right _ (List.mem_of_getElem? (i := 1798) (by decide +kernel))) rfl
theorem cm_Mod_wrong : a_cm M_Mod_wrong 0 := ⟨w_1798, rfl, w_9, by decide, by decide +kernel, by decide +kernel, by decide +kernel⟩
theorem ok_Mod_isRightBy : a_ok M_Mod_isRightBy := ⟨by decide +kernel, rfl, by decide +kernel⟩
theorem w_1802 : Cond.code ⟨"LedTablesModel", "isRightBy", "([I[I)Z"⟩ prog_12_method_49_code 4 (some .boolean) ∈ a_w0 := a_w0_in (List.mem_append_right _ (List.mem_of_getElem? (i := 1802) (by decide +kernel))) rfl
theorem cm_Mod_isRightBy : a_cm M_Mod_isRightBy 2 := ⟨w_1802, rfl, w_9, by decide, by decide +kernel, by decide +kernel, by decide +kernel⟩
theorem ok_Mod_isRight : a_ok M_Mod_isRight := ⟨by decide +kernel, rfl, by decide +kernel⟩
theorem w_1806 : Cond.code ⟨"LedTablesModel", "isRight", "()Z"⟩ prog_12_method_34_code 3 (some .boolean) ∈ a_w0 := a_w0_in (List.mem_append_right _ (List.mem_of_getElem? (i := 1806) (by decide +kernel))) rfl
theorem cm_Mod_isRight : a_cm M_Mod_isRight 0 := ⟨w_1806, rfl, w_9, by decide, by decide +kernel, by decide +kernel, by decide +kernel⟩
theorem ok_Mod_change : a_ok M_Mod_change := ⟨by decide +kernel, rfl, by decide +kernel⟩
theorem w_1810 : Cond.code ⟨"LedTablesModel", "change", "()I"⟩ prog_12_method_50_code 1 (some .int) ∈ a_w0 := a_w0_in (List.mem_append_right _ (List.mem_of_getElem? (i := 1810) (by decide +kernel))) rfl
theorem cm_Mod_change : a_cm M_Mod_change 0 := ⟨w_1810, rfl, w_9, by decide, by decide +kernel, by decide +kernel, by decide +kernel⟩
theorem ok_Mod_hold : a_ok M_Mod_hold := ⟨by decide +kernel, rfl, by decide +kernel⟩
theorem w_1814 : Cond.code ⟨"LedTablesModel", "hold", "(III)I"⟩ prog_12_method_51_code 5 (some .int) ∈ a_w0 := a_w0_in (List.mem_append_right _ (List.mem_of_getElem? (i := 1814) (by decide +kernel))) rfl
theorem cm_Mod_hold : a_cm M_Mod_hold 3 := ⟨w_1814, rfl, w_9, by decide, by decide +kernel, by decide +kernel, by decide +kernel⟩
theorem ok_Mod_order : a_ok M_Mod_order := ⟨by decide +kernel, rfl, by decide +kernel⟩
theorem w_1818 : Cond.code ⟨"LedTablesModel", "order", "(IIZ)I"⟩ prog_12_method_52_code 4 (some .int) ∈ a_w0 := a_w0_in (List.mem_append_right _ (List.mem_of_getElem? (i := 1818) (by decide +kernel))) rfl
theorem cm_Mod_order : a_cm M_Mod_order 3 := ⟨w_1818, rfl, w_9, by decide, by decide +kernel, by decide +kernel, by decide +kernel⟩
theorem ok_Mod_program : a_ok M_Mod_program := ⟨by decide +kernel, rfl, by decide +kernel⟩
theorem w_1822 : Cond.code ⟨"LedTablesModel", "program", "()I"⟩ prog_12_method_53_code 1 (some .int) ∈ a_w0 := a_w0_in (List.mem_append_right _ (List.mem_of_getElem? (i := 1822) (by decide +kernel))) rfl
theorem cm_Mod_program : a_cm M_Mod_program 0 := ⟨w_1822, rfl, w_9, by decide, by decide +kernel, by decide +kernel, by decide +kernel⟩
theorem ok_Mod_need : a_ok M_Mod_need := ⟨by decide +kernel, rfl, by decide +kernel⟩
theorem w_1826 : Cond.code ⟨"LedTablesModel", "need", "(III)I"⟩ prog_12_method_54_code 5 (some .int) ∈ a_w0 := a_w0_in (List.mem_append_right _ (List.mem_of_getElem? (i := 1826) (by decide +kernel))) rfl
theorem cm_Mod_need : a_cm M_Mod_need 3 := ⟨w_1826, rfl, w_9, by decide, by decide +kernel, by decide +kernel, by decide +kernel⟩
theorem ok_Mod_price : a_ok M_Mod_price := ⟨by decide +kernel, rfl, by decide +kernel⟩
theorem w_1830 : Cond.code ⟨"LedTablesModel", "price", "(II)I"⟩ prog_12_method_55_code 4 (some .int) ∈ a_w0 := a_w0_in (List.mem_append_right _ (List.mem_of_getElem? (i := 1830) (by decide +kernel))) rfl
theorem cm_Mod_price : a_cm M_Mod_price 2 := ⟨w_1830, rfl, w_9, by decide, by decide +kernel, by decide +kernel, by decide +kernel⟩
theorem ok_Mod_stands : a_ok M_Mod_stands := ⟨by decide +kernel, rfl, by decide +kernel⟩
theorem w_1834 : Cond.code ⟨"LedTablesModel", "stands", "(II)Z"⟩ prog_12_method_61_code 3 (some .boolean) ∈ a_w0 := a_w0_in (List.mem_append_right _ (List.mem_of_getElem? (i := 1834) (by decide +kernel))) rfl
theorem cm_Mod_stands : a_cm M_Mod_stands 2 := ⟨w_1834, rfl, w_9, by decide, by decide +kernel, by decide +kernel, by decide +kernel⟩
theorem ok_Mod_isNode : a_ok M_Mod_isNode := ⟨by decide +kernel, rfl, by decide +kernel⟩
theorem w_1838 : Cond.code ⟨"LedTablesModel", "isNode", "(II)Z"⟩ prog_12_method_60_code 3 (some .boolean) ∈ a_w0 := a_w0_in (List.mem_append_right _ (List.mem_of_getElem? (i := 1838) (by decide +kernel))) rfl
theorem cm_Mod_isNode : a_cm M_Mod_isNode 2 := ⟨w_1838, rfl, w_9, by decide, by decide +kernel, by decide +kernel, by decide +kernel⟩
theorem ok_Mod_nodes : a_ok M_Mod_nodes := ⟨by decide +kernel, rfl, by decide +kernel⟩
theorem w_1842 : Cond.code ⟨"LedTablesModel", "nodes", "()I"⟩ prog_12_method_56_code 1 (some .int) ∈ a_w0 := a_w0_in (List.mem_append_right _ (List.mem_of_getElem? (i := 1842) (by decide +kernel))) rfl
theorem cm_Mod_nodes : a_cm M_Mod_nodes 0 := ⟨w_1842, rfl, w_9, by decide, by decide +kernel, by decide +kernel, by decide +kernel⟩
theorem ok_Mod_stands0 : a_ok M_Mod_stands0 := ⟨by decide +kernel, rfl, by decide +kernel⟩
theorem w_1846 : Cond.code ⟨"LedTablesModel", "stands0", "(II)Z"⟩ prog_12_method_59_code 7 (some .boolean) ∈ a_w0 := a_w0_in (List.mem_append_right _ (List.mem_of_getElem? (i := 1846) (by decide +kernel))) rfl
theorem cm_Mod_stands0 : a_cm M_Mod_stands0 2 := ⟨w_1846, rfl, w_9, by decide, by decide +kernel, by decide +kernel, by decide +kernel⟩
theorem ok_Mod_stageOf : a_ok M_Mod_stageOf := ⟨by decide +kernel, rfl, by decide +kernel⟩
theorem w_1849 : Cond.code ⟨"LedTablesModel", "stageOf", "(II)I"⟩ prog_12_method_58_code 2 (some .int) ∈ a_w0 := a_w0_in (List.mem_append_right _ (List.mem_of_getElem? (i := 1849) (by decide +kernel))) rfl
theorem cm_Mod_stageOf : a_cm M_Mod_stageOf 2 := ⟨w_1849, rfl, w_9, by decide, by decide +kernel, by decide +kernel, by decide +kernel⟩
theorem ok_Mod_power : a_ok M_Mod_power := ⟨by decide +kernel, rfl, by decide +kernel⟩
theorem w_1852 : Cond.code ⟨"LedTablesModel", "power", "(I)I"⟩ prog_12_method_57_code 1 (some .int) ∈ a_w0 := a_w0_in (List.mem_append_right _ (List.mem_of_getElem? (i := 1852) (by decide +kernel))) rfl
theorem cm_Mod_power : a_cm M_Mod_power 1 := ⟨w_1852, rfl, w_9, by decide, by decide +kernel, by decide +kernel, by decide +kernel⟩
theorem ok_Mod_way : a_ok M_Mod_way := ⟨by decide +kernel, rfl, by decide +kernel⟩
theorem w_1856 : Cond.code ⟨"LedTablesModel", "way", "(III)I"⟩ prog_12_method_66_code 7 (some .int) ∈ a_w0 := a_w0_in (List.mem_append_right _ (List.mem_of_getElem? (i := 1856) (by decide +kernel))) rfl
theorem cm_Mod_way : a_cm M_Mod_way 3 := ⟨w_1856, rfl, w_9, by decide, by decide +kernel, by decide +kernel, by decide +kernel⟩
theorem ok_Mod_findBest : a_ok M_Mod_findBest := ⟨by decide +kernel, rfl, by decide +kernel⟩
theorem w_1860 : Cond.code ⟨"LedTablesModel", "findBest", "(II)V"⟩ prog_12_method_64_code 9 none ∈ a_w0 := a_w0_in (List.mem_append_right _ (List.mem_of_getElem? (i := 1860) (by decide +kernel))) rfl
theorem cm_Mod_findBest : a_cm M_Mod_findBest 2 := ⟨w_1860, rfl, w_9, by decide, by decide +kernel, by decide +kernel, by decide +kernel⟩
theorem ok_Mod_stepTo : a_ok M_Mod_stepTo := ⟨by decide +kernel, rfl, by decide +kernel⟩
theorem w_1864 : Cond.code ⟨"LedTablesModel", "stepTo", "(III)I"⟩ prog_12_method_62_code 6 (some .int) ∈ a_w0 := a_w0_in (List.mem_append_right _ (List.mem_of_getElem? (i := 1864) (by decide +kernel))) rfl
theorem cm_Mod_stepTo : a_cm M_Mod_stepTo 3 := ⟨w_1864, rfl, w_9, by decide, by decide +kernel, by decide +kernel, by decide +kernel⟩
theorem ok_Mod_costOf : a_ok M_Mod_costOf := ⟨by decide +kernel, rfl, by decide +kernel⟩
theorem w_1868 : Cond.code ⟨"LedTablesModel", "costOf", "(II)I"⟩ prog_12_method_63_code 3 (some .int) ∈ a_w0 := a_w0_in (List.mem_append_right _ (List.mem_of_getElem? (i := 1868) (by decide +kernel))) rfl
theorem cm_Mod_costOf : a_cm M_Mod_costOf 2 := ⟨w_1868, rfl, w_9, by decide, by decide +kernel, by decide +kernel, by decide +kernel⟩
theorem ok_Mod_firstStep : a_ok M_Mod_firstStep := ⟨by decide +kernel, rfl, by decide +kernel⟩
theorem w_1872 : Cond.code ⟨"LedTablesModel", "firstStep", "(I)I"⟩ prog_12_method_65_code 3 (some .int) ∈ a_w0 := a_w0_in (List.mem_append_right _ (List.mem_of_getElem? (i := 1872) (by decide +kernel))) rfl
theorem cm_Mod_firstStep : a_cm M_Mod_firstStep 1 := ⟨w_1872, rfl, w_9, by decide, by decide +kernel, by decide +kernel, by decide +kernel⟩
theorem ok_Mod_fewest : a_ok M_Mod_fewest := ⟨by decide +kernel, rfl, by decide +kernel⟩
theorem w_1876 : Cond.code ⟨"LedTablesModel", "fewest", "(II)I"⟩ prog_12_method_67_code 3 (some .int) ∈ a_w0 := a_w0_in (List.mem_append_right _ (List.mem_of_getElem? (i := 1876) (by decide +kernel))) rfl
theorem cm_Mod_fewest : a_cm M_Mod_fewest 2 := ⟨w_1876, rfl, w_9, by decide, by decide +kernel, by decide +kernel, by decide +kernel⟩
theorem ok_Mod_isBack : a_ok M_Mod_isBack := ⟨by decide +kernel, rfl, by decide +kernel⟩
theorem w_1880 : Cond.code ⟨"LedTablesModel", "isBack", "(II)Z"⟩ prog_12_method_68_code 3 (some .boolean) ∈ a_w0 := a_w0_in (List.mem_append_right _ (List.mem_of_getElem? (i := 1880) (by decide +kernel))) rfl
theorem cm_Mod_isBack : a_cm M_Mod_isBack 2 := ⟨w_1880, rfl, w_9, by decide, by decide +kernel, by decide +kernel, by decide +kernel⟩
theorem ok_Mod_last : a_ok M_Mod_last := ⟨by decide +kernel, rfl, by decide +kernel⟩
theorem w_1884 : Cond.code ⟨"LedTablesModel", "last", "(II)I"⟩ prog_12_method_69_code 7 (some .int) ∈ a_w0 := a_w0_in (List.mem_append_right _ (List.mem_of_getElem? (i := 1884) (by decide +kernel))) rfl
theorem cm_Mod_last : a_cm M_Mod_last 2 := ⟨w_1884, rfl, w_9, by decide, by decide +kernel, by decide +kernel, by decide +kernel⟩
theorem ok_Mod_go : a_ok M_Mod_go := ⟨by decide +kernel, rfl, by decide +kernel⟩
theorem w_1888 : Cond.code ⟨"LedTablesModel", "go", "()I"⟩ prog_12_method_80_code 2 (some .int) ∈ a_w0 := a_w0_in (List.mem_append_right _ (List.mem_of_getElem? (i := 1888) (by decide +kernel))) rfl
theorem cm_Mod_go : a_cm M_Mod_go 0 := ⟨w_1888, rfl, w_9, by decide, by decide +kernel, by decide +kernel, by decide +kernel⟩
theorem ok_Mod_many : a_ok M_Mod_many := ⟨by decide +kernel, rfl, by decide +kernel⟩
theorem w_1892 : Cond.code ⟨"LedTablesModel", "many", "(I)I"⟩ prog_12_method_74_code 4 (some .int) ∈ a_w0 := a_w0_in (List.mem_append_right _ (List.mem_of_getElem? (i := 1892) (by decide +kernel))) rfl
theorem cm_Mod_many : a_cm M_Mod_many 1 := ⟨w_1892, rfl, w_9, by decide, by decide +kernel, by decide +kernel, by decide +kernel⟩
theorem ok_Mod_brokenOnes : a_ok M_Mod_brokenOnes := ⟨by decide +kernel, rfl, by decide +kernel⟩
theorem w_1896 : Cond.code ⟨"LedTablesModel", "brokenOnes", "()I"⟩ prog_12_method_75_code 3 (some .int) ∈ a_w0 := a_w0_in (List.mem_append_right _ (List.mem_of_getElem? (i := 1896) (by decide +kernel))) rfl
theorem cm_Mod_brokenOnes : a_cm M_Mod_brokenOnes 0 := ⟨w_1896, rfl, w_9, by decide, by decide +kernel, by decide +kernel, by decide +kernel⟩
theorem ok_Mod_oddOnes : a_ok M_Mod_oddOnes := ⟨by decide +kernel, rfl, by decide +kernel⟩
theorem w_1900 : Cond.code ⟨"LedTablesModel", "oddOnes", "()I"⟩ prog_12_method_77_code 3 (some .int) ∈ a_w0 := a_w0_in (List.mem_append_right _ (List.mem_of_getElem? (i := 1900) (by decide +kernel))) rfl
theorem cm_Mod_oddOnes : a_cm M_Mod_oddOnes 0 := ⟨w_1900, rfl, w_9, by decide, by decide +kernel, by decide +kernel, by decide +kernel⟩
theorem ok_Mod_isOdd : a_ok M_Mod_isOdd := ⟨by decide +kernel, rfl, by decide +kernel⟩
theorem w_1904 : Cond.code ⟨"LedTablesModel", "isOdd", "(I)Z"⟩ prog_12_method_76_code 3 (some .boolean) ∈ a_w0 := a_w0_in (List.mem_append_right _ (List.mem_of_getElem? (i := 1904) (by decide +kernel))) rfl
theorem cm_Mod_isOdd : a_cm M_Mod_isOdd 1 := ⟨w_1904, rfl, w_9, by decide, by decide +kernel, by decide +kernel, by decide +kernel⟩
theorem ok_Mod_seesOf : a_ok M_Mod_seesOf := ⟨by decide +kernel, rfl, by decide +kernel⟩
theorem w_1908 : Cond.code ⟨"LedTablesModel", "seesOf", "(I)V"⟩ prog_12_method_71_code 3 none ∈ a_w0 := a_w0_in (List.mem_append_right _ (List.mem_of_getElem? (i := 1908) (by decide +kernel))) rfl
theorem cm_Mod_seesOf : a_cm M_Mod_seesOf 1 := ⟨w_1908, rfl, w_9, by decide, by decide +kernel, by decide +kernel, by decide +kernel⟩
theorem ok_Mod_isQuiet : a_ok M_Mod_isQuiet := ⟨by decide +kernel, rfl, by decide +kernel⟩
theorem w_1912 : Cond.code ⟨"LedTablesModel", "isQuiet", "()Z"⟩ prog_12_method_79_code 3 (some .boolean) ∈ a_w0 := a_w0_in (List.mem_append_right _ (List.mem_of_getElem? (i := 1912) (by decide +kernel))) rfl
theorem cm_Mod_isQuiet : a_cm M_Mod_isQuiet 0 := ⟨w_1912, rfl, w_9, by decide, by decide +kernel, by decide +kernel, by decide +kernel⟩
theorem ok_Mod_isAskedFrom : a_ok M_Mod_isAskedFrom := ⟨by decide +kernel, rfl, by decide +kernel⟩
theorem w_1916 : Cond.code ⟨"LedTablesModel", "isAskedFrom", "(III)Z"⟩ prog_12_method_78_code 4 (some .boolean) ∈ a_w0 := a_w0_in (List.mem_append_right _ (List.mem_of_getElem? (i := 1916) (by decide +kernel))) rfl
theorem cm_Mod_isAskedFrom : a_cm M_Mod_isAskedFrom 3 := ⟨w_1916, rfl, w_9, by decide, by decide +kernel, by decide +kernel, by decide +kernel⟩
theorem ok_Mod_back : a_ok M_Mod_back := ⟨by decide +kernel, rfl, by decide +kernel⟩
theorem w_1920 : Cond.code ⟨"LedTablesModel", "back", "()I"⟩ prog_12_method_81_code 2 (some .int) ∈ a_w0 := a_w0_in (List.mem_append_right _ (List.mem_of_getElem? (i := 1920) (by decide +kernel))) rfl
theorem cm_Mod_back : a_cm M_Mod_back 0 := ⟨w_1920, rfl, w_9, by decide, by decide +kernel, by decide +kernel, by decide +kernel⟩
theorem ok_Mod_insert : a_ok M_Mod_insert := ⟨by decide +kernel, rfl, by decide +kernel⟩
theorem w_1924 : Cond.code ⟨"LedTablesModel", "insert", "(I)I"⟩ prog_12_method_82_code 3 (some .int) ∈ a_w0 := a_w0_in (List.mem_append_right _ (List.mem_of_getElem? (i := 1924) (by decide +kernel))) rfl
theorem cm_Mod_insert : a_cm M_Mod_insert 1 := ⟨w_1924, rfl, w_9, by decide, by decide +kernel, by decide +kernel, by decide +kernel⟩
theorem ok_Mod_isKey : a_ok M_Mod_isKey := ⟨by decide +kernel, rfl, by decide +kernel⟩
theorem w_1928 : Cond.code ⟨"LedTablesModel", "isKey", "(I)Z"⟩ prog_12_method_70_code 2 (some .boolean) ∈ a_w0 := a_w0_in (List.mem_append_right _ (List.mem_of_getElem? (i := 1928) (by decide +kernel))) rfl
theorem cm_Mod_isKey : a_cm M_Mod_isKey 1 := ⟨w_1928, rfl, w_9, by decide, by decide +kernel, by decide +kernel, by decide +kernel⟩
theorem ok_Mod_takesSeen : a_ok M_Mod_takesSeen := ⟨by decide +kernel, rfl, by decide +kernel⟩
theorem w_1932 : Cond.code ⟨"LedTablesModel", "takesSeen", "(I)V"⟩ prog_12_method_72_code 3 none ∈ a_w0 := a_w0_in (List.mem_append_right _ (List.mem_of_getElem? (i := 1932) (by decide +kernel))) rfl
theorem cm_Mod_takesSeen : a_cm M_Mod_takesSeen 1 := ⟨w_1932, rfl, w_9, by decide, by decide +kernel, by decide +kernel, by decide +kernel⟩
theorem ok_Mod_delete : a_ok M_Mod_delete := ⟨by decide +kernel, rfl, by decide +kernel⟩
theorem w_1936 : Cond.code ⟨"LedTablesModel", "delete", "(I)Z"⟩ prog_12_method_83_code 3 (some .boolean) ∈ a_w0 := a_w0_in (List.mem_append_right _ (List.mem_of_getElem? (i := 1936) (by decide +kernel))) rfl
theorem cm_Mod_delete : a_cm M_Mod_delete 1 := ⟨w_1936, rfl, w_9, by decide, by decide +kernel, by decide +kernel, by decide +kernel⟩
theorem ok_Mod_read : a_ok M_Mod_read := ⟨by decide +kernel, rfl, by decide +kernel⟩
theorem w_1940 : Cond.code ⟨"LedTablesModel", "read", "(IIII)I"⟩ prog_12_method_86_code 5 (some .int) ∈ a_w0 := a_w0_in (List.mem_append_right _ (List.mem_of_getElem? (i := 1940) (by decide +kernel))) rfl
theorem cm_Mod_read : a_cm M_Mod_read 4 := ⟨w_1940, rfl, w_9, by decide, by decide +kernel, by decide +kernel, by decide +kernel⟩
theorem ok_Mod_oldAsIf : a_ok M_Mod_oldAsIf := ⟨by decide +kernel, rfl, by decide +kernel⟩
theorem w_1944 : Cond.code ⟨"LedTablesModel", "oldAsIf", "(I)V"⟩ prog_12_method_84_code 3 none ∈ a_w0 := a_w0_in (List.mem_append_right _ (List.mem_of_getElem? (i := 1944) (by decide +kernel))) rfl
theorem cm_Mod_oldAsIf : a_cm M_Mod_oldAsIf 1 := ⟨w_1944, rfl, w_9, by decide, by decide +kernel, by decide +kernel, by decide +kernel⟩
theorem ok_Mod_newAsIf : a_ok M_Mod_newAsIf := ⟨by decide +kernel, rfl, by decide +kernel⟩
theorem w_1948 : Cond.code ⟨"LedTablesModel", "newAsIf", "(I)V"⟩ prog_12_method_85_code 4 none ∈ a_w0 := a_w0_in (List.mem_append_right _ (List.mem_of_getElem? (i := 1948) (by decide +kernel))) rfl
theorem cm_Mod_newAsIf : a_cm M_Mod_newAsIf 1 := ⟨w_1948, rfl, w_9, by decide, by decide +kernel, by decide +kernel, by decide +kernel⟩
theorem ok_Mod_write : a_ok M_Mod_write := ⟨by decide +kernel, rfl, by decide +kernel⟩
theorem w_1952 : Cond.code ⟨"LedTablesModel", "write", "(IIIII)I"⟩ prog_12_method_87_code 7 (some .int) ∈ a_w0 := a_w0_in (List.mem_append_right _ (List.mem_of_getElem? (i := 1952) (by decide +kernel))) rfl
theorem cm_Mod_write : a_cm M_Mod_write 5 := ⟨w_1952, rfl, w_9, by decide, by decide +kernel, by decide +kernel, by decide +kernel⟩
theorem ok_Mod_writeOld : a_ok M_Mod_writeOld := ⟨by decide +kernel, rfl, by decide +kernel⟩
theorem w_1958 : Cond.code ⟨"LedTablesModel", "writeOld", "(III)V"⟩ prog_12_method_88_code 5 none ∈ a_w0 := a_w0_in (List.mem_append_right _ (List.mem_of_getElem? (i := 1958) (by decide +kernel))) rfl
theorem cm_Mod_writeOld : a_cm M_Mod_writeOld 3 := ⟨w_1958, rfl, w_9, by decide, by decide +kernel, by decide +kernel, by decide +kernel⟩
theorem ok_Mod_writeNew : a_ok M_Mod_writeNew := ⟨by decide +kernel, rfl, by decide +kernel⟩
theorem w_1962 : Cond.code ⟨"LedTablesModel", "writeNew", "(III)V"⟩ prog_12_method_89_code 7 none ∈ a_w0 := a_w0_in (List.mem_append_right _ (List.mem_of_getElem? (i := 1962) (by decide +kernel))) rfl
theorem cm_Mod_writeNew : a_cm M_Mod_writeNew 3 := ⟨w_1962, rfl, w_9, by decide, by decide +kernel, by decide +kernel, by decide +kernel⟩
theorem ok_Mod_takesPut : a_ok M_Mod_takesPut := ⟨by decide +kernel, rfl, by decide +kernel⟩
theorem w_1966 : Cond.code ⟨"LedTablesModel", "takesPut", "(I[I[I)V"⟩ prog_12_method_73_code 5 none ∈ a_w0 := a_w0_in (List.mem_append_right _ (List.mem_of_getElem? (i := 1966) (by decide +kernel))) rfl
theorem cm_Mod_takesPut : a_cm M_Mod_takesPut 3 := ⟨w_1966, rfl, w_9, by decide, by decide +kernel, by decide +kernel, by decide +kernel⟩
theorem ok_Mod_first : a_ok M_Mod_first := ⟨by decide +kernel, rfl, by decide +kernel⟩
theorem w_1970 : Cond.code ⟨"LedTablesModel", "first", "(I)I"⟩ prog_12_method_90_code 3 (some .int) ∈ a_w0 := a_w0_in (List.mem_append_right _ (List.mem_of_getElem? (i := 1970) (by decide +kernel))) rfl
theorem cm_Mod_first : a_cm M_Mod_first 1 := ⟨w_1970, rfl, w_9, by decide, by decide +kernel, by decide +kernel, by decide +kernel⟩
theorem ok_Mod_tick : a_ok M_Mod_tick := ⟨by decide +kernel, rfl, by decide +kernel⟩
theorem w_1974 : Cond.code ⟨"LedTablesModel", "tick", "(I)I"⟩ prog_12_method_91_code 2 (some .int) ∈ a_w0 := a_w0_in (List.mem_append_right _ (List.mem_of_getElem? (i := 1974) (by decide +kernel))) rfl
theorem cm_Mod_tick : a_cm M_Mod_tick 1 := ⟨w_1974, rfl, w_9, by decide, by decide +kernel, by decide +kernel, by decide +kernel⟩
theorem ok_Mod_bite : a_ok M_Mod_bite := ⟨by decide +kernel, rfl, by decide +kernel⟩
theorem w_1978 : Cond.code ⟨"LedTablesModel", "bite", "(I)I"⟩ prog_12_method_92_code 6 (some .int) ∈ a_w0 := a_w0_in (List.mem_append_right _ (List.mem_of_getElem? (i := 1978) (by decide +kernel))) rfl
theorem cm_Mod_bite : a_cm M_Mod_bite 1 := ⟨w_1978, rfl, w_9, by decide, by decide +kernel, by decide +kernel, by decide +kernel⟩
theorem ok_Mod_fall : a_ok M_Mod_fall := ⟨by decide +kernel, rfl, by decide +kernel⟩
theorem w_1982 : Cond.code ⟨"LedTablesModel", "fall", "(I)I"⟩ prog_12_method_93_code 3 (some .int) ∈ a_w0 := a_w0_in (List.mem_append_right _ (List.mem_of_getElem? (i := 1982) (by decide +kernel))) rfl
theorem cm_Mod_fall : a_cm M_Mod_fall 1 := ⟨w_1982, rfl, w_9, by decide, by decide +kernel, by decide +kernel, by decide +kernel⟩
theorem ok_Mod_row : a_ok M_Mod_row := ⟨by decide +kernel, rfl, by decide +kernel⟩
theorem w_1986 : Cond.code ⟨"LedTablesModel", "row", "(II)I"⟩ prog_12_method_94_code 3 (some .int) ∈ a_w0 := a_w0_in (List.mem_append_right _ (List.mem_of_getElem? (i := 1986) (by decide +kernel))) rfl
theorem cm_Mod_row : a_cm M_Mod_row 2 := ⟨w_1986, rfl, w_9, by decide, by decide +kernel, by decide +kernel, by decide +kernel⟩
theorem ok_Mod_quiet : a_ok M_Mod_quiet := ⟨by decide +kernel, rfl, by decide +kernel⟩
theorem w_1990 : Cond.code ⟨"LedTablesModel", "quiet", "(I)I"⟩ prog_12_method_95_code 3 (some .int) ∈ a_w0 := a_w0_in (List.mem_append_right _ (List.mem_of_getElem? (i := 1990) (by decide +kernel))) rfl
theorem cm_Mod_quiet : a_cm M_Mod_quiet 1 := ⟨w_1990, rfl, w_9, by decide, by decide +kernel, by decide +kernel, by decide +kernel⟩
theorem ok_Mod_asked : a_ok M_Mod_asked := ⟨by decide +kernel, rfl, by decide +kernel⟩
theorem w_1994 : Cond.code ⟨"LedTablesModel", "asked", "(IIIZ)I"⟩ prog_12_method_96_code 5 (some .int) ∈ a_w0 := a_w0_in (List.mem_append_right _ (List.mem_of_getElem? (i := 1994) (by decide +kernel))) rfl
theorem cm_Mod_asked : a_cm M_Mod_asked 4 := ⟨w_1994, rfl, w_9, by decide, by decide +kernel, by decide +kernel, by decide +kernel⟩
theorem ok_Mod_still : a_ok M_Mod_still := ⟨by decide +kernel, rfl, by decide +kernel⟩
theorem w_1998 : Cond.code ⟨"LedTablesModel", "still", "(II)I"⟩ prog_12_method_97_code 5 (some .int) ∈ a_w0 := a_w0_in (List.mem_append_right _ (List.mem_of_getElem? (i := 1998) (by decide +kernel))) rfl
theorem cm_Mod_still : a_cm M_Mod_still 2 := ⟨w_1998, rfl, w_9, by decide, by decide +kernel, by decide +kernel, by decide +kernel⟩
theorem ok_Mod_sum : a_ok M_Mod_sum := ⟨by decide +kernel, rfl, by decide +kernel⟩
theorem w_2002 : Cond.code ⟨"LedTablesModel", "sum", "(II)I"⟩ prog_12_method_100_code 3 (some .int) ∈ a_w0 := a_w0_in (List.mem_append_right _ (List.mem_of_getElem? (i := 2002) (by decide +kernel))) rfl
theorem cm_Mod_sum : a_cm M_Mod_sum 2 := ⟨w_2002, rfl, w_9, by decide, by decide +kernel, by decide +kernel, by decide +kernel⟩
theorem ok_Mod_sumOf : a_ok M_Mod_sumOf := ⟨by decide +kernel, rfl, by decide +kernel⟩
theorem w_2006 : Cond.code ⟨"LedTablesModel", "sumOf", "(II)I"⟩ prog_12_method_99_code 5 (some .int) ∈ a_w0 := a_w0_in (List.mem_append_right _ (List.mem_of_getElem? (i := 2006) (by decide +kernel))) rfl
theorem cm_Mod_sumOf : a_cm M_Mod_sumOf 2 := ⟨w_2006, rfl, w_9, by decide, by decide +kernel, by decide +kernel, by decide +kernel⟩
theorem ok_Mod_weigh : a_ok M_Mod_weigh := ⟨by decide +kernel, rfl, by decide +kernel⟩
theorem w_2009 : Cond.code ⟨"LedTablesModel", "weigh", "([I)I"⟩ prog_12_method_98_code 1 (some .int) ∈ a_w0 := a_w0_in (List.mem_append_right _ (List.mem_of_getElem? (i := 2009) (by decide +kernel))) rfl
theorem cm_Mod_weigh : a_cm M_Mod_weigh 1 := ⟨w_2009, rfl, w_9, by decide, by decide +kernel, by decide +kernel, by decide +kernel⟩
theorem ok_Mod_halves : a_ok M_Mod_halves := ⟨by decide +kernel, rfl, by decide +kernel⟩
theorem w_2013 : Cond.code ⟨"LedTablesModel", "halves", "(II)I"⟩ prog_12_method_101_code 6 (some .int) ∈ a_w0 := a_w0_in (List.mem_append_right _ (List.mem_of_getElem? (i := 2013) (by decide +kernel))) rfl
theorem cm_Mod_halves : a_cm M_Mod_halves 2 := ⟨w_2013, rfl, w_9, by decide, by decide +kernel, by decide +kernel, by decide +kernel⟩
theorem ok_Mod_mend : a_ok M_Mod_mend := ⟨by decide +kernel, rfl, by decide +kernel⟩
theorem w_2017 : Cond.code ⟨"LedTablesModel", "mend", "(I)Z"⟩ prog_12_method_102_code 3 (some .boolean) ∈ a_w0 := a_w0_in (List.mem_append_right _ (List.mem_of_getElem? (i := 2017) (by decide +kernel))) rfl
theorem cm_Mod_mend : a_cm M_Mod_mend 1 := ⟨w_2017, rfl, w_9, by decide, by decide +kernel, by decide +kernel, by decide +kernel⟩
theorem ok_Mod_count : a_ok M_Mod_count := ⟨by decide +kernel, rfl, by decide +kernel⟩
theorem w_2021 : Cond.code ⟨"LedTablesModel", "count", "(I)I"⟩ prog_12_method_103_code 2 (some .int) ∈ a_w0 := a_w0_in (List.mem_append_right _ (List.mem_of_getElem? (i := 2021) (by decide +kernel))) rfl
theorem cm_Mod_count : a_cm M_Mod_count 1 := ⟨w_2021, rfl, w_9, by decide, by decide +kernel, by decide +kernel, by decide +kernel⟩
theorem w_27 : Cond.methodLink "LedTablesLaw" 118 ⟨"LedTables", "<init>", "()V"⟩ ∈ a_w0 := a_w0_in (List.mem_append_right _ (List.mem_of_getElem? (i := 27) (by decide +kernel))) rfl
theorem w_28 : Cond.instanceMethod ⟨"LedTables", "<init>", "()V"⟩ ∈ a_w0 := a_w0_in (List.mem_append_right _ (List.mem_of_getElem? (i := 28) (by decide +kernel))) rfl
theorem li_Law_118 : a_li R_Law 118 M_Led_init 0 := ⟨w_27, w_28, rfl, rfl, cm_Led_init⟩
theorem w_30 : Cond.methodLink "LedTables" 3 ⟨"java/lang/Object", "<init>", "()V"⟩ ∈ a_w0 := a_w0_in (List.mem_append_right _ (List.mem_of_getElem? (i := 30) (by decide +kernel))) rfl
theorem ob_Led_3 : Cond.methodLink R_Led 3 objectInit ∈ a_w0 := w_30
theorem w_35 : Cond.methodLink "LedTables" 21 ⟨"LedTables$Lens", "<init>", "()V"⟩ ∈ a_w0 := a_w0_in (List.mem_append_right _ (List.mem_of_getElem? (i := 35) (by decide +kernel))) rfl
theorem w_36 : Cond.instanceMethod ⟨"LedTables$Lens", "<init>", "()V"⟩ ∈ a_w0 := a_w0_in (List.mem_append_right _ (List.mem_of_getElem? (i := 36) (by decide +kernel))) rfl
theorem li_Led_21 : a_li R_Led 21 M_Len_init 0 := ⟨w_35, w_36, rfl, rfl, cm_Len_init⟩
theorem w_38 : Cond.methodLink "LedTables$Lens" 3 ⟨"java/lang/Object", "<init>", "()V"⟩ ∈ a_w0 := a_w0_in (List.mem_append_right _ (List.mem_of_getElem? (i := 38) (by decide +kernel))) rfl
theorem ob_Len_3 : Cond.methodLink R_Len 3 objectInit ∈ a_w0 := w_38
theorem w_39 : Cond.methodLink "LedTables$Lens" 37 ⟨"LedTables$Lens", "addOrder", "(II)I"⟩ ∈ a_w0 := a_w0_in (List.mem_append_right _ (List.mem_of_getElem? (i := 39) (by decide +kernel))) rfl
theorem w_40 : Cond.instanceMethod ⟨"LedTables$Lens", "addOrder", "(II)I"⟩ ∈ a_w0 := a_w0_in (List.mem_append_right _ (List.mem_of_getElem? (i := 40) (by decide +kernel))) rfl
theorem w_41 : Cond.selects "LedTables$Lens" ⟨"LedTables$Lens", "addOrder", "(II)I"⟩ ⟨"LedTables$Lens", "addOrder", "(II)I"⟩ ∈ a_w0 := a_w0_in (List.mem_append_right _ (List.mem_of_getElem? (i := 41) (by decide +kernel))) rfl
theorem lv_Len_37 : a_lv R_Len 37 M_Len_addOrder 2 := ⟨w_39, w_40, w_41, cm_Len_addOrder⟩
theorem w_83 : Cond.methodLink "LedTables" 28 ⟨"LedTables$Reader", "<init>", "([ILLedTables$Lens;)V"⟩ ∈ a_w0 := a_w0_in (List.mem_append_right _ (List.mem_of_getElem? (i := 83) (by decide +kernel))) rfl
theorem w_84 : Cond.instanceMethod ⟨"LedTables$Reader", "<init>", "([ILLedTables$Lens;)V"⟩ ∈ a_w0 := a_w0_in (List.mem_append_right _ (List.mem_of_getElem? (i := 84) (by decide +kernel))) rfl
theorem li_Led_28 : a_li R_Led 28 M_Rea_init 2 := ⟨w_83, w_84, rfl, rfl, cm_Rea_init⟩
theorem w_86 : Cond.methodLink "LedTables$Reader" 3 ⟨"java/lang/Object", "<init>", "()V"⟩ ∈ a_w0 := a_w0_in (List.mem_append_right _ (List.mem_of_getElem? (i := 86) (by decide +kernel))) rfl
theorem ob_Rea_3 : Cond.methodLink R_Rea 3 objectInit ∈ a_w0 := w_86
theorem w_117 : Cond.methodLink "LedTables" 40 ⟨"LedTables$Box", "<init>", "(LLedTables$Lens;)V"⟩ ∈ a_w0 := a_w0_in (List.mem_append_right _ (List.mem_of_getElem? (i := 117) (by decide +kernel))) rfl
theorem w_118 : Cond.instanceMethod ⟨"LedTables$Box", "<init>", "(LLedTables$Lens;)V"⟩ ∈ a_w0 := a_w0_in (List.mem_append_right _ (List.mem_of_getElem? (i := 118) (by decide +kernel))) rfl
theorem li_Led_40 : a_li R_Led 40 M_Box_init 1 := ⟨w_117, w_118, rfl, rfl, cm_Box_init⟩
theorem w_120 : Cond.methodLink "LedTables$Box" 3 ⟨"java/lang/Object", "<init>", "()V"⟩ ∈ a_w0 := a_w0_in (List.mem_append_right _ (List.mem_of_getElem? (i := 120) (by decide +kernel))) rfl
theorem ob_Box_3 : Cond.methodLink R_Box 3 objectInit ∈ a_w0 := w_120
theorem w_151 : Cond.methodLink "LedTables" 49 ⟨"LedTables$Plan", "<init>", "()V"⟩ ∈ a_w0 := a_w0_in (List.mem_append_right _ (List.mem_of_getElem? (i := 151) (by decide +kernel))) rfl
theorem w_152 : Cond.instanceMethod ⟨"LedTables$Plan", "<init>", "()V"⟩ ∈ a_w0 := a_w0_in (List.mem_append_right _ (List.mem_of_getElem? (i := 152) (by decide +kernel))) rfl
theorem li_Led_49 : a_li R_Led 49 M_Pla_init 0 := ⟨w_151, w_152, rfl, rfl, cm_Pla_init⟩
theorem w_154 : Cond.methodLink "LedTables$Plan" 3 ⟨"java/lang/Object", "<init>", "()V"⟩ ∈ a_w0 := a_w0_in (List.mem_append_right _ (List.mem_of_getElem? (i := 154) (by decide +kernel))) rfl
theorem ob_Pla_3 : Cond.methodLink R_Pla 3 objectInit ∈ a_w0 := w_154
theorem w_187 : Cond.methodLink "LedTables" 60 ⟨"LedTables$Asked", "<init>", "()V"⟩ ∈ a_w0 := a_w0_in (List.mem_append_right _ (List.mem_of_getElem? (i := 187) (by decide +kernel))) rfl
theorem w_188 : Cond.instanceMethod ⟨"LedTables$Asked", "<init>", "()V"⟩ ∈ a_w0 := a_w0_in (List.mem_append_right _ (List.mem_of_getElem? (i := 188) (by decide +kernel))) rfl
theorem li_Led_60 : a_li R_Led 60 M_Ask_init 0 := ⟨w_187, w_188, rfl, rfl, cm_Ask_init⟩
theorem w_190 : Cond.methodLink "LedTables$Asked" 3 ⟨"java/lang/Object", "<init>", "()V"⟩ ∈ a_w0 := a_w0_in (List.mem_append_right _ (List.mem_of_getElem? (i := 190) (by decide +kernel))) rfl
theorem ob_Ask_3 : Cond.methodLink R_Ask 3 objectInit ∈ a_w0 := w_190
theorem w_197 : Cond.methodLink "LedTables" 67 ⟨"LedTables$Table", "<init>", "(LLedTables$Lens;LLedTables$Asked;)V"⟩ ∈ a_w0 := a_w0_in (List.mem_append_right _ (List.mem_of_getElem? (i := 197) (by decide +kernel))) rfl
theorem w_198 : Cond.instanceMethod ⟨"LedTables$Table", "<init>", "(LLedTables$Lens;LLedTables$Asked;)V"⟩ ∈ a_w0 := a_w0_in (List.mem_append_right _ (List.mem_of_getElem? (i := 198) (by decide +kernel))) rfl
theorem li_Led_67 : a_li R_Led 67 M_Tab_init 2 := ⟨w_197, w_198, rfl, rfl, cm_Tab_init⟩
theorem w_200 : Cond.methodLink "LedTables$Table" 3 ⟨"java/lang/Object", "<init>", "()V"⟩ ∈ a_w0 := a_w0_in (List.mem_append_right _ (List.mem_of_getElem? (i := 200) (by decide +kernel))) rfl
theorem ob_Tab_3 : Cond.methodLink R_Tab 3 objectInit ∈ a_w0 := w_200
theorem w_204 : Cond.methodLink "LedTables$Table" 35 ⟨"LedTables$Row", "<init>", "()V"⟩ ∈ a_w0 := a_w0_in (List.mem_append_right _ (List.mem_of_getElem? (i := 204) (by decide +kernel))) rfl
theorem w_205 : Cond.instanceMethod ⟨"LedTables$Row", "<init>", "()V"⟩ ∈ a_w0 := a_w0_in (List.mem_append_right _ (List.mem_of_getElem? (i := 205) (by decide +kernel))) rfl
theorem li_Tab_35 : a_li R_Tab 35 M_Row_init 0 := ⟨w_204, w_205, rfl, rfl, cm_Row_init⟩
theorem w_207 : Cond.methodLink "LedTables$Row" 3 ⟨"java/lang/Object", "<init>", "()V"⟩ ∈ a_w0 := a_w0_in (List.mem_append_right _ (List.mem_of_getElem? (i := 207) (by decide +kernel))) rfl
theorem ob_Row_3 : Cond.methodLink R_Row 3 objectInit ∈ a_w0 := w_207
theorem w_310 : Cond.methodLink "LedTablesLaw" 122 ⟨"LedTables", "feed", "(IIIII)I"⟩ ∈ a_w0 := a_w0_in (List.mem_append_right _ (List.mem_of_getElem? (i := 310) (by decide +kernel))) rfl
theorem w_311 : Cond.instanceMethod ⟨"LedTables", "feed", "(IIIII)I"⟩ ∈ a_w0 := a_w0_in (List.mem_append_right _ (List.mem_of_getElem? (i := 311) (by decide +kernel))) rfl
theorem w_312 : Cond.selects "LedTables" ⟨"LedTables", "feed", "(IIIII)I"⟩ ⟨"LedTables", "feed", "(IIIII)I"⟩ ∈ a_w0 := a_w0_in (List.mem_append_right _ (List.mem_of_getElem? (i := 312) (by decide +kernel))) rfl
theorem lv_Law_122 : a_lv R_Law 122 M_Led_feed 5 := ⟨w_310, w_311, w_312, cm_Led_feed⟩
theorem w_314 : Cond.methodLink "LedTables" 74 ⟨"LedTables", "feedNumber", "(I)V"⟩ ∈ a_w0 := a_w0_in (List.mem_append_right _ (List.mem_of_getElem? (i := 314) (by decide +kernel))) rfl
theorem w_316 : Cond.instanceMethod ⟨"LedTables", "feedNumber", "(I)V"⟩ ∈ a_w0 := a_w0_in (List.mem_append_right _ (List.mem_of_getElem? (i := 316) (by decide +kernel))) rfl
theorem ws_0 : Cond.selects "LedTables" ⟨"LedTables", "feedNumber", "(I)V"⟩ ⟨"LedTables", "feedNumber", "(I)V"⟩ ∈ a_w0 := a_w0_in (List.mem_append_left _ (List.mem_of_getElem? (i := 0) (by decide +kernel))) rfl
theorem lv_Led_74 : a_lv R_Led 74 M_Led_feedNumber 1 := ⟨w_314, w_316, ws_0, cm_Led_feedNumber⟩
theorem w_318 : Cond.methodLink "LedTablesLaw" 136 ⟨"LedTables", "fault", "()I"⟩ ∈ a_w0 := a_w0_in (List.mem_append_right _ (List.mem_of_getElem? (i := 318) (by decide +kernel))) rfl
theorem w_319 : Cond.instanceMethod ⟨"LedTables", "fault", "()I"⟩ ∈ a_w0 := a_w0_in (List.mem_append_right _ (List.mem_of_getElem? (i := 319) (by decide +kernel))) rfl
theorem w_320 : Cond.selects "LedTables" ⟨"LedTables", "fault", "()I"⟩ ⟨"LedTables", "fault", "()I"⟩ ∈ a_w0 := a_w0_in (List.mem_append_right _ (List.mem_of_getElem? (i := 320) (by decide +kernel))) rfl
theorem lv_Law_136 : a_lv R_Law 136 M_Led_fault 0 := ⟨w_318, w_319, w_320, cm_Led_fault⟩
theorem w_322 : Cond.methodLink "LedTablesLaw" 159 ⟨"LedTables", "lost", "()I"⟩ ∈ a_w0 := a_w0_in (List.mem_append_right _ (List.mem_of_getElem? (i := 322) (by decide +kernel))) rfl
theorem w_323 : Cond.instanceMethod ⟨"LedTables", "lost", "()I"⟩ ∈ a_w0 := a_w0_in (List.mem_append_right _ (List.mem_of_getElem? (i := 323) (by decide +kernel))) rfl
theorem w_324 : Cond.selects "LedTables" ⟨"LedTables", "lost", "()I"⟩ ⟨"LedTables", "lost", "()I"⟩ ∈ a_w0 := a_w0_in (List.mem_append_right _ (List.mem_of_getElem? (i := 324) (by decide +kernel))) rfl
theorem lv_Law_159 : a_lv R_Law 159 M_Led_lost 0 := ⟨w_322, w_323, w_324, cm_Led_lost⟩
theorem w_326 : Cond.methodLink "LedTables" 154 ⟨"LedTables$Box", "lostLetters", "()I"⟩ ∈ a_w0 := a_w0_in (List.mem_append_right _ (List.mem_of_getElem? (i := 326) (by decide +kernel))) rfl
theorem w_327 : Cond.instanceMethod ⟨"LedTables$Box", "lostLetters", "()I"⟩ ∈ a_w0 := a_w0_in (List.mem_append_right _ (List.mem_of_getElem? (i := 327) (by decide +kernel))) rfl
theorem w_328 : Cond.selects "LedTables$Box" ⟨"LedTables$Box", "lostLetters", "()I"⟩ ⟨"LedTables$Box", "lostLetters", "()I"⟩ ∈ a_w0 := a_w0_in (List.mem_append_right _ (List.mem_of_getElem? (i := 328) (by decide +kernel))) rfl
theorem lv_Led_154 : a_lv R_Led 154 M_Box_lostLetters 0 := ⟨w_326, w_327, w_328, cm_Box_lostLetters⟩
theorem w_335 : Cond.methodLink "LedTables$Likes" 3 ⟨"java/lang/Object", "<init>", "()V"⟩ ∈ a_w0 := a_w0_in (List.mem_append_right _ (List.mem_of_getElem? (i := 335) (by decide +kernel))) rfl
theorem ob_Lik_3 : Cond.methodLink R_Lik 3 objectInit ∈ a_w0 := w_335
theorem w_344 : Cond.methodLink "LedTables$Box" 63 ⟨"LedTables$Likes", "forget", "()V"⟩ ∈ a_w0 := a_w0_in (List.mem_append_right _ (List.mem_of_getElem? (i := 344) (by decide +kernel))) rfl
theorem w_345 : Cond.instanceMethod ⟨"LedTables$Likes", "forget", "()V"⟩ ∈ a_w0 := a_w0_in (List.mem_append_right _ (List.mem_of_getElem? (i := 345) (by decide +kernel))) rfl
theorem w_346 : Cond.selects "LedTables$Likes" ⟨"LedTables$Likes", "forget", "()V"⟩ ⟨"LedTables$Likes", "forget", "()V"⟩ ∈ a_w0 := a_w0_in (List.mem_append_right _ (List.mem_of_getElem? (i := 346) (by decide +kernel))) rfl
theorem lv_Box_63 : a_lv R_Box 63 M_Lik_forget 0 := ⟨w_344, w_345, w_346, cm_Lik_forget⟩
theorem w_348 : Cond.methodLink "LedTables$Box" 41 ⟨"LedTables$Box", "manyBoxed", "()I"⟩ ∈ a_w0 := a_w0_in (List.mem_append_right _ (List.mem_of_getElem? (i := 348) (by decide +kernel))) rfl
theorem w_350 : Cond.instanceMethod ⟨"LedTables$Box", "manyBoxed", "()I"⟩ ∈ a_w0 := a_w0_in (List.mem_append_right _ (List.mem_of_getElem? (i := 350) (by decide +kernel))) rfl
theorem ws_1 : Cond.selects "LedTables$Box" ⟨"LedTables$Box", "manyBoxed", "()I"⟩ ⟨"LedTables$Box", "manyBoxed", "()I"⟩ ∈ a_w0 := a_w0_in (List.mem_append_left _ (List.mem_of_getElem? (i := 1) (by decide +kernel))) rfl
theorem lv_Box_41 : a_lv R_Box 41 M_Box_manyBoxed 0 := ⟨w_348, w_350, ws_1, cm_Box_manyBoxed⟩
theorem w_352 : Cond.methodLink "LedTables$Box" 92 ⟨"java/lang/Math", "min", "(II)I"⟩ ∈ a_w0 := a_w0_in (List.mem_append_right _ (List.mem_of_getElem? (i := 352) (by decide +kernel))) rfl
theorem w_353 : Cond.static ⟨"java/lang/Math", "min", "(II)I"⟩ ∈ a_w0 := a_w0_in (List.mem_append_right _ (List.mem_of_getElem? (i := 353) (by decide +kernel))) rfl
theorem w_15 : Cond.initialized "java/lang/Math" ∈ a_w0 := a_w0_in (List.mem_append_right _ (List.mem_of_getElem? (i := 15) (by decide +kernel))) rfl
theorem w_354 : Cond.code ⟨"java/lang/Math", "min", "(II)I"⟩ prog_17_method_69_code 2 (some .int) ∈ a_w0 := a_w0_in (List.mem_append_right _ (List.mem_of_getElem? (i := 354) (by decide +kernel))) rfl
theorem mw_Box_92 : a_mw R_Box 92 Lib.Math.min.name Lib.Math.min.code := ⟨w_352, w_353, w_15, w_354⟩
theorem w_355 : Cond.methodLink "LedTables$Box" 50 ⟨"LedTables$Box", "seeRow", "(I)V"⟩ ∈ a_w0 := a_w0_in (List.mem_append_right _ (List.mem_of_getElem? (i := 355) (by decide +kernel))) rfl
theorem w_357 : Cond.instanceMethod ⟨"LedTables$Box", "seeRow", "(I)V"⟩ ∈ a_w0 := a_w0_in (List.mem_append_right _ (List.mem_of_getElem? (i := 357) (by decide +kernel))) rfl
theorem ws_2 : Cond.selects "LedTables$Box" ⟨"LedTables$Box", "seeRow", "(I)V"⟩ ⟨"LedTables$Box", "seeRow", "(I)V"⟩ ∈ a_w0 := a_w0_in (List.mem_append_left _ (List.mem_of_getElem? (i := 2) (by decide +kernel))) rfl
theorem lv_Box_50 : a_lv R_Box 50 M_Box_seeRow 1 := ⟨w_355, w_357, ws_2, cm_Box_seeRow⟩
theorem w_359 : Cond.methodLink "LedTables$Box" 70 ⟨"LedTables$Box", "fillRow", "(I[I)V"⟩ ∈ a_w0 := a_w0_in (List.mem_append_right _ (List.mem_of_getElem? (i := 359) (by decide +kernel))) rfl
theorem w_361 : Cond.instanceMethod ⟨"LedTables$Box", "fillRow", "(I[I)V"⟩ ∈ a_w0 := a_w0_in (List.mem_append_right _ (List.mem_of_getElem? (i := 361) (by decide +kernel))) rfl
theorem ws_3 : Cond.selects "LedTables$Box" ⟨"LedTables$Box", "fillRow", "(I[I)V"⟩ ⟨"LedTables$Box", "fillRow", "(I[I)V"⟩ ∈ a_w0 := a_w0_in (List.mem_append_left _ (List.mem_of_getElem? (i := 3) (by decide +kernel))) rfl
theorem lv_Box_70 : a_lv R_Box 70 M_Box_fillRow 2 := ⟨w_359, w_361, ws_3, cm_Box_fillRow⟩
theorem w_363 : Cond.methodLink "LedTables$Box" 98 ⟨"java/lang/Math", "max", "(II)I"⟩ ∈ a_w0 := a_w0_in (List.mem_append_right _ (List.mem_of_getElem? (i := 363) (by decide +kernel))) rfl
theorem w_364 : Cond.static ⟨"java/lang/Math", "max", "(II)I"⟩ ∈ a_w0 := a_w0_in (List.mem_append_right _ (List.mem_of_getElem? (i := 364) (by decide +kernel))) rfl
theorem w_365 : Cond.code ⟨"java/lang/Math", "max", "(II)I"⟩ prog_17_method_65_code 2 (some .int) ∈ a_w0 := a_w0_in (List.mem_append_right _ (List.mem_of_getElem? (i := 365) (by decide +kernel))) rfl
theorem mw_Box_98 : a_mw R_Box 98 Lib.Math.max.name Lib.Math.max.code := ⟨w_363, w_364, w_15, w_365⟩
theorem w_366 : Cond.methodLink "LedTables$Box" 85 ⟨"LedTables$Lens", "toNew", "([I[I)V"⟩ ∈ a_w0 := a_w0_in (List.mem_append_right _ (List.mem_of_getElem? (i := 366) (by decide +kernel))) rfl
theorem w_367 : Cond.instanceMethod ⟨"LedTables$Lens", "toNew", "([I[I)V"⟩ ∈ a_w0 := a_w0_in (List.mem_append_right _ (List.mem_of_getElem? (i := 367) (by decide +kernel))) rfl
theorem w_368 : Cond.selects "LedTables$Lens" ⟨"LedTables$Lens", "toNew", "([I[I)V"⟩ ⟨"LedTables$Lens", "toNew", "([I[I)V"⟩ ∈ a_w0 := a_w0_in (List.mem_append_right _ (List.mem_of_getElem? (i := 368) (by decide +kernel))) rfl
theorem lv_Box_85 : a_lv R_Box 85 M_Len_toNew 2 := ⟨w_366, w_367, w_368, cm_Len_toNew⟩
theorem w_370 : Cond.methodLink "LedTables$Lens" 57 ⟨"LedTables$Lens", "work", "(II[I[I)I"⟩ ∈ a_w0 := a_w0_in (List.mem_append_right _ (List.mem_of_getElem? (i := 370) (by decide +kernel))) rfl
theorem w_372 : Cond.instanceMethod ⟨"LedTables$Lens", "work", "(II[I[I)I"⟩ ∈ a_w0 := a_w0_in (List.mem_append_right _ (List.mem_of_getElem? (i := 372) (by decide +kernel))) rfl
theorem ws_4 : Cond.selects "LedTables$Lens" ⟨"LedTables$Lens", "work", "(II[I[I)I"⟩ ⟨"LedTables$Lens", "work", "(II[I[I)I"⟩ ∈ a_w0 := a_w0_in (List.mem_append_left _ (List.mem_of_getElem? (i := 4) (by decide +kernel))) rfl
theorem lv_Len_57 : a_lv R_Len 57 M_Len_work 4 := ⟨w_370, w_372, ws_4, cm_Len_work⟩
theorem w_374 : Cond.methodLink "LedTables$Lens" 61 ⟨"LedTables$Lens", "valueOf", "(II[I[I)I"⟩ ∈ a_w0 := a_w0_in (List.mem_append_right _ (List.mem_of_getElem? (i := 374) (by decide +kernel))) rfl
theorem w_375 : Cond.static ⟨"LedTables$Lens", "valueOf", "(II[I[I)I"⟩ ∈ a_w0 := a_w0_in (List.mem_append_right _ (List.mem_of_getElem? (i := 375) (by decide +kernel))) rfl
theorem ls_Len_61 : a_ls R_Len 61 M_Len_valueOf 4 := ⟨w_374, w_375, cm_Len_valueOf⟩
theorem w_377 : Cond.methodLink "LedTables$Lens" 64 ⟨"LedTables$Lens", "join", "(III)I"⟩ ∈ a_w0 := a_w0_in (List.mem_append_right _ (List.mem_of_getElem? (i := 377) (by decide +kernel))) rfl
theorem w_378 : Cond.static ⟨"LedTables$Lens", "join", "(III)I"⟩ ∈ a_w0 := a_w0_in (List.mem_append_right _ (List.mem_of_getElem? (i := 378) (by decide +kernel))) rfl
theorem ls_Len_64 : a_ls R_Len 64 M_Len_join 3 := ⟨w_377, w_378, cm_Len_join⟩
theorem w_380 : Cond.methodLink "LedTables$Box" 89 ⟨"LedTables$Lens", "toBeside", "([I[I)V"⟩ ∈ a_w0 := a_w0_in (List.mem_append_right _ (List.mem_of_getElem? (i := 380) (by decide +kernel))) rfl
theorem w_381 : Cond.instanceMethod ⟨"LedTables$Lens", "toBeside", "([I[I)V"⟩ ∈ a_w0 := a_w0_in (List.mem_append_right _ (List.mem_of_getElem? (i := 381) (by decide +kernel))) rfl
theorem w_382 : Cond.selects "LedTables$Lens" ⟨"LedTables$Lens", "toBeside", "([I[I)V"⟩ ⟨"LedTables$Lens", "toBeside", "([I[I)V"⟩ ∈ a_w0 := a_w0_in (List.mem_append_right _ (List.mem_of_getElem? (i := 382) (by decide +kernel))) rfl
theorem lv_Box_89 : a_lv R_Box 89 M_Len_toBeside 2 := ⟨w_380, w_381, w_382, cm_Len_toBeside⟩
theorem w_384 : Cond.methodLink "LedTables$Box" 66 ⟨"LedTables$Likes", "firstLike", "(I[I[I)I"⟩ ∈ a_w0 := a_w0_in (List.mem_append_right _ (List.mem_of_getElem? (i := 384) (by decide +kernel))) rfl
theorem w_385 : Cond.instanceMethod ⟨"LedTables$Likes", "firstLike", "(I[I[I)I"⟩ ∈ a_w0 := a_w0_in (List.mem_append_right _ (List.mem_of_getElem? (i := 385) (by decide +kernel))) rfl
theorem w_386 : Cond.selects "LedTables$Likes" ⟨"LedTables$Likes", "firstLike", "(I[I[I)I"⟩ ⟨"LedTables$Likes", "firstLike", "(I[I[I)I"⟩ ∈ a_w0 := a_w0_in (List.mem_append_right _ (List.mem_of_getElem? (i := 386) (by decide +kernel))) rfl
theorem lv_Box_66 : a_lv R_Box 66 M_Lik_firstLike 3 := ⟨w_384, w_385, w_386, cm_Lik_firstLike⟩
theorem w_388 : Cond.methodLink "LedTables$Likes" 19 ⟨"LedTables$Likes", "keepSeen", "(I[I[I)V"⟩ ∈ a_w0 := a_w0_in (List.mem_append_right _ (List.mem_of_getElem? (i := 388) (by decide +kernel))) rfl
theorem w_390 : Cond.instanceMethod ⟨"LedTables$Likes", "keepSeen", "(I[I[I)V"⟩ ∈ a_w0 := a_w0_in (List.mem_append_right _ (List.mem_of_getElem? (i := 390) (by decide +kernel))) rfl
theorem ws_5 : Cond.selects "LedTables$Likes" ⟨"LedTables$Likes", "keepSeen", "(I[I[I)V"⟩ ⟨"LedTables$Likes", "keepSeen", "(I[I[I)V"⟩ ∈ a_w0 := a_w0_in (List.mem_append_left _ (List.mem_of_getElem? (i := 5) (by decide +kernel))) rfl
theorem lv_Lik_19 : a_lv R_Lik 19 M_Lik_keepSeen 3 := ⟨w_388, w_390, ws_5, cm_Lik_keepSeen⟩
theorem w_392 : Cond.methodLink "LedTables$Likes" 31 ⟨"java/lang/System", "arraycopy", "(Ljava/lang/Object;ILjava/lang/Object;II)V"⟩ ∈ a_w0 := a_w0_in (List.mem_append_right _ (List.mem_of_getElem? (i := 392) (by decide +kernel))) rfl
theorem w_394 : Cond.native ⟨"java/lang/System", "arraycopy", "(Ljava/lang/Object;ILjava/lang/Object;II)V"⟩ ∈ a_w0 := a_w0_in (List.mem_append_right _ (List.mem_of_getElem? (i := 394) (by decide +kernel))) rfl
theorem w_393 : Cond.static ⟨"java/lang/System", "arraycopy", "(Ljava/lang/Object;ILjava/lang/Object;II)V"⟩ ∈ a_w0 := a_w0_in (List.mem_append_right _ (List.mem_of_getElem? (i := 393) (by decide +kernel))) rfl
theorem w_20 : Cond.initialized "java/lang/System" ∈ a_w0 := a_w0_in (List.mem_append_right _ (List.mem_of_getElem? (i := 20) (by decide +kernel))) rfl
theorem yw_Lik_31 : a_yw R_Lik 31 := ⟨w_392, w_394, w_393, w_20⟩
theorem w_395 : Cond.methodLink "LedTables$Likes" 23 ⟨"LedTables$Likes", "placeOf", "([I[I)I"⟩ ∈ a_w0 := a_w0_in (List.mem_append_right _ (List.mem_of_getElem? (i := 395) (by decide +kernel))) rfl
theorem w_396 : Cond.static ⟨"LedTables$Likes", "placeOf", "([I[I)I"⟩ ∈ a_w0 := a_w0_in (List.mem_append_right _ (List.mem_of_getElem? (i := 396) (by decide +kernel))) rfl
theorem ls_Lik_23 : a_ls R_Lik 23 M_Lik_placeOf 2 := ⟨w_395, w_396, cm_Lik_placeOf⟩
theorem w_400 : Cond.methodLink "LedTables$Likes" 27 ⟨"LedTables$Likes", "isSameSeen", "(II)Z"⟩ ∈ a_w0 := a_w0_in (List.mem_append_right _ (List.mem_of_getElem? (i := 400) (by decide +kernel))) rfl
theorem w_402 : Cond.instanceMethod ⟨"LedTables$Likes", "isSameSeen", "(II)Z"⟩ ∈ a_w0 := a_w0_in (List.mem_append_right _ (List.mem_of_getElem? (i := 402) (by decide +kernel))) rfl
theorem ws_6 : Cond.selects "LedTables$Likes" ⟨"LedTables$Likes", "isSameSeen", "(II)Z"⟩ ⟨"LedTables$Likes", "isSameSeen", "(II)Z"⟩ ∈ a_w0 := a_w0_in (List.mem_append_left _ (List.mem_of_getElem? (i := 6) (by decide +kernel))) rfl
theorem lv_Lik_27 : a_lv R_Lik 27 M_Lik_isSameSeen 2 := ⟨w_400, w_402, ws_6, cm_Lik_isSameSeen⟩
theorem w_404 : Cond.methodLink "LedTables$Box" 74 ⟨"LedTables$Lens", "isKept", "(I)Z"⟩ ∈ a_w0 := a_w0_in (List.mem_append_right _ (List.mem_of_getElem? (i := 404) (by decide +kernel))) rfl
theorem w_405 : Cond.instanceMethod ⟨"LedTables$Lens", "isKept", "(I)Z"⟩ ∈ a_w0 := a_w0_in (List.mem_append_right _ (List.mem_of_getElem? (i := 405) (by decide +kernel))) rfl
theorem w_406 : Cond.selects "LedTables$Lens" ⟨"LedTables$Lens", "isKept", "(I)Z"⟩ ⟨"LedTables$Lens", "isKept", "(I)Z"⟩ ∈ a_w0 := a_w0_in (List.mem_append_right _ (List.mem_of_getElem? (i := 406) (by decide +kernel))) rfl
theorem lv_Box_74 : a_lv R_Box 74 M_Len_isKept 1 := ⟨w_404, w_405, w_406, cm_Len_isKept⟩
theorem w_408 : Cond.methodLink "LedTablesLaw" 163 ⟨"LedTables", "wrong", "()I"⟩ ∈ a_w0 := a_w0_in (List.mem_append_right _ (List.mem_of_getElem? (i := 408) (by decide +kernel))) rfl
theorem w_409 : Cond.instanceMethod ⟨"LedTables", "wrong", "()I"⟩ ∈ a_w0 := a_w0_in (List.mem_append_right _ (List.mem_of_getElem? (i := 409) (by decide +kernel))) rfl
theorem w_410 : Cond.selects "LedTables" ⟨"LedTables", "wrong", "()I"⟩ ⟨"LedTables", "wrong", "()I"⟩ ∈ a_w0 := a_w0_in (List.mem_append_right _ (List.mem_of_getElem? (i := 410) (by decide +kernel))) rfl
theorem lv_Law_163 : a_lv R_Law 163 M_Led_wrong 0 := ⟨w_408, w_409, w_410, cm_Led_wrong⟩
theorem w_412 : Cond.methodLink "LedTables" 158 ⟨"LedTables$Box", "manyWrong", "()I"⟩ ∈ a_w0 := a_w0_in (List.mem_append_right _ (List.mem_of_getElem? (i := 412) (by decide +kernel))) rfl
theorem w_413 : Cond.instanceMethod ⟨"LedTables$Box", "manyWrong", "()I"⟩ ∈ a_w0 := a_w0_in (List.mem_append_right _ (List.mem_of_getElem? (i := 413) (by decide +kernel))) rfl
theorem w_414 : Cond.selects "LedTables$Box" ⟨"LedTables$Box", "manyWrong", "()I"⟩ ⟨"LedTables$Box", "manyWrong", "()I"⟩ ∈ a_w0 := a_w0_in (List.mem_append_right _ (List.mem_of_getElem? (i := 414) (by decide +kernel))) rfl
theorem lv_Led_158 : a_lv R_Led 158 M_Box_manyWrong 0 := ⟨w_412, w_413, w_414, cm_Box_manyWrong⟩
theorem w_416 : Cond.methodLink "LedTables$Box" 54 ⟨"LedTables$Lens", "isRight", "([I[I)Z"⟩ ∈ a_w0 := a_w0_in (List.mem_append_right _ (List.mem_of_getElem? (i := 416) (by decide +kernel))) rfl
theorem w_417 : Cond.instanceMethod ⟨"LedTables$Lens", "isRight", "([I[I)Z"⟩ ∈ a_w0 := a_w0_in (List.mem_append_right _ (List.mem_of_getElem? (i := 417) (by decide +kernel))) rfl
theorem w_418 : Cond.selects "LedTables$Lens" ⟨"LedTables$Lens", "isRight", "([I[I)Z"⟩ ⟨"LedTables$Lens", "isRight", "([I[I)Z"⟩ ∈ a_w0 := a_w0_in (List.mem_append_right _ (List.mem_of_getElem? (i := 418) (by decide +kernel))) rfl
theorem lv_Box_54 : a_lv R_Box 54 M_Len_isRight 2 := ⟨w_416, w_417, w_418, cm_Len_isRight⟩
theorem w_420 : Cond.methodLink "LedTablesLaw" 167 ⟨"LedTables", "change", "()I"⟩ ∈ a_w0 := a_w0_in (List.mem_append_right _ (List.mem_of_getElem? (i := 420) (by decide +kernel))) rfl
theorem w_421 : Cond.instanceMethod ⟨"LedTables", "change", "()I"⟩ ∈ a_w0 := a_w0_in (List.mem_append_right _ (List.mem_of_getElem? (i := 421) (by decide +kernel))) rfl
theorem w_422 : Cond.selects "LedTables" ⟨"LedTables", "change", "()I"⟩ ⟨"LedTables", "change", "()I"⟩ ∈ a_w0 := a_w0_in (List.mem_append_right _ (List.mem_of_getElem? (i := 422) (by decide +kernel))) rfl
theorem lv_Law_167 : a_lv R_Law 167 M_Led_change 0 := ⟨w_420, w_421, w_422, cm_Led_change⟩
theorem w_424 : Cond.methodLink "LedTables" 161 ⟨"LedTables$Plan", "addChange", "()I"⟩ ∈ a_w0 := a_w0_in (List.mem_append_right _ (List.mem_of_getElem? (i := 424) (by decide +kernel))) rfl
theorem w_425 : Cond.instanceMethod ⟨"LedTables$Plan", "addChange", "()I"⟩ ∈ a_w0 := a_w0_in (List.mem_append_right _ (List.mem_of_getElem? (i := 425) (by decide +kernel))) rfl
theorem w_426 : Cond.selects "LedTables$Plan" ⟨"LedTables$Plan", "addChange", "()I"⟩ ⟨"LedTables$Plan", "addChange", "()I"⟩ ∈ a_w0 := a_w0_in (List.mem_append_right _ (List.mem_of_getElem? (i := 426) (by decide +kernel))) rfl
theorem lv_Led_161 : a_lv R_Led 161 M_Pla_addChange 0 := ⟨w_424, w_425, w_426, cm_Pla_addChange⟩
theorem w_428 : Cond.methodLink "LedTablesLaw" 179 ⟨"LedTables", "program", "()I"⟩ ∈ a_w0 := a_w0_in (List.mem_append_right _ (List.mem_of_getElem? (i := 428) (by decide +kernel))) rfl
theorem w_429 : Cond.instanceMethod ⟨"LedTables", "program", "()I"⟩ ∈ a_w0 := a_w0_in (List.mem_append_right _ (List.mem_of_getElem? (i := 429) (by decide +kernel))) rfl
theorem w_430 : Cond.selects "LedTables" ⟨"LedTables", "program", "()I"⟩ ⟨"LedTables", "program", "()I"⟩ ∈ a_w0 := a_w0_in (List.mem_append_right _ (List.mem_of_getElem? (i := 430) (by decide +kernel))) rfl
theorem lv_Law_179 : a_lv R_Law 179 M_Led_program 0 := ⟨w_428, w_429, w_430, cm_Led_program⟩
theorem w_432 : Cond.methodLink "LedTables" 180 ⟨"LedTables$Plan", "addProgram", "()I"⟩ ∈ a_w0 := a_w0_in (List.mem_append_right _ (List.mem_of_getElem? (i := 432) (by decide +kernel))) rfl
theorem w_433 : Cond.instanceMethod ⟨"LedTables$Plan", "addProgram", "()I"⟩ ∈ a_w0 := a_w0_in (List.mem_append_right _ (List.mem_of_getElem? (i := 433) (by decide +kernel))) rfl
theorem w_434 : Cond.selects "LedTables$Plan" ⟨"LedTables$Plan", "addProgram", "()I"⟩ ⟨"LedTables$Plan", "addProgram", "()I"⟩ ∈ a_w0 := a_w0_in (List.mem_append_right _ (List.mem_of_getElem? (i := 434) (by decide +kernel))) rfl
theorem lv_Led_180 : a_lv R_Led 180 M_Pla_addProgram 0 := ⟨w_432, w_433, w_434, cm_Pla_addProgram⟩
theorem w_436 : Cond.methodLink "LedTablesLaw" 204 ⟨"LedTables", "go", "()I"⟩ ∈ a_w0 := a_w0_in (List.mem_append_right _ (List.mem_of_getElem? (i := 436) (by decide +kernel))) rfl
theorem w_437 : Cond.instanceMethod ⟨"LedTables", "go", "()I"⟩ ∈ a_w0 := a_w0_in (List.mem_append_right _ (List.mem_of_getElem? (i := 437) (by decide +kernel))) rfl
theorem w_438 : Cond.selects "LedTables" ⟨"LedTables", "go", "()I"⟩ ⟨"LedTables", "go", "()I"⟩ ∈ a_w0 := a_w0_in (List.mem_append_right _ (List.mem_of_getElem? (i := 438) (by decide +kernel))) rfl
theorem lv_Law_204 : a_lv R_Law 204 M_Led_go 0 := ⟨w_436, w_437, w_438, cm_Led_go⟩
theorem w_440 : Cond.methodLink "LedTables" 225 ⟨"LedTables$Table", "goOn", "()I"⟩ ∈ a_w0 := a_w0_in (List.mem_append_right _ (List.mem_of_getElem? (i := 440) (by decide +kernel))) rfl
theorem w_441 : Cond.instanceMethod ⟨"LedTables$Table", "goOn", "()I"⟩ ∈ a_w0 := a_w0_in (List.mem_append_right _ (List.mem_of_getElem? (i := 441) (by decide +kernel))) rfl
theorem w_442 : Cond.selects "LedTables$Table" ⟨"LedTables$Table", "goOn", "()I"⟩ ⟨"LedTables$Table", "goOn", "()I"⟩ ∈ a_w0 := a_w0_in (List.mem_append_right _ (List.mem_of_getElem? (i := 442) (by decide +kernel))) rfl
theorem lv_Led_225 : a_lv R_Led 225 M_Tab_goOn 0 := ⟨w_440, w_441, w_442, cm_Tab_goOn⟩
theorem w_444 : Cond.methodLink "LedTables$Table" 46 ⟨"LedTables$Table", "mayGoOn", "()Z"⟩ ∈ a_w0 := a_w0_in (List.mem_append_right _ (List.mem_of_getElem? (i := 444) (by decide +kernel))) rfl
theorem w_446 : Cond.instanceMethod ⟨"LedTables$Table", "mayGoOn", "()Z"⟩ ∈ a_w0 := a_w0_in (List.mem_append_right _ (List.mem_of_getElem? (i := 446) (by decide +kernel))) rfl
theorem ws_7 : Cond.selects "LedTables$Table" ⟨"LedTables$Table", "mayGoOn", "()Z"⟩ ⟨"LedTables$Table", "mayGoOn", "()Z"⟩ ∈ a_w0 := a_w0_in (List.mem_append_left _ (List.mem_of_getElem? (i := 7) (by decide +kernel))) rfl
theorem lv_Tab_46 : a_lv R_Tab 46 M_Tab_mayGoOn 0 := ⟨w_444, w_446, ws_7, cm_Tab_mayGoOn⟩
theorem w_448 : Cond.methodLink "LedTables$Table" 53 ⟨"LedTables$Table", "manyOf", "(I)I"⟩ ∈ a_w0 := a_w0_in (List.mem_append_right _ (List.mem_of_getElem? (i := 448) (by decide +kernel))) rfl
theorem w_449 : Cond.instanceMethod ⟨"LedTables$Table", "manyOf", "(I)I"⟩ ∈ a_w0 := a_w0_in (List.mem_append_right _ (List.mem_of_getElem? (i := 449) (by decide +kernel))) rfl
theorem w_450 : Cond.selects "LedTables$Table" ⟨"LedTables$Table", "manyOf", "(I)I"⟩ ⟨"LedTables$Table", "manyOf", "(I)I"⟩ ∈ a_w0 := a_w0_in (List.mem_append_right _ (List.mem_of_getElem? (i := 450) (by decide +kernel))) rfl
theorem lv_Tab_53 : a_lv R_Tab 53 M_Tab_manyOf 1 := ⟨w_448, w_449, w_450, cm_Tab_manyOf⟩
theorem w_452 : Cond.methodLink "LedTables$Table" 57 ⟨"LedTables$Table", "manyBroken", "()I"⟩ ∈ a_w0 := a_w0_in (List.mem_append_right _ (List.mem_of_getElem? (i := 452) (by decide +kernel))) rfl
theorem w_453 : Cond.instanceMethod ⟨"LedTables$Table", "manyBroken", "()I"⟩ ∈ a_w0 := a_w0_in (List.mem_append_right _ (List.mem_of_getElem? (i := 453) (by decide +kernel))) rfl
theorem w_454 : Cond.selects "LedTables$Table" ⟨"LedTables$Table", "manyBroken", "()I"⟩ ⟨"LedTables$Table", "manyBroken", "()I"⟩ ∈ a_w0 := a_w0_in (List.mem_append_right _ (List.mem_of_getElem? (i := 454) (by decide +kernel))) rfl
theorem lv_Tab_57 : a_lv R_Tab 57 M_Tab_manyBroken 0 := ⟨w_452, w_453, w_454, cm_Tab_manyBroken⟩
theorem w_456 : Cond.methodLink "LedTables$Table" 177 ⟨"LedTables$Row", "isBroken", "()Z"⟩ ∈ a_w0 := a_w0_in (List.mem_append_right _ (List.mem_of_getElem? (i := 456) (by decide +kernel))) rfl
theorem w_457 : Cond.instanceMethod ⟨"LedTables$Row", "isBroken", "()Z"⟩ ∈ a_w0 := a_w0_in (List.mem_append_right _ (List.mem_of_getElem? (i := 457) (by decide +kernel))) rfl
theorem w_458 : Cond.selects "LedTables$Row" ⟨"LedTables$Row", "isBroken", "()Z"⟩ ⟨"LedTables$Row", "isBroken", "()Z"⟩ ∈ a_w0 := a_w0_in (List.mem_append_right _ (List.mem_of_getElem? (i := 458) (by decide +kernel))) rfl
theorem lv_Tab_177 : a_lv R_Tab 177 M_Row_isBroken 0 := ⟨w_456, w_457, w_458, cm_Row_isBroken⟩
theorem w_460 : Cond.methodLink "LedTables$Table" 61 ⟨"LedTables$Table", "manyOdd", "()I"⟩ ∈ a_w0 := a_w0_in (List.mem_append_right _ (List.mem_of_getElem? (i := 460) (by decide +kernel))) rfl
theorem w_461 : Cond.instanceMethod ⟨"LedTables$Table", "manyOdd", "()I"⟩ ∈ a_w0 := a_w0_in (List.mem_append_right _ (List.mem_of_getElem? (i := 461) (by decide +kernel))) rfl
theorem w_462 : Cond.selects "LedTables$Table" ⟨"LedTables$Table", "manyOdd", "()I"⟩ ⟨"LedTables$Table", "manyOdd", "()I"⟩ ∈ a_w0 := a_w0_in (List.mem_append_right _ (List.mem_of_getElem? (i := 462) (by decide +kernel))) rfl
theorem lv_Tab_61 : a_lv R_Tab 61 M_Tab_manyOdd 0 := ⟨w_460, w_461, w_462, cm_Tab_manyOdd⟩
theorem w_464 : Cond.methodLink "LedTables$Table" 186 ⟨"LedTables$Table", "isOdd", "(LLedTables$Row;)Z"⟩ ∈ a_w0 := a_w0_in (List.mem_append_right _ (List.mem_of_getElem? (i := 464) (by decide +kernel))) rfl
theorem w_466 : Cond.instanceMethod ⟨"LedTables$Table", "isOdd", "(LLedTables$Row;)Z"⟩ ∈ a_w0 := a_w0_in (List.mem_append_right _ (List.mem_of_getElem? (i := 466) (by decide +kernel))) rfl
theorem ws_8 : Cond.selects "LedTables$Table" ⟨"LedTables$Table", "isOdd", "(LLedTables$Row;)Z"⟩ ⟨"LedTables$Table", "isOdd", "(LLedTables$Row;)Z"⟩ ∈ a_w0 := a_w0_in (List.mem_append_left _ (List.mem_of_getElem? (i := 8) (by decide +kernel))) rfl
theorem lv_Tab_186 : a_lv R_Tab 186 M_Tab_isOdd 1 := ⟨w_464, w_466, ws_8, cm_Tab_isOdd⟩
theorem w_468 : Cond.methodLink "LedTables$Table" 98 ⟨"LedTables$Lens", "toNew", "([I[I)V"⟩ ∈ a_w0 := a_w0_in (List.mem_append_right _ (List.mem_of_getElem? (i := 468) (by decide +kernel))) rfl
theorem lv_Tab_98 : a_lv R_Tab 98 M_Len_toNew 2 := ⟨w_468, w_367, w_368, cm_Len_toNew⟩
theorem w_472 : Cond.methodLink "LedTables$Table" 67 ⟨"LedTables$Asked", "isOldAsked", "(I)Z"⟩ ∈ a_w0 := a_w0_in (List.mem_append_right _ (List.mem_of_getElem? (i := 472) (by decide +kernel))) rfl
theorem w_473 : Cond.instanceMethod ⟨"LedTables$Asked", "isOldAsked", "(I)Z"⟩ ∈ a_w0 := a_w0_in (List.mem_append_right _ (List.mem_of_getElem? (i := 473) (by decide +kernel))) rfl
theorem w_474 : Cond.selects "LedTables$Asked" ⟨"LedTables$Asked", "isOldAsked", "(I)Z"⟩ ⟨"LedTables$Asked", "isOldAsked", "(I)Z"⟩ ∈ a_w0 := a_w0_in (List.mem_append_right _ (List.mem_of_getElem? (i := 474) (by decide +kernel))) rfl
theorem lv_Tab_67 : a_lv R_Tab 67 M_Ask_isOldAsked 1 := ⟨w_472, w_473, w_474, cm_Ask_isOldAsked⟩
theorem w_476 : Cond.methodLink "LedTables$Asked" 28 ⟨"LedTables$Asked", "oldAskers", "(II)I"⟩ ∈ a_w0 := a_w0_in (List.mem_append_right _ (List.mem_of_getElem? (i := 476) (by decide +kernel))) rfl
theorem w_477 : Cond.instanceMethod ⟨"LedTables$Asked", "oldAskers", "(II)I"⟩ ∈ a_w0 := a_w0_in (List.mem_append_right _ (List.mem_of_getElem? (i := 477) (by decide +kernel))) rfl
theorem w_478 : Cond.selects "LedTables$Asked" ⟨"LedTables$Asked", "oldAskers", "(II)I"⟩ ⟨"LedTables$Asked", "oldAskers", "(II)I"⟩ ∈ a_w0 := a_w0_in (List.mem_append_right _ (List.mem_of_getElem? (i := 478) (by decide +kernel))) rfl
theorem lv_Ask_28 : a_lv R_Ask 28 M_Ask_oldAskers 2 := ⟨w_476, w_477, w_478, cm_Ask_oldAskers⟩
theorem w_480 : Cond.methodLink "LedTables$Asked" 19 ⟨"LedTables$Asked", "latest", "(IIIZ)I"⟩ ∈ a_w0 := a_w0_in (List.mem_append_right _ (List.mem_of_getElem? (i := 480) (by decide +kernel))) rfl
theorem w_481 : Cond.instanceMethod ⟨"LedTables$Asked", "latest", "(IIIZ)I"⟩ ∈ a_w0 := a_w0_in (List.mem_append_right _ (List.mem_of_getElem? (i := 481) (by decide +kernel))) rfl
theorem w_482 : Cond.selects "LedTables$Asked" ⟨"LedTables$Asked", "latest", "(IIIZ)I"⟩ ⟨"LedTables$Asked", "latest", "(IIIZ)I"⟩ ∈ a_w0 := a_w0_in (List.mem_append_right _ (List.mem_of_getElem? (i := 482) (by decide +kernel))) rfl
theorem lv_Ask_19 : a_lv R_Ask 19 M_Ask_latest 4 := ⟨w_480, w_481, w_482, cm_Ask_latest⟩
theorem w_484 : Cond.methodLink "LedTables$Asked" 15 ⟨"LedTables$Asked", "slot", "(IIIZ)I"⟩ ∈ a_w0 := a_w0_in (List.mem_append_right _ (List.mem_of_getElem? (i := 484) (by decide +kernel))) rfl
theorem w_485 : Cond.static ⟨"LedTables$Asked", "slot", "(IIIZ)I"⟩ ∈ a_w0 := a_w0_in (List.mem_append_right _ (List.mem_of_getElem? (i := 485) (by decide +kernel))) rfl
theorem ls_Ask_15 : a_ls R_Ask 15 M_Ask_slot 4 := ⟨w_484, w_485, cm_Ask_slot⟩
theorem w_487 : Cond.methodLink "LedTables$Asked" 22 ⟨"java/lang/Math", "max", "(II)I"⟩ ∈ a_w0 := a_w0_in (List.mem_append_right _ (List.mem_of_getElem? (i := 487) (by decide +kernel))) rfl
theorem mw_Ask_22 : a_mw R_Ask 22 Lib.Math.max.name Lib.Math.max.code := ⟨w_487, w_364, w_15, w_365⟩
theorem w_488 : Cond.methodLink "LedTables$Table" 50 ⟨"LedTables$Table", "dropOldForm", "()V"⟩ ∈ a_w0 := a_w0_in (List.mem_append_right _ (List.mem_of_getElem? (i := 488) (by decide +kernel))) rfl
theorem w_490 : Cond.instanceMethod ⟨"LedTables$Table", "dropOldForm", "()V"⟩ ∈ a_w0 := a_w0_in (List.mem_append_right _ (List.mem_of_getElem? (i := 490) (by decide +kernel))) rfl
theorem ws_9 : Cond.selects "LedTables$Table" ⟨"LedTables$Table", "dropOldForm", "()V"⟩ ⟨"LedTables$Table", "dropOldForm", "()V"⟩ ∈ a_w0 := a_w0_in (List.mem_append_left _ (List.mem_of_getElem? (i := 9) (by decide +kernel))) rfl
theorem lv_Tab_50 : a_lv R_Tab 50 M_Tab_dropOldForm 0 := ⟨w_488, w_490, ws_9, cm_Tab_dropOldForm⟩
theorem w_492 : Cond.methodLink "LedTablesLaw" 208 ⟨"LedTables", "back", "()I"⟩ ∈ a_w0 := a_w0_in (List.mem_append_right _ (List.mem_of_getElem? (i := 492) (by decide +kernel))) rfl
theorem w_493 : Cond.instanceMethod ⟨"LedTables", "back", "()I"⟩ ∈ a_w0 := a_w0_in (List.mem_append_right _ (List.mem_of_getElem? (i := 493) (by decide +kernel))) rfl
theorem w_494 : Cond.selects "LedTables" ⟨"LedTables", "back", "()I"⟩ ⟨"LedTables", "back", "()I"⟩ ∈ a_w0 := a_w0_in (List.mem_append_right _ (List.mem_of_getElem? (i := 494) (by decide +kernel))) rfl
theorem lv_Law_208 : a_lv R_Law 208 M_Led_back 0 := ⟨w_492, w_493, w_494, cm_Led_back⟩
theorem w_496 : Cond.methodLink "LedTables" 228 ⟨"LedTables$Table", "goBack", "()I"⟩ ∈ a_w0 := a_w0_in (List.mem_append_right _ (List.mem_of_getElem? (i := 496) (by decide +kernel))) rfl
theorem w_497 : Cond.instanceMethod ⟨"LedTables$Table", "goBack", "()I"⟩ ∈ a_w0 := a_w0_in (List.mem_append_right _ (List.mem_of_getElem? (i := 497) (by decide +kernel))) rfl
theorem w_498 : Cond.selects "LedTables$Table" ⟨"LedTables$Table", "goBack", "()I"⟩ ⟨"LedTables$Table", "goBack", "()I"⟩ ∈ a_w0 := a_w0_in (List.mem_append_right _ (List.mem_of_getElem? (i := 498) (by decide +kernel))) rfl
theorem lv_Led_228 : a_lv R_Led 228 M_Tab_goBack 0 := ⟨w_496, w_497, w_498, cm_Tab_goBack⟩
theorem w_500 : Cond.methodLink "LedTables$Table" 73 ⟨"LedTables$Table", "dropNewForm", "()V"⟩ ∈ a_w0 := a_w0_in (List.mem_append_right _ (List.mem_of_getElem? (i := 500) (by decide +kernel))) rfl
theorem w_502 : Cond.instanceMethod ⟨"LedTables$Table", "dropNewForm", "()V"⟩ ∈ a_w0 := a_w0_in (List.mem_append_right _ (List.mem_of_getElem? (i := 502) (by decide +kernel))) rfl
theorem ws_10 : Cond.selects "LedTables$Table" ⟨"LedTables$Table", "dropNewForm", "()V"⟩ ⟨"LedTables$Table", "dropNewForm", "()V"⟩ ∈ a_w0 := a_w0_in (List.mem_append_left _ (List.mem_of_getElem? (i := 10) (by decide +kernel))) rfl
theorem lv_Tab_73 : a_lv R_Tab 73 M_Tab_dropNewForm 0 := ⟨w_500, w_502, ws_10, cm_Tab_dropNewForm⟩
theorem w_504 : Cond.methodLink "LedTables$Table" 76 ⟨"LedTables$Row", "heal", "()V"⟩ ∈ a_w0 := a_w0_in (List.mem_append_right _ (List.mem_of_getElem? (i := 504) (by decide +kernel))) rfl
theorem w_505 : Cond.instanceMethod ⟨"LedTables$Row", "heal", "()V"⟩ ∈ a_w0 := a_w0_in (List.mem_append_right _ (List.mem_of_getElem? (i := 505) (by decide +kernel))) rfl
theorem w_506 : Cond.selects "LedTables$Row" ⟨"LedTables$Row", "heal", "()V"⟩ ⟨"LedTables$Row", "heal", "()V"⟩ ∈ a_w0 := a_w0_in (List.mem_append_right _ (List.mem_of_getElem? (i := 506) (by decide +kernel))) rfl
theorem lv_Tab_76 : a_lv R_Tab 76 M_Row_heal 0 := ⟨w_504, w_505, w_506, cm_Row_heal⟩
theorem w_508 : Cond.methodLink "LedTablesLaw" 259 ⟨"LedTables", "count", "(I)I"⟩ ∈ a_w0 := a_w0_in (List.mem_append_right _ (List.mem_of_getElem? (i := 508) (by decide +kernel))) rfl
theorem w_509 : Cond.instanceMethod ⟨"LedTables", "count", "(I)I"⟩ ∈ a_w0 := a_w0_in (List.mem_append_right _ (List.mem_of_getElem? (i := 509) (by decide +kernel))) rfl
theorem w_510 : Cond.selects "LedTables" ⟨"LedTables", "count", "(I)I"⟩ ⟨"LedTables", "count", "(I)I"⟩ ∈ a_w0 := a_w0_in (List.mem_append_right _ (List.mem_of_getElem? (i := 510) (by decide +kernel))) rfl
theorem lv_Law_259 : a_lv R_Law 259 M_Led_count 1 := ⟨w_508, w_509, w_510, cm_Led_count⟩
theorem w_512 : Cond.methodLink "LedTables" 297 ⟨"LedTables$Table", "manyRows", "()I"⟩ ∈ a_w0 := a_w0_in (List.mem_append_right _ (List.mem_of_getElem? (i := 512) (by decide +kernel))) rfl
theorem w_513 : Cond.instanceMethod ⟨"LedTables$Table", "manyRows", "()I"⟩ ∈ a_w0 := a_w0_in (List.mem_append_right _ (List.mem_of_getElem? (i := 513) (by decide +kernel))) rfl
theorem w_514 : Cond.selects "LedTables$Table" ⟨"LedTables$Table", "manyRows", "()I"⟩ ⟨"LedTables$Table", "manyRows", "()I"⟩ ∈ a_w0 := a_w0_in (List.mem_append_right _ (List.mem_of_getElem? (i := 514) (by decide +kernel))) rfl
theorem lv_Led_297 : a_lv R_Led 297 M_Tab_manyRows 0 := ⟨w_512, w_513, w_514, cm_Tab_manyRows⟩
theorem w_516 : Cond.methodLink "LedTables" 302 ⟨"LedTables$Table", "manyOf", "(I)I"⟩ ∈ a_w0 := a_w0_in (List.mem_append_right _ (List.mem_of_getElem? (i := 516) (by decide +kernel))) rfl
theorem lv_Led_302 : a_lv R_Led 302 M_Tab_manyOf 1 := ⟨w_516, w_449, w_450, cm_Tab_manyOf⟩
theorem w_517 : Cond.methodLink "LedTables" 305 ⟨"LedTables$Table", "manyBroken", "()I"⟩ ∈ a_w0 := a_w0_in (List.mem_append_right _ (List.mem_of_getElem? (i := 517) (by decide +kernel))) rfl
theorem lv_Led_305 : a_lv R_Led 305 M_Tab_manyBroken 0 := ⟨w_517, w_453, w_454, cm_Tab_manyBroken⟩
theorem w_518 : Cond.methodLink "LedTables" 308 ⟨"LedTables$Table", "manyOdd", "()I"⟩ ∈ a_w0 := a_w0_in (List.mem_append_right _ (List.mem_of_getElem? (i := 518) (by decide +kernel))) rfl
theorem lv_Led_308 : a_lv R_Led 308 M_Tab_manyOdd 0 := ⟨w_518, w_461, w_462, cm_Tab_manyOdd⟩
theorem w_519 : Cond.methodLink "LedTablesLaw" 126 ⟨"LedTablesLaw", "lens", "(LLedTables;I[J)I"⟩ ∈ a_w0 := a_w0_in (List.mem_append_right _ (List.mem_of_getElem? (i := 519) (by decide +kernel))) rfl
theorem w_520 : Cond.static ⟨"LedTablesLaw", "lens", "(LLedTables;I[J)I"⟩ ∈ a_w0 := a_w0_in (List.mem_append_right _ (List.mem_of_getElem? (i := 520) (by decide +kernel))) rfl
theorem w_521 : Cond.codeWith ⟨"LedTablesLaw", "lens", "(LLedTables;I[J)I"⟩ method_3_code 4 (some .int) [((0), (9), (12), (13)), ((0), (9), (15), (15))] ∈ a_w0 := a_w0_in (List.mem_append_right _ (List.mem_of_getElem? (i := 521) (by decide +kernel))) rfl
theorem lh_Law_126 : a_lh R_Law 126 M_Law_lens 3 := ⟨w_519, w_520, w_521, by decide, w_0, by decide, by decide +kernel, by decide +kernel, by decide +kernel⟩
theorem w_524 : Cond.methodLink "LedTablesLaw" 7 ⟨"LedTables", "lens", "(I)I"⟩ ∈ a_w0 := a_w0_in (List.mem_append_right _ (List.mem_of_getElem? (i := 524) (by decide +kernel))) rfl
theorem w_525 : Cond.instanceMethod ⟨"LedTables", "lens", "(I)I"⟩ ∈ a_w0 := a_w0_in (List.mem_append_right _ (List.mem_of_getElem? (i := 525) (by decide +kernel))) rfl
theorem w_526 : Cond.selects "LedTables" ⟨"LedTables", "lens", "(I)I"⟩ ⟨"LedTables", "lens", "(I)I"⟩ ∈ a_w0 := a_w0_in (List.mem_append_right _ (List.mem_of_getElem? (i := 526) (by decide +kernel))) rfl
theorem lv_Law_7 : a_lv R_Law 7 M_Led_lens 1 := ⟨w_524, w_525, w_526, cm_Led_lens⟩
theorem w_613 : Cond.methodLink "LedTables" 93 ⟨"LedTables$Reader", "readLens", "(I)Z"⟩ ∈ a_w0 := a_w0_in (List.mem_append_right _ (List.mem_of_getElem? (i := 613) (by decide +kernel))) rfl
theorem w_614 : Cond.instanceMethod ⟨"LedTables$Reader", "readLens", "(I)Z"⟩ ∈ a_w0 := a_w0_in (List.mem_append_right _ (List.mem_of_getElem? (i := 614) (by decide +kernel))) rfl
theorem w_615 : Cond.selects "LedTables$Reader" ⟨"LedTables$Reader", "readLens", "(I)Z"⟩ ⟨"LedTables$Reader", "readLens", "(I)Z"⟩ ∈ a_w0 := a_w0_in (List.mem_append_right _ (List.mem_of_getElem? (i := 615) (by decide +kernel))) rfl
theorem lv_Led_93 : a_lv R_Led 93 M_Rea_readLens 1 := ⟨w_613, w_614, w_615, cm_Rea_readLens⟩
theorem w_617 : Cond.methodLink "LedTables$Reader" 19 ⟨"java/lang/Math", "min", "(II)I"⟩ ∈ a_w0 := a_w0_in (List.mem_append_right _ (List.mem_of_getElem? (i := 617) (by decide +kernel))) rfl
theorem mw_Rea_19 : a_mw R_Rea 19 Lib.Math.min.name Lib.Math.min.code := ⟨w_617, w_353, w_15, w_354⟩
theorem w_618 : Cond.methodLink "LedTables$Reader" 41 ⟨"LedTables$Lens", "empty", "()V"⟩ ∈ a_w0 := a_w0_in (List.mem_append_right _ (List.mem_of_getElem? (i := 618) (by decide +kernel))) rfl
theorem w_619 : Cond.instanceMethod ⟨"LedTables$Lens", "empty", "()V"⟩ ∈ a_w0 := a_w0_in (List.mem_append_right _ (List.mem_of_getElem? (i := 619) (by decide +kernel))) rfl
theorem w_620 : Cond.selects "LedTables$Lens" ⟨"LedTables$Lens", "empty", "()V"⟩ ⟨"LedTables$Lens", "empty", "()V"⟩ ∈ a_w0 := a_w0_in (List.mem_append_right _ (List.mem_of_getElem? (i := 620) (by decide +kernel))) rfl
theorem lv_Rea_41 : a_lv R_Rea 41 M_Len_empty 0 := ⟨w_618, w_619, w_620, cm_Len_empty⟩
theorem w_622 : Cond.methodLink "LedTables$Reader" 46 ⟨"LedTables$Reader", "skipBlanks", "()V"⟩ ∈ a_w0 := a_w0_in (List.mem_append_right _ (List.mem_of_getElem? (i := 622) (by decide +kernel))) rfl
theorem w_624 : Cond.instanceMethod ⟨"LedTables$Reader", "skipBlanks", "()V"⟩ ∈ a_w0 := a_w0_in (List.mem_append_right _ (List.mem_of_getElem? (i := 624) (by decide +kernel))) rfl
theorem ws_12 : Cond.selects "LedTables$Reader" ⟨"LedTables$Reader", "skipBlanks", "()V"⟩ ⟨"LedTables$Reader", "skipBlanks", "()V"⟩ ∈ a_w0 := a_w0_in (List.mem_append_left _ (List.mem_of_getElem? (i := 12) (by decide +kernel))) rfl
theorem lv_Rea_46 : a_lv R_Rea 46 M_Rea_skipBlanks 0 := ⟨w_622, w_624, ws_12, cm_Rea_skipBlanks⟩
theorem w_626 : Cond.methodLink "LedTables$Reader" 49 ⟨"LedTables$Reader", "readClause", "()Z"⟩ ∈ a_w0 := a_w0_in (List.mem_append_right _ (List.mem_of_getElem? (i := 626) (by decide +kernel))) rfl
theorem w_628 : Cond.instanceMethod ⟨"LedTables$Reader", "readClause", "()Z"⟩ ∈ a_w0 := a_w0_in (List.mem_append_right _ (List.mem_of_getElem? (i := 628) (by decide +kernel))) rfl
theorem ws_13 : Cond.selects "LedTables$Reader" ⟨"LedTables$Reader", "readClause", "()Z"⟩ ⟨"LedTables$Reader", "readClause", "()Z"⟩ ∈ a_w0 := a_w0_in (List.mem_append_left _ (List.mem_of_getElem? (i := 13) (by decide +kernel))) rfl
theorem lv_Rea_49 : a_lv R_Rea 49 M_Rea_readClause 0 := ⟨w_626, w_628, ws_13, cm_Rea_readClause⟩
theorem w_630 : Cond.methodLink "LedTables$Reader" 57 ⟨"LedTables$Reader", "letterHere", "()I"⟩ ∈ a_w0 := a_w0_in (List.mem_append_right _ (List.mem_of_getElem? (i := 630) (by decide +kernel))) rfl
theorem w_632 : Cond.instanceMethod ⟨"LedTables$Reader", "letterHere", "()I"⟩ ∈ a_w0 := a_w0_in (List.mem_append_right _ (List.mem_of_getElem? (i := 632) (by decide +kernel))) rfl
theorem ws_14 : Cond.selects "LedTables$Reader" ⟨"LedTables$Reader", "letterHere", "()I"⟩ ⟨"LedTables$Reader", "letterHere", "()I"⟩ ∈ a_w0 := a_w0_in (List.mem_append_left _ (List.mem_of_getElem? (i := 14) (by decide +kernel))) rfl
theorem lv_Rea_57 : a_lv R_Rea 57 M_Rea_letterHere 0 := ⟨w_630, w_632, ws_14, cm_Rea_letterHere⟩
theorem w_634 : Cond.methodLink "LedTables$Reader" 121 ⟨"LedTables$Reader", "byteAt", "(I)I"⟩ ∈ a_w0 := a_w0_in (List.mem_append_right _ (List.mem_of_getElem? (i := 634) (by decide +kernel))) rfl
theorem w_636 : Cond.instanceMethod ⟨"LedTables$Reader", "byteAt", "(I)I"⟩ ∈ a_w0 := a_w0_in (List.mem_append_right _ (List.mem_of_getElem? (i := 636) (by decide +kernel))) rfl
theorem ws_15 : Cond.selects "LedTables$Reader" ⟨"LedTables$Reader", "byteAt", "(I)I"⟩ ⟨"LedTables$Reader", "byteAt", "(I)I"⟩ ∈ a_w0 := a_w0_in (List.mem_append_left _ (List.mem_of_getElem? (i := 15) (by decide +kernel))) rfl
theorem lv_Rea_121 : a_lv R_Rea 121 M_Rea_byteAt 1 := ⟨w_634, w_636, ws_15, cm_Rea_byteAt⟩
theorem w_638 : Cond.methodLink "LedTables$Reader" 181 ⟨"LedTables$Reader", "isSmall", "(I)Z"⟩ ∈ a_w0 := a_w0_in (List.mem_append_right _ (List.mem_of_getElem? (i := 638) (by decide +kernel))) rfl
theorem w_639 : Cond.static ⟨"LedTables$Reader", "isSmall", "(I)Z"⟩ ∈ a_w0 := a_w0_in (List.mem_append_right _ (List.mem_of_getElem? (i := 639) (by decide +kernel))) rfl
theorem ls_Rea_181 : a_ls R_Rea 181 M_Rea_isSmall 1 := ⟨w_638, w_639, cm_Rea_isSmall⟩
theorem w_641 : Cond.methodLink "LedTables$Reader" 184 ⟨"LedTables$Reader", "isCapital", "(I)Z"⟩ ∈ a_w0 := a_w0_in (List.mem_append_right _ (List.mem_of_getElem? (i := 641) (by decide +kernel))) rfl
theorem w_642 : Cond.static ⟨"LedTables$Reader", "isCapital", "(I)Z"⟩ ∈ a_w0 := a_w0_in (List.mem_append_right _ (List.mem_of_getElem? (i := 642) (by decide +kernel))) rfl
theorem ls_Rea_184 : a_ls R_Rea 184 M_Rea_isCapital 1 := ⟨w_641, w_642, cm_Rea_isCapital⟩
theorem w_645 : Cond.methodLink "LedTables$Reader" 63 ⟨"LedTables$Reader", "isWord", "(Ljava/lang/String;)Z"⟩ ∈ a_w0 := a_w0_in (List.mem_append_right _ (List.mem_of_getElem? (i := 645) (by decide +kernel))) rfl
theorem w_647 : Cond.instanceMethod ⟨"LedTables$Reader", "isWord", "(Ljava/lang/String;)Z"⟩ ∈ a_w0 := a_w0_in (List.mem_append_right _ (List.mem_of_getElem? (i := 647) (by decide +kernel))) rfl
theorem ws_16 : Cond.selects "LedTables$Reader" ⟨"LedTables$Reader", "isWord", "(Ljava/lang/String;)Z"⟩ ⟨"LedTables$Reader", "isWord", "(Ljava/lang/String;)Z"⟩ ∈ a_w0 := a_w0_in (List.mem_append_left _ (List.mem_of_getElem? (i := 16) (by decide +kernel))) rfl
theorem lv_Rea_63 : a_lv R_Rea 63 M_Rea_isWord 1 := ⟨w_645, w_647, ws_16, cm_Rea_isWord⟩
theorem w_698 : Cond.methodLink "LedTables$Reader" 53 ⟨"LedTables$Reader", "fail", "(I)Z"⟩ ∈ a_w0 := a_w0_in (List.mem_append_right _ (List.mem_of_getElem? (i := 698) (by decide +kernel))) rfl
theorem w_700 : Cond.instanceMethod ⟨"LedTables$Reader", "fail", "(I)Z"⟩ ∈ a_w0 := a_w0_in (List.mem_append_right _ (List.mem_of_getElem? (i := 700) (by decide +kernel))) rfl
theorem ws_17 : Cond.selects "LedTables$Reader" ⟨"LedTables$Reader", "fail", "(I)Z"⟩ ⟨"LedTables$Reader", "fail", "(I)Z"⟩ ∈ a_w0 := a_w0_in (List.mem_append_left _ (List.mem_of_getElem? (i := 17) (by decide +kernel))) rfl
theorem lv_Rea_53 : a_lv R_Rea 53 M_Rea_fail 1 := ⟨w_698, w_700, ws_17, cm_Rea_fail⟩
theorem w_702 : Cond.methodLink "LedTables$Reader" 76 ⟨"LedTables$Reader", "readKeep", "()Z"⟩ ∈ a_w0 := a_w0_in (List.mem_append_right _ (List.mem_of_getElem? (i := 702) (by decide +kernel))) rfl
theorem w_704 : Cond.instanceMethod ⟨"LedTables$Reader", "readKeep", "()Z"⟩ ∈ a_w0 := a_w0_in (List.mem_append_right _ (List.mem_of_getElem? (i := 704) (by decide +kernel))) rfl
theorem ws_18 : Cond.selects "LedTables$Reader" ⟨"LedTables$Reader", "readKeep", "()Z"⟩ ⟨"LedTables$Reader", "readKeep", "()Z"⟩ ∈ a_w0 := a_w0_in (List.mem_append_left _ (List.mem_of_getElem? (i := 18) (by decide +kernel))) rfl
theorem lv_Rea_76 : a_lv R_Rea 76 M_Rea_readKeep 0 := ⟨w_702, w_704, ws_18, cm_Rea_readKeep⟩
theorem w_706 : Cond.methodLink "LedTables$Reader" 89 ⟨"LedTables$Lens", "keepLetter", "(I)V"⟩ ∈ a_w0 := a_w0_in (List.mem_append_right _ (List.mem_of_getElem? (i := 706) (by decide +kernel))) rfl
theorem w_707 : Cond.instanceMethod ⟨"LedTables$Lens", "keepLetter", "(I)V"⟩ ∈ a_w0 := a_w0_in (List.mem_append_right _ (List.mem_of_getElem? (i := 707) (by decide +kernel))) rfl
theorem w_708 : Cond.selects "LedTables$Lens" ⟨"LedTables$Lens", "keepLetter", "(I)V"⟩ ⟨"LedTables$Lens", "keepLetter", "(I)V"⟩ ∈ a_w0 := a_w0_in (List.mem_append_right _ (List.mem_of_getElem? (i := 708) (by decide +kernel))) rfl
theorem lv_Rea_89 : a_lv R_Rea 89 M_Len_keepLetter 1 := ⟨w_706, w_707, w_708, cm_Len_keepLetter⟩
theorem w_710 : Cond.methodLink "LedTables$Reader" 79 ⟨"LedTables$Reader", "readSign", "(C)Z"⟩ ∈ a_w0 := a_w0_in (List.mem_append_right _ (List.mem_of_getElem? (i := 710) (by decide +kernel))) rfl
theorem w_712 : Cond.instanceMethod ⟨"LedTables$Reader", "readSign", "(C)Z"⟩ ∈ a_w0 := a_w0_in (List.mem_append_right _ (List.mem_of_getElem? (i := 712) (by decide +kernel))) rfl
theorem ws_19 : Cond.selects "LedTables$Reader" ⟨"LedTables$Reader", "readSign", "(C)Z"⟩ ⟨"LedTables$Reader", "readSign", "(C)Z"⟩ ∈ a_w0 := a_w0_in (List.mem_append_left _ (List.mem_of_getElem? (i := 19) (by decide +kernel))) rfl
theorem lv_Rea_79 : a_lv R_Rea 79 M_Rea_readSign 1 := ⟨w_710, w_712, ws_19, cm_Rea_readSign⟩
theorem w_714 : Cond.methodLink "LedTables$Reader" 112 ⟨"LedTables$Reader", "isSign", "(C)Z"⟩ ∈ a_w0 := a_w0_in (List.mem_append_right _ (List.mem_of_getElem? (i := 714) (by decide +kernel))) rfl
theorem w_716 : Cond.instanceMethod ⟨"LedTables$Reader", "isSign", "(C)Z"⟩ ∈ a_w0 := a_w0_in (List.mem_append_right _ (List.mem_of_getElem? (i := 716) (by decide +kernel))) rfl
theorem ws_20 : Cond.selects "LedTables$Reader" ⟨"LedTables$Reader", "isSign", "(C)Z"⟩ ⟨"LedTables$Reader", "isSign", "(C)Z"⟩ ∈ a_w0 := a_w0_in (List.mem_append_left _ (List.mem_of_getElem? (i := 20) (by decide +kernel))) rfl
theorem lv_Rea_112 : a_lv R_Rea 112 M_Rea_isSign 1 := ⟨w_714, w_716, ws_20, cm_Rea_isSign⟩
theorem w_718 : Cond.methodLink "LedTables$Reader" 83 ⟨"LedTables$Reader", "readLaw", "()Z"⟩ ∈ a_w0 := a_w0_in (List.mem_append_right _ (List.mem_of_getElem? (i := 718) (by decide +kernel))) rfl
theorem w_720 : Cond.instanceMethod ⟨"LedTables$Reader", "readLaw", "()Z"⟩ ∈ a_w0 := a_w0_in (List.mem_append_right _ (List.mem_of_getElem? (i := 720) (by decide +kernel))) rfl
theorem ws_21 : Cond.selects "LedTables$Reader" ⟨"LedTables$Reader", "readLaw", "()Z"⟩ ⟨"LedTables$Reader", "readLaw", "()Z"⟩ ∈ a_w0 := a_w0_in (List.mem_append_left _ (List.mem_of_getElem? (i := 21) (by decide +kernel))) rfl
theorem lv_Rea_83 : a_lv R_Rea 83 M_Rea_readLaw 0 := ⟨w_718, w_720, ws_21, cm_Rea_readLaw⟩
theorem w_722 : Cond.methodLink "LedTables$Reader" 93 ⟨"LedTables$Lens", "here", "()I"⟩ ∈ a_w0 := a_w0_in (List.mem_append_right _ (List.mem_of_getElem? (i := 722) (by decide +kernel))) rfl
theorem w_723 : Cond.instanceMethod ⟨"LedTables$Lens", "here", "()I"⟩ ∈ a_w0 := a_w0_in (List.mem_append_right _ (List.mem_of_getElem? (i := 723) (by decide +kernel))) rfl
theorem w_724 : Cond.selects "LedTables$Lens" ⟨"LedTables$Lens", "here", "()I"⟩ ⟨"LedTables$Lens", "here", "()I"⟩ ∈ a_w0 := a_w0_in (List.mem_append_right _ (List.mem_of_getElem? (i := 724) (by decide +kernel))) rfl
theorem lv_Rea_93 : a_lv R_Rea 93 M_Len_here 0 := ⟨w_722, w_723, w_724, cm_Len_here⟩
theorem w_726 : Cond.methodLink "LedTables$Reader" 96 ⟨"LedTables$Reader", "readAny", "()Z"⟩ ∈ a_w0 := a_w0_in (List.mem_append_right _ (List.mem_of_getElem? (i := 726) (by decide +kernel))) rfl
theorem w_728 : Cond.instanceMethod ⟨"LedTables$Reader", "readAny", "()Z"⟩ ∈ a_w0 := a_w0_in (List.mem_append_right _ (List.mem_of_getElem? (i := 728) (by decide +kernel))) rfl
theorem ws_22 : Cond.selects "LedTables$Reader" ⟨"LedTables$Reader", "readAny", "()Z"⟩ ⟨"LedTables$Reader", "readAny", "()Z"⟩ ∈ a_w0 := a_w0_in (List.mem_append_left _ (List.mem_of_getElem? (i := 22) (by decide +kernel))) rfl
theorem lv_Rea_96 : a_lv R_Rea 96 M_Rea_readAny 0 := ⟨w_726, w_728, ws_22, cm_Rea_readAny⟩
theorem w_730 : Cond.methodLink "LedTables$Reader" 155 ⟨"LedTables$Reader", "readAll", "()Z"⟩ ∈ a_w0 := a_w0_in (List.mem_append_right _ (List.mem_of_getElem? (i := 730) (by decide +kernel))) rfl
theorem w_732 : Cond.instanceMethod ⟨"LedTables$Reader", "readAll", "()Z"⟩ ∈ a_w0 := a_w0_in (List.mem_append_right _ (List.mem_of_getElem? (i := 732) (by decide +kernel))) rfl
theorem ws_23 : Cond.selects "LedTables$Reader" ⟨"LedTables$Reader", "readAll", "()Z"⟩ ⟨"LedTables$Reader", "readAll", "()Z"⟩ ∈ a_w0 := a_w0_in (List.mem_append_left _ (List.mem_of_getElem? (i := 23) (by decide +kernel))) rfl
theorem lv_Rea_155 : a_lv R_Rea 155 M_Rea_readAll 0 := ⟨w_730, w_732, ws_23, cm_Rea_readAll⟩
theorem w_734 : Cond.methodLink "LedTables$Reader" 160 ⟨"LedTables$Reader", "readTest", "()Z"⟩ ∈ a_w0 := a_w0_in (List.mem_append_right _ (List.mem_of_getElem? (i := 734) (by decide +kernel))) rfl
theorem w_736 : Cond.instanceMethod ⟨"LedTables$Reader", "readTest", "()Z"⟩ ∈ a_w0 := a_w0_in (List.mem_append_right _ (List.mem_of_getElem? (i := 736) (by decide +kernel))) rfl
theorem ws_24 : Cond.selects "LedTables$Reader" ⟨"LedTables$Reader", "readTest", "()Z"⟩ ⟨"LedTables$Reader", "readTest", "()Z"⟩ ∈ a_w0 := a_w0_in (List.mem_append_left _ (List.mem_of_getElem? (i := 24) (by decide +kernel))) rfl
theorem lv_Rea_160 : a_lv R_Rea 160 M_Rea_readTest 0 := ⟨w_734, w_736, ws_24, cm_Rea_readTest⟩
theorem w_739 : Cond.methodLink "LedTables$Reader" 167 ⟨"LedTables$Reader", "readNot", "()Z"⟩ ∈ a_w0 := a_w0_in (List.mem_append_right _ (List.mem_of_getElem? (i := 739) (by decide +kernel))) rfl
theorem w_741 : Cond.instanceMethod ⟨"LedTables$Reader", "readNot", "()Z"⟩ ∈ a_w0 := a_w0_in (List.mem_append_right _ (List.mem_of_getElem? (i := 741) (by decide +kernel))) rfl
theorem ws_25 : Cond.selects "LedTables$Reader" ⟨"LedTables$Reader", "readNot", "()Z"⟩ ⟨"LedTables$Reader", "readNot", "()Z"⟩ ∈ a_w0 := a_w0_in (List.mem_append_left _ (List.mem_of_getElem? (i := 25) (by decide +kernel))) rfl
theorem lv_Rea_167 : a_lv R_Rea 167 M_Rea_readNot 0 := ⟨w_739, w_741, ws_25, cm_Rea_readNot⟩
theorem w_743 : Cond.methodLink "LedTables$Reader" 115 ⟨"LedTables$Lens", "addOrder", "(II)I"⟩ ∈ a_w0 := a_w0_in (List.mem_append_right _ (List.mem_of_getElem? (i := 743) (by decide +kernel))) rfl
theorem lv_Rea_115 : a_lv R_Rea 115 M_Len_addOrder 2 := ⟨w_743, w_40, w_41, cm_Len_addOrder⟩
theorem w_744 : Cond.methodLink "LedTables$Reader" 134 ⟨"LedTables$Reader", "readOpening", "(C)Z"⟩ ∈ a_w0 := a_w0_in (List.mem_append_right _ (List.mem_of_getElem? (i := 744) (by decide +kernel))) rfl
theorem w_746 : Cond.instanceMethod ⟨"LedTables$Reader", "readOpening", "(C)Z"⟩ ∈ a_w0 := a_w0_in (List.mem_append_right _ (List.mem_of_getElem? (i := 746) (by decide +kernel))) rfl
theorem ws_26 : Cond.selects "LedTables$Reader" ⟨"LedTables$Reader", "readOpening", "(C)Z"⟩ ⟨"LedTables$Reader", "readOpening", "(C)Z"⟩ ∈ a_w0 := a_w0_in (List.mem_append_left _ (List.mem_of_getElem? (i := 26) (by decide +kernel))) rfl
theorem lv_Rea_134 : a_lv R_Rea 134 M_Rea_readOpening 1 := ⟨w_744, w_746, ws_26, cm_Rea_readOpening⟩
theorem w_748 : Cond.methodLink "LedTables$Reader" 137 ⟨"LedTables$Reader", "readClosing", "(C)Z"⟩ ∈ a_w0 := a_w0_in (List.mem_append_right _ (List.mem_of_getElem? (i := 748) (by decide +kernel))) rfl
theorem w_750 : Cond.instanceMethod ⟨"LedTables$Reader", "readClosing", "(C)Z"⟩ ∈ a_w0 := a_w0_in (List.mem_append_right _ (List.mem_of_getElem? (i := 750) (by decide +kernel))) rfl
theorem ws_27 : Cond.selects "LedTables$Reader" ⟨"LedTables$Reader", "readClosing", "(C)Z"⟩ ⟨"LedTables$Reader", "readClosing", "(C)Z"⟩ ∈ a_w0 := a_w0_in (List.mem_append_left _ (List.mem_of_getElem? (i := 27) (by decide +kernel))) rfl
theorem lv_Rea_137 : a_lv R_Rea 137 M_Rea_readClosing 1 := ⟨w_748, w_750, ws_27, cm_Rea_readClosing⟩
theorem w_752 : Cond.methodLink "LedTables$Reader" 170 ⟨"LedTables$Reader", "readComparison", "()Z"⟩ ∈ a_w0 := a_w0_in (List.mem_append_right _ (List.mem_of_getElem? (i := 752) (by decide +kernel))) rfl
theorem w_754 : Cond.instanceMethod ⟨"LedTables$Reader", "readComparison", "()Z"⟩ ∈ a_w0 := a_w0_in (List.mem_append_right _ (List.mem_of_getElem? (i := 754) (by decide +kernel))) rfl
theorem ws_28 : Cond.selects "LedTables$Reader" ⟨"LedTables$Reader", "readComparison", "()Z"⟩ ⟨"LedTables$Reader", "readComparison", "()Z"⟩ ∈ a_w0 := a_w0_in (List.mem_append_left _ (List.mem_of_getElem? (i := 28) (by decide +kernel))) rfl
theorem lv_Rea_170 : a_lv R_Rea 170 M_Rea_readComparison 0 := ⟨w_752, w_754, ws_28, cm_Rea_readComparison⟩
theorem w_756 : Cond.methodLink "LedTables$Reader" 102 ⟨"LedTables$Reader", "readSum", "()Z"⟩ ∈ a_w0 := a_w0_in (List.mem_append_right _ (List.mem_of_getElem? (i := 756) (by decide +kernel))) rfl
theorem w_758 : Cond.instanceMethod ⟨"LedTables$Reader", "readSum", "()Z"⟩ ∈ a_w0 := a_w0_in (List.mem_append_right _ (List.mem_of_getElem? (i := 758) (by decide +kernel))) rfl
theorem ws_29 : Cond.selects "LedTables$Reader" ⟨"LedTables$Reader", "readSum", "()Z"⟩ ⟨"LedTables$Reader", "readSum", "()Z"⟩ ∈ a_w0 := a_w0_in (List.mem_append_left _ (List.mem_of_getElem? (i := 29) (by decide +kernel))) rfl
theorem lv_Rea_102 : a_lv R_Rea 102 M_Rea_readSum 0 := ⟨w_756, w_758, ws_29, cm_Rea_readSum⟩
theorem w_760 : Cond.methodLink "LedTables$Reader" 109 ⟨"LedTables$Reader", "readProduct", "()Z"⟩ ∈ a_w0 := a_w0_in (List.mem_append_right _ (List.mem_of_getElem? (i := 760) (by decide +kernel))) rfl
theorem w_762 : Cond.instanceMethod ⟨"LedTables$Reader", "readProduct", "()Z"⟩ ∈ a_w0 := a_w0_in (List.mem_append_right _ (List.mem_of_getElem? (i := 762) (by decide +kernel))) rfl
theorem ws_30 : Cond.selects "LedTables$Reader" ⟨"LedTables$Reader", "readProduct", "()Z"⟩ ⟨"LedTables$Reader", "readProduct", "()Z"⟩ ∈ a_w0 := a_w0_in (List.mem_append_left _ (List.mem_of_getElem? (i := 30) (by decide +kernel))) rfl
theorem lv_Rea_109 : a_lv R_Rea 109 M_Rea_readProduct 0 := ⟨w_760, w_762, ws_30, cm_Rea_readProduct⟩
theorem w_764 : Cond.methodLink "LedTables$Reader" 118 ⟨"LedTables$Reader", "readUnit", "()Z"⟩ ∈ a_w0 := a_w0_in (List.mem_append_right _ (List.mem_of_getElem? (i := 764) (by decide +kernel))) rfl
theorem w_766 : Cond.instanceMethod ⟨"LedTables$Reader", "readUnit", "()Z"⟩ ∈ a_w0 := a_w0_in (List.mem_append_right _ (List.mem_of_getElem? (i := 766) (by decide +kernel))) rfl
theorem ws_31 : Cond.selects "LedTables$Reader" ⟨"LedTables$Reader", "readUnit", "()Z"⟩ ⟨"LedTables$Reader", "readUnit", "()Z"⟩ ∈ a_w0 := a_w0_in (List.mem_append_left _ (List.mem_of_getElem? (i := 31) (by decide +kernel))) rfl
theorem lv_Rea_118 : a_lv R_Rea 118 M_Rea_readUnit 0 := ⟨w_764, w_766, ws_31, cm_Rea_readUnit⟩
theorem w_768 : Cond.methodLink "LedTables$Reader" 125 ⟨"LedTables$Reader", "isDigit", "(I)Z"⟩ ∈ a_w0 := a_w0_in (List.mem_append_right _ (List.mem_of_getElem? (i := 768) (by decide +kernel))) rfl
theorem w_769 : Cond.static ⟨"LedTables$Reader", "isDigit", "(I)Z"⟩ ∈ a_w0 := a_w0_in (List.mem_append_right _ (List.mem_of_getElem? (i := 769) (by decide +kernel))) rfl
theorem ls_Rea_125 : a_ls R_Rea 125 M_Rea_isDigit 1 := ⟨w_768, w_769, cm_Rea_isDigit⟩
theorem w_771 : Cond.methodLink "LedTables$Reader" 128 ⟨"LedTables$Reader", "readNumber", "()Z"⟩ ∈ a_w0 := a_w0_in (List.mem_append_right _ (List.mem_of_getElem? (i := 771) (by decide +kernel))) rfl
theorem w_773 : Cond.instanceMethod ⟨"LedTables$Reader", "readNumber", "()Z"⟩ ∈ a_w0 := a_w0_in (List.mem_append_right _ (List.mem_of_getElem? (i := 773) (by decide +kernel))) rfl
theorem ws_32 : Cond.selects "LedTables$Reader" ⟨"LedTables$Reader", "readNumber", "()Z"⟩ ⟨"LedTables$Reader", "readNumber", "()Z"⟩ ∈ a_w0 := a_w0_in (List.mem_append_left _ (List.mem_of_getElem? (i := 32) (by decide +kernel))) rfl
theorem lv_Rea_128 : a_lv R_Rea 128 M_Rea_readNumber 0 := ⟨w_771, w_773, ws_32, cm_Rea_readNumber⟩
theorem w_775 : Cond.methodLink "LedTables$Reader" 131 ⟨"LedTables$Reader", "readOperand", "(I)Z"⟩ ∈ a_w0 := a_w0_in (List.mem_append_right _ (List.mem_of_getElem? (i := 775) (by decide +kernel))) rfl
theorem w_777 : Cond.instanceMethod ⟨"LedTables$Reader", "readOperand", "(I)Z"⟩ ∈ a_w0 := a_w0_in (List.mem_append_right _ (List.mem_of_getElem? (i := 777) (by decide +kernel))) rfl
theorem ws_33 : Cond.selects "LedTables$Reader" ⟨"LedTables$Reader", "readOperand", "(I)Z"⟩ ⟨"LedTables$Reader", "readOperand", "(I)Z"⟩ ∈ a_w0 := a_w0_in (List.mem_append_left _ (List.mem_of_getElem? (i := 33) (by decide +kernel))) rfl
theorem lv_Rea_131 : a_lv R_Rea 131 M_Rea_readOperand 1 := ⟨w_775, w_777, ws_33, cm_Rea_readOperand⟩
theorem w_780 : Cond.methodLink "LedTables$Reader" 142 ⟨"LedTables$Reader", "readPair", "(I)Z"⟩ ∈ a_w0 := a_w0_in (List.mem_append_right _ (List.mem_of_getElem? (i := 780) (by decide +kernel))) rfl
theorem w_782 : Cond.instanceMethod ⟨"LedTables$Reader", "readPair", "(I)Z"⟩ ∈ a_w0 := a_w0_in (List.mem_append_right _ (List.mem_of_getElem? (i := 782) (by decide +kernel))) rfl
theorem ws_34 : Cond.selects "LedTables$Reader" ⟨"LedTables$Reader", "readPair", "(I)Z"⟩ ⟨"LedTables$Reader", "readPair", "(I)Z"⟩ ∈ a_w0 := a_w0_in (List.mem_append_left _ (List.mem_of_getElem? (i := 34) (by decide +kernel))) rfl
theorem lv_Rea_142 : a_lv R_Rea 142 M_Rea_readPair 1 := ⟨w_780, w_782, ws_34, cm_Rea_readPair⟩
theorem w_786 : Cond.methodLink "LedTables$Reader" 149 ⟨"LedTables$Reader", "readIf", "()Z"⟩ ∈ a_w0 := a_w0_in (List.mem_append_right _ (List.mem_of_getElem? (i := 786) (by decide +kernel))) rfl
theorem w_788 : Cond.instanceMethod ⟨"LedTables$Reader", "readIf", "()Z"⟩ ∈ a_w0 := a_w0_in (List.mem_append_right _ (List.mem_of_getElem? (i := 788) (by decide +kernel))) rfl
theorem ws_35 : Cond.selects "LedTables$Reader" ⟨"LedTables$Reader", "readIf", "()Z"⟩ ⟨"LedTables$Reader", "readIf", "()Z"⟩ ∈ a_w0 := a_w0_in (List.mem_append_left _ (List.mem_of_getElem? (i := 35) (by decide +kernel))) rfl
theorem lv_Rea_149 : a_lv R_Rea 149 M_Rea_readIf 0 := ⟨w_786, w_788, ws_35, cm_Rea_readIf⟩
theorem w_790 : Cond.methodLink "LedTables$Reader" 152 ⟨"LedTables$Lens", "jumpHere", "(I)V"⟩ ∈ a_w0 := a_w0_in (List.mem_append_right _ (List.mem_of_getElem? (i := 790) (by decide +kernel))) rfl
theorem w_791 : Cond.instanceMethod ⟨"LedTables$Lens", "jumpHere", "(I)V"⟩ ∈ a_w0 := a_w0_in (List.mem_append_right _ (List.mem_of_getElem? (i := 791) (by decide +kernel))) rfl
theorem w_792 : Cond.selects "LedTables$Lens" ⟨"LedTables$Lens", "jumpHere", "(I)V"⟩ ⟨"LedTables$Lens", "jumpHere", "(I)V"⟩ ∈ a_w0 := a_w0_in (List.mem_append_right _ (List.mem_of_getElem? (i := 792) (by decide +kernel))) rfl
theorem lv_Rea_152 : a_lv R_Rea 152 M_Len_jumpHere 1 := ⟨w_790, w_791, w_792, cm_Len_jumpHere⟩
theorem w_796 : Cond.methodLink "LedTables$Reader" 99 ⟨"LedTables$Lens", "endLaw", "(I)V"⟩ ∈ a_w0 := a_w0_in (List.mem_append_right _ (List.mem_of_getElem? (i := 796) (by decide +kernel))) rfl
theorem w_797 : Cond.instanceMethod ⟨"LedTables$Lens", "endLaw", "(I)V"⟩ ∈ a_w0 := a_w0_in (List.mem_append_right _ (List.mem_of_getElem? (i := 797) (by decide +kernel))) rfl
theorem w_798 : Cond.selects "LedTables$Lens" ⟨"LedTables$Lens", "endLaw", "(I)V"⟩ ⟨"LedTables$Lens", "endLaw", "(I)V"⟩ ∈ a_w0 := a_w0_in (List.mem_append_right _ (List.mem_of_getElem? (i := 798) (by decide +kernel))) rfl
theorem lv_Rea_99 : a_lv R_Rea 99 M_Len_endLaw 1 := ⟨w_796, w_797, w_798, cm_Len_endLaw⟩
theorem w_800 : Cond.methodLink "LedTables$Reader" 86 ⟨"LedTables$Reader", "readEquals", "(I)Z"⟩ ∈ a_w0 := a_w0_in (List.mem_append_right _ (List.mem_of_getElem? (i := 800) (by decide +kernel))) rfl
theorem w_802 : Cond.instanceMethod ⟨"LedTables$Reader", "readEquals", "(I)Z"⟩ ∈ a_w0 := a_w0_in (List.mem_append_right _ (List.mem_of_getElem? (i := 802) (by decide +kernel))) rfl
theorem ws_36 : Cond.selects "LedTables$Reader" ⟨"LedTables$Reader", "readEquals", "(I)Z"⟩ ⟨"LedTables$Reader", "readEquals", "(I)Z"⟩ ∈ a_w0 := a_w0_in (List.mem_append_left _ (List.mem_of_getElem? (i := 36) (by decide +kernel))) rfl
theorem lv_Rea_86 : a_lv R_Rea 86 M_Rea_readEquals 1 := ⟨w_800, w_802, ws_36, cm_Rea_readEquals⟩
theorem w_804 : Cond.methodLink "LedTables$Reader" 105 ⟨"LedTables$Lens", "endLetter", "(II)V"⟩ ∈ a_w0 := a_w0_in (List.mem_append_right _ (List.mem_of_getElem? (i := 804) (by decide +kernel))) rfl
theorem w_805 : Cond.instanceMethod ⟨"LedTables$Lens", "endLetter", "(II)V"⟩ ∈ a_w0 := a_w0_in (List.mem_append_right _ (List.mem_of_getElem? (i := 805) (by decide +kernel))) rfl
theorem w_806 : Cond.selects "LedTables$Lens" ⟨"LedTables$Lens", "endLetter", "(II)V"⟩ ⟨"LedTables$Lens", "endLetter", "(II)V"⟩ ∈ a_w0 := a_w0_in (List.mem_append_right _ (List.mem_of_getElem? (i := 806) (by decide +kernel))) rfl
theorem lv_Rea_105 : a_lv R_Rea 105 M_Len_endLetter 2 := ⟨w_804, w_805, w_806, cm_Len_endLetter⟩
theorem w_808 : Cond.methodLink "LedTables" 106 ⟨"LedTables$Lens", "become", "(LLedTables$Lens;)V"⟩ ∈ a_w0 := a_w0_in (List.mem_append_right _ (List.mem_of_getElem? (i := 808) (by decide +kernel))) rfl
theorem w_809 : Cond.instanceMethod ⟨"LedTables$Lens", "become", "(LLedTables$Lens;)V"⟩ ∈ a_w0 := a_w0_in (List.mem_append_right _ (List.mem_of_getElem? (i := 809) (by decide +kernel))) rfl
theorem w_810 : Cond.selects "LedTables$Lens" ⟨"LedTables$Lens", "become", "(LLedTables$Lens;)V"⟩ ⟨"LedTables$Lens", "become", "(LLedTables$Lens;)V"⟩ ∈ a_w0 := a_w0_in (List.mem_append_right _ (List.mem_of_getElem? (i := 810) (by decide +kernel))) rfl
theorem lv_Led_106 : a_lv R_Led 106 M_Len_become 1 := ⟨w_808, w_809, w_810, cm_Len_become⟩
theorem w_812 : Cond.methodLink "LedTables$Lens" 51 ⟨"java/lang/System", "arraycopy", "(Ljava/lang/Object;ILjava/lang/Object;II)V"⟩ ∈ a_w0 := a_w0_in (List.mem_append_right _ (List.mem_of_getElem? (i := 812) (by decide +kernel))) rfl
theorem yw_Len_51 : a_yw R_Len 51 := ⟨w_812, w_394, w_393, w_20⟩
theorem w_813 : Cond.methodLink "LedTablesLaw" 140 ⟨"LedTablesLaw", "see", "(LLedTables;IIIII[J)I"⟩ ∈ a_w0 := a_w0_in (List.mem_append_right _ (List.mem_of_getElem? (i := 813) (by decide +kernel))) rfl
theorem w_814 : Cond.static ⟨"LedTablesLaw", "see", "(LLedTables;IIIII[J)I"⟩ ∈ a_w0 := a_w0_in (List.mem_append_right _ (List.mem_of_getElem? (i := 814) (by decide +kernel))) rfl
theorem w_815 : Cond.codeWith ⟨"LedTablesLaw", "see", "(LLedTables;IIIII[J)I"⟩ method_4_code 8 (some .int) [((0), (16), (19), (13))] ∈ a_w0 := a_w0_in (List.mem_append_right _ (List.mem_of_getElem? (i := 815) (by decide +kernel))) rfl
theorem lh_Law_140 : a_lh R_Law 140 M_Law_see 7 := ⟨w_813, w_814, w_815, by decide, w_0, by decide, by decide +kernel, by decide +kernel, by decide +kernel⟩
theorem w_816 : Cond.methodLink "LedTablesLaw" 17 ⟨"LedTables", "see", "(IIIII)I"⟩ ∈ a_w0 := a_w0_in (List.mem_append_right _ (List.mem_of_getElem? (i := 816) (by decide +kernel))) rfl
theorem w_817 : Cond.instanceMethod ⟨"LedTables", "see", "(IIIII)I"⟩ ∈ a_w0 := a_w0_in (List.mem_append_right _ (List.mem_of_getElem? (i := 817) (by decide +kernel))) rfl
theorem w_818 : Cond.selects "LedTables" ⟨"LedTables", "see", "(IIIII)I"⟩ ⟨"LedTables", "see", "(IIIII)I"⟩ ∈ a_w0 := a_w0_in (List.mem_append_right _ (List.mem_of_getElem? (i := 818) (by decide +kernel))) rfl
theorem lv_Law_17 : a_lv R_Law 17 M_Led_see 5 := ⟨w_816, w_817, w_818, cm_Led_see⟩
theorem w_820 : Cond.methodLink "LedTables" 112 ⟨"LedTables", "checkLetter", "(I)V"⟩ ∈ a_w0 := a_w0_in (List.mem_append_right _ (List.mem_of_getElem? (i := 820) (by decide +kernel))) rfl
theorem w_821 : Cond.static ⟨"LedTables", "checkLetter", "(I)V"⟩ ∈ a_w0 := a_w0_in (List.mem_append_right _ (List.mem_of_getElem? (i := 821) (by decide +kernel))) rfl
theorem ls_Led_112 : a_ls R_Led 112 M_Led_checkLetter 1 := ⟨w_820, w_821, cm_Led_checkLetter⟩
theorem w_823 : Cond.methodLink "LedTables" 139 ⟨"LedTables", "checkRange", "(III)V"⟩ ∈ a_w0 := a_w0_in (List.mem_append_right _ (List.mem_of_getElem? (i := 823) (by decide +kernel))) rfl
theorem w_824 : Cond.static ⟨"LedTables", "checkRange", "(III)V"⟩ ∈ a_w0 := a_w0_in (List.mem_append_right _ (List.mem_of_getElem? (i := 824) (by decide +kernel))) rfl
theorem ls_Led_139 : a_ls R_Led 139 M_Led_checkRange 3 := ⟨w_823, w_824, cm_Led_checkRange⟩
theorem w_827 : Cond.methodLink "LedTables" 118 ⟨"LedTables", "fill", "([IIIII)V"⟩ ∈ a_w0 := a_w0_in (List.mem_append_right _ (List.mem_of_getElem? (i := 827) (by decide +kernel))) rfl
theorem w_828 : Cond.static ⟨"LedTables", "fill", "([IIIII)V"⟩ ∈ a_w0 := a_w0_in (List.mem_append_right _ (List.mem_of_getElem? (i := 828) (by decide +kernel))) rfl
theorem ls_Led_118 : a_ls R_Led 118 M_Led_fill 5 := ⟨w_827, w_828, cm_Led_fill⟩
theorem w_830 : Cond.methodLink "LedTables" 125 ⟨"LedTables$Lens", "toNew", "([I[I)V"⟩ ∈ a_w0 := a_w0_in (List.mem_append_right _ (List.mem_of_getElem? (i := 830) (by decide +kernel))) rfl
theorem lv_Led_125 : a_lv R_Led 125 M_Len_toNew 2 := ⟨w_830, w_367, w_368, cm_Len_toNew⟩
theorem w_831 : Cond.methodLink "LedTablesLaw" 144 ⟨"LedTablesLaw", "put", "(LLedTables;IIIIII[J)I"⟩ ∈ a_w0 := a_w0_in (List.mem_append_right _ (List.mem_of_getElem? (i := 831) (by decide +kernel))) rfl
theorem w_832 : Cond.static ⟨"LedTablesLaw", "put", "(LLedTables;IIIIII[J)I"⟩ ∈ a_w0 := a_w0_in (List.mem_append_right _ (List.mem_of_getElem? (i := 832) (by decide +kernel))) rfl
theorem w_833 : Cond.codeWith ⟨"LedTablesLaw", "put", "(LLedTables;IIIIII[J)I"⟩ method_5_code 9 (some .int) [((0), (18), (21), (13))] ∈ a_w0 := a_w0_in (List.mem_append_right _ (List.mem_of_getElem? (i := 833) (by decide +kernel))) rfl
theorem lh_Law_144 : a_lh R_Law 144 M_Law_put 8 := ⟨w_831, w_832, w_833, by decide, w_0, by decide, by decide +kernel, by decide +kernel, by decide +kernel⟩
theorem w_834 : Cond.methodLink "LedTablesLaw" 21 ⟨"LedTables", "put", "(IIIIII)I"⟩ ∈ a_w0 := a_w0_in (List.mem_append_right _ (List.mem_of_getElem? (i := 834) (by decide +kernel))) rfl
theorem w_835 : Cond.instanceMethod ⟨"LedTables", "put", "(IIIIII)I"⟩ ∈ a_w0 := a_w0_in (List.mem_append_right _ (List.mem_of_getElem? (i := 835) (by decide +kernel))) rfl
theorem w_836 : Cond.selects "LedTables" ⟨"LedTables", "put", "(IIIIII)I"⟩ ⟨"LedTables", "put", "(IIIIII)I"⟩ ∈ a_w0 := a_w0_in (List.mem_append_right _ (List.mem_of_getElem? (i := 836) (by decide +kernel))) rfl
theorem lv_Law_21 : a_lv R_Law 21 M_Led_put 6 := ⟨w_834, w_835, w_836, cm_Led_put⟩
theorem w_838 : Cond.methodLink "LedTables" 132 ⟨"LedTables$Lens", "toBeside", "([I[I)V"⟩ ∈ a_w0 := a_w0_in (List.mem_append_right _ (List.mem_of_getElem? (i := 838) (by decide +kernel))) rfl
theorem lv_Led_132 : a_lv R_Led 132 M_Len_toBeside 2 := ⟨w_838, w_381, w_382, cm_Len_toBeside⟩
theorem w_839 : Cond.methodLink "LedTables" 135 ⟨"LedTables$Lens", "toOld", "([I[I[I)V"⟩ ∈ a_w0 := a_w0_in (List.mem_append_right _ (List.mem_of_getElem? (i := 839) (by decide +kernel))) rfl
theorem w_840 : Cond.instanceMethod ⟨"LedTables$Lens", "toOld", "([I[I[I)V"⟩ ∈ a_w0 := a_w0_in (List.mem_append_right _ (List.mem_of_getElem? (i := 840) (by decide +kernel))) rfl
theorem w_841 : Cond.selects "LedTables$Lens" ⟨"LedTables$Lens", "toOld", "([I[I[I)V"⟩ ⟨"LedTables$Lens", "toOld", "([I[I[I)V"⟩ ∈ a_w0 := a_w0_in (List.mem_append_right _ (List.mem_of_getElem? (i := 841) (by decide +kernel))) rfl
theorem lv_Led_135 : a_lv R_Led 135 M_Len_toOld 3 := ⟨w_839, w_840, w_841, cm_Len_toOld⟩
theorem w_843 : Cond.methodLink "LedTablesLaw" 148 ⟨"LedTablesLaw", "box", "(LLedTables;III)I"⟩ ∈ a_w0 := a_w0_in (List.mem_append_right _ (List.mem_of_getElem? (i := 843) (by decide +kernel))) rfl
theorem w_844 : Cond.static ⟨"LedTablesLaw", "box", "(LLedTables;III)I"⟩ ∈ a_w0 := a_w0_in (List.mem_append_right _ (List.mem_of_getElem? (i := 844) (by decide +kernel))) rfl
theorem w_845 : Cond.codeWith ⟨"LedTablesLaw", "box", "(LLedTables;III)I"⟩ method_6_code 5 (some .int) [((0), (7), (10), (13))] ∈ a_w0 := a_w0_in (List.mem_append_right _ (List.mem_of_getElem? (i := 845) (by decide +kernel))) rfl
theorem lh_Law_148 : a_lh R_Law 148 M_Law_box 4 := ⟨w_843, w_844, w_845, by decide, w_0, by decide, by decide +kernel, by decide +kernel, by decide +kernel⟩
theorem w_846 : Cond.methodLink "LedTablesLaw" 25 ⟨"LedTables", "box", "(III)V"⟩ ∈ a_w0 := a_w0_in (List.mem_append_right _ (List.mem_of_getElem? (i := 846) (by decide +kernel))) rfl
theorem w_847 : Cond.instanceMethod ⟨"LedTables", "box", "(III)V"⟩ ∈ a_w0 := a_w0_in (List.mem_append_right _ (List.mem_of_getElem? (i := 847) (by decide +kernel))) rfl
theorem w_848 : Cond.selects "LedTables" ⟨"LedTables", "box", "(III)V"⟩ ⟨"LedTables", "box", "(III)V"⟩ ∈ a_w0 := a_w0_in (List.mem_append_right _ (List.mem_of_getElem? (i := 848) (by decide +kernel))) rfl
theorem lv_Law_25 : a_lv R_Law 25 M_Led_box 3 := ⟨w_846, w_847, w_848, cm_Led_box⟩
theorem w_850 : Cond.methodLink "LedTables" 143 ⟨"LedTables$Box", "bound", "(III)V"⟩ ∈ a_w0 := a_w0_in (List.mem_append_right _ (List.mem_of_getElem? (i := 850) (by decide +kernel))) rfl
theorem w_851 : Cond.instanceMethod ⟨"LedTables$Box", "bound", "(III)V"⟩ ∈ a_w0 := a_w0_in (List.mem_append_right _ (List.mem_of_getElem? (i := 851) (by decide +kernel))) rfl
theorem w_852 : Cond.selects "LedTables$Box" ⟨"LedTables$Box", "bound", "(III)V"⟩ ⟨"LedTables$Box", "bound", "(III)V"⟩ ∈ a_w0 := a_w0_in (List.mem_append_right _ (List.mem_of_getElem? (i := 852) (by decide +kernel))) rfl
theorem lv_Led_143 : a_lv R_Led 143 M_Box_bound 3 := ⟨w_850, w_851, w_852, cm_Box_bound⟩
theorem w_854 : Cond.methodLink "LedTablesLaw" 152 ⟨"LedTablesLaw", "agree", "(LLedTables;II[J)I"⟩ ∈ a_w0 := a_w0_in (List.mem_append_right _ (List.mem_of_getElem? (i := 854) (by decide +kernel))) rfl
theorem w_855 : Cond.static ⟨"LedTablesLaw", "agree", "(LLedTables;II[J)I"⟩ ∈ a_w0 := a_w0_in (List.mem_append_right _ (List.mem_of_getElem? (i := 855) (by decide +kernel))) rfl
theorem w_856 : Cond.codeWith ⟨"LedTablesLaw", "agree", "(LLedTables;II[J)I"⟩ method_7_code 5 (some .int) [((0), (10), (13), (13))] ∈ a_w0 := a_w0_in (List.mem_append_right _ (List.mem_of_getElem? (i := 856) (by decide +kernel))) rfl
theorem lh_Law_152 : a_lh R_Law 152 M_Law_agree 4 := ⟨w_854, w_855, w_856, by decide, w_0, by decide, by decide +kernel, by decide +kernel, by decide +kernel⟩
theorem w_857 : Cond.methodLink "LedTablesLaw" 29 ⟨"LedTables", "agree", "(II)I"⟩ ∈ a_w0 := a_w0_in (List.mem_append_right _ (List.mem_of_getElem? (i := 857) (by decide +kernel))) rfl
theorem w_858 : Cond.instanceMethod ⟨"LedTables", "agree", "(II)I"⟩ ∈ a_w0 := a_w0_in (List.mem_append_right _ (List.mem_of_getElem? (i := 858) (by decide +kernel))) rfl
theorem w_859 : Cond.selects "LedTables" ⟨"LedTables", "agree", "(II)I"⟩ ⟨"LedTables", "agree", "(II)I"⟩ ∈ a_w0 := a_w0_in (List.mem_append_right _ (List.mem_of_getElem? (i := 859) (by decide +kernel))) rfl
theorem lv_Law_29 : a_lv R_Law 29 M_Led_agree 2 := ⟨w_857, w_858, w_859, cm_Led_agree⟩
theorem w_861 : Cond.methodLink "LedTables" 146 ⟨"LedTables$Box", "firstUnlike", "(II)I"⟩ ∈ a_w0 := a_w0_in (List.mem_append_right _ (List.mem_of_getElem? (i := 861) (by decide +kernel))) rfl
theorem w_862 : Cond.instanceMethod ⟨"LedTables$Box", "firstUnlike", "(II)I"⟩ ∈ a_w0 := a_w0_in (List.mem_append_right _ (List.mem_of_getElem? (i := 862) (by decide +kernel))) rfl
theorem w_863 : Cond.selects "LedTables$Box" ⟨"LedTables$Box", "firstUnlike", "(II)I"⟩ ⟨"LedTables$Box", "firstUnlike", "(II)I"⟩ ∈ a_w0 := a_w0_in (List.mem_append_right _ (List.mem_of_getElem? (i := 863) (by decide +kernel))) rfl
theorem lv_Led_146 : a_lv R_Led 146 M_Box_firstUnlike 2 := ⟨w_861, w_862, w_863, cm_Box_firstUnlike⟩
theorem w_865 : Cond.methodLink "LedTables$Box" 45 ⟨"LedTables$Box", "comesBack", "(II)Z"⟩ ∈ a_w0 := a_w0_in (List.mem_append_right _ (List.mem_of_getElem? (i := 865) (by decide +kernel))) rfl
theorem w_867 : Cond.instanceMethod ⟨"LedTables$Box", "comesBack", "(II)Z"⟩ ∈ a_w0 := a_w0_in (List.mem_append_right _ (List.mem_of_getElem? (i := 867) (by decide +kernel))) rfl
theorem ws_37 : Cond.selects "LedTables$Box" ⟨"LedTables$Box", "comesBack", "(II)Z"⟩ ⟨"LedTables$Box", "comesBack", "(II)Z"⟩ ∈ a_w0 := a_w0_in (List.mem_append_left _ (List.mem_of_getElem? (i := 37) (by decide +kernel))) rfl
theorem lv_Box_45 : a_lv R_Box 45 M_Box_comesBack 2 := ⟨w_865, w_867, ws_37, cm_Box_comesBack⟩
theorem w_869 : Cond.methodLink "LedTables$Box" 78 ⟨"LedTables$Lens", "toOld", "([I[I[I)V"⟩ ∈ a_w0 := a_w0_in (List.mem_append_right _ (List.mem_of_getElem? (i := 869) (by decide +kernel))) rfl
theorem lv_Box_78 : a_lv R_Box 78 M_Len_toOld 3 := ⟨w_869, w_840, w_841, cm_Len_toOld⟩
theorem w_872 : Cond.methodLink "LedTablesLaw" 156 ⟨"LedTablesLaw", "unlike", "(LLedTables;I[J)I"⟩ ∈ a_w0 := a_w0_in (List.mem_append_right _ (List.mem_of_getElem? (i := 872) (by decide +kernel))) rfl
theorem w_873 : Cond.static ⟨"LedTablesLaw", "unlike", "(LLedTables;I[J)I"⟩ ∈ a_w0 := a_w0_in (List.mem_append_right _ (List.mem_of_getElem? (i := 873) (by decide +kernel))) rfl
theorem w_874 : Cond.codeWith ⟨"LedTablesLaw", "unlike", "(LLedTables;I[J)I"⟩ method_8_code 4 (some .int) [((0), (9), (12), (13))] ∈ a_w0 := a_w0_in (List.mem_append_right _ (List.mem_of_getElem? (i := 874) (by decide +kernel))) rfl
theorem lh_Law_156 : a_lh R_Law 156 M_Law_unlike 3 := ⟨w_872, w_873, w_874, by decide, w_0, by decide, by decide +kernel, by decide +kernel, by decide +kernel⟩
theorem w_875 : Cond.methodLink "LedTablesLaw" 33 ⟨"LedTables", "unlike", "(I)I"⟩ ∈ a_w0 := a_w0_in (List.mem_append_right _ (List.mem_of_getElem? (i := 875) (by decide +kernel))) rfl
theorem w_876 : Cond.instanceMethod ⟨"LedTables", "unlike", "(I)I"⟩ ∈ a_w0 := a_w0_in (List.mem_append_right _ (List.mem_of_getElem? (i := 876) (by decide +kernel))) rfl
theorem w_877 : Cond.selects "LedTables" ⟨"LedTables", "unlike", "(I)I"⟩ ⟨"LedTables", "unlike", "(I)I"⟩ ∈ a_w0 := a_w0_in (List.mem_append_right _ (List.mem_of_getElem? (i := 877) (by decide +kernel))) rfl
theorem lv_Law_33 : a_lv R_Law 33 M_Led_unlike 1 := ⟨w_875, w_876, w_877, cm_Led_unlike⟩
theorem w_879 : Cond.methodLink "LedTables" 150 ⟨"LedTables$Box", "manyUnlike", "(I)I"⟩ ∈ a_w0 := a_w0_in (List.mem_append_right _ (List.mem_of_getElem? (i := 879) (by decide +kernel))) rfl
theorem w_880 : Cond.instanceMethod ⟨"LedTables$Box", "manyUnlike", "(I)I"⟩ ∈ a_w0 := a_w0_in (List.mem_append_right _ (List.mem_of_getElem? (i := 880) (by decide +kernel))) rfl
theorem w_881 : Cond.selects "LedTables$Box" ⟨"LedTables$Box", "manyUnlike", "(I)I"⟩ ⟨"LedTables$Box", "manyUnlike", "(I)I"⟩ ∈ a_w0 := a_w0_in (List.mem_append_right _ (List.mem_of_getElem? (i := 881) (by decide +kernel))) rfl
theorem lv_Led_150 : a_lv R_Led 150 M_Box_manyUnlike 1 := ⟨w_879, w_880, w_881, cm_Box_manyUnlike⟩
theorem w_883 : Cond.methodLink "LedTablesLaw" 171 ⟨"LedTablesLaw", "hold", "(LLedTables;III[J)I"⟩ ∈ a_w0 := a_w0_in (List.mem_append_right _ (List.mem_of_getElem? (i := 883) (by decide +kernel))) rfl
theorem w_884 : Cond.static ⟨"LedTablesLaw", "hold", "(LLedTables;III[J)I"⟩ ∈ a_w0 := a_w0_in (List.mem_append_right _ (List.mem_of_getElem? (i := 884) (by decide +kernel))) rfl
theorem w_885 : Cond.codeWith ⟨"LedTablesLaw", "hold", "(LLedTables;III[J)I"⟩ method_9_code 6 (some .int) [((0), (12), (15), (40)), ((0), (12), (19), (13))] ∈ a_w0 := a_w0_in (List.mem_append_right _ (List.mem_of_getElem? (i := 885) (by decide +kernel))) rfl
theorem lh_Law_171 : a_lh R_Law 171 M_Law_hold 5 := ⟨w_883, w_884, w_885, by decide, w_0, by decide, by decide +kernel, by decide +kernel, by decide +kernel⟩
theorem w_887 : Cond.methodLink "LedTablesLaw" 36 ⟨"LedTables", "hold", "(III)I"⟩ ∈ a_w0 := a_w0_in (List.mem_append_right _ (List.mem_of_getElem? (i := 887) (by decide +kernel))) rfl
theorem w_888 : Cond.instanceMethod ⟨"LedTables", "hold", "(III)I"⟩ ∈ a_w0 := a_w0_in (List.mem_append_right _ (List.mem_of_getElem? (i := 888) (by decide +kernel))) rfl
theorem w_889 : Cond.selects "LedTables" ⟨"LedTables", "hold", "(III)I"⟩ ⟨"LedTables", "hold", "(III)I"⟩ ∈ a_w0 := a_w0_in (List.mem_append_right _ (List.mem_of_getElem? (i := 889) (by decide +kernel))) rfl
theorem lv_Law_36 : a_lv R_Law 36 M_Led_hold 3 := ⟨w_887, w_888, w_889, cm_Led_hold⟩
theorem w_891 : Cond.methodLink "LedTables" 164 ⟨"LedTables", "checkChange", "(I)V"⟩ ∈ a_w0 := a_w0_in (List.mem_append_right _ (List.mem_of_getElem? (i := 891) (by decide +kernel))) rfl
theorem w_893 : Cond.instanceMethod ⟨"LedTables", "checkChange", "(I)V"⟩ ∈ a_w0 := a_w0_in (List.mem_append_right _ (List.mem_of_getElem? (i := 893) (by decide +kernel))) rfl
theorem ws_38 : Cond.selects "LedTables" ⟨"LedTables", "checkChange", "(I)V"⟩ ⟨"LedTables", "checkChange", "(I)V"⟩ ∈ a_w0 := a_w0_in (List.mem_append_left _ (List.mem_of_getElem? (i := 38) (by decide +kernel))) rfl
theorem lv_Led_164 : a_lv R_Led 164 M_Led_checkChange 1 := ⟨w_891, w_893, ws_38, cm_Led_checkChange⟩
theorem w_911 : Cond.methodLink "LedTables" 167 ⟨"LedTables$Plan", "tellHold", "(III)I"⟩ ∈ a_w0 := a_w0_in (List.mem_append_right _ (List.mem_of_getElem? (i := 911) (by decide +kernel))) rfl
theorem w_912 : Cond.instanceMethod ⟨"LedTables$Plan", "tellHold", "(III)I"⟩ ∈ a_w0 := a_w0_in (List.mem_append_right _ (List.mem_of_getElem? (i := 912) (by decide +kernel))) rfl
theorem w_913 : Cond.selects "LedTables$Plan" ⟨"LedTables$Plan", "tellHold", "(III)I"⟩ ⟨"LedTables$Plan", "tellHold", "(III)I"⟩ ∈ a_w0 := a_w0_in (List.mem_append_right _ (List.mem_of_getElem? (i := 913) (by decide +kernel))) rfl
theorem lv_Led_167 : a_lv R_Led 167 M_Pla_tellHold 3 := ⟨w_911, w_912, w_913, cm_Pla_tellHold⟩
theorem w_915 : Cond.methodLink "LedTables$Plan" 38 ⟨"LedTables$Plan", "tell", "([III)I"⟩ ∈ a_w0 := a_w0_in (List.mem_append_right _ (List.mem_of_getElem? (i := 915) (by decide +kernel))) rfl
theorem w_917 : Cond.instanceMethod ⟨"LedTables$Plan", "tell", "([III)I"⟩ ∈ a_w0 := a_w0_in (List.mem_append_right _ (List.mem_of_getElem? (i := 917) (by decide +kernel))) rfl
theorem ws_39 : Cond.selects "LedTables$Plan" ⟨"LedTables$Plan", "tell", "([III)I"⟩ ⟨"LedTables$Plan", "tell", "([III)I"⟩ ∈ a_w0 := a_w0_in (List.mem_append_left _ (List.mem_of_getElem? (i := 39) (by decide +kernel))) rfl
theorem lv_Pla_38 : a_lv R_Pla 38 M_Pla_tell 3 := ⟨w_915, w_917, ws_39, cm_Pla_tell⟩
theorem w_919 : Cond.methodLink "LedTablesLaw" 175 ⟨"LedTablesLaw", "order", "(LLedTables;IIZ[J)I"⟩ ∈ a_w0 := a_w0_in (List.mem_append_right _ (List.mem_of_getElem? (i := 919) (by decide +kernel))) rfl
theorem w_920 : Cond.static ⟨"LedTablesLaw", "order", "(LLedTables;IIZ[J)I"⟩ ∈ a_w0 := a_w0_in (List.mem_append_right _ (List.mem_of_getElem? (i := 920) (by decide +kernel))) rfl
theorem w_921 : Cond.codeWith ⟨"LedTablesLaw", "order", "(LLedTables;IIZ[J)I"⟩ method_10_code 6 (some .int) [((0), (12), (15), (40)), ((0), (12), (19), (13))] ∈ a_w0 := a_w0_in (List.mem_append_right _ (List.mem_of_getElem? (i := 921) (by decide +kernel))) rfl
theorem lh_Law_175 : a_lh R_Law 175 M_Law_order 5 := ⟨w_919, w_920, w_921, by decide, w_0, by decide, by decide +kernel, by decide +kernel, by decide +kernel⟩
theorem w_922 : Cond.methodLink "LedTablesLaw" 42 ⟨"LedTables", "order", "(IIZ)I"⟩ ∈ a_w0 := a_w0_in (List.mem_append_right _ (List.mem_of_getElem? (i := 922) (by decide +kernel))) rfl
theorem w_923 : Cond.instanceMethod ⟨"LedTables", "order", "(IIZ)I"⟩ ∈ a_w0 := a_w0_in (List.mem_append_right _ (List.mem_of_getElem? (i := 923) (by decide +kernel))) rfl
theorem w_924 : Cond.selects "LedTables" ⟨"LedTables", "order", "(IIZ)I"⟩ ⟨"LedTables", "order", "(IIZ)I"⟩ ∈ a_w0 := a_w0_in (List.mem_append_right _ (List.mem_of_getElem? (i := 924) (by decide +kernel))) rfl
theorem lv_Law_42 : a_lv R_Law 42 M_Led_order 3 := ⟨w_922, w_923, w_924, cm_Led_order⟩
theorem w_927 : Cond.methodLink "LedTables" 173 ⟨"LedTables$Plan", "tellBar", "(II)Z"⟩ ∈ a_w0 := a_w0_in (List.mem_append_right _ (List.mem_of_getElem? (i := 927) (by decide +kernel))) rfl
theorem w_928 : Cond.instanceMethod ⟨"LedTables$Plan", "tellBar", "(II)Z"⟩ ∈ a_w0 := a_w0_in (List.mem_append_right _ (List.mem_of_getElem? (i := 928) (by decide +kernel))) rfl
theorem w_929 : Cond.selects "LedTables$Plan" ⟨"LedTables$Plan", "tellBar", "(II)Z"⟩ ⟨"LedTables$Plan", "tellBar", "(II)Z"⟩ ∈ a_w0 := a_w0_in (List.mem_append_right _ (List.mem_of_getElem? (i := 929) (by decide +kernel))) rfl
theorem lv_Led_173 : a_lv R_Led 173 M_Pla_tellBar 2 := ⟨w_927, w_928, w_929, cm_Pla_tellBar⟩
theorem w_931 : Cond.methodLink "LedTables$Plan" 46 ⟨"java/lang/Math", "min", "(II)I"⟩ ∈ a_w0 := a_w0_in (List.mem_append_right _ (List.mem_of_getElem? (i := 931) (by decide +kernel))) rfl
theorem mw_Pla_46 : a_mw R_Pla 46 Lib.Math.min.name Lib.Math.min.code := ⟨w_931, w_353, w_15, w_354⟩
theorem w_932 : Cond.methodLink "LedTables$Plan" 52 ⟨"java/lang/Math", "max", "(II)I"⟩ ∈ a_w0 := a_w0_in (List.mem_append_right _ (List.mem_of_getElem? (i := 932) (by decide +kernel))) rfl
theorem mw_Pla_52 : a_mw R_Pla 52 Lib.Math.max.name Lib.Math.max.code := ⟨w_932, w_364, w_15, w_365⟩
theorem w_933 : Cond.methodLink "LedTables$Plan" 42 ⟨"LedTables$Plan", "tellPair", "([ZII)Z"⟩ ∈ a_w0 := a_w0_in (List.mem_append_right _ (List.mem_of_getElem? (i := 933) (by decide +kernel))) rfl
theorem w_935 : Cond.instanceMethod ⟨"LedTables$Plan", "tellPair", "([ZII)Z"⟩ ∈ a_w0 := a_w0_in (List.mem_append_right _ (List.mem_of_getElem? (i := 935) (by decide +kernel))) rfl
theorem ws_40 : Cond.selects "LedTables$Plan" ⟨"LedTables$Plan", "tellPair", "([ZII)Z"⟩ ⟨"LedTables$Plan", "tellPair", "([ZII)Z"⟩ ∈ a_w0 := a_w0_in (List.mem_append_left _ (List.mem_of_getElem? (i := 40) (by decide +kernel))) rfl
theorem lv_Pla_42 : a_lv R_Pla 42 M_Pla_tellPair 3 := ⟨w_933, w_935, ws_40, cm_Pla_tellPair⟩
theorem w_937 : Cond.methodLink "LedTables" 177 ⟨"LedTables$Plan", "tellOrder", "(II)Z"⟩ ∈ a_w0 := a_w0_in (List.mem_append_right _ (List.mem_of_getElem? (i := 937) (by decide +kernel))) rfl
theorem w_938 : Cond.instanceMethod ⟨"LedTables$Plan", "tellOrder", "(II)Z"⟩ ∈ a_w0 := a_w0_in (List.mem_append_right _ (List.mem_of_getElem? (i := 938) (by decide +kernel))) rfl
theorem w_939 : Cond.selects "LedTables$Plan" ⟨"LedTables$Plan", "tellOrder", "(II)Z"⟩ ⟨"LedTables$Plan", "tellOrder", "(II)Z"⟩ ∈ a_w0 := a_w0_in (List.mem_append_right _ (List.mem_of_getElem? (i := 939) (by decide +kernel))) rfl
theorem lv_Led_177 : a_lv R_Led 177 M_Pla_tellOrder 2 := ⟨w_937, w_938, w_939, cm_Pla_tellOrder⟩
theorem w_941 : Cond.methodLink "LedTablesLaw" 183 ⟨"LedTablesLaw", "need", "(LLedTables;III[J)I"⟩ ∈ a_w0 := a_w0_in (List.mem_append_right _ (List.mem_of_getElem? (i := 941) (by decide +kernel))) rfl
theorem w_942 : Cond.static ⟨"LedTablesLaw", "need", "(LLedTables;III[J)I"⟩ ∈ a_w0 := a_w0_in (List.mem_append_right _ (List.mem_of_getElem? (i := 942) (by decide +kernel))) rfl
theorem w_943 : Cond.codeWith ⟨"LedTablesLaw", "need", "(LLedTables;III[J)I"⟩ method_11_code 6 (some .int) [((0), (12), (15), (49)), ((0), (12), (19), (40)), ((0), (12), (23), (13))] ∈ a_w0 := a_w0_in (List.mem_append_right _ (List.mem_of_getElem? (i := 943) (by decide +kernel))) rfl
theorem lh_Law_183 : a_lh R_Law 183 M_Law_need 5 := ⟨w_941, w_942, w_943, by decide, w_0, by decide, by decide +kernel, by decide +kernel, by decide +kernel⟩
theorem w_945 : Cond.methodLink "LedTablesLaw" 46 ⟨"LedTables", "need", "(III)I"⟩ ∈ a_w0 := a_w0_in (List.mem_append_right _ (List.mem_of_getElem? (i := 945) (by decide +kernel))) rfl
theorem w_946 : Cond.instanceMethod ⟨"LedTables", "need", "(III)I"⟩ ∈ a_w0 := a_w0_in (List.mem_append_right _ (List.mem_of_getElem? (i := 946) (by decide +kernel))) rfl
theorem w_947 : Cond.selects "LedTables" ⟨"LedTables", "need", "(III)I"⟩ ⟨"LedTables", "need", "(III)I"⟩ ∈ a_w0 := a_w0_in (List.mem_append_right _ (List.mem_of_getElem? (i := 947) (by decide +kernel))) rfl
theorem lv_Law_46 : a_lv R_Law 46 M_Led_need 3 := ⟨w_945, w_946, w_947, cm_Led_need⟩
theorem w_949 : Cond.methodLink "LedTables" 183 ⟨"LedTables", "checkProgram", "(I)V"⟩ ∈ a_w0 := a_w0_in (List.mem_append_right _ (List.mem_of_getElem? (i := 949) (by decide +kernel))) rfl
theorem w_951 : Cond.instanceMethod ⟨"LedTables", "checkProgram", "(I)V"⟩ ∈ a_w0 := a_w0_in (List.mem_append_right _ (List.mem_of_getElem? (i := 951) (by decide +kernel))) rfl
theorem ws_41 : Cond.selects "LedTables" ⟨"LedTables", "checkProgram", "(I)V"⟩ ⟨"LedTables", "checkProgram", "(I)V"⟩ ∈ a_w0 := a_w0_in (List.mem_append_left _ (List.mem_of_getElem? (i := 41) (by decide +kernel))) rfl
theorem lv_Led_183 : a_lv R_Led 183 M_Led_checkProgram 1 := ⟨w_949, w_951, ws_41, cm_Led_checkProgram⟩
theorem w_969 : Cond.methodLink "LedTables" 186 ⟨"LedTables$Plan", "tellNeed", "(III)I"⟩ ∈ a_w0 := a_w0_in (List.mem_append_right _ (List.mem_of_getElem? (i := 969) (by decide +kernel))) rfl
theorem w_970 : Cond.instanceMethod ⟨"LedTables$Plan", "tellNeed", "(III)I"⟩ ∈ a_w0 := a_w0_in (List.mem_append_right _ (List.mem_of_getElem? (i := 970) (by decide +kernel))) rfl
theorem w_971 : Cond.selects "LedTables$Plan" ⟨"LedTables$Plan", "tellNeed", "(III)I"⟩ ⟨"LedTables$Plan", "tellNeed", "(III)I"⟩ ∈ a_w0 := a_w0_in (List.mem_append_right _ (List.mem_of_getElem? (i := 971) (by decide +kernel))) rfl
theorem lv_Led_186 : a_lv R_Led 186 M_Pla_tellNeed 3 := ⟨w_969, w_970, w_971, cm_Pla_tellNeed⟩
theorem w_973 : Cond.methodLink "LedTablesLaw" 186 ⟨"LedTablesLaw", "price", "(LLedTables;II[J)I"⟩ ∈ a_w0 := a_w0_in (List.mem_append_right _ (List.mem_of_getElem? (i := 973) (by decide +kernel))) rfl
theorem w_974 : Cond.static ⟨"LedTablesLaw", "price", "(LLedTables;II[J)I"⟩ ∈ a_w0 := a_w0_in (List.mem_append_right _ (List.mem_of_getElem? (i := 974) (by decide +kernel))) rfl
theorem w_975 : Cond.codeWith ⟨"LedTablesLaw", "price", "(LLedTables;II[J)I"⟩ method_12_code 5 (some .int) [((0), (10), (13), (49)), ((0), (10), (17), (13))] ∈ a_w0 := a_w0_in (List.mem_append_right _ (List.mem_of_getElem? (i := 975) (by decide +kernel))) rfl
theorem lh_Law_186 : a_lh R_Law 186 M_Law_price 4 := ⟨w_973, w_974, w_975, by decide, w_0, by decide, by decide +kernel, by decide +kernel, by decide +kernel⟩
theorem w_976 : Cond.methodLink "LedTablesLaw" 51 ⟨"LedTables", "price", "(II)I"⟩ ∈ a_w0 := a_w0_in (List.mem_append_right _ (List.mem_of_getElem? (i := 976) (by decide +kernel))) rfl
theorem w_977 : Cond.instanceMethod ⟨"LedTables", "price", "(II)I"⟩ ∈ a_w0 := a_w0_in (List.mem_append_right _ (List.mem_of_getElem? (i := 977) (by decide +kernel))) rfl
theorem w_978 : Cond.selects "LedTables" ⟨"LedTables", "price", "(II)I"⟩ ⟨"LedTables", "price", "(II)I"⟩ ∈ a_w0 := a_w0_in (List.mem_append_right _ (List.mem_of_getElem? (i := 978) (by decide +kernel))) rfl
theorem lv_Law_51 : a_lv R_Law 51 M_Led_price 2 := ⟨w_976, w_977, w_978, cm_Led_price⟩
theorem w_980 : Cond.methodLink "LedTables" 189 ⟨"LedTables$Plan", "tellPrice", "(II)I"⟩ ∈ a_w0 := a_w0_in (List.mem_append_right _ (List.mem_of_getElem? (i := 980) (by decide +kernel))) rfl
theorem w_981 : Cond.instanceMethod ⟨"LedTables$Plan", "tellPrice", "(II)I"⟩ ∈ a_w0 := a_w0_in (List.mem_append_right _ (List.mem_of_getElem? (i := 981) (by decide +kernel))) rfl
theorem w_982 : Cond.selects "LedTables$Plan" ⟨"LedTables$Plan", "tellPrice", "(II)I"⟩ ⟨"LedTables$Plan", "tellPrice", "(II)I"⟩ ∈ a_w0 := a_w0_in (List.mem_append_right _ (List.mem_of_getElem? (i := 982) (by decide +kernel))) rfl
theorem lv_Led_189 : a_lv R_Led 189 M_Pla_tellPrice 2 := ⟨w_980, w_981, w_982, cm_Pla_tellPrice⟩
theorem w_984 : Cond.methodLink "LedTablesLaw" 189 ⟨"LedTablesLaw", "stands", "(LLedTables;II[J)I"⟩ ∈ a_w0 := a_w0_in (List.mem_append_right _ (List.mem_of_getElem? (i := 984) (by decide +kernel))) rfl
theorem w_985 : Cond.static ⟨"LedTablesLaw", "stands", "(LLedTables;II[J)I"⟩ ∈ a_w0 := a_w0_in (List.mem_append_right _ (List.mem_of_getElem? (i := 985) (by decide +kernel))) rfl
theorem w_986 : Cond.codeWith ⟨"LedTablesLaw", "stands", "(LLedTables;II[J)I"⟩ method_13_code 5 (some .int) [((0), (17), (20), (13))] ∈ a_w0 := a_w0_in (List.mem_append_right _ (List.mem_of_getElem? (i := 986) (by decide +kernel))) rfl
theorem lh_Law_189 : a_lh R_Law 189 M_Law_stands 4 := ⟨w_984, w_985, w_986, by decide, w_0, by decide, by decide +kernel, by decide +kernel, by decide +kernel⟩
theorem w_987 : Cond.methodLink "LedTablesLaw" 54 ⟨"LedTables", "stands", "(II)Z"⟩ ∈ a_w0 := a_w0_in (List.mem_append_right _ (List.mem_of_getElem? (i := 987) (by decide +kernel))) rfl
theorem w_988 : Cond.instanceMethod ⟨"LedTables", "stands", "(II)Z"⟩ ∈ a_w0 := a_w0_in (List.mem_append_right _ (List.mem_of_getElem? (i := 988) (by decide +kernel))) rfl
theorem w_989 : Cond.selects "LedTables" ⟨"LedTables", "stands", "(II)Z"⟩ ⟨"LedTables", "stands", "(II)Z"⟩ ∈ a_w0 := a_w0_in (List.mem_append_right _ (List.mem_of_getElem? (i := 989) (by decide +kernel))) rfl
theorem lv_Law_54 : a_lv R_Law 54 M_Led_stands 2 := ⟨w_987, w_988, w_989, cm_Led_stands⟩
theorem w_991 : Cond.methodLink "LedTables" 192 ⟨"LedTables", "checkNode", "(II)V"⟩ ∈ a_w0 := a_w0_in (List.mem_append_right _ (List.mem_of_getElem? (i := 991) (by decide +kernel))) rfl
theorem w_993 : Cond.instanceMethod ⟨"LedTables", "checkNode", "(II)V"⟩ ∈ a_w0 := a_w0_in (List.mem_append_right _ (List.mem_of_getElem? (i := 993) (by decide +kernel))) rfl
theorem ws_42 : Cond.selects "LedTables" ⟨"LedTables", "checkNode", "(II)V"⟩ ⟨"LedTables", "checkNode", "(II)V"⟩ ∈ a_w0 := a_w0_in (List.mem_append_left _ (List.mem_of_getElem? (i := 42) (by decide +kernel))) rfl
theorem lv_Led_192 : a_lv R_Led 192 M_Led_checkNode 2 := ⟨w_991, w_993, ws_42, cm_Led_checkNode⟩
theorem w_995 : Cond.methodLink "LedTables" 336 ⟨"LedTables$Plan", "manyNodes", "()I"⟩ ∈ a_w0 := a_w0_in (List.mem_append_right _ (List.mem_of_getElem? (i := 995) (by decide +kernel))) rfl
theorem w_996 : Cond.instanceMethod ⟨"LedTables$Plan", "manyNodes", "()I"⟩ ∈ a_w0 := a_w0_in (List.mem_append_right _ (List.mem_of_getElem? (i := 996) (by decide +kernel))) rfl
theorem w_997 : Cond.selects "LedTables$Plan" ⟨"LedTables$Plan", "manyNodes", "()I"⟩ ⟨"LedTables$Plan", "manyNodes", "()I"⟩ ∈ a_w0 := a_w0_in (List.mem_append_right _ (List.mem_of_getElem? (i := 997) (by decide +kernel))) rfl
theorem lv_Led_336 : a_lv R_Led 336 M_Pla_manyNodes 0 := ⟨w_995, w_996, w_997, cm_Pla_manyNodes⟩
theorem w_999 : Cond.methodLink "LedTables$Plan" 55 ⟨"LedTables$Plan", "power", "(I)I"⟩ ∈ a_w0 := a_w0_in (List.mem_append_right _ (List.mem_of_getElem? (i := 999) (by decide +kernel))) rfl
theorem w_1000 : Cond.static ⟨"LedTables$Plan", "power", "(I)I"⟩ ∈ a_w0 := a_w0_in (List.mem_append_right _ (List.mem_of_getElem? (i := 1000) (by decide +kernel))) rfl
theorem ls_Pla_55 : a_ls R_Pla 55 M_Pla_power 1 := ⟨w_999, w_1000, cm_Pla_power⟩
theorem w_1004 : Cond.methodLink "LedTables" 339 ⟨"LedTables$Plan", "manySets", "()I"⟩ ∈ a_w0 := a_w0_in (List.mem_append_right _ (List.mem_of_getElem? (i := 1004) (by decide +kernel))) rfl
theorem w_1005 : Cond.instanceMethod ⟨"LedTables$Plan", "manySets", "()I"⟩ ∈ a_w0 := a_w0_in (List.mem_append_right _ (List.mem_of_getElem? (i := 1005) (by decide +kernel))) rfl
theorem w_1006 : Cond.selects "LedTables$Plan" ⟨"LedTables$Plan", "manySets", "()I"⟩ ⟨"LedTables$Plan", "manySets", "()I"⟩ ∈ a_w0 := a_w0_in (List.mem_append_right _ (List.mem_of_getElem? (i := 1006) (by decide +kernel))) rfl
theorem lv_Led_339 : a_lv R_Led 339 M_Pla_manySets 0 := ⟨w_1004, w_1005, w_1006, cm_Pla_manySets⟩
theorem w_1008 : Cond.methodLink "LedTables" 196 ⟨"LedTables$Plan", "isStanding", "(II)Z"⟩ ∈ a_w0 := a_w0_in (List.mem_append_right _ (List.mem_of_getElem? (i := 1008) (by decide +kernel))) rfl
theorem w_1009 : Cond.instanceMethod ⟨"LedTables$Plan", "isStanding", "(II)Z"⟩ ∈ a_w0 := a_w0_in (List.mem_append_right _ (List.mem_of_getElem? (i := 1009) (by decide +kernel))) rfl
theorem w_1010 : Cond.selects "LedTables$Plan" ⟨"LedTables$Plan", "isStanding", "(II)Z"⟩ ⟨"LedTables$Plan", "isStanding", "(II)Z"⟩ ∈ a_w0 := a_w0_in (List.mem_append_right _ (List.mem_of_getElem? (i := 1010) (by decide +kernel))) rfl
theorem lv_Led_196 : a_lv R_Led 196 M_Pla_isStanding 2 := ⟨w_1008, w_1009, w_1010, cm_Pla_isStanding⟩
theorem w_1012 : Cond.methodLink "LedTables$Plan" 62 ⟨"LedTables$Plan", "stagesFor", "(II)I"⟩ ∈ a_w0 := a_w0_in (List.mem_append_right _ (List.mem_of_getElem? (i := 1012) (by decide +kernel))) rfl
theorem w_1013 : Cond.instanceMethod ⟨"LedTables$Plan", "stagesFor", "(II)I"⟩ ∈ a_w0 := a_w0_in (List.mem_append_right _ (List.mem_of_getElem? (i := 1013) (by decide +kernel))) rfl
theorem w_1014 : Cond.selects "LedTables$Plan" ⟨"LedTables$Plan", "stagesFor", "(II)I"⟩ ⟨"LedTables$Plan", "stagesFor", "(II)I"⟩ ∈ a_w0 := a_w0_in (List.mem_append_right _ (List.mem_of_getElem? (i := 1014) (by decide +kernel))) rfl
theorem lv_Pla_62 : a_lv R_Pla 62 M_Pla_stagesFor 2 := ⟨w_1012, w_1013, w_1014, cm_Pla_stagesFor⟩
theorem w_1016 : Cond.methodLink "LedTables$Plan" 65 ⟨"LedTables$Plan", "stageOf", "(II)I"⟩ ∈ a_w0 := a_w0_in (List.mem_append_right _ (List.mem_of_getElem? (i := 1016) (by decide +kernel))) rfl
theorem w_1017 : Cond.static ⟨"LedTables$Plan", "stageOf", "(II)I"⟩ ∈ a_w0 := a_w0_in (List.mem_append_right _ (List.mem_of_getElem? (i := 1017) (by decide +kernel))) rfl
theorem ls_Pla_65 : a_ls R_Pla 65 M_Pla_stageOf 2 := ⟨w_1016, w_1017, cm_Pla_stageOf⟩
theorem w_1019 : Cond.methodLink "LedTables$Plan" 68 ⟨"LedTables$Plan", "keepsPairs", "(I)Z"⟩ ∈ a_w0 := a_w0_in (List.mem_append_right _ (List.mem_of_getElem? (i := 1019) (by decide +kernel))) rfl
theorem w_1020 : Cond.instanceMethod ⟨"LedTables$Plan", "keepsPairs", "(I)Z"⟩ ∈ a_w0 := a_w0_in (List.mem_append_right _ (List.mem_of_getElem? (i := 1020) (by decide +kernel))) rfl
theorem w_1021 : Cond.selects "LedTables$Plan" ⟨"LedTables$Plan", "keepsPairs", "(I)Z"⟩ ⟨"LedTables$Plan", "keepsPairs", "(I)Z"⟩ ∈ a_w0 := a_w0_in (List.mem_append_right _ (List.mem_of_getElem? (i := 1021) (by decide +kernel))) rfl
theorem lv_Pla_68 : a_lv R_Pla 68 M_Pla_keepsPairs 1 := ⟨w_1019, w_1020, w_1021, cm_Pla_keepsPairs⟩
theorem w_1023 : Cond.methodLink "LedTables$Plan" 72 ⟨"LedTables$Plan", "isUnderWay", "(I)Z"⟩ ∈ a_w0 := a_w0_in (List.mem_append_right _ (List.mem_of_getElem? (i := 1023) (by decide +kernel))) rfl
theorem w_1024 : Cond.static ⟨"LedTables$Plan", "isUnderWay", "(I)Z"⟩ ∈ a_w0 := a_w0_in (List.mem_append_right _ (List.mem_of_getElem? (i := 1024) (by decide +kernel))) rfl
theorem ls_Pla_72 : a_ls R_Pla 72 M_Pla_isUnderWay 1 := ⟨w_1023, w_1024, cm_Pla_isUnderWay⟩
theorem w_1026 : Cond.methodLink "LedTablesLaw" 192 ⟨"LedTablesLaw", "way", "(LLedTables;III[J)I"⟩ ∈ a_w0 := a_w0_in (List.mem_append_right _ (List.mem_of_getElem? (i := 1026) (by decide +kernel))) rfl
theorem w_1027 : Cond.static ⟨"LedTablesLaw", "way", "(LLedTables;III[J)I"⟩ ∈ a_w0 := a_w0_in (List.mem_append_right _ (List.mem_of_getElem? (i := 1027) (by decide +kernel))) rfl
theorem w_1028 : Cond.codeWith ⟨"LedTablesLaw", "way", "(LLedTables;III[J)I"⟩ method_14_code 6 (some .int) [((0), (12), (15), (13))] ∈ a_w0 := a_w0_in (List.mem_append_right _ (List.mem_of_getElem? (i := 1028) (by decide +kernel))) rfl
theorem lh_Law_192 : a_lh R_Law 192 M_Law_way 5 := ⟨w_1026, w_1027, w_1028, by decide, w_0, by decide, by decide +kernel, by decide +kernel, by decide +kernel⟩
theorem w_1029 : Cond.methodLink "LedTablesLaw" 58 ⟨"LedTables", "way", "(III)I"⟩ ∈ a_w0 := a_w0_in (List.mem_append_right _ (List.mem_of_getElem? (i := 1029) (by decide +kernel))) rfl
theorem w_1030 : Cond.instanceMethod ⟨"LedTables", "way", "(III)I"⟩ ∈ a_w0 := a_w0_in (List.mem_append_right _ (List.mem_of_getElem? (i := 1030) (by decide +kernel))) rfl
theorem w_1031 : Cond.selects "LedTables" ⟨"LedTables", "way", "(III)I"⟩ ⟨"LedTables", "way", "(III)I"⟩ ∈ a_w0 := a_w0_in (List.mem_append_right _ (List.mem_of_getElem? (i := 1031) (by decide +kernel))) rfl
theorem lv_Law_58 : a_lv R_Law 58 M_Led_way 3 := ⟨w_1029, w_1030, w_1031, cm_Led_way⟩
theorem w_1034 : Cond.methodLink "LedTables" 201 ⟨"LedTables", "worked", "()LLedTables$Ways;"⟩ ∈ a_w0 := a_w0_in (List.mem_append_right _ (List.mem_of_getElem? (i := 1034) (by decide +kernel))) rfl
theorem w_1036 : Cond.instanceMethod ⟨"LedTables", "worked", "()LLedTables$Ways;"⟩ ∈ a_w0 := a_w0_in (List.mem_append_right _ (List.mem_of_getElem? (i := 1036) (by decide +kernel))) rfl
theorem ws_43 : Cond.selects "LedTables" ⟨"LedTables", "worked", "()LLedTables$Ways;"⟩ ⟨"LedTables", "worked", "()LLedTables$Ways;"⟩ ∈ a_w0 := a_w0_in (List.mem_append_left _ (List.mem_of_getElem? (i := 43) (by decide +kernel))) rfl
theorem lv_Led_201 : a_lv R_Led 201 M_Led_worked 0 := ⟨w_1034, w_1036, ws_43, cm_Led_worked⟩
theorem w_1040 : Cond.methodLink "LedTables" 219 ⟨"LedTables$Ways", "<init>", "(LLedTables$Plan;)V"⟩ ∈ a_w0 := a_w0_in (List.mem_append_right _ (List.mem_of_getElem? (i := 1040) (by decide +kernel))) rfl
theorem w_1041 : Cond.instanceMethod ⟨"LedTables$Ways", "<init>", "(LLedTables$Plan;)V"⟩ ∈ a_w0 := a_w0_in (List.mem_append_right _ (List.mem_of_getElem? (i := 1041) (by decide +kernel))) rfl
theorem li_Led_219 : a_li R_Led 219 M_Way_init 1 := ⟨w_1040, w_1041, rfl, rfl, cm_Way_init⟩
theorem w_1043 : Cond.methodLink "LedTables$Ways" 5 ⟨"java/lang/Object", "<init>", "()V"⟩ ∈ a_w0 := a_w0_in (List.mem_append_right _ (List.mem_of_getElem? (i := 1043) (by decide +kernel))) rfl
theorem ob_Way_5 : Cond.methodLink R_Way 5 objectInit ∈ a_w0 := w_1043
theorem w_1072 : Cond.methodLink "LedTables" 222 ⟨"LedTables$Ways", "workIfStale", "()V"⟩ ∈ a_w0 := a_w0_in (List.mem_append_right _ (List.mem_of_getElem? (i := 1072) (by decide +kernel))) rfl
theorem w_1073 : Cond.instanceMethod ⟨"LedTables$Ways", "workIfStale", "()V"⟩ ∈ a_w0 := a_w0_in (List.mem_append_right _ (List.mem_of_getElem? (i := 1073) (by decide +kernel))) rfl
theorem w_1074 : Cond.selects "LedTables$Ways" ⟨"LedTables$Ways", "workIfStale", "()V"⟩ ⟨"LedTables$Ways", "workIfStale", "()V"⟩ ∈ a_w0 := a_w0_in (List.mem_append_right _ (List.mem_of_getElem? (i := 1074) (by decide +kernel))) rfl
theorem lv_Led_222 : a_lv R_Led 222 M_Way_workIfStale 0 := ⟨w_1072, w_1073, w_1074, cm_Way_workIfStale⟩
theorem w_1076 : Cond.methodLink "LedTables$Ways" 47 ⟨"LedTables$Plan", "manyNodes", "()I"⟩ ∈ a_w0 := a_w0_in (List.mem_append_right _ (List.mem_of_getElem? (i := 1076) (by decide +kernel))) rfl
theorem lv_Way_47 : a_lv R_Way 47 M_Pla_manyNodes 0 := ⟨w_1076, w_996, w_997, cm_Pla_manyNodes⟩
theorem w_1077 : Cond.methodLink "LedTables$Ways" 51 ⟨"java/lang/Math", "min", "(II)I"⟩ ∈ a_w0 := a_w0_in (List.mem_append_right _ (List.mem_of_getElem? (i := 1077) (by decide +kernel))) rfl
theorem mw_Way_51 : a_mw R_Way 51 Lib.Math.min.name Lib.Math.min.code := ⟨w_1077, w_353, w_15, w_354⟩
theorem w_1078 : Cond.methodLink "LedTables$Ways" 57 ⟨"LedTables$Plan", "keepsPairs", "(I)Z"⟩ ∈ a_w0 := a_w0_in (List.mem_append_right _ (List.mem_of_getElem? (i := 1078) (by decide +kernel))) rfl
theorem lv_Way_57 : a_lv R_Way 57 M_Pla_keepsPairs 1 := ⟨w_1078, w_1020, w_1021, cm_Pla_keepsPairs⟩
theorem w_1079 : Cond.methodLink "LedTables$Ways" 61 ⟨"LedTables$Plan", "manySets", "()I"⟩ ∈ a_w0 := a_w0_in (List.mem_append_right _ (List.mem_of_getElem? (i := 1079) (by decide +kernel))) rfl
theorem lv_Way_61 : a_lv R_Way 61 M_Pla_manySets 0 := ⟨w_1079, w_1005, w_1006, cm_Pla_manySets⟩
theorem w_1080 : Cond.methodLink "LedTables$Ways" 64 ⟨"LedTables$Ways", "beginSet", "(I)V"⟩ ∈ a_w0 := a_w0_in (List.mem_append_right _ (List.mem_of_getElem? (i := 1080) (by decide +kernel))) rfl
theorem w_1082 : Cond.instanceMethod ⟨"LedTables$Ways", "beginSet", "(I)V"⟩ ∈ a_w0 := a_w0_in (List.mem_append_right _ (List.mem_of_getElem? (i := 1082) (by decide +kernel))) rfl
theorem ws_44 : Cond.selects "LedTables$Ways" ⟨"LedTables$Ways", "beginSet", "(I)V"⟩ ⟨"LedTables$Ways", "beginSet", "(I)V"⟩ ∈ a_w0 := a_w0_in (List.mem_append_left _ (List.mem_of_getElem? (i := 44) (by decide +kernel))) rfl
theorem lv_Way_64 : a_lv R_Way 64 M_Way_beginSet 1 := ⟨w_1080, w_1082, ws_44, cm_Way_beginSet⟩
theorem w_1084 : Cond.methodLink "LedTables$Ways" 71 ⟨"LedTables$Plan", "stagesFor", "(II)I"⟩ ∈ a_w0 := a_w0_in (List.mem_append_right _ (List.mem_of_getElem? (i := 1084) (by decide +kernel))) rfl
theorem lv_Way_71 : a_lv R_Way 71 M_Pla_stagesFor 2 := ⟨w_1084, w_1013, w_1014, cm_Pla_stagesFor⟩
theorem w_1085 : Cond.methodLink "LedTables$Ways" 74 ⟨"LedTables$Ways", "hasStages", "(I)Z"⟩ ∈ a_w0 := a_w0_in (List.mem_append_right _ (List.mem_of_getElem? (i := 1085) (by decide +kernel))) rfl
theorem w_1087 : Cond.instanceMethod ⟨"LedTables$Ways", "hasStages", "(I)Z"⟩ ∈ a_w0 := a_w0_in (List.mem_append_right _ (List.mem_of_getElem? (i := 1087) (by decide +kernel))) rfl
theorem ws_45 : Cond.selects "LedTables$Ways" ⟨"LedTables$Ways", "hasStages", "(I)Z"⟩ ⟨"LedTables$Ways", "hasStages", "(I)Z"⟩ ∈ a_w0 := a_w0_in (List.mem_append_left _ (List.mem_of_getElem? (i := 45) (by decide +kernel))) rfl
theorem lv_Way_74 : a_lv R_Way 74 M_Way_hasStages 1 := ⟨w_1085, w_1087, ws_45, cm_Way_hasStages⟩
theorem w_1089 : Cond.methodLink "LedTables$Ways" 92 ⟨"LedTables$Plan", "stageOf", "(II)I"⟩ ∈ a_w0 := a_w0_in (List.mem_append_right _ (List.mem_of_getElem? (i := 1089) (by decide +kernel))) rfl
theorem ls_Way_92 : a_ls R_Way 92 M_Pla_stageOf 2 := ⟨w_1089, w_1017, cm_Pla_stageOf⟩
theorem w_1091 : Cond.methodLink "LedTables$Ways" 81 ⟨"LedTables$Plan", "priceOf", "(I)I"⟩ ∈ a_w0 := a_w0_in (List.mem_append_right _ (List.mem_of_getElem? (i := 1091) (by decide +kernel))) rfl
theorem w_1092 : Cond.instanceMethod ⟨"LedTables$Plan", "priceOf", "(I)I"⟩ ∈ a_w0 := a_w0_in (List.mem_append_right _ (List.mem_of_getElem? (i := 1092) (by decide +kernel))) rfl
theorem w_1093 : Cond.selects "LedTables$Plan" ⟨"LedTables$Plan", "priceOf", "(I)I"⟩ ⟨"LedTables$Plan", "priceOf", "(I)I"⟩ ∈ a_w0 := a_w0_in (List.mem_append_right _ (List.mem_of_getElem? (i := 1093) (by decide +kernel))) rfl
theorem lv_Way_81 : a_lv R_Way 81 M_Pla_priceOf 1 := ⟨w_1091, w_1092, w_1093, cm_Pla_priceOf⟩
theorem w_1095 : Cond.methodLink "LedTables$Ways" 85 ⟨"LedTables$Ways", "learn", "(IIII)Z"⟩ ∈ a_w0 := a_w0_in (List.mem_append_right _ (List.mem_of_getElem? (i := 1095) (by decide +kernel))) rfl
theorem w_1097 : Cond.instanceMethod ⟨"LedTables$Ways", "learn", "(IIII)Z"⟩ ∈ a_w0 := a_w0_in (List.mem_append_right _ (List.mem_of_getElem? (i := 1097) (by decide +kernel))) rfl
theorem ws_46 : Cond.selects "LedTables$Ways" ⟨"LedTables$Ways", "learn", "(IIII)Z"⟩ ⟨"LedTables$Ways", "learn", "(IIII)Z"⟩ ∈ a_w0 := a_w0_in (List.mem_append_left _ (List.mem_of_getElem? (i := 46) (by decide +kernel))) rfl
theorem lv_Way_85 : a_lv R_Way 85 M_Way_learn 4 := ⟨w_1095, w_1097, ws_46, cm_Way_learn⟩
theorem w_1099 : Cond.methodLink "LedTables$Ways" 102 ⟨"LedTables$Ways", "isPlace", "(I)Z"⟩ ∈ a_w0 := a_w0_in (List.mem_append_right _ (List.mem_of_getElem? (i := 1099) (by decide +kernel))) rfl
theorem w_1100 : Cond.static ⟨"LedTables$Ways", "isPlace", "(I)Z"⟩ ∈ a_w0 := a_w0_in (List.mem_append_right _ (List.mem_of_getElem? (i := 1100) (by decide +kernel))) rfl
theorem ls_Way_102 : a_ls R_Way 102 M_Way_isPlace 1 := ⟨w_1099, w_1100, cm_Way_isPlace⟩
theorem w_1102 : Cond.methodLink "LedTables$Ways" 68 ⟨"LedTables$Ways", "settleSet", "(I)V"⟩ ∈ a_w0 := a_w0_in (List.mem_append_right _ (List.mem_of_getElem? (i := 1102) (by decide +kernel))) rfl
theorem w_1104 : Cond.instanceMethod ⟨"LedTables$Ways", "settleSet", "(I)V"⟩ ∈ a_w0 := a_w0_in (List.mem_append_right _ (List.mem_of_getElem? (i := 1104) (by decide +kernel))) rfl
theorem ws_47 : Cond.selects "LedTables$Ways" ⟨"LedTables$Ways", "settleSet", "(I)V"⟩ ⟨"LedTables$Ways", "settleSet", "(I)V"⟩ ∈ a_w0 := a_w0_in (List.mem_append_left _ (List.mem_of_getElem? (i := 47) (by decide +kernel))) rfl
theorem lv_Way_68 : a_lv R_Way 68 M_Way_settleSet 1 := ⟨w_1102, w_1104, ws_47, cm_Way_settleSet⟩
theorem w_1106 : Cond.methodLink "LedTables$Ways" 95 ⟨"LedTables$Ways", "nextOf", "(III)I"⟩ ∈ a_w0 := a_w0_in (List.mem_append_right _ (List.mem_of_getElem? (i := 1106) (by decide +kernel))) rfl
theorem w_1108 : Cond.instanceMethod ⟨"LedTables$Ways", "nextOf", "(III)I"⟩ ∈ a_w0 := a_w0_in (List.mem_append_right _ (List.mem_of_getElem? (i := 1108) (by decide +kernel))) rfl
theorem ws_48 : Cond.selects "LedTables$Ways" ⟨"LedTables$Ways", "nextOf", "(III)I"⟩ ⟨"LedTables$Ways", "nextOf", "(III)I"⟩ ∈ a_w0 := a_w0_in (List.mem_append_left _ (List.mem_of_getElem? (i := 48) (by decide +kernel))) rfl
theorem lv_Way_95 : a_lv R_Way 95 M_Way_nextOf 3 := ⟨w_1106, w_1108, ws_48, cm_Way_nextOf⟩
theorem w_1110 : Cond.methodLink "LedTables$Ways" 105 ⟨"LedTables$Plan", "power", "(I)I"⟩ ∈ a_w0 := a_w0_in (List.mem_append_right _ (List.mem_of_getElem? (i := 1110) (by decide +kernel))) rfl
theorem ls_Way_105 : a_ls R_Way 105 M_Pla_power 1 := ⟨w_1110, w_1000, cm_Pla_power⟩
theorem w_1111 : Cond.methodLink "LedTables$Ways" 99 ⟨"LedTables$Ways", "holdingOf", "(II)I"⟩ ∈ a_w0 := a_w0_in (List.mem_append_right _ (List.mem_of_getElem? (i := 1111) (by decide +kernel))) rfl
theorem w_1113 : Cond.instanceMethod ⟨"LedTables$Ways", "holdingOf", "(II)I"⟩ ∈ a_w0 := a_w0_in (List.mem_append_right _ (List.mem_of_getElem? (i := 1113) (by decide +kernel))) rfl
theorem ws_49 : Cond.selects "LedTables$Ways" ⟨"LedTables$Ways", "holdingOf", "(II)I"⟩ ⟨"LedTables$Ways", "holdingOf", "(II)I"⟩ ∈ a_w0 := a_w0_in (List.mem_append_left _ (List.mem_of_getElem? (i := 49) (by decide +kernel))) rfl
theorem lv_Way_99 : a_lv R_Way 99 M_Way_holdingOf 2 := ⟨w_1111, w_1113, ws_49, cm_Way_holdingOf⟩
theorem w_1115 : Cond.methodLink "LedTables$Ways" 108 ⟨"LedTables$Plan", "holdAt", "(II)I"⟩ ∈ a_w0 := a_w0_in (List.mem_append_right _ (List.mem_of_getElem? (i := 1115) (by decide +kernel))) rfl
theorem w_1116 : Cond.instanceMethod ⟨"LedTables$Plan", "holdAt", "(II)I"⟩ ∈ a_w0 := a_w0_in (List.mem_append_right _ (List.mem_of_getElem? (i := 1116) (by decide +kernel))) rfl
theorem w_1117 : Cond.selects "LedTables$Plan" ⟨"LedTables$Plan", "holdAt", "(II)I"⟩ ⟨"LedTables$Plan", "holdAt", "(II)I"⟩ ∈ a_w0 := a_w0_in (List.mem_append_right _ (List.mem_of_getElem? (i := 1117) (by decide +kernel))) rfl
theorem lv_Way_108 : a_lv R_Way 108 M_Pla_holdAt 2 := ⟨w_1115, w_1116, w_1117, cm_Pla_holdAt⟩
theorem w_1119 : Cond.methodLink "LedTables" 205 ⟨"LedTables$Ways", "partOfWay", "(III)I"⟩ ∈ a_w0 := a_w0_in (List.mem_append_right _ (List.mem_of_getElem? (i := 1119) (by decide +kernel))) rfl
theorem w_1120 : Cond.instanceMethod ⟨"LedTables$Ways", "partOfWay", "(III)I"⟩ ∈ a_w0 := a_w0_in (List.mem_append_right _ (List.mem_of_getElem? (i := 1120) (by decide +kernel))) rfl
theorem w_1121 : Cond.selects "LedTables$Ways" ⟨"LedTables$Ways", "partOfWay", "(III)I"⟩ ⟨"LedTables$Ways", "partOfWay", "(III)I"⟩ ∈ a_w0 := a_w0_in (List.mem_append_right _ (List.mem_of_getElem? (i := 1121) (by decide +kernel))) rfl
theorem lv_Led_205 : a_lv R_Led 205 M_Way_partOfWay 3 := ⟨w_1119, w_1120, w_1121, cm_Way_partOfWay⟩
theorem w_1123 : Cond.methodLink "LedTables$Ways" 111 ⟨"LedTables$Ways", "placeOf", "(II)I"⟩ ∈ a_w0 := a_w0_in (List.mem_append_right _ (List.mem_of_getElem? (i := 1123) (by decide +kernel))) rfl
theorem w_1125 : Cond.instanceMethod ⟨"LedTables$Ways", "placeOf", "(II)I"⟩ ∈ a_w0 := a_w0_in (List.mem_append_right _ (List.mem_of_getElem? (i := 1125) (by decide +kernel))) rfl
theorem ws_50 : Cond.selects "LedTables$Ways" ⟨"LedTables$Ways", "placeOf", "(II)I"⟩ ⟨"LedTables$Ways", "placeOf", "(II)I"⟩ ∈ a_w0 := a_w0_in (List.mem_append_left _ (List.mem_of_getElem? (i := 50) (by decide +kernel))) rfl
theorem lv_Way_111 : a_lv R_Way 111 M_Way_placeOf 2 := ⟨w_1123, w_1125, ws_50, cm_Way_placeOf⟩
theorem w_1127 : Cond.methodLink "LedTables$Ways" 114 ⟨"LedTables$Ways", "stepOfWay", "(II)I"⟩ ∈ a_w0 := a_w0_in (List.mem_append_right _ (List.mem_of_getElem? (i := 1127) (by decide +kernel))) rfl
theorem w_1129 : Cond.instanceMethod ⟨"LedTables$Ways", "stepOfWay", "(II)I"⟩ ∈ a_w0 := a_w0_in (List.mem_append_right _ (List.mem_of_getElem? (i := 1129) (by decide +kernel))) rfl
theorem ws_51 : Cond.selects "LedTables$Ways" ⟨"LedTables$Ways", "stepOfWay", "(II)I"⟩ ⟨"LedTables$Ways", "stepOfWay", "(II)I"⟩ ∈ a_w0 := a_w0_in (List.mem_append_left _ (List.mem_of_getElem? (i := 51) (by decide +kernel))) rfl
theorem lv_Way_114 : a_lv R_Way 114 M_Way_stepOfWay 2 := ⟨w_1127, w_1129, ws_51, cm_Way_stepOfWay⟩
theorem w_1131 : Cond.methodLink "LedTables$Ways" 117 ⟨"LedTables$Ways", "bestStep", "(I)I"⟩ ∈ a_w0 := a_w0_in (List.mem_append_right _ (List.mem_of_getElem? (i := 1131) (by decide +kernel))) rfl
theorem w_1133 : Cond.instanceMethod ⟨"LedTables$Ways", "bestStep", "(I)I"⟩ ∈ a_w0 := a_w0_in (List.mem_append_right _ (List.mem_of_getElem? (i := 1133) (by decide +kernel))) rfl
theorem ws_52 : Cond.selects "LedTables$Ways" ⟨"LedTables$Ways", "bestStep", "(I)I"⟩ ⟨"LedTables$Ways", "bestStep", "(I)I"⟩ ∈ a_w0 := a_w0_in (List.mem_append_left _ (List.mem_of_getElem? (i := 52) (by decide +kernel))) rfl
theorem lv_Way_117 : a_lv R_Way 117 M_Way_bestStep 1 := ⟨w_1131, w_1133, ws_52, cm_Way_bestStep⟩
theorem w_1135 : Cond.methodLink "LedTables$Ways" 123 ⟨"java/lang/Math", "max", "(II)I"⟩ ∈ a_w0 := a_w0_in (List.mem_append_right _ (List.mem_of_getElem? (i := 1135) (by decide +kernel))) rfl
theorem mw_Way_123 : a_mw R_Way 123 Lib.Math.max.name Lib.Math.max.code := ⟨w_1135, w_364, w_15, w_365⟩
theorem w_1136 : Cond.methodLink "LedTables$Ways" 120 ⟨"LedTables$Ways", "behind", "(II)I"⟩ ∈ a_w0 := a_w0_in (List.mem_append_right _ (List.mem_of_getElem? (i := 1136) (by decide +kernel))) rfl
theorem w_1138 : Cond.instanceMethod ⟨"LedTables$Ways", "behind", "(II)I"⟩ ∈ a_w0 := a_w0_in (List.mem_append_right _ (List.mem_of_getElem? (i := 1138) (by decide +kernel))) rfl
theorem ws_53 : Cond.selects "LedTables$Ways" ⟨"LedTables$Ways", "behind", "(II)I"⟩ ⟨"LedTables$Ways", "behind", "(II)I"⟩ ∈ a_w0 := a_w0_in (List.mem_append_left _ (List.mem_of_getElem? (i := 53) (by decide +kernel))) rfl
theorem lv_Way_120 : a_lv R_Way 120 M_Way_behind 2 := ⟨w_1136, w_1138, ws_53, cm_Way_behind⟩
theorem w_1140 : Cond.methodLink "LedTablesLaw" 195 ⟨"LedTablesLaw", "fewest", "(LLedTables;II[J)I"⟩ ∈ a_w0 := a_w0_in (List.mem_append_right _ (List.mem_of_getElem? (i := 1140) (by decide +kernel))) rfl
theorem w_1141 : Cond.static ⟨"LedTablesLaw", "fewest", "(LLedTables;II[J)I"⟩ ∈ a_w0 := a_w0_in (List.mem_append_right _ (List.mem_of_getElem? (i := 1141) (by decide +kernel))) rfl
theorem w_1142 : Cond.codeWith ⟨"LedTablesLaw", "fewest", "(LLedTables;II[J)I"⟩ method_15_code 5 (some .int) [((0), (10), (13), (13))] ∈ a_w0 := a_w0_in (List.mem_append_right _ (List.mem_of_getElem? (i := 1142) (by decide +kernel))) rfl
theorem lh_Law_195 : a_lh R_Law 195 M_Law_fewest 4 := ⟨w_1140, w_1141, w_1142, by decide, w_0, by decide, by decide +kernel, by decide +kernel, by decide +kernel⟩
theorem w_1143 : Cond.methodLink "LedTablesLaw" 61 ⟨"LedTables", "fewest", "(II)I"⟩ ∈ a_w0 := a_w0_in (List.mem_append_right _ (List.mem_of_getElem? (i := 1143) (by decide +kernel))) rfl
theorem w_1144 : Cond.instanceMethod ⟨"LedTables", "fewest", "(II)I"⟩ ∈ a_w0 := a_w0_in (List.mem_append_right _ (List.mem_of_getElem? (i := 1144) (by decide +kernel))) rfl
theorem w_1145 : Cond.selects "LedTables" ⟨"LedTables", "fewest", "(II)I"⟩ ⟨"LedTables", "fewest", "(II)I"⟩ ∈ a_w0 := a_w0_in (List.mem_append_right _ (List.mem_of_getElem? (i := 1145) (by decide +kernel))) rfl
theorem lv_Law_61 : a_lv R_Law 61 M_Led_fewest 2 := ⟨w_1143, w_1144, w_1145, cm_Led_fewest⟩
theorem w_1147 : Cond.methodLink "LedTables" 210 ⟨"LedTables$Ways", "fewestRewritten", "(II)I"⟩ ∈ a_w0 := a_w0_in (List.mem_append_right _ (List.mem_of_getElem? (i := 1147) (by decide +kernel))) rfl
theorem w_1148 : Cond.instanceMethod ⟨"LedTables$Ways", "fewestRewritten", "(II)I"⟩ ∈ a_w0 := a_w0_in (List.mem_append_right _ (List.mem_of_getElem? (i := 1148) (by decide +kernel))) rfl
theorem w_1149 : Cond.selects "LedTables$Ways" ⟨"LedTables$Ways", "fewestRewritten", "(II)I"⟩ ⟨"LedTables$Ways", "fewestRewritten", "(II)I"⟩ ∈ a_w0 := a_w0_in (List.mem_append_right _ (List.mem_of_getElem? (i := 1149) (by decide +kernel))) rfl
theorem lv_Led_210 : a_lv R_Led 210 M_Way_fewestRewritten 2 := ⟨w_1147, w_1148, w_1149, cm_Way_fewestRewritten⟩
theorem w_1151 : Cond.methodLink "LedTablesLaw" 198 ⟨"LedTablesLaw", "isBack", "(LLedTables;II[J)I"⟩ ∈ a_w0 := a_w0_in (List.mem_append_right _ (List.mem_of_getElem? (i := 1151) (by decide +kernel))) rfl
theorem w_1152 : Cond.static ⟨"LedTablesLaw", "isBack", "(LLedTables;II[J)I"⟩ ∈ a_w0 := a_w0_in (List.mem_append_right _ (List.mem_of_getElem? (i := 1152) (by decide +kernel))) rfl
theorem w_1153 : Cond.codeWith ⟨"LedTablesLaw", "isBack", "(LLedTables;II[J)I"⟩ method_16_code 5 (some .int) [((0), (17), (20), (13))] ∈ a_w0 := a_w0_in (List.mem_append_right _ (List.mem_of_getElem? (i := 1153) (by decide +kernel))) rfl
theorem lh_Law_198 : a_lh R_Law 198 M_Law_isBack 4 := ⟨w_1151, w_1152, w_1153, by decide, w_0, by decide, by decide +kernel, by decide +kernel, by decide +kernel⟩
theorem w_1154 : Cond.methodLink "LedTablesLaw" 64 ⟨"LedTables", "isBack", "(II)Z"⟩ ∈ a_w0 := a_w0_in (List.mem_append_right _ (List.mem_of_getElem? (i := 1154) (by decide +kernel))) rfl
theorem w_1155 : Cond.instanceMethod ⟨"LedTables", "isBack", "(II)Z"⟩ ∈ a_w0 := a_w0_in (List.mem_append_right _ (List.mem_of_getElem? (i := 1155) (by decide +kernel))) rfl
theorem w_1156 : Cond.selects "LedTables" ⟨"LedTables", "isBack", "(II)Z"⟩ ⟨"LedTables", "isBack", "(II)Z"⟩ ∈ a_w0 := a_w0_in (List.mem_append_right _ (List.mem_of_getElem? (i := 1156) (by decide +kernel))) rfl
theorem lv_Law_64 : a_lv R_Law 64 M_Led_isBack 2 := ⟨w_1154, w_1155, w_1156, cm_Led_isBack⟩
theorem w_1158 : Cond.methodLink "LedTables" 213 ⟨"LedTables$Ways", "hasBack", "(II)Z"⟩ ∈ a_w0 := a_w0_in (List.mem_append_right _ (List.mem_of_getElem? (i := 1158) (by decide +kernel))) rfl
theorem w_1159 : Cond.instanceMethod ⟨"LedTables$Ways", "hasBack", "(II)Z"⟩ ∈ a_w0 := a_w0_in (List.mem_append_right _ (List.mem_of_getElem? (i := 1159) (by decide +kernel))) rfl
theorem w_1160 : Cond.selects "LedTables$Ways" ⟨"LedTables$Ways", "hasBack", "(II)Z"⟩ ⟨"LedTables$Ways", "hasBack", "(II)Z"⟩ ∈ a_w0 := a_w0_in (List.mem_append_right _ (List.mem_of_getElem? (i := 1160) (by decide +kernel))) rfl
theorem lv_Led_213 : a_lv R_Led 213 M_Way_hasBack 2 := ⟨w_1158, w_1159, w_1160, cm_Way_hasBack⟩
theorem w_1162 : Cond.methodLink "LedTablesLaw" 201 ⟨"LedTablesLaw", "last", "(LLedTables;II[J)I"⟩ ∈ a_w0 := a_w0_in (List.mem_append_right _ (List.mem_of_getElem? (i := 1162) (by decide +kernel))) rfl
theorem w_1163 : Cond.static ⟨"LedTablesLaw", "last", "(LLedTables;II[J)I"⟩ ∈ a_w0 := a_w0_in (List.mem_append_right _ (List.mem_of_getElem? (i := 1163) (by decide +kernel))) rfl
theorem w_1164 : Cond.codeWith ⟨"LedTablesLaw", "last", "(LLedTables;II[J)I"⟩ method_17_code 5 (some .int) [((0), (10), (13), (13))] ∈ a_w0 := a_w0_in (List.mem_append_right _ (List.mem_of_getElem? (i := 1164) (by decide +kernel))) rfl
theorem lh_Law_201 : a_lh R_Law 201 M_Law_last 4 := ⟨w_1162, w_1163, w_1164, by decide, w_0, by decide, by decide +kernel, by decide +kernel, by decide +kernel⟩
theorem w_1165 : Cond.methodLink "LedTablesLaw" 67 ⟨"LedTables", "last", "(II)I"⟩ ∈ a_w0 := a_w0_in (List.mem_append_right _ (List.mem_of_getElem? (i := 1165) (by decide +kernel))) rfl
theorem w_1166 : Cond.instanceMethod ⟨"LedTables", "last", "(II)I"⟩ ∈ a_w0 := a_w0_in (List.mem_append_right _ (List.mem_of_getElem? (i := 1166) (by decide +kernel))) rfl
theorem w_1167 : Cond.selects "LedTables" ⟨"LedTables", "last", "(II)I"⟩ ⟨"LedTables", "last", "(II)I"⟩ ∈ a_w0 := a_w0_in (List.mem_append_right _ (List.mem_of_getElem? (i := 1167) (by decide +kernel))) rfl
theorem lv_Law_67 : a_lv R_Law 67 M_Led_last 2 := ⟨w_1165, w_1166, w_1167, cm_Led_last⟩
theorem w_1169 : Cond.methodLink "LedTables" 216 ⟨"LedTables$Ways", "lastBack", "(II)I"⟩ ∈ a_w0 := a_w0_in (List.mem_append_right _ (List.mem_of_getElem? (i := 1169) (by decide +kernel))) rfl
theorem w_1170 : Cond.instanceMethod ⟨"LedTables$Ways", "lastBack", "(II)I"⟩ ∈ a_w0 := a_w0_in (List.mem_append_right _ (List.mem_of_getElem? (i := 1170) (by decide +kernel))) rfl
theorem w_1171 : Cond.selects "LedTables$Ways" ⟨"LedTables$Ways", "lastBack", "(II)I"⟩ ⟨"LedTables$Ways", "lastBack", "(II)I"⟩ ∈ a_w0 := a_w0_in (List.mem_append_right _ (List.mem_of_getElem? (i := 1171) (by decide +kernel))) rfl
theorem lv_Led_216 : a_lv R_Led 216 M_Way_lastBack 2 := ⟨w_1169, w_1170, w_1171, cm_Way_lastBack⟩
theorem w_1173 : Cond.methodLink "LedTablesLaw" 212 ⟨"LedTablesLaw", "insert", "(LLedTables;I[J)I"⟩ ∈ a_w0 := a_w0_in (List.mem_append_right _ (List.mem_of_getElem? (i := 1173) (by decide +kernel))) rfl
theorem w_1174 : Cond.static ⟨"LedTablesLaw", "insert", "(LLedTables;I[J)I"⟩ ∈ a_w0 := a_w0_in (List.mem_append_right _ (List.mem_of_getElem? (i := 1174) (by decide +kernel))) rfl
theorem w_1175 : Cond.codeWith ⟨"LedTablesLaw", "insert", "(LLedTables;I[J)I"⟩ method_18_code 4 (some .int) [((0), (9), (12), (49))] ∈ a_w0 := a_w0_in (List.mem_append_right _ (List.mem_of_getElem? (i := 1175) (by decide +kernel))) rfl
theorem lh_Law_212 : a_lh R_Law 212 M_Law_insert 3 := ⟨w_1173, w_1174, w_1175, by decide, w_0, by decide, by decide +kernel, by decide +kernel, by decide +kernel⟩
theorem w_1176 : Cond.methodLink "LedTablesLaw" 70 ⟨"LedTables", "insert", "(I)I"⟩ ∈ a_w0 := a_w0_in (List.mem_append_right _ (List.mem_of_getElem? (i := 1176) (by decide +kernel))) rfl
theorem w_1177 : Cond.instanceMethod ⟨"LedTables", "insert", "(I)I"⟩ ∈ a_w0 := a_w0_in (List.mem_append_right _ (List.mem_of_getElem? (i := 1177) (by decide +kernel))) rfl
theorem w_1178 : Cond.selects "LedTables" ⟨"LedTables", "insert", "(I)I"⟩ ⟨"LedTables", "insert", "(I)I"⟩ ∈ a_w0 := a_w0_in (List.mem_append_right _ (List.mem_of_getElem? (i := 1178) (by decide +kernel))) rfl
theorem lv_Law_70 : a_lv R_Law 70 M_Led_insert 1 := ⟨w_1176, w_1177, w_1178, cm_Led_insert⟩
theorem w_1180 : Cond.methodLink "LedTables" 231 ⟨"LedTables", "checkKey", "(I)V"⟩ ∈ a_w0 := a_w0_in (List.mem_append_right _ (List.mem_of_getElem? (i := 1180) (by decide +kernel))) rfl
theorem w_1181 : Cond.static ⟨"LedTables", "checkKey", "(I)V"⟩ ∈ a_w0 := a_w0_in (List.mem_append_right _ (List.mem_of_getElem? (i := 1181) (by decide +kernel))) rfl
theorem ls_Led_231 : a_ls R_Led 231 M_Led_checkKey 1 := ⟨w_1180, w_1181, cm_Led_checkKey⟩
theorem w_1184 : Cond.methodLink "LedTables" 234 ⟨"LedTables$Table", "addRow", "(I)I"⟩ ∈ a_w0 := a_w0_in (List.mem_append_right _ (List.mem_of_getElem? (i := 1184) (by decide +kernel))) rfl
theorem w_1185 : Cond.instanceMethod ⟨"LedTables$Table", "addRow", "(I)I"⟩ ∈ a_w0 := a_w0_in (List.mem_append_right _ (List.mem_of_getElem? (i := 1185) (by decide +kernel))) rfl
theorem w_1186 : Cond.selects "LedTables$Table" ⟨"LedTables$Table", "addRow", "(I)I"⟩ ⟨"LedTables$Table", "addRow", "(I)I"⟩ ∈ a_w0 := a_w0_in (List.mem_append_right _ (List.mem_of_getElem? (i := 1186) (by decide +kernel))) rfl
theorem lv_Led_234 : a_lv R_Led 234 M_Tab_addRow 1 := ⟨w_1184, w_1185, w_1186, cm_Tab_addRow⟩
theorem w_1188 : Cond.methodLink "LedTables$Table" 79 ⟨"LedTables$Table", "isThere", "(I)Z"⟩ ∈ a_w0 := a_w0_in (List.mem_append_right _ (List.mem_of_getElem? (i := 1188) (by decide +kernel))) rfl
theorem w_1189 : Cond.instanceMethod ⟨"LedTables$Table", "isThere", "(I)Z"⟩ ∈ a_w0 := a_w0_in (List.mem_append_right _ (List.mem_of_getElem? (i := 1189) (by decide +kernel))) rfl
theorem w_1190 : Cond.selects "LedTables$Table" ⟨"LedTables$Table", "isThere", "(I)Z"⟩ ⟨"LedTables$Table", "isThere", "(I)Z"⟩ ∈ a_w0 := a_w0_in (List.mem_append_right _ (List.mem_of_getElem? (i := 1190) (by decide +kernel))) rfl
theorem lv_Tab_79 : a_lv R_Tab 79 M_Tab_isThere 1 := ⟨w_1188, w_1189, w_1190, cm_Tab_isThere⟩
theorem w_1192 : Cond.methodLink "LedTables$Table" 82 ⟨"LedTables$Row", "begin", "()V"⟩ ∈ a_w0 := a_w0_in (List.mem_append_right _ (List.mem_of_getElem? (i := 1192) (by decide +kernel))) rfl
theorem w_1193 : Cond.instanceMethod ⟨"LedTables$Row", "begin", "()V"⟩ ∈ a_w0 := a_w0_in (List.mem_append_right _ (List.mem_of_getElem? (i := 1193) (by decide +kernel))) rfl
theorem w_1194 : Cond.selects "LedTables$Row" ⟨"LedTables$Row", "begin", "()V"⟩ ⟨"LedTables$Row", "begin", "()V"⟩ ∈ a_w0 := a_w0_in (List.mem_append_right _ (List.mem_of_getElem? (i := 1194) (by decide +kernel))) rfl
theorem lv_Tab_82 : a_lv R_Tab 82 M_Row_begin 0 := ⟨w_1192, w_1193, w_1194, cm_Row_begin⟩
theorem w_1196 : Cond.methodLink "LedTables$Row" 38 ⟨"LedTables$Row", "heal", "()V"⟩ ∈ a_w0 := a_w0_in (List.mem_append_right _ (List.mem_of_getElem? (i := 1196) (by decide +kernel))) rfl
theorem lv_Row_38 : a_lv R_Row 38 M_Row_heal 0 := ⟨w_1196, w_505, w_506, cm_Row_heal⟩
theorem w_1197 : Cond.methodLink "LedTables$Table" 85 ⟨"LedTables$Table", "seeAnew", "(LLedTables$Row;)V"⟩ ∈ a_w0 := a_w0_in (List.mem_append_right _ (List.mem_of_getElem? (i := 1197) (by decide +kernel))) rfl
theorem w_1199 : Cond.instanceMethod ⟨"LedTables$Table", "seeAnew", "(LLedTables$Row;)V"⟩ ∈ a_w0 := a_w0_in (List.mem_append_right _ (List.mem_of_getElem? (i := 1199) (by decide +kernel))) rfl
theorem ws_54 : Cond.selects "LedTables$Table" ⟨"LedTables$Table", "seeAnew", "(LLedTables$Row;)V"⟩ ⟨"LedTables$Table", "seeAnew", "(LLedTables$Row;)V"⟩ ∈ a_w0 := a_w0_in (List.mem_append_left _ (List.mem_of_getElem? (i := 54) (by decide +kernel))) rfl
theorem lv_Tab_85 : a_lv R_Tab 85 M_Tab_seeAnew 1 := ⟨w_1197, w_1199, ws_54, cm_Tab_seeAnew⟩
theorem w_1201 : Cond.methodLink "LedTables$Table" 107 ⟨"LedTables$Lens", "toBeside", "([I[I)V"⟩ ∈ a_w0 := a_w0_in (List.mem_append_right _ (List.mem_of_getElem? (i := 1201) (by decide +kernel))) rfl
theorem lv_Tab_107 : a_lv R_Tab 107 M_Len_toBeside 2 := ⟨w_1201, w_381, w_382, cm_Len_toBeside⟩
theorem w_1202 : Cond.methodLink "LedTables$Table" 89 ⟨"LedTables$Table", "lead", "(LLedTables$Row;)V"⟩ ∈ a_w0 := a_w0_in (List.mem_append_right _ (List.mem_of_getElem? (i := 1202) (by decide +kernel))) rfl
theorem w_1204 : Cond.instanceMethod ⟨"LedTables$Table", "lead", "(LLedTables$Row;)V"⟩ ∈ a_w0 := a_w0_in (List.mem_append_right _ (List.mem_of_getElem? (i := 1204) (by decide +kernel))) rfl
theorem ws_55 : Cond.selects "LedTables$Table" ⟨"LedTables$Table", "lead", "(LLedTables$Row;)V"⟩ ⟨"LedTables$Table", "lead", "(LLedTables$Row;)V"⟩ ∈ a_w0 := a_w0_in (List.mem_append_left _ (List.mem_of_getElem? (i := 55) (by decide +kernel))) rfl
theorem lv_Tab_89 : a_lv R_Tab 89 M_Tab_lead 1 := ⟨w_1202, w_1204, ws_55, cm_Tab_lead⟩
theorem w_1206 : Cond.methodLink "LedTables$Table" 110 ⟨"LedTables$Lens", "isRight", "([I[I)Z"⟩ ∈ a_w0 := a_w0_in (List.mem_append_right _ (List.mem_of_getElem? (i := 1206) (by decide +kernel))) rfl
theorem lv_Tab_110 : a_lv R_Tab 110 M_Len_isRight 2 := ⟨w_1206, w_417, w_418, cm_Len_isRight⟩
theorem w_1207 : Cond.methodLink "LedTablesLaw" 215 ⟨"LedTablesLaw", "delete", "(LLedTables;I[J)I"⟩ ∈ a_w0 := a_w0_in (List.mem_append_right _ (List.mem_of_getElem? (i := 1207) (by decide +kernel))) rfl
theorem w_1208 : Cond.static ⟨"LedTablesLaw", "delete", "(LLedTables;I[J)I"⟩ ∈ a_w0 := a_w0_in (List.mem_append_right _ (List.mem_of_getElem? (i := 1208) (by decide +kernel))) rfl
theorem w_1209 : Cond.codeWith ⟨"LedTablesLaw", "delete", "(LLedTables;I[J)I"⟩ method_19_code 4 (some .int) [((0), (16), (19), (49))] ∈ a_w0 := a_w0_in (List.mem_append_right _ (List.mem_of_getElem? (i := 1209) (by decide +kernel))) rfl
theorem lh_Law_215 : a_lh R_Law 215 M_Law_delete 3 := ⟨w_1207, w_1208, w_1209, by decide, w_0, by decide, by decide +kernel, by decide +kernel, by decide +kernel⟩
theorem w_1210 : Cond.methodLink "LedTablesLaw" 73 ⟨"LedTables", "delete", "(I)Z"⟩ ∈ a_w0 := a_w0_in (List.mem_append_right _ (List.mem_of_getElem? (i := 1210) (by decide +kernel))) rfl
theorem w_1211 : Cond.instanceMethod ⟨"LedTables", "delete", "(I)Z"⟩ ∈ a_w0 := a_w0_in (List.mem_append_right _ (List.mem_of_getElem? (i := 1211) (by decide +kernel))) rfl
theorem w_1212 : Cond.selects "LedTables" ⟨"LedTables", "delete", "(I)Z"⟩ ⟨"LedTables", "delete", "(I)Z"⟩ ∈ a_w0 := a_w0_in (List.mem_append_right _ (List.mem_of_getElem? (i := 1212) (by decide +kernel))) rfl
theorem lv_Law_73 : a_lv R_Law 73 M_Led_delete 1 := ⟨w_1210, w_1211, w_1212, cm_Led_delete⟩
theorem w_1214 : Cond.methodLink "LedTables" 237 ⟨"LedTables$Table", "dropRow", "(I)Z"⟩ ∈ a_w0 := a_w0_in (List.mem_append_right _ (List.mem_of_getElem? (i := 1214) (by decide +kernel))) rfl
theorem w_1215 : Cond.instanceMethod ⟨"LedTables$Table", "dropRow", "(I)Z"⟩ ∈ a_w0 := a_w0_in (List.mem_append_right _ (List.mem_of_getElem? (i := 1215) (by decide +kernel))) rfl
theorem w_1216 : Cond.selects "LedTables$Table" ⟨"LedTables$Table", "dropRow", "(I)Z"⟩ ⟨"LedTables$Table", "dropRow", "(I)Z"⟩ ∈ a_w0 := a_w0_in (List.mem_append_right _ (List.mem_of_getElem? (i := 1216) (by decide +kernel))) rfl
theorem lv_Led_237 : a_lv R_Led 237 M_Tab_dropRow 1 := ⟨w_1214, w_1215, w_1216, cm_Tab_dropRow⟩
theorem w_1218 : Cond.methodLink "LedTablesLaw" 218 ⟨"LedTablesLaw", "read", "(LLedTables;IIII[J)I"⟩ ∈ a_w0 := a_w0_in (List.mem_append_right _ (List.mem_of_getElem? (i := 1218) (by decide +kernel))) rfl
theorem w_1219 : Cond.static ⟨"LedTablesLaw", "read", "(LLedTables;IIII[J)I"⟩ ∈ a_w0 := a_w0_in (List.mem_append_right _ (List.mem_of_getElem? (i := 1219) (by decide +kernel))) rfl
theorem w_1220 : Cond.codeWith ⟨"LedTablesLaw", "read", "(LLedTables;IIII[J)I"⟩ method_20_code 7 (some .int) [((0), (14), (17), (49)), ((0), (14), (21), (13)), ((0), (14), (25), (40))] ∈ a_w0 := a_w0_in (List.mem_append_right _ (List.mem_of_getElem? (i := 1220) (by decide +kernel))) rfl
theorem lh_Law_218 : a_lh R_Law 218 M_Law_read 6 := ⟨w_1218, w_1219, w_1220, by decide, w_0, by decide, by decide +kernel, by decide +kernel, by decide +kernel⟩
theorem w_1221 : Cond.methodLink "LedTablesLaw" 77 ⟨"LedTables", "read", "(IIII)I"⟩ ∈ a_w0 := a_w0_in (List.mem_append_right _ (List.mem_of_getElem? (i := 1221) (by decide +kernel))) rfl
theorem w_1222 : Cond.instanceMethod ⟨"LedTables", "read", "(IIII)I"⟩ ∈ a_w0 := a_w0_in (List.mem_append_right _ (List.mem_of_getElem? (i := 1222) (by decide +kernel))) rfl
theorem w_1223 : Cond.selects "LedTables" ⟨"LedTables", "read", "(IIII)I"⟩ ⟨"LedTables", "read", "(IIII)I"⟩ ∈ a_w0 := a_w0_in (List.mem_append_right _ (List.mem_of_getElem? (i := 1223) (by decide +kernel))) rfl
theorem lv_Law_77 : a_lv R_Law 77 M_Led_read 4 := ⟨w_1221, w_1222, w_1223, cm_Led_read⟩
theorem w_1225 : Cond.methodLink "LedTables" 240 ⟨"LedTables", "checkAsked", "(III)V"⟩ ∈ a_w0 := a_w0_in (List.mem_append_right _ (List.mem_of_getElem? (i := 1225) (by decide +kernel))) rfl
theorem w_1226 : Cond.static ⟨"LedTables", "checkAsked", "(III)V"⟩ ∈ a_w0 := a_w0_in (List.mem_append_right _ (List.mem_of_getElem? (i := 1226) (by decide +kernel))) rfl
theorem ls_Led_240 : a_ls R_Led 240 M_Led_checkAsked 3 := ⟨w_1225, w_1226, cm_Led_checkAsked⟩
theorem w_1228 : Cond.methodLink "LedTables" 243 ⟨"LedTables", "checkThere", "(I)V"⟩ ∈ a_w0 := a_w0_in (List.mem_append_right _ (List.mem_of_getElem? (i := 1228) (by decide +kernel))) rfl
theorem w_1230 : Cond.instanceMethod ⟨"LedTables", "checkThere", "(I)V"⟩ ∈ a_w0 := a_w0_in (List.mem_append_right _ (List.mem_of_getElem? (i := 1230) (by decide +kernel))) rfl
theorem ws_56 : Cond.selects "LedTables" ⟨"LedTables", "checkThere", "(I)V"⟩ ⟨"LedTables", "checkThere", "(I)V"⟩ ∈ a_w0 := a_w0_in (List.mem_append_left _ (List.mem_of_getElem? (i := 56) (by decide +kernel))) rfl
theorem lv_Led_243 : a_lv R_Led 243 M_Led_checkThere 1 := ⟨w_1228, w_1230, ws_56, cm_Led_checkThere⟩
theorem w_1232 : Cond.methodLink "LedTables" 324 ⟨"LedTables$Table", "isThere", "(I)Z"⟩ ∈ a_w0 := a_w0_in (List.mem_append_right _ (List.mem_of_getElem? (i := 1232) (by decide +kernel))) rfl
theorem lv_Led_324 : a_lv R_Led 324 M_Tab_isThere 1 := ⟨w_1232, w_1189, w_1190, cm_Tab_isThere⟩
theorem w_1234 : Cond.methodLink "LedTables" 246 ⟨"LedTables$Table", "readLetter", "(IIII)I"⟩ ∈ a_w0 := a_w0_in (List.mem_append_right _ (List.mem_of_getElem? (i := 1234) (by decide +kernel))) rfl
theorem w_1235 : Cond.instanceMethod ⟨"LedTables$Table", "readLetter", "(IIII)I"⟩ ∈ a_w0 := a_w0_in (List.mem_append_right _ (List.mem_of_getElem? (i := 1235) (by decide +kernel))) rfl
theorem w_1236 : Cond.selects "LedTables$Table" ⟨"LedTables$Table", "readLetter", "(IIII)I"⟩ ⟨"LedTables$Table", "readLetter", "(IIII)I"⟩ ∈ a_w0 := a_w0_in (List.mem_append_right _ (List.mem_of_getElem? (i := 1236) (by decide +kernel))) rfl
theorem lv_Led_246 : a_lv R_Led 246 M_Tab_readLetter 4 := ⟨w_1234, w_1235, w_1236, cm_Tab_readLetter⟩
theorem w_1238 : Cond.methodLink "LedTables$Table" 133 ⟨"LedTables$Asked", "note", "(IIIZI)V"⟩ ∈ a_w0 := a_w0_in (List.mem_append_right _ (List.mem_of_getElem? (i := 1238) (by decide +kernel))) rfl
theorem w_1239 : Cond.instanceMethod ⟨"LedTables$Asked", "note", "(IIIZI)V"⟩ ∈ a_w0 := a_w0_in (List.mem_append_right _ (List.mem_of_getElem? (i := 1239) (by decide +kernel))) rfl
theorem w_1240 : Cond.selects "LedTables$Asked" ⟨"LedTables$Asked", "note", "(IIIZI)V"⟩ ⟨"LedTables$Asked", "note", "(IIIZI)V"⟩ ∈ a_w0 := a_w0_in (List.mem_append_right _ (List.mem_of_getElem? (i := 1240) (by decide +kernel))) rfl
theorem lv_Tab_133 : a_lv R_Tab 133 M_Ask_note 5 := ⟨w_1238, w_1239, w_1240, cm_Ask_note⟩
theorem w_1242 : Cond.methodLink "LedTables$Table" 137 ⟨"LedTables$Table", "oldAsIf", "(LLedTables$Row;[I)V"⟩ ∈ a_w0 := a_w0_in (List.mem_append_right _ (List.mem_of_getElem? (i := 1242) (by decide +kernel))) rfl
theorem w_1244 : Cond.instanceMethod ⟨"LedTables$Table", "oldAsIf", "(LLedTables$Row;[I)V"⟩ ∈ a_w0 := a_w0_in (List.mem_append_right _ (List.mem_of_getElem? (i := 1244) (by decide +kernel))) rfl
theorem ws_57 : Cond.selects "LedTables$Table" ⟨"LedTables$Table", "oldAsIf", "(LLedTables$Row;[I)V"⟩ ⟨"LedTables$Table", "oldAsIf", "(LLedTables$Row;[I)V"⟩ ∈ a_w0 := a_w0_in (List.mem_append_left _ (List.mem_of_getElem? (i := 57) (by decide +kernel))) rfl
theorem lv_Tab_137 : a_lv R_Tab 137 M_Tab_oldAsIf 2 := ⟨w_1242, w_1244, ws_57, cm_Tab_oldAsIf⟩
theorem w_1246 : Cond.methodLink "LedTables$Table" 114 ⟨"LedTables$Row", "hasOld", "()Z"⟩ ∈ a_w0 := a_w0_in (List.mem_append_right _ (List.mem_of_getElem? (i := 1246) (by decide +kernel))) rfl
theorem w_1247 : Cond.instanceMethod ⟨"LedTables$Row", "hasOld", "()Z"⟩ ∈ a_w0 := a_w0_in (List.mem_append_right _ (List.mem_of_getElem? (i := 1247) (by decide +kernel))) rfl
theorem w_1248 : Cond.selects "LedTables$Row" ⟨"LedTables$Row", "hasOld", "()Z"⟩ ⟨"LedTables$Row", "hasOld", "()Z"⟩ ∈ a_w0 := a_w0_in (List.mem_append_right _ (List.mem_of_getElem? (i := 1248) (by decide +kernel))) rfl
theorem lv_Tab_114 : a_lv R_Tab 114 M_Row_hasOld 0 := ⟨w_1246, w_1247, w_1248, cm_Row_hasOld⟩
theorem w_1250 : Cond.methodLink "LedTables$Table" 117 ⟨"LedTables$Table", "copyLetters", "([I[I)V"⟩ ∈ a_w0 := a_w0_in (List.mem_append_right _ (List.mem_of_getElem? (i := 1250) (by decide +kernel))) rfl
theorem w_1251 : Cond.static ⟨"LedTables$Table", "copyLetters", "([I[I)V"⟩ ∈ a_w0 := a_w0_in (List.mem_append_right _ (List.mem_of_getElem? (i := 1251) (by decide +kernel))) rfl
theorem ls_Tab_117 : a_ls R_Tab 117 M_Tab_copyLetters 2 := ⟨w_1250, w_1251, cm_Tab_copyLetters⟩
theorem w_1253 : Cond.methodLink "LedTables$Table" 127 ⟨"java/lang/System", "arraycopy", "(Ljava/lang/Object;ILjava/lang/Object;II)V"⟩ ∈ a_w0 := a_w0_in (List.mem_append_right _ (List.mem_of_getElem? (i := 1253) (by decide +kernel))) rfl
theorem yw_Tab_127 : a_yw R_Tab 127 := ⟨w_1253, w_394, w_393, w_20⟩
theorem w_1254 : Cond.methodLink "LedTables$Table" 120 ⟨"LedTables$Lens", "toOld", "([I[I[I)V"⟩ ∈ a_w0 := a_w0_in (List.mem_append_right _ (List.mem_of_getElem? (i := 1254) (by decide +kernel))) rfl
theorem lv_Tab_120 : a_lv R_Tab 120 M_Len_toOld 3 := ⟨w_1254, w_840, w_841, cm_Len_toOld⟩
theorem w_1255 : Cond.methodLink "LedTables$Table" 141 ⟨"LedTables$Table", "newAsIf", "(LLedTables$Row;[I)V"⟩ ∈ a_w0 := a_w0_in (List.mem_append_right _ (List.mem_of_getElem? (i := 1255) (by decide +kernel))) rfl
theorem w_1257 : Cond.instanceMethod ⟨"LedTables$Table", "newAsIf", "(LLedTables$Row;[I)V"⟩ ∈ a_w0 := a_w0_in (List.mem_append_right _ (List.mem_of_getElem? (i := 1257) (by decide +kernel))) rfl
theorem ws_58 : Cond.selects "LedTables$Table" ⟨"LedTables$Table", "newAsIf", "(LLedTables$Row;[I)V"⟩ ⟨"LedTables$Table", "newAsIf", "(LLedTables$Row;[I)V"⟩ ∈ a_w0 := a_w0_in (List.mem_append_left _ (List.mem_of_getElem? (i := 58) (by decide +kernel))) rfl
theorem lv_Tab_141 : a_lv R_Tab 141 M_Tab_newAsIf 2 := ⟨w_1255, w_1257, ws_58, cm_Tab_newAsIf⟩
theorem w_1259 : Cond.methodLink "LedTables$Table" 124 ⟨"LedTables$Row", "hasNew", "()Z"⟩ ∈ a_w0 := a_w0_in (List.mem_append_right _ (List.mem_of_getElem? (i := 1259) (by decide +kernel))) rfl
theorem w_1260 : Cond.instanceMethod ⟨"LedTables$Row", "hasNew", "()Z"⟩ ∈ a_w0 := a_w0_in (List.mem_append_right _ (List.mem_of_getElem? (i := 1260) (by decide +kernel))) rfl
theorem w_1261 : Cond.selects "LedTables$Row" ⟨"LedTables$Row", "hasNew", "()Z"⟩ ⟨"LedTables$Row", "hasNew", "()Z"⟩ ∈ a_w0 := a_w0_in (List.mem_append_right _ (List.mem_of_getElem? (i := 1261) (by decide +kernel))) rfl
theorem lv_Tab_124 : a_lv R_Tab 124 M_Row_hasNew 0 := ⟨w_1259, w_1260, w_1261, cm_Row_hasNew⟩
theorem w_1263 : Cond.methodLink "LedTablesLaw" 222 ⟨"LedTablesLaw", "write", "(LLedTables;IIIII[J)I"⟩ ∈ a_w0 := a_w0_in (List.mem_append_right _ (List.mem_of_getElem? (i := 1263) (by decide +kernel))) rfl
theorem w_1264 : Cond.static ⟨"LedTablesLaw", "write", "(LLedTables;IIIII[J)I"⟩ ∈ a_w0 := a_w0_in (List.mem_append_right _ (List.mem_of_getElem? (i := 1264) (by decide +kernel))) rfl
theorem w_1265 : Cond.codeWith ⟨"LedTablesLaw", "write", "(LLedTables;IIIII[J)I"⟩ method_21_code 8 (some .int) [((0), (16), (19), (49)), ((0), (16), (23), (13)), ((0), (16), (27), (40))] ∈ a_w0 := a_w0_in (List.mem_append_right _ (List.mem_of_getElem? (i := 1265) (by decide +kernel))) rfl
theorem lh_Law_222 : a_lh R_Law 222 M_Law_write 7 := ⟨w_1263, w_1264, w_1265, by decide, w_0, by decide, by decide +kernel, by decide +kernel, by decide +kernel⟩
theorem w_1266 : Cond.methodLink "LedTablesLaw" 81 ⟨"LedTables", "write", "(IIIII)I"⟩ ∈ a_w0 := a_w0_in (List.mem_append_right _ (List.mem_of_getElem? (i := 1266) (by decide +kernel))) rfl
theorem w_1267 : Cond.instanceMethod ⟨"LedTables", "write", "(IIIII)I"⟩ ∈ a_w0 := a_w0_in (List.mem_append_right _ (List.mem_of_getElem? (i := 1267) (by decide +kernel))) rfl
theorem w_1268 : Cond.selects "LedTables" ⟨"LedTables", "write", "(IIIII)I"⟩ ⟨"LedTables", "write", "(IIIII)I"⟩ ∈ a_w0 := a_w0_in (List.mem_append_right _ (List.mem_of_getElem? (i := 1268) (by decide +kernel))) rfl
theorem lv_Law_81 : a_lv R_Law 81 M_Led_write 5 := ⟨w_1266, w_1267, w_1268, cm_Led_write⟩
theorem w_1272 : Cond.methodLink "LedTables" 252 ⟨"LedTables$Table", "writeLetter", "(IIIII)Z"⟩ ∈ a_w0 := a_w0_in (List.mem_append_right _ (List.mem_of_getElem? (i := 1272) (by decide +kernel))) rfl
theorem w_1273 : Cond.instanceMethod ⟨"LedTables$Table", "writeLetter", "(IIIII)Z"⟩ ∈ a_w0 := a_w0_in (List.mem_append_right _ (List.mem_of_getElem? (i := 1273) (by decide +kernel))) rfl
theorem w_1274 : Cond.selects "LedTables$Table" ⟨"LedTables$Table", "writeLetter", "(IIIII)Z"⟩ ⟨"LedTables$Table", "writeLetter", "(IIIII)Z"⟩ ∈ a_w0 := a_w0_in (List.mem_append_right _ (List.mem_of_getElem? (i := 1274) (by decide +kernel))) rfl
theorem lv_Led_252 : a_lv R_Led 252 M_Tab_writeLetter 5 := ⟨w_1272, w_1273, w_1274, cm_Tab_writeLetter⟩
theorem w_1276 : Cond.methodLink "LedTables$Table" 147 ⟨"LedTables$Row", "isWritten", "(II)Z"⟩ ∈ a_w0 := a_w0_in (List.mem_append_right _ (List.mem_of_getElem? (i := 1276) (by decide +kernel))) rfl
theorem w_1277 : Cond.instanceMethod ⟨"LedTables$Row", "isWritten", "(II)Z"⟩ ∈ a_w0 := a_w0_in (List.mem_append_right _ (List.mem_of_getElem? (i := 1277) (by decide +kernel))) rfl
theorem w_1278 : Cond.selects "LedTables$Row" ⟨"LedTables$Row", "isWritten", "(II)Z"⟩ ⟨"LedTables$Row", "isWritten", "(II)Z"⟩ ∈ a_w0 := a_w0_in (List.mem_append_right _ (List.mem_of_getElem? (i := 1278) (by decide +kernel))) rfl
theorem lv_Tab_147 : a_lv R_Tab 147 M_Row_isWritten 2 := ⟨w_1276, w_1277, w_1278, cm_Row_isWritten⟩
theorem w_1280 : Cond.methodLink "LedTables$Table" 151 ⟨"LedTables$Row", "noteWritten", "(II)V"⟩ ∈ a_w0 := a_w0_in (List.mem_append_right _ (List.mem_of_getElem? (i := 1280) (by decide +kernel))) rfl
theorem w_1281 : Cond.instanceMethod ⟨"LedTables$Row", "noteWritten", "(II)V"⟩ ∈ a_w0 := a_w0_in (List.mem_append_right _ (List.mem_of_getElem? (i := 1281) (by decide +kernel))) rfl
theorem w_1282 : Cond.selects "LedTables$Row" ⟨"LedTables$Row", "noteWritten", "(II)V"⟩ ⟨"LedTables$Row", "noteWritten", "(II)V"⟩ ∈ a_w0 := a_w0_in (List.mem_append_right _ (List.mem_of_getElem? (i := 1282) (by decide +kernel))) rfl
theorem lv_Tab_151 : a_lv R_Tab 151 M_Row_noteWritten 2 := ⟨w_1280, w_1281, w_1282, cm_Row_noteWritten⟩
theorem w_1284 : Cond.methodLink "LedTables$Table" 155 ⟨"LedTables$Table", "writeOld", "(LLedTables$Row;II)V"⟩ ∈ a_w0 := a_w0_in (List.mem_append_right _ (List.mem_of_getElem? (i := 1284) (by decide +kernel))) rfl
theorem w_1286 : Cond.instanceMethod ⟨"LedTables$Table", "writeOld", "(LLedTables$Row;II)V"⟩ ∈ a_w0 := a_w0_in (List.mem_append_right _ (List.mem_of_getElem? (i := 1286) (by decide +kernel))) rfl
theorem ws_59 : Cond.selects "LedTables$Table" ⟨"LedTables$Table", "writeOld", "(LLedTables$Row;II)V"⟩ ⟨"LedTables$Table", "writeOld", "(LLedTables$Row;II)V"⟩ ∈ a_w0 := a_w0_in (List.mem_append_left _ (List.mem_of_getElem? (i := 59) (by decide +kernel))) rfl
theorem lv_Tab_155 : a_lv R_Tab 155 M_Tab_writeOld 3 := ⟨w_1284, w_1286, ws_59, cm_Tab_writeOld⟩
theorem w_1288 : Cond.methodLink "LedTables$Table" 159 ⟨"LedTables$Table", "writeNew", "(LLedTables$Row;II)V"⟩ ∈ a_w0 := a_w0_in (List.mem_append_right _ (List.mem_of_getElem? (i := 1288) (by decide +kernel))) rfl
theorem w_1290 : Cond.instanceMethod ⟨"LedTables$Table", "writeNew", "(LLedTables$Row;II)V"⟩ ∈ a_w0 := a_w0_in (List.mem_append_right _ (List.mem_of_getElem? (i := 1290) (by decide +kernel))) rfl
theorem ws_60 : Cond.selects "LedTables$Table" ⟨"LedTables$Table", "writeNew", "(LLedTables$Row;II)V"⟩ ⟨"LedTables$Table", "writeNew", "(LLedTables$Row;II)V"⟩ ∈ a_w0 := a_w0_in (List.mem_append_left _ (List.mem_of_getElem? (i := 60) (by decide +kernel))) rfl
theorem lv_Tab_159 : a_lv R_Tab 159 M_Tab_writeNew 3 := ⟨w_1288, w_1290, ws_60, cm_Tab_writeNew⟩
theorem w_1292 : Cond.methodLink "LedTables$Table" 165 ⟨"LedTables$Table", "besideAsIf", "(LLedTables$Row;[I)V"⟩ ∈ a_w0 := a_w0_in (List.mem_append_right _ (List.mem_of_getElem? (i := 1292) (by decide +kernel))) rfl
theorem w_1294 : Cond.instanceMethod ⟨"LedTables$Table", "besideAsIf", "(LLedTables$Row;[I)V"⟩ ∈ a_w0 := a_w0_in (List.mem_append_right _ (List.mem_of_getElem? (i := 1294) (by decide +kernel))) rfl
theorem ws_61 : Cond.selects "LedTables$Table" ⟨"LedTables$Table", "besideAsIf", "(LLedTables$Row;[I)V"⟩ ⟨"LedTables$Table", "besideAsIf", "(LLedTables$Row;[I)V"⟩ ∈ a_w0 := a_w0_in (List.mem_append_left _ (List.mem_of_getElem? (i := 61) (by decide +kernel))) rfl
theorem lv_Tab_165 : a_lv R_Tab 165 M_Tab_besideAsIf 2 := ⟨w_1292, w_1294, ws_61, cm_Tab_besideAsIf⟩
theorem w_1296 : Cond.methodLink "LedTables$Table" 162 ⟨"LedTables$Row", "breakBy", "(II)V"⟩ ∈ a_w0 := a_w0_in (List.mem_append_right _ (List.mem_of_getElem? (i := 1296) (by decide +kernel))) rfl
theorem w_1297 : Cond.instanceMethod ⟨"LedTables$Row", "breakBy", "(II)V"⟩ ∈ a_w0 := a_w0_in (List.mem_append_right _ (List.mem_of_getElem? (i := 1297) (by decide +kernel))) rfl
theorem w_1298 : Cond.selects "LedTables$Row" ⟨"LedTables$Row", "breakBy", "(II)V"⟩ ⟨"LedTables$Row", "breakBy", "(II)V"⟩ ∈ a_w0 := a_w0_in (List.mem_append_right _ (List.mem_of_getElem? (i := 1298) (by decide +kernel))) rfl
theorem lv_Tab_162 : a_lv R_Tab 162 M_Row_breakBy 2 := ⟨w_1296, w_1297, w_1298, cm_Row_breakBy⟩
theorem w_1300 : Cond.methodLink "LedTables$Row" 41 ⟨"LedTables$Row", "isBroken", "()Z"⟩ ∈ a_w0 := a_w0_in (List.mem_append_right _ (List.mem_of_getElem? (i := 1300) (by decide +kernel))) rfl
theorem lv_Row_41 : a_lv R_Row 41 M_Row_isBroken 0 := ⟨w_1300, w_457, w_458, cm_Row_isBroken⟩
theorem w_1301 : Cond.methodLink "LedTablesLaw" 225 ⟨"LedTablesLaw", "first", "(LLedTables;I[J)I"⟩ ∈ a_w0 := a_w0_in (List.mem_append_right _ (List.mem_of_getElem? (i := 1301) (by decide +kernel))) rfl
theorem w_1302 : Cond.static ⟨"LedTablesLaw", "first", "(LLedTables;I[J)I"⟩ ∈ a_w0 := a_w0_in (List.mem_append_right _ (List.mem_of_getElem? (i := 1302) (by decide +kernel))) rfl
theorem w_1303 : Cond.codeWith ⟨"LedTablesLaw", "first", "(LLedTables;I[J)I"⟩ method_22_code 4 (some .int) [((0), (9), (12), (13))] ∈ a_w0 := a_w0_in (List.mem_append_right _ (List.mem_of_getElem? (i := 1303) (by decide +kernel))) rfl
theorem lh_Law_225 : a_lh R_Law 225 M_Law_first 3 := ⟨w_1301, w_1302, w_1303, by decide, w_0, by decide, by decide +kernel, by decide +kernel, by decide +kernel⟩
theorem w_1304 : Cond.methodLink "LedTablesLaw" 84 ⟨"LedTables", "first", "(I)I"⟩ ∈ a_w0 := a_w0_in (List.mem_append_right _ (List.mem_of_getElem? (i := 1304) (by decide +kernel))) rfl
theorem w_1305 : Cond.instanceMethod ⟨"LedTables", "first", "(I)I"⟩ ∈ a_w0 := a_w0_in (List.mem_append_right _ (List.mem_of_getElem? (i := 1305) (by decide +kernel))) rfl
theorem w_1306 : Cond.selects "LedTables" ⟨"LedTables", "first", "(I)I"⟩ ⟨"LedTables", "first", "(I)I"⟩ ∈ a_w0 := a_w0_in (List.mem_append_right _ (List.mem_of_getElem? (i := 1306) (by decide +kernel))) rfl
theorem lv_Law_84 : a_lv R_Law 84 M_Led_first 1 := ⟨w_1304, w_1305, w_1306, cm_Led_first⟩
theorem w_1308 : Cond.methodLink "LedTablesLaw" 228 ⟨"LedTablesLaw", "tick", "(LLedTables;I[J)I"⟩ ∈ a_w0 := a_w0_in (List.mem_append_right _ (List.mem_of_getElem? (i := 1308) (by decide +kernel))) rfl
theorem w_1309 : Cond.static ⟨"LedTablesLaw", "tick", "(LLedTables;I[J)I"⟩ ∈ a_w0 := a_w0_in (List.mem_append_right _ (List.mem_of_getElem? (i := 1309) (by decide +kernel))) rfl
theorem w_1310 : Cond.codeWith ⟨"LedTablesLaw", "tick", "(LLedTables;I[J)I"⟩ method_23_code 4 (some .int) [((0), (9), (12), (13)), ((0), (9), (15), (15))] ∈ a_w0 := a_w0_in (List.mem_append_right _ (List.mem_of_getElem? (i := 1310) (by decide +kernel))) rfl
theorem lh_Law_228 : a_lh R_Law 228 M_Law_tick 3 := ⟨w_1308, w_1309, w_1310, by decide, w_0, by decide, by decide +kernel, by decide +kernel, by decide +kernel⟩
theorem w_1311 : Cond.methodLink "LedTablesLaw" 87 ⟨"LedTables", "tick", "(I)I"⟩ ∈ a_w0 := a_w0_in (List.mem_append_right _ (List.mem_of_getElem? (i := 1311) (by decide +kernel))) rfl
theorem w_1312 : Cond.instanceMethod ⟨"LedTables", "tick", "(I)I"⟩ ∈ a_w0 := a_w0_in (List.mem_append_right _ (List.mem_of_getElem? (i := 1312) (by decide +kernel))) rfl
theorem w_1313 : Cond.selects "LedTables" ⟨"LedTables", "tick", "(I)I"⟩ ⟨"LedTables", "tick", "(I)I"⟩ ∈ a_w0 := a_w0_in (List.mem_append_right _ (List.mem_of_getElem? (i := 1313) (by decide +kernel))) rfl
theorem lv_Law_87 : a_lv R_Law 87 M_Led_tick 1 := ⟨w_1311, w_1312, w_1313, cm_Led_tick⟩
theorem w_1316 : Cond.methodLink "LedTablesLaw" 231 ⟨"LedTablesLaw", "bite", "(LLedTables;I[J)I"⟩ ∈ a_w0 := a_w0_in (List.mem_append_right _ (List.mem_of_getElem? (i := 1316) (by decide +kernel))) rfl
theorem w_1317 : Cond.static ⟨"LedTablesLaw", "bite", "(LLedTables;I[J)I"⟩ ∈ a_w0 := a_w0_in (List.mem_append_right _ (List.mem_of_getElem? (i := 1317) (by decide +kernel))) rfl
theorem w_1318 : Cond.codeWith ⟨"LedTablesLaw", "bite", "(LLedTables;I[J)I"⟩ method_24_code 4 (some .int) [((0), (9), (12), (13)), ((0), (9), (15), (15))] ∈ a_w0 := a_w0_in (List.mem_append_right _ (List.mem_of_getElem? (i := 1318) (by decide +kernel))) rfl
theorem lh_Law_231 : a_lh R_Law 231 M_Law_bite 3 := ⟨w_1316, w_1317, w_1318, by decide, w_0, by decide, by decide +kernel, by decide +kernel, by decide +kernel⟩
theorem w_1319 : Cond.methodLink "LedTablesLaw" 90 ⟨"LedTables", "bite", "(I)I"⟩ ∈ a_w0 := a_w0_in (List.mem_append_right _ (List.mem_of_getElem? (i := 1319) (by decide +kernel))) rfl
theorem w_1320 : Cond.instanceMethod ⟨"LedTables", "bite", "(I)I"⟩ ∈ a_w0 := a_w0_in (List.mem_append_right _ (List.mem_of_getElem? (i := 1320) (by decide +kernel))) rfl
theorem w_1321 : Cond.selects "LedTables" ⟨"LedTables", "bite", "(I)I"⟩ ⟨"LedTables", "bite", "(I)I"⟩ ∈ a_w0 := a_w0_in (List.mem_append_right _ (List.mem_of_getElem? (i := 1321) (by decide +kernel))) rfl
theorem lv_Law_90 : a_lv R_Law 90 M_Led_bite 1 := ⟨w_1319, w_1320, w_1321, cm_Led_bite⟩
theorem w_1324 : Cond.methodLink "LedTables" 266 ⟨"LedTables$Table", "leadRows", "(I)I"⟩ ∈ a_w0 := a_w0_in (List.mem_append_right _ (List.mem_of_getElem? (i := 1324) (by decide +kernel))) rfl
theorem w_1325 : Cond.instanceMethod ⟨"LedTables$Table", "leadRows", "(I)I"⟩ ∈ a_w0 := a_w0_in (List.mem_append_right _ (List.mem_of_getElem? (i := 1325) (by decide +kernel))) rfl
theorem w_1326 : Cond.selects "LedTables$Table" ⟨"LedTables$Table", "leadRows", "(I)I"⟩ ⟨"LedTables$Table", "leadRows", "(I)I"⟩ ∈ a_w0 := a_w0_in (List.mem_append_right _ (List.mem_of_getElem? (i := 1326) (by decide +kernel))) rfl
theorem lv_Led_266 : a_lv R_Led 266 M_Tab_leadRows 1 := ⟨w_1324, w_1325, w_1326, cm_Tab_leadRows⟩
theorem w_1328 : Cond.methodLink "LedTables$Table" 168 ⟨"java/lang/Math", "min", "(II)I"⟩ ∈ a_w0 := a_w0_in (List.mem_append_right _ (List.mem_of_getElem? (i := 1328) (by decide +kernel))) rfl
theorem mw_Tab_168 : a_mw R_Tab 168 Lib.Math.min.name Lib.Math.min.code := ⟨w_1328, w_353, w_15, w_354⟩
theorem w_1329 : Cond.methodLink "LedTablesLaw" 234 ⟨"LedTablesLaw", "fall", "(LLedTables;I[J)I"⟩ ∈ a_w0 := a_w0_in (List.mem_append_right _ (List.mem_of_getElem? (i := 1329) (by decide +kernel))) rfl
theorem w_1330 : Cond.static ⟨"LedTablesLaw", "fall", "(LLedTables;I[J)I"⟩ ∈ a_w0 := a_w0_in (List.mem_append_right _ (List.mem_of_getElem? (i := 1330) (by decide +kernel))) rfl
theorem w_1331 : Cond.codeWith ⟨"LedTablesLaw", "fall", "(LLedTables;I[J)I"⟩ method_25_code 4 (some .int) [((0), (9), (12), (13))] ∈ a_w0 := a_w0_in (List.mem_append_right _ (List.mem_of_getElem? (i := 1331) (by decide +kernel))) rfl
theorem lh_Law_234 : a_lh R_Law 234 M_Law_fall 3 := ⟨w_1329, w_1330, w_1331, by decide, w_0, by decide, by decide +kernel, by decide +kernel, by decide +kernel⟩
theorem w_1332 : Cond.methodLink "LedTablesLaw" 93 ⟨"LedTables", "fall", "(I)I"⟩ ∈ a_w0 := a_w0_in (List.mem_append_right _ (List.mem_of_getElem? (i := 1332) (by decide +kernel))) rfl
theorem w_1333 : Cond.instanceMethod ⟨"LedTables", "fall", "(I)I"⟩ ∈ a_w0 := a_w0_in (List.mem_append_right _ (List.mem_of_getElem? (i := 1333) (by decide +kernel))) rfl
theorem w_1334 : Cond.selects "LedTables" ⟨"LedTables", "fall", "(I)I"⟩ ⟨"LedTables", "fall", "(I)I"⟩ ∈ a_w0 := a_w0_in (List.mem_append_right _ (List.mem_of_getElem? (i := 1334) (by decide +kernel))) rfl
theorem lv_Law_93 : a_lv R_Law 93 M_Led_fall 1 := ⟨w_1332, w_1333, w_1334, cm_Led_fall⟩
theorem w_1336 : Cond.methodLink "LedTablesLaw" 237 ⟨"LedTablesLaw", "row", "(LLedTables;II[J)I"⟩ ∈ a_w0 := a_w0_in (List.mem_append_right _ (List.mem_of_getElem? (i := 1336) (by decide +kernel))) rfl
theorem w_1337 : Cond.static ⟨"LedTablesLaw", "row", "(LLedTables;II[J)I"⟩ ∈ a_w0 := a_w0_in (List.mem_append_right _ (List.mem_of_getElem? (i := 1337) (by decide +kernel))) rfl
theorem w_1338 : Cond.codeWith ⟨"LedTablesLaw", "row", "(LLedTables;II[J)I"⟩ method_26_code 5 (some .int) [((0), (10), (13), (49)), ((0), (10), (17), (13))] ∈ a_w0 := a_w0_in (List.mem_append_right _ (List.mem_of_getElem? (i := 1338) (by decide +kernel))) rfl
theorem lh_Law_237 : a_lh R_Law 237 M_Law_row 4 := ⟨w_1336, w_1337, w_1338, by decide, w_0, by decide, by decide +kernel, by decide +kernel, by decide +kernel⟩
theorem w_1339 : Cond.methodLink "LedTablesLaw" 96 ⟨"LedTables", "row", "(II)I"⟩ ∈ a_w0 := a_w0_in (List.mem_append_right _ (List.mem_of_getElem? (i := 1339) (by decide +kernel))) rfl
theorem w_1340 : Cond.instanceMethod ⟨"LedTables", "row", "(II)I"⟩ ∈ a_w0 := a_w0_in (List.mem_append_right _ (List.mem_of_getElem? (i := 1340) (by decide +kernel))) rfl
theorem w_1341 : Cond.selects "LedTables" ⟨"LedTables", "row", "(II)I"⟩ ⟨"LedTables", "row", "(II)I"⟩ ∈ a_w0 := a_w0_in (List.mem_append_right _ (List.mem_of_getElem? (i := 1341) (by decide +kernel))) rfl
theorem lv_Law_96 : a_lv R_Law 96 M_Led_row 2 := ⟨w_1339, w_1340, w_1341, cm_Led_row⟩
theorem w_1343 : Cond.methodLink "LedTables" 272 ⟨"LedTables$Table", "tellRow", "(II)I"⟩ ∈ a_w0 := a_w0_in (List.mem_append_right _ (List.mem_of_getElem? (i := 1343) (by decide +kernel))) rfl
theorem w_1344 : Cond.instanceMethod ⟨"LedTables$Table", "tellRow", "(II)I"⟩ ∈ a_w0 := a_w0_in (List.mem_append_right _ (List.mem_of_getElem? (i := 1344) (by decide +kernel))) rfl
theorem w_1345 : Cond.selects "LedTables$Table" ⟨"LedTables$Table", "tellRow", "(II)I"⟩ ⟨"LedTables$Table", "tellRow", "(II)I"⟩ ∈ a_w0 := a_w0_in (List.mem_append_right _ (List.mem_of_getElem? (i := 1345) (by decide +kernel))) rfl
theorem lv_Led_272 : a_lv R_Led 272 M_Tab_tellRow 2 := ⟨w_1343, w_1344, w_1345, cm_Tab_tellRow⟩
theorem w_1347 : Cond.methodLink "LedTables$Table" 180 ⟨"LedTables$Row", "brokenSince", "()I"⟩ ∈ a_w0 := a_w0_in (List.mem_append_right _ (List.mem_of_getElem? (i := 1347) (by decide +kernel))) rfl
theorem w_1348 : Cond.instanceMethod ⟨"LedTables$Row", "brokenSince", "()I"⟩ ∈ a_w0 := a_w0_in (List.mem_append_right _ (List.mem_of_getElem? (i := 1348) (by decide +kernel))) rfl
theorem w_1349 : Cond.selects "LedTables$Row" ⟨"LedTables$Row", "brokenSince", "()I"⟩ ⟨"LedTables$Row", "brokenSince", "()I"⟩ ∈ a_w0 := a_w0_in (List.mem_append_right _ (List.mem_of_getElem? (i := 1349) (by decide +kernel))) rfl
theorem lv_Tab_180 : a_lv R_Tab 180 M_Row_brokenSince 0 := ⟨w_1347, w_1348, w_1349, cm_Row_brokenSince⟩
theorem w_1351 : Cond.methodLink "LedTables$Table" 183 ⟨"LedTables$Row", "brokenBy", "()I"⟩ ∈ a_w0 := a_w0_in (List.mem_append_right _ (List.mem_of_getElem? (i := 1351) (by decide +kernel))) rfl
theorem w_1352 : Cond.instanceMethod ⟨"LedTables$Row", "brokenBy", "()I"⟩ ∈ a_w0 := a_w0_in (List.mem_append_right _ (List.mem_of_getElem? (i := 1352) (by decide +kernel))) rfl
theorem w_1353 : Cond.selects "LedTables$Row" ⟨"LedTables$Row", "brokenBy", "()I"⟩ ⟨"LedTables$Row", "brokenBy", "()I"⟩ ∈ a_w0 := a_w0_in (List.mem_append_right _ (List.mem_of_getElem? (i := 1353) (by decide +kernel))) rfl
theorem lv_Tab_183 : a_lv R_Tab 183 M_Row_brokenBy 0 := ⟨w_1351, w_1352, w_1353, cm_Row_brokenBy⟩
theorem w_1355 : Cond.methodLink "LedTables$Table" 190 ⟨"LedTables$Table", "tellBeside", "(LLedTables$Row;I)I"⟩ ∈ a_w0 := a_w0_in (List.mem_append_right _ (List.mem_of_getElem? (i := 1355) (by decide +kernel))) rfl
theorem w_1357 : Cond.instanceMethod ⟨"LedTables$Table", "tellBeside", "(LLedTables$Row;I)I"⟩ ∈ a_w0 := a_w0_in (List.mem_append_right _ (List.mem_of_getElem? (i := 1357) (by decide +kernel))) rfl
theorem ws_62 : Cond.selects "LedTables$Table" ⟨"LedTables$Table", "tellBeside", "(LLedTables$Row;I)I"⟩ ⟨"LedTables$Table", "tellBeside", "(LLedTables$Row;I)I"⟩ ∈ a_w0 := a_w0_in (List.mem_append_left _ (List.mem_of_getElem? (i := 62) (by decide +kernel))) rfl
theorem lv_Tab_190 : a_lv R_Tab 190 M_Tab_tellBeside 2 := ⟨w_1355, w_1357, ws_62, cm_Tab_tellBeside⟩
theorem w_1359 : Cond.methodLink "LedTablesLaw" 240 ⟨"LedTablesLaw", "quiet", "(LLedTables;I[J)I"⟩ ∈ a_w0 := a_w0_in (List.mem_append_right _ (List.mem_of_getElem? (i := 1359) (by decide +kernel))) rfl
theorem w_1360 : Cond.static ⟨"LedTablesLaw", "quiet", "(LLedTables;I[J)I"⟩ ∈ a_w0 := a_w0_in (List.mem_append_right _ (List.mem_of_getElem? (i := 1360) (by decide +kernel))) rfl
theorem w_1361 : Cond.codeWith ⟨"LedTablesLaw", "quiet", "(LLedTables;I[J)I"⟩ method_27_code 4 (some .int) [((0), (9), (12), (13))] ∈ a_w0 := a_w0_in (List.mem_append_right _ (List.mem_of_getElem? (i := 1361) (by decide +kernel))) rfl
theorem lh_Law_240 : a_lh R_Law 240 M_Law_quiet 3 := ⟨w_1359, w_1360, w_1361, by decide, w_0, by decide, by decide +kernel, by decide +kernel, by decide +kernel⟩
theorem w_1362 : Cond.methodLink "LedTablesLaw" 99 ⟨"LedTables", "quiet", "(I)I"⟩ ∈ a_w0 := a_w0_in (List.mem_append_right _ (List.mem_of_getElem? (i := 1362) (by decide +kernel))) rfl
theorem w_1363 : Cond.instanceMethod ⟨"LedTables", "quiet", "(I)I"⟩ ∈ a_w0 := a_w0_in (List.mem_append_right _ (List.mem_of_getElem? (i := 1363) (by decide +kernel))) rfl
theorem w_1364 : Cond.selects "LedTables" ⟨"LedTables", "quiet", "(I)I"⟩ ⟨"LedTables", "quiet", "(I)I"⟩ ∈ a_w0 := a_w0_in (List.mem_append_right _ (List.mem_of_getElem? (i := 1364) (by decide +kernel))) rfl
theorem lv_Law_99 : a_lv R_Law 99 M_Led_quiet 1 := ⟨w_1362, w_1363, w_1364, cm_Led_quiet⟩
theorem w_1366 : Cond.methodLink "LedTablesLaw" 243 ⟨"LedTablesLaw", "asked", "(LLedTables;IIIZ[J)I"⟩ ∈ a_w0 := a_w0_in (List.mem_append_right _ (List.mem_of_getElem? (i := 1366) (by decide +kernel))) rfl
theorem w_1367 : Cond.static ⟨"LedTablesLaw", "asked", "(LLedTables;IIIZ[J)I"⟩ ∈ a_w0 := a_w0_in (List.mem_append_right _ (List.mem_of_getElem? (i := 1367) (by decide +kernel))) rfl
theorem w_1368 : Cond.codeWith ⟨"LedTablesLaw", "asked", "(LLedTables;IIIZ[J)I"⟩ method_28_code 7 (some .int) [((0), (14), (17), (13))] ∈ a_w0 := a_w0_in (List.mem_append_right _ (List.mem_of_getElem? (i := 1368) (by decide +kernel))) rfl
theorem lh_Law_243 : a_lh R_Law 243 M_Law_asked 6 := ⟨w_1366, w_1367, w_1368, by decide, w_0, by decide, by decide +kernel, by decide +kernel, by decide +kernel⟩
theorem w_1369 : Cond.methodLink "LedTablesLaw" 102 ⟨"LedTables", "asked", "(IIIZ)I"⟩ ∈ a_w0 := a_w0_in (List.mem_append_right _ (List.mem_of_getElem? (i := 1369) (by decide +kernel))) rfl
theorem w_1370 : Cond.instanceMethod ⟨"LedTables", "asked", "(IIIZ)I"⟩ ∈ a_w0 := a_w0_in (List.mem_append_right _ (List.mem_of_getElem? (i := 1370) (by decide +kernel))) rfl
theorem w_1371 : Cond.selects "LedTables" ⟨"LedTables", "asked", "(IIIZ)I"⟩ ⟨"LedTables", "asked", "(IIIZ)I"⟩ ∈ a_w0 := a_w0_in (List.mem_append_right _ (List.mem_of_getElem? (i := 1371) (by decide +kernel))) rfl
theorem lv_Law_102 : a_lv R_Law 102 M_Led_asked 4 := ⟨w_1369, w_1370, w_1371, cm_Led_asked⟩
theorem w_1373 : Cond.methodLink "LedTables" 278 ⟨"LedTables$Asked", "latest", "(IIIZ)I"⟩ ∈ a_w0 := a_w0_in (List.mem_append_right _ (List.mem_of_getElem? (i := 1373) (by decide +kernel))) rfl
theorem lv_Led_278 : a_lv R_Led 278 M_Ask_latest 4 := ⟨w_1373, w_481, w_482, cm_Ask_latest⟩
theorem w_1374 : Cond.methodLink "LedTablesLaw" 247 ⟨"LedTablesLaw", "still", "(LLedTables;II[J)I"⟩ ∈ a_w0 := a_w0_in (List.mem_append_right _ (List.mem_of_getElem? (i := 1374) (by decide +kernel))) rfl
theorem w_1375 : Cond.static ⟨"LedTablesLaw", "still", "(LLedTables;II[J)I"⟩ ∈ a_w0 := a_w0_in (List.mem_append_right _ (List.mem_of_getElem? (i := 1375) (by decide +kernel))) rfl
theorem w_1376 : Cond.codeWith ⟨"LedTablesLaw", "still", "(LLedTables;II[J)I"⟩ method_29_code 5 (some .int) [((0), (10), (13), (13))] ∈ a_w0 := a_w0_in (List.mem_append_right _ (List.mem_of_getElem? (i := 1376) (by decide +kernel))) rfl
theorem lh_Law_247 : a_lh R_Law 247 M_Law_still 4 := ⟨w_1374, w_1375, w_1376, by decide, w_0, by decide, by decide +kernel, by decide +kernel, by decide +kernel⟩
theorem w_1377 : Cond.methodLink "LedTablesLaw" 106 ⟨"LedTables", "still", "(II)I"⟩ ∈ a_w0 := a_w0_in (List.mem_append_right _ (List.mem_of_getElem? (i := 1377) (by decide +kernel))) rfl
theorem w_1378 : Cond.instanceMethod ⟨"LedTables", "still", "(II)I"⟩ ∈ a_w0 := a_w0_in (List.mem_append_right _ (List.mem_of_getElem? (i := 1378) (by decide +kernel))) rfl
theorem w_1379 : Cond.selects "LedTables" ⟨"LedTables", "still", "(II)I"⟩ ⟨"LedTables", "still", "(II)I"⟩ ∈ a_w0 := a_w0_in (List.mem_append_right _ (List.mem_of_getElem? (i := 1379) (by decide +kernel))) rfl
theorem lv_Law_106 : a_lv R_Law 106 M_Led_still 2 := ⟨w_1377, w_1378, w_1379, cm_Led_still⟩
theorem w_1381 : Cond.methodLink "LedTables" 282 ⟨"LedTables$Asked", "oldAskers", "(II)I"⟩ ∈ a_w0 := a_w0_in (List.mem_append_right _ (List.mem_of_getElem? (i := 1381) (by decide +kernel))) rfl
theorem lv_Led_282 : a_lv R_Led 282 M_Ask_oldAskers 2 := ⟨w_1381, w_477, w_478, cm_Ask_oldAskers⟩
theorem w_1382 : Cond.methodLink "LedTablesLaw" 250 ⟨"LedTablesLaw", "sum", "(LLedTables;II[J)I"⟩ ∈ a_w0 := a_w0_in (List.mem_append_right _ (List.mem_of_getElem? (i := 1382) (by decide +kernel))) rfl
theorem w_1383 : Cond.static ⟨"LedTablesLaw", "sum", "(LLedTables;II[J)I"⟩ ∈ a_w0 := a_w0_in (List.mem_append_right _ (List.mem_of_getElem? (i := 1383) (by decide +kernel))) rfl
theorem w_1384 : Cond.codeWith ⟨"LedTablesLaw", "sum", "(LLedTables;II[J)I"⟩ method_30_code 5 (some .int) [((0), (10), (13), (49)), ((0), (10), (17), (13))] ∈ a_w0 := a_w0_in (List.mem_append_right _ (List.mem_of_getElem? (i := 1384) (by decide +kernel))) rfl
theorem lh_Law_250 : a_lh R_Law 250 M_Law_sum 4 := ⟨w_1382, w_1383, w_1384, by decide, w_0, by decide, by decide +kernel, by decide +kernel, by decide +kernel⟩
theorem w_1385 : Cond.methodLink "LedTablesLaw" 109 ⟨"LedTables", "sum", "(II)I"⟩ ∈ a_w0 := a_w0_in (List.mem_append_right _ (List.mem_of_getElem? (i := 1385) (by decide +kernel))) rfl
theorem w_1386 : Cond.instanceMethod ⟨"LedTables", "sum", "(II)I"⟩ ∈ a_w0 := a_w0_in (List.mem_append_right _ (List.mem_of_getElem? (i := 1386) (by decide +kernel))) rfl
theorem w_1387 : Cond.selects "LedTables" ⟨"LedTables", "sum", "(II)I"⟩ ⟨"LedTables", "sum", "(II)I"⟩ ∈ a_w0 := a_w0_in (List.mem_append_right _ (List.mem_of_getElem? (i := 1387) (by decide +kernel))) rfl
theorem lv_Law_109 : a_lv R_Law 109 M_Led_sum 2 := ⟨w_1385, w_1386, w_1387, cm_Led_sum⟩
theorem w_1389 : Cond.methodLink "LedTables" 285 ⟨"LedTables", "checkSpan", "(II)V"⟩ ∈ a_w0 := a_w0_in (List.mem_append_right _ (List.mem_of_getElem? (i := 1389) (by decide +kernel))) rfl
theorem w_1390 : Cond.static ⟨"LedTables", "checkSpan", "(II)V"⟩ ∈ a_w0 := a_w0_in (List.mem_append_right _ (List.mem_of_getElem? (i := 1390) (by decide +kernel))) rfl
theorem ls_Led_285 : a_ls R_Led 285 M_Led_checkSpan 2 := ⟨w_1389, w_1390, cm_Led_checkSpan⟩
theorem w_1392 : Cond.methodLink "LedTables" 288 ⟨"LedTables$Table", "sumOf", "(II)I"⟩ ∈ a_w0 := a_w0_in (List.mem_append_right _ (List.mem_of_getElem? (i := 1392) (by decide +kernel))) rfl
theorem w_1393 : Cond.instanceMethod ⟨"LedTables$Table", "sumOf", "(II)I"⟩ ∈ a_w0 := a_w0_in (List.mem_append_right _ (List.mem_of_getElem? (i := 1393) (by decide +kernel))) rfl
theorem w_1394 : Cond.selects "LedTables$Table" ⟨"LedTables$Table", "sumOf", "(II)I"⟩ ⟨"LedTables$Table", "sumOf", "(II)I"⟩ ∈ a_w0 := a_w0_in (List.mem_append_right _ (List.mem_of_getElem? (i := 1394) (by decide +kernel))) rfl
theorem lv_Led_288 : a_lv R_Led 288 M_Tab_sumOf 2 := ⟨w_1392, w_1393, w_1394, cm_Tab_sumOf⟩
theorem w_1396 : Cond.methodLink "LedTables$Table" 197 ⟨"java/lang/Math", "max", "(II)I"⟩ ∈ a_w0 := a_w0_in (List.mem_append_right _ (List.mem_of_getElem? (i := 1396) (by decide +kernel))) rfl
theorem mw_Tab_197 : a_mw R_Tab 197 Lib.Math.max.name Lib.Math.max.code := ⟨w_1396, w_364, w_15, w_365⟩
theorem w_1397 : Cond.methodLink "LedTables$Table" 200 ⟨"LedTables$Table", "weigh", "([I)I"⟩ ∈ a_w0 := a_w0_in (List.mem_append_right _ (List.mem_of_getElem? (i := 1397) (by decide +kernel))) rfl
theorem w_1398 : Cond.static ⟨"LedTables$Table", "weigh", "([I)I"⟩ ∈ a_w0 := a_w0_in (List.mem_append_right _ (List.mem_of_getElem? (i := 1398) (by decide +kernel))) rfl
theorem ls_Tab_200 : a_ls R_Tab 200 M_Tab_weigh 1 := ⟨w_1397, w_1398, cm_Tab_weigh⟩
theorem w_1400 : Cond.methodLink "LedTablesLaw" 253 ⟨"LedTablesLaw", "halves", "(LLedTables;II[J)I"⟩ ∈ a_w0 := a_w0_in (List.mem_append_right _ (List.mem_of_getElem? (i := 1400) (by decide +kernel))) rfl
theorem w_1401 : Cond.static ⟨"LedTablesLaw", "halves", "(LLedTables;II[J)I"⟩ ∈ a_w0 := a_w0_in (List.mem_append_right _ (List.mem_of_getElem? (i := 1401) (by decide +kernel))) rfl
theorem w_1402 : Cond.codeWith ⟨"LedTablesLaw", "halves", "(LLedTables;II[J)I"⟩ method_31_code 5 (some .int) [((0), (10), (13), (49)), ((0), (10), (17), (13))] ∈ a_w0 := a_w0_in (List.mem_append_right _ (List.mem_of_getElem? (i := 1402) (by decide +kernel))) rfl
theorem lh_Law_253 : a_lh R_Law 253 M_Law_halves 4 := ⟨w_1400, w_1401, w_1402, by decide, w_0, by decide, by decide +kernel, by decide +kernel, by decide +kernel⟩
theorem w_1403 : Cond.methodLink "LedTablesLaw" 112 ⟨"LedTables", "halves", "(II)I"⟩ ∈ a_w0 := a_w0_in (List.mem_append_right _ (List.mem_of_getElem? (i := 1403) (by decide +kernel))) rfl
theorem w_1404 : Cond.instanceMethod ⟨"LedTables", "halves", "(II)I"⟩ ∈ a_w0 := a_w0_in (List.mem_append_right _ (List.mem_of_getElem? (i := 1404) (by decide +kernel))) rfl
theorem w_1405 : Cond.selects "LedTables" ⟨"LedTables", "halves", "(II)I"⟩ ⟨"LedTables", "halves", "(II)I"⟩ ∈ a_w0 := a_w0_in (List.mem_append_right _ (List.mem_of_getElem? (i := 1405) (by decide +kernel))) rfl
theorem lv_Law_112 : a_lv R_Law 112 M_Led_halves 2 := ⟨w_1403, w_1404, w_1405, cm_Led_halves⟩
theorem w_1407 : Cond.methodLink "LedTables" 291 ⟨"LedTables$Table", "halve", "(II)I"⟩ ∈ a_w0 := a_w0_in (List.mem_append_right _ (List.mem_of_getElem? (i := 1407) (by decide +kernel))) rfl
theorem w_1408 : Cond.instanceMethod ⟨"LedTables$Table", "halve", "(II)I"⟩ ∈ a_w0 := a_w0_in (List.mem_append_right _ (List.mem_of_getElem? (i := 1408) (by decide +kernel))) rfl
theorem w_1409 : Cond.selects "LedTables$Table" ⟨"LedTables$Table", "halve", "(II)I"⟩ ⟨"LedTables$Table", "halve", "(II)I"⟩ ∈ a_w0 := a_w0_in (List.mem_append_right _ (List.mem_of_getElem? (i := 1409) (by decide +kernel))) rfl
theorem lv_Led_291 : a_lv R_Led 291 M_Tab_halve 2 := ⟨w_1407, w_1408, w_1409, cm_Tab_halve⟩
theorem w_1411 : Cond.methodLink "LedTables$Table" 204 ⟨"LedTables$Table", "sumOf", "(II)I"⟩ ∈ a_w0 := a_w0_in (List.mem_append_right _ (List.mem_of_getElem? (i := 1411) (by decide +kernel))) rfl
theorem lv_Tab_204 : a_lv R_Tab 204 M_Tab_sumOf 2 := ⟨w_1411, w_1393, w_1394, cm_Tab_sumOf⟩
theorem w_1412 : Cond.methodLink "LedTablesLaw" 256 ⟨"LedTablesLaw", "mend", "(LLedTables;I[J)I"⟩ ∈ a_w0 := a_w0_in (List.mem_append_right _ (List.mem_of_getElem? (i := 1412) (by decide +kernel))) rfl
theorem w_1413 : Cond.static ⟨"LedTablesLaw", "mend", "(LLedTables;I[J)I"⟩ ∈ a_w0 := a_w0_in (List.mem_append_right _ (List.mem_of_getElem? (i := 1413) (by decide +kernel))) rfl
theorem w_1414 : Cond.codeWith ⟨"LedTablesLaw", "mend", "(LLedTables;I[J)I"⟩ method_32_code 4 (some .int) [((0), (16), (19), (49)), ((0), (16), (22), (40))] ∈ a_w0 := a_w0_in (List.mem_append_right _ (List.mem_of_getElem? (i := 1414) (by decide +kernel))) rfl
theorem lh_Law_256 : a_lh R_Law 256 M_Law_mend 3 := ⟨w_1412, w_1413, w_1414, by decide, w_0, by decide, by decide +kernel, by decide +kernel, by decide +kernel⟩
theorem w_1415 : Cond.methodLink "LedTablesLaw" 115 ⟨"LedTables", "mend", "(I)Z"⟩ ∈ a_w0 := a_w0_in (List.mem_append_right _ (List.mem_of_getElem? (i := 1415) (by decide +kernel))) rfl
theorem w_1416 : Cond.instanceMethod ⟨"LedTables", "mend", "(I)Z"⟩ ∈ a_w0 := a_w0_in (List.mem_append_right _ (List.mem_of_getElem? (i := 1416) (by decide +kernel))) rfl
theorem w_1417 : Cond.selects "LedTables" ⟨"LedTables", "mend", "(I)Z"⟩ ⟨"LedTables", "mend", "(I)Z"⟩ ∈ a_w0 := a_w0_in (List.mem_append_right _ (List.mem_of_getElem? (i := 1417) (by decide +kernel))) rfl
theorem lv_Law_115 : a_lv R_Law 115 M_Led_mend 1 := ⟨w_1415, w_1416, w_1417, cm_Led_mend⟩
theorem w_1419 : Cond.methodLink "LedTables" 294 ⟨"LedTables$Table", "mendRow", "(I)Z"⟩ ∈ a_w0 := a_w0_in (List.mem_append_right _ (List.mem_of_getElem? (i := 1419) (by decide +kernel))) rfl
theorem w_1420 : Cond.instanceMethod ⟨"LedTables$Table", "mendRow", "(I)Z"⟩ ∈ a_w0 := a_w0_in (List.mem_append_right _ (List.mem_of_getElem? (i := 1420) (by decide +kernel))) rfl
theorem w_1421 : Cond.selects "LedTables$Table" ⟨"LedTables$Table", "mendRow", "(I)Z"⟩ ⟨"LedTables$Table", "mendRow", "(I)Z"⟩ ∈ a_w0 := a_w0_in (List.mem_append_right _ (List.mem_of_getElem? (i := 1421) (by decide +kernel))) rfl
theorem lv_Led_294 : a_lv R_Led 294 M_Tab_mendRow 1 := ⟨w_1419, w_1420, w_1421, cm_Tab_mendRow⟩
theorem w_1425 : Cond.methodLink "LedTablesLaw" 121 ⟨"LedTablesModel", "<init>", "()V"⟩ ∈ a_w0 := a_w0_in (List.mem_append_right _ (List.mem_of_getElem? (i := 1425) (by decide +kernel))) rfl
theorem w_1426 : Cond.instanceMethod ⟨"LedTablesModel", "<init>", "()V"⟩ ∈ a_w0 := a_w0_in (List.mem_append_right _ (List.mem_of_getElem? (i := 1426) (by decide +kernel))) rfl
theorem li_Law_121 : a_li R_Law 121 M_Mod_init 0 := ⟨w_1425, w_1426, rfl, rfl, cm_Mod_init⟩
theorem w_1428 : Cond.methodLink "LedTablesModel" 3 ⟨"java/lang/Object", "<init>", "()V"⟩ ∈ a_w0 := a_w0_in (List.mem_append_right _ (List.mem_of_getElem? (i := 1428) (by decide +kernel))) rfl
theorem ob_Mod_3 : Cond.methodLink R_Mod 3 objectInit ∈ a_w0 := w_1428
theorem w_1618 : Cond.methodLink "LedTablesLaw" 132 ⟨"LedTablesModel", "thrown", "()I"⟩ ∈ a_w0 := a_w0_in (List.mem_append_right _ (List.mem_of_getElem? (i := 1618) (by decide +kernel))) rfl
theorem w_1619 : Cond.instanceMethod ⟨"LedTablesModel", "thrown", "()I"⟩ ∈ a_w0 := a_w0_in (List.mem_append_right _ (List.mem_of_getElem? (i := 1619) (by decide +kernel))) rfl
theorem w_1620 : Cond.selects "LedTablesModel" ⟨"LedTablesModel", "thrown", "()I"⟩ ⟨"LedTablesModel", "thrown", "()I"⟩ ∈ a_w0 := a_w0_in (List.mem_append_right _ (List.mem_of_getElem? (i := 1620) (by decide +kernel))) rfl
theorem lv_Law_132 : a_lv R_Law 132 M_Mod_thrown 0 := ⟨w_1618, w_1619, w_1620, cm_Mod_thrown⟩
theorem w_1622 : Cond.methodLink "LedTablesLaw" 125 ⟨"LedTablesModel", "feed", "(IIIII)I"⟩ ∈ a_w0 := a_w0_in (List.mem_append_right _ (List.mem_of_getElem? (i := 1622) (by decide +kernel))) rfl
theorem w_1623 : Cond.instanceMethod ⟨"LedTablesModel", "feed", "(IIIII)I"⟩ ∈ a_w0 := a_w0_in (List.mem_append_right _ (List.mem_of_getElem? (i := 1623) (by decide +kernel))) rfl
theorem w_1624 : Cond.selects "LedTablesModel" ⟨"LedTablesModel", "feed", "(IIIII)I"⟩ ⟨"LedTablesModel", "feed", "(IIIII)I"⟩ ∈ a_w0 := a_w0_in (List.mem_append_right _ (List.mem_of_getElem? (i := 1624) (by decide +kernel))) rfl
theorem lv_Law_125 : a_lv R_Law 125 M_Mod_feed 5 := ⟨w_1622, w_1623, w_1624, cm_Mod_feed⟩
theorem w_1626 : Cond.methodLink "LedTablesLaw" 131 ⟨"LedTablesModel", "lens", "(I)I"⟩ ∈ a_w0 := a_w0_in (List.mem_append_right _ (List.mem_of_getElem? (i := 1626) (by decide +kernel))) rfl
theorem w_1627 : Cond.instanceMethod ⟨"LedTablesModel", "lens", "(I)I"⟩ ∈ a_w0 := a_w0_in (List.mem_append_right _ (List.mem_of_getElem? (i := 1627) (by decide +kernel))) rfl
theorem w_1628 : Cond.selects "LedTablesModel" ⟨"LedTablesModel", "lens", "(I)I"⟩ ⟨"LedTablesModel", "lens", "(I)I"⟩ ∈ a_w0 := a_w0_in (List.mem_append_right _ (List.mem_of_getElem? (i := 1628) (by decide +kernel))) rfl
theorem lv_Law_131 : a_lv R_Law 131 M_Mod_lens 1 := ⟨w_1626, w_1627, w_1628, cm_Mod_lens⟩
theorem w_1630 : Cond.methodLink "LedTablesModel" 236 ⟨"LedTablesModel", "in", "(III)Z"⟩ ∈ a_w0 := a_w0_in (List.mem_append_right _ (List.mem_of_getElem? (i := 1630) (by decide +kernel))) rfl
theorem w_1631 : Cond.static ⟨"LedTablesModel", "in", "(III)Z"⟩ ∈ a_w0 := a_w0_in (List.mem_append_right _ (List.mem_of_getElem? (i := 1631) (by decide +kernel))) rfl
theorem ls_Mod_236 : a_ls R_Mod 236 M_Mod_in 3 := ⟨w_1630, w_1631, cm_Mod_in⟩
theorem w_1633 : Cond.methodLink "LedTablesModel" 240 ⟨"LedTablesModel", "bad", "(ZI)Z"⟩ ∈ a_w0 := a_w0_in (List.mem_append_right _ (List.mem_of_getElem? (i := 1633) (by decide +kernel))) rfl
theorem w_1635 : Cond.instanceMethod ⟨"LedTablesModel", "bad", "(ZI)Z"⟩ ∈ a_w0 := a_w0_in (List.mem_append_right _ (List.mem_of_getElem? (i := 1635) (by decide +kernel))) rfl
theorem ws_63 : Cond.selects "LedTablesModel" ⟨"LedTablesModel", "bad", "(ZI)Z"⟩ ⟨"LedTablesModel", "bad", "(ZI)Z"⟩ ∈ a_w0 := a_w0_in (List.mem_append_left _ (List.mem_of_getElem? (i := 63) (by decide +kernel))) rfl
theorem lv_Mod_240 : a_lv R_Mod 240 M_Mod_bad 2 := ⟨w_1633, w_1635, ws_63, cm_Mod_bad⟩
theorem w_1637 : Cond.methodLink "LedTablesModel" 247 ⟨"LedTablesModel", "readAll", "()V"⟩ ∈ a_w0 := a_w0_in (List.mem_append_right _ (List.mem_of_getElem? (i := 1637) (by decide +kernel))) rfl
theorem w_1639 : Cond.instanceMethod ⟨"LedTablesModel", "readAll", "()V"⟩ ∈ a_w0 := a_w0_in (List.mem_append_right _ (List.mem_of_getElem? (i := 1639) (by decide +kernel))) rfl
theorem ws_64 : Cond.selects "LedTablesModel" ⟨"LedTablesModel", "readAll", "()V"⟩ ⟨"LedTablesModel", "readAll", "()V"⟩ ∈ a_w0 := a_w0_in (List.mem_append_left _ (List.mem_of_getElem? (i := 64) (by decide +kernel))) rfl
theorem lv_Mod_247 : a_lv R_Mod 247 M_Mod_readAll 0 := ⟨w_1637, w_1639, ws_64, cm_Mod_readAll⟩
theorem w_1641 : Cond.methodLink "LedTablesModel" 160 ⟨"LedTablesModel", "blanks", "()V"⟩ ∈ a_w0 := a_w0_in (List.mem_append_right _ (List.mem_of_getElem? (i := 1641) (by decide +kernel))) rfl
theorem w_1643 : Cond.instanceMethod ⟨"LedTablesModel", "blanks", "()V"⟩ ∈ a_w0 := a_w0_in (List.mem_append_right _ (List.mem_of_getElem? (i := 1643) (by decide +kernel))) rfl
theorem ws_65 : Cond.selects "LedTablesModel" ⟨"LedTablesModel", "blanks", "()V"⟩ ⟨"LedTablesModel", "blanks", "()V"⟩ ∈ a_w0 := a_w0_in (List.mem_append_left _ (List.mem_of_getElem? (i := 65) (by decide +kernel))) rfl
theorem lv_Mod_160 : a_lv R_Mod 160 M_Mod_blanks 0 := ⟨w_1641, w_1643, ws_65, cm_Mod_blanks⟩
theorem w_1645 : Cond.methodLink "LedTablesModel" 146 ⟨"LedTablesModel", "byteAt", "(I)I"⟩ ∈ a_w0 := a_w0_in (List.mem_append_right _ (List.mem_of_getElem? (i := 1645) (by decide +kernel))) rfl
theorem w_1647 : Cond.instanceMethod ⟨"LedTablesModel", "byteAt", "(I)I"⟩ ∈ a_w0 := a_w0_in (List.mem_append_right _ (List.mem_of_getElem? (i := 1647) (by decide +kernel))) rfl
theorem ws_66 : Cond.selects "LedTablesModel" ⟨"LedTablesModel", "byteAt", "(I)I"⟩ ⟨"LedTablesModel", "byteAt", "(I)I"⟩ ∈ a_w0 := a_w0_in (List.mem_append_left _ (List.mem_of_getElem? (i := 66) (by decide +kernel))) rfl
theorem lv_Mod_146 : a_lv R_Mod 146 M_Mod_byteAt 1 := ⟨w_1645, w_1647, ws_66, cm_Mod_byteAt⟩
theorem w_1649 : Cond.methodLink "LedTablesModel" 233 ⟨"LedTablesModel", "clause", "()V"⟩ ∈ a_w0 := a_w0_in (List.mem_append_right _ (List.mem_of_getElem? (i := 1649) (by decide +kernel))) rfl
theorem w_1651 : Cond.instanceMethod ⟨"LedTablesModel", "clause", "()V"⟩ ∈ a_w0 := a_w0_in (List.mem_append_right _ (List.mem_of_getElem? (i := 1651) (by decide +kernel))) rfl
theorem ws_67 : Cond.selects "LedTablesModel" ⟨"LedTablesModel", "clause", "()V"⟩ ⟨"LedTablesModel", "clause", "()V"⟩ ∈ a_w0 := a_w0_in (List.mem_append_left _ (List.mem_of_getElem? (i := 67) (by decide +kernel))) rfl
theorem lv_Mod_233 : a_lv R_Mod 233 M_Mod_clause 0 := ⟨w_1649, w_1651, ws_67, cm_Mod_clause⟩
theorem w_1653 : Cond.methodLink "LedTablesModel" 181 ⟨"LedTablesModel", "letterHere", "()I"⟩ ∈ a_w0 := a_w0_in (List.mem_append_right _ (List.mem_of_getElem? (i := 1653) (by decide +kernel))) rfl
theorem w_1655 : Cond.instanceMethod ⟨"LedTablesModel", "letterHere", "()I"⟩ ∈ a_w0 := a_w0_in (List.mem_append_right _ (List.mem_of_getElem? (i := 1655) (by decide +kernel))) rfl
theorem ws_68 : Cond.selects "LedTablesModel" ⟨"LedTablesModel", "letterHere", "()I"⟩ ⟨"LedTablesModel", "letterHere", "()I"⟩ ∈ a_w0 := a_w0_in (List.mem_append_left _ (List.mem_of_getElem? (i := 68) (by decide +kernel))) rfl
theorem lv_Mod_181 : a_lv R_Mod 181 M_Mod_letterHere 0 := ⟨w_1653, w_1655, ws_68, cm_Mod_letterHere⟩
theorem w_1657 : Cond.methodLink "LedTablesModel" 163 ⟨"LedTablesModel", "isLetter", "(I)Z"⟩ ∈ a_w0 := a_w0_in (List.mem_append_right _ (List.mem_of_getElem? (i := 1657) (by decide +kernel))) rfl
theorem w_1658 : Cond.static ⟨"LedTablesModel", "isLetter", "(I)Z"⟩ ∈ a_w0 := a_w0_in (List.mem_append_right _ (List.mem_of_getElem? (i := 1658) (by decide +kernel))) rfl
theorem ls_Mod_163 : a_ls R_Mod 163 M_Mod_isLetter 1 := ⟨w_1657, w_1658, cm_Mod_isLetter⟩
theorem w_1660 : Cond.methodLink "LedTablesModel" 156 ⟨"LedTablesModel", "isSmall", "(I)Z"⟩ ∈ a_w0 := a_w0_in (List.mem_append_right _ (List.mem_of_getElem? (i := 1660) (by decide +kernel))) rfl
theorem w_1661 : Cond.static ⟨"LedTablesModel", "isSmall", "(I)Z"⟩ ∈ a_w0 := a_w0_in (List.mem_append_right _ (List.mem_of_getElem? (i := 1661) (by decide +kernel))) rfl
theorem ls_Mod_156 : a_ls R_Mod 156 M_Mod_isSmall 1 := ⟨w_1660, w_1661, cm_Mod_isSmall⟩
theorem w_1663 : Cond.methodLink "LedTablesModel" 188 ⟨"LedTablesModel", "wordHere", "()I"⟩ ∈ a_w0 := a_w0_in (List.mem_append_right _ (List.mem_of_getElem? (i := 1663) (by decide +kernel))) rfl
theorem w_1665 : Cond.instanceMethod ⟨"LedTablesModel", "wordHere", "()I"⟩ ∈ a_w0 := a_w0_in (List.mem_append_right _ (List.mem_of_getElem? (i := 1665) (by decide +kernel))) rfl
theorem ws_69 : Cond.selects "LedTablesModel" ⟨"LedTablesModel", "wordHere", "()I"⟩ ⟨"LedTablesModel", "wordHere", "()I"⟩ ∈ a_w0 := a_w0_in (List.mem_append_left _ (List.mem_of_getElem? (i := 69) (by decide +kernel))) rfl
theorem lv_Mod_188 : a_lv R_Mod 188 M_Mod_wordHere 0 := ⟨w_1663, w_1665, ws_69, cm_Mod_wordHere⟩
theorem w_1667 : Cond.methodLink "LedTablesModel" 191 ⟨"LedTablesModel", "word", "(IIIII)I"⟩ ∈ a_w0 := a_w0_in (List.mem_append_right _ (List.mem_of_getElem? (i := 1667) (by decide +kernel))) rfl
theorem w_1668 : Cond.static ⟨"LedTablesModel", "word", "(IIIII)I"⟩ ∈ a_w0 := a_w0_in (List.mem_append_right _ (List.mem_of_getElem? (i := 1668) (by decide +kernel))) rfl
theorem ls_Mod_191 : a_ls R_Mod 191 M_Mod_word 5 := ⟨w_1667, w_1668, cm_Mod_word⟩
theorem w_1670 : Cond.methodLink "LedTablesModel" 166 ⟨"LedTablesModel", "wrongAt", "(II)V"⟩ ∈ a_w0 := a_w0_in (List.mem_append_right _ (List.mem_of_getElem? (i := 1670) (by decide +kernel))) rfl
theorem w_1672 : Cond.instanceMethod ⟨"LedTablesModel", "wrongAt", "(II)V"⟩ ∈ a_w0 := a_w0_in (List.mem_append_right _ (List.mem_of_getElem? (i := 1672) (by decide +kernel))) rfl
theorem ws_70 : Cond.selects "LedTablesModel" ⟨"LedTablesModel", "wrongAt", "(II)V"⟩ ⟨"LedTablesModel", "wrongAt", "(II)V"⟩ ∈ a_w0 := a_w0_in (List.mem_append_left _ (List.mem_of_getElem? (i := 70) (by decide +kernel))) rfl
theorem lv_Mod_166 : a_lv R_Mod 166 M_Mod_wrongAt 2 := ⟨w_1670, w_1672, ws_70, cm_Mod_wrongAt⟩
theorem w_1674 : Cond.methodLink "LedTablesModel" 195 ⟨"LedTablesModel", "skipWord", "()V"⟩ ∈ a_w0 := a_w0_in (List.mem_append_right _ (List.mem_of_getElem? (i := 1674) (by decide +kernel))) rfl
theorem w_1676 : Cond.instanceMethod ⟨"LedTablesModel", "skipWord", "()V"⟩ ∈ a_w0 := a_w0_in (List.mem_append_right _ (List.mem_of_getElem? (i := 1676) (by decide +kernel))) rfl
theorem ws_71 : Cond.selects "LedTablesModel" ⟨"LedTablesModel", "skipWord", "()V"⟩ ⟨"LedTablesModel", "skipWord", "()V"⟩ ∈ a_w0 := a_w0_in (List.mem_append_left _ (List.mem_of_getElem? (i := 71) (by decide +kernel))) rfl
theorem lv_Mod_195 : a_lv R_Mod 195 M_Mod_skipWord 0 := ⟨w_1674, w_1676, ws_71, cm_Mod_skipWord⟩
theorem w_1678 : Cond.methodLink "LedTablesModel" 202 ⟨"LedTablesModel", "ors", "()Z"⟩ ∈ a_w0 := a_w0_in (List.mem_append_right _ (List.mem_of_getElem? (i := 1678) (by decide +kernel))) rfl
theorem w_1680 : Cond.instanceMethod ⟨"LedTablesModel", "ors", "()Z"⟩ ∈ a_w0 := a_w0_in (List.mem_append_right _ (List.mem_of_getElem? (i := 1680) (by decide +kernel))) rfl
theorem ws_72 : Cond.selects "LedTablesModel" ⟨"LedTablesModel", "ors", "()Z"⟩ ⟨"LedTablesModel", "ors", "()Z"⟩ ∈ a_w0 := a_w0_in (List.mem_append_left _ (List.mem_of_getElem? (i := 72) (by decide +kernel))) rfl
theorem lv_Mod_202 : a_lv R_Mod 202 M_Mod_ors 0 := ⟨w_1678, w_1680, ws_72, cm_Mod_ors⟩
theorem w_1682 : Cond.methodLink "LedTablesModel" 221 ⟨"LedTablesModel", "ands", "()Z"⟩ ∈ a_w0 := a_w0_in (List.mem_append_right _ (List.mem_of_getElem? (i := 1682) (by decide +kernel))) rfl
theorem w_1684 : Cond.instanceMethod ⟨"LedTablesModel", "ands", "()Z"⟩ ∈ a_w0 := a_w0_in (List.mem_append_right _ (List.mem_of_getElem? (i := 1684) (by decide +kernel))) rfl
theorem ws_73 : Cond.selects "LedTablesModel" ⟨"LedTablesModel", "ands", "()Z"⟩ ⟨"LedTablesModel", "ands", "()Z"⟩ ∈ a_w0 := a_w0_in (List.mem_append_left _ (List.mem_of_getElem? (i := 73) (by decide +kernel))) rfl
theorem lv_Mod_221 : a_lv R_Mod 221 M_Mod_ands 0 := ⟨w_1682, w_1684, ws_73, cm_Mod_ands⟩
theorem w_1686 : Cond.methodLink "LedTablesModel" 218 ⟨"LedTablesModel", "test", "()Z"⟩ ∈ a_w0 := a_w0_in (List.mem_append_right _ (List.mem_of_getElem? (i := 1686) (by decide +kernel))) rfl
theorem w_1688 : Cond.instanceMethod ⟨"LedTablesModel", "test", "()Z"⟩ ∈ a_w0 := a_w0_in (List.mem_append_right _ (List.mem_of_getElem? (i := 1688) (by decide +kernel))) rfl
theorem ws_74 : Cond.selects "LedTablesModel" ⟨"LedTablesModel", "test", "()Z"⟩ ⟨"LedTablesModel", "test", "()Z"⟩ ∈ a_w0 := a_w0_in (List.mem_append_left _ (List.mem_of_getElem? (i := 74) (by decide +kernel))) rfl
theorem lv_Mod_218 : a_lv R_Mod 218 M_Mod_test 0 := ⟨w_1686, w_1688, ws_74, cm_Mod_test⟩
theorem w_1690 : Cond.methodLink "LedTablesModel" 198 ⟨"LedTablesModel", "opens", "(I)V"⟩ ∈ a_w0 := a_w0_in (List.mem_append_right _ (List.mem_of_getElem? (i := 1690) (by decide +kernel))) rfl
theorem w_1692 : Cond.instanceMethod ⟨"LedTablesModel", "opens", "(I)V"⟩ ∈ a_w0 := a_w0_in (List.mem_append_right _ (List.mem_of_getElem? (i := 1692) (by decide +kernel))) rfl
theorem ws_75 : Cond.selects "LedTablesModel" ⟨"LedTablesModel", "opens", "(I)V"⟩ ⟨"LedTablesModel", "opens", "(I)V"⟩ ∈ a_w0 := a_w0_in (List.mem_append_left _ (List.mem_of_getElem? (i := 75) (by decide +kernel))) rfl
theorem lv_Mod_198 : a_lv R_Mod 198 M_Mod_opens 1 := ⟨w_1690, w_1692, ws_75, cm_Mod_opens⟩
theorem w_1694 : Cond.methodLink "LedTablesModel" 206 ⟨"LedTablesModel", "sign", "(I)V"⟩ ∈ a_w0 := a_w0_in (List.mem_append_right _ (List.mem_of_getElem? (i := 1694) (by decide +kernel))) rfl
theorem w_1696 : Cond.instanceMethod ⟨"LedTablesModel", "sign", "(I)V"⟩ ∈ a_w0 := a_w0_in (List.mem_append_right _ (List.mem_of_getElem? (i := 1696) (by decide +kernel))) rfl
theorem ws_76 : Cond.selects "LedTablesModel" ⟨"LedTablesModel", "sign", "(I)V"⟩ ⟨"LedTablesModel", "sign", "(I)V"⟩ ∈ a_w0 := a_w0_in (List.mem_append_left _ (List.mem_of_getElem? (i := 76) (by decide +kernel))) rfl
theorem lv_Mod_206 : a_lv R_Mod 206 M_Mod_sign 1 := ⟨w_1694, w_1696, ws_76, cm_Mod_sign⟩
theorem w_1698 : Cond.methodLink "LedTablesModel" 209 ⟨"LedTablesModel", "total", "()I"⟩ ∈ a_w0 := a_w0_in (List.mem_append_right _ (List.mem_of_getElem? (i := 1698) (by decide +kernel))) rfl
theorem w_1700 : Cond.instanceMethod ⟨"LedTablesModel", "total", "()I"⟩ ∈ a_w0 := a_w0_in (List.mem_append_right _ (List.mem_of_getElem? (i := 1700) (by decide +kernel))) rfl
theorem ws_77 : Cond.selects "LedTablesModel" ⟨"LedTablesModel", "total", "()I"⟩ ⟨"LedTablesModel", "total", "()I"⟩ ∈ a_w0 := a_w0_in (List.mem_append_left _ (List.mem_of_getElem? (i := 77) (by decide +kernel))) rfl
theorem lv_Mod_209 : a_lv R_Mod 209 M_Mod_total 0 := ⟨w_1698, w_1700, ws_77, cm_Mod_total⟩
theorem w_1702 : Cond.methodLink "LedTablesModel" 215 ⟨"LedTablesModel", "product", "()I"⟩ ∈ a_w0 := a_w0_in (List.mem_append_right _ (List.mem_of_getElem? (i := 1702) (by decide +kernel))) rfl
theorem w_1704 : Cond.instanceMethod ⟨"LedTablesModel", "product", "()I"⟩ ∈ a_w0 := a_w0_in (List.mem_append_right _ (List.mem_of_getElem? (i := 1704) (by decide +kernel))) rfl
theorem ws_78 : Cond.selects "LedTablesModel" ⟨"LedTablesModel", "product", "()I"⟩ ⟨"LedTablesModel", "product", "()I"⟩ ∈ a_w0 := a_w0_in (List.mem_append_left _ (List.mem_of_getElem? (i := 78) (by decide +kernel))) rfl
theorem lv_Mod_215 : a_lv R_Mod 215 M_Mod_product 0 := ⟨w_1702, w_1704, ws_78, cm_Mod_product⟩
theorem w_1706 : Cond.methodLink "LedTablesModel" 212 ⟨"LedTablesModel", "unit", "()I"⟩ ∈ a_w0 := a_w0_in (List.mem_append_right _ (List.mem_of_getElem? (i := 1706) (by decide +kernel))) rfl
theorem w_1708 : Cond.instanceMethod ⟨"LedTablesModel", "unit", "()I"⟩ ∈ a_w0 := a_w0_in (List.mem_append_right _ (List.mem_of_getElem? (i := 1708) (by decide +kernel))) rfl
theorem ws_79 : Cond.selects "LedTablesModel" ⟨"LedTablesModel", "unit", "()I"⟩ ⟨"LedTablesModel", "unit", "()I"⟩ ∈ a_w0 := a_w0_in (List.mem_append_left _ (List.mem_of_getElem? (i := 79) (by decide +kernel))) rfl
theorem lv_Mod_212 : a_lv R_Mod 212 M_Mod_unit 0 := ⟨w_1706, w_1708, ws_79, cm_Mod_unit⟩
theorem w_1710 : Cond.methodLink "LedTablesModel" 170 ⟨"LedTablesModel", "isDigit", "(I)Z"⟩ ∈ a_w0 := a_w0_in (List.mem_append_right _ (List.mem_of_getElem? (i := 1710) (by decide +kernel))) rfl
theorem w_1711 : Cond.static ⟨"LedTablesModel", "isDigit", "(I)Z"⟩ ∈ a_w0 := a_w0_in (List.mem_append_right _ (List.mem_of_getElem? (i := 1711) (by decide +kernel))) rfl
theorem ls_Mod_170 : a_ls R_Mod 170 M_Mod_isDigit 1 := ⟨w_1710, w_1711, cm_Mod_isDigit⟩
theorem w_1713 : Cond.methodLink "LedTablesModel" 177 ⟨"LedTablesModel", "number", "()I"⟩ ∈ a_w0 := a_w0_in (List.mem_append_right _ (List.mem_of_getElem? (i := 1713) (by decide +kernel))) rfl
theorem w_1715 : Cond.instanceMethod ⟨"LedTablesModel", "number", "()I"⟩ ∈ a_w0 := a_w0_in (List.mem_append_right _ (List.mem_of_getElem? (i := 1715) (by decide +kernel))) rfl
theorem ws_80 : Cond.selects "LedTablesModel" ⟨"LedTablesModel", "number", "()I"⟩ ⟨"LedTablesModel", "number", "()I"⟩ ∈ a_w0 := a_w0_in (List.mem_append_left _ (List.mem_of_getElem? (i := 80) (by decide +kernel))) rfl
theorem lv_Mod_177 : a_lv R_Mod 177 M_Mod_number 0 := ⟨w_1713, w_1715, ws_80, cm_Mod_number⟩
theorem w_1718 : Cond.methodLink "LedTablesLaw" 139 ⟨"LedTablesModel", "fault", "()I"⟩ ∈ a_w0 := a_w0_in (List.mem_append_right _ (List.mem_of_getElem? (i := 1718) (by decide +kernel))) rfl
theorem w_1719 : Cond.instanceMethod ⟨"LedTablesModel", "fault", "()I"⟩ ∈ a_w0 := a_w0_in (List.mem_append_right _ (List.mem_of_getElem? (i := 1719) (by decide +kernel))) rfl
theorem w_1720 : Cond.selects "LedTablesModel" ⟨"LedTablesModel", "fault", "()I"⟩ ⟨"LedTablesModel", "fault", "()I"⟩ ∈ a_w0 := a_w0_in (List.mem_append_right _ (List.mem_of_getElem? (i := 1720) (by decide +kernel))) rfl
theorem lv_Law_139 : a_lv R_Law 139 M_Mod_fault 0 := ⟨w_1718, w_1719, w_1720, cm_Mod_fault⟩
theorem w_1722 : Cond.methodLink "LedTablesLaw" 143 ⟨"LedTablesModel", "see", "(IIIII)I"⟩ ∈ a_w0 := a_w0_in (List.mem_append_right _ (List.mem_of_getElem? (i := 1722) (by decide +kernel))) rfl
theorem w_1723 : Cond.instanceMethod ⟨"LedTablesModel", "see", "(IIIII)I"⟩ ∈ a_w0 := a_w0_in (List.mem_append_right _ (List.mem_of_getElem? (i := 1723) (by decide +kernel))) rfl
theorem w_1724 : Cond.selects "LedTablesModel" ⟨"LedTablesModel", "see", "(IIIII)I"⟩ ⟨"LedTablesModel", "see", "(IIIII)I"⟩ ∈ a_w0 := a_w0_in (List.mem_append_right _ (List.mem_of_getElem? (i := 1724) (by decide +kernel))) rfl
theorem lv_Law_143 : a_lv R_Law 143 M_Mod_see 5 := ⟨w_1722, w_1723, w_1724, cm_Mod_see⟩
theorem w_1726 : Cond.methodLink "LedTablesModel" 271 ⟨"LedTablesModel", "sees", "()V"⟩ ∈ a_w0 := a_w0_in (List.mem_append_right _ (List.mem_of_getElem? (i := 1726) (by decide +kernel))) rfl
theorem w_1728 : Cond.instanceMethod ⟨"LedTablesModel", "sees", "()V"⟩ ∈ a_w0 := a_w0_in (List.mem_append_right _ (List.mem_of_getElem? (i := 1728) (by decide +kernel))) rfl
theorem ws_81 : Cond.selects "LedTablesModel" ⟨"LedTablesModel", "sees", "()V"⟩ ⟨"LedTablesModel", "sees", "()V"⟩ ∈ a_w0 := a_w0_in (List.mem_append_left _ (List.mem_of_getElem? (i := 81) (by decide +kernel))) rfl
theorem lv_Mod_271 : a_lv R_Mod 271 M_Mod_sees 0 := ⟨w_1726, w_1728, ws_81, cm_Mod_sees⟩
theorem w_1730 : Cond.methodLink "LedTablesModel" 268 ⟨"LedTablesModel", "valueOf", "(I)I"⟩ ∈ a_w0 := a_w0_in (List.mem_append_right _ (List.mem_of_getElem? (i := 1730) (by decide +kernel))) rfl
theorem w_1732 : Cond.instanceMethod ⟨"LedTablesModel", "valueOf", "(I)I"⟩ ∈ a_w0 := a_w0_in (List.mem_append_right _ (List.mem_of_getElem? (i := 1732) (by decide +kernel))) rfl
theorem ws_82 : Cond.selects "LedTablesModel" ⟨"LedTablesModel", "valueOf", "(I)I"⟩ ⟨"LedTablesModel", "valueOf", "(I)I"⟩ ∈ a_w0 := a_w0_in (List.mem_append_left _ (List.mem_of_getElem? (i := 82) (by decide +kernel))) rfl
theorem lv_Mod_268 : a_lv R_Mod 268 M_Mod_valueOf 1 := ⟨w_1730, w_1732, ws_82, cm_Mod_valueOf⟩
theorem w_1734 : Cond.methodLink "LedTablesModel" 265 ⟨"LedTablesModel", "readsAt", "(I)V"⟩ ∈ a_w0 := a_w0_in (List.mem_append_right _ (List.mem_of_getElem? (i := 1734) (by decide +kernel))) rfl
theorem w_1736 : Cond.instanceMethod ⟨"LedTablesModel", "readsAt", "(I)V"⟩ ∈ a_w0 := a_w0_in (List.mem_append_right _ (List.mem_of_getElem? (i := 1736) (by decide +kernel))) rfl
theorem ws_83 : Cond.selects "LedTablesModel" ⟨"LedTablesModel", "readsAt", "(I)V"⟩ ⟨"LedTablesModel", "readsAt", "(I)V"⟩ ∈ a_w0 := a_w0_in (List.mem_append_left _ (List.mem_of_getElem? (i := 83) (by decide +kernel))) rfl
theorem lv_Mod_265 : a_lv R_Mod 265 M_Mod_readsAt 1 := ⟨w_1734, w_1736, ws_83, cm_Mod_readsAt⟩
theorem w_1738 : Cond.methodLink "LedTablesLaw" 147 ⟨"LedTablesModel", "put", "(IIIIII)I"⟩ ∈ a_w0 := a_w0_in (List.mem_append_right _ (List.mem_of_getElem? (i := 1738) (by decide +kernel))) rfl
theorem w_1739 : Cond.instanceMethod ⟨"LedTablesModel", "put", "(IIIIII)I"⟩ ∈ a_w0 := a_w0_in (List.mem_append_right _ (List.mem_of_getElem? (i := 1739) (by decide +kernel))) rfl
theorem w_1740 : Cond.selects "LedTablesModel" ⟨"LedTablesModel", "put", "(IIIIII)I"⟩ ⟨"LedTablesModel", "put", "(IIIIII)I"⟩ ∈ a_w0 := a_w0_in (List.mem_append_right _ (List.mem_of_getElem? (i := 1740) (by decide +kernel))) rfl
theorem lv_Law_147 : a_lv R_Law 147 M_Mod_put 6 := ⟨w_1738, w_1739, w_1740, cm_Mod_put⟩
theorem w_1742 : Cond.methodLink "LedTablesModel" 274 ⟨"LedTablesModel", "isKept", "(I)Z"⟩ ∈ a_w0 := a_w0_in (List.mem_append_right _ (List.mem_of_getElem? (i := 1742) (by decide +kernel))) rfl
theorem w_1744 : Cond.instanceMethod ⟨"LedTablesModel", "isKept", "(I)Z"⟩ ∈ a_w0 := a_w0_in (List.mem_append_right _ (List.mem_of_getElem? (i := 1744) (by decide +kernel))) rfl
theorem ws_84 : Cond.selects "LedTablesModel" ⟨"LedTablesModel", "isKept", "(I)Z"⟩ ⟨"LedTablesModel", "isKept", "(I)Z"⟩ ∈ a_w0 := a_w0_in (List.mem_append_left _ (List.mem_of_getElem? (i := 84) (by decide +kernel))) rfl
theorem lv_Mod_274 : a_lv R_Mod 274 M_Mod_isKept 1 := ⟨w_1742, w_1744, ws_84, cm_Mod_isKept⟩
theorem w_1746 : Cond.methodLink "LedTablesModel" 277 ⟨"LedTablesModel", "puts", "()V"⟩ ∈ a_w0 := a_w0_in (List.mem_append_right _ (List.mem_of_getElem? (i := 1746) (by decide +kernel))) rfl
theorem w_1748 : Cond.instanceMethod ⟨"LedTablesModel", "puts", "()V"⟩ ∈ a_w0 := a_w0_in (List.mem_append_right _ (List.mem_of_getElem? (i := 1748) (by decide +kernel))) rfl
theorem ws_85 : Cond.selects "LedTablesModel" ⟨"LedTablesModel", "puts", "()V"⟩ ⟨"LedTablesModel", "puts", "()V"⟩ ∈ a_w0 := a_w0_in (List.mem_append_left _ (List.mem_of_getElem? (i := 85) (by decide +kernel))) rfl
theorem lv_Mod_277 : a_lv R_Mod 277 M_Mod_puts 0 := ⟨w_1746, w_1748, ws_85, cm_Mod_puts⟩
theorem w_1750 : Cond.methodLink "LedTablesLaw" 151 ⟨"LedTablesModel", "box", "(III)V"⟩ ∈ a_w0 := a_w0_in (List.mem_append_right _ (List.mem_of_getElem? (i := 1750) (by decide +kernel))) rfl
theorem w_1751 : Cond.instanceMethod ⟨"LedTablesModel", "box", "(III)V"⟩ ∈ a_w0 := a_w0_in (List.mem_append_right _ (List.mem_of_getElem? (i := 1751) (by decide +kernel))) rfl
theorem w_1752 : Cond.selects "LedTablesModel" ⟨"LedTablesModel", "box", "(III)V"⟩ ⟨"LedTablesModel", "box", "(III)V"⟩ ∈ a_w0 := a_w0_in (List.mem_append_right _ (List.mem_of_getElem? (i := 1752) (by decide +kernel))) rfl
theorem lv_Law_151 : a_lv R_Law 151 M_Mod_box 3 := ⟨w_1750, w_1751, w_1752, cm_Mod_box⟩
theorem w_1754 : Cond.methodLink "LedTablesLaw" 155 ⟨"LedTablesModel", "agree", "(II)I"⟩ ∈ a_w0 := a_w0_in (List.mem_append_right _ (List.mem_of_getElem? (i := 1754) (by decide +kernel))) rfl
theorem w_1755 : Cond.instanceMethod ⟨"LedTablesModel", "agree", "(II)I"⟩ ∈ a_w0 := a_w0_in (List.mem_append_right _ (List.mem_of_getElem? (i := 1755) (by decide +kernel))) rfl
theorem w_1756 : Cond.selects "LedTablesModel" ⟨"LedTablesModel", "agree", "(II)I"⟩ ⟨"LedTablesModel", "agree", "(II)I"⟩ ∈ a_w0 := a_w0_in (List.mem_append_right _ (List.mem_of_getElem? (i := 1756) (by decide +kernel))) rfl
theorem lv_Law_155 : a_lv R_Law 155 M_Mod_agree 2 := ⟨w_1754, w_1755, w_1756, cm_Mod_agree⟩
theorem w_1758 : Cond.methodLink "LedTablesModel" 292 ⟨"LedTablesModel", "unlikeRows", "(I)I"⟩ ∈ a_w0 := a_w0_in (List.mem_append_right _ (List.mem_of_getElem? (i := 1758) (by decide +kernel))) rfl
theorem w_1760 : Cond.instanceMethod ⟨"LedTablesModel", "unlikeRows", "(I)I"⟩ ∈ a_w0 := a_w0_in (List.mem_append_right _ (List.mem_of_getElem? (i := 1760) (by decide +kernel))) rfl
theorem ws_86 : Cond.selects "LedTablesModel" ⟨"LedTablesModel", "unlikeRows", "(I)I"⟩ ⟨"LedTablesModel", "unlikeRows", "(I)I"⟩ ∈ a_w0 := a_w0_in (List.mem_append_left _ (List.mem_of_getElem? (i := 86) (by decide +kernel))) rfl
theorem lv_Mod_292 : a_lv R_Mod 292 M_Mod_unlikeRows 1 := ⟨w_1758, w_1760, ws_86, cm_Mod_unlikeRows⟩
theorem w_1762 : Cond.methodLink "LedTablesModel" 283 ⟨"LedTablesModel", "begin", "()V"⟩ ∈ a_w0 := a_w0_in (List.mem_append_right _ (List.mem_of_getElem? (i := 1762) (by decide +kernel))) rfl
theorem w_1764 : Cond.instanceMethod ⟨"LedTablesModel", "begin", "()V"⟩ ∈ a_w0 := a_w0_in (List.mem_append_right _ (List.mem_of_getElem? (i := 1764) (by decide +kernel))) rfl
theorem ws_87 : Cond.selects "LedTablesModel" ⟨"LedTablesModel", "begin", "()V"⟩ ⟨"LedTablesModel", "begin", "()V"⟩ ∈ a_w0 := a_w0_in (List.mem_append_left _ (List.mem_of_getElem? (i := 87) (by decide +kernel))) rfl
theorem lv_Mod_283 : a_lv R_Mod 283 M_Mod_begin 0 := ⟨w_1762, w_1764, ws_87, cm_Mod_begin⟩
theorem w_1766 : Cond.methodLink "LedTablesModel" 286 ⟨"LedTablesModel", "agreesAt", "(I)Z"⟩ ∈ a_w0 := a_w0_in (List.mem_append_right _ (List.mem_of_getElem? (i := 1766) (by decide +kernel))) rfl
theorem w_1768 : Cond.instanceMethod ⟨"LedTablesModel", "agreesAt", "(I)Z"⟩ ∈ a_w0 := a_w0_in (List.mem_append_right _ (List.mem_of_getElem? (i := 1768) (by decide +kernel))) rfl
theorem ws_88 : Cond.selects "LedTablesModel" ⟨"LedTablesModel", "agreesAt", "(I)Z"⟩ ⟨"LedTablesModel", "agreesAt", "(I)Z"⟩ ∈ a_w0 := a_w0_in (List.mem_append_left _ (List.mem_of_getElem? (i := 88) (by decide +kernel))) rfl
theorem lv_Mod_286 : a_lv R_Mod 286 M_Mod_agreesAt 1 := ⟨w_1766, w_1768, ws_88, cm_Mod_agreesAt⟩
theorem w_1770 : Cond.methodLink "LedTablesModel" 280 ⟨"LedTablesModel", "seesRow", "()V"⟩ ∈ a_w0 := a_w0_in (List.mem_append_right _ (List.mem_of_getElem? (i := 1770) (by decide +kernel))) rfl
theorem w_1772 : Cond.instanceMethod ⟨"LedTablesModel", "seesRow", "()V"⟩ ∈ a_w0 := a_w0_in (List.mem_append_right _ (List.mem_of_getElem? (i := 1772) (by decide +kernel))) rfl
theorem ws_89 : Cond.selects "LedTablesModel" ⟨"LedTablesModel", "seesRow", "()V"⟩ ⟨"LedTablesModel", "seesRow", "()V"⟩ ∈ a_w0 := a_w0_in (List.mem_append_left _ (List.mem_of_getElem? (i := 89) (by decide +kernel))) rfl
theorem lv_Mod_280 : a_lv R_Mod 280 M_Mod_seesRow 0 := ⟨w_1770, w_1772, ws_89, cm_Mod_seesRow⟩
theorem w_1774 : Cond.methodLink "LedTablesModel" 289 ⟨"LedTablesModel", "goesOn", "()Z"⟩ ∈ a_w0 := a_w0_in (List.mem_append_right _ (List.mem_of_getElem? (i := 1774) (by decide +kernel))) rfl
theorem w_1776 : Cond.instanceMethod ⟨"LedTablesModel", "goesOn", "()Z"⟩ ∈ a_w0 := a_w0_in (List.mem_append_right _ (List.mem_of_getElem? (i := 1776) (by decide +kernel))) rfl
theorem ws_90 : Cond.selects "LedTablesModel" ⟨"LedTablesModel", "goesOn", "()Z"⟩ ⟨"LedTablesModel", "goesOn", "()Z"⟩ ∈ a_w0 := a_w0_in (List.mem_append_left _ (List.mem_of_getElem? (i := 90) (by decide +kernel))) rfl
theorem lv_Mod_289 : a_lv R_Mod 289 M_Mod_goesOn 0 := ⟨w_1774, w_1776, ws_90, cm_Mod_goesOn⟩
theorem w_1779 : Cond.methodLink "LedTablesLaw" 158 ⟨"LedTablesModel", "unlike", "(I)I"⟩ ∈ a_w0 := a_w0_in (List.mem_append_right _ (List.mem_of_getElem? (i := 1779) (by decide +kernel))) rfl
theorem w_1780 : Cond.instanceMethod ⟨"LedTablesModel", "unlike", "(I)I"⟩ ∈ a_w0 := a_w0_in (List.mem_append_right _ (List.mem_of_getElem? (i := 1780) (by decide +kernel))) rfl
theorem w_1781 : Cond.selects "LedTablesModel" ⟨"LedTablesModel", "unlike", "(I)I"⟩ ⟨"LedTablesModel", "unlike", "(I)I"⟩ ∈ a_w0 := a_w0_in (List.mem_append_right _ (List.mem_of_getElem? (i := 1781) (by decide +kernel))) rfl
theorem lv_Law_158 : a_lv R_Law 158 M_Mod_unlike 1 := ⟨w_1779, w_1780, w_1781, cm_Mod_unlike⟩
theorem w_1783 : Cond.methodLink "LedTablesLaw" 162 ⟨"LedTablesModel", "lost", "()I"⟩ ∈ a_w0 := a_w0_in (List.mem_append_right _ (List.mem_of_getElem? (i := 1783) (by decide +kernel))) rfl
theorem w_1784 : Cond.instanceMethod ⟨"LedTablesModel", "lost", "()I"⟩ ∈ a_w0 := a_w0_in (List.mem_append_right _ (List.mem_of_getElem? (i := 1784) (by decide +kernel))) rfl
theorem w_1785 : Cond.selects "LedTablesModel" ⟨"LedTablesModel", "lost", "()I"⟩ ⟨"LedTablesModel", "lost", "()I"⟩ ∈ a_w0 := a_w0_in (List.mem_append_right _ (List.mem_of_getElem? (i := 1785) (by decide +kernel))) rfl
theorem lv_Law_162 : a_lv R_Law 162 M_Mod_lost 0 := ⟨w_1783, w_1784, w_1785, cm_Mod_lost⟩
theorem w_1787 : Cond.methodLink "LedTablesModel" 299 ⟨"LedTablesModel", "groupOf", "()I"⟩ ∈ a_w0 := a_w0_in (List.mem_append_right _ (List.mem_of_getElem? (i := 1787) (by decide +kernel))) rfl
theorem w_1789 : Cond.instanceMethod ⟨"LedTablesModel", "groupOf", "()I"⟩ ∈ a_w0 := a_w0_in (List.mem_append_right _ (List.mem_of_getElem? (i := 1789) (by decide +kernel))) rfl
theorem ws_91 : Cond.selects "LedTablesModel" ⟨"LedTablesModel", "groupOf", "()I"⟩ ⟨"LedTablesModel", "groupOf", "()I"⟩ ∈ a_w0 := a_w0_in (List.mem_append_left _ (List.mem_of_getElem? (i := 91) (by decide +kernel))) rfl
theorem lv_Mod_299 : a_lv R_Mod 299 M_Mod_groupOf 0 := ⟨w_1787, w_1789, ws_91, cm_Mod_groupOf⟩
theorem w_1791 : Cond.methodLink "LedTablesModel" 296 ⟨"LedTablesModel", "isOfGroup", "(I)Z"⟩ ∈ a_w0 := a_w0_in (List.mem_append_right _ (List.mem_of_getElem? (i := 1791) (by decide +kernel))) rfl
theorem w_1793 : Cond.instanceMethod ⟨"LedTablesModel", "isOfGroup", "(I)Z"⟩ ∈ a_w0 := a_w0_in (List.mem_append_right _ (List.mem_of_getElem? (i := 1793) (by decide +kernel))) rfl
theorem ws_92 : Cond.selects "LedTablesModel" ⟨"LedTablesModel", "isOfGroup", "(I)Z"⟩ ⟨"LedTablesModel", "isOfGroup", "(I)Z"⟩ ∈ a_w0 := a_w0_in (List.mem_append_left _ (List.mem_of_getElem? (i := 92) (by decide +kernel))) rfl
theorem lv_Mod_296 : a_lv R_Mod 296 M_Mod_isOfGroup 1 := ⟨w_1791, w_1793, ws_92, cm_Mod_isOfGroup⟩
theorem w_1795 : Cond.methodLink "LedTablesLaw" 166 ⟨"LedTablesModel", "wrong", "()I"⟩ ∈ a_w0 := a_w0_in (List.mem_append_right _ (List.mem_of_getElem? (i := 1795) (by decide +kernel))) rfl
theorem w_1796 : Cond.instanceMethod ⟨"LedTablesModel", "wrong", "()I"⟩ ∈ a_w0 := a_w0_in (List.mem_append_right _ (List.mem_of_getElem? (i := 1796) (by decide +kernel))) rfl
theorem w_1797 : Cond.selects "LedTablesModel" ⟨"LedTablesModel", "wrong", "()I"⟩ ⟨"LedTablesModel", "wrong", "()I"⟩ ∈ a_w0 := a_w0_in (List.mem_append_right _ (List.mem_of_getElem? (i := 1797) (by decide +kernel))) rfl
theorem lv_Law_166 : a_lv R_Law 166 M_Mod_wrong 0 := ⟨w_1795, w_1796, w_1797, cm_Mod_wrong⟩
theorem w_1799 : Cond.methodLink "LedTablesModel" 302 ⟨"LedTablesModel", "isRightBy", "([I[I)Z"⟩ ∈ a_w0 := a_w0_in (List.mem_append_right _ (List.mem_of_getElem? (i := 1799) (by decide +kernel))) rfl
theorem w_1801 : Cond.instanceMethod ⟨"LedTablesModel", "isRightBy", "([I[I)Z"⟩ ∈ a_w0 := a_w0_in (List.mem_append_right _ (List.mem_of_getElem? (i := 1801) (by decide +kernel))) rfl
theorem ws_93 : Cond.selects "LedTablesModel" ⟨"LedTablesModel", "isRightBy", "([I[I)Z"⟩ ⟨"LedTablesModel", "isRightBy", "([I[I)Z"⟩ ∈ a_w0 := a_w0_in (List.mem_append_left _ (List.mem_of_getElem? (i := 93) (by decide +kernel))) rfl
theorem lv_Mod_302 : a_lv R_Mod 302 M_Mod_isRightBy 2 := ⟨w_1799, w_1801, ws_93, cm_Mod_isRightBy⟩
theorem w_1803 : Cond.methodLink "LedTablesModel" 306 ⟨"LedTablesModel", "isRight", "()Z"⟩ ∈ a_w0 := a_w0_in (List.mem_append_right _ (List.mem_of_getElem? (i := 1803) (by decide +kernel))) rfl
theorem w_1805 : Cond.instanceMethod ⟨"LedTablesModel", "isRight", "()Z"⟩ ∈ a_w0 := a_w0_in (List.mem_append_right _ (List.mem_of_getElem? (i := 1805) (by decide +kernel))) rfl
theorem ws_94 : Cond.selects "LedTablesModel" ⟨"LedTablesModel", "isRight", "()Z"⟩ ⟨"LedTablesModel", "isRight", "()Z"⟩ ∈ a_w0 := a_w0_in (List.mem_append_left _ (List.mem_of_getElem? (i := 94) (by decide +kernel))) rfl
theorem lv_Mod_306 : a_lv R_Mod 306 M_Mod_isRight 0 := ⟨w_1803, w_1805, ws_94, cm_Mod_isRight⟩
theorem w_1807 : Cond.methodLink "LedTablesLaw" 170 ⟨"LedTablesModel", "change", "()I"⟩ ∈ a_w0 := a_w0_in (List.mem_append_right _ (List.mem_of_getElem? (i := 1807) (by decide +kernel))) rfl
theorem w_1808 : Cond.instanceMethod ⟨"LedTablesModel", "change", "()I"⟩ ∈ a_w0 := a_w0_in (List.mem_append_right _ (List.mem_of_getElem? (i := 1808) (by decide +kernel))) rfl
theorem w_1809 : Cond.selects "LedTablesModel" ⟨"LedTablesModel", "change", "()I"⟩ ⟨"LedTablesModel", "change", "()I"⟩ ∈ a_w0 := a_w0_in (List.mem_append_right _ (List.mem_of_getElem? (i := 1809) (by decide +kernel))) rfl
theorem lv_Law_170 : a_lv R_Law 170 M_Mod_change 0 := ⟨w_1807, w_1808, w_1809, cm_Mod_change⟩
theorem w_1811 : Cond.methodLink "LedTablesLaw" 174 ⟨"LedTablesModel", "hold", "(III)I"⟩ ∈ a_w0 := a_w0_in (List.mem_append_right _ (List.mem_of_getElem? (i := 1811) (by decide +kernel))) rfl
theorem w_1812 : Cond.instanceMethod ⟨"LedTablesModel", "hold", "(III)I"⟩ ∈ a_w0 := a_w0_in (List.mem_append_right _ (List.mem_of_getElem? (i := 1812) (by decide +kernel))) rfl
theorem w_1813 : Cond.selects "LedTablesModel" ⟨"LedTablesModel", "hold", "(III)I"⟩ ⟨"LedTablesModel", "hold", "(III)I"⟩ ∈ a_w0 := a_w0_in (List.mem_append_right _ (List.mem_of_getElem? (i := 1813) (by decide +kernel))) rfl
theorem lv_Law_174 : a_lv R_Law 174 M_Mod_hold 3 := ⟨w_1811, w_1812, w_1813, cm_Mod_hold⟩
theorem w_1815 : Cond.methodLink "LedTablesLaw" 178 ⟨"LedTablesModel", "order", "(IIZ)I"⟩ ∈ a_w0 := a_w0_in (List.mem_append_right _ (List.mem_of_getElem? (i := 1815) (by decide +kernel))) rfl
theorem w_1816 : Cond.instanceMethod ⟨"LedTablesModel", "order", "(IIZ)I"⟩ ∈ a_w0 := a_w0_in (List.mem_append_right _ (List.mem_of_getElem? (i := 1816) (by decide +kernel))) rfl
theorem w_1817 : Cond.selects "LedTablesModel" ⟨"LedTablesModel", "order", "(IIZ)I"⟩ ⟨"LedTablesModel", "order", "(IIZ)I"⟩ ∈ a_w0 := a_w0_in (List.mem_append_right _ (List.mem_of_getElem? (i := 1817) (by decide +kernel))) rfl
theorem lv_Law_178 : a_lv R_Law 178 M_Mod_order 3 := ⟨w_1815, w_1816, w_1817, cm_Mod_order⟩
theorem w_1819 : Cond.methodLink "LedTablesLaw" 182 ⟨"LedTablesModel", "program", "()I"⟩ ∈ a_w0 := a_w0_in (List.mem_append_right _ (List.mem_of_getElem? (i := 1819) (by decide +kernel))) rfl
theorem w_1820 : Cond.instanceMethod ⟨"LedTablesModel", "program", "()I"⟩ ∈ a_w0 := a_w0_in (List.mem_append_right _ (List.mem_of_getElem? (i := 1820) (by decide +kernel))) rfl
theorem w_1821 : Cond.selects "LedTablesModel" ⟨"LedTablesModel", "program", "()I"⟩ ⟨"LedTablesModel", "program", "()I"⟩ ∈ a_w0 := a_w0_in (List.mem_append_right _ (List.mem_of_getElem? (i := 1821) (by decide +kernel))) rfl
theorem lv_Law_182 : a_lv R_Law 182 M_Mod_program 0 := ⟨w_1819, w_1820, w_1821, cm_Mod_program⟩
theorem w_1823 : Cond.methodLink "LedTablesLaw" 185 ⟨"LedTablesModel", "need", "(III)I"⟩ ∈ a_w0 := a_w0_in (List.mem_append_right _ (List.mem_of_getElem? (i := 1823) (by decide +kernel))) rfl
theorem w_1824 : Cond.instanceMethod ⟨"LedTablesModel", "need", "(III)I"⟩ ∈ a_w0 := a_w0_in (List.mem_append_right _ (List.mem_of_getElem? (i := 1824) (by decide +kernel))) rfl
theorem w_1825 : Cond.selects "LedTablesModel" ⟨"LedTablesModel", "need", "(III)I"⟩ ⟨"LedTablesModel", "need", "(III)I"⟩ ∈ a_w0 := a_w0_in (List.mem_append_right _ (List.mem_of_getElem? (i := 1825) (by decide +kernel))) rfl
theorem lv_Law_185 : a_lv R_Law 185 M_Mod_need 3 := ⟨w_1823, w_1824, w_1825, cm_Mod_need⟩
theorem w_1827 : Cond.methodLink "LedTablesLaw" 188 ⟨"LedTablesModel", "price", "(II)I"⟩ ∈ a_w0 := a_w0_in (List.mem_append_right _ (List.mem_of_getElem? (i := 1827) (by decide +kernel))) rfl
theorem w_1828 : Cond.instanceMethod ⟨"LedTablesModel", "price", "(II)I"⟩ ∈ a_w0 := a_w0_in (List.mem_append_right _ (List.mem_of_getElem? (i := 1828) (by decide +kernel))) rfl
theorem w_1829 : Cond.selects "LedTablesModel" ⟨"LedTablesModel", "price", "(II)I"⟩ ⟨"LedTablesModel", "price", "(II)I"⟩ ∈ a_w0 := a_w0_in (List.mem_append_right _ (List.mem_of_getElem? (i := 1829) (by decide +kernel))) rfl
theorem lv_Law_188 : a_lv R_Law 188 M_Mod_price 2 := ⟨w_1827, w_1828, w_1829, cm_Mod_price⟩
theorem w_1831 : Cond.methodLink "LedTablesLaw" 191 ⟨"LedTablesModel", "stands", "(II)Z"⟩ ∈ a_w0 := a_w0_in (List.mem_append_right _ (List.mem_of_getElem? (i := 1831) (by decide +kernel))) rfl
theorem w_1832 : Cond.instanceMethod ⟨"LedTablesModel", "stands", "(II)Z"⟩ ∈ a_w0 := a_w0_in (List.mem_append_right _ (List.mem_of_getElem? (i := 1832) (by decide +kernel))) rfl
theorem w_1833 : Cond.selects "LedTablesModel" ⟨"LedTablesModel", "stands", "(II)Z"⟩ ⟨"LedTablesModel", "stands", "(II)Z"⟩ ∈ a_w0 := a_w0_in (List.mem_append_right _ (List.mem_of_getElem? (i := 1833) (by decide +kernel))) rfl
theorem lv_Law_191 : a_lv R_Law 191 M_Mod_stands 2 := ⟨w_1831, w_1832, w_1833, cm_Mod_stands⟩
theorem w_1835 : Cond.methodLink "LedTablesModel" 325 ⟨"LedTablesModel", "isNode", "(II)Z"⟩ ∈ a_w0 := a_w0_in (List.mem_append_right _ (List.mem_of_getElem? (i := 1835) (by decide +kernel))) rfl
theorem w_1837 : Cond.instanceMethod ⟨"LedTablesModel", "isNode", "(II)Z"⟩ ∈ a_w0 := a_w0_in (List.mem_append_right _ (List.mem_of_getElem? (i := 1837) (by decide +kernel))) rfl
theorem ws_95 : Cond.selects "LedTablesModel" ⟨"LedTablesModel", "isNode", "(II)Z"⟩ ⟨"LedTablesModel", "isNode", "(II)Z"⟩ ∈ a_w0 := a_w0_in (List.mem_append_left _ (List.mem_of_getElem? (i := 95) (by decide +kernel))) rfl
theorem lv_Mod_325 : a_lv R_Mod 325 M_Mod_isNode 2 := ⟨w_1835, w_1837, ws_95, cm_Mod_isNode⟩
theorem w_1839 : Cond.methodLink "LedTablesModel" 322 ⟨"LedTablesModel", "nodes", "()I"⟩ ∈ a_w0 := a_w0_in (List.mem_append_right _ (List.mem_of_getElem? (i := 1839) (by decide +kernel))) rfl
theorem w_1841 : Cond.instanceMethod ⟨"LedTablesModel", "nodes", "()I"⟩ ∈ a_w0 := a_w0_in (List.mem_append_right _ (List.mem_of_getElem? (i := 1841) (by decide +kernel))) rfl
theorem ws_96 : Cond.selects "LedTablesModel" ⟨"LedTablesModel", "nodes", "()I"⟩ ⟨"LedTablesModel", "nodes", "()I"⟩ ∈ a_w0 := a_w0_in (List.mem_append_left _ (List.mem_of_getElem? (i := 96) (by decide +kernel))) rfl
theorem lv_Mod_322 : a_lv R_Mod 322 M_Mod_nodes 0 := ⟨w_1839, w_1841, ws_96, cm_Mod_nodes⟩
theorem w_1843 : Cond.methodLink "LedTablesModel" 329 ⟨"LedTablesModel", "stands0", "(II)Z"⟩ ∈ a_w0 := a_w0_in (List.mem_append_right _ (List.mem_of_getElem? (i := 1843) (by decide +kernel))) rfl
theorem w_1845 : Cond.instanceMethod ⟨"LedTablesModel", "stands0", "(II)Z"⟩ ∈ a_w0 := a_w0_in (List.mem_append_right _ (List.mem_of_getElem? (i := 1845) (by decide +kernel))) rfl
theorem ws_97 : Cond.selects "LedTablesModel" ⟨"LedTablesModel", "stands0", "(II)Z"⟩ ⟨"LedTablesModel", "stands0", "(II)Z"⟩ ∈ a_w0 := a_w0_in (List.mem_append_left _ (List.mem_of_getElem? (i := 97) (by decide +kernel))) rfl
theorem lv_Mod_329 : a_lv R_Mod 329 M_Mod_stands0 2 := ⟨w_1843, w_1845, ws_97, cm_Mod_stands0⟩
theorem w_1847 : Cond.methodLink "LedTablesModel" 318 ⟨"LedTablesModel", "stageOf", "(II)I"⟩ ∈ a_w0 := a_w0_in (List.mem_append_right _ (List.mem_of_getElem? (i := 1847) (by decide +kernel))) rfl
theorem w_1848 : Cond.static ⟨"LedTablesModel", "stageOf", "(II)I"⟩ ∈ a_w0 := a_w0_in (List.mem_append_right _ (List.mem_of_getElem? (i := 1848) (by decide +kernel))) rfl
theorem ls_Mod_318 : a_ls R_Mod 318 M_Mod_stageOf 2 := ⟨w_1847, w_1848, cm_Mod_stageOf⟩
theorem w_1850 : Cond.methodLink "LedTablesModel" 315 ⟨"LedTablesModel", "power", "(I)I"⟩ ∈ a_w0 := a_w0_in (List.mem_append_right _ (List.mem_of_getElem? (i := 1850) (by decide +kernel))) rfl
theorem w_1851 : Cond.static ⟨"LedTablesModel", "power", "(I)I"⟩ ∈ a_w0 := a_w0_in (List.mem_append_right _ (List.mem_of_getElem? (i := 1851) (by decide +kernel))) rfl
theorem ls_Mod_315 : a_ls R_Mod 315 M_Mod_power 1 := ⟨w_1850, w_1851, cm_Mod_power⟩
theorem w_1853 : Cond.methodLink "LedTablesLaw" 194 ⟨"LedTablesModel", "way", "(III)I"⟩ ∈ a_w0 := a_w0_in (List.mem_append_right _ (List.mem_of_getElem? (i := 1853) (by decide +kernel))) rfl
theorem w_1854 : Cond.instanceMethod ⟨"LedTablesModel", "way", "(III)I"⟩ ∈ a_w0 := a_w0_in (List.mem_append_right _ (List.mem_of_getElem? (i := 1854) (by decide +kernel))) rfl
theorem w_1855 : Cond.selects "LedTablesModel" ⟨"LedTablesModel", "way", "(III)I"⟩ ⟨"LedTablesModel", "way", "(III)I"⟩ ∈ a_w0 := a_w0_in (List.mem_append_right _ (List.mem_of_getElem? (i := 1855) (by decide +kernel))) rfl
theorem lv_Law_194 : a_lv R_Law 194 M_Mod_way 3 := ⟨w_1853, w_1854, w_1855, cm_Mod_way⟩
theorem w_1857 : Cond.methodLink "LedTablesModel" 339 ⟨"LedTablesModel", "findBest", "(II)V"⟩ ∈ a_w0 := a_w0_in (List.mem_append_right _ (List.mem_of_getElem? (i := 1857) (by decide +kernel))) rfl
theorem w_1859 : Cond.instanceMethod ⟨"LedTablesModel", "findBest", "(II)V"⟩ ∈ a_w0 := a_w0_in (List.mem_append_right _ (List.mem_of_getElem? (i := 1859) (by decide +kernel))) rfl
theorem ws_98 : Cond.selects "LedTablesModel" ⟨"LedTablesModel", "findBest", "(II)V"⟩ ⟨"LedTablesModel", "findBest", "(II)V"⟩ ∈ a_w0 := a_w0_in (List.mem_append_left _ (List.mem_of_getElem? (i := 98) (by decide +kernel))) rfl
theorem lv_Mod_339 : a_lv R_Mod 339 M_Mod_findBest 2 := ⟨w_1857, w_1859, ws_98, cm_Mod_findBest⟩
theorem w_1861 : Cond.methodLink "LedTablesModel" 332 ⟨"LedTablesModel", "stepTo", "(III)I"⟩ ∈ a_w0 := a_w0_in (List.mem_append_right _ (List.mem_of_getElem? (i := 1861) (by decide +kernel))) rfl
theorem w_1863 : Cond.instanceMethod ⟨"LedTablesModel", "stepTo", "(III)I"⟩ ∈ a_w0 := a_w0_in (List.mem_append_right _ (List.mem_of_getElem? (i := 1863) (by decide +kernel))) rfl
theorem ws_99 : Cond.selects "LedTablesModel" ⟨"LedTablesModel", "stepTo", "(III)I"⟩ ⟨"LedTablesModel", "stepTo", "(III)I"⟩ ∈ a_w0 := a_w0_in (List.mem_append_left _ (List.mem_of_getElem? (i := 99) (by decide +kernel))) rfl
theorem lv_Mod_332 : a_lv R_Mod 332 M_Mod_stepTo 3 := ⟨w_1861, w_1863, ws_99, cm_Mod_stepTo⟩
theorem w_1865 : Cond.methodLink "LedTablesModel" 336 ⟨"LedTablesModel", "costOf", "(II)I"⟩ ∈ a_w0 := a_w0_in (List.mem_append_right _ (List.mem_of_getElem? (i := 1865) (by decide +kernel))) rfl
theorem w_1867 : Cond.instanceMethod ⟨"LedTablesModel", "costOf", "(II)I"⟩ ∈ a_w0 := a_w0_in (List.mem_append_right _ (List.mem_of_getElem? (i := 1867) (by decide +kernel))) rfl
theorem ws_100 : Cond.selects "LedTablesModel" ⟨"LedTablesModel", "costOf", "(II)I"⟩ ⟨"LedTablesModel", "costOf", "(II)I"⟩ ∈ a_w0 := a_w0_in (List.mem_append_left _ (List.mem_of_getElem? (i := 100) (by decide +kernel))) rfl
theorem lv_Mod_336 : a_lv R_Mod 336 M_Mod_costOf 2 := ⟨w_1865, w_1867, ws_100, cm_Mod_costOf⟩
theorem w_1869 : Cond.methodLink "LedTablesModel" 342 ⟨"LedTablesModel", "firstStep", "(I)I"⟩ ∈ a_w0 := a_w0_in (List.mem_append_right _ (List.mem_of_getElem? (i := 1869) (by decide +kernel))) rfl
theorem w_1871 : Cond.instanceMethod ⟨"LedTablesModel", "firstStep", "(I)I"⟩ ∈ a_w0 := a_w0_in (List.mem_append_right _ (List.mem_of_getElem? (i := 1871) (by decide +kernel))) rfl
theorem ws_101 : Cond.selects "LedTablesModel" ⟨"LedTablesModel", "firstStep", "(I)I"⟩ ⟨"LedTablesModel", "firstStep", "(I)I"⟩ ∈ a_w0 := a_w0_in (List.mem_append_left _ (List.mem_of_getElem? (i := 101) (by decide +kernel))) rfl
theorem lv_Mod_342 : a_lv R_Mod 342 M_Mod_firstStep 1 := ⟨w_1869, w_1871, ws_101, cm_Mod_firstStep⟩
theorem w_1873 : Cond.methodLink "LedTablesLaw" 197 ⟨"LedTablesModel", "fewest", "(II)I"⟩ ∈ a_w0 := a_w0_in (List.mem_append_right _ (List.mem_of_getElem? (i := 1873) (by decide +kernel))) rfl
theorem w_1874 : Cond.instanceMethod ⟨"LedTablesModel", "fewest", "(II)I"⟩ ∈ a_w0 := a_w0_in (List.mem_append_right _ (List.mem_of_getElem? (i := 1874) (by decide +kernel))) rfl
theorem w_1875 : Cond.selects "LedTablesModel" ⟨"LedTablesModel", "fewest", "(II)I"⟩ ⟨"LedTablesModel", "fewest", "(II)I"⟩ ∈ a_w0 := a_w0_in (List.mem_append_right _ (List.mem_of_getElem? (i := 1875) (by decide +kernel))) rfl
theorem lv_Law_197 : a_lv R_Law 197 M_Mod_fewest 2 := ⟨w_1873, w_1874, w_1875, cm_Mod_fewest⟩
theorem w_1877 : Cond.methodLink "LedTablesLaw" 200 ⟨"LedTablesModel", "isBack", "(II)Z"⟩ ∈ a_w0 := a_w0_in (List.mem_append_right _ (List.mem_of_getElem? (i := 1877) (by decide +kernel))) rfl
theorem w_1878 : Cond.instanceMethod ⟨"LedTablesModel", "isBack", "(II)Z"⟩ ∈ a_w0 := a_w0_in (List.mem_append_right _ (List.mem_of_getElem? (i := 1878) (by decide +kernel))) rfl
theorem w_1879 : Cond.selects "LedTablesModel" ⟨"LedTablesModel", "isBack", "(II)Z"⟩ ⟨"LedTablesModel", "isBack", "(II)Z"⟩ ∈ a_w0 := a_w0_in (List.mem_append_right _ (List.mem_of_getElem? (i := 1879) (by decide +kernel))) rfl
theorem lv_Law_200 : a_lv R_Law 200 M_Mod_isBack 2 := ⟨w_1877, w_1878, w_1879, cm_Mod_isBack⟩
theorem w_1881 : Cond.methodLink "LedTablesLaw" 203 ⟨"LedTablesModel", "last", "(II)I"⟩ ∈ a_w0 := a_w0_in (List.mem_append_right _ (List.mem_of_getElem? (i := 1881) (by decide +kernel))) rfl
theorem w_1882 : Cond.instanceMethod ⟨"LedTablesModel", "last", "(II)I"⟩ ∈ a_w0 := a_w0_in (List.mem_append_right _ (List.mem_of_getElem? (i := 1882) (by decide +kernel))) rfl
theorem w_1883 : Cond.selects "LedTablesModel" ⟨"LedTablesModel", "last", "(II)I"⟩ ⟨"LedTablesModel", "last", "(II)I"⟩ ∈ a_w0 := a_w0_in (List.mem_append_right _ (List.mem_of_getElem? (i := 1883) (by decide +kernel))) rfl
theorem lv_Law_203 : a_lv R_Law 203 M_Mod_last 2 := ⟨w_1881, w_1882, w_1883, cm_Mod_last⟩
theorem w_1885 : Cond.methodLink "LedTablesLaw" 207 ⟨"LedTablesModel", "go", "()I"⟩ ∈ a_w0 := a_w0_in (List.mem_append_right _ (List.mem_of_getElem? (i := 1885) (by decide +kernel))) rfl
theorem w_1886 : Cond.instanceMethod ⟨"LedTablesModel", "go", "()I"⟩ ∈ a_w0 := a_w0_in (List.mem_append_right _ (List.mem_of_getElem? (i := 1886) (by decide +kernel))) rfl
theorem w_1887 : Cond.selects "LedTablesModel" ⟨"LedTablesModel", "go", "()I"⟩ ⟨"LedTablesModel", "go", "()I"⟩ ∈ a_w0 := a_w0_in (List.mem_append_right _ (List.mem_of_getElem? (i := 1887) (by decide +kernel))) rfl
theorem lv_Law_207 : a_lv R_Law 207 M_Mod_go 0 := ⟨w_1885, w_1886, w_1887, cm_Mod_go⟩
theorem w_1889 : Cond.methodLink "LedTablesModel" 357 ⟨"LedTablesModel", "many", "(I)I"⟩ ∈ a_w0 := a_w0_in (List.mem_append_right _ (List.mem_of_getElem? (i := 1889) (by decide +kernel))) rfl
theorem w_1891 : Cond.instanceMethod ⟨"LedTablesModel", "many", "(I)I"⟩ ∈ a_w0 := a_w0_in (List.mem_append_right _ (List.mem_of_getElem? (i := 1891) (by decide +kernel))) rfl
theorem ws_102 : Cond.selects "LedTablesModel" ⟨"LedTablesModel", "many", "(I)I"⟩ ⟨"LedTablesModel", "many", "(I)I"⟩ ∈ a_w0 := a_w0_in (List.mem_append_left _ (List.mem_of_getElem? (i := 102) (by decide +kernel))) rfl
theorem lv_Mod_357 : a_lv R_Mod 357 M_Mod_many 1 := ⟨w_1889, w_1891, ws_102, cm_Mod_many⟩
theorem w_1893 : Cond.methodLink "LedTablesModel" 360 ⟨"LedTablesModel", "brokenOnes", "()I"⟩ ∈ a_w0 := a_w0_in (List.mem_append_right _ (List.mem_of_getElem? (i := 1893) (by decide +kernel))) rfl
theorem w_1895 : Cond.instanceMethod ⟨"LedTablesModel", "brokenOnes", "()I"⟩ ∈ a_w0 := a_w0_in (List.mem_append_right _ (List.mem_of_getElem? (i := 1895) (by decide +kernel))) rfl
theorem ws_103 : Cond.selects "LedTablesModel" ⟨"LedTablesModel", "brokenOnes", "()I"⟩ ⟨"LedTablesModel", "brokenOnes", "()I"⟩ ∈ a_w0 := a_w0_in (List.mem_append_left _ (List.mem_of_getElem? (i := 103) (by decide +kernel))) rfl
theorem lv_Mod_360 : a_lv R_Mod 360 M_Mod_brokenOnes 0 := ⟨w_1893, w_1895, ws_103, cm_Mod_brokenOnes⟩
theorem w_1897 : Cond.methodLink "LedTablesModel" 363 ⟨"LedTablesModel", "oddOnes", "()I"⟩ ∈ a_w0 := a_w0_in (List.mem_append_right _ (List.mem_of_getElem? (i := 1897) (by decide +kernel))) rfl
theorem w_1899 : Cond.instanceMethod ⟨"LedTablesModel", "oddOnes", "()I"⟩ ∈ a_w0 := a_w0_in (List.mem_append_right _ (List.mem_of_getElem? (i := 1899) (by decide +kernel))) rfl
theorem ws_104 : Cond.selects "LedTablesModel" ⟨"LedTablesModel", "oddOnes", "()I"⟩ ⟨"LedTablesModel", "oddOnes", "()I"⟩ ∈ a_w0 := a_w0_in (List.mem_append_left _ (List.mem_of_getElem? (i := 104) (by decide +kernel))) rfl
theorem lv_Mod_363 : a_lv R_Mod 363 M_Mod_oddOnes 0 := ⟨w_1897, w_1899, ws_104, cm_Mod_oddOnes⟩
theorem w_1901 : Cond.methodLink "LedTablesModel" 348 ⟨"LedTablesModel", "isOdd", "(I)Z"⟩ ∈ a_w0 := a_w0_in (List.mem_append_right _ (List.mem_of_getElem? (i := 1901) (by decide +kernel))) rfl
theorem w_1903 : Cond.instanceMethod ⟨"LedTablesModel", "isOdd", "(I)Z"⟩ ∈ a_w0 := a_w0_in (List.mem_append_right _ (List.mem_of_getElem? (i := 1903) (by decide +kernel))) rfl
theorem ws_105 : Cond.selects "LedTablesModel" ⟨"LedTablesModel", "isOdd", "(I)Z"⟩ ⟨"LedTablesModel", "isOdd", "(I)Z"⟩ ∈ a_w0 := a_w0_in (List.mem_append_left _ (List.mem_of_getElem? (i := 105) (by decide +kernel))) rfl
theorem lv_Mod_348 : a_lv R_Mod 348 M_Mod_isOdd 1 := ⟨w_1901, w_1903, ws_105, cm_Mod_isOdd⟩
theorem w_1905 : Cond.methodLink "LedTablesModel" 345 ⟨"LedTablesModel", "seesOf", "(I)V"⟩ ∈ a_w0 := a_w0_in (List.mem_append_right _ (List.mem_of_getElem? (i := 1905) (by decide +kernel))) rfl
theorem w_1907 : Cond.instanceMethod ⟨"LedTablesModel", "seesOf", "(I)V"⟩ ∈ a_w0 := a_w0_in (List.mem_append_right _ (List.mem_of_getElem? (i := 1907) (by decide +kernel))) rfl
theorem ws_106 : Cond.selects "LedTablesModel" ⟨"LedTablesModel", "seesOf", "(I)V"⟩ ⟨"LedTablesModel", "seesOf", "(I)V"⟩ ∈ a_w0 := a_w0_in (List.mem_append_left _ (List.mem_of_getElem? (i := 106) (by decide +kernel))) rfl
theorem lv_Mod_345 : a_lv R_Mod 345 M_Mod_seesOf 1 := ⟨w_1905, w_1907, ws_106, cm_Mod_seesOf⟩
theorem w_1909 : Cond.methodLink "LedTablesModel" 366 ⟨"LedTablesModel", "isQuiet", "()Z"⟩ ∈ a_w0 := a_w0_in (List.mem_append_right _ (List.mem_of_getElem? (i := 1909) (by decide +kernel))) rfl
theorem w_1911 : Cond.instanceMethod ⟨"LedTablesModel", "isQuiet", "()Z"⟩ ∈ a_w0 := a_w0_in (List.mem_append_right _ (List.mem_of_getElem? (i := 1911) (by decide +kernel))) rfl
theorem ws_107 : Cond.selects "LedTablesModel" ⟨"LedTablesModel", "isQuiet", "()Z"⟩ ⟨"LedTablesModel", "isQuiet", "()Z"⟩ ∈ a_w0 := a_w0_in (List.mem_append_left _ (List.mem_of_getElem? (i := 107) (by decide +kernel))) rfl
theorem lv_Mod_366 : a_lv R_Mod 366 M_Mod_isQuiet 0 := ⟨w_1909, w_1911, ws_107, cm_Mod_isQuiet⟩
theorem w_1913 : Cond.methodLink "LedTablesModel" 354 ⟨"LedTablesModel", "isAskedFrom", "(III)Z"⟩ ∈ a_w0 := a_w0_in (List.mem_append_right _ (List.mem_of_getElem? (i := 1913) (by decide +kernel))) rfl
theorem w_1915 : Cond.instanceMethod ⟨"LedTablesModel", "isAskedFrom", "(III)Z"⟩ ∈ a_w0 := a_w0_in (List.mem_append_right _ (List.mem_of_getElem? (i := 1915) (by decide +kernel))) rfl
theorem ws_108 : Cond.selects "LedTablesModel" ⟨"LedTablesModel", "isAskedFrom", "(III)Z"⟩ ⟨"LedTablesModel", "isAskedFrom", "(III)Z"⟩ ∈ a_w0 := a_w0_in (List.mem_append_left _ (List.mem_of_getElem? (i := 108) (by decide +kernel))) rfl
theorem lv_Mod_354 : a_lv R_Mod 354 M_Mod_isAskedFrom 3 := ⟨w_1913, w_1915, ws_108, cm_Mod_isAskedFrom⟩
theorem w_1917 : Cond.methodLink "LedTablesLaw" 211 ⟨"LedTablesModel", "back", "()I"⟩ ∈ a_w0 := a_w0_in (List.mem_append_right _ (List.mem_of_getElem? (i := 1917) (by decide +kernel))) rfl
theorem w_1918 : Cond.instanceMethod ⟨"LedTablesModel", "back", "()I"⟩ ∈ a_w0 := a_w0_in (List.mem_append_right _ (List.mem_of_getElem? (i := 1918) (by decide +kernel))) rfl
theorem w_1919 : Cond.selects "LedTablesModel" ⟨"LedTablesModel", "back", "()I"⟩ ⟨"LedTablesModel", "back", "()I"⟩ ∈ a_w0 := a_w0_in (List.mem_append_right _ (List.mem_of_getElem? (i := 1919) (by decide +kernel))) rfl
theorem lv_Law_211 : a_lv R_Law 211 M_Mod_back 0 := ⟨w_1917, w_1918, w_1919, cm_Mod_back⟩
theorem w_1921 : Cond.methodLink "LedTablesLaw" 214 ⟨"LedTablesModel", "insert", "(I)I"⟩ ∈ a_w0 := a_w0_in (List.mem_append_right _ (List.mem_of_getElem? (i := 1921) (by decide +kernel))) rfl
theorem w_1922 : Cond.instanceMethod ⟨"LedTablesModel", "insert", "(I)I"⟩ ∈ a_w0 := a_w0_in (List.mem_append_right _ (List.mem_of_getElem? (i := 1922) (by decide +kernel))) rfl
theorem w_1923 : Cond.selects "LedTablesModel" ⟨"LedTablesModel", "insert", "(I)I"⟩ ⟨"LedTablesModel", "insert", "(I)I"⟩ ∈ a_w0 := a_w0_in (List.mem_append_right _ (List.mem_of_getElem? (i := 1923) (by decide +kernel))) rfl
theorem lv_Law_214 : a_lv R_Law 214 M_Mod_insert 1 := ⟨w_1921, w_1922, w_1923, cm_Mod_insert⟩
theorem w_1925 : Cond.methodLink "LedTablesModel" 369 ⟨"LedTablesModel", "isKey", "(I)Z"⟩ ∈ a_w0 := a_w0_in (List.mem_append_right _ (List.mem_of_getElem? (i := 1925) (by decide +kernel))) rfl
theorem w_1927 : Cond.instanceMethod ⟨"LedTablesModel", "isKey", "(I)Z"⟩ ∈ a_w0 := a_w0_in (List.mem_append_right _ (List.mem_of_getElem? (i := 1927) (by decide +kernel))) rfl
theorem ws_109 : Cond.selects "LedTablesModel" ⟨"LedTablesModel", "isKey", "(I)Z"⟩ ⟨"LedTablesModel", "isKey", "(I)Z"⟩ ∈ a_w0 := a_w0_in (List.mem_append_left _ (List.mem_of_getElem? (i := 109) (by decide +kernel))) rfl
theorem lv_Mod_369 : a_lv R_Mod 369 M_Mod_isKey 1 := ⟨w_1925, w_1927, ws_109, cm_Mod_isKey⟩
theorem w_1929 : Cond.methodLink "LedTablesModel" 372 ⟨"LedTablesModel", "takesSeen", "(I)V"⟩ ∈ a_w0 := a_w0_in (List.mem_append_right _ (List.mem_of_getElem? (i := 1929) (by decide +kernel))) rfl
theorem w_1931 : Cond.instanceMethod ⟨"LedTablesModel", "takesSeen", "(I)V"⟩ ∈ a_w0 := a_w0_in (List.mem_append_right _ (List.mem_of_getElem? (i := 1931) (by decide +kernel))) rfl
theorem ws_110 : Cond.selects "LedTablesModel" ⟨"LedTablesModel", "takesSeen", "(I)V"⟩ ⟨"LedTablesModel", "takesSeen", "(I)V"⟩ ∈ a_w0 := a_w0_in (List.mem_append_left _ (List.mem_of_getElem? (i := 110) (by decide +kernel))) rfl
theorem lv_Mod_372 : a_lv R_Mod 372 M_Mod_takesSeen 1 := ⟨w_1929, w_1931, ws_110, cm_Mod_takesSeen⟩
theorem w_1933 : Cond.methodLink "LedTablesLaw" 217 ⟨"LedTablesModel", "delete", "(I)Z"⟩ ∈ a_w0 := a_w0_in (List.mem_append_right _ (List.mem_of_getElem? (i := 1933) (by decide +kernel))) rfl
theorem w_1934 : Cond.instanceMethod ⟨"LedTablesModel", "delete", "(I)Z"⟩ ∈ a_w0 := a_w0_in (List.mem_append_right _ (List.mem_of_getElem? (i := 1934) (by decide +kernel))) rfl
theorem w_1935 : Cond.selects "LedTablesModel" ⟨"LedTablesModel", "delete", "(I)Z"⟩ ⟨"LedTablesModel", "delete", "(I)Z"⟩ ∈ a_w0 := a_w0_in (List.mem_append_right _ (List.mem_of_getElem? (i := 1935) (by decide +kernel))) rfl
theorem lv_Law_217 : a_lv R_Law 217 M_Mod_delete 1 := ⟨w_1933, w_1934, w_1935, cm_Mod_delete⟩
theorem w_1937 : Cond.methodLink "LedTablesLaw" 221 ⟨"LedTablesModel", "read", "(IIII)I"⟩ ∈ a_w0 := a_w0_in (List.mem_append_right _ (List.mem_of_getElem? (i := 1937) (by decide +kernel))) rfl
theorem w_1938 : Cond.instanceMethod ⟨"LedTablesModel", "read", "(IIII)I"⟩ ∈ a_w0 := a_w0_in (List.mem_append_right _ (List.mem_of_getElem? (i := 1938) (by decide +kernel))) rfl
theorem w_1939 : Cond.selects "LedTablesModel" ⟨"LedTablesModel", "read", "(IIII)I"⟩ ⟨"LedTablesModel", "read", "(IIII)I"⟩ ∈ a_w0 := a_w0_in (List.mem_append_right _ (List.mem_of_getElem? (i := 1939) (by decide +kernel))) rfl
theorem lv_Law_221 : a_lv R_Law 221 M_Mod_read 4 := ⟨w_1937, w_1938, w_1939, cm_Mod_read⟩
theorem w_1941 : Cond.methodLink "LedTablesModel" 375 ⟨"LedTablesModel", "oldAsIf", "(I)V"⟩ ∈ a_w0 := a_w0_in (List.mem_append_right _ (List.mem_of_getElem? (i := 1941) (by decide +kernel))) rfl
theorem w_1943 : Cond.instanceMethod ⟨"LedTablesModel", "oldAsIf", "(I)V"⟩ ∈ a_w0 := a_w0_in (List.mem_append_right _ (List.mem_of_getElem? (i := 1943) (by decide +kernel))) rfl
theorem ws_111 : Cond.selects "LedTablesModel" ⟨"LedTablesModel", "oldAsIf", "(I)V"⟩ ⟨"LedTablesModel", "oldAsIf", "(I)V"⟩ ∈ a_w0 := a_w0_in (List.mem_append_left _ (List.mem_of_getElem? (i := 111) (by decide +kernel))) rfl
theorem lv_Mod_375 : a_lv R_Mod 375 M_Mod_oldAsIf 1 := ⟨w_1941, w_1943, ws_111, cm_Mod_oldAsIf⟩
theorem w_1945 : Cond.methodLink "LedTablesModel" 378 ⟨"LedTablesModel", "newAsIf", "(I)V"⟩ ∈ a_w0 := a_w0_in (List.mem_append_right _ (List.mem_of_getElem? (i := 1945) (by decide +kernel))) rfl
theorem w_1947 : Cond.instanceMethod ⟨"LedTablesModel", "newAsIf", "(I)V"⟩ ∈ a_w0 := a_w0_in (List.mem_append_right _ (List.mem_of_getElem? (i := 1947) (by decide +kernel))) rfl
theorem ws_112 : Cond.selects "LedTablesModel" ⟨"LedTablesModel", "newAsIf", "(I)V"⟩ ⟨"LedTablesModel", "newAsIf", "(I)V"⟩ ∈ a_w0 := a_w0_in (List.mem_append_left _ (List.mem_of_getElem? (i := 112) (by decide +kernel))) rfl
theorem lv_Mod_378 : a_lv R_Mod 378 M_Mod_newAsIf 1 := ⟨w_1945, w_1947, ws_112, cm_Mod_newAsIf⟩
theorem w_1949 : Cond.methodLink "LedTablesLaw" 224 ⟨"LedTablesModel", "write", "(IIIII)I"⟩ ∈ a_w0 := a_w0_in (List.mem_append_right _ (List.mem_of_getElem? (i := 1949) (by decide +kernel))) rfl
theorem w_1950 : Cond.instanceMethod ⟨"LedTablesModel", "write", "(IIIII)I"⟩ ∈ a_w0 := a_w0_in (List.mem_append_right _ (List.mem_of_getElem? (i := 1950) (by decide +kernel))) rfl
theorem w_1951 : Cond.selects "LedTablesModel" ⟨"LedTablesModel", "write", "(IIIII)I"⟩ ⟨"LedTablesModel", "write", "(IIIII)I"⟩ ∈ a_w0 := a_w0_in (List.mem_append_right _ (List.mem_of_getElem? (i := 1951) (by decide +kernel))) rfl
theorem lv_Law_224 : a_lv R_Law 224 M_Mod_write 5 := ⟨w_1949, w_1950, w_1951, cm_Mod_write⟩
theorem w_1955 : Cond.methodLink "LedTablesModel" 386 ⟨"LedTablesModel", "writeOld", "(III)V"⟩ ∈ a_w0 := a_w0_in (List.mem_append_right _ (List.mem_of_getElem? (i := 1955) (by decide +kernel))) rfl
theorem w_1957 : Cond.instanceMethod ⟨"LedTablesModel", "writeOld", "(III)V"⟩ ∈ a_w0 := a_w0_in (List.mem_append_right _ (List.mem_of_getElem? (i := 1957) (by decide +kernel))) rfl
theorem ws_113 : Cond.selects "LedTablesModel" ⟨"LedTablesModel", "writeOld", "(III)V"⟩ ⟨"LedTablesModel", "writeOld", "(III)V"⟩ ∈ a_w0 := a_w0_in (List.mem_append_left _ (List.mem_of_getElem? (i := 113) (by decide +kernel))) rfl
theorem lv_Mod_386 : a_lv R_Mod 386 M_Mod_writeOld 3 := ⟨w_1955, w_1957, ws_113, cm_Mod_writeOld⟩
theorem w_1959 : Cond.methodLink "LedTablesModel" 390 ⟨"LedTablesModel", "writeNew", "(III)V"⟩ ∈ a_w0 := a_w0_in (List.mem_append_right _ (List.mem_of_getElem? (i := 1959) (by decide +kernel))) rfl
theorem w_1961 : Cond.instanceMethod ⟨"LedTablesModel", "writeNew", "(III)V"⟩ ∈ a_w0 := a_w0_in (List.mem_append_right _ (List.mem_of_getElem? (i := 1961) (by decide +kernel))) rfl
theorem ws_114 : Cond.selects "LedTablesModel" ⟨"LedTablesModel", "writeNew", "(III)V"⟩ ⟨"LedTablesModel", "writeNew", "(III)V"⟩ ∈ a_w0 := a_w0_in (List.mem_append_left _ (List.mem_of_getElem? (i := 114) (by decide +kernel))) rfl
theorem lv_Mod_390 : a_lv R_Mod 390 M_Mod_writeNew 3 := ⟨w_1959, w_1961, ws_114, cm_Mod_writeNew⟩
theorem w_1963 : Cond.methodLink "LedTablesModel" 393 ⟨"LedTablesModel", "takesPut", "(I[I[I)V"⟩ ∈ a_w0 := a_w0_in (List.mem_append_right _ (List.mem_of_getElem? (i := 1963) (by decide +kernel))) rfl
theorem w_1965 : Cond.instanceMethod ⟨"LedTablesModel", "takesPut", "(I[I[I)V"⟩ ∈ a_w0 := a_w0_in (List.mem_append_right _ (List.mem_of_getElem? (i := 1965) (by decide +kernel))) rfl
theorem ws_115 : Cond.selects "LedTablesModel" ⟨"LedTablesModel", "takesPut", "(I[I[I)V"⟩ ⟨"LedTablesModel", "takesPut", "(I[I[I)V"⟩ ∈ a_w0 := a_w0_in (List.mem_append_left _ (List.mem_of_getElem? (i := 115) (by decide +kernel))) rfl
theorem lv_Mod_393 : a_lv R_Mod 393 M_Mod_takesPut 3 := ⟨w_1963, w_1965, ws_115, cm_Mod_takesPut⟩
theorem w_1967 : Cond.methodLink "LedTablesLaw" 227 ⟨"LedTablesModel", "first", "(I)I"⟩ ∈ a_w0 := a_w0_in (List.mem_append_right _ (List.mem_of_getElem? (i := 1967) (by decide +kernel))) rfl
theorem w_1968 : Cond.instanceMethod ⟨"LedTablesModel", "first", "(I)I"⟩ ∈ a_w0 := a_w0_in (List.mem_append_right _ (List.mem_of_getElem? (i := 1968) (by decide +kernel))) rfl
theorem w_1969 : Cond.selects "LedTablesModel" ⟨"LedTablesModel", "first", "(I)I"⟩ ⟨"LedTablesModel", "first", "(I)I"⟩ ∈ a_w0 := a_w0_in (List.mem_append_right _ (List.mem_of_getElem? (i := 1969) (by decide +kernel))) rfl
theorem lv_Law_227 : a_lv R_Law 227 M_Mod_first 1 := ⟨w_1967, w_1968, w_1969, cm_Mod_first⟩
theorem w_1971 : Cond.methodLink "LedTablesLaw" 230 ⟨"LedTablesModel", "tick", "(I)I"⟩ ∈ a_w0 := a_w0_in (List.mem_append_right _ (List.mem_of_getElem? (i := 1971) (by decide +kernel))) rfl
theorem w_1972 : Cond.instanceMethod ⟨"LedTablesModel", "tick", "(I)I"⟩ ∈ a_w0 := a_w0_in (List.mem_append_right _ (List.mem_of_getElem? (i := 1972) (by decide +kernel))) rfl
theorem w_1973 : Cond.selects "LedTablesModel" ⟨"LedTablesModel", "tick", "(I)I"⟩ ⟨"LedTablesModel", "tick", "(I)I"⟩ ∈ a_w0 := a_w0_in (List.mem_append_right _ (List.mem_of_getElem? (i := 1973) (by decide +kernel))) rfl
theorem lv_Law_230 : a_lv R_Law 230 M_Mod_tick 1 := ⟨w_1971, w_1972, w_1973, cm_Mod_tick⟩
theorem w_1975 : Cond.methodLink "LedTablesLaw" 233 ⟨"LedTablesModel", "bite", "(I)I"⟩ ∈ a_w0 := a_w0_in (List.mem_append_right _ (List.mem_of_getElem? (i := 1975) (by decide +kernel))) rfl
theorem w_1976 : Cond.instanceMethod ⟨"LedTablesModel", "bite", "(I)I"⟩ ∈ a_w0 := a_w0_in (List.mem_append_right _ (List.mem_of_getElem? (i := 1976) (by decide +kernel))) rfl
theorem w_1977 : Cond.selects "LedTablesModel" ⟨"LedTablesModel", "bite", "(I)I"⟩ ⟨"LedTablesModel", "bite", "(I)I"⟩ ∈ a_w0 := a_w0_in (List.mem_append_right _ (List.mem_of_getElem? (i := 1977) (by decide +kernel))) rfl
theorem lv_Law_233 : a_lv R_Law 233 M_Mod_bite 1 := ⟨w_1975, w_1976, w_1977, cm_Mod_bite⟩
theorem w_1979 : Cond.methodLink "LedTablesLaw" 236 ⟨"LedTablesModel", "fall", "(I)I"⟩ ∈ a_w0 := a_w0_in (List.mem_append_right _ (List.mem_of_getElem? (i := 1979) (by decide +kernel))) rfl
theorem w_1980 : Cond.instanceMethod ⟨"LedTablesModel", "fall", "(I)I"⟩ ∈ a_w0 := a_w0_in (List.mem_append_right _ (List.mem_of_getElem? (i := 1980) (by decide +kernel))) rfl
theorem w_1981 : Cond.selects "LedTablesModel" ⟨"LedTablesModel", "fall", "(I)I"⟩ ⟨"LedTablesModel", "fall", "(I)I"⟩ ∈ a_w0 := a_w0_in (List.mem_append_right _ (List.mem_of_getElem? (i := 1981) (by decide +kernel))) rfl
theorem lv_Law_236 : a_lv R_Law 236 M_Mod_fall 1 := ⟨w_1979, w_1980, w_1981, cm_Mod_fall⟩
theorem w_1983 : Cond.methodLink "LedTablesLaw" 239 ⟨"LedTablesModel", "row", "(II)I"⟩ ∈ a_w0 := a_w0_in (List.mem_append_right _ (List.mem_of_getElem? (i := 1983) (by decide +kernel))) rfl
theorem w_1984 : Cond.instanceMethod ⟨"LedTablesModel", "row", "(II)I"⟩ ∈ a_w0 := a_w0_in (List.mem_append_right _ (List.mem_of_getElem? (i := 1984) (by decide +kernel))) rfl
theorem w_1985 : Cond.selects "LedTablesModel" ⟨"LedTablesModel", "row", "(II)I"⟩ ⟨"LedTablesModel", "row", "(II)I"⟩ ∈ a_w0 := a_w0_in (List.mem_append_right _ (List.mem_of_getElem? (i := 1985) (by decide +kernel))) rfl
theorem lv_Law_239 : a_lv R_Law 239 M_Mod_row 2 := ⟨w_1983, w_1984, w_1985, cm_Mod_row⟩
theorem w_1987 : Cond.methodLink "LedTablesLaw" 242 ⟨"LedTablesModel", "quiet", "(I)I"⟩ ∈ a_w0 := a_w0_in (List.mem_append_right _ (List.mem_of_getElem? (i := 1987) (by decide +kernel))) rfl
theorem w_1988 : Cond.instanceMethod ⟨"LedTablesModel", "quiet", "(I)I"⟩ ∈ a_w0 := a_w0_in (List.mem_append_right _ (List.mem_of_getElem? (i := 1988) (by decide +kernel))) rfl
theorem w_1989 : Cond.selects "LedTablesModel" ⟨"LedTablesModel", "quiet", "(I)I"⟩ ⟨"LedTablesModel", "quiet", "(I)I"⟩ ∈ a_w0 := a_w0_in (List.mem_append_right _ (List.mem_of_getElem? (i := 1989) (by decide +kernel))) rfl
theorem lv_Law_242 : a_lv R_Law 242 M_Mod_quiet 1 := ⟨w_1987, w_1988, w_1989, cm_Mod_quiet⟩
theorem w_1991 : Cond.methodLink "LedTablesLaw" 246 ⟨"LedTablesModel", "asked", "(IIIZ)I"⟩ ∈ a_w0 := a_w0_in (List.mem_append_right _ (List.mem_of_getElem? (i := 1991) (by decide +kernel))) rfl
theorem w_1992 : Cond.instanceMethod ⟨"LedTablesModel", "asked", "(IIIZ)I"⟩ ∈ a_w0 := a_w0_in (List.mem_append_right _ (List.mem_of_getElem? (i := 1992) (by decide +kernel))) rfl
theorem w_1993 : Cond.selects "LedTablesModel" ⟨"LedTablesModel", "asked", "(IIIZ)I"⟩ ⟨"LedTablesModel", "asked", "(IIIZ)I"⟩ ∈ a_w0 := a_w0_in (List.mem_append_right _ (List.mem_of_getElem? (i := 1993) (by decide +kernel))) rfl
theorem lv_Law_246 : a_lv R_Law 246 M_Mod_asked 4 := ⟨w_1991, w_1992, w_1993, cm_Mod_asked⟩
theorem w_1995 : Cond.methodLink "LedTablesLaw" 249 ⟨"LedTablesModel", "still", "(II)I"⟩ ∈ a_w0 := a_w0_in (List.mem_append_right _ (List.mem_of_getElem? (i := 1995) (by decide +kernel))) rfl
theorem w_1996 : Cond.instanceMethod ⟨"LedTablesModel", "still", "(II)I"⟩ ∈ a_w0 := a_w0_in (List.mem_append_right _ (List.mem_of_getElem? (i := 1996) (by decide +kernel))) rfl
theorem w_1997 : Cond.selects "LedTablesModel" ⟨"LedTablesModel", "still", "(II)I"⟩ ⟨"LedTablesModel", "still", "(II)I"⟩ ∈ a_w0 := a_w0_in (List.mem_append_right _ (List.mem_of_getElem? (i := 1997) (by decide +kernel))) rfl
theorem lv_Law_249 : a_lv R_Law 249 M_Mod_still 2 := ⟨w_1995, w_1996, w_1997, cm_Mod_still⟩
theorem w_1999 : Cond.methodLink "LedTablesLaw" 252 ⟨"LedTablesModel", "sum", "(II)I"⟩ ∈ a_w0 := a_w0_in (List.mem_append_right _ (List.mem_of_getElem? (i := 1999) (by decide +kernel))) rfl
theorem w_2000 : Cond.instanceMethod ⟨"LedTablesModel", "sum", "(II)I"⟩ ∈ a_w0 := a_w0_in (List.mem_append_right _ (List.mem_of_getElem? (i := 2000) (by decide +kernel))) rfl
theorem w_2001 : Cond.selects "LedTablesModel" ⟨"LedTablesModel", "sum", "(II)I"⟩ ⟨"LedTablesModel", "sum", "(II)I"⟩ ∈ a_w0 := a_w0_in (List.mem_append_right _ (List.mem_of_getElem? (i := 2001) (by decide +kernel))) rfl
theorem lv_Law_252 : a_lv R_Law 252 M_Mod_sum 2 := ⟨w_1999, w_2000, w_2001, cm_Mod_sum⟩
theorem w_2003 : Cond.methodLink "LedTablesModel" 404 ⟨"LedTablesModel", "sumOf", "(II)I"⟩ ∈ a_w0 := a_w0_in (List.mem_append_right _ (List.mem_of_getElem? (i := 2003) (by decide +kernel))) rfl
theorem w_2005 : Cond.instanceMethod ⟨"LedTablesModel", "sumOf", "(II)I"⟩ ∈ a_w0 := a_w0_in (List.mem_append_right _ (List.mem_of_getElem? (i := 2005) (by decide +kernel))) rfl
theorem ws_116 : Cond.selects "LedTablesModel" ⟨"LedTablesModel", "sumOf", "(II)I"⟩ ⟨"LedTablesModel", "sumOf", "(II)I"⟩ ∈ a_w0 := a_w0_in (List.mem_append_left _ (List.mem_of_getElem? (i := 116) (by decide +kernel))) rfl
theorem lv_Mod_404 : a_lv R_Mod 404 M_Mod_sumOf 2 := ⟨w_2003, w_2005, ws_116, cm_Mod_sumOf⟩
theorem w_2007 : Cond.methodLink "LedTablesModel" 400 ⟨"LedTablesModel", "weigh", "([I)I"⟩ ∈ a_w0 := a_w0_in (List.mem_append_right _ (List.mem_of_getElem? (i := 2007) (by decide +kernel))) rfl
theorem w_2008 : Cond.static ⟨"LedTablesModel", "weigh", "([I)I"⟩ ∈ a_w0 := a_w0_in (List.mem_append_right _ (List.mem_of_getElem? (i := 2008) (by decide +kernel))) rfl
theorem ls_Mod_400 : a_ls R_Mod 400 M_Mod_weigh 1 := ⟨w_2007, w_2008, cm_Mod_weigh⟩
theorem w_2010 : Cond.methodLink "LedTablesLaw" 255 ⟨"LedTablesModel", "halves", "(II)I"⟩ ∈ a_w0 := a_w0_in (List.mem_append_right _ (List.mem_of_getElem? (i := 2010) (by decide +kernel))) rfl
theorem w_2011 : Cond.instanceMethod ⟨"LedTablesModel", "halves", "(II)I"⟩ ∈ a_w0 := a_w0_in (List.mem_append_right _ (List.mem_of_getElem? (i := 2011) (by decide +kernel))) rfl
theorem w_2012 : Cond.selects "LedTablesModel" ⟨"LedTablesModel", "halves", "(II)I"⟩ ⟨"LedTablesModel", "halves", "(II)I"⟩ ∈ a_w0 := a_w0_in (List.mem_append_right _ (List.mem_of_getElem? (i := 2012) (by decide +kernel))) rfl
theorem lv_Law_255 : a_lv R_Law 255 M_Mod_halves 2 := ⟨w_2010, w_2011, w_2012, cm_Mod_halves⟩
theorem w_2014 : Cond.methodLink "LedTablesLaw" 258 ⟨"LedTablesModel", "mend", "(I)Z"⟩ ∈ a_w0 := a_w0_in (List.mem_append_right _ (List.mem_of_getElem? (i := 2014) (by decide +kernel))) rfl
theorem w_2015 : Cond.instanceMethod ⟨"LedTablesModel", "mend", "(I)Z"⟩ ∈ a_w0 := a_w0_in (List.mem_append_right _ (List.mem_of_getElem? (i := 2015) (by decide +kernel))) rfl
theorem w_2016 : Cond.selects "LedTablesModel" ⟨"LedTablesModel", "mend", "(I)Z"⟩ ⟨"LedTablesModel", "mend", "(I)Z"⟩ ∈ a_w0 := a_w0_in (List.mem_append_right _ (List.mem_of_getElem? (i := 2016) (by decide +kernel))) rfl
theorem lv_Law_258 : a_lv R_Law 258 M_Mod_mend 1 := ⟨w_2014, w_2015, w_2016, cm_Mod_mend⟩
theorem w_2018 : Cond.methodLink "LedTablesLaw" 262 ⟨"LedTablesModel", "count", "(I)I"⟩ ∈ a_w0 := a_w0_in (List.mem_append_right _ (List.mem_of_getElem? (i := 2018) (by decide +kernel))) rfl
theorem w_2019 : Cond.instanceMethod ⟨"LedTablesModel", "count", "(I)I"⟩ ∈ a_w0 := a_w0_in (List.mem_append_right _ (List.mem_of_getElem? (i := 2019) (by decide +kernel))) rfl
theorem w_2020 : Cond.selects "LedTablesModel" ⟨"LedTablesModel", "count", "(I)I"⟩ ⟨"LedTablesModel", "count", "(I)I"⟩ ∈ a_w0 := a_w0_in (List.mem_append_right _ (List.mem_of_getElem? (i := 2020) (by decide +kernel))) rfl
theorem lv_Law_262 : a_lv R_Law 262 M_Mod_count 1 := ⟨w_2018, w_2019, w_2020, cm_Mod_count⟩
theorem w_31 : Cond.instanceMethod ⟨"java/lang/Object", "<init>", "()V"⟩ ∈ a_w0 := a_w0_in (List.mem_append_right _ (List.mem_of_getElem? (i := 31) (by decide +kernel))) rfl
theorem ob_1 : Cond.instanceMethod objectInit ∈ a_w0 := w_31
theorem w_32 : Cond.code ⟨"java/lang/Object", "<init>", "()V"⟩ object_method_1_code 1 none ∈ a_w0 := a_w0_in (List.mem_append_right _ (List.mem_of_getElem? (i := 32) (by decide +kernel))) rfl
theorem ob_2 : Cond.code objectInit ⟨#[0xb1]⟩ 1 none ∈ a_w0 := w_32
theorem w_25 : Cond.classLink "LedTablesLaw" 8 "LedTables" ∈ a_w0 := a_w0_in (List.mem_append_right _ (List.mem_of_getElem? (i := 25) (by decide +kernel))) rfl
theorem w_26 : Cond.instantiable "LedTables" 10 ∈ a_w0 := a_w0_in (List.mem_append_right _ (List.mem_of_getElem? (i := 26) (by decide +kernel))) rfl
theorem nl_Law_8 : a_nl R_Law 8 9 10 := ⟨R_Led, F_Led, rfl, w_25, w_26, w_1, uw_Led, t_Led_ok⟩
theorem w_33 : Cond.classLink "LedTables" 19 "LedTables$Lens" ∈ a_w0 := a_w0_in (List.mem_append_right _ (List.mem_of_getElem? (i := 33) (by decide +kernel))) rfl
theorem w_34 : Cond.instantiable "LedTables$Lens" 11 ∈ a_w0 := a_w0_in (List.mem_append_right _ (List.mem_of_getElem? (i := 34) (by decide +kernel))) rfl
theorem nl_Led_19 : a_nl R_Led 19 2 11 := ⟨R_Len, F_Len, rfl, w_33, w_34, w_2, uw_Len, t_Len_ok⟩
theorem w_79 : Cond.arrayClass .int ∈ a_w0 := a_w0_in (List.mem_append_right _ (List.mem_of_getElem? (i := 79) (by decide +kernel))) rfl
theorem w_80 : Cond.arrayClass .boolean ∈ a_w0 := a_w0_in (List.mem_append_right _ (List.mem_of_getElem? (i := 80) (by decide +kernel))) rfl
theorem w_81 : Cond.classLink "LedTables" 26 "LedTables$Reader" ∈ a_w0 := a_w0_in (List.mem_append_right _ (List.mem_of_getElem? (i := 81) (by decide +kernel))) rfl
theorem w_82 : Cond.instantiable "LedTables$Reader" 8 ∈ a_w0 := a_w0_in (List.mem_append_right _ (List.mem_of_getElem? (i := 82) (by decide +kernel))) rfl
theorem nl_Led_26 : a_nl R_Led 26 5 8 := ⟨R_Rea, F_Rea, rfl, w_81, w_82, w_3, uw_Rea, t_Rea_ok⟩
theorem w_115 : Cond.classLink "LedTables" 38 "LedTables$Box" ∈ a_w0 := a_w0_in (List.mem_append_right _ (List.mem_of_getElem? (i := 115) (by decide +kernel))) rfl
theorem w_116 : Cond.instantiable "LedTables$Box" 9 ∈ a_w0 := a_w0_in (List.mem_append_right _ (List.mem_of_getElem? (i := 116) (by decide +kernel))) rfl
theorem nl_Led_38 : a_nl R_Led 38 1 9 := ⟨R_Box, F_Box, rfl, w_115, w_116, w_4, uw_Box, t_Box_ok⟩
theorem w_149 : Cond.classLink "LedTables" 47 "LedTables$Plan" ∈ a_w0 := a_w0_in (List.mem_append_right _ (List.mem_of_getElem? (i := 149) (by decide +kernel))) rfl
theorem w_150 : Cond.instantiable "LedTables$Plan" 8 ∈ a_w0 := a_w0_in (List.mem_append_right _ (List.mem_of_getElem? (i := 150) (by decide +kernel))) rfl
theorem nl_Led_47 : a_nl R_Led 47 4 8 := ⟨R_Pla, F_Pla, rfl, w_149, w_150, w_5, uw_Pla, t_Pla_ok⟩
theorem w_185 : Cond.classLink "LedTables" 58 "LedTables$Asked" ∈ a_w0 := a_w0_in (List.mem_append_right _ (List.mem_of_getElem? (i := 185) (by decide +kernel))) rfl
theorem w_186 : Cond.instantiable "LedTables$Asked" 1 ∈ a_w0 := a_w0_in (List.mem_append_right _ (List.mem_of_getElem? (i := 186) (by decide +kernel))) rfl
theorem nl_Led_58 : a_nl R_Led 58 0 1 := ⟨R_Ask, F_Ask, rfl, w_185, w_186, w_6, uw_Ask, t_Ask_ok⟩
theorem w_195 : Cond.classLink "LedTables" 65 "LedTables$Table" ∈ a_w0 := a_w0_in (List.mem_append_right _ (List.mem_of_getElem? (i := 195) (by decide +kernel))) rfl
theorem w_196 : Cond.instantiable "LedTables$Table" 11 ∈ a_w0 := a_w0_in (List.mem_append_right _ (List.mem_of_getElem? (i := 196) (by decide +kernel))) rfl
theorem nl_Led_65 : a_nl R_Led 65 7 11 := ⟨R_Tab, F_Tab, rfl, w_195, w_196, w_7, uw_Tab, t_Tab_ok⟩
theorem w_201 : Cond.classLink "LedTables$Table" 9 "LedTables$Row" ∈ a_w0 := a_w0_in (List.mem_append_right _ (List.mem_of_getElem? (i := 201) (by decide +kernel))) rfl
theorem w_203 : Cond.instantiable "LedTables$Row" 8 ∈ a_w0 := a_w0_in (List.mem_append_right _ (List.mem_of_getElem? (i := 203) (by decide +kernel))) rfl
theorem nl_Tab_9 : a_nl R_Tab 9 6 8 := ⟨R_Row, F_Row, rfl, w_201, w_203, w_8, uw_Row, t_Row_ok⟩
theorem w_330 : Cond.classLink "LedTables$Box" 60 "LedTables$Likes" ∈ a_w0 := a_w0_in (List.mem_append_right _ (List.mem_of_getElem? (i := 330) (by decide +kernel))) rfl
theorem w_331 : Cond.instantiable "LedTables$Likes" 2 ∈ a_w0 := a_w0_in (List.mem_append_right _ (List.mem_of_getElem? (i := 331) (by decide +kernel))) rfl
theorem nl_Box_60 : a_nl R_Box 60 3 2 := ⟨R_Lik, F_Lik, rfl, w_330, w_331, w_21, uw_Lik, t_Lik_ok⟩
theorem w_336 : Cond.constant "LedTables$Likes" 15 32768 ∈ a_w0 := a_w0_in (List.mem_append_right _ (List.mem_of_getElem? (i := 336) (by decide +kernel))) rfl
theorem kc_Lik_15 : Cond.constant R_Lik 15 (32768) ∈ a_w0 := w_336
theorem w_398 : Cond.constant "LedTables$Likes" 37 (-1640531535) ∈ a_w0 := a_w0_in (List.mem_append_right _ (List.mem_of_getElem? (i := 398) (by decide +kernel))) rfl
theorem kc_Lik_37 : Cond.constant R_Lik 37 (-1640531535) ∈ a_w0 := w_398
theorem w_399 : Cond.constant "LedTables$Likes" 38 (-2048144789) ∈ a_w0 := a_w0_in (List.mem_append_right _ (List.mem_of_getElem? (i := 399) (by decide +kernel))) rfl
theorem kc_Lik_38 : Cond.constant R_Lik 38 (-2048144789) ∈ a_w0 := w_399
theorem w_596 : Cond.arrayClass .byte ∈ a_w0 := a_w0_in (List.mem_append_right _ (List.mem_of_getElem? (i := 596) (by decide +kernel))) rfl
theorem w_871 : Cond.constant "LedTables$Box" 49 (-2147483648) ∈ a_w0 := a_w0_in (List.mem_append_right _ (List.mem_of_getElem? (i := 871) (by decide +kernel))) rfl
theorem kc_Box_49 : Cond.constant R_Box 49 (-2147483648) ∈ a_w0 := w_871
theorem w_1038 : Cond.classLink "LedTables" 206 "LedTables$Ways" ∈ a_w0 := a_w0_in (List.mem_append_right _ (List.mem_of_getElem? (i := 1038) (by decide +kernel))) rfl
theorem w_1039 : Cond.instantiable "LedTables$Ways" 9 ∈ a_w0 := a_w0_in (List.mem_append_right _ (List.mem_of_getElem? (i := 1039) (by decide +kernel))) rfl
theorem nl_Led_206 : a_nl R_Led 206 8 9 := ⟨R_Way, F_Way, rfl, w_1038, w_1039, w_24, uw_Way, t_Way_ok⟩
theorem w_1090 : Cond.constant "LedTables$Ways" 77 2147483647 ∈ a_w0 := a_w0_in (List.mem_append_right _ (List.mem_of_getElem? (i := 1090) (by decide +kernel))) rfl
theorem kc_Way_77 : Cond.constant R_Way 77 (2147483647) ∈ a_w0 := w_1090
theorem w_1270 : Cond.constant "LedTables" 250 (-1000000) ∈ a_w0 := a_w0_in (List.mem_append_right _ (List.mem_of_getElem? (i := 1270) (by decide +kernel))) rfl
theorem kc_Led_250 : Cond.constant R_Led 250 (-1000000) ∈ a_w0 := w_1270
theorem w_1271 : Cond.constant "LedTables" 251 1000000 ∈ a_w0 := a_w0_in (List.mem_append_right _ (List.mem_of_getElem? (i := 1271) (by decide +kernel))) rfl
theorem kc_Led_251 : Cond.constant R_Led 251 (1000000) ∈ a_w0 := w_1271
theorem w_1423 : Cond.classLink "LedTablesLaw" 119 "LedTablesModel" ∈ a_w0 := a_w0_in (List.mem_append_right _ (List.mem_of_getElem? (i := 1423) (by decide +kernel))) rfl
theorem w_1424 : Cond.instantiable "LedTablesModel" 61 ∈ a_w0 := a_w0_in (List.mem_append_right _ (List.mem_of_getElem? (i := 1424) (by decide +kernel))) rfl
theorem nl_Law_119 : a_nl R_Law 119 10 61 := ⟨R_Mod, F_Mod, rfl, w_1423, w_1424, w_9, uw_Mod, t_Mod_ok⟩
theorem w_1717 : Cond.constant "LedTablesModel" 173 100000 ∈ a_w0 := a_w0_in (List.mem_append_right _ (List.mem_of_getElem? (i := 1717) (by decide +kernel))) rfl
theorem kc_Mod_173 : Cond.constant R_Mod 173 (100000) ∈ a_w0 := w_1717
theorem w_1778 : Cond.constant "LedTablesModel" 295 (-2147483648) ∈ a_w0 := a_w0_in (List.mem_append_right _ (List.mem_of_getElem? (i := 1778) (by decide +kernel))) rfl
theorem kc_Mod_295 : Cond.constant R_Mod 295 (-2147483648) ∈ a_w0 := w_1778
theorem w_1953 : Cond.constant "LedTablesModel" 381 (-1000000) ∈ a_w0 := a_w0_in (List.mem_append_right _ (List.mem_of_getElem? (i := 1953) (by decide +kernel))) rfl
theorem kc_Mod_381 : Cond.constant R_Mod 381 (-1000000) ∈ a_w0 := w_1953
theorem w_1954 : Cond.constant "LedTablesModel" 382 1000000 ∈ a_w0 := a_w0_in (List.mem_append_right _ (List.mem_of_getElem? (i := 1954) (by decide +kernel))) rfl
theorem kc_Mod_382 : Cond.constant R_Mod 382 (1000000) ∈ a_w0 := w_1954
theorem w_2022 : Cond.arrayClass .long ∈ a_w0 := a_w0_in (List.mem_append_right _ (List.mem_of_getElem? (i := 2022) (by decide +kernel))) rfl
theorem ac_int : Cond.arrayClass .int ∈ a_w0 := w_79
theorem ac_boolean : Cond.arrayClass .boolean ∈ a_w0 := w_80
theorem ac_long : Cond.arrayClass .long ∈ a_w0 := w_2022
theorem nn_Box_62 : Cond.methodLinkNest R_Box 62 ⟨"LedTables$Likes", "<init>", "()V"⟩ "LedTables" ∈ a_N := List.mem_filter.mpr ⟨List.mem_append_right _ (List.mem_of_getElem? (i := 332) (by decide +kernel)), rfl⟩
theorem nn_Tab_194 : Cond.methodLinkNest R_Tab 194 ⟨"LedTables", "areAlike", "([I[I)Z"⟩ "LedTables" ∈ a_N := List.mem_filter.mpr ⟨List.mem_append_right _ (List.mem_of_getElem? (i := 469) (by decide +kernel)), rfl⟩
theorem ca_IllegalArgumentException : Cond.castable "java/lang/IllegalArgumentException" "java/lang/IllegalArgumentException" ∈ a_N := List.mem_filter.mpr ⟨List.mem_append_right _ (List.mem_of_getElem? (i := 530) (by decide +kernel)), rfl⟩
theorem ca_IllegalStateException : Cond.castable "java/lang/IllegalStateException" "java/lang/IllegalStateException" ∈ a_N := List.mem_filter.mpr ⟨List.mem_append_right _ (List.mem_of_getElem? (i := 599) (by decide +kernel)), rfl⟩
theorem nn_Box_82 : Cond.methodLinkNest R_Box 82 ⟨"LedTables", "areAlike", "([I[I)Z"⟩ "LedTables" ∈ a_N := List.mem_filter.mpr ⟨List.mem_append_right _ (List.mem_of_getElem? (i := 870) (by decide +kernel)), rfl⟩
theorem ca_NoSuchElementException : Cond.castable "java/util/NoSuchElementException" "java/util/NoSuchElementException" ∈ a_N := List.mem_filter.mpr ⟨List.mem_append_right _ (List.mem_of_getElem? (i := 897) (by decide +kernel)), rfl⟩
theorem ca_IndexOutOfBoundsException : Cond.castable "java/lang/IndexOutOfBoundsException" "java/lang/IndexOutOfBoundsException" ∈ a_N := List.mem_filter.mpr ⟨List.mem_append_right _ (List.mem_of_getElem? (i := 955) (by decide +kernel)), rfl⟩
theorem w_470 : Cond.static ⟨"LedTables", "areAlike", "([I[I)Z"⟩ ∈ a_w0 := a_w0_in (List.mem_append_right _ (List.mem_of_getElem? (i := 470) (by decide +kernel))) rfl
theorem st_areAlike : Cond.static M_Led_areAlike.2.2.2.2.1 ∈ a_w0 := w_470
theorem w_333 : Cond.instanceMethod ⟨"LedTables$Likes", "<init>", "()V"⟩ ∈ a_w0 := a_w0_in (List.mem_append_right _ (List.mem_of_getElem? (i := 333) (by decide +kernel))) rfl
theorem in_Lik : Cond.instanceMethod M_Lik_init.2.2.2.2.1 ∈ a_w0 := w_333
theorem w_1002 : Cond.fieldLink "LedTables$Plan" 59 "LedTables$Plan" "POWERS" "[I" ∈ a_w0 := a_w0_in (List.mem_append_right _ (List.mem_of_getElem? (i := 1002) (by decide +kernel))) rfl
theorem fp_Pla_59 : Cond.fieldLink R_Pla 59 R_Pla "POWERS" "[I" ∈ a_w0 := w_1002
theorem qr_Tab : Cond.classLink R_Tab 9 R_Row ∈ a_w0 := w_201
theorem w_522 : Cond.classLink "LedTablesLaw" 13 "java/lang/IllegalArgumentException" ∈ a_w0 := a_w0_in (List.mem_append_right _ (List.mem_of_getElem? (i := 522) (by decide +kernel))) rfl
theorem cx_Law_13 : Cond.classLink R_Law 13 "java/lang/IllegalArgumentException" ∈ a_w0 := w_522
theorem w_523 : Cond.classLink "LedTablesLaw" 15 "java/lang/IllegalStateException" ∈ a_w0 := a_w0_in (List.mem_append_right _ (List.mem_of_getElem? (i := 523) (by decide +kernel))) rfl
theorem cx_Law_15 : Cond.classLink R_Law 15 "java/lang/IllegalStateException" ∈ a_w0 := w_523
theorem w_886 : Cond.classLink "LedTablesLaw" 40 "java/util/NoSuchElementException" ∈ a_w0 := a_w0_in (List.mem_append_right _ (List.mem_of_getElem? (i := 886) (by decide +kernel))) rfl
theorem cx_Law_40 : Cond.classLink R_Law 40 "java/util/NoSuchElementException" ∈ a_w0 := w_886
theorem w_944 : Cond.classLink "LedTablesLaw" 49 "java/lang/IndexOutOfBoundsException" ∈ a_w0 := a_w0_in (List.mem_append_right _ (List.mem_of_getElem? (i := 944) (by decide +kernel))) rfl
theorem cx_Law_49 : Cond.classLink R_Law 49 "java/lang/IndexOutOfBoundsException" ∈ a_w0 := w_944
