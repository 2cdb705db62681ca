theorem co_Row : cy_Co 0 R_Row F_Row 2 t_Row := ⟨rfl, fun w hw => cy_tw (i_Row w hw) (by revert w; decide +kernel), t_Row_ok, n_Row⟩
theorem co_Code : cy_Co 1 R_Code F_Code 5 t_Code := ⟨rfl, fun w hw => cy_tw (i_Code w hw) (by revert w; decide +kernel), t_Code_ok, n_Code⟩
theorem co_Shelf : cy_Co 2 R_Shelf F_Shelf 1 t_Shelf := ⟨rfl, fun w hw => cy_tw (i_Shelf w hw) (by revert w; decide +kernel), t_Shelf_ok, n_Shelf⟩
theorem co_Survey : cy_Co 3 R_Survey F_Survey 6 t_Survey := ⟨rfl, fun w hw => cy_tw (i_Survey w hw) (by revert w; decide +kernel), t_Survey_ok, n_Survey⟩
theorem co_Frame : cy_Co 4 R_Frame F_Frame 7 t_Frame := ⟨rfl, fun w hw => cy_tw (i_Frame w hw) (by revert w; decide +kernel), t_Frame_ok, n_Frame⟩
theorem co_Run : cy_Co 5 R_Run F_Run 10 t_Run := ⟨rfl, fun w hw => cy_tw (i_Run w hw) (by revert w; decide +kernel), t_Run_ok, n_Run⟩
theorem co_Yard : cy_Co 6 R_Yard F_Yard 4 t_Yard := ⟨rfl, fun w hw => cy_tw (i_Yard w hw) (by revert w; decide +kernel), t_Yard_ok, n_Yard⟩
theorem co_Model : cy_Co 7 R_Model F_Model 29 t_Model := ⟨rfl, fun w hw => cy_tw (i_Model w hw) (by revert w; decide +kernel), t_Model_ok, n_Model⟩
theorem ini_Yard : Cond.initialized R_Yard ∈ cy_TW := cy_tw (List.mem_of_getElem? (i := 64) (by decide +kernel)) rfl
theorem ini_Row : Cond.initialized R_Row ∈ cy_TW := cy_tw (List.mem_of_getElem? (i := 65) (by decide +kernel)) rfl
theorem mm_i : Cond.initialized "java/lang/Math" ∈ cy_TW := cy_tw (List.mem_of_getElem? (i := 66) (by decide +kernel)) rfl
theorem ini_Shelf : Cond.initialized R_Shelf ∈ cy_TW := cy_tw (List.mem_of_getElem? (i := 67) (by decide +kernel)) rfl
theorem ini_Code : Cond.initialized R_Code ∈ cy_TW := cy_tw (List.mem_of_getElem? (i := 68) (by decide +kernel)) rfl
theorem ini_Survey : Cond.initialized R_Survey ∈ cy_TW := cy_tw (List.mem_of_getElem? (i := 69) (by decide +kernel)) rfl
theorem ini_Run : Cond.initialized R_Run ∈ cy_TW := cy_tw (List.mem_of_getElem? (i := 70) (by decide +kernel)) rfl
theorem ini_Frame : Cond.initialized R_Frame ∈ cy_TW := cy_tw (List.mem_of_getElem? (i := 71) (by decide +kernel)) rfl
theorem ini_Model : Cond.initialized R_Model ∈ cy_TW := cy_tw (List.mem_of_getElem? (i := 72) (by decide +kernel)) rfl
theorem cl_Law_7 : Cond.classLink R_Law 7 R_Yard ∈ cy_TW := cy_tw (List.mem_of_getElem? (i := 73) (by decide +kernel)) rfl
theorem in_Yard : Cond.instantiable R_Yard 4 ∈ cy_TW := cy_tw (List.mem_of_getElem? (i := 74) (by decide +kernel)) rfl
theorem ml_Law_9 : Cond.methodLink R_Law 9 y_Yard_init ∈ cy_TW := cy_tw (List.mem_of_getElem? (i := 75) (by decide +kernel)) rfl
theorem ml_Yard_1 : Cond.methodLink R_Yard 1 Lib.objectInit ∈ cy_TW := cy_tw (List.mem_of_getElem? (i := 78) (by decide +kernel)) rfl
theorem cl_Yard_7 : Cond.classLink R_Yard 7 R_Row ∈ cy_TW := cy_tw (List.mem_of_getElem? (i := 81) (by decide +kernel)) rfl
theorem in_Row : Cond.instantiable R_Row 2 ∈ cy_TW := cy_tw (List.mem_of_getElem? (i := 82) (by decide +kernel)) rfl
theorem ml_Yard_11 : Cond.methodLinkNest R_Yard 11 y_Row_init "CodeYard" ∈ cy_NW := cy_nw (List.mem_of_getElem? (i := 83) (by decide +kernel)) rfl
theorem ml_Row_1 : Cond.methodLink R_Row 1 Lib.objectInit ∈ cy_TW := cy_tw (List.mem_of_getElem? (i := 86) (by decide +kernel)) rfl
theorem ml_Row_7 : Cond.methodLink R_Row 7 Lib.Math.max.name ∈ cy_TW := cy_tw (List.mem_of_getElem? (i := 87) (by decide +kernel)) rfl
theorem fl_Row_13 : Cond.fieldLink R_Row 13 (F_Row 0).1 (F_Row 0).2.1 (F_Row 0).2.2.1 ∈ cy_TW := cy_tw (List.mem_of_getElem? (i := 90) (by decide +kernel)) rfl
theorem fl_Row_19 : Cond.fieldLink R_Row 19 (F_Row 1).1 (F_Row 1).2.1 (F_Row 1).2.2.1 ∈ cy_TW := cy_tw (List.mem_of_getElem? (i := 91) (by decide +kernel)) rfl
theorem fl_Survey_26 : Cond.fieldLinkNest R_Survey 26 (F_Row 1).1 (F_Row 1).2.1 (F_Row 1).2.2.1 "CodeYard" ∈ cy_NW := cy_nw (List.mem_of_getElem? (i := 92) (by decide +kernel)) rfl
theorem fl_Yard_41 : Cond.fieldLinkNest R_Yard 41 (F_Row 1).1 (F_Row 1).2.1 (F_Row 1).2.2.1 "CodeYard" ∈ cy_NW := cy_nw (List.mem_of_getElem? (i := 93) (by decide +kernel)) rfl
theorem fl_Code_33 : Cond.fieldLinkNest R_Code 33 (F_Row 1).1 (F_Row 1).2.1 (F_Row 1).2.2.1 "CodeYard" ∈ cy_NW := cy_nw (List.mem_of_getElem? (i := 94) (by decide +kernel)) rfl
theorem fl_Run_101 : Cond.fieldLinkNest R_Run 101 (F_Row 1).1 (F_Row 1).2.1 (F_Row 1).2.2.1 "CodeYard" ∈ cy_NW := cy_nw (List.mem_of_getElem? (i := 95) (by decide +kernel)) rfl
theorem aw_int : Cond.arrayClass .int ∈ cy_TW := cy_tw (List.mem_of_getElem? (i := 101) (by decide +kernel)) rfl
theorem cl_Yard_18 : Cond.classLink R_Yard 18 R_Shelf ∈ cy_TW := cy_tw (List.mem_of_getElem? (i := 102) (by decide +kernel)) rfl
theorem in_Shelf : Cond.instantiable R_Shelf 1 ∈ cy_TW := cy_tw (List.mem_of_getElem? (i := 103) (by decide +kernel)) rfl
theorem ml_Yard_20 : Cond.methodLinkNest R_Yard 20 y_Shelf_init "CodeYard" ∈ cy_NW := cy_nw (List.mem_of_getElem? (i := 104) (by decide +kernel)) rfl
theorem ml_Shelf_3 : Cond.methodLink R_Shelf 3 Lib.objectInit ∈ cy_TW := cy_tw (List.mem_of_getElem? (i := 107) (by decide +kernel)) rfl
theorem cl_Shelf_9 : Cond.classLink R_Shelf 9 R_Code ∈ cy_TW := cy_tw (List.mem_of_getElem? (i := 108) (by decide +kernel)) rfl
theorem in_Code : Cond.instantiable R_Code 5 ∈ cy_TW := cy_tw (List.mem_of_getElem? (i := 110) (by decide +kernel)) rfl
theorem ml_Shelf_17 : Cond.methodLinkNest R_Shelf 17 y_Code_init "CodeYard" ∈ cy_NW := cy_nw (List.mem_of_getElem? (i := 111) (by decide +kernel)) rfl
theorem ml_Code_3 : Cond.methodLink R_Code 3 Lib.objectInit ∈ cy_TW := cy_tw (List.mem_of_getElem? (i := 114) (by decide +kernel)) rfl
theorem cl_Code_15 : Cond.classLink R_Code 15 R_Row ∈ cy_TW := cy_tw (List.mem_of_getElem? (i := 115) (by decide +kernel)) rfl
theorem ml_Code_17 : Cond.methodLinkNest R_Code 17 y_Row_init "CodeYard" ∈ cy_NW := cy_nw (List.mem_of_getElem? (i := 116) (by decide +kernel)) rfl
theorem fl_Code_9 : Cond.fieldLink R_Code 9 (F_Code 0).1 (F_Code 0).2.1 (F_Code 0).2.2.1 ∈ cy_TW := cy_tw (List.mem_of_getElem? (i := 117) (by decide +kernel)) rfl
theorem fl_Run_95 : Cond.fieldLinkNest R_Run 95 (F_Code 0).1 (F_Code 0).2.1 (F_Code 0).2.2.1 "CodeYard" ∈ cy_NW := cy_nw (List.mem_of_getElem? (i := 118) (by decide +kernel)) rfl
theorem fl_Code_20 : Cond.fieldLink R_Code 20 (F_Code 1).1 (F_Code 1).2.1 (F_Code 1).2.2.1 ∈ cy_TW := cy_tw (List.mem_of_getElem? (i := 119) (by decide +kernel)) rfl
theorem fl_Frame_35 : Cond.fieldLinkNest R_Frame 35 (F_Code 1).1 (F_Code 1).2.1 (F_Code 1).2.2.1 "CodeYard" ∈ cy_NW := cy_nw (List.mem_of_getElem? (i := 120) (by decide +kernel)) rfl
theorem fl_Yard_119 : Cond.fieldLinkNest R_Yard 119 (F_Code 1).1 (F_Code 1).2.1 (F_Code 1).2.2.1 "CodeYard" ∈ cy_NW := cy_nw (List.mem_of_getElem? (i := 121) (by decide +kernel)) rfl
theorem fl_Code_24 : Cond.fieldLink R_Code 24 (F_Code 2).1 (F_Code 2).2.1 (F_Code 2).2.2.1 ∈ cy_TW := cy_tw (List.mem_of_getElem? (i := 122) (by decide +kernel)) rfl
theorem fl_Yard_118 : Cond.fieldLinkNest R_Yard 118 (F_Code 2).1 (F_Code 2).2.1 (F_Code 2).2.2.1 "CodeYard" ∈ cy_NW := cy_nw (List.mem_of_getElem? (i := 123) (by decide +kernel)) rfl
theorem fl_Code_27 : Cond.fieldLink R_Code 27 (F_Code 3).1 (F_Code 3).2.1 (F_Code 3).2.2.1 ∈ cy_TW := cy_tw (List.mem_of_getElem? (i := 124) (by decide +kernel)) rfl
theorem fl_Shelf_32 : Cond.fieldLinkNest R_Shelf 32 (F_Code 3).1 (F_Code 3).2.1 (F_Code 3).2.2.1 "CodeYard" ∈ cy_NW := cy_nw (List.mem_of_getElem? (i := 125) (by decide +kernel)) rfl
theorem fl_Run_137 : Cond.fieldLinkNest R_Run 137 (F_Code 3).1 (F_Code 3).2.1 (F_Code 3).2.2.1 "CodeYard" ∈ cy_NW := cy_nw (List.mem_of_getElem? (i := 126) (by decide +kernel)) rfl
theorem fl_Yard_112 : Cond.fieldLinkNest R_Yard 112 (F_Code 3).1 (F_Code 3).2.1 (F_Code 3).2.2.1 "CodeYard" ∈ cy_NW := cy_nw (List.mem_of_getElem? (i := 127) (by decide +kernel)) rfl
theorem fl_Code_30 : Cond.fieldLink R_Code 30 (F_Code 4).1 (F_Code 4).2.1 (F_Code 4).2.2.1 ∈ cy_TW := cy_tw (List.mem_of_getElem? (i := 128) (by decide +kernel)) rfl
theorem fl_Shelf_28 : Cond.fieldLinkNest R_Shelf 28 (F_Code 4).1 (F_Code 4).2.1 (F_Code 4).2.2.1 "CodeYard" ∈ cy_NW := cy_nw (List.mem_of_getElem? (i := 129) (by decide +kernel)) rfl
theorem fl_Shelf_11 : Cond.fieldLink R_Shelf 11 (F_Shelf 0).1 (F_Shelf 0).2.1 (F_Shelf 0).2.2.1 ∈ cy_TW := cy_tw (List.mem_of_getElem? (i := 141) (by decide +kernel)) rfl
theorem cl_Yard_25 : Cond.classLink R_Yard 25 R_Survey ∈ cy_TW := cy_tw (List.mem_of_getElem? (i := 145) (by decide +kernel)) rfl
theorem in_Survey : Cond.instantiable R_Survey 6 ∈ cy_TW := cy_tw (List.mem_of_getElem? (i := 146) (by decide +kernel)) rfl
theorem ml_Yard_27 : Cond.methodLinkNest R_Yard 27 y_Survey_init "CodeYard" ∈ cy_NW := cy_nw (List.mem_of_getElem? (i := 147) (by decide +kernel)) rfl
theorem ml_Survey_3 : Cond.methodLink R_Survey 3 Lib.objectInit ∈ cy_TW := cy_tw (List.mem_of_getElem? (i := 150) (by decide +kernel)) rfl
theorem cl_Survey_9 : Cond.classLink R_Survey 9 R_Row ∈ cy_TW := cy_tw (List.mem_of_getElem? (i := 151) (by decide +kernel)) rfl
theorem ml_Survey_11 : Cond.methodLinkNest R_Survey 11 y_Row_init "CodeYard" ∈ cy_NW := cy_nw (List.mem_of_getElem? (i := 152) (by decide +kernel)) rfl
theorem fl_Survey_14 : Cond.fieldLink R_Survey 14 (F_Survey 0).1 (F_Survey 0).2.1 (F_Survey 0).2.2.1 ∈ cy_TW := cy_tw (List.mem_of_getElem? (i := 153) (by decide +kernel)) rfl
theorem fl_Survey_20 : Cond.fieldLink R_Survey 20 (F_Survey 1).1 (F_Survey 1).2.1 (F_Survey 1).2.2.1 ∈ cy_TW := cy_tw (List.mem_of_getElem? (i := 154) (by decide +kernel)) rfl
theorem fl_Yard_74 : Cond.fieldLinkNest R_Yard 74 (F_Survey 1).1 (F_Survey 1).2.1 (F_Survey 1).2.2.1 "CodeYard" ∈ cy_NW := cy_nw (List.mem_of_getElem? (i := 155) (by decide +kernel)) rfl
theorem fl_Survey_23 : Cond.fieldLink R_Survey 23 (F_Survey 2).1 (F_Survey 2).2.1 (F_Survey 2).2.2.1 ∈ cy_TW := cy_tw (List.mem_of_getElem? (i := 156) (by decide +kernel)) rfl
theorem fl_Survey_51 : Cond.fieldLink R_Survey 51 (F_Survey 3).1 (F_Survey 3).2.1 (F_Survey 3).2.2.1 ∈ cy_TW := cy_tw (List.mem_of_getElem? (i := 157) (by decide +kernel)) rfl
theorem fl_Yard_83 : Cond.fieldLinkNest R_Yard 83 (F_Survey 3).1 (F_Survey 3).2.1 (F_Survey 3).2.2.1 "CodeYard" ∈ cy_NW := cy_nw (List.mem_of_getElem? (i := 158) (by decide +kernel)) rfl
theorem fl_Survey_54 : Cond.fieldLink R_Survey 54 (F_Survey 4).1 (F_Survey 4).2.1 (F_Survey 4).2.2.1 ∈ cy_TW := cy_tw (List.mem_of_getElem? (i := 159) (by decide +kernel)) rfl
theorem fl_Survey_57 : Cond.fieldLink R_Survey 57 (F_Survey 5).1 (F_Survey 5).2.1 (F_Survey 5).2.2.1 ∈ cy_TW := cy_tw (List.mem_of_getElem? (i := 160) (by decide +kernel)) rfl
theorem cl_Yard_32 : Cond.classLink R_Yard 32 R_Run ∈ cy_TW := cy_tw (List.mem_of_getElem? (i := 174) (by decide +kernel)) rfl
theorem in_Run : Cond.instantiable R_Run 10 ∈ cy_TW := cy_tw (List.mem_of_getElem? (i := 175) (by decide +kernel)) rfl
theorem ml_Yard_34 : Cond.methodLinkNest R_Yard 34 y_Run_init "CodeYard" ∈ cy_NW := cy_nw (List.mem_of_getElem? (i := 176) (by decide +kernel)) rfl
theorem ml_Run_3 : Cond.methodLink R_Run 3 Lib.objectInit ∈ cy_TW := cy_tw (List.mem_of_getElem? (i := 179) (by decide +kernel)) rfl
theorem cl_Run_15 : Cond.classLink R_Run 15 R_Row ∈ cy_TW := cy_tw (List.mem_of_getElem? (i := 180) (by decide +kernel)) rfl
theorem ml_Run_17 : Cond.methodLinkNest R_Run 17 y_Row_init "CodeYard" ∈ cy_NW := cy_nw (List.mem_of_getElem? (i := 181) (by decide +kernel)) rfl
theorem cl_Run_27 : Cond.classLink R_Run 27 R_Code ∈ cy_TW := cy_tw (List.mem_of_getElem? (i := 182) (by decide +kernel)) rfl
theorem ml_Run_29 : Cond.methodLinkNest R_Run 29 y_Code_init "CodeYard" ∈ cy_NW := cy_nw (List.mem_of_getElem? (i := 183) (by decide +kernel)) rfl
theorem cl_Run_30 : Cond.classLink R_Run 30 R_Frame ∈ cy_TW := cy_tw (List.mem_of_getElem? (i := 184) (by decide +kernel)) rfl
theorem in_Frame : Cond.instantiable R_Frame 7 ∈ cy_TW := cy_tw (List.mem_of_getElem? (i := 185) (by decide +kernel)) rfl
theorem ml_Run_32 : Cond.methodLinkNest R_Run 32 y_Frame_init "CodeYard" ∈ cy_NW := cy_nw (List.mem_of_getElem? (i := 186) (by decide +kernel)) rfl
theorem ml_Frame_3 : Cond.methodLink R_Frame 3 Lib.objectInit ∈ cy_TW := cy_tw (List.mem_of_getElem? (i := 189) (by decide +kernel)) rfl
theorem cl_Frame_19 : Cond.classLink R_Frame 19 R_Row ∈ cy_TW := cy_tw (List.mem_of_getElem? (i := 190) (by decide +kernel)) rfl
theorem ml_Frame_21 : Cond.methodLinkNest R_Frame 21 y_Row_init "CodeYard" ∈ cy_NW := cy_nw (List.mem_of_getElem? (i := 191) (by decide +kernel)) rfl
theorem fl_Frame_9 : Cond.fieldLink R_Frame 9 (F_Frame 0).1 (F_Frame 0).2.1 (F_Frame 0).2.2.1 ∈ cy_TW := cy_tw (List.mem_of_getElem? (i := 192) (by decide +kernel)) rfl
theorem fl_Run_88 : Cond.fieldLinkNest R_Run 88 (F_Frame 0).1 (F_Frame 0).2.1 (F_Frame 0).2.2.1 "CodeYard" ∈ cy_NW := cy_nw (List.mem_of_getElem? (i := 193) (by decide +kernel)) rfl
theorem fl_Frame_15 : Cond.fieldLink R_Frame 15 (F_Frame 1).1 (F_Frame 1).2.1 (F_Frame 1).2.2.1 ∈ cy_TW := cy_tw (List.mem_of_getElem? (i := 194) (by decide +kernel)) rfl
theorem fl_Run_179 : Cond.fieldLinkNest R_Run 179 (F_Frame 1).1 (F_Frame 1).2.1 (F_Frame 1).2.2.1 "CodeYard" ∈ cy_NW := cy_nw (List.mem_of_getElem? (i := 195) (by decide +kernel)) rfl
theorem fl_Run_42 : Cond.fieldLinkNest R_Run 42 (F_Frame 2).1 (F_Frame 2).2.1 (F_Frame 2).2.2.1 "CodeYard" ∈ cy_NW := cy_nw (List.mem_of_getElem? (i := 196) (by decide +kernel)) rfl
theorem fl_Frame_24 : Cond.fieldLink R_Frame 24 (F_Frame 3).1 (F_Frame 3).2.1 (F_Frame 3).2.2.1 ∈ cy_TW := cy_tw (List.mem_of_getElem? (i := 197) (by decide +kernel)) rfl
theorem fl_Run_131 : Cond.fieldLinkNest R_Run 131 (F_Frame 3).1 (F_Frame 3).2.1 (F_Frame 3).2.2.1 "CodeYard" ∈ cy_NW := cy_nw (List.mem_of_getElem? (i := 198) (by decide +kernel)) rfl
theorem fl_Yard_104 : Cond.fieldLinkNest R_Yard 104 (F_Frame 3).1 (F_Frame 3).2.1 (F_Frame 3).2.2.1 "CodeYard" ∈ cy_NW := cy_nw (List.mem_of_getElem? (i := 199) (by decide +kernel)) rfl
theorem fl_Frame_28 : Cond.fieldLink R_Frame 28 (F_Frame 4).1 (F_Frame 4).2.1 (F_Frame 4).2.2.1 ∈ cy_TW := cy_tw (List.mem_of_getElem? (i := 200) (by decide +kernel)) rfl
theorem fl_Run_150 : Cond.fieldLinkNest R_Run 150 (F_Frame 4).1 (F_Frame 4).2.1 (F_Frame 4).2.2.1 "CodeYard" ∈ cy_NW := cy_nw (List.mem_of_getElem? (i := 201) (by decide +kernel)) rfl
theorem fl_Yard_109 : Cond.fieldLinkNest R_Yard 109 (F_Frame 4).1 (F_Frame 4).2.1 (F_Frame 4).2.2.1 "CodeYard" ∈ cy_NW := cy_nw (List.mem_of_getElem? (i := 202) (by decide +kernel)) rfl
theorem fl_Frame_31 : Cond.fieldLink R_Frame 31 (F_Frame 5).1 (F_Frame 5).2.1 (F_Frame 5).2.2.1 ∈ cy_TW := cy_tw (List.mem_of_getElem? (i := 203) (by decide +kernel)) rfl
theorem fl_Run_91 : Cond.fieldLinkNest R_Run 91 (F_Frame 5).1 (F_Frame 5).2.1 (F_Frame 5).2.2.1 "CodeYard" ∈ cy_NW := cy_nw (List.mem_of_getElem? (i := 204) (by decide +kernel)) rfl
theorem fl_Frame_44 : Cond.fieldLink R_Frame 44 (F_Frame 6).1 (F_Frame 6).2.1 (F_Frame 6).2.2.1 ∈ cy_TW := cy_tw (List.mem_of_getElem? (i := 205) (by decide +kernel)) rfl
theorem fl_Run_98 : Cond.fieldLinkNest R_Run 98 (F_Frame 6).1 (F_Frame 6).2.1 (F_Frame 6).2.2.1 "CodeYard" ∈ cy_NW := cy_nw (List.mem_of_getElem? (i := 206) (by decide +kernel)) rfl
theorem fl_Run_9 : Cond.fieldLink R_Run 9 (F_Run 0).1 (F_Run 0).2.1 (F_Run 0).2.2.1 ∈ cy_TW := cy_tw (List.mem_of_getElem? (i := 222) (by decide +kernel)) rfl
theorem fl_Run_35 : Cond.fieldLink R_Run 35 (F_Run 1).1 (F_Run 1).2.1 (F_Run 1).2.2.1 ∈ cy_TW := cy_tw (List.mem_of_getElem? (i := 223) (by decide +kernel)) rfl
theorem fl_Run_20 : Cond.fieldLink R_Run 20 (F_Run 2).1 (F_Run 2).2.1 (F_Run 2).2.2.1 ∈ cy_TW := cy_tw (List.mem_of_getElem? (i := 224) (by decide +kernel)) rfl
theorem fl_Run_24 : Cond.fieldLink R_Run 24 (F_Run 3).1 (F_Run 3).2.1 (F_Run 3).2.2.1 ∈ cy_TW := cy_tw (List.mem_of_getElem? (i := 225) (by decide +kernel)) rfl
theorem fl_Yard_115 : Cond.fieldLinkNest R_Yard 115 (F_Run 3).1 (F_Run 3).2.1 (F_Run 3).2.2.1 "CodeYard" ∈ cy_NW := cy_nw (List.mem_of_getElem? (i := 226) (by decide +kernel)) rfl
theorem fl_Run_39 : Cond.fieldLink R_Run 39 (F_Run 4).1 (F_Run 4).2.1 (F_Run 4).2.2.1 ∈ cy_TW := cy_tw (List.mem_of_getElem? (i := 227) (by decide +kernel)) rfl
theorem fl_Yard_100 : Cond.fieldLinkNest R_Yard 100 (F_Run 4).1 (F_Run 4).2.1 (F_Run 4).2.2.1 "CodeYard" ∈ cy_NW := cy_nw (List.mem_of_getElem? (i := 228) (by decide +kernel)) rfl
theorem fl_Run_45 : Cond.fieldLink R_Run 45 (F_Run 5).1 (F_Run 5).2.1 (F_Run 5).2.2.1 ∈ cy_TW := cy_tw (List.mem_of_getElem? (i := 229) (by decide +kernel)) rfl
theorem fl_Run_49 : Cond.fieldLink R_Run 49 (F_Run 6).1 (F_Run 6).2.1 (F_Run 6).2.2.1 ∈ cy_TW := cy_tw (List.mem_of_getElem? (i := 230) (by decide +kernel)) rfl
theorem fl_Run_76 : Cond.fieldLink R_Run 76 (F_Run 7).1 (F_Run 7).2.1 (F_Run 7).2.2.1 ∈ cy_TW := cy_tw (List.mem_of_getElem? (i := 231) (by decide +kernel)) rfl
theorem fl_Run_79 : Cond.fieldLink R_Run 79 (F_Run 8).1 (F_Run 8).2.1 (F_Run 8).2.2.1 ∈ cy_TW := cy_tw (List.mem_of_getElem? (i := 232) (by decide +kernel)) rfl
theorem fl_Run_82 : Cond.fieldLink R_Run 82 (F_Run 9).1 (F_Run 9).2.1 (F_Run 9).2.2.1 ∈ cy_TW := cy_tw (List.mem_of_getElem? (i := 233) (by decide +kernel)) rfl
theorem fl_Yard_14 : Cond.fieldLink R_Yard 14 (F_Yard 0).1 (F_Yard 0).2.1 (F_Yard 0).2.2.1 ∈ cy_TW := cy_tw (List.mem_of_getElem? (i := 255) (by decide +kernel)) rfl
theorem fl_Yard_21 : Cond.fieldLink R_Yard 21 (F_Yard 1).1 (F_Yard 1).2.1 (F_Yard 1).2.2.1 ∈ cy_TW := cy_tw (List.mem_of_getElem? (i := 256) (by decide +kernel)) rfl
theorem fl_Yard_28 : Cond.fieldLink R_Yard 28 (F_Yard 2).1 (F_Yard 2).2.1 (F_Yard 2).2.2.1 ∈ cy_TW := cy_tw (List.mem_of_getElem? (i := 257) (by decide +kernel)) rfl
theorem fl_Yard_37 : Cond.fieldLink R_Yard 37 (F_Yard 3).1 (F_Yard 3).2.1 (F_Yard 3).2.2.1 ∈ cy_TW := cy_tw (List.mem_of_getElem? (i := 258) (by decide +kernel)) rfl
theorem ml_Law_13 : Cond.methodLink R_Law 13 y_Yard_feed ∈ cy_TW := cy_tw (List.mem_of_getElem? (i := 268) (by decide +kernel)) rfl
theorem ml_Yard_45 : Cond.methodLink R_Yard 45 y_Yard_addBytes ∈ cy_TW := cy_tw (List.mem_of_getElem? (i := 272) (by decide +kernel)) rfl
theorem ml_Yard_48 : Cond.methodLinkNest R_Yard 48 y_Row_add "CodeYard" ∈ cy_NW := cy_nw (List.mem_of_getElem? (i := 276) (by decide +kernel)) rfl
theorem ml_Law_18 : Cond.methodLink R_Law 18 y_Yard_end ∈ cy_TW := cy_tw (List.mem_of_getElem? (i := 280) (by decide +kernel)) rfl
theorem ml_Yard_51 : Cond.methodLinkNest R_Yard 51 y_Row_shorten "CodeYard" ∈ cy_NW := cy_nw (List.mem_of_getElem? (i := 284) (by decide +kernel)) rfl
theorem ml_Row_23 : Cond.methodLink R_Row 23 Lib.Math.min.name ∈ cy_TW := cy_tw (List.mem_of_getElem? (i := 288) (by decide +kernel)) rfl
theorem ml_Law_23 : Cond.methodLink R_Law 23 y_Yard_poke ∈ cy_TW := cy_tw (List.mem_of_getElem? (i := 291) (by decide +kernel)) rfl
theorem ml_Yard_54 : Cond.methodLinkNest R_Yard 54 y_Row_at "CodeYard" ∈ cy_NW := cy_nw (List.mem_of_getElem? (i := 295) (by decide +kernel)) rfl
theorem ml_Yard_58 : Cond.methodLinkNest R_Yard 58 y_Row_put "CodeYard" ∈ cy_NW := cy_nw (List.mem_of_getElem? (i := 299) (by decide +kernel)) rfl
theorem ml_Law_28 : Cond.methodLink R_Law 28 y_Yard_load ∈ cy_TW := cy_tw (List.mem_of_getElem? (i := 303) (by decide +kernel)) rfl
theorem ml_Yard_62 : Cond.methodLinkNest R_Yard 62 y_Shelf_slot "CodeYard" ∈ cy_NW := cy_nw (List.mem_of_getElem? (i := 307) (by decide +kernel)) rfl
theorem ml_Yard_66 : Cond.methodLinkNest R_Yard 66 y_Run_isHeld "CodeYard" ∈ cy_NW := cy_nw (List.mem_of_getElem? (i := 311) (by decide +kernel)) rfl
theorem ml_Yard_70 : Cond.methodLinkNest R_Yard 70 y_Survey_lookOver "CodeYard" ∈ cy_NW := cy_nw (List.mem_of_getElem? (i := 315) (by decide +kernel)) rfl
theorem ml_Survey_30 : Cond.methodLink R_Survey 30 y_Survey_fault ∈ cy_TW := cy_tw (List.mem_of_getElem? (i := 319) (by decide +kernel)) rfl
theorem ml_Survey_34 : Cond.methodLink R_Survey 34 y_Survey_clear ∈ cy_TW := cy_tw (List.mem_of_getElem? (i := 322) (by decide +kernel)) rfl
theorem ml_Survey_47 : Cond.methodLinkNest R_Survey 47 y_Row_become "CodeYard" ∈ cy_NW := cy_nw (List.mem_of_getElem? (i := 326) (by decide +kernel)) rfl
theorem ml_Survey_37 : Cond.methodLink R_Survey 37 y_Survey_readInstructions ∈ cy_TW := cy_tw (List.mem_of_getElem? (i := 330) (by decide +kernel)) rfl
theorem ml_Survey_60 : Cond.methodLink R_Survey 60 y_Survey_readingFault ∈ cy_TW := cy_tw (List.mem_of_getElem? (i := 334) (by decide +kernel)) rfl
theorem ml_Survey_67 : Cond.methodLinkNest R_Survey 67 y_Row_at "CodeYard" ∈ cy_NW := cy_nw (List.mem_of_getElem? (i := 337) (by decide +kernel)) rfl
theorem ml_Survey_77 : Cond.methodLinkNest R_Survey 77 y_Yard_isInstruction "CodeYard" ∈ cy_NW := cy_nw (List.mem_of_getElem? (i := 338) (by decide +kernel)) rfl
theorem fl_Yard_122 : Cond.fieldLink R_Yard 122 "CodeYard" "OPERAND_MOST" "[I" ∈ cy_TW := cy_tw (List.mem_of_getElem? (i := 341) (by decide +kernel)) rfl
theorem ml_Survey_70 : Cond.methodLinkNest R_Survey 70 y_Yard_hasOperand "CodeYard" ∈ cy_NW := cy_nw (List.mem_of_getElem? (i := 343) (by decide +kernel)) rfl
theorem ml_Yard_130 : Cond.methodLink R_Yard 130 y_Yard_operandMost ∈ cy_TW := cy_tw (List.mem_of_getElem? (i := 346) (by decide +kernel)) rfl
theorem ml_Yard_126 : Cond.methodLink R_Yard 126 y_Yard_isInstruction ∈ cy_TW := cy_tw (List.mem_of_getElem? (i := 349) (by decide +kernel)) rfl
theorem ml_Survey_80 : Cond.methodLinkNest R_Survey 80 y_Row_has "CodeYard" ∈ cy_NW := cy_nw (List.mem_of_getElem? (i := 350) (by decide +kernel)) rfl
theorem ml_Survey_83 : Cond.methodLinkNest R_Survey 83 y_Yard_operandMost "CodeYard" ∈ cy_NW := cy_nw (List.mem_of_getElem? (i := 354) (by decide +kernel)) rfl
theorem ml_Survey_64 : Cond.methodLinkNest R_Survey 64 y_Row_put "CodeYard" ∈ cy_NW := cy_nw (List.mem_of_getElem? (i := 355) (by decide +kernel)) rfl
theorem ml_Survey_74 : Cond.methodLinkNest R_Survey 74 y_Yard_isEnding "CodeYard" ∈ cy_NW := cy_nw (List.mem_of_getElem? (i := 356) (by decide +kernel)) rfl
theorem ml_Survey_41 : Cond.methodLink R_Survey 41 y_Survey_lookAtPlaces ∈ cy_TW := cy_tw (List.mem_of_getElem? (i := 359) (by decide +kernel)) rfl
theorem ml_Survey_87 : Cond.methodLink R_Survey 87 y_Survey_tellsPlace ∈ cy_TW := cy_tw (List.mem_of_getElem? (i := 363) (by decide +kernel)) rfl
theorem ml_Survey_91 : Cond.methodLinkNest R_Survey 91 y_Yard_isJump "CodeYard" ∈ cy_NW := cy_nw (List.mem_of_getElem? (i := 367) (by decide +kernel)) rfl
theorem ml_Survey_44 : Cond.methodLink R_Survey 44 y_Survey_goThroughAll ∈ cy_TW := cy_tw (List.mem_of_getElem? (i := 370) (by decide +kernel)) rfl
theorem ml_Survey_94 : Cond.methodLink R_Survey 94 y_Survey_comeTo ∈ cy_TW := cy_tw (List.mem_of_getElem? (i := 374) (by decide +kernel)) rfl
theorem ml_Survey_110 : Cond.methodLink R_Survey 110 Lib.Math.min.name ∈ cy_TW := cy_tw (List.mem_of_getElem? (i := 378) (by decide +kernel)) rfl
theorem ml_Survey_97 : Cond.methodLink R_Survey 97 y_Survey_leastWaiting ∈ cy_TW := cy_tw (List.mem_of_getElem? (i := 379) (by decide +kernel)) rfl
theorem ml_Survey_101 : Cond.methodLink R_Survey 101 y_Survey_goThrough ∈ cy_TW := cy_tw (List.mem_of_getElem? (i := 383) (by decide +kernel)) rfl
theorem ml_Survey_104 : Cond.methodLinkNest R_Survey 104 y_Yard_takes "CodeYard" ∈ cy_NW := cy_nw (List.mem_of_getElem? (i := 387) (by decide +kernel)) rfl
theorem fl_Yard_133 : Cond.fieldLink R_Yard 133 "CodeYard" "TAKES" "[I" ∈ cy_TW := cy_tw (List.mem_of_getElem? (i := 390) (by decide +kernel)) rfl
theorem ml_Survey_107 : Cond.methodLinkNest R_Survey 107 y_Yard_gives "CodeYard" ∈ cy_NW := cy_nw (List.mem_of_getElem? (i := 392) (by decide +kernel)) rfl
theorem fl_Yard_136 : Cond.fieldLink R_Yard 136 "CodeYard" "GIVES" "[I" ∈ cy_TW := cy_tw (List.mem_of_getElem? (i := 395) (by decide +kernel)) rfl
theorem ml_Survey_115 : Cond.methodLink R_Survey 115 Lib.Math.max.name ∈ cy_TW := cy_tw (List.mem_of_getElem? (i := 397) (by decide +kernel)) rfl
theorem ml_Yard_77 : Cond.methodLinkNest R_Yard 77 y_Code_take "CodeYard" ∈ cy_NW := cy_nw (List.mem_of_getElem? (i := 398) (by decide +kernel)) rfl
theorem ml_Code_36 : Cond.methodLinkNest R_Code 36 y_Row_becomeLike "CodeYard" ∈ cy_NW := cy_nw (List.mem_of_getElem? (i := 402) (by decide +kernel)) rfl
theorem ml_Row_26 : Cond.methodLink R_Row 26 y_Row_at ∈ cy_TW := cy_tw (List.mem_of_getElem? (i := 406) (by decide +kernel)) rfl
theorem ml_Row_29 : Cond.methodLink R_Row 29 y_Row_add ∈ cy_TW := cy_tw (List.mem_of_getElem? (i := 407) (by decide +kernel)) rfl
theorem ml_Code_40 : Cond.methodLinkNest R_Code 40 y_Row_become "CodeYard" ∈ cy_NW := cy_nw (List.mem_of_getElem? (i := 408) (by decide +kernel)) rfl
theorem ml_Law_32 : Cond.methodLink R_Law 32 y_Yard_begin ∈ cy_TW := cy_tw (List.mem_of_getElem? (i := 409) (by decide +kernel)) rfl
theorem ml_Yard_86 : Cond.methodLinkNest R_Yard 86 y_Shelf_taken "CodeYard" ∈ cy_NW := cy_nw (List.mem_of_getElem? (i := 413) (by decide +kernel)) rfl
theorem ml_Shelf_20 : Cond.methodLink R_Shelf 20 y_Shelf_slot ∈ cy_TW := cy_tw (List.mem_of_getElem? (i := 417) (by decide +kernel)) rfl
theorem ml_Shelf_24 : Cond.methodLinkNest R_Shelf 24 y_Code_isTaken "CodeYard" ∈ cy_NW := cy_nw (List.mem_of_getElem? (i := 418) (by decide +kernel)) rfl
theorem ml_Yard_89 : Cond.methodLinkNest R_Yard 89 y_Run_start "CodeYard" ∈ cy_NW := cy_nw (List.mem_of_getElem? (i := 422) (by decide +kernel)) rfl
theorem ml_Run_53 : Cond.methodLink R_Run 53 y_Run_isHeld ∈ cy_TW := cy_tw (List.mem_of_getElem? (i := 426) (by decide +kernel)) rfl
theorem ml_Run_57 : Cond.methodLinkNest R_Run 57 y_Shelf_bringCellsBack "CodeYard" ∈ cy_NW := cy_nw (List.mem_of_getElem? (i := 427) (by decide +kernel)) rfl
theorem ml_Shelf_35 : Cond.methodLinkNest R_Shelf 35 y_Row_becomeLike "CodeYard" ∈ cy_NW := cy_nw (List.mem_of_getElem? (i := 431) (by decide +kernel)) rfl
theorem ml_Run_62 : Cond.methodLinkNest R_Run 62 y_Shelf_keepCells "CodeYard" ∈ cy_NW := cy_nw (List.mem_of_getElem? (i := 432) (by decide +kernel)) rfl
theorem ml_Run_65 : Cond.methodLinkNest R_Run 65 y_Row_becomeLike "CodeYard" ∈ cy_NW := cy_nw (List.mem_of_getElem? (i := 436) (by decide +kernel)) rfl
theorem ml_Run_69 : Cond.methodLinkNest R_Run 69 y_Row_shorten "CodeYard" ∈ cy_NW := cy_nw (List.mem_of_getElem? (i := 437) (by decide +kernel)) rfl
theorem ml_Run_72 : Cond.methodLinkNest R_Run 72 y_Frame_enter "CodeYard" ∈ cy_NW := cy_nw (List.mem_of_getElem? (i := 438) (by decide +kernel)) rfl
theorem ml_Frame_40 : Cond.methodLinkNest R_Frame 40 y_Row_at "CodeYard" ∈ cy_NW := cy_nw (List.mem_of_getElem? (i := 442) (by decide +kernel)) rfl
theorem ml_Frame_47 : Cond.methodLinkNest R_Frame 47 y_Row_shorten "CodeYard" ∈ cy_NW := cy_nw (List.mem_of_getElem? (i := 443) (by decide +kernel)) rfl
theorem ml_Frame_50 : Cond.methodLinkNest R_Frame 50 y_Row_become "CodeYard" ∈ cy_NW := cy_nw (List.mem_of_getElem? (i := 444) (by decide +kernel)) rfl
theorem ml_Law_36 : Cond.methodLink R_Law 36 y_Yard_go ∈ cy_TW := cy_tw (List.mem_of_getElem? (i := 445) (by decide +kernel)) rfl
theorem ml_Yard_93 : Cond.methodLinkNest R_Yard 93 y_Run_advance "CodeYard" ∈ cy_NW := cy_nw (List.mem_of_getElem? (i := 449) (by decide +kernel)) rfl
theorem ml_Run_85 : Cond.methodLink R_Run 85 y_Run_step ∈ cy_TW := cy_tw (List.mem_of_getElem? (i := 453) (by decide +kernel)) rfl
theorem ml_Run_104 : Cond.methodLink R_Run 104 y_Run_fail ∈ cy_TW := cy_tw (List.mem_of_getElem? (i := 457) (by decide +kernel)) rfl
theorem ml_Run_107 : Cond.methodLinkNest R_Run 107 y_Frame_nextByte "CodeYard" ∈ cy_NW := cy_nw (List.mem_of_getElem? (i := 461) (by decide +kernel)) rfl
theorem ml_Run_111 : Cond.methodLinkNest R_Run 111 y_Yard_hasOperand "CodeYard" ∈ cy_NW := cy_nw (List.mem_of_getElem? (i := 465) (by decide +kernel)) rfl
theorem ml_Run_115 : Cond.methodLink R_Run 115 y_Run_move ∈ cy_TW := cy_tw (List.mem_of_getElem? (i := 466) (by decide +kernel)) rfl
theorem ml_Run_134 : Cond.methodLinkNest R_Run 134 y_Row_add "CodeYard" ∈ cy_NW := cy_nw (List.mem_of_getElem? (i := 470) (by decide +kernel)) rfl
theorem ml_Run_140 : Cond.methodLinkNest R_Run 140 y_Row_at "CodeYard" ∈ cy_NW := cy_nw (List.mem_of_getElem? (i := 471) (by decide +kernel)) rfl
theorem ml_Run_144 : Cond.methodLinkNest R_Run 144 y_Row_takeLast "CodeYard" ∈ cy_NW := cy_nw (List.mem_of_getElem? (i := 472) (by decide +kernel)) rfl
theorem ml_Run_147 : Cond.methodLinkNest R_Run 147 y_Row_put "CodeYard" ∈ cy_NW := cy_nw (List.mem_of_getElem? (i := 476) (by decide +kernel)) rfl
theorem ml_Run_119 : Cond.methodLink R_Run 119 y_Run_combine ∈ cy_TW := cy_tw (List.mem_of_getElem? (i := 477) (by decide +kernel)) rfl
theorem ml_Run_153 : Cond.methodLink R_Run 153 y_Run_combined ∈ cy_TW := cy_tw (List.mem_of_getElem? (i := 481) (by decide +kernel)) rfl
theorem ml_Run_122 : Cond.methodLink R_Run 122 y_Run_rearrange ∈ cy_TW := cy_tw (List.mem_of_getElem? (i := 484) (by decide +kernel)) rfl
theorem ml_Run_125 : Cond.methodLink R_Run 125 y_Run_jump ∈ cy_TW := cy_tw (List.mem_of_getElem? (i := 488) (by decide +kernel)) rfl
theorem ml_Run_128 : Cond.methodLink R_Run 128 y_Run_doOther ∈ cy_TW := cy_tw (List.mem_of_getElem? (i := 492) (by decide +kernel)) rfl
theorem ml_Run_157 : Cond.methodLink R_Run 157 y_Run_readInput ∈ cy_TW := cy_tw (List.mem_of_getElem? (i := 496) (by decide +kernel)) rfl
theorem ml_Run_176 : Cond.methodLinkNest R_Run 176 y_Row_has "CodeYard" ∈ cy_NW := cy_nw (List.mem_of_getElem? (i := 500) (by decide +kernel)) rfl
theorem ml_Run_160 : Cond.methodLink R_Run 160 y_Run_putOut ∈ cy_TW := cy_tw (List.mem_of_getElem? (i := 501) (by decide +kernel)) rfl
theorem ml_Run_163 : Cond.methodLink R_Run 163 y_Run_finish ∈ cy_TW := cy_tw (List.mem_of_getElem? (i := 505) (by decide +kernel)) rfl
theorem ml_Run_166 : Cond.methodLink R_Run 166 y_Run_divide ∈ cy_TW := cy_tw (List.mem_of_getElem? (i := 509) (by decide +kernel)) rfl
theorem ml_Run_169 : Cond.methodLinkNest R_Run 169 y_Shelf_taken "CodeYard" ∈ cy_NW := cy_nw (List.mem_of_getElem? (i := 513) (by decide +kernel)) rfl
theorem ml_Run_173 : Cond.methodLink R_Run 173 y_Run_callCode ∈ cy_TW := cy_tw (List.mem_of_getElem? (i := 514) (by decide +kernel)) rfl
theorem ml_Law_40 : Cond.methodLink R_Law 40 y_Yard_state ∈ cy_TW := cy_tw (List.mem_of_getElem? (i := 518) (by decide +kernel)) rfl
theorem ml_Yard_97 : Cond.methodLinkNest R_Yard 97 y_Run_tell "CodeYard" ∈ cy_NW := cy_nw (List.mem_of_getElem? (i := 522) (by decide +kernel)) rfl
theorem ml_Law_44 : Cond.methodLink R_Law 44 y_Yard_stack ∈ cy_TW := cy_tw (List.mem_of_getElem? (i := 526) (by decide +kernel)) rfl
theorem ml_Law_48 : Cond.methodLink R_Law 48 y_Yard_local ∈ cy_TW := cy_tw (List.mem_of_getElem? (i := 530) (by decide +kernel)) rfl
theorem ml_Law_52 : Cond.methodLink R_Law 52 y_Yard_cell ∈ cy_TW := cy_tw (List.mem_of_getElem? (i := 534) (by decide +kernel)) rfl
theorem ml_Law_56 : Cond.methodLink R_Law 56 y_Yard_out ∈ cy_TW := cy_tw (List.mem_of_getElem? (i := 538) (by decide +kernel)) rfl
theorem ml_Law_60 : Cond.methodLink R_Law 60 y_Yard_height ∈ cy_TW := cy_tw (List.mem_of_getElem? (i := 542) (by decide +kernel)) rfl
theorem ml_Law_64 : Cond.methodLink R_Law 64 y_Yard_size ∈ cy_TW := cy_tw (List.mem_of_getElem? (i := 546) (by decide +kernel)) rfl
theorem cl_Law_10 : Cond.classLink R_Law 10 R_Model ∈ cy_TW := cy_tw (List.mem_of_getElem? (i := 550) (by decide +kernel)) rfl
theorem in_Model : Cond.instantiable R_Model 29 ∈ cy_TW := cy_tw (List.mem_of_getElem? (i := 551) (by decide +kernel)) rfl
theorem ml_Law_12 : Cond.methodLink R_Law 12 y_Model_init ∈ cy_TW := cy_tw (List.mem_of_getElem? (i := 552) (by decide +kernel)) rfl
theorem ml_Model_1 : Cond.methodLink R_Model 1 Lib.objectInit ∈ cy_TW := cy_tw (List.mem_of_getElem? (i := 555) (by decide +kernel)) rfl
theorem fl_Model_7 : Cond.fieldLink R_Model 7 (F_Model 0).1 (F_Model 0).2.1 (F_Model 0).2.2.1 ∈ cy_TW := cy_tw (List.mem_of_getElem? (i := 556) (by decide +kernel)) rfl
theorem fl_Model_60 : Cond.fieldLink R_Model 60 (F_Model 1).1 (F_Model 1).2.1 (F_Model 1).2.2.1 ∈ cy_TW := cy_tw (List.mem_of_getElem? (i := 557) (by decide +kernel)) rfl
theorem fl_Model_13 : Cond.fieldLink R_Model 13 (F_Model 2).1 (F_Model 2).2.1 (F_Model 2).2.2.1 ∈ cy_TW := cy_tw (List.mem_of_getElem? (i := 558) (by decide +kernel)) rfl
theorem fl_Model_16 : Cond.fieldLink R_Model 16 (F_Model 3).1 (F_Model 3).2.1 (F_Model 3).2.2.1 ∈ cy_TW := cy_tw (List.mem_of_getElem? (i := 559) (by decide +kernel)) rfl
theorem fl_Model_20 : Cond.fieldLink R_Model 20 (F_Model 4).1 (F_Model 4).2.1 (F_Model 4).2.2.1 ∈ cy_TW := cy_tw (List.mem_of_getElem? (i := 560) (by decide +kernel)) rfl
theorem fl_Model_23 : Cond.fieldLink R_Model 23 (F_Model 5).1 (F_Model 5).2.1 (F_Model 5).2.2.1 ∈ cy_TW := cy_tw (List.mem_of_getElem? (i := 561) (by decide +kernel)) rfl
theorem fl_Model_26 : Cond.fieldLink R_Model 26 (F_Model 6).1 (F_Model 6).2.1 (F_Model 6).2.2.1 ∈ cy_TW := cy_tw (List.mem_of_getElem? (i := 562) (by decide +kernel)) rfl
theorem fl_Model_74 : Cond.fieldLink R_Model 74 (F_Model 7).1 (F_Model 7).2.1 (F_Model 7).2.2.1 ∈ cy_TW := cy_tw (List.mem_of_getElem? (i := 563) (by decide +kernel)) rfl
theorem fl_Model_29 : Cond.fieldLink R_Model 29 (F_Model 8).1 (F_Model 8).2.1 (F_Model 8).2.2.1 ∈ cy_TW := cy_tw (List.mem_of_getElem? (i := 564) (by decide +kernel)) rfl
theorem fl_Model_33 : Cond.fieldLink R_Model 33 (F_Model 9).1 (F_Model 9).2.1 (F_Model 9).2.2.1 ∈ cy_TW := cy_tw (List.mem_of_getElem? (i := 565) (by decide +kernel)) rfl
theorem fl_Model_36 : Cond.fieldLink R_Model 36 (F_Model 10).1 (F_Model 10).2.1 (F_Model 10).2.2.1 ∈ cy_TW := cy_tw (List.mem_of_getElem? (i := 566) (by decide +kernel)) rfl
theorem fl_Model_68 : Cond.fieldLink R_Model 68 (F_Model 11).1 (F_Model 11).2.1 (F_Model 11).2.2.1 ∈ cy_TW := cy_tw (List.mem_of_getElem? (i := 567) (by decide +kernel)) rfl
theorem fl_Model_71 : Cond.fieldLink R_Model 71 (F_Model 12).1 (F_Model 12).2.1 (F_Model 12).2.2.1 ∈ cy_TW := cy_tw (List.mem_of_getElem? (i := 568) (by decide +kernel)) rfl
theorem fl_Model_125 : Cond.fieldLink R_Model 125 (F_Model 13).1 (F_Model 13).2.1 (F_Model 13).2.2.1 ∈ cy_TW := cy_tw (List.mem_of_getElem? (i := 569) (by decide +kernel)) rfl
theorem fl_Model_108 : Cond.fieldLink R_Model 108 (F_Model 14).1 (F_Model 14).2.1 (F_Model 14).2.2.1 ∈ cy_TW := cy_tw (List.mem_of_getElem? (i := 570) (by decide +kernel)) rfl
theorem fl_Model_128 : Cond.fieldLink R_Model 128 (F_Model 15).1 (F_Model 15).2.1 (F_Model 15).2.2.1 ∈ cy_TW := cy_tw (List.mem_of_getElem? (i := 571) (by decide +kernel)) rfl
theorem fl_Model_131 : Cond.fieldLink R_Model 131 (F_Model 16).1 (F_Model 16).2.1 (F_Model 16).2.2.1 ∈ cy_TW := cy_tw (List.mem_of_getElem? (i := 572) (by decide +kernel)) rfl
theorem fl_Model_134 : Cond.fieldLink R_Model 134 (F_Model 17).1 (F_Model 17).2.1 (F_Model 17).2.2.1 ∈ cy_TW := cy_tw (List.mem_of_getElem? (i := 573) (by decide +kernel)) rfl
theorem fl_Model_137 : Cond.fieldLink R_Model 137 (F_Model 18).1 (F_Model 18).2.1 (F_Model 18).2.2.1 ∈ cy_TW := cy_tw (List.mem_of_getElem? (i := 574) (by decide +kernel)) rfl
theorem fl_Model_140 : Cond.fieldLink R_Model 140 (F_Model 19).1 (F_Model 19).2.1 (F_Model 19).2.2.1 ∈ cy_TW := cy_tw (List.mem_of_getElem? (i := 575) (by decide +kernel)) rfl
theorem fl_Model_39 : Cond.fieldLink R_Model 39 (F_Model 20).1 (F_Model 20).2.1 (F_Model 20).2.2.1 ∈ cy_TW := cy_tw (List.mem_of_getElem? (i := 576) (by decide +kernel)) rfl
theorem fl_Model_42 : Cond.fieldLink R_Model 42 (F_Model 21).1 (F_Model 21).2.1 (F_Model 21).2.2.1 ∈ cy_TW := cy_tw (List.mem_of_getElem? (i := 577) (by decide +kernel)) rfl
theorem fl_Model_45 : Cond.fieldLink R_Model 45 (F_Model 22).1 (F_Model 22).2.1 (F_Model 22).2.2.1 ∈ cy_TW := cy_tw (List.mem_of_getElem? (i := 578) (by decide +kernel)) rfl
theorem fl_Model_48 : Cond.fieldLink R_Model 48 (F_Model 23).1 (F_Model 23).2.1 (F_Model 23).2.2.1 ∈ cy_TW := cy_tw (List.mem_of_getElem? (i := 579) (by decide +kernel)) rfl
theorem fl_Model_51 : Cond.fieldLink R_Model 51 (F_Model 24).1 (F_Model 24).2.1 (F_Model 24).2.2.1 ∈ cy_TW := cy_tw (List.mem_of_getElem? (i := 580) (by decide +kernel)) rfl
theorem fl_Model_54 : Cond.fieldLink R_Model 54 (F_Model 25).1 (F_Model 25).2.1 (F_Model 25).2.2.1 ∈ cy_TW := cy_tw (List.mem_of_getElem? (i := 581) (by decide +kernel)) rfl
theorem fl_Model_119 : Cond.fieldLink R_Model 119 (F_Model 26).1 (F_Model 26).2.1 (F_Model 26).2.2.1 ∈ cy_TW := cy_tw (List.mem_of_getElem? (i := 582) (by decide +kernel)) rfl
theorem fl_Model_57 : Cond.fieldLink R_Model 57 (F_Model 27).1 (F_Model 27).2.1 (F_Model 27).2.2.1 ∈ cy_TW := cy_tw (List.mem_of_getElem? (i := 583) (by decide +kernel)) rfl
theorem fl_Model_122 : Cond.fieldLink R_Model 122 (F_Model 28).1 (F_Model 28).2.1 (F_Model 28).2.2.1 ∈ cy_TW := cy_tw (List.mem_of_getElem? (i := 584) (by decide +kernel)) rfl
theorem aw_byte : Cond.arrayClass .byte ∈ cy_TW := cy_tw (List.mem_of_getElem? (i := 644) (by decide +kernel)) rfl
theorem aw_boolean : Cond.arrayClass .boolean ∈ cy_TW := cy_tw (List.mem_of_getElem? (i := 645) (by decide +kernel)) rfl
theorem ml_Law_17 : Cond.methodLink R_Law 17 y_Model_feed ∈ cy_TW := cy_tw (List.mem_of_getElem? (i := 646) (by decide +kernel)) rfl
theorem ml_Model_64 : Cond.methodLink R_Model 64 y_Model_putFour ∈ cy_TW := cy_tw (List.mem_of_getElem? (i := 650) (by decide +kernel)) rfl
theorem ml_Law_22 : Cond.methodLink R_Law 22 y_Model_end ∈ cy_TW := cy_tw (List.mem_of_getElem? (i := 654) (by decide +kernel)) rfl
theorem ml_Law_27 : Cond.methodLink R_Law 27 y_Model_poke ∈ cy_TW := cy_tw (List.mem_of_getElem? (i := 658) (by decide +kernel)) rfl
theorem ml_Law_31 : Cond.methodLink R_Law 31 y_Model_load ∈ cy_TW := cy_tw (List.mem_of_getElem? (i := 662) (by decide +kernel)) rfl
theorem ml_Model_112 : Cond.methodLink R_Model 112 y_Model_look ∈ cy_TW := cy_tw (List.mem_of_getElem? (i := 666) (by decide +kernel)) rfl
theorem ml_Model_77 : Cond.methodLink R_Model 77 y_Model_bad ∈ cy_TW := cy_tw (List.mem_of_getElem? (i := 670) (by decide +kernel)) rfl
theorem ml_Model_81 : Cond.methodLink R_Model 81 y_Model_at ∈ cy_TW := cy_tw (List.mem_of_getElem? (i := 674) (by decide +kernel)) rfl
theorem ml_Model_85 : Cond.methodLink R_Model 85 y_Model_hasOperand ∈ cy_TW := cy_tw (List.mem_of_getElem? (i := 678) (by decide +kernel)) rfl
theorem ml_Model_89 : Cond.methodLink R_Model 89 y_Model_isOperand ∈ cy_TW := cy_tw (List.mem_of_getElem? (i := 681) (by decide +kernel)) rfl
theorem ml_Model_93 : Cond.methodLink R_Model 93 y_Model_walk ∈ cy_TW := cy_tw (List.mem_of_getElem? (i := 684) (by decide +kernel)) rfl
theorem ml_Model_96 : Cond.methodLink R_Model 96 y_Model_come ∈ cy_TW := cy_tw (List.mem_of_getElem? (i := 688) (by decide +kernel)) rfl
theorem ml_Model_99 : Cond.methodLink R_Model 99 y_Model_goThrough ∈ cy_TW := cy_tw (List.mem_of_getElem? (i := 692) (by decide +kernel)) rfl
theorem ml_Model_102 : Cond.methodLink R_Model 102 y_Model_takes ∈ cy_TW := cy_tw (List.mem_of_getElem? (i := 696) (by decide +kernel)) rfl
theorem ml_Model_105 : Cond.methodLink R_Model 105 y_Model_gives ∈ cy_TW := cy_tw (List.mem_of_getElem? (i := 699) (by decide +kernel)) rfl
theorem ml_Law_35 : Cond.methodLink R_Law 35 y_Model_begin ∈ cy_TW := cy_tw (List.mem_of_getElem? (i := 702) (by decide +kernel)) rfl
theorem ml_Model_116 : Cond.methodLink R_Model 116 y_Model_undo ∈ cy_TW := cy_tw (List.mem_of_getElem? (i := 706) (by decide +kernel)) rfl
theorem ml_Model_143 : Cond.methodLink R_Model 143 y_Model_enter ∈ cy_TW := cy_tw (List.mem_of_getElem? (i := 710) (by decide +kernel)) rfl
theorem ml_Law_39 : Cond.methodLink R_Law 39 y_Model_go ∈ cy_TW := cy_tw (List.mem_of_getElem? (i := 714) (by decide +kernel)) rfl
theorem ml_Model_149 : Cond.methodLink R_Model 149 y_Model_throwFor ∈ cy_TW := cy_tw (List.mem_of_getElem? (i := 718) (by decide +kernel)) rfl
theorem ml_Model_152 : Cond.methodLink R_Model 152 y_Model_oneStep ∈ cy_TW := cy_tw (List.mem_of_getElem? (i := 722) (by decide +kernel)) rfl
theorem ml_Model_155 : Cond.methodLink R_Model 155 y_Model_simple ∈ cy_TW := cy_tw (List.mem_of_getElem? (i := 726) (by decide +kernel)) rfl
theorem ml_Model_146 : Cond.methodLink R_Model 146 y_Model_push ∈ cy_TW := cy_tw (List.mem_of_getElem? (i := 730) (by decide +kernel)) rfl
theorem ml_Model_178 : Cond.methodLink R_Model 178 y_Model_pop ∈ cy_TW := cy_tw (List.mem_of_getElem? (i := 734) (by decide +kernel)) rfl
theorem ml_Model_159 : Cond.methodLink R_Model 159 y_Model_works ∈ cy_TW := cy_tw (List.mem_of_getElem? (i := 738) (by decide +kernel)) rfl
theorem ml_Model_162 : Cond.methodLink R_Model 162 y_Model_jumps ∈ cy_TW := cy_tw (List.mem_of_getElem? (i := 742) (by decide +kernel)) rfl
theorem ml_Model_166 : Cond.methodLink R_Model 166 y_Model_bytes ∈ cy_TW := cy_tw (List.mem_of_getElem? (i := 746) (by decide +kernel)) rfl
theorem ml_Model_169 : Cond.methodLink R_Model 169 y_Model_finish ∈ cy_TW := cy_tw (List.mem_of_getElem? (i := 750) (by decide +kernel)) rfl
theorem ml_Model_181 : Cond.methodLink R_Model 181 y_Model_ends ∈ cy_TW := cy_tw (List.mem_of_getElem? (i := 754) (by decide +kernel)) rfl
theorem ml_Model_172 : Cond.methodLink R_Model 172 y_Model_divide ∈ cy_TW := cy_tw (List.mem_of_getElem? (i := 758) (by decide +kernel)) rfl
theorem ml_Model_175 : Cond.methodLink R_Model 175 y_Model_call ∈ cy_TW := cy_tw (List.mem_of_getElem? (i := 762) (by decide +kernel)) rfl
theorem ml_Law_43 : Cond.methodLink R_Law 43 y_Model_state ∈ cy_TW := cy_tw (List.mem_of_getElem? (i := 766) (by decide +kernel)) rfl
theorem ml_Law_47 : Cond.methodLink R_Law 47 y_Model_stack ∈ cy_TW := cy_tw (List.mem_of_getElem? (i := 770) (by decide +kernel)) rfl
theorem ml_Law_51 : Cond.methodLink R_Law 51 y_Model_local ∈ cy_TW := cy_tw (List.mem_of_getElem? (i := 774) (by decide +kernel)) rfl
theorem ml_Law_55 : Cond.methodLink R_Law 55 y_Model_cell ∈ cy_TW := cy_tw (List.mem_of_getElem? (i := 778) (by decide +kernel)) rfl
theorem ml_Law_59 : Cond.methodLink R_Law 59 y_Model_out ∈ cy_TW := cy_tw (List.mem_of_getElem? (i := 782) (by decide +kernel)) rfl
theorem ml_Law_63 : Cond.methodLink R_Law 63 y_Model_height ∈ cy_TW := cy_tw (List.mem_of_getElem? (i := 786) (by decide +kernel)) rfl
theorem ml_Law_67 : Cond.methodLink R_Law 67 y_Model_size ∈ cy_TW := cy_tw (List.mem_of_getElem? (i := 790) (by decide +kernel)) rfl
theorem ob_i : Cond.instanceMethod Lib.objectInit ∈ cy_TW := cy_tw (List.mem_of_getElem? (i := 79) (by decide +kernel)) rfl
theorem ob_c : Cond.code Lib.objectInit ⟨#[0xb1]⟩ 1 none ∈ cy_TW := cy_tw (List.mem_of_getElem? (i := 80) (by decide +kernel)) rfl
theorem mm_max_s : Cond.static Lib.Math.max.name ∈ cy_TW := cy_tw (List.mem_of_getElem? (i := 88) (by decide +kernel)) rfl
theorem mm_max_c : Cond.code Lib.Math.max.name Lib.Math.max.code 2 (some .int) ∈ cy_TW := cy_tw (List.mem_of_getElem? (i := 89) (by decide +kernel)) rfl
theorem mm_min_s : Cond.static Lib.Math.min.name ∈ cy_TW := cy_tw (List.mem_of_getElem? (i := 289) (by decide +kernel)) rfl
theorem mm_min_c : Cond.code Lib.Math.min.name Lib.Math.min.code 2 (some .int) ∈ cy_TW := cy_tw (List.mem_of_getElem? (i := 290) (by decide +kernel)) rfl
theorem ao_Code : R_Code ∈ cy_AO := by decide
theorem mo_Yard_init : cy_MoI m_Yard_init 0 := ⟨⟨cy_tw (List.mem_of_getElem? (i := 77) (by decide +kernel)) rfl, ini_Yard, by decide +kernel, by decide⟩, cy_tw (List.mem_of_getElem? (i := 76) (by decide +kernel)) rfl, rfl⟩
theorem mo_Row_init : cy_MoI m_Row_init 1 := ⟨⟨cy_tw (List.mem_of_getElem? (i := 85) (by decide +kernel)) rfl, ini_Row, by decide +kernel, by decide⟩, cy_tw (List.mem_of_getElem? (i := 84) (by decide +kernel)) rfl, rfl⟩
theorem mo_Shelf_init : cy_MoI m_Shelf_init 0 := ⟨⟨cy_tw (List.mem_of_getElem? (i := 106) (by decide +kernel)) rfl, ini_Shelf, by decide +kernel, by decide⟩, cy_tw (List.mem_of_getElem? (i := 105) (by decide +kernel)) rfl, rfl⟩
theorem mo_Code_init : cy_MoI m_Code_init 1 := ⟨⟨cy_tw (List.mem_of_getElem? (i := 113) (by decide +kernel)) rfl, ini_Code, by decide +kernel, by decide⟩, cy_tw (List.mem_of_getElem? (i := 112) (by decide +kernel)) rfl, rfl⟩
theorem mo_Survey_init : cy_MoI m_Survey_init 0 := ⟨⟨cy_tw (List.mem_of_getElem? (i := 149) (by decide +kernel)) rfl, ini_Survey, by decide +kernel, by decide⟩, cy_tw (List.mem_of_getElem? (i := 148) (by decide +kernel)) rfl, rfl⟩
theorem mo_Run_init : cy_MoI m_Run_init 1 := ⟨⟨cy_tw (List.mem_of_getElem? (i := 178) (by decide +kernel)) rfl, ini_Run, by decide +kernel, by decide⟩, cy_tw (List.mem_of_getElem? (i := 177) (by decide +kernel)) rfl, rfl⟩
theorem mo_Frame_init : cy_MoI m_Frame_init 3 := ⟨⟨cy_tw (List.mem_of_getElem? (i := 188) (by decide +kernel)) rfl, ini_Frame, by decide +kernel, by decide⟩, cy_tw (List.mem_of_getElem? (i := 187) (by decide +kernel)) rfl, rfl⟩
theorem mo_Yard_feed : cy_MoV m_Yard_feed 5 := ⟨⟨cy_tw (List.mem_of_getElem? (i := 271) (by decide +kernel)) rfl, ini_Yard, by decide +kernel, by decide⟩, cy_tw (List.mem_of_getElem? (i := 269) (by decide +kernel)) rfl, cy_tw (List.mem_of_getElem? (i := 270) (by decide +kernel)) rfl⟩
theorem mo_Yard_addBytes : cy_MoV m_Yard_addBytes 1 := ⟨⟨cy_tw (List.mem_of_getElem? (i := 275) (by decide +kernel)) rfl, ini_Yard, by decide +kernel, by decide⟩, cy_tw (List.mem_of_getElem? (i := 274) (by decide +kernel)) rfl, cy_tw (List.mem_of_getElem? (i := 0) (by decide +kernel)) rfl⟩
theorem mo_Row_add : cy_MoV m_Row_add 1 := ⟨⟨cy_tw (List.mem_of_getElem? (i := 279) (by decide +kernel)) rfl, ini_Row, by decide +kernel, by decide⟩, cy_tw (List.mem_of_getElem? (i := 278) (by decide +kernel)) rfl, cy_tw (List.mem_of_getElem? (i := 1) (by decide +kernel)) rfl⟩
theorem mo_Yard_end : cy_MoV m_Yard_end 1 := ⟨⟨cy_tw (List.mem_of_getElem? (i := 283) (by decide +kernel)) rfl, ini_Yard, by decide +kernel, by decide⟩, cy_tw (List.mem_of_getElem? (i := 281) (by decide +kernel)) rfl, cy_tw (List.mem_of_getElem? (i := 282) (by decide +kernel)) rfl⟩
theorem mo_Row_shorten : cy_MoV m_Row_shorten 1 := ⟨⟨cy_tw (List.mem_of_getElem? (i := 287) (by decide +kernel)) rfl, ini_Row, by decide +kernel, by decide⟩, cy_tw (List.mem_of_getElem? (i := 286) (by decide +kernel)) rfl, cy_tw (List.mem_of_getElem? (i := 2) (by decide +kernel)) rfl⟩
theorem mo_Yard_poke : cy_MoV m_Yard_poke 2 := ⟨⟨cy_tw (List.mem_of_getElem? (i := 294) (by decide +kernel)) rfl, ini_Yard, by decide +kernel, by decide⟩, cy_tw (List.mem_of_getElem? (i := 292) (by decide +kernel)) rfl, cy_tw (List.mem_of_getElem? (i := 293) (by decide +kernel)) rfl⟩
theorem mo_Row_at : cy_MoV m_Row_at 2 := ⟨⟨cy_tw (List.mem_of_getElem? (i := 298) (by decide +kernel)) rfl, ini_Row, by decide +kernel, by decide⟩, cy_tw (List.mem_of_getElem? (i := 297) (by decide +kernel)) rfl, cy_tw (List.mem_of_getElem? (i := 3) (by decide +kernel)) rfl⟩
theorem mo_Row_put : cy_MoV m_Row_put 2 := ⟨⟨cy_tw (List.mem_of_getElem? (i := 302) (by decide +kernel)) rfl, ini_Row, by decide +kernel, by decide⟩, cy_tw (List.mem_of_getElem? (i := 301) (by decide +kernel)) rfl, cy_tw (List.mem_of_getElem? (i := 4) (by decide +kernel)) rfl⟩
theorem mo_Yard_load : cy_MoV m_Yard_load 1 := ⟨⟨cy_tw (List.mem_of_getElem? (i := 306) (by decide +kernel)) rfl, ini_Yard, by decide +kernel, by decide⟩, cy_tw (List.mem_of_getElem? (i := 304) (by decide +kernel)) rfl, cy_tw (List.mem_of_getElem? (i := 305) (by decide +kernel)) rfl⟩
theorem mo_Shelf_slot : cy_MoV m_Shelf_slot 1 := ⟨⟨cy_tw (List.mem_of_getElem? (i := 310) (by decide +kernel)) rfl, ini_Shelf, by decide +kernel, by decide⟩, cy_tw (List.mem_of_getElem? (i := 309) (by decide +kernel)) rfl, cy_tw (List.mem_of_getElem? (i := 5) (by decide +kernel)) rfl⟩
theorem mo_Run_isHeld : cy_MoV m_Run_isHeld 0 := ⟨⟨cy_tw (List.mem_of_getElem? (i := 314) (by decide +kernel)) rfl, ini_Run, by decide +kernel, by decide⟩, cy_tw (List.mem_of_getElem? (i := 313) (by decide +kernel)) rfl, cy_tw (List.mem_of_getElem? (i := 6) (by decide +kernel)) rfl⟩
theorem mo_Survey_lookOver : cy_MoV m_Survey_lookOver 1 := ⟨⟨cy_tw (List.mem_of_getElem? (i := 318) (by decide +kernel)) rfl, ini_Survey, by decide +kernel, by decide⟩, cy_tw (List.mem_of_getElem? (i := 317) (by decide +kernel)) rfl, cy_tw (List.mem_of_getElem? (i := 7) (by decide +kernel)) rfl⟩
theorem mo_Survey_fault : cy_MoS m_Survey_fault 2 := ⟨⟨cy_tw (List.mem_of_getElem? (i := 321) (by decide +kernel)) rfl, ini_Survey, by decide +kernel, by decide⟩, cy_tw (List.mem_of_getElem? (i := 320) (by decide +kernel)) rfl⟩
theorem mo_Survey_clear : cy_MoV m_Survey_clear 1 := ⟨⟨cy_tw (List.mem_of_getElem? (i := 325) (by decide +kernel)) rfl, ini_Survey, by decide +kernel, by decide⟩, cy_tw (List.mem_of_getElem? (i := 324) (by decide +kernel)) rfl, cy_tw (List.mem_of_getElem? (i := 8) (by decide +kernel)) rfl⟩
theorem mo_Row_become : cy_MoV m_Row_become 2 := ⟨⟨cy_tw (List.mem_of_getElem? (i := 329) (by decide +kernel)) rfl, ini_Row, by decide +kernel, by decide⟩, cy_tw (List.mem_of_getElem? (i := 328) (by decide +kernel)) rfl, cy_tw (List.mem_of_getElem? (i := 9) (by decide +kernel)) rfl⟩
theorem mo_Survey_readInstructions : cy_MoV m_Survey_readInstructions 1 := ⟨⟨cy_tw (List.mem_of_getElem? (i := 333) (by decide +kernel)) rfl, ini_Survey, by decide +kernel, by decide⟩, cy_tw (List.mem_of_getElem? (i := 332) (by decide +kernel)) rfl, cy_tw (List.mem_of_getElem? (i := 10) (by decide +kernel)) rfl⟩
theorem mo_Survey_readingFault : cy_MoS m_Survey_readingFault 2 := ⟨⟨cy_tw (List.mem_of_getElem? (i := 336) (by decide +kernel)) rfl, ini_Survey, by decide +kernel, by decide⟩, cy_tw (List.mem_of_getElem? (i := 335) (by decide +kernel)) rfl⟩
theorem mo_Yard_isInstruction : cy_MoS m_Yard_isInstruction 1 := ⟨⟨cy_tw (List.mem_of_getElem? (i := 340) (by decide +kernel)) rfl, ini_Yard, by decide +kernel, by decide⟩, cy_tw (List.mem_of_getElem? (i := 339) (by decide +kernel)) rfl⟩
theorem mo_Yard_hasOperand : cy_MoS m_Yard_hasOperand 1 := ⟨⟨cy_tw (List.mem_of_getElem? (i := 345) (by decide +kernel)) rfl, ini_Yard, by decide +kernel, by decide⟩, cy_tw (List.mem_of_getElem? (i := 344) (by decide +kernel)) rfl⟩
theorem mo_Yard_operandMost : cy_MoS m_Yard_operandMost 1 := ⟨⟨cy_tw (List.mem_of_getElem? (i := 348) (by decide +kernel)) rfl, ini_Yard, by decide +kernel, by decide⟩, cy_tw (List.mem_of_getElem? (i := 347) (by decide +kernel)) rfl⟩
theorem mo_Row_has : cy_MoV m_Row_has 1 := ⟨⟨cy_tw (List.mem_of_getElem? (i := 353) (by decide +kernel)) rfl, ini_Row, by decide +kernel, by decide⟩, cy_tw (List.mem_of_getElem? (i := 352) (by decide +kernel)) rfl, cy_tw (List.mem_of_getElem? (i := 11) (by decide +kernel)) rfl⟩
theorem mo_Yard_isEnding : cy_MoS m_Yard_isEnding 1 := ⟨⟨cy_tw (List.mem_of_getElem? (i := 358) (by decide +kernel)) rfl, ini_Yard, by decide +kernel, by decide⟩, cy_tw (List.mem_of_getElem? (i := 357) (by decide +kernel)) rfl⟩
theorem mo_Survey_lookAtPlaces : cy_MoV m_Survey_lookAtPlaces 1 := ⟨⟨cy_tw (List.mem_of_getElem? (i := 362) (by decide +kernel)) rfl, ini_Survey, by decide +kernel, by decide⟩, cy_tw (List.mem_of_getElem? (i := 361) (by decide +kernel)) rfl, cy_tw (List.mem_of_getElem? (i := 12) (by decide +kernel)) rfl⟩
theorem mo_Survey_tellsPlace : cy_MoV m_Survey_tellsPlace 2 := ⟨⟨cy_tw (List.mem_of_getElem? (i := 366) (by decide +kernel)) rfl, ini_Survey, by decide +kernel, by decide⟩, cy_tw (List.mem_of_getElem? (i := 365) (by decide +kernel)) rfl, cy_tw (List.mem_of_getElem? (i := 13) (by decide +kernel)) rfl⟩
theorem mo_Yard_isJump : cy_MoS m_Yard_isJump 1 := ⟨⟨cy_tw (List.mem_of_getElem? (i := 369) (by decide +kernel)) rfl, ini_Yard, by decide +kernel, by decide⟩, cy_tw (List.mem_of_getElem? (i := 368) (by decide +kernel)) rfl⟩
theorem mo_Survey_goThroughAll : cy_MoV m_Survey_goThroughAll 1 := ⟨⟨cy_tw (List.mem_of_getElem? (i := 373) (by decide +kernel)) rfl, ini_Survey, by decide +kernel, by decide⟩, cy_tw (List.mem_of_getElem? (i := 372) (by decide +kernel)) rfl, cy_tw (List.mem_of_getElem? (i := 14) (by decide +kernel)) rfl⟩
theorem mo_Survey_comeTo : cy_MoV m_Survey_comeTo 2 := ⟨⟨cy_tw (List.mem_of_getElem? (i := 377) (by decide +kernel)) rfl, ini_Survey, by decide +kernel, by decide⟩, cy_tw (List.mem_of_getElem? (i := 376) (by decide +kernel)) rfl, cy_tw (List.mem_of_getElem? (i := 15) (by decide +kernel)) rfl⟩
theorem mo_Survey_leastWaiting : cy_MoV m_Survey_leastWaiting 0 := ⟨⟨cy_tw (List.mem_of_getElem? (i := 382) (by decide +kernel)) rfl, ini_Survey, by decide +kernel, by decide⟩, cy_tw (List.mem_of_getElem? (i := 381) (by decide +kernel)) rfl, cy_tw (List.mem_of_getElem? (i := 16) (by decide +kernel)) rfl⟩
theorem mo_Survey_goThrough : cy_MoV m_Survey_goThrough 2 := ⟨⟨cy_tw (List.mem_of_getElem? (i := 386) (by decide +kernel)) rfl, ini_Survey, by decide +kernel, by decide⟩, cy_tw (List.mem_of_getElem? (i := 385) (by decide +kernel)) rfl, cy_tw (List.mem_of_getElem? (i := 17) (by decide +kernel)) rfl⟩
theorem mo_Yard_takes : cy_MoS m_Yard_takes 1 := ⟨⟨cy_tw (List.mem_of_getElem? (i := 389) (by decide +kernel)) rfl, ini_Yard, by decide +kernel, by decide⟩, cy_tw (List.mem_of_getElem? (i := 388) (by decide +kernel)) rfl⟩
theorem mo_Yard_gives : cy_MoS m_Yard_gives 1 := ⟨⟨cy_tw (List.mem_of_getElem? (i := 394) (by decide +kernel)) rfl, ini_Yard, by decide +kernel, by decide⟩, cy_tw (List.mem_of_getElem? (i := 393) (by decide +kernel)) rfl⟩
theorem mo_Code_take : cy_MoV m_Code_take 2 := ⟨⟨cy_tw (List.mem_of_getElem? (i := 401) (by decide +kernel)) rfl, ini_Code, by decide +kernel, by decide⟩, cy_tw (List.mem_of_getElem? (i := 400) (by decide +kernel)) rfl, cy_tw (List.mem_of_getElem? (i := 18) (by decide +kernel)) rfl⟩
theorem mo_Row_becomeLike : cy_MoV m_Row_becomeLike 1 := ⟨⟨cy_tw (List.mem_of_getElem? (i := 405) (by decide +kernel)) rfl, ini_Row, by decide +kernel, by decide⟩, cy_tw (List.mem_of_getElem? (i := 404) (by decide +kernel)) rfl, cy_tw (List.mem_of_getElem? (i := 19) (by decide +kernel)) rfl⟩
theorem mo_Yard_begin : cy_MoV m_Yard_begin 2 := ⟨⟨cy_tw (List.mem_of_getElem? (i := 412) (by decide +kernel)) rfl, ini_Yard, by decide +kernel, by decide⟩, cy_tw (List.mem_of_getElem? (i := 410) (by decide +kernel)) rfl, cy_tw (List.mem_of_getElem? (i := 411) (by decide +kernel)) rfl⟩
theorem mo_Shelf_taken : cy_MoV m_Shelf_taken 1 := ⟨⟨cy_tw (List.mem_of_getElem? (i := 416) (by decide +kernel)) rfl, ini_Shelf, by decide +kernel, by decide⟩, cy_tw (List.mem_of_getElem? (i := 415) (by decide +kernel)) rfl, cy_tw (List.mem_of_getElem? (i := 20) (by decide +kernel)) rfl⟩
theorem mo_Code_isTaken : cy_MoV m_Code_isTaken 0 := ⟨⟨cy_tw (List.mem_of_getElem? (i := 421) (by decide +kernel)) rfl, ini_Code, by decide +kernel, by decide⟩, cy_tw (List.mem_of_getElem? (i := 420) (by decide +kernel)) rfl, cy_tw (List.mem_of_getElem? (i := 21) (by decide +kernel)) rfl⟩
theorem mo_Run_start : cy_MoV m_Run_start 3 := ⟨⟨cy_tw (List.mem_of_getElem? (i := 425) (by decide +kernel)) rfl, ini_Run, by decide +kernel, by decide⟩, cy_tw (List.mem_of_getElem? (i := 424) (by decide +kernel)) rfl, cy_tw (List.mem_of_getElem? (i := 22) (by decide +kernel)) rfl⟩
theorem mo_Shelf_bringCellsBack : cy_MoV m_Shelf_bringCellsBack 0 := ⟨⟨cy_tw (List.mem_of_getElem? (i := 430) (by decide +kernel)) rfl, ini_Shelf, by decide +kernel, by decide⟩, cy_tw (List.mem_of_getElem? (i := 429) (by decide +kernel)) rfl, cy_tw (List.mem_of_getElem? (i := 23) (by decide +kernel)) rfl⟩
theorem mo_Shelf_keepCells : cy_MoV m_Shelf_keepCells 0 := ⟨⟨cy_tw (List.mem_of_getElem? (i := 435) (by decide +kernel)) rfl, ini_Shelf, by decide +kernel, by decide⟩, cy_tw (List.mem_of_getElem? (i := 434) (by decide +kernel)) rfl, cy_tw (List.mem_of_getElem? (i := 24) (by decide +kernel)) rfl⟩
theorem mo_Frame_enter : cy_MoV m_Frame_enter 2 := ⟨⟨cy_tw (List.mem_of_getElem? (i := 441) (by decide +kernel)) rfl, ini_Frame, by decide +kernel, by decide⟩, cy_tw (List.mem_of_getElem? (i := 440) (by decide +kernel)) rfl, cy_tw (List.mem_of_getElem? (i := 25) (by decide +kernel)) rfl⟩
theorem mo_Yard_go : cy_MoV m_Yard_go 1 := ⟨⟨cy_tw (List.mem_of_getElem? (i := 448) (by decide +kernel)) rfl, ini_Yard, by decide +kernel, by decide⟩, cy_tw (List.mem_of_getElem? (i := 446) (by decide +kernel)) rfl, cy_tw (List.mem_of_getElem? (i := 447) (by decide +kernel)) rfl⟩
theorem mo_Run_advance : cy_MoV m_Run_advance 1 := ⟨⟨cy_tw (List.mem_of_getElem? (i := 452) (by decide +kernel)) rfl, ini_Run, by decide +kernel, by decide⟩, cy_tw (List.mem_of_getElem? (i := 451) (by decide +kernel)) rfl, cy_tw (List.mem_of_getElem? (i := 26) (by decide +kernel)) rfl⟩
theorem mo_Run_step : cy_MoV m_Run_step 0 := ⟨⟨cy_tw (List.mem_of_getElem? (i := 456) (by decide +kernel)) rfl, ini_Run, by decide +kernel, by decide⟩, cy_tw (List.mem_of_getElem? (i := 455) (by decide +kernel)) rfl, cy_tw (List.mem_of_getElem? (i := 27) (by decide +kernel)) rfl⟩
theorem mo_Run_fail : cy_MoV m_Run_fail 1 := ⟨⟨cy_tw (List.mem_of_getElem? (i := 460) (by decide +kernel)) rfl, ini_Run, by decide +kernel, by decide⟩, cy_tw (List.mem_of_getElem? (i := 459) (by decide +kernel)) rfl, cy_tw (List.mem_of_getElem? (i := 28) (by decide +kernel)) rfl⟩
theorem mo_Frame_nextByte : cy_MoV m_Frame_nextByte 0 := ⟨⟨cy_tw (List.mem_of_getElem? (i := 464) (by decide +kernel)) rfl, ini_Frame, by decide +kernel, by decide⟩, cy_tw (List.mem_of_getElem? (i := 463) (by decide +kernel)) rfl, cy_tw (List.mem_of_getElem? (i := 29) (by decide +kernel)) rfl⟩
theorem mo_Run_move : cy_MoV m_Run_move 2 := ⟨⟨cy_tw (List.mem_of_getElem? (i := 469) (by decide +kernel)) rfl, ini_Run, by decide +kernel, by decide⟩, cy_tw (List.mem_of_getElem? (i := 468) (by decide +kernel)) rfl, cy_tw (List.mem_of_getElem? (i := 30) (by decide +kernel)) rfl⟩
theorem mo_Row_takeLast : cy_MoV m_Row_takeLast 0 := ⟨⟨cy_tw (List.mem_of_getElem? (i := 475) (by decide +kernel)) rfl, ini_Row, by decide +kernel, by decide⟩, cy_tw (List.mem_of_getElem? (i := 474) (by decide +kernel)) rfl, cy_tw (List.mem_of_getElem? (i := 31) (by decide +kernel)) rfl⟩
theorem mo_Run_combine : cy_MoV m_Run_combine 1 := ⟨⟨cy_tw (List.mem_of_getElem? (i := 480) (by decide +kernel)) rfl, ini_Run, by decide +kernel, by decide⟩, cy_tw (List.mem_of_getElem? (i := 479) (by decide +kernel)) rfl, cy_tw (List.mem_of_getElem? (i := 32) (by decide +kernel)) rfl⟩
theorem mo_Run_combined : cy_MoS m_Run_combined 3 := ⟨⟨cy_tw (List.mem_of_getElem? (i := 483) (by decide +kernel)) rfl, ini_Run, by decide +kernel, by decide⟩, cy_tw (List.mem_of_getElem? (i := 482) (by decide +kernel)) rfl⟩
theorem mo_Run_rearrange : cy_MoV m_Run_rearrange 1 := ⟨⟨cy_tw (List.mem_of_getElem? (i := 487) (by decide +kernel)) rfl, ini_Run, by decide +kernel, by decide⟩, cy_tw (List.mem_of_getElem? (i := 486) (by decide +kernel)) rfl, cy_tw (List.mem_of_getElem? (i := 33) (by decide +kernel)) rfl⟩
theorem mo_Run_jump : cy_MoV m_Run_jump 2 := ⟨⟨cy_tw (List.mem_of_getElem? (i := 491) (by decide +kernel)) rfl, ini_Run, by decide +kernel, by decide⟩, cy_tw (List.mem_of_getElem? (i := 490) (by decide +kernel)) rfl, cy_tw (List.mem_of_getElem? (i := 34) (by decide +kernel)) rfl⟩
theorem mo_Run_doOther : cy_MoV m_Run_doOther 2 := ⟨⟨cy_tw (List.mem_of_getElem? (i := 495) (by decide +kernel)) rfl, ini_Run, by decide +kernel, by decide⟩, cy_tw (List.mem_of_getElem? (i := 494) (by decide +kernel)) rfl, cy_tw (List.mem_of_getElem? (i := 35) (by decide +kernel)) rfl⟩
theorem mo_Run_readInput : cy_MoV m_Run_readInput 1 := ⟨⟨cy_tw (List.mem_of_getElem? (i := 499) (by decide +kernel)) rfl, ini_Run, by decide +kernel, by decide⟩, cy_tw (List.mem_of_getElem? (i := 498) (by decide +kernel)) rfl, cy_tw (List.mem_of_getElem? (i := 36) (by decide +kernel)) rfl⟩
theorem mo_Run_putOut : cy_MoV m_Run_putOut 1 := ⟨⟨cy_tw (List.mem_of_getElem? (i := 504) (by decide +kernel)) rfl, ini_Run, by decide +kernel, by decide⟩, cy_tw (List.mem_of_getElem? (i := 503) (by decide +kernel)) rfl, cy_tw (List.mem_of_getElem? (i := 37) (by decide +kernel)) rfl⟩
theorem mo_Run_finish : cy_MoV m_Run_finish 1 := ⟨⟨cy_tw (List.mem_of_getElem? (i := 508) (by decide +kernel)) rfl, ini_Run, by decide +kernel, by decide⟩, cy_tw (List.mem_of_getElem? (i := 507) (by decide +kernel)) rfl, cy_tw (List.mem_of_getElem? (i := 38) (by decide +kernel)) rfl⟩
theorem mo_Run_divide : cy_MoV m_Run_divide 1 := ⟨⟨cy_tw (List.mem_of_getElem? (i := 512) (by decide +kernel)) rfl, ini_Run, by decide +kernel, by decide⟩, cy_tw (List.mem_of_getElem? (i := 511) (by decide +kernel)) rfl, cy_tw (List.mem_of_getElem? (i := 39) (by decide +kernel)) rfl⟩
theorem mo_Run_callCode : cy_MoV m_Run_callCode 2 := ⟨⟨cy_tw (List.mem_of_getElem? (i := 517) (by decide +kernel)) rfl, ini_Run, by decide +kernel, by decide⟩, cy_tw (List.mem_of_getElem? (i := 516) (by decide +kernel)) rfl, cy_tw (List.mem_of_getElem? (i := 40) (by decide +kernel)) rfl⟩
theorem mo_Yard_state : cy_MoV m_Yard_state 1 := ⟨⟨cy_tw (List.mem_of_getElem? (i := 521) (by decide +kernel)) rfl, ini_Yard, by decide +kernel, by decide⟩, cy_tw (List.mem_of_getElem? (i := 519) (by decide +kernel)) rfl, cy_tw (List.mem_of_getElem? (i := 520) (by decide +kernel)) rfl⟩
theorem mo_Run_tell : cy_MoV m_Run_tell 1 := ⟨⟨cy_tw (List.mem_of_getElem? (i := 525) (by decide +kernel)) rfl, ini_Run, by decide +kernel, by decide⟩, cy_tw (List.mem_of_getElem? (i := 524) (by decide +kernel)) rfl, cy_tw (List.mem_of_getElem? (i := 41) (by decide +kernel)) rfl⟩
theorem mo_Yard_stack : cy_MoV m_Yard_stack 1 := ⟨⟨cy_tw (List.mem_of_getElem? (i := 529) (by decide +kernel)) rfl, ini_Yard, by decide +kernel, by decide⟩, cy_tw (List.mem_of_getElem? (i := 527) (by decide +kernel)) rfl, cy_tw (List.mem_of_getElem? (i := 528) (by decide +kernel)) rfl⟩
theorem mo_Yard_local : cy_MoV m_Yard_local 1 := ⟨⟨cy_tw (List.mem_of_getElem? (i := 533) (by decide +kernel)) rfl, ini_Yard, by decide +kernel, by decide⟩, cy_tw (List.mem_of_getElem? (i := 531) (by decide +kernel)) rfl, cy_tw (List.mem_of_getElem? (i := 532) (by decide +kernel)) rfl⟩
theorem mo_Yard_cell : cy_MoV m_Yard_cell 2 := ⟨⟨cy_tw (List.mem_of_getElem? (i := 537) (by decide +kernel)) rfl, ini_Yard, by decide +kernel, by decide⟩, cy_tw (List.mem_of_getElem? (i := 535) (by decide +kernel)) rfl, cy_tw (List.mem_of_getElem? (i := 536) (by decide +kernel)) rfl⟩
theorem mo_Yard_out : cy_MoV m_Yard_out 1 := ⟨⟨cy_tw (List.mem_of_getElem? (i := 541) (by decide +kernel)) rfl, ini_Yard, by decide +kernel, by decide⟩, cy_tw (List.mem_of_getElem? (i := 539) (by decide +kernel)) rfl, cy_tw (List.mem_of_getElem? (i := 540) (by decide +kernel)) rfl⟩
theorem mo_Yard_height : cy_MoV m_Yard_height 2 := ⟨⟨cy_tw (List.mem_of_getElem? (i := 545) (by decide +kernel)) rfl, ini_Yard, by decide +kernel, by decide⟩, cy_tw (List.mem_of_getElem? (i := 543) (by decide +kernel)) rfl, cy_tw (List.mem_of_getElem? (i := 544) (by decide +kernel)) rfl⟩
theorem mo_Yard_size : cy_MoV m_Yard_size 1 := ⟨⟨cy_tw (List.mem_of_getElem? (i := 549) (by decide +kernel)) rfl, ini_Yard, by decide +kernel, by decide⟩, cy_tw (List.mem_of_getElem? (i := 547) (by decide +kernel)) rfl, cy_tw (List.mem_of_getElem? (i := 548) (by decide +kernel)) rfl⟩
theorem mo_Model_init : cy_MoI m_Model_init 0 := ⟨⟨cy_tw (List.mem_of_getElem? (i := 554) (by decide +kernel)) rfl, ini_Model, by decide +kernel, by decide⟩, cy_tw (List.mem_of_getElem? (i := 553) (by decide +kernel)) rfl, rfl⟩
theorem mo_Model_feed : cy_MoV m_Model_feed 5 := ⟨⟨cy_tw (List.mem_of_getElem? (i := 649) (by decide +kernel)) rfl, ini_Model, by decide +kernel, by decide⟩, cy_tw (List.mem_of_getElem? (i := 647) (by decide +kernel)) rfl, cy_tw (List.mem_of_getElem? (i := 648) (by decide +kernel)) rfl⟩
theorem mo_Model_putFour : cy_MoV m_Model_putFour 1 := ⟨⟨cy_tw (List.mem_of_getElem? (i := 653) (by decide +kernel)) rfl, ini_Model, by decide +kernel, by decide⟩, cy_tw (List.mem_of_getElem? (i := 652) (by decide +kernel)) rfl, cy_tw (List.mem_of_getElem? (i := 42) (by decide +kernel)) rfl⟩
theorem mo_Model_end : cy_MoV m_Model_end 1 := ⟨⟨cy_tw (List.mem_of_getElem? (i := 657) (by decide +kernel)) rfl, ini_Model, by decide +kernel, by decide⟩, cy_tw (List.mem_of_getElem? (i := 655) (by decide +kernel)) rfl, cy_tw (List.mem_of_getElem? (i := 656) (by decide +kernel)) rfl⟩
theorem mo_Model_poke : cy_MoV m_Model_poke 2 := ⟨⟨cy_tw (List.mem_of_getElem? (i := 661) (by decide +kernel)) rfl, ini_Model, by decide +kernel, by decide⟩, cy_tw (List.mem_of_getElem? (i := 659) (by decide +kernel)) rfl, cy_tw (List.mem_of_getElem? (i := 660) (by decide +kernel)) rfl⟩
theorem mo_Model_load : cy_MoV m_Model_load 1 := ⟨⟨cy_tw (List.mem_of_getElem? (i := 665) (by decide +kernel)) rfl, ini_Model, by decide +kernel, by decide⟩, cy_tw (List.mem_of_getElem? (i := 663) (by decide +kernel)) rfl, cy_tw (List.mem_of_getElem? (i := 664) (by decide +kernel)) rfl⟩
theorem mo_Model_look : cy_MoV m_Model_look 0 := ⟨⟨cy_tw (List.mem_of_getElem? (i := 669) (by decide +kernel)) rfl, ini_Model, by decide +kernel, by decide⟩, cy_tw (List.mem_of_getElem? (i := 668) (by decide +kernel)) rfl, cy_tw (List.mem_of_getElem? (i := 43) (by decide +kernel)) rfl⟩
theorem mo_Model_bad : cy_MoV m_Model_bad 2 := ⟨⟨cy_tw (List.mem_of_getElem? (i := 673) (by decide +kernel)) rfl, ini_Model, by decide +kernel, by decide⟩, cy_tw (List.mem_of_getElem? (i := 672) (by decide +kernel)) rfl, cy_tw (List.mem_of_getElem? (i := 44) (by decide +kernel)) rfl⟩
theorem mo_Model_at : cy_MoV m_Model_at 1 := ⟨⟨cy_tw (List.mem_of_getElem? (i := 677) (by decide +kernel)) rfl, ini_Model, by decide +kernel, by decide⟩, cy_tw (List.mem_of_getElem? (i := 676) (by decide +kernel)) rfl, cy_tw (List.mem_of_getElem? (i := 45) (by decide +kernel)) rfl⟩
theorem mo_Model_hasOperand : cy_MoS m_Model_hasOperand 1 := ⟨⟨cy_tw (List.mem_of_getElem? (i := 680) (by decide +kernel)) rfl, ini_Model, by decide +kernel, by decide⟩, cy_tw (List.mem_of_getElem? (i := 679) (by decide +kernel)) rfl⟩
theorem mo_Model_isOperand : cy_MoS m_Model_isOperand 2 := ⟨⟨cy_tw (List.mem_of_getElem? (i := 683) (by decide +kernel)) rfl, ini_Model, by decide +kernel, by decide⟩, cy_tw (List.mem_of_getElem? (i := 682) (by decide +kernel)) rfl⟩
theorem mo_Model_walk : cy_MoV m_Model_walk 0 := ⟨⟨cy_tw (List.mem_of_getElem? (i := 687) (by decide +kernel)) rfl, ini_Model, by decide +kernel, by decide⟩, cy_tw (List.mem_of_getElem? (i := 686) (by decide +kernel)) rfl, cy_tw (List.mem_of_getElem? (i := 46) (by decide +kernel)) rfl⟩
theorem mo_Model_come : cy_MoV m_Model_come 2 := ⟨⟨cy_tw (List.mem_of_getElem? (i := 691) (by decide +kernel)) rfl, ini_Model, by decide +kernel, by decide⟩, cy_tw (List.mem_of_getElem? (i := 690) (by decide +kernel)) rfl, cy_tw (List.mem_of_getElem? (i := 47) (by decide +kernel)) rfl⟩
theorem mo_Model_goThrough : cy_MoV m_Model_goThrough 1 := ⟨⟨cy_tw (List.mem_of_getElem? (i := 695) (by decide +kernel)) rfl, ini_Model, by decide +kernel, by decide⟩, cy_tw (List.mem_of_getElem? (i := 694) (by decide +kernel)) rfl, cy_tw (List.mem_of_getElem? (i := 48) (by decide +kernel)) rfl⟩
theorem mo_Model_takes : cy_MoS m_Model_takes 1 := ⟨⟨cy_tw (List.mem_of_getElem? (i := 698) (by decide +kernel)) rfl, ini_Model, by decide +kernel, by decide⟩, cy_tw (List.mem_of_getElem? (i := 697) (by decide +kernel)) rfl⟩
theorem mo_Model_gives : cy_MoS m_Model_gives 1 := ⟨⟨cy_tw (List.mem_of_getElem? (i := 701) (by decide +kernel)) rfl, ini_Model, by decide +kernel, by decide⟩, cy_tw (List.mem_of_getElem? (i := 700) (by decide +kernel)) rfl⟩
theorem mo_Model_begin : cy_MoV m_Model_begin 2 := ⟨⟨cy_tw (List.mem_of_getElem? (i := 705) (by decide +kernel)) rfl, ini_Model, by decide +kernel, by decide⟩, cy_tw (List.mem_of_getElem? (i := 703) (by decide +kernel)) rfl, cy_tw (List.mem_of_getElem? (i := 704) (by decide +kernel)) rfl⟩
theorem mo_Model_undo : cy_MoV m_Model_undo 0 := ⟨⟨cy_tw (List.mem_of_getElem? (i := 709) (by decide +kernel)) rfl, ini_Model, by decide +kernel, by decide⟩, cy_tw (List.mem_of_getElem? (i := 708) (by decide +kernel)) rfl, cy_tw (List.mem_of_getElem? (i := 49) (by decide +kernel)) rfl⟩
theorem mo_Model_enter : cy_MoV m_Model_enter 2 := ⟨⟨cy_tw (List.mem_of_getElem? (i := 713) (by decide +kernel)) rfl, ini_Model, by decide +kernel, by decide⟩, cy_tw (List.mem_of_getElem? (i := 712) (by decide +kernel)) rfl, cy_tw (List.mem_of_getElem? (i := 50) (by decide +kernel)) rfl⟩
theorem mo_Model_go : cy_MoV m_Model_go 1 := ⟨⟨cy_tw (List.mem_of_getElem? (i := 717) (by decide +kernel)) rfl, ini_Model, by decide +kernel, by decide⟩, cy_tw (List.mem_of_getElem? (i := 715) (by decide +kernel)) rfl, cy_tw (List.mem_of_getElem? (i := 716) (by decide +kernel)) rfl⟩
theorem mo_Model_throwFor : cy_MoV m_Model_throwFor 1 := ⟨⟨cy_tw (List.mem_of_getElem? (i := 721) (by decide +kernel)) rfl, ini_Model, by decide +kernel, by decide⟩, cy_tw (List.mem_of_getElem? (i := 720) (by decide +kernel)) rfl, cy_tw (List.mem_of_getElem? (i := 51) (by decide +kernel)) rfl⟩
theorem mo_Model_oneStep : cy_MoV m_Model_oneStep 0 := ⟨⟨cy_tw (List.mem_of_getElem? (i := 725) (by decide +kernel)) rfl, ini_Model, by decide +kernel, by decide⟩, cy_tw (List.mem_of_getElem? (i := 724) (by decide +kernel)) rfl, cy_tw (List.mem_of_getElem? (i := 52) (by decide +kernel)) rfl⟩
theorem mo_Model_simple : cy_MoV m_Model_simple 4 := ⟨⟨cy_tw (List.mem_of_getElem? (i := 729) (by decide +kernel)) rfl, ini_Model, by decide +kernel, by decide⟩, cy_tw (List.mem_of_getElem? (i := 728) (by decide +kernel)) rfl, cy_tw (List.mem_of_getElem? (i := 53) (by decide +kernel)) rfl⟩
theorem mo_Model_push : cy_MoV m_Model_push 1 := ⟨⟨cy_tw (List.mem_of_getElem? (i := 733) (by decide +kernel)) rfl, ini_Model, by decide +kernel, by decide⟩, cy_tw (List.mem_of_getElem? (i := 732) (by decide +kernel)) rfl, cy_tw (List.mem_of_getElem? (i := 54) (by decide +kernel)) rfl⟩
theorem mo_Model_pop : cy_MoV m_Model_pop 0 := ⟨⟨cy_tw (List.mem_of_getElem? (i := 737) (by decide +kernel)) rfl, ini_Model, by decide +kernel, by decide⟩, cy_tw (List.mem_of_getElem? (i := 736) (by decide +kernel)) rfl, cy_tw (List.mem_of_getElem? (i := 55) (by decide +kernel)) rfl⟩
theorem mo_Model_works : cy_MoV m_Model_works 1 := ⟨⟨cy_tw (List.mem_of_getElem? (i := 741) (by decide +kernel)) rfl, ini_Model, by decide +kernel, by decide⟩, cy_tw (List.mem_of_getElem? (i := 740) (by decide +kernel)) rfl, cy_tw (List.mem_of_getElem? (i := 56) (by decide +kernel)) rfl⟩
theorem mo_Model_jumps : cy_MoV m_Model_jumps 3 := ⟨⟨cy_tw (List.mem_of_getElem? (i := 745) (by decide +kernel)) rfl, ini_Model, by decide +kernel, by decide⟩, cy_tw (List.mem_of_getElem? (i := 744) (by decide +kernel)) rfl, cy_tw (List.mem_of_getElem? (i := 57) (by decide +kernel)) rfl⟩
theorem mo_Model_bytes : cy_MoV m_Model_bytes 1 := ⟨⟨cy_tw (List.mem_of_getElem? (i := 749) (by decide +kernel)) rfl, ini_Model, by decide +kernel, by decide⟩, cy_tw (List.mem_of_getElem? (i := 748) (by decide +kernel)) rfl, cy_tw (List.mem_of_getElem? (i := 58) (by decide +kernel)) rfl⟩
theorem mo_Model_finish : cy_MoV m_Model_finish 1 := ⟨⟨cy_tw (List.mem_of_getElem? (i := 753) (by decide +kernel)) rfl, ini_Model, by decide +kernel, by decide⟩, cy_tw (List.mem_of_getElem? (i := 752) (by decide +kernel)) rfl, cy_tw (List.mem_of_getElem? (i := 59) (by decide +kernel)) rfl⟩
theorem mo_Model_ends : cy_MoV m_Model_ends 1 := ⟨⟨cy_tw (List.mem_of_getElem? (i := 757) (by decide +kernel)) rfl, ini_Model, by decide +kernel, by decide⟩, cy_tw (List.mem_of_getElem? (i := 756) (by decide +kernel)) rfl, cy_tw (List.mem_of_getElem? (i := 60) (by decide +kernel)) rfl⟩
theorem mo_Model_divide : cy_MoV m_Model_divide 1 := ⟨⟨cy_tw (List.mem_of_getElem? (i := 761) (by decide +kernel)) rfl, ini_Model, by decide +kernel, by decide⟩, cy_tw (List.mem_of_getElem? (i := 760) (by decide +kernel)) rfl, cy_tw (List.mem_of_getElem? (i := 61) (by decide +kernel)) rfl⟩
theorem mo_Model_call : cy_MoV m_Model_call 1 := ⟨⟨cy_tw (List.mem_of_getElem? (i := 765) (by decide +kernel)) rfl, ini_Model, by decide +kernel, by decide⟩, cy_tw (List.mem_of_getElem? (i := 764) (by decide +kernel)) rfl, cy_tw (List.mem_of_getElem? (i := 62) (by decide +kernel)) rfl⟩
theorem mo_Model_state : cy_MoV m_Model_state 1 := ⟨⟨cy_tw (List.mem_of_getElem? (i := 769) (by decide +kernel)) rfl, ini_Model, by decide +kernel, by decide⟩, cy_tw (List.mem_of_getElem? (i := 767) (by decide +kernel)) rfl, cy_tw (List.mem_of_getElem? (i := 768) (by decide +kernel)) rfl⟩
theorem mo_Model_stack : cy_MoV m_Model_stack 1 := ⟨⟨cy_tw (List.mem_of_getElem? (i := 773) (by decide +kernel)) rfl, ini_Model, by decide +kernel, by decide⟩, cy_tw (List.mem_of_getElem? (i := 771) (by decide +kernel)) rfl, cy_tw (List.mem_of_getElem? (i := 772) (by decide +kernel)) rfl⟩
theorem mo_Model_local : cy_MoV m_Model_local 1 := ⟨⟨cy_tw (List.mem_of_getElem? (i := 777) (by decide +kernel)) rfl, ini_Model, by decide +kernel, by decide⟩, cy_tw (List.mem_of_getElem? (i := 775) (by decide +kernel)) rfl, cy_tw (List.mem_of_getElem? (i := 776) (by decide +kernel)) rfl⟩
theorem mo_Model_cell : cy_MoV m_Model_cell 2 := ⟨⟨cy_tw (List.mem_of_getElem? (i := 781) (by decide +kernel)) rfl, ini_Model, by decide +kernel, by decide⟩, cy_tw (List.mem_of_getElem? (i := 779) (by decide +kernel)) rfl, cy_tw (List.mem_of_getElem? (i := 780) (by decide +kernel)) rfl⟩
theorem mo_Model_out : cy_MoV m_Model_out 1 := ⟨⟨cy_tw (List.mem_of_getElem? (i := 785) (by decide +kernel)) rfl, ini_Model, by decide +kernel, by decide⟩, cy_tw (List.mem_of_getElem? (i := 783) (by decide +kernel)) rfl, cy_tw (List.mem_of_getElem? (i := 784) (by decide +kernel)) rfl⟩
theorem mo_Model_height : cy_MoV m_Model_height 2 := ⟨⟨cy_tw (List.mem_of_getElem? (i := 789) (by decide +kernel)) rfl, ini_Model, by decide +kernel, by decide⟩, cy_tw (List.mem_of_getElem? (i := 787) (by decide +kernel)) rfl, cy_tw (List.mem_of_getElem? (i := 788) (by decide +kernel)) rfl⟩
theorem mo_Model_size : cy_MoV m_Model_size 1 := ⟨⟨cy_tw (List.mem_of_getElem? (i := 793) (by decide +kernel)) rfl, ini_Model, by decide +kernel, by decide⟩, cy_tw (List.mem_of_getElem? (i := 791) (by decide +kernel)) rfl, cy_tw (List.mem_of_getElem? (i := 792) (by decide +kernel)) rfl⟩
