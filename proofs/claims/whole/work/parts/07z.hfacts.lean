theorem ak_B : Cond.arrayClass .byte ∈ TB := tb (List.mem_of_getElem? (i := 356) (by decide +kernel)) (by decide +kernel)
theorem ak_I : Cond.arrayClass .int ∈ TB := tb (List.mem_of_getElem? (i := 217) (by decide +kernel)) (by decide +kernel)
theorem ak_L : Cond.arrayClass .long ∈ TB := tb (List.mem_of_getElem? (i := 1992) (by decide +kernel)) (by decide +kernel)
theorem cl_X0_11 : Cond.classLink RX0 11 "TableMerge$State" ∈ TB := tb (List.mem_of_getElem? (i := 363) (by decide +kernel)) (by decide +kernel)
theorem fl_X0_13 : fOK RX0 13 0 0 1 := ⟨(RX0, TX0, 3), rfl, by decide, rfl, rfl, tb (List.mem_of_getElem? (i := 365) (by decide +kernel)) (by decide +kernel), inX0⟩
theorem fl_X9_104 : fOK RX9 104 7 9 0 := ⟨(RX9, TX9, 13), rfl, by decide, rfl, rfl, tb (List.mem_of_getElem? (i := 437) (by decide +kernel)) (by decide +kernel), inX9⟩
theorem fl_X9_111 : fOK RX9 111 4 0 1 := ⟨(RX5, TX5, 10), rfl, by decide, rfl, rfl, tb (List.mem_of_getElem? (i := 221) (by decide +kernel)) (by decide +kernel), inX5⟩
theorem fl_X9_115 : fOK RX9 115 5 0 0 := ⟨(RX6, TX6, 5), rfl, by decide, rfl, rfl, tb (List.mem_of_getElem? (i := 187) (by decide +kernel)) (by decide +kernel), inX6⟩
theorem fl_X9_125 : fOK RX9 125 5 1 0 := ⟨(RX6, TX6, 5), rfl, by decide, rfl, rfl, tb (List.mem_of_getElem? (i := 191) (by decide +kernel)) (by decide +kernel), inX6⟩
theorem fl_X9_128 : fOK RX9 128 4 5 0 := ⟨(RX5, TX5, 10), rfl, by decide, rfl, rfl, tb (List.mem_of_getElem? (i := 235) (by decide +kernel)) (by decide +kernel), inX5⟩
theorem fl_X9_135 : fOK RX9 135 1 0 1 := ⟨(RX2, TX2, 8), rfl, by decide, rfl, rfl, tb (List.mem_of_getElem? (i := 277) (by decide +kernel)) (by decide +kernel), inX2⟩
theorem fl_X9_138 : fOK RX9 138 1 2 0 := ⟨(RX2, TX2, 8), rfl, by decide, rfl, rfl, tb (List.mem_of_getElem? (i := 282) (by decide +kernel)) (by decide +kernel), inX2⟩
theorem fl_X9_145 : fOK RX9 145 1 3 0 := ⟨(RX2, TX2, 8), rfl, by decide, rfl, rfl, tb (List.mem_of_getElem? (i := 285) (by decide +kernel)) (by decide +kernel), inX2⟩
theorem fl_X9_151 : fOK RX9 151 0 2 0 := ⟨(RX0, TX0, 3), rfl, by decide, rfl, rfl, tb (List.mem_of_getElem? (i := 368) (by decide +kernel)) (by decide +kernel), inX0⟩
theorem fl_X9_169 : fOK RX9 169 5 2 1 := ⟨(RX6, TX6, 5), rfl, by decide, rfl, rfl, tb (List.mem_of_getElem? (i := 197) (by decide +kernel)) (by decide +kernel), inX6⟩
theorem fl_X9_172 : fOK RX9 172 5 3 1 := ⟨(RX6, TX6, 5), rfl, by decide, rfl, rfl, tb (List.mem_of_getElem? (i := 202) (by decide +kernel)) (by decide +kernel), inX6⟩
theorem fl_X9_187 : fOK RX9 187 1 1 1 := ⟨(RX2, TX2, 8), rfl, by decide, rfl, rfl, tb (List.mem_of_getElem? (i := 280) (by decide +kernel)) (by decide +kernel), inX2⟩
theorem fl_X9_192 : fOK RX9 192 1 4 1 := ⟨(RX2, TX2, 8), rfl, by decide, rfl, rfl, tb (List.mem_of_getElem? (i := 288) (by decide +kernel)) (by decide +kernel), inX2⟩
theorem fl_X9_206 : fOK RX9 206 1 5 1 := ⟨(RX2, TX2, 8), rfl, by decide, rfl, rfl, tb (List.mem_of_getElem? (i := 290) (by decide +kernel)) (by decide +kernel), inX2⟩
theorem fl_X9_209 : fOK RX9 209 1 6 1 := ⟨(RX2, TX2, 8), rfl, by decide, rfl, rfl, tb (List.mem_of_getElem? (i := 292) (by decide +kernel)) (by decide +kernel), inX2⟩
theorem fl_X9_234 : fOK RX9 234 4 9 1 := ⟨(RX5, TX5, 10), rfl, by decide, rfl, rfl, tb (List.mem_of_getElem? (i := 246) (by decide +kernel)) (by decide +kernel), inX5⟩
theorem fl_X9_316 : fOK RX9 316 4 1 1 := ⟨(RX5, TX5, 10), rfl, by decide, rfl, rfl, tb (List.mem_of_getElem? (i := 226) (by decide +kernel)) (by decide +kernel), inX5⟩
theorem fl_X9_319 : fOK RX9 319 4 2 1 := ⟨(RX5, TX5, 10), rfl, by decide, rfl, rfl, tb (List.mem_of_getElem? (i := 230) (by decide +kernel)) (by decide +kernel), inX5⟩
theorem fl_X9_51 : fOK RX9 51 7 6 1 := ⟨(RX9, TX9, 13), rfl, by decide, rfl, rfl, tb (List.mem_of_getElem? (i := 434) (by decide +kernel)) (by decide +kernel), inX9⟩
theorem fl_X9_54 : fOK RX9 54 7 7 1 := ⟨(RX9, TX9, 13), rfl, by decide, rfl, rfl, tb (List.mem_of_getElem? (i := 435) (by decide +kernel)) (by decide +kernel), inX9⟩
theorem fl_X9_57 : fOK RX9 57 7 8 1 := ⟨(RX9, TX9, 13), rfl, by decide, rfl, rfl, tb (List.mem_of_getElem? (i := 436) (by decide +kernel)) (by decide +kernel), inX9⟩
theorem fl_X9_90 : fOK RX9 90 6 3 0 := ⟨(RX7, TX7, 11), rfl, by decide, rfl, rfl, tb (List.mem_of_getElem? (i := 325) (by decide +kernel)) (by decide +kernel), inX7⟩
theorem fl_X9_93 : fOK RX9 93 6 2 1 := ⟨(RX7, TX7, 11), rfl, by decide, rfl, rfl, tb (List.mem_of_getElem? (i := 323) (by decide +kernel)) (by decide +kernel), inX7⟩
theorem ik_X0_38 : Cond.methodLink RX0 38 yX5_init ∈ TB ∧ Cond.instanceMethod yX5_init ∈ TB := ⟨tb (List.mem_of_getElem? (i := 676) (by decide +kernel)) (by decide +kernel), tb (List.mem_of_getElem? (i := 174) (by decide +kernel)) (by decide +kernel)⟩
theorem ik_X2_11 : Cond.methodLink RX2 11 yX6_init ∈ TB ∧ Cond.instanceMethod yX6_init ∈ TB := ⟨tb (List.mem_of_getElem? (i := 275) (by decide +kernel)) (by decide +kernel), tb (List.mem_of_getElem? (i := 180) (by decide +kernel)) (by decide +kernel)⟩
theorem ik_X3_11 : Cond.methodLink RX3 11 yX5_init ∈ TB ∧ Cond.instanceMethod yX5_init ∈ TB := ⟨tb (List.mem_of_getElem? (i := 403) (by decide +kernel)) (by decide +kernel), tb (List.mem_of_getElem? (i := 174) (by decide +kernel)) (by decide +kernel)⟩
theorem ik_X5_11 : Cond.methodLink RX5 11 yX6_init ∈ TB ∧ Cond.instanceMethod yX6_init ∈ TB := ⟨tb (List.mem_of_getElem? (i := 179) (by decide +kernel)) (by decide +kernel), tb (List.mem_of_getElem? (i := 180) (by decide +kernel)) (by decide +kernel)⟩
theorem ik_X7_17 : Cond.methodLink RX7 17 yX5_init ∈ TB ∧ Cond.instanceMethod yX5_init ∈ TB := ⟨tb (List.mem_of_getElem? (i := 318) (by decide +kernel)) (by decide +kernel), tb (List.mem_of_getElem? (i := 174) (by decide +kernel)) (by decide +kernel)⟩
theorem ik_X9_11 : Cond.methodLink RX9 11 yX5_init ∈ TB ∧ Cond.instanceMethod yX5_init ∈ TB := ⟨tb (List.mem_of_getElem? (i := 173) (by decide +kernel)) (by decide +kernel), tb (List.mem_of_getElem? (i := 174) (by decide +kernel)) (by decide +kernel)⟩
theorem ink_X3_20 : (RX3, 20, yX2_init, "TableMerge") ∈ nwN ∧ Cond.instanceMethod yX2_init ∈ TB := ⟨by decide +kernel, tb (List.mem_of_getElem? (i := 271) (by decide +kernel)) (by decide +kernel)⟩
theorem ink_X9_18 : (RX9, 18, yX2_init, "TableMerge") ∈ nwN ∧ Cond.instanceMethod yX2_init ∈ TB := ⟨by decide +kernel, tb (List.mem_of_getElem? (i := 271) (by decide +kernel)) (by decide +kernel)⟩
theorem ink_X9_25 : (RX9, 25, yX7_init, "TableMerge") ∈ nwN ∧ Cond.instanceMethod yX7_init ∈ TB := ⟨by decide +kernel, tb (List.mem_of_getElem? (i := 314) (by decide +kernel)) (by decide +kernel)⟩
theorem ink_X9_32 : (RX9, 32, yX0_init, "TableMerge") ∈ nwN ∧ Cond.instanceMethod yX0_init ∈ TB := ⟨by decide +kernel, tb (List.mem_of_getElem? (i := 360) (by decide +kernel)) (by decide +kernel)⟩
theorem ink_X9_39 : (RX9, 39, yX4_init, "TableMerge") ∈ nwN ∧ Cond.instanceMethod yX4_init ∈ TB := ⟨by decide +kernel, tb (List.mem_of_getElem? (i := 379) (by decide +kernel)) (by decide +kernel)⟩
theorem ink_X9_46 : (RX9, 46, yX3_init, "TableMerge") ∈ nwN ∧ Cond.instanceMethod yX3_init ∈ TB := ⟨by decide +kernel, tb (List.mem_of_getElem? (i := 399) (by decide +kernel)) (by decide +kernel)⟩
set_option maxRecDepth 100000 in
theorem mk_X0_copyFrom : mOK yX0_copyFrom cX0_copyFrom 3 none 1 := ⟨tb (List.mem_of_getElem? (i := 805) (by rfl)) (by rfl), by decide +kernel, by decide +kernel, tb (List.mem_of_getElem? (i := 145) (by decide +kernel)) (by decide +kernel)⟩
set_option maxRecDepth 100000 in
theorem mk_X0_init : mOK yX0_init cX0_init 1 none 0 := ⟨tb (List.mem_of_getElem? (i := 361) (by rfl)) (by rfl), by decide +kernel, by decide +kernel, tb (List.mem_of_getElem? (i := 145) (by decide +kernel)) (by decide +kernel)⟩
set_option maxRecDepth 100000 in
theorem mk_X0_prepare : mOK yX0_prepare cX0_prepare 2 none 1 := ⟨tb (List.mem_of_getElem? (i := 668) (by rfl)) (by rfl), by decide +kernel, by decide +kernel, tb (List.mem_of_getElem? (i := 145) (by decide +kernel)) (by decide +kernel)⟩
set_option maxRecDepth 100000 in
theorem mk_X0_slot : mOK yX0_slot cX0_slot 4 (some (.object "TableMerge$State")) 1 := ⟨tb (List.mem_of_getElem? (i := 672) (by rfl)) (by rfl), by decide +kernel, by decide +kernel, tb (List.mem_of_getElem? (i := 145) (by decide +kernel)) (by decide +kernel)⟩
set_option maxRecDepth 100000 in
theorem mk_X0_takeBack : mOK yX0_takeBack cX0_takeBack 2 (some .boolean) 1 := ⟨tb (List.mem_of_getElem? (i := 777) (by rfl)) (by rfl), by decide +kernel, by decide +kernel, tb (List.mem_of_getElem? (i := 145) (by decide +kernel)) (by decide +kernel)⟩
set_option maxRecDepth 100000 in
theorem mk_X10_init : mOK yX10_init cX10_init 2 none 0 := ⟨tb (List.mem_of_getElem? (i := 1377) (by rfl)) (by rfl), by decide +kernel, by decide +kernel, tb (List.mem_of_getElem? (i := 148) (by decide +kernel)) (by decide +kernel)⟩
set_option maxRecDepth 100000 in
theorem mk_X2_init : mOK yX2_init cX2_init 1 none 0 := ⟨tb (List.mem_of_getElem? (i := 272) (by rfl)) (by rfl), by decide +kernel, by decide +kernel, tb (List.mem_of_getElem? (i := 143) (by decide +kernel)) (by decide +kernel)⟩
set_option maxRecDepth 100000 in
theorem mk_X3_init : mOK yX3_init cX3_init 1 none 0 := ⟨tb (List.mem_of_getElem? (i := 400) (by rfl)) (by rfl), by decide +kernel, by decide +kernel, tb (List.mem_of_getElem? (i := 147) (by decide +kernel)) (by decide +kernel)⟩
set_option maxRecDepth 100000 in
theorem mk_X4_init : mOK yX4_init cX4_init 1 none 0 := ⟨tb (List.mem_of_getElem? (i := 380) (by rfl)) (by rfl), by decide +kernel, by decide +kernel, tb (List.mem_of_getElem? (i := 146) (by decide +kernel)) (by decide +kernel)⟩
set_option maxRecDepth 100000 in
theorem mk_X5_changeSidesAbout : mOK yX5_changeSidesAbout cX5_changeSidesAbout 3 none 0 := ⟨tb (List.mem_of_getElem? (i := 717) (by rfl)) (by rfl), by decide +kernel, by decide +kernel, tb (List.mem_of_getElem? (i := 140) (by decide +kernel)) (by decide +kernel)⟩
set_option maxRecDepth 100000 in
theorem mk_X5_init : mOK yX5_init cX5_init 1 none 0 := ⟨tb (List.mem_of_getElem? (i := 175) (by rfl)) (by rfl), by decide +kernel, by decide +kernel, tb (List.mem_of_getElem? (i := 140) (by decide +kernel)) (by decide +kernel)⟩
set_option maxRecDepth 100000 in
theorem mk_X6_init : mOK yX6_init cX6_init 1 none 0 := ⟨tb (List.mem_of_getElem? (i := 181) (by rfl)) (by rfl), by decide +kernel, by decide +kernel, tb (List.mem_of_getElem? (i := 141) (by decide +kernel)) (by decide +kernel)⟩
set_option maxRecDepth 100000 in
theorem mk_X7_init : mOK yX7_init cX7_init 1 none 0 := ⟨tb (List.mem_of_getElem? (i := 315) (by rfl)) (by rfl), by decide +kernel, by decide +kernel, tb (List.mem_of_getElem? (i := 144) (by decide +kernel)) (by decide +kernel)⟩
set_option maxRecDepth 100000 in
theorem mk_X9_add : mOK yX9_add cX9_add 4 (some .int) 3 := ⟨tb (List.mem_of_getElem? (i := 1232) (by rfl)) (by rfl), by decide +kernel, by decide +kernel, tb (List.mem_of_getElem? (i := 139) (by decide +kernel)) (by decide +kernel)⟩
set_option maxRecDepth 100000 in
theorem mk_X9_alone : mOK yX9_alone cX9_alone 4 (some .int) 2 := ⟨tb (List.mem_of_getElem? (i := 1300) (by rfl)) (by rfl), by decide +kernel, by decide +kernel, tb (List.mem_of_getElem? (i := 139) (by decide +kernel)) (by decide +kernel)⟩
set_option maxRecDepth 100000 in
theorem mk_X9_along : mOK yX9_along cX9_along 4 (some .int) 2 := ⟨tb (List.mem_of_getElem? (i := 1267) (by rfl)) (by rfl), by decide +kernel, by decide +kernel, tb (List.mem_of_getElem? (i := 139) (by decide +kernel)) (by decide +kernel)⟩
set_option maxRecDepth 100000 in
theorem mk_X9_cell : mOK yX9_cell cX9_cell 5 (some .int) 3 := ⟨tb (List.mem_of_getElem? (i := 1154) (by rfl)) (by rfl), by decide +kernel, by decide +kernel, tb (List.mem_of_getElem? (i := 139) (by decide +kernel)) (by decide +kernel)⟩
set_option maxRecDepth 100000 in
theorem mk_X9_column : mOK yX9_column cX9_column 5 (some .int) 3 := ⟨tb (List.mem_of_getElem? (i := 1145) (by rfl)) (by rfl), by decide +kernel, by decide +kernel, tb (List.mem_of_getElem? (i := 139) (by decide +kernel)) (by decide +kernel)⟩
set_option maxRecDepth 100000 in
theorem mk_X9_commit : mOK yX9_commit cX9_commit 3 (some .int) 0 := ⟨tb (List.mem_of_getElem? (i := 739) (by rfl)) (by rfl), by decide +kernel, by decide +kernel, tb (List.mem_of_getElem? (i := 139) (by decide +kernel)) (by decide +kernel)⟩
set_option maxRecDepth 100000 in
theorem mk_X9_conflict : mOK yX9_conflict cX9_conflict 5 (some .int) 2 := ⟨tb (List.mem_of_getElem? (i := 1172) (by rfl)) (by rfl), by decide +kernel, by decide +kernel, tb (List.mem_of_getElem? (i := 139) (by decide +kernel)) (by decide +kernel)⟩
set_option maxRecDepth 100000 in
theorem mk_X9_count : mOK yX9_count cX9_count 2 (some .int) 1 := ⟨tb (List.mem_of_getElem? (i := 1101) (by rfl)) (by rfl), by decide +kernel, by decide +kernel, tb (List.mem_of_getElem? (i := 139) (by decide +kernel)) (by decide +kernel)⟩
set_option maxRecDepth 100000 in
theorem mk_X9_delete : mOK yX9_delete cX9_delete 3 (some .boolean) 2 := ⟨tb (List.mem_of_getElem? (i := 1211) (by rfl)) (by rfl), by decide +kernel, by decide +kernel, tb (List.mem_of_getElem? (i := 139) (by decide +kernel)) (by decide +kernel)⟩
set_option maxRecDepth 100000 in
theorem mk_X9_demandSide : mOK yX9_demandSide cX9_demandSide 1 none 1 := ⟨tb (List.mem_of_getElem? (i := 1195) (by rfl)) (by rfl), by decide +kernel, by decide +kernel, tb (List.mem_of_getElem? (i := 139) (by decide +kernel)) (by decide +kernel)⟩
set_option maxRecDepth 100000 in
theorem mk_X9_demandThreefold : mOK yX9_demandThreefold cX9_demandThreefold 1 none 1 := ⟨tb (List.mem_of_getElem? (i := 1270) (by rfl)) (by rfl), by decide +kernel, by decide +kernel, tb (List.mem_of_getElem? (i := 139) (by decide +kernel)) (by decide +kernel)⟩
set_option maxRecDepth 100000 in
theorem mk_X9_difference : mOK yX9_difference cX9_difference 5 (some .int) 2 := ⟨tb (List.mem_of_getElem? (i := 1246) (by rfl)) (by rfl), by decide +kernel, by decide +kernel, tb (List.mem_of_getElem? (i := 139) (by decide +kernel)) (by decide +kernel)⟩
set_option maxRecDepth 100000 in
theorem mk_X9_drop : mOK yX9_drop cX9_drop 3 (some .boolean) 2 := ⟨tb (List.mem_of_getElem? (i := 1239) (by rfl)) (by rfl), by decide +kernel, by decide +kernel, tb (List.mem_of_getElem? (i := 139) (by decide +kernel)) (by decide +kernel)⟩
set_option maxRecDepth 100000 in
theorem mk_X9_editByHand : mOK yX9_editByHand cX9_editByHand 7 (some .int) 5 := ⟨tb (List.mem_of_getElem? (i := 1192) (by rfl)) (by rfl), by decide +kernel, by decide +kernel, tb (List.mem_of_getElem? (i := 139) (by decide +kernel)) (by decide +kernel)⟩
set_option maxRecDepth 100000 in
theorem mk_X9_edited : mOK yX9_edited cX9_edited 2 (some .int) 1 := ⟨tb (List.mem_of_getElem? (i := 1332) (by rfl)) (by rfl), by decide +kernel, by decide +kernel, tb (List.mem_of_getElem? (i := 139) (by decide +kernel)) (by decide +kernel)⟩
set_option maxRecDepth 100000 in
theorem mk_X9_flip : mOK yX9_flip cX9_flip 1 none 0 := ⟨tb (List.mem_of_getElem? (i := 713) (by rfl)) (by rfl), by decide +kernel, by decide +kernel, tb (List.mem_of_getElem? (i := 139) (by decide +kernel)) (by decide +kernel)⟩
set_option maxRecDepth 100000 in
theorem mk_X9_image : mOK yX9_image cX9_image 1 none 0 := ⟨tb (List.mem_of_getElem? (i := 800) (by rfl)) (by rfl), by decide +kernel, by decide +kernel, tb (List.mem_of_getElem? (i := 139) (by decide +kernel)) (by decide +kernel)⟩
set_option maxRecDepth 100000 in
theorem mk_X9_init : mOK yX9_init cX9_init 1 none 0 := ⟨tb (List.mem_of_getElem? (i := 167) (by rfl)) (by rfl), by decide +kernel, by decide +kernel, tb (List.mem_of_getElem? (i := 139) (by decide +kernel)) (by decide +kernel)⟩
set_option maxRecDepth 100000 in
theorem mk_X9_insert : mOK yX9_insert cX9_insert 3 (some .boolean) 2 := ⟨tb (List.mem_of_getElem? (i := 1204) (by rfl)) (by rfl), by decide +kernel, by decide +kernel, tb (List.mem_of_getElem? (i := 139) (by decide +kernel)) (by decide +kernel)⟩
set_option maxRecDepth 100000 in
theorem mk_X9_rename : mOK yX9_rename cX9_rename 4 (some .boolean) 3 := ⟨tb (List.mem_of_getElem? (i := 1218) (by rfl)) (by rfl), by decide +kernel, by decide +kernel, tb (List.mem_of_getElem? (i := 139) (by decide +kernel)) (by decide +kernel)⟩
set_option maxRecDepth 100000 in
theorem mk_X9_restore : mOK yX9_restore cX9_restore 1 (some .boolean) 0 := ⟨tb (List.mem_of_getElem? (i := 814) (by rfl)) (by rfl), by decide +kernel, by decide +kernel, tb (List.mem_of_getElem? (i := 139) (by decide +kernel)) (by decide +kernel)⟩
set_option maxRecDepth 100000 in
theorem mk_X9_retype : mOK yX9_retype cX9_retype 4 (some .boolean) 3 := ⟨tb (List.mem_of_getElem? (i := 1225) (by rfl)) (by rfl), by decide +kernel, by decide +kernel, tb (List.mem_of_getElem? (i := 139) (by decide +kernel)) (by decide +kernel)⟩
set_option maxRecDepth 100000 in
theorem mk_X9_set : mOK yX9_set cX9_set 5 (some .boolean) 4 := ⟨tb (List.mem_of_getElem? (i := 1188) (by rfl)) (by rfl), by decide +kernel, by decide +kernel, tb (List.mem_of_getElem? (i := 139) (by decide +kernel)) (by decide +kernel)⟩
set_option maxRecDepth 100000 in
theorem mk_X9_settle : mOK yX9_settle cX9_settle 6 (some .int) 4 := ⟨tb (List.mem_of_getElem? (i := 488) (by rfl)) (by rfl), by decide +kernel, by decide +kernel, tb (List.mem_of_getElem? (i := 139) (by decide +kernel)) (by decide +kernel)⟩
set_option maxRecDepth 100000 in
theorem mk_X9_table : mOK yX9_table cX9_table 4 (some .int) 2 := ⟨tb (List.mem_of_getElem? (i := 1132) (by rfl)) (by rfl), by decide +kernel, by decide +kernel, tb (List.mem_of_getElem? (i := 139) (by decide +kernel)) (by decide +kernel)⟩
set_option maxRecDepth 100000 in
theorem mk_X9_tableOf : mOK yX9_tableOf cX9_tableOf 2 (some (.object "TableMerge$Table")) 1 := ⟨tb (List.mem_of_getElem? (i := 1136) (by rfl)) (by rfl), by decide +kernel, by decide +kernel, tb (List.mem_of_getElem? (i := 139) (by decide +kernel)) (by decide +kernel)⟩
set_option maxRecDepth 100000 in
theorem mk_X9_tables : mOK yX9_tables cX9_tables 3 (some .int) 1 := ⟨tb (List.mem_of_getElem? (i := 822) (by rfl)) (by rfl), by decide +kernel, by decide +kernel, tb (List.mem_of_getElem? (i := 139) (by decide +kernel)) (by decide +kernel)⟩
set_option maxRecDepth 100000 in
theorem mk_X9_undo : mOK yX9_undo cX9_undo 1 (some .int) 0 := ⟨tb (List.mem_of_getElem? (i := 773) (by rfl)) (by rfl), by decide +kernel, by decide +kernel, tb (List.mem_of_getElem? (i := 139) (by decide +kernel)) (by decide +kernel)⟩
set_option maxRecDepth 100000 in
theorem mk_X9_unsettle : mOK yX9_unsettle cX9_unsettle 6 (some .int) 3 := ⟨tb (List.mem_of_getElem? (i := 709) (by rfl)) (by rfl), by decide +kernel, by decide +kernel, tb (List.mem_of_getElem? (i := 139) (by decide +kernel)) (by decide +kernel)⟩
set_option maxRecDepth 100000 in
theorem mk_X9_whose : mOK yX9_whose cX9_whose 4 (some .int) 2 := ⟨tb (List.mem_of_getElem? (i := 1164) (by rfl)) (by rfl), by decide +kernel, by decide +kernel, tb (List.mem_of_getElem? (i := 139) (by decide +kernel)) (by decide +kernel)⟩
set_option maxRecDepth 100000 in
theorem mk_X9_years : mOK yX9_years cX9_years 4 (some .int) 3 := ⟨tb (List.mem_of_getElem? (i := 1355) (by rfl)) (by rfl), by decide +kernel, by decide +kernel, tb (List.mem_of_getElem? (i := 139) (by decide +kernel)) (by decide +kernel)⟩
theorem nk_X0_11 : nOK RX0 11 4 := ⟨(RX5, TX5, 10), tyX5, rfl, rfl, inX5, tyX5_ok, by decide, tb (List.mem_of_getElem? (i := 363) (by decide +kernel)) (by decide +kernel), tb (List.mem_of_getElem? (i := 172) (by decide +kernel)) (by decide +kernel), tb (List.mem_of_getElem? (i := 140) (by decide +kernel)) (by decide +kernel)⟩
theorem nk_X2_9 : nOK RX2 9 5 := ⟨(RX6, TX6, 5), tyX6, rfl, rfl, inX6, tyX6_ok, by decide, tb (List.mem_of_getElem? (i := 274) (by decide +kernel)) (by decide +kernel), tb (List.mem_of_getElem? (i := 178) (by decide +kernel)) (by decide +kernel), tb (List.mem_of_getElem? (i := 141) (by decide +kernel)) (by decide +kernel)⟩
theorem nk_X3_18 : nOK RX3 18 1 := ⟨(RX2, TX2, 8), tyX2, rfl, rfl, inX2, tyX2_ok, by decide, tb (List.mem_of_getElem? (i := 404) (by decide +kernel)) (by decide +kernel), tb (List.mem_of_getElem? (i := 269) (by decide +kernel)) (by decide +kernel), tb (List.mem_of_getElem? (i := 143) (by decide +kernel)) (by decide +kernel)⟩
theorem nk_X3_9 : nOK RX3 9 4 := ⟨(RX5, TX5, 10), tyX5, rfl, rfl, inX5, tyX5_ok, by decide, tb (List.mem_of_getElem? (i := 402) (by decide +kernel)) (by decide +kernel), tb (List.mem_of_getElem? (i := 172) (by decide +kernel)) (by decide +kernel), tb (List.mem_of_getElem? (i := 140) (by decide +kernel)) (by decide +kernel)⟩
theorem nk_X5_9 : nOK RX5 9 5 := ⟨(RX6, TX6, 5), tyX6, rfl, rfl, inX6, tyX6_ok, by decide, tb (List.mem_of_getElem? (i := 177) (by decide +kernel)) (by decide +kernel), tb (List.mem_of_getElem? (i := 178) (by decide +kernel)) (by decide +kernel), tb (List.mem_of_getElem? (i := 141) (by decide +kernel)) (by decide +kernel)⟩
theorem nk_X7_15 : nOK RX7 15 4 := ⟨(RX5, TX5, 10), tyX5, rfl, rfl, inX5, tyX5_ok, by decide, tb (List.mem_of_getElem? (i := 317) (by decide +kernel)) (by decide +kernel), tb (List.mem_of_getElem? (i := 172) (by decide +kernel)) (by decide +kernel), tb (List.mem_of_getElem? (i := 140) (by decide +kernel)) (by decide +kernel)⟩
theorem nk_X9_16 : nOK RX9 16 1 := ⟨(RX2, TX2, 8), tyX2, rfl, rfl, inX2, tyX2_ok, by decide, tb (List.mem_of_getElem? (i := 268) (by decide +kernel)) (by decide +kernel), tb (List.mem_of_getElem? (i := 269) (by decide +kernel)) (by decide +kernel), tb (List.mem_of_getElem? (i := 143) (by decide +kernel)) (by decide +kernel)⟩
theorem nk_X9_23 : nOK RX9 23 6 := ⟨(RX7, TX7, 11), tyX7, rfl, rfl, inX7, tyX7_ok, by decide, tb (List.mem_of_getElem? (i := 311) (by decide +kernel)) (by decide +kernel), tb (List.mem_of_getElem? (i := 312) (by decide +kernel)) (by decide +kernel), tb (List.mem_of_getElem? (i := 144) (by decide +kernel)) (by decide +kernel)⟩
theorem nk_X9_30 : nOK RX9 30 0 := ⟨(RX0, TX0, 3), tyX0, rfl, rfl, inX0, tyX0_ok, by decide, tb (List.mem_of_getElem? (i := 357) (by decide +kernel)) (by decide +kernel), tb (List.mem_of_getElem? (i := 358) (by decide +kernel)) (by decide +kernel), tb (List.mem_of_getElem? (i := 145) (by decide +kernel)) (by decide +kernel)⟩
theorem nk_X9_37 : nOK RX9 37 3 := ⟨(RX4, TX4, 4), tyX4, rfl, rfl, inX4, tyX4_ok, by decide, tb (List.mem_of_getElem? (i := 376) (by decide +kernel)) (by decide +kernel), tb (List.mem_of_getElem? (i := 377) (by decide +kernel)) (by decide +kernel), tb (List.mem_of_getElem? (i := 146) (by decide +kernel)) (by decide +kernel)⟩
theorem nk_X9_44 : nOK RX9 44 2 := ⟨(RX3, TX3, 7), tyX3, rfl, rfl, inX3, tyX3_ok, by decide, tb (List.mem_of_getElem? (i := 396) (by decide +kernel)) (by decide +kernel), tb (List.mem_of_getElem? (i := 397) (by decide +kernel)) (by decide +kernel), tb (List.mem_of_getElem? (i := 147) (by decide +kernel)) (by decide +kernel)⟩
theorem nk_X9_9 : nOK RX9 9 4 := ⟨(RX5, TX5, 10), tyX5, rfl, rfl, inX5, tyX5_ok, by decide, tb (List.mem_of_getElem? (i := 171) (by decide +kernel)) (by decide +kernel), tb (List.mem_of_getElem? (i := 172) (by decide +kernel)) (by decide +kernel), tb (List.mem_of_getElem? (i := 140) (by decide +kernel)) (by decide +kernel)⟩
theorem ok_X0_3 : Cond.methodLink RX0 3 Lib.objectInit ∈ TB := tb (List.mem_of_getElem? (i := 362) (by decide +kernel)) (by decide +kernel)
theorem ok_X10_1 : Cond.methodLink RX10 1 Lib.objectInit ∈ TB := tb (List.mem_of_getElem? (i := 1378) (by decide +kernel)) (by decide +kernel)
theorem ok_X2_3 : Cond.methodLink RX2 3 Lib.objectInit ∈ TB := tb (List.mem_of_getElem? (i := 273) (by decide +kernel)) (by decide +kernel)
theorem ok_X3_3 : Cond.methodLink RX3 3 Lib.objectInit ∈ TB := tb (List.mem_of_getElem? (i := 401) (by decide +kernel)) (by decide +kernel)
theorem ok_X4_3 : Cond.methodLink RX4 3 Lib.objectInit ∈ TB := tb (List.mem_of_getElem? (i := 381) (by decide +kernel)) (by decide +kernel)
theorem ok_X5_3 : Cond.methodLink RX5 3 Lib.objectInit ∈ TB := tb (List.mem_of_getElem? (i := 176) (by decide +kernel)) (by decide +kernel)
theorem ok_X6_3 : Cond.methodLink RX6 3 Lib.objectInit ∈ TB := tb (List.mem_of_getElem? (i := 182) (by decide +kernel)) (by decide +kernel)
theorem ok_X7_3 : Cond.methodLink RX7 3 Lib.objectInit ∈ TB := tb (List.mem_of_getElem? (i := 316) (by decide +kernel)) (by decide +kernel)
theorem ok_X9_3 : Cond.methodLink RX9 3 Lib.objectInit ∈ TB := tb (List.mem_of_getElem? (i := 168) (by decide +kernel)) (by decide +kernel)
theorem pf_X5_18 : pOK RX5 18 4 1 1 (.object "TableMerge$Table") := ⟨(RX5, TX5, 10), tyX5, rfl, by decide, rfl, rfl, tb (List.mem_of_getElem? (i := 224) (by decide +kernel)) (by decide +kernel), inX5, tyX5_ok, nmX5, rfl, rfl⟩
theorem pf_X5_21 : pOK RX5 21 4 2 1 (.object "TableMerge$Table") := ⟨(RX5, TX5, 10), tyX5, rfl, by decide, rfl, rfl, tb (List.mem_of_getElem? (i := 227) (by decide +kernel)) (by decide +kernel), inX5, tyX5_ok, nmX5, rfl, rfl⟩
theorem pf_X9_104 : pOK RX9 104 7 9 0 .boolean := ⟨(RX9, TX9, 13), tyX9, rfl, by decide, rfl, rfl, tb (List.mem_of_getElem? (i := 437) (by decide +kernel)) (by decide +kernel), inX9, tyX9_ok, nmX9, rfl, rfl⟩
theorem pf_X9_60 : pOK RX9 60 7 11 0 .int := ⟨(RX9, TX9, 13), tyX9, rfl, by decide, rfl, rfl, tb (List.mem_of_getElem? (i := 439) (by decide +kernel)) (by decide +kernel), inX9, tyX9_ok, nmX9, rfl, rfl⟩
theorem pff_X0_13 : pOKF RX0 13 0 0 (.array (.object "TableMerge$State")) := ⟨(RX0, TX0, 3), tyX0, rfl, by decide, rfl, rfl, tb (List.mem_of_getElem? (i := 365) (by decide +kernel)) (by decide +kernel), inX0, tyX0_ok, nmX0, rfl, rfl, rfl⟩
theorem pff_X10_17 : pOKF RX10 17 8 5 (.array .int) := ⟨(RX10, TX10, 41), tyX10, rfl, by decide, rfl, rfl, tb (List.mem_of_getElem? (i := 1384) (by decide +kernel)) (by decide +kernel), inX10, tyX10_ok, nmX10, rfl, rfl, rfl⟩
theorem pff_X10_20 : pOKF RX10 20 8 17 (.array .int) := ⟨(RX10, TX10, 41), tyX10, rfl, by decide, rfl, rfl, tb (List.mem_of_getElem? (i := 1396) (by decide +kernel)) (by decide +kernel), inX10, tyX10_ok, nmX10, rfl, rfl, rfl⟩
theorem pff_X10_23 : pOKF RX10 23 8 18 (.array .int) := ⟨(RX10, TX10, 41), tyX10, rfl, by decide, rfl, rfl, tb (List.mem_of_getElem? (i := 1397) (by decide +kernel)) (by decide +kernel), inX10, tyX10_ok, nmX10, rfl, rfl, rfl⟩
theorem pff_X10_26 : pOKF RX10 26 8 23 (.array .int) := ⟨(RX10, TX10, 41), tyX10, rfl, by decide, rfl, rfl, tb (List.mem_of_getElem? (i := 1402) (by decide +kernel)) (by decide +kernel), inX10, tyX10_ok, nmX10, rfl, rfl, rfl⟩
theorem pff_X10_29 : pOKF RX10 29 8 24 (.array .int) := ⟨(RX10, TX10, 41), tyX10, rfl, by decide, rfl, rfl, tb (List.mem_of_getElem? (i := 1403) (by decide +kernel)) (by decide +kernel), inX10, tyX10_ok, nmX10, rfl, rfl, rfl⟩
theorem pff_X10_32 : pOKF RX10 32 8 25 (.array .int) := ⟨(RX10, TX10, 41), tyX10, rfl, by decide, rfl, rfl, tb (List.mem_of_getElem? (i := 1404) (by decide +kernel)) (by decide +kernel), inX10, tyX10_ok, nmX10, rfl, rfl, rfl⟩
theorem pff_X10_35 : pOKF RX10 35 8 26 (.array .int) := ⟨(RX10, TX10, 41), tyX10, rfl, by decide, rfl, rfl, tb (List.mem_of_getElem? (i := 1405) (by decide +kernel)) (by decide +kernel), inX10, tyX10_ok, nmX10, rfl, rfl, rfl⟩
theorem pff_X10_38 : pOKF RX10 38 8 27 (.array .int) := ⟨(RX10, TX10, 41), tyX10, rfl, by decide, rfl, rfl, tb (List.mem_of_getElem? (i := 1406) (by decide +kernel)) (by decide +kernel), inX10, tyX10_ok, nmX10, rfl, rfl, rfl⟩
theorem pff_X10_41 : pOKF RX10 41 8 28 (.array .int) := ⟨(RX10, TX10, 41), tyX10, rfl, by decide, rfl, rfl, tb (List.mem_of_getElem? (i := 1407) (by decide +kernel)) (by decide +kernel), inX10, tyX10_ok, nmX10, rfl, rfl, rfl⟩
theorem pff_X10_44 : pOKF RX10 44 8 29 (.array .int) := ⟨(RX10, TX10, 41), tyX10, rfl, by decide, rfl, rfl, tb (List.mem_of_getElem? (i := 1408) (by decide +kernel)) (by decide +kernel), inX10, tyX10_ok, nmX10, rfl, rfl, rfl⟩
theorem pff_X10_47 : pOKF RX10 47 8 30 (.array .int) := ⟨(RX10, TX10, 41), tyX10, rfl, by decide, rfl, rfl, tb (List.mem_of_getElem? (i := 1409) (by decide +kernel)) (by decide +kernel), inX10, tyX10_ok, nmX10, rfl, rfl, rfl⟩
theorem pff_X10_50 : pOKF RX10 50 8 31 (.array .int) := ⟨(RX10, TX10, 41), tyX10, rfl, by decide, rfl, rfl, tb (List.mem_of_getElem? (i := 1410) (by decide +kernel)) (by decide +kernel), inX10, tyX10_ok, nmX10, rfl, rfl, rfl⟩
theorem pff_X10_53 : pOKF RX10 53 8 33 (.array .int) := ⟨(RX10, TX10, 41), tyX10, rfl, by decide, rfl, rfl, tb (List.mem_of_getElem? (i := 1412) (by decide +kernel)) (by decide +kernel), inX10, tyX10_ok, nmX10, rfl, rfl, rfl⟩
theorem pff_X10_56 : pOKF RX10 56 8 38 (.array .int) := ⟨(RX10, TX10, 41), tyX10, rfl, by decide, rfl, rfl, tb (List.mem_of_getElem? (i := 1417) (by decide +kernel)) (by decide +kernel), inX10, tyX10_ok, nmX10, rfl, rfl, rfl⟩
theorem pff_X10_59 : pOKF RX10 59 8 39 (.array .int) := ⟨(RX10, TX10, 41), tyX10, rfl, by decide, rfl, rfl, tb (List.mem_of_getElem? (i := 1418) (by decide +kernel)) (by decide +kernel), inX10, tyX10_ok, nmX10, rfl, rfl, rfl⟩
theorem pff_X10_62 : pOKF RX10 62 8 40 (.array .int) := ⟨(RX10, TX10, 41), tyX10, rfl, by decide, rfl, rfl, tb (List.mem_of_getElem? (i := 1419) (by decide +kernel)) (by decide +kernel), inX10, tyX10_ok, nmX10, rfl, rfl, rfl⟩
theorem pff_X10_7 : pOKF RX10 7 8 1 (.array .int) := ⟨(RX10, TX10, 41), tyX10, rfl, by decide, rfl, rfl, tb (List.mem_of_getElem? (i := 1380) (by decide +kernel)) (by decide +kernel), inX10, tyX10_ok, nmX10, rfl, rfl, rfl⟩
theorem pff_X2_12 : pOKF RX2 12 1 0 (.object "TableMerge$Table") := ⟨(RX2, TX2, 8), tyX2, rfl, by decide, rfl, rfl, tb (List.mem_of_getElem? (i := 276) (by decide +kernel)) (by decide +kernel), inX2, tyX2_ok, nmX2, rfl, rfl, rfl⟩
theorem pff_X2_18 : pOKF RX2 18 1 1 (.array .int) := ⟨(RX2, TX2, 8), tyX2, rfl, by decide, rfl, rfl, tb (List.mem_of_getElem? (i := 279) (by decide +kernel)) (by decide +kernel), inX2, tyX2_ok, nmX2, rfl, rfl, rfl⟩
theorem pff_X2_22 : pOKF RX2 22 1 4 (.array .int) := ⟨(RX2, TX2, 8), tyX2, rfl, by decide, rfl, rfl, tb (List.mem_of_getElem? (i := 286) (by decide +kernel)) (by decide +kernel), inX2, tyX2_ok, nmX2, rfl, rfl, rfl⟩
theorem pff_X2_25 : pOKF RX2 25 1 5 (.array .int) := ⟨(RX2, TX2, 8), tyX2, rfl, by decide, rfl, rfl, tb (List.mem_of_getElem? (i := 289) (by decide +kernel)) (by decide +kernel), inX2, tyX2_ok, nmX2, rfl, rfl, rfl⟩
theorem pff_X2_28 : pOKF RX2 28 1 6 (.array .int) := ⟨(RX2, TX2, 8), tyX2, rfl, by decide, rfl, rfl, tb (List.mem_of_getElem? (i := 291) (by decide +kernel)) (by decide +kernel), inX2, tyX2_ok, nmX2, rfl, rfl, rfl⟩
theorem pff_X2_31 : pOKF RX2 31 1 7 (.array .int) := ⟨(RX2, TX2, 8), tyX2, rfl, by decide, rfl, rfl, tb (List.mem_of_getElem? (i := 293) (by decide +kernel)) (by decide +kernel), inX2, tyX2_ok, nmX2, rfl, rfl, rfl⟩
theorem pff_X3_12 : pOKF RX3 12 2 0 (.object "TableMerge$State") := ⟨(RX3, TX3, 7), tyX3, rfl, by decide, rfl, rfl, tb (List.mem_of_getElem? (i := 406) (by decide +kernel)) (by decide +kernel), inX3, tyX3_ok, nmX3, rfl, rfl, rfl⟩
theorem pff_X3_21 : pOKF RX3 21 2 1 (.object "TableMerge$Merge") := ⟨(RX3, TX3, 7), tyX3, rfl, by decide, rfl, rfl, tb (List.mem_of_getElem? (i := 407) (by decide +kernel)) (by decide +kernel), inX3, tyX3_ok, nmX3, rfl, rfl, rfl⟩
theorem pff_X3_25 : pOKF RX3 25 2 2 (.array .int) := ⟨(RX3, TX3, 7), tyX3, rfl, by decide, rfl, rfl, tb (List.mem_of_getElem? (i := 408) (by decide +kernel)) (by decide +kernel), inX3, tyX3_ok, nmX3, rfl, rfl, rfl⟩
theorem pff_X3_29 : pOKF RX3 29 2 3 (.array .int) := ⟨(RX3, TX3, 7), tyX3, rfl, by decide, rfl, rfl, tb (List.mem_of_getElem? (i := 409) (by decide +kernel)) (by decide +kernel), inX3, tyX3_ok, nmX3, rfl, rfl, rfl⟩
theorem pff_X3_32 : pOKF RX3 32 2 4 (.array .int) := ⟨(RX3, TX3, 7), tyX3, rfl, by decide, rfl, rfl, tb (List.mem_of_getElem? (i := 410) (by decide +kernel)) (by decide +kernel), inX3, tyX3_ok, nmX3, rfl, rfl, rfl⟩
theorem pff_X4_15 : pOKF RX4 15 3 2 (.array .int) := ⟨(RX4, TX4, 4), tyX4, rfl, by decide, rfl, rfl, tb (List.mem_of_getElem? (i := 385) (by decide +kernel)) (by decide +kernel), inX4, tyX4_ok, nmX4, rfl, rfl, rfl⟩
theorem pff_X4_18 : pOKF RX4 18 3 3 (.array .int) := ⟨(RX4, TX4, 4), tyX4, rfl, by decide, rfl, rfl, tb (List.mem_of_getElem? (i := 386) (by decide +kernel)) (by decide +kernel), inX4, tyX4_ok, nmX4, rfl, rfl, rfl⟩
theorem pff_X4_9 : pOKF RX4 9 3 1 (.array .int) := ⟨(RX4, TX4, 4), tyX4, rfl, by decide, rfl, rfl, tb (List.mem_of_getElem? (i := 384) (by decide +kernel)) (by decide +kernel), inX4, tyX4_ok, nmX4, rfl, rfl, rfl⟩
theorem pff_X5_12 : pOKF RX5 12 4 0 (.object "TableMerge$Table") := ⟨(RX5, TX5, 10), tyX5, rfl, by decide, rfl, rfl, tb (List.mem_of_getElem? (i := 219) (by decide +kernel)) (by decide +kernel), inX5, tyX5_ok, nmX5, rfl, rfl, rfl⟩
theorem pff_X5_24 : pOKF RX5 24 4 6 (.array .int) := ⟨(RX5, TX5, 10), tyX5, rfl, by decide, rfl, rfl, tb (List.mem_of_getElem? (i := 237) (by decide +kernel)) (by decide +kernel), inX5, tyX5_ok, nmX5, rfl, rfl, rfl⟩
theorem pff_X5_28 : pOKF RX5 28 4 7 (.array .int) := ⟨(RX5, TX5, 10), tyX5, rfl, by decide, rfl, rfl, tb (List.mem_of_getElem? (i := 239) (by decide +kernel)) (by decide +kernel), inX5, tyX5_ok, nmX5, rfl, rfl, rfl⟩
theorem pff_X5_31 : pOKF RX5 31 4 8 (.array .int) := ⟨(RX5, TX5, 10), tyX5, rfl, by decide, rfl, rfl, tb (List.mem_of_getElem? (i := 241) (by decide +kernel)) (by decide +kernel), inX5, tyX5_ok, nmX5, rfl, rfl, rfl⟩
theorem pff_X5_34 : pOKF RX5 34 4 9 (.array .int) := ⟨(RX5, TX5, 10), tyX5, rfl, by decide, rfl, rfl, tb (List.mem_of_getElem? (i := 243) (by decide +kernel)) (by decide +kernel), inX5, tyX5_ok, nmX5, rfl, rfl, rfl⟩
theorem pff_X6_15 : pOKF RX6 15 5 3 (.array .int) := ⟨(RX6, TX6, 5), tyX6, rfl, by decide, rfl, rfl, tb (List.mem_of_getElem? (i := 199) (by decide +kernel)) (by decide +kernel), inX6, tyX6_ok, nmX6, rfl, rfl, rfl⟩
theorem pff_X6_18 : pOKF RX6 18 5 4 (.array .int) := ⟨(RX6, TX6, 5), tyX6, rfl, by decide, rfl, rfl, tb (List.mem_of_getElem? (i := 205) (by decide +kernel)) (by decide +kernel), inX6, tyX6_ok, nmX6, rfl, rfl, rfl⟩
theorem pff_X6_9 : pOKF RX6 9 5 2 (.array .int) := ⟨(RX6, TX6, 5), tyX6, rfl, by decide, rfl, rfl, tb (List.mem_of_getElem? (i := 195) (by decide +kernel)) (by decide +kernel), inX6, tyX6_ok, nmX6, rfl, rfl, rfl⟩
theorem pff_X7_18 : pOKF RX7 18 6 2 (.object "TableMerge$State") := ⟨(RX7, TX7, 11), tyX7, rfl, by decide, rfl, rfl, tb (List.mem_of_getElem? (i := 322) (by decide +kernel)) (by decide +kernel), inX7, tyX7_ok, nmX7, rfl, rfl, rfl⟩
theorem pff_X7_9 : pOKF RX7 9 6 0 (.array .byte) := ⟨(RX7, TX7, 11), tyX7, rfl, by decide, rfl, rfl, tb (List.mem_of_getElem? (i := 319) (by decide +kernel)) (by decide +kernel), inX7, tyX7_ok, nmX7, rfl, rfl, rfl⟩
theorem pff_X9_12 : pOKF RX9 12 7 0 (.object "TableMerge$State") := ⟨(RX9, TX9, 13), tyX9, rfl, by decide, rfl, rfl, tb (List.mem_of_getElem? (i := 428) (by decide +kernel)) (by decide +kernel), inX9, tyX9_ok, nmX9, rfl, rfl, rfl⟩
theorem pff_X9_19 : pOKF RX9 19 7 1 (.object "TableMerge$Merge") := ⟨(RX9, TX9, 13), tyX9, rfl, by decide, rfl, rfl, tb (List.mem_of_getElem? (i := 429) (by decide +kernel)) (by decide +kernel), inX9, tyX9_ok, nmX9, rfl, rfl, rfl⟩
theorem pff_X9_26 : pOKF RX9 26 7 2 (.object "TableMerge$Tape") := ⟨(RX9, TX9, 13), tyX9, rfl, by decide, rfl, rfl, tb (List.mem_of_getElem? (i := 430) (by decide +kernel)) (by decide +kernel), inX9, tyX9_ok, nmX9, rfl, rfl, rfl⟩
theorem pff_X9_33 : pOKF RX9 33 7 3 (.object "TableMerge$Acts") := ⟨(RX9, TX9, 13), tyX9, rfl, by decide, rfl, rfl, tb (List.mem_of_getElem? (i := 431) (by decide +kernel)) (by decide +kernel), inX9, tyX9_ok, nmX9, rfl, rfl, rfl⟩
theorem pff_X9_40 : pOKF RX9 40 7 4 (.object "TableMerge$Seen") := ⟨(RX9, TX9, 13), tyX9, rfl, by decide, rfl, rfl, tb (List.mem_of_getElem? (i := 432) (by decide +kernel)) (by decide +kernel), inX9, tyX9_ok, nmX9, rfl, rfl, rfl⟩
theorem pff_X9_47 : pOKF RX9 47 7 5 (.object "TableMerge$Questions") := ⟨(RX9, TX9, 13), tyX9, rfl, by decide, rfl, rfl, tb (List.mem_of_getElem? (i := 433) (by decide +kernel)) (by decide +kernel), inX9, tyX9_ok, nmX9, rfl, rfl, rfl⟩
theorem pff_X9_51 : pOKF RX9 51 7 6 (.object "TableMerge$State") := ⟨(RX9, TX9, 13), tyX9, rfl, by decide, rfl, rfl, tb (List.mem_of_getElem? (i := 434) (by decide +kernel)) (by decide +kernel), inX9, tyX9_ok, nmX9, rfl, rfl, rfl⟩
theorem pff_X9_54 : pOKF RX9 54 7 7 (.object "TableMerge$Acts") := ⟨(RX9, TX9, 13), tyX9, rfl, by decide, rfl, rfl, tb (List.mem_of_getElem? (i := 435) (by decide +kernel)) (by decide +kernel), inX9, tyX9_ok, nmX9, rfl, rfl, rfl⟩
theorem pff_X9_57 : pOKF RX9 57 7 8 (.object "TableMerge$Seen") := ⟨(RX9, TX9, 13), tyX9, rfl, by decide, rfl, rfl, tb (List.mem_of_getElem? (i := 436) (by decide +kernel)) (by decide +kernel), inX9, tyX9_ok, nmX9, rfl, rfl, rfl⟩
theorem pff_X9_64 : pOKF RX9 64 7 12 (.array .int) := ⟨(RX9, TX9, 13), tyX9, rfl, by decide, rfl, rfl, tb (List.mem_of_getElem? (i := 440) (by decide +kernel)) (by decide +kernel), inX9, tyX9_ok, nmX9, rfl, rfl, rfl⟩
theorem sk_X0_32 : sOK RX0 32 yJ9_floorMod_7cf53 := ⟨tb (List.mem_of_getElem? (i := 673) (by decide +kernel)) (by decide +kernel), tb (List.mem_of_getElem? (i := 674) (by decide +kernel)) (by decide +kernel)⟩
theorem sk_X9_120 : sOK RX9 120 yJ6_bitCount_0f7a4 := ⟨tb (List.mem_of_getElem? (i := 740) (by decide +kernel)) (by decide +kernel), tb (List.mem_of_getElem? (i := 741) (by decide +kernel)) (by decide +kernel)⟩
theorem sk_X9_195 : sOK RX9 195 yX1_kindOf := ⟨tb (List.mem_of_getElem? (i := 1174) (by decide +kernel)) (by decide +kernel), tb (List.mem_of_getElem? (i := 659) (by decide +kernel)) (by decide +kernel)⟩
theorem sk_X9_200 : sOK RX9 200 yX1_firstOf := ⟨tb (List.mem_of_getElem? (i := 1175) (by decide +kernel)) (by decide +kernel), tb (List.mem_of_getElem? (i := 1176) (by decide +kernel)) (by decide +kernel)⟩
theorem sk_X9_203 : sOK RX9 203 yX1_secondOf := ⟨tb (List.mem_of_getElem? (i := 1178) (by decide +kernel)) (by decide +kernel), tb (List.mem_of_getElem? (i := 1179) (by decide +kernel)) (by decide +kernel)⟩
theorem sk_X9_212 : sOK RX9 212 yX1_choicesOf := ⟨tb (List.mem_of_getElem? (i := 652) (by decide +kernel)) (by decide +kernel), tb (List.mem_of_getElem? (i := 653) (by decide +kernel)) (by decide +kernel)⟩
theorem sk_X9_221 : sOK RX9 221 yX1_idOf := ⟨tb (List.mem_of_getElem? (i := 489) (by decide +kernel)) (by decide +kernel), tb (List.mem_of_getElem? (i := 490) (by decide +kernel)) (by decide +kernel)⟩
theorem sk_X9_251 : sOK RX9 251 yX9_demandSide := ⟨tb (List.mem_of_getElem? (i := 1193) (by decide +kernel)) (by decide +kernel), tb (List.mem_of_getElem? (i := 1194) (by decide +kernel)) (by decide +kernel)⟩
theorem sk_X9_269 : sOK RX9 269 yX9_demandThreefold := ⟨tb (List.mem_of_getElem? (i := 1268) (by decide +kernel)) (by decide +kernel), tb (List.mem_of_getElem? (i := 1269) (by decide +kernel)) (by decide +kernel)⟩
theorem vk_X0_21 : vOK RX0 21 yX0_slot := ⟨tb (List.mem_of_getElem? (i := 669) (by decide +kernel)) (by decide +kernel), tb (List.mem_of_getElem? (i := 671) (by decide +kernel)) (by decide +kernel), tb (List.mem_of_getElem? (i := 18) (by decide +kernel)) (by decide +kernel)⟩
theorem vk_X0_25 : vOK RX0 25 yX5_copyFrom := ⟨tb (List.mem_of_getElem? (i := 677) (by decide +kernel)) (by decide +kernel), tb (List.mem_of_getElem? (i := 678) (by decide +kernel)) (by decide +kernel), tb (List.mem_of_getElem? (i := 679) (by decide +kernel)) (by decide +kernel)⟩
theorem vk_X5_160 : vOK RX5 160 yX6_renumberAdded := ⟨tb (List.mem_of_getElem? (i := 718) (by decide +kernel)) (by decide +kernel), tb (List.mem_of_getElem? (i := 719) (by decide +kernel)) (by decide +kernel), tb (List.mem_of_getElem? (i := 720) (by decide +kernel)) (by decide +kernel)⟩
theorem vk_X5_163 : vOK RX5 163 yX5_changeChoicesAbout := ⟨tb (List.mem_of_getElem? (i := 725) (by decide +kernel)) (by decide +kernel), tb (List.mem_of_getElem? (i := 727) (by decide +kernel)) (by decide +kernel), tb (List.mem_of_getElem? (i := 21) (by decide +kernel)) (by decide +kernel)⟩
theorem vk_X9_100 : vOK RX9 100 yX0_clear := ⟨tb (List.mem_of_getElem? (i := 1090) (by decide +kernel)) (by decide +kernel), tb (List.mem_of_getElem? (i := 1091) (by decide +kernel)) (by decide +kernel), tb (List.mem_of_getElem? (i := 1092) (by decide +kernel)) (by decide +kernel)⟩
theorem vk_X9_131 : vOK RX9 131 yX9_freshMerge := ⟨tb (List.mem_of_getElem? (i := 495) (by decide +kernel)) (by decide +kernel), tb (List.mem_of_getElem? (i := 497) (by decide +kernel)) (by decide +kernel), tb (List.mem_of_getElem? (i := 0) (by decide +kernel)) (by decide +kernel)⟩
theorem vk_X9_141 : vOK RX9 141 yX5_countChoices := ⟨tb (List.mem_of_getElem? (i := 1102) (by decide +kernel)) (by decide +kernel), tb (List.mem_of_getElem? (i := 1103) (by decide +kernel)) (by decide +kernel), tb (List.mem_of_getElem? (i := 1104) (by decide +kernel)) (by decide +kernel)⟩
theorem vk_X9_148 : vOK RX9 148 yX6_countFull := ⟨tb (List.mem_of_getElem? (i := 1106) (by decide +kernel)) (by decide +kernel), tb (List.mem_of_getElem? (i := 1107) (by decide +kernel)) (by decide +kernel), tb (List.mem_of_getElem? (i := 1108) (by decide +kernel)) (by decide +kernel)⟩
theorem vk_X9_158 : vOK RX9 158 yX9_tableOf := ⟨tb (List.mem_of_getElem? (i := 1133) (by decide +kernel)) (by decide +kernel), tb (List.mem_of_getElem? (i := 1135) (by decide +kernel)) (by decide +kernel), tb (List.mem_of_getElem? (i := 50) (by decide +kernel)) (by decide +kernel)⟩
theorem vk_X9_164 : vOK RX9 164 yX6_hasColumn := ⟨tb (List.mem_of_getElem? (i := 1146) (by decide +kernel)) (by decide +kernel), tb (List.mem_of_getElem? (i := 508) (by decide +kernel)) (by decide +kernel), tb (List.mem_of_getElem? (i := 509) (by decide +kernel)) (by decide +kernel)⟩
theorem vk_X9_175 : vOK RX9 175 yX6_hasCell := ⟨tb (List.mem_of_getElem? (i := 1155) (by decide +kernel)) (by decide +kernel), tb (List.mem_of_getElem? (i := 552) (by decide +kernel)) (by decide +kernel), tb (List.mem_of_getElem? (i := 553) (by decide +kernel)) (by decide +kernel)⟩
theorem vk_X9_181 : vOK RX9 181 yX6_numberAt := ⟨tb (List.mem_of_getElem? (i := 1157) (by decide +kernel)) (by decide +kernel), tb (List.mem_of_getElem? (i := 556) (by decide +kernel)) (by decide +kernel), tb (List.mem_of_getElem? (i := 557) (by decide +kernel)) (by decide +kernel)⟩
theorem vk_X9_217 : vOK RX9 217 yX9_editByHand := ⟨tb (List.mem_of_getElem? (i := 1189) (by decide +kernel)) (by decide +kernel), tb (List.mem_of_getElem? (i := 1191) (by decide +kernel)) (by decide +kernel), tb (List.mem_of_getElem? (i := 51) (by decide +kernel)) (by decide +kernel)⟩
theorem vk_X9_225 : vOK RX9 225 yX2_isOpen := ⟨tb (List.mem_of_getElem? (i := 648) (by decide +kernel)) (by decide +kernel), tb (List.mem_of_getElem? (i := 649) (by decide +kernel)) (by decide +kernel), tb (List.mem_of_getElem? (i := 650) (by decide +kernel)) (by decide +kernel)⟩
theorem vk_X9_228 : vOK RX9 228 yX9_refuseAct := ⟨tb (List.mem_of_getElem? (i := 661) (by decide +kernel)) (by decide +kernel), tb (List.mem_of_getElem? (i := 663) (by decide +kernel)) (by decide +kernel), tb (List.mem_of_getElem? (i := 17) (by decide +kernel)) (by decide +kernel)⟩
theorem vk_X9_231 : vOK RX9 231 yX0_prepare := ⟨tb (List.mem_of_getElem? (i := 665) (by decide +kernel)) (by decide +kernel), tb (List.mem_of_getElem? (i := 666) (by decide +kernel)) (by decide +kernel), tb (List.mem_of_getElem? (i := 667) (by decide +kernel)) (by decide +kernel)⟩
theorem vk_X9_237 : vOK RX9 237 yX9_keepAct := ⟨tb (List.mem_of_getElem? (i := 689) (by decide +kernel)) (by decide +kernel), tb (List.mem_of_getElem? (i := 691) (by decide +kernel)) (by decide +kernel), tb (List.mem_of_getElem? (i := 19) (by decide +kernel)) (by decide +kernel)⟩
theorem vk_X9_240 : vOK RX9 240 yX5_changeSidesAbout := ⟨tb (List.mem_of_getElem? (i := 714) (by decide +kernel)) (by decide +kernel), tb (List.mem_of_getElem? (i := 715) (by decide +kernel)) (by decide +kernel), tb (List.mem_of_getElem? (i := 716) (by decide +kernel)) (by decide +kernel)⟩
theorem vk_X9_243 : vOK RX9 243 yX5_becomeMerged := ⟨tb (List.mem_of_getElem? (i := 746) (by decide +kernel)) (by decide +kernel), tb (List.mem_of_getElem? (i := 747) (by decide +kernel)) (by decide +kernel), tb (List.mem_of_getElem? (i := 748) (by decide +kernel)) (by decide +kernel)⟩
theorem vk_X9_247 : vOK RX9 247 yX0_takeBack := ⟨tb (List.mem_of_getElem? (i := 774) (by decide +kernel)) (by decide +kernel), tb (List.mem_of_getElem? (i := 775) (by decide +kernel)) (by decide +kernel), tb (List.mem_of_getElem? (i := 776) (by decide +kernel)) (by decide +kernel)⟩
theorem vk_X9_254 : vOK RX9 254 yX5_sideOf := ⟨tb (List.mem_of_getElem? (i := 1247) (by decide +kernel)) (by decide +kernel), tb (List.mem_of_getElem? (i := 539) (by decide +kernel)) (by decide +kernel), tb (List.mem_of_getElem? (i := 540) (by decide +kernel)) (by decide +kernel)⟩
theorem vk_X9_257 : vOK RX9 257 yX5_countChanged := ⟨tb (List.mem_of_getElem? (i := 1248) (by decide +kernel)) (by decide +kernel), tb (List.mem_of_getElem? (i := 1249) (by decide +kernel)) (by decide +kernel), tb (List.mem_of_getElem? (i := 1250) (by decide +kernel)) (by decide +kernel)⟩
theorem vk_X9_260 : vOK RX9 260 yX6_countOtherNames := ⟨tb (List.mem_of_getElem? (i := 1252) (by decide +kernel)) (by decide +kernel), tb (List.mem_of_getElem? (i := 1253) (by decide +kernel)) (by decide +kernel), tb (List.mem_of_getElem? (i := 1254) (by decide +kernel)) (by decide +kernel)⟩
theorem vk_X9_264 : vOK RX9 264 yX6_countOtherTypes := ⟨tb (List.mem_of_getElem? (i := 1256) (by decide +kernel)) (by decide +kernel), tb (List.mem_of_getElem? (i := 1257) (by decide +kernel)) (by decide +kernel), tb (List.mem_of_getElem? (i := 1258) (by decide +kernel)) (by decide +kernel)⟩
theorem vk_X9_274 : vOK RX9 274 yX3_knows := ⟨tb (List.mem_of_getElem? (i := 1273) (by decide +kernel)) (by decide +kernel), tb (List.mem_of_getElem? (i := 1274) (by decide +kernel)) (by decide +kernel), tb (List.mem_of_getElem? (i := 1275) (by decide +kernel)) (by decide +kernel)⟩
theorem vk_X9_277 : vOK RX9 277 yX3_findAlong := ⟨tb (List.mem_of_getElem? (i := 1277) (by decide +kernel)) (by decide +kernel), tb (List.mem_of_getElem? (i := 1278) (by decide +kernel)) (by decide +kernel), tb (List.mem_of_getElem? (i := 1279) (by decide +kernel)) (by decide +kernel)⟩
theorem vk_X9_281 : vOK RX9 281 yX3_answerTo := ⟨tb (List.mem_of_getElem? (i := 1290) (by decide +kernel)) (by decide +kernel), tb (List.mem_of_getElem? (i := 1291) (by decide +kernel)) (by decide +kernel), tb (List.mem_of_getElem? (i := 1292) (by decide +kernel)) (by decide +kernel)⟩
theorem vk_X9_284 : vOK RX9 284 yX3_pickChanged := ⟨tb (List.mem_of_getElem? (i := 1301) (by decide +kernel)) (by decide +kernel), tb (List.mem_of_getElem? (i := 1302) (by decide +kernel)) (by decide +kernel), tb (List.mem_of_getElem? (i := 1303) (by decide +kernel)) (by decide +kernel)⟩
theorem vk_X9_288 : vOK RX9 288 yX3_findAlone := ⟨tb (List.mem_of_getElem? (i := 1311) (by decide +kernel)) (by decide +kernel), tb (List.mem_of_getElem? (i := 1312) (by decide +kernel)) (by decide +kernel), tb (List.mem_of_getElem? (i := 1313) (by decide +kernel)) (by decide +kernel)⟩
theorem vk_X9_296 : vOK RX9 296 yX3_findEdited := ⟨tb (List.mem_of_getElem? (i := 1333) (by decide +kernel)) (by decide +kernel), tb (List.mem_of_getElem? (i := 1334) (by decide +kernel)) (by decide +kernel), tb (List.mem_of_getElem? (i := 1335) (by decide +kernel)) (by decide +kernel)⟩
theorem vk_X9_302 : vOK RX9 302 yX3_findYears := ⟨tb (List.mem_of_getElem? (i := 1357) (by decide +kernel)) (by decide +kernel), tb (List.mem_of_getElem? (i := 1358) (by decide +kernel)) (by decide +kernel), tb (List.mem_of_getElem? (i := 1359) (by decide +kernel)) (by decide +kernel)⟩
theorem vk_X9_306 : vOK RX9 306 yX0_copyFrom := ⟨tb (List.mem_of_getElem? (i := 802) (by decide +kernel)) (by decide +kernel), tb (List.mem_of_getElem? (i := 803) (by decide +kernel)) (by decide +kernel), tb (List.mem_of_getElem? (i := 804) (by decide +kernel)) (by decide +kernel)⟩
theorem vk_X9_309 : vOK RX9 309 yX4_copyFrom := ⟨tb (List.mem_of_getElem? (i := 806) (by decide +kernel)) (by decide +kernel), tb (List.mem_of_getElem? (i := 807) (by decide +kernel)) (by decide +kernel), tb (List.mem_of_getElem? (i := 808) (by decide +kernel)) (by decide +kernel)⟩
theorem vk_X9_330 : vOK RX9 330 yX5_doEdit := ⟨tb (List.mem_of_getElem? (i := 1197) (by decide +kernel)) (by decide +kernel), tb (List.mem_of_getElem? (i := 1052) (by decide +kernel)) (by decide +kernel), tb (List.mem_of_getElem? (i := 1053) (by decide +kernel)) (by decide +kernel)⟩
theorem vk_X9_86 : vOK RX9 86 yX7_readTables := ⟨tb (List.mem_of_getElem? (i := 889) (by decide +kernel)) (by decide +kernel), tb (List.mem_of_getElem? (i := 890) (by decide +kernel)) (by decide +kernel), tb (List.mem_of_getElem? (i := 891) (by decide +kernel)) (by decide +kernel)⟩
theorem vk_X9_96 : vOK RX9 96 yX5_copyFrom := ⟨tb (List.mem_of_getElem? (i := 801) (by decide +kernel)) (by decide +kernel), tb (List.mem_of_getElem? (i := 678) (by decide +kernel)) (by decide +kernel), tb (List.mem_of_getElem? (i := 679) (by decide +kernel)) (by decide +kernel)⟩
