theorem inX0 : ∀ w ∈ wsX00, w ∈ TB := fun w h => tb ((show ∀ w ∈ wsX00, w ∈ lw_tbl by decide +kernel) w h) ((show ∀ w ∈ wsX00, goodWord w = true by decide +kernel) w h)
theorem inX2 : ∀ w ∈ wsX20, w ∈ TB := fun w h => tb ((show ∀ w ∈ wsX20, w ∈ lw_tbl by decide +kernel) w h) ((show ∀ w ∈ wsX20, goodWord w = true by decide +kernel) w h)
theorem inX3 : ∀ w ∈ wsX30, w ∈ TB := fun w h => tb ((show ∀ w ∈ wsX30, w ∈ lw_tbl by decide +kernel) w h) ((show ∀ w ∈ wsX30, goodWord w = true by decide +kernel) w h)
theorem inX4 : ∀ w ∈ wsX40, w ∈ TB := fun w h => tb ((show ∀ w ∈ wsX40, w ∈ lw_tbl by decide +kernel) w h) ((show ∀ w ∈ wsX40, goodWord w = true by decide +kernel) w h)
theorem inX5 : ∀ w ∈ wsX50, w ∈ TB := fun w h => tb ((show ∀ w ∈ wsX50, w ∈ lw_tbl by decide +kernel) w h) ((show ∀ w ∈ wsX50, goodWord w = true by decide +kernel) w h)
theorem inX6 : ∀ w ∈ wsX60, w ∈ TB := fun w h => tb ((show ∀ w ∈ wsX60, w ∈ lw_tbl by decide +kernel) w h) ((show ∀ w ∈ wsX60, goodWord w = true by decide +kernel) w h)
theorem inX7 : ∀ w ∈ wsX70, w ∈ TB := fun w h => tb ((show ∀ w ∈ wsX70, w ∈ lw_tbl by decide +kernel) w h) ((show ∀ w ∈ wsX70, goodWord w = true by decide +kernel) w h)
theorem inX9 : ∀ w ∈ wsX90, w ∈ TB := fun w h => tb ((show ∀ w ∈ wsX90, w ∈ lw_tbl by decide +kernel) w h) ((show ∀ w ∈ wsX90, goodWord w = true by decide +kernel) w h)
theorem inX10 : ∀ w ∈ wsX100, w ∈ TB := fun w h => tb ((show ∀ w ∈ wsX100, w ∈ lw_tbl by decide +kernel) w h) ((show ∀ w ∈ wsX100, goodWord w = true by decide +kernel) w h)
theorem ck_J6_265 : Cond.constant RJ6 265 1431655765 ∈ TB := tb (List.mem_of_getElem? (i := 743) (by decide +kernel)) (by decide +kernel)
theorem ck_J6_266 : Cond.constant RJ6 266 858993459 ∈ TB := tb (List.mem_of_getElem? (i := 744) (by decide +kernel)) (by decide +kernel)
theorem ck_J6_267 : Cond.constant RJ6 267 252645135 ∈ TB := tb (List.mem_of_getElem? (i := 745) (by decide +kernel)) (by decide +kernel)
theorem ck_X10_111 : Cond.constantLong RX10 111 96 ∈ TB := tb (List.mem_of_getElem? (i := 1555) (by decide +kernel)) (by decide +kernel)
theorem ck_X10_427 : Cond.constant RX10 427 1103515245 ∈ TB := tb (List.mem_of_getElem? (i := 1979) (by decide +kernel)) (by decide +kernel)
theorem ck_X3_163 : Cond.constant RX3 163 1103515245 ∈ TB := tb (List.mem_of_getElem? (i := 1369) (by decide +kernel)) (by decide +kernel)
theorem cpk_X4_31 : Cond.methodLink RX4 31 arraycopyName ∈ TB := tb (List.mem_of_getElem? (i := 810) (by decide +kernel)) (by decide +kernel)
theorem cpk_X5_63 : Cond.methodLink RX5 63 arraycopyName ∈ TB := tb (List.mem_of_getElem? (i := 688) (by decide +kernel)) (by decide +kernel)
theorem cpk_X6_34 : Cond.methodLink RX6 34 arraycopyName ∈ TB := tb (List.mem_of_getElem? (i := 685) (by decide +kernel)) (by decide +kernel)
theorem fl_X0_17 : fOK RX0 17 0 2 0 := ⟨(RX0, TX0, 3), rfl, by decide, rfl, rfl, tb (List.mem_of_getElem? (i := 367) (by decide +kernel)) (by decide +kernel), inX0⟩
theorem fl_X0_29 : fOK RX0 29 0 1 0 := ⟨(RX0, TX0, 3), rfl, by decide, rfl, rfl, tb (List.mem_of_getElem? (i := 366) (by decide +kernel)) (by decide +kernel), inX0⟩
theorem fl_X10_108 : fOK RX10 108 8 10 0 := ⟨(RX10, TX10, 41), rfl, by decide, rfl, rfl, tb (List.mem_of_getElem? (i := 1389) (by decide +kernel)) (by decide +kernel), inX10⟩
theorem fl_X10_121 : fOK RX10 121 8 3 0 := ⟨(RX10, TX10, 41), rfl, by decide, rfl, rfl, tb (List.mem_of_getElem? (i := 1382) (by decide +kernel)) (by decide +kernel), inX10⟩
theorem fl_X10_13 : fOK RX10 13 8 4 0 := ⟨(RX10, TX10, 41), rfl, by decide, rfl, rfl, tb (List.mem_of_getElem? (i := 1383) (by decide +kernel)) (by decide +kernel), inX10⟩
theorem fl_X10_147 : fOK RX10 147 8 14 0 := ⟨(RX10, TX10, 41), rfl, by decide, rfl, rfl, tb (List.mem_of_getElem? (i := 1393) (by decide +kernel)) (by decide +kernel), inX10⟩
theorem fl_X10_17 : fOK RX10 17 8 5 1 := ⟨(RX10, TX10, 41), rfl, by decide, rfl, rfl, tb (List.mem_of_getElem? (i := 1384) (by decide +kernel)) (by decide +kernel), inX10⟩
theorem fl_X10_178 : fOK RX10 178 8 15 0 := ⟨(RX10, TX10, 41), rfl, by decide, rfl, rfl, tb (List.mem_of_getElem? (i := 1394) (by decide +kernel)) (by decide +kernel), inX10⟩
theorem fl_X10_184 : fOK RX10 184 8 16 0 := ⟨(RX10, TX10, 41), rfl, by decide, rfl, rfl, tb (List.mem_of_getElem? (i := 1395) (by decide +kernel)) (by decide +kernel), inX10⟩
theorem fl_X10_20 : fOK RX10 20 8 17 1 := ⟨(RX10, TX10, 41), rfl, by decide, rfl, rfl, tb (List.mem_of_getElem? (i := 1396) (by decide +kernel)) (by decide +kernel), inX10⟩
theorem fl_X10_221 : fOK RX10 221 8 19 0 := ⟨(RX10, TX10, 41), rfl, by decide, rfl, rfl, tb (List.mem_of_getElem? (i := 1398) (by decide +kernel)) (by decide +kernel), inX10⟩
theorem fl_X10_224 : fOK RX10 224 8 32 0 := ⟨(RX10, TX10, 41), rfl, by decide, rfl, rfl, tb (List.mem_of_getElem? (i := 1411) (by decide +kernel)) (by decide +kernel), inX10⟩
theorem fl_X10_227 : fOK RX10 227 8 35 0 := ⟨(RX10, TX10, 41), rfl, by decide, rfl, rfl, tb (List.mem_of_getElem? (i := 1414) (by decide +kernel)) (by decide +kernel), inX10⟩
theorem fl_X10_23 : fOK RX10 23 8 18 1 := ⟨(RX10, TX10, 41), rfl, by decide, rfl, rfl, tb (List.mem_of_getElem? (i := 1397) (by decide +kernel)) (by decide +kernel), inX10⟩
theorem fl_X10_26 : fOK RX10 26 8 23 1 := ⟨(RX10, TX10, 41), rfl, by decide, rfl, rfl, tb (List.mem_of_getElem? (i := 1402) (by decide +kernel)) (by decide +kernel), inX10⟩
theorem fl_X10_282 : fOK RX10 282 8 22 0 := ⟨(RX10, TX10, 41), rfl, by decide, rfl, rfl, tb (List.mem_of_getElem? (i := 1401) (by decide +kernel)) (by decide +kernel), inX10⟩
theorem fl_X10_29 : fOK RX10 29 8 24 1 := ⟨(RX10, TX10, 41), rfl, by decide, rfl, rfl, tb (List.mem_of_getElem? (i := 1403) (by decide +kernel)) (by decide +kernel), inX10⟩
theorem fl_X10_291 : fOK RX10 291 8 20 0 := ⟨(RX10, TX10, 41), rfl, by decide, rfl, rfl, tb (List.mem_of_getElem? (i := 1399) (by decide +kernel)) (by decide +kernel), inX10⟩
theorem fl_X10_32 : fOK RX10 32 8 25 1 := ⟨(RX10, TX10, 41), rfl, by decide, rfl, rfl, tb (List.mem_of_getElem? (i := 1404) (by decide +kernel)) (by decide +kernel), inX10⟩
theorem fl_X10_323 : fOK RX10 323 8 21 0 := ⟨(RX10, TX10, 41), rfl, by decide, rfl, rfl, tb (List.mem_of_getElem? (i := 1400) (by decide +kernel)) (by decide +kernel), inX10⟩
theorem fl_X10_35 : fOK RX10 35 8 26 1 := ⟨(RX10, TX10, 41), rfl, by decide, rfl, rfl, tb (List.mem_of_getElem? (i := 1405) (by decide +kernel)) (by decide +kernel), inX10⟩
theorem fl_X10_38 : fOK RX10 38 8 27 1 := ⟨(RX10, TX10, 41), rfl, by decide, rfl, rfl, tb (List.mem_of_getElem? (i := 1406) (by decide +kernel)) (by decide +kernel), inX10⟩
theorem fl_X10_41 : fOK RX10 41 8 28 1 := ⟨(RX10, TX10, 41), rfl, by decide, rfl, rfl, tb (List.mem_of_getElem? (i := 1407) (by decide +kernel)) (by decide +kernel), inX10⟩
theorem fl_X10_424 : fOK RX10 424 8 34 0 := ⟨(RX10, TX10, 41), rfl, by decide, rfl, rfl, tb (List.mem_of_getElem? (i := 1413) (by decide +kernel)) (by decide +kernel), inX10⟩
theorem fl_X10_434 : fOK RX10 434 8 36 0 := ⟨(RX10, TX10, 41), rfl, by decide, rfl, rfl, tb (List.mem_of_getElem? (i := 1415) (by decide +kernel)) (by decide +kernel), inX10⟩
theorem fl_X10_437 : fOK RX10 437 8 37 0 := ⟨(RX10, TX10, 41), rfl, by decide, rfl, rfl, tb (List.mem_of_getElem? (i := 1416) (by decide +kernel)) (by decide +kernel), inX10⟩
theorem fl_X10_44 : fOK RX10 44 8 29 1 := ⟨(RX10, TX10, 41), rfl, by decide, rfl, rfl, tb (List.mem_of_getElem? (i := 1408) (by decide +kernel)) (by decide +kernel), inX10⟩
theorem fl_X10_47 : fOK RX10 47 8 30 1 := ⟨(RX10, TX10, 41), rfl, by decide, rfl, rfl, tb (List.mem_of_getElem? (i := 1409) (by decide +kernel)) (by decide +kernel), inX10⟩
theorem fl_X10_50 : fOK RX10 50 8 31 1 := ⟨(RX10, TX10, 41), rfl, by decide, rfl, rfl, tb (List.mem_of_getElem? (i := 1410) (by decide +kernel)) (by decide +kernel), inX10⟩
theorem fl_X10_53 : fOK RX10 53 8 33 1 := ⟨(RX10, TX10, 41), rfl, by decide, rfl, rfl, tb (List.mem_of_getElem? (i := 1412) (by decide +kernel)) (by decide +kernel), inX10⟩
theorem fl_X10_56 : fOK RX10 56 8 38 1 := ⟨(RX10, TX10, 41), rfl, by decide, rfl, rfl, tb (List.mem_of_getElem? (i := 1417) (by decide +kernel)) (by decide +kernel), inX10⟩
theorem fl_X10_59 : fOK RX10 59 8 39 1 := ⟨(RX10, TX10, 41), rfl, by decide, rfl, rfl, tb (List.mem_of_getElem? (i := 1418) (by decide +kernel)) (by decide +kernel), inX10⟩
theorem fl_X10_62 : fOK RX10 62 8 40 1 := ⟨(RX10, TX10, 41), rfl, by decide, rfl, rfl, tb (List.mem_of_getElem? (i := 1419) (by decide +kernel)) (by decide +kernel), inX10⟩
theorem fl_X10_65 : fOK RX10 65 8 0 0 := ⟨(RX10, TX10, 41), rfl, by decide, rfl, rfl, tb (List.mem_of_getElem? (i := 1379) (by decide +kernel)) (by decide +kernel), inX10⟩
theorem fl_X10_68 : fOK RX10 68 8 2 0 := ⟨(RX10, TX10, 41), rfl, by decide, rfl, rfl, tb (List.mem_of_getElem? (i := 1381) (by decide +kernel)) (by decide +kernel), inX10⟩
theorem fl_X10_7 : fOK RX10 7 8 1 1 := ⟨(RX10, TX10, 41), rfl, by decide, rfl, rfl, tb (List.mem_of_getElem? (i := 1380) (by decide +kernel)) (by decide +kernel), inX10⟩
theorem fl_X10_75 : fOK RX10 75 8 6 0 := ⟨(RX10, TX10, 41), rfl, by decide, rfl, rfl, tb (List.mem_of_getElem? (i := 1385) (by decide +kernel)) (by decide +kernel), inX10⟩
theorem fl_X10_78 : fOK RX10 78 8 7 0 := ⟨(RX10, TX10, 41), rfl, by decide, rfl, rfl, tb (List.mem_of_getElem? (i := 1386) (by decide +kernel)) (by decide +kernel), inX10⟩
theorem fl_X10_85 : fOK RX10 85 8 9 0 := ⟨(RX10, TX10, 41), rfl, by decide, rfl, rfl, tb (List.mem_of_getElem? (i := 1388) (by decide +kernel)) (by decide +kernel), inX10⟩
theorem fl_X10_88 : fOK RX10 88 8 13 2 := ⟨(RX10, TX10, 41), rfl, by decide, rfl, rfl, tb (List.mem_of_getElem? (i := 1392) (by decide +kernel)) (by decide +kernel), inX10⟩
theorem fl_X10_92 : fOK RX10 92 8 11 0 := ⟨(RX10, TX10, 41), rfl, by decide, rfl, rfl, tb (List.mem_of_getElem? (i := 1390) (by decide +kernel)) (by decide +kernel), inX10⟩
theorem fl_X10_95 : fOK RX10 95 8 12 0 := ⟨(RX10, TX10, 41), rfl, by decide, rfl, rfl, tb (List.mem_of_getElem? (i := 1391) (by decide +kernel)) (by decide +kernel), inX10⟩
theorem fl_X10_98 : fOK RX10 98 8 8 0 := ⟨(RX10, TX10, 41), rfl, by decide, rfl, rfl, tb (List.mem_of_getElem? (i := 1387) (by decide +kernel)) (by decide +kernel), inX10⟩
theorem fl_X2_103 : fOK RX2 103 5 2 1 := ⟨(RX6, TX6, 5), rfl, by decide, rfl, rfl, tb (List.mem_of_getElem? (i := 196) (by decide +kernel)) (by decide +kernel), inX6⟩
theorem fl_X2_106 : fOK RX2 106 5 3 1 := ⟨(RX6, TX6, 5), rfl, by decide, rfl, rfl, tb (List.mem_of_getElem? (i := 200) (by decide +kernel)) (by decide +kernel), inX6⟩
theorem fl_X2_12 : fOK RX2 12 1 0 1 := ⟨(RX2, TX2, 8), rfl, by decide, rfl, rfl, tb (List.mem_of_getElem? (i := 276) (by decide +kernel)) (by decide +kernel), inX2⟩
theorem fl_X2_18 : fOK RX2 18 1 1 1 := ⟨(RX2, TX2, 8), rfl, by decide, rfl, rfl, tb (List.mem_of_getElem? (i := 279) (by decide +kernel)) (by decide +kernel), inX2⟩
theorem fl_X2_185 : fOK RX2 185 4 6 1 := ⟨(RX5, TX5, 10), rfl, by decide, rfl, rfl, tb (List.mem_of_getElem? (i := 238) (by decide +kernel)) (by decide +kernel), inX5⟩
theorem fl_X2_188 : fOK RX2 188 4 7 1 := ⟨(RX5, TX5, 10), rfl, by decide, rfl, rfl, tb (List.mem_of_getElem? (i := 240) (by decide +kernel)) (by decide +kernel), inX5⟩
theorem fl_X2_191 : fOK RX2 191 4 8 1 := ⟨(RX5, TX5, 10), rfl, by decide, rfl, rfl, tb (List.mem_of_getElem? (i := 242) (by decide +kernel)) (by decide +kernel), inX5⟩
theorem fl_X2_22 : fOK RX2 22 1 4 1 := ⟨(RX2, TX2, 8), rfl, by decide, rfl, rfl, tb (List.mem_of_getElem? (i := 286) (by decide +kernel)) (by decide +kernel), inX2⟩
theorem fl_X2_25 : fOK RX2 25 1 5 1 := ⟨(RX2, TX2, 8), rfl, by decide, rfl, rfl, tb (List.mem_of_getElem? (i := 289) (by decide +kernel)) (by decide +kernel), inX2⟩
theorem fl_X2_28 : fOK RX2 28 1 6 1 := ⟨(RX2, TX2, 8), rfl, by decide, rfl, rfl, tb (List.mem_of_getElem? (i := 291) (by decide +kernel)) (by decide +kernel), inX2⟩
theorem fl_X2_31 : fOK RX2 31 1 7 1 := ⟨(RX2, TX2, 8), rfl, by decide, rfl, rfl, tb (List.mem_of_getElem? (i := 293) (by decide +kernel)) (by decide +kernel), inX2⟩
theorem fl_X2_37 : fOK RX2 37 1 2 0 := ⟨(RX2, TX2, 8), rfl, by decide, rfl, rfl, tb (List.mem_of_getElem? (i := 281) (by decide +kernel)) (by decide +kernel), inX2⟩
theorem fl_X2_41 : fOK RX2 41 1 3 0 := ⟨(RX2, TX2, 8), rfl, by decide, rfl, rfl, tb (List.mem_of_getElem? (i := 284) (by decide +kernel)) (by decide +kernel), inX2⟩
theorem fl_X2_44 : fOK RX2 44 4 0 1 := ⟨(RX5, TX5, 10), rfl, by decide, rfl, rfl, tb (List.mem_of_getElem? (i := 220) (by decide +kernel)) (by decide +kernel), inX5⟩
theorem fl_X2_73 : fOK RX2 73 4 5 0 := ⟨(RX5, TX5, 10), rfl, by decide, rfl, rfl, tb (List.mem_of_getElem? (i := 234) (by decide +kernel)) (by decide +kernel), inX5⟩
theorem fl_X2_79 : fOK RX2 79 4 9 1 := ⟨(RX5, TX5, 10), rfl, by decide, rfl, rfl, tb (List.mem_of_getElem? (i := 244) (by decide +kernel)) (by decide +kernel), inX5⟩
theorem fl_X2_82 : fOK RX2 82 4 1 1 := ⟨(RX5, TX5, 10), rfl, by decide, rfl, rfl, tb (List.mem_of_getElem? (i := 225) (by decide +kernel)) (by decide +kernel), inX5⟩
theorem fl_X2_85 : fOK RX2 85 4 2 1 := ⟨(RX5, TX5, 10), rfl, by decide, rfl, rfl, tb (List.mem_of_getElem? (i := 228) (by decide +kernel)) (by decide +kernel), inX5⟩
theorem fl_X3_12 : fOK RX3 12 2 0 1 := ⟨(RX3, TX3, 7), rfl, by decide, rfl, rfl, tb (List.mem_of_getElem? (i := 406) (by decide +kernel)) (by decide +kernel), inX3⟩
theorem fl_X3_128 : fOK RX3 128 4 0 1 := ⟨(RX5, TX5, 10), rfl, by decide, rfl, rfl, tb (List.mem_of_getElem? (i := 223) (by decide +kernel)) (by decide +kernel), inX5⟩
theorem fl_X3_134 : fOK RX3 134 4 2 1 := ⟨(RX5, TX5, 10), rfl, by decide, rfl, rfl, tb (List.mem_of_getElem? (i := 229) (by decide +kernel)) (by decide +kernel), inX5⟩
theorem fl_X3_141 : fOK RX3 141 5 3 1 := ⟨(RX6, TX6, 5), rfl, by decide, rfl, rfl, tb (List.mem_of_getElem? (i := 204) (by decide +kernel)) (by decide +kernel), inX6⟩
theorem fl_X3_149 : fOK RX3 149 2 6 0 := ⟨(RX3, TX3, 7), rfl, by decide, rfl, rfl, tb (List.mem_of_getElem? (i := 412) (by decide +kernel)) (by decide +kernel), inX3⟩
theorem fl_X3_21 : fOK RX3 21 2 1 1 := ⟨(RX3, TX3, 7), rfl, by decide, rfl, rfl, tb (List.mem_of_getElem? (i := 407) (by decide +kernel)) (by decide +kernel), inX3⟩
theorem fl_X3_25 : fOK RX3 25 2 2 1 := ⟨(RX3, TX3, 7), rfl, by decide, rfl, rfl, tb (List.mem_of_getElem? (i := 408) (by decide +kernel)) (by decide +kernel), inX3⟩
theorem fl_X3_29 : fOK RX3 29 2 3 1 := ⟨(RX3, TX3, 7), rfl, by decide, rfl, rfl, tb (List.mem_of_getElem? (i := 409) (by decide +kernel)) (by decide +kernel), inX3⟩
theorem fl_X3_32 : fOK RX3 32 2 4 1 := ⟨(RX3, TX3, 7), rfl, by decide, rfl, rfl, tb (List.mem_of_getElem? (i := 410) (by decide +kernel)) (by decide +kernel), inX3⟩
theorem fl_X3_48 : fOK RX3 48 1 2 0 := ⟨(RX2, TX2, 8), rfl, by decide, rfl, rfl, tb (List.mem_of_getElem? (i := 283) (by decide +kernel)) (by decide +kernel), inX2⟩
theorem fl_X3_52 : fOK RX3 52 1 4 1 := ⟨(RX2, TX2, 8), rfl, by decide, rfl, rfl, tb (List.mem_of_getElem? (i := 287) (by decide +kernel)) (by decide +kernel), inX2⟩
theorem fl_X3_55 : fOK RX3 55 4 9 1 := ⟨(RX5, TX5, 10), rfl, by decide, rfl, rfl, tb (List.mem_of_getElem? (i := 245) (by decide +kernel)) (by decide +kernel), inX5⟩
theorem fl_X3_70 : fOK RX3 70 1 0 1 := ⟨(RX2, TX2, 8), rfl, by decide, rfl, rfl, tb (List.mem_of_getElem? (i := 278) (by decide +kernel)) (by decide +kernel), inX2⟩
theorem fl_X3_74 : fOK RX3 74 5 1 0 := ⟨(RX6, TX6, 5), rfl, by decide, rfl, rfl, tb (List.mem_of_getElem? (i := 192) (by decide +kernel)) (by decide +kernel), inX6⟩
theorem fl_X3_88 : fOK RX3 88 2 5 0 := ⟨(RX3, TX3, 7), rfl, by decide, rfl, rfl, tb (List.mem_of_getElem? (i := 411) (by decide +kernel)) (by decide +kernel), inX3⟩
theorem fl_X4_15 : fOK RX4 15 3 2 1 := ⟨(RX4, TX4, 4), rfl, by decide, rfl, rfl, tb (List.mem_of_getElem? (i := 385) (by decide +kernel)) (by decide +kernel), inX4⟩
theorem fl_X4_18 : fOK RX4 18 3 3 1 := ⟨(RX4, TX4, 4), rfl, by decide, rfl, rfl, tb (List.mem_of_getElem? (i := 386) (by decide +kernel)) (by decide +kernel), inX4⟩
theorem fl_X4_21 : fOK RX4 21 3 0 0 := ⟨(RX4, TX4, 4), rfl, by decide, rfl, rfl, tb (List.mem_of_getElem? (i := 382) (by decide +kernel)) (by decide +kernel), inX4⟩
theorem fl_X4_9 : fOK RX4 9 3 1 1 := ⟨(RX4, TX4, 4), rfl, by decide, rfl, rfl, tb (List.mem_of_getElem? (i := 384) (by decide +kernel)) (by decide +kernel), inX4⟩
theorem fl_X5_12 : fOK RX5 12 4 0 1 := ⟨(RX5, TX5, 10), rfl, by decide, rfl, rfl, tb (List.mem_of_getElem? (i := 219) (by decide +kernel)) (by decide +kernel), inX5⟩
theorem fl_X5_132 : fOK RX5 132 5 1 0 := ⟨(RX6, TX6, 5), rfl, by decide, rfl, rfl, tb (List.mem_of_getElem? (i := 194) (by decide +kernel)) (by decide +kernel), inX6⟩
theorem fl_X5_151 : fOK RX5 151 5 2 1 := ⟨(RX6, TX6, 5), rfl, by decide, rfl, rfl, tb (List.mem_of_getElem? (i := 198) (by decide +kernel)) (by decide +kernel), inX6⟩
theorem fl_X5_18 : fOK RX5 18 4 1 1 := ⟨(RX5, TX5, 10), rfl, by decide, rfl, rfl, tb (List.mem_of_getElem? (i := 224) (by decide +kernel)) (by decide +kernel), inX5⟩
theorem fl_X5_192 : fOK RX5 192 5 0 0 := ⟨(RX6, TX6, 5), rfl, by decide, rfl, rfl, tb (List.mem_of_getElem? (i := 189) (by decide +kernel)) (by decide +kernel), inX6⟩
theorem fl_X5_21 : fOK RX5 21 4 2 1 := ⟨(RX5, TX5, 10), rfl, by decide, rfl, rfl, tb (List.mem_of_getElem? (i := 227) (by decide +kernel)) (by decide +kernel), inX5⟩
theorem fl_X5_24 : fOK RX5 24 4 6 1 := ⟨(RX5, TX5, 10), rfl, by decide, rfl, rfl, tb (List.mem_of_getElem? (i := 237) (by decide +kernel)) (by decide +kernel), inX5⟩
theorem fl_X5_28 : fOK RX5 28 4 7 1 := ⟨(RX5, TX5, 10), rfl, by decide, rfl, rfl, tb (List.mem_of_getElem? (i := 239) (by decide +kernel)) (by decide +kernel), inX5⟩
theorem fl_X5_31 : fOK RX5 31 4 8 1 := ⟨(RX5, TX5, 10), rfl, by decide, rfl, rfl, tb (List.mem_of_getElem? (i := 241) (by decide +kernel)) (by decide +kernel), inX5⟩
theorem fl_X5_34 : fOK RX5 34 4 9 1 := ⟨(RX5, TX5, 10), rfl, by decide, rfl, rfl, tb (List.mem_of_getElem? (i := 243) (by decide +kernel)) (by decide +kernel), inX5⟩
theorem fl_X5_46 : fOK RX5 46 4 5 0 := ⟨(RX5, TX5, 10), rfl, by decide, rfl, rfl, tb (List.mem_of_getElem? (i := 233) (by decide +kernel)) (by decide +kernel), inX5⟩
theorem fl_X5_57 : fOK RX5 57 4 3 0 := ⟨(RX5, TX5, 10), rfl, by decide, rfl, rfl, tb (List.mem_of_getElem? (i := 231) (by decide +kernel)) (by decide +kernel), inX5⟩
theorem fl_X5_60 : fOK RX5 60 4 4 0 := ⟨(RX5, TX5, 10), rfl, by decide, rfl, rfl, tb (List.mem_of_getElem? (i := 232) (by decide +kernel)) (by decide +kernel), inX5⟩
theorem fl_X5_81 : fOK RX5 81 5 3 1 := ⟨(RX6, TX6, 5), rfl, by decide, rfl, rfl, tb (List.mem_of_getElem? (i := 201) (by decide +kernel)) (by decide +kernel), inX6⟩
theorem fl_X6_15 : fOK RX6 15 5 3 1 := ⟨(RX6, TX6, 5), rfl, by decide, rfl, rfl, tb (List.mem_of_getElem? (i := 199) (by decide +kernel)) (by decide +kernel), inX6⟩
theorem fl_X6_18 : fOK RX6 18 5 4 1 := ⟨(RX6, TX6, 5), rfl, by decide, rfl, rfl, tb (List.mem_of_getElem? (i := 205) (by decide +kernel)) (by decide +kernel), inX6⟩
theorem fl_X6_27 : fOK RX6 27 5 0 0 := ⟨(RX6, TX6, 5), rfl, by decide, rfl, rfl, tb (List.mem_of_getElem? (i := 186) (by decide +kernel)) (by decide +kernel), inX6⟩
theorem fl_X6_31 : fOK RX6 31 5 1 0 := ⟨(RX6, TX6, 5), rfl, by decide, rfl, rfl, tb (List.mem_of_getElem? (i := 190) (by decide +kernel)) (by decide +kernel), inX6⟩
theorem fl_X6_9 : fOK RX6 9 5 2 1 := ⟨(RX6, TX6, 5), rfl, by decide, rfl, rfl, tb (List.mem_of_getElem? (i := 195) (by decide +kernel)) (by decide +kernel), inX6⟩
theorem fl_X7_104 : fOK RX7 104 6 7 0 := ⟨(RX7, TX7, 11), rfl, by decide, rfl, rfl, tb (List.mem_of_getElem? (i := 329) (by decide +kernel)) (by decide +kernel), inX7⟩
theorem fl_X7_110 : fOK RX7 110 4 0 1 := ⟨(RX5, TX5, 10), rfl, by decide, rfl, rfl, tb (List.mem_of_getElem? (i := 222) (by decide +kernel)) (by decide +kernel), inX5⟩
theorem fl_X7_114 : fOK RX7 114 5 0 0 := ⟨(RX6, TX6, 5), rfl, by decide, rfl, rfl, tb (List.mem_of_getElem? (i := 188) (by decide +kernel)) (by decide +kernel), inX6⟩
theorem fl_X7_146 : fOK RX7 146 5 1 0 := ⟨(RX6, TX6, 5), rfl, by decide, rfl, rfl, tb (List.mem_of_getElem? (i := 193) (by decide +kernel)) (by decide +kernel), inX6⟩
theorem fl_X7_164 : fOK RX7 164 5 3 1 := ⟨(RX6, TX6, 5), rfl, by decide, rfl, rfl, tb (List.mem_of_getElem? (i := 203) (by decide +kernel)) (by decide +kernel), inX6⟩
theorem fl_X7_177 : fOK RX7 177 4 5 0 := ⟨(RX5, TX5, 10), rfl, by decide, rfl, rfl, tb (List.mem_of_getElem? (i := 236) (by decide +kernel)) (by decide +kernel), inX5⟩
theorem fl_X7_18 : fOK RX7 18 6 2 1 := ⟨(RX7, TX7, 11), rfl, by decide, rfl, rfl, tb (List.mem_of_getElem? (i := 322) (by decide +kernel)) (by decide +kernel), inX7⟩
theorem fl_X7_26 : fOK RX7 26 6 1 0 := ⟨(RX7, TX7, 11), rfl, by decide, rfl, rfl, tb (List.mem_of_getElem? (i := 320) (by decide +kernel)) (by decide +kernel), inX7⟩
theorem fl_X7_42 : fOK RX7 42 6 5 0 := ⟨(RX7, TX7, 11), rfl, by decide, rfl, rfl, tb (List.mem_of_getElem? (i := 327) (by decide +kernel)) (by decide +kernel), inX7⟩
theorem fl_X7_45 : fOK RX7 45 6 4 0 := ⟨(RX7, TX7, 11), rfl, by decide, rfl, rfl, tb (List.mem_of_getElem? (i := 326) (by decide +kernel)) (by decide +kernel), inX7⟩
theorem fl_X7_48 : fOK RX7 48 6 8 0 := ⟨(RX7, TX7, 11), rfl, by decide, rfl, rfl, tb (List.mem_of_getElem? (i := 330) (by decide +kernel)) (by decide +kernel), inX7⟩
theorem fl_X7_51 : fOK RX7 51 6 9 0 := ⟨(RX7, TX7, 11), rfl, by decide, rfl, rfl, tb (List.mem_of_getElem? (i := 331) (by decide +kernel)) (by decide +kernel), inX7⟩
theorem fl_X7_55 : fOK RX7 55 6 10 0 := ⟨(RX7, TX7, 11), rfl, by decide, rfl, rfl, tb (List.mem_of_getElem? (i := 332) (by decide +kernel)) (by decide +kernel), inX7⟩
theorem fl_X7_64 : fOK RX7 64 6 6 0 := ⟨(RX7, TX7, 11), rfl, by decide, rfl, rfl, tb (List.mem_of_getElem? (i := 328) (by decide +kernel)) (by decide +kernel), inX7⟩
theorem fl_X7_9 : fOK RX7 9 6 0 1 := ⟨(RX7, TX7, 11), rfl, by decide, rfl, rfl, tb (List.mem_of_getElem? (i := 319) (by decide +kernel)) (by decide +kernel), inX7⟩
theorem fl_X9_12 : fOK RX9 12 7 0 1 := ⟨(RX9, TX9, 13), rfl, by decide, rfl, rfl, tb (List.mem_of_getElem? (i := 428) (by decide +kernel)) (by decide +kernel), inX9⟩
theorem fl_X9_152 : fOK RX9 152 3 0 0 := ⟨(RX4, TX4, 4), rfl, by decide, rfl, rfl, tb (List.mem_of_getElem? (i := 383) (by decide +kernel)) (by decide +kernel), inX4⟩
theorem fl_X9_19 : fOK RX9 19 7 1 1 := ⟨(RX9, TX9, 13), rfl, by decide, rfl, rfl, tb (List.mem_of_getElem? (i := 429) (by decide +kernel)) (by decide +kernel), inX9⟩
theorem fl_X9_26 : fOK RX9 26 7 2 1 := ⟨(RX9, TX9, 13), rfl, by decide, rfl, rfl, tb (List.mem_of_getElem? (i := 430) (by decide +kernel)) (by decide +kernel), inX9⟩
theorem fl_X9_324 : fOK RX9 324 7 10 0 := ⟨(RX9, TX9, 13), rfl, by decide, rfl, rfl, tb (List.mem_of_getElem? (i := 438) (by decide +kernel)) (by decide +kernel), inX9⟩
theorem fl_X9_33 : fOK RX9 33 7 3 1 := ⟨(RX9, TX9, 13), rfl, by decide, rfl, rfl, tb (List.mem_of_getElem? (i := 431) (by decide +kernel)) (by decide +kernel), inX9⟩
theorem fl_X9_40 : fOK RX9 40 7 4 1 := ⟨(RX9, TX9, 13), rfl, by decide, rfl, rfl, tb (List.mem_of_getElem? (i := 432) (by decide +kernel)) (by decide +kernel), inX9⟩
theorem fl_X9_47 : fOK RX9 47 7 5 1 := ⟨(RX9, TX9, 13), rfl, by decide, rfl, rfl, tb (List.mem_of_getElem? (i := 433) (by decide +kernel)) (by decide +kernel), inX9⟩
theorem fl_X9_60 : fOK RX9 60 7 11 0 := ⟨(RX9, TX9, 13), rfl, by decide, rfl, rfl, tb (List.mem_of_getElem? (i := 439) (by decide +kernel)) (by decide +kernel), inX9⟩
theorem fl_X9_64 : fOK RX9 64 7 12 1 := ⟨(RX9, TX9, 13), rfl, by decide, rfl, rfl, tb (List.mem_of_getElem? (i := 440) (by decide +kernel)) (by decide +kernel), inX9⟩
theorem fl_X9_76 : fOK RX9 76 6 1 0 := ⟨(RX7, TX7, 11), rfl, by decide, rfl, rfl, tb (List.mem_of_getElem? (i := 321) (by decide +kernel)) (by decide +kernel), inX7⟩
theorem lk_J0_1053 : Cond.fieldLink RJ0 1053 "jdk/internal/util/Preconditions" "SIOOBE_FORMATTER" "Ljava/util/function/BiFunction;" ∈ TB := tb (List.mem_of_getElem? (i := 941) (by decide +kernel)) (by decide +kernel)
theorem lk_J0_15 : Cond.fieldLink RJ0 15 "java/lang/String" "coder" "B" ∈ TB := tb (List.mem_of_getElem? (i := 2008) (by decide +kernel)) (by decide +kernel)
theorem lk_J0_38 : Cond.fieldLink RJ0 38 "java/lang/String" "COMPACT_STRINGS" "Z" ∈ TB := tb (List.mem_of_getElem? (i := 925) (by decide +kernel)) (by decide +kernel)
theorem lk_J0_9 : Cond.fieldLink RJ0 9 "java/lang/String" "value" "[B" ∈ TB := tb (List.mem_of_getElem? (i := 2007) (by decide +kernel)) (by decide +kernel)
set_option maxRecDepth 100000 in
theorem mk_J0_charAt_5068e : mOK yJ0_charAt_5068e cJ0_charAt_5068e 2 (some .char) 1 := ⟨tb (List.mem_of_getElem? (i := 930) (by rfl)) (by rfl), by decide +kernel, by decide +kernel, tb (List.mem_of_getElem? (i := 155) (by decide +kernel)) (by decide +kernel)⟩
set_option maxRecDepth 100000 in
theorem mk_J0_checkIndex_df160 : mOK yJ0_checkIndex_df160 cJ0_checkIndex_df160 2 none 2 := ⟨tb (List.mem_of_getElem? (i := 940) (by rfl)) (by rfl), by decide +kernel, by decide +kernel, tb (List.mem_of_getElem? (i := 155) (by decide +kernel)) (by decide +kernel)⟩
set_option maxRecDepth 100000 in
theorem mk_J0_coder_7d493 : mOK yJ0_coder_7d493 cJ0_coder_7d493 1 (some .byte) 0 := ⟨tb (List.mem_of_getElem? (i := 924) (by rfl)) (by rfl), by decide +kernel, by decide +kernel, tb (List.mem_of_getElem? (i := 155) (by decide +kernel)) (by decide +kernel)⟩
set_option maxRecDepth 100000 in
theorem mk_J0_isLatin1_aae02 : mOK yJ0_isLatin1_aae02 cJ0_isLatin1_aae02 1 (some .boolean) 0 := ⟨tb (List.mem_of_getElem? (i := 934) (by rfl)) (by rfl), by decide +kernel, by decide +kernel, tb (List.mem_of_getElem? (i := 155) (by decide +kernel)) (by decide +kernel)⟩
set_option maxRecDepth 100000 in
theorem mk_J0_length_8abf5 : mOK yJ0_length_8abf5 cJ0_length_8abf5 1 (some .int) 0 := ⟨tb (List.mem_of_getElem? (i := 920) (by rfl)) (by rfl), by decide +kernel, by decide +kernel, tb (List.mem_of_getElem? (i := 155) (by decide +kernel)) (by decide +kernel)⟩
set_option maxRecDepth 100000 in
theorem mk_J1_charAt_3b067 : mOK yJ1_charAt_3b067 cJ1_charAt_3b067 2 (some .char) 2 := ⟨tb (List.mem_of_getElem? (i := 937) (by rfl)) (by rfl), by decide +kernel, by decide +kernel, tb (List.mem_of_getElem? (i := 156) (by decide +kernel)) (by decide +kernel)⟩
set_option maxRecDepth 100000 in
theorem mk_J3_checkIndex_8e157 : mOK yJ3_checkIndex_8e157 cJ3_checkIndex_8e157 3 (some .int) 3 := ⟨tb (List.mem_of_getElem? (i := 945) (by rfl)) (by rfl), by decide +kernel, by decide +kernel, tb (List.mem_of_getElem? (i := 157) (by decide +kernel)) (by decide +kernel)⟩
set_option maxRecDepth 100000 in
theorem mk_J6_bitCount_0f7a4 : mOK yJ6_bitCount_0f7a4 cJ6_bitCount_0f7a4 1 (some .int) 1 := ⟨tb (List.mem_of_getElem? (i := 742) (by rfl)) (by rfl), by decide +kernel, by decide +kernel, tb (List.mem_of_getElem? (i := 159) (by decide +kernel)) (by decide +kernel)⟩
set_option maxRecDepth 100000 in
theorem mk_J7_fill_53178 : mOK yJ7_fill_53178 cJ7_fill_53178 4 none 2 := ⟨tb (List.mem_of_getElem? (i := 185) (by rfl)) (by rfl), by decide +kernel, by decide +kernel, tb (List.mem_of_getElem? (i := 142) (by decide +kernel)) (by decide +kernel)⟩
set_option maxRecDepth 100000 in
theorem mk_J9_floorMod_7cf53 : mOK yJ9_floorMod_7cf53 cJ9_floorMod_7cf53 3 (some .int) 2 := ⟨tb (List.mem_of_getElem? (i := 675) (by rfl)) (by rfl), by decide +kernel, by decide +kernel, tb (List.mem_of_getElem? (i := 153) (by decide +kernel)) (by decide +kernel)⟩
set_option maxRecDepth 100000 in
theorem mk_J9_max_7cf53 : mOK yJ9_max_7cf53 cJ9_max_7cf53 2 (some .int) 2 := ⟨tb (List.mem_of_getElem? (i := 630) (by rfl)) (by rfl), by decide +kernel, by decide +kernel, tb (List.mem_of_getElem? (i := 153) (by decide +kernel)) (by decide +kernel)⟩
set_option maxRecDepth 100000 in
theorem mk_J9_min_7cf53 : mOK yJ9_min_7cf53 cJ9_min_7cf53 2 (some .int) 2 := ⟨tb (List.mem_of_getElem? (i := 895) (by rfl)) (by rfl), by decide +kernel, by decide +kernel, tb (List.mem_of_getElem? (i := 153) (by decide +kernel)) (by decide +kernel)⟩
set_option maxRecDepth 100000 in
theorem mk_X0_clear : mOK yX0_clear cX0_clear 1 none 0 := ⟨tb (List.mem_of_getElem? (i := 1093) (by rfl)) (by rfl), by decide +kernel, by decide +kernel, tb (List.mem_of_getElem? (i := 145) (by decide +kernel)) (by decide +kernel)⟩
set_option maxRecDepth 100000 in
theorem mk_X0_keepPrepared : mOK yX0_keepPrepared cX0_keepPrepared 1 none 0 := ⟨tb (List.mem_of_getElem? (i := 696) (by rfl)) (by rfl), by decide +kernel, by decide +kernel, tb (List.mem_of_getElem? (i := 145) (by decide +kernel)) (by decide +kernel)⟩
set_option maxRecDepth 100000 in
theorem mk_X10_add : mOK yX10_add cX10_add 6 (some .int) 3 := ⟨tb (List.mem_of_getElem? (i := 1726) (by rfl)) (by rfl), by decide +kernel, by decide +kernel, tb (List.mem_of_getElem? (i := 148) (by decide +kernel)) (by decide +kernel)⟩
set_option maxRecDepth 100000 in
theorem mk_X10_adds : mOK yX10_adds cX10_adds 7 (some .boolean) 4 := ⟨tb (List.mem_of_getElem? (i := 1670) (by rfl)) (by rfl), by decide +kernel, by decide +kernel, tb (List.mem_of_getElem? (i := 148) (by decide +kernel)) (by decide +kernel)⟩
set_option maxRecDepth 100000 in
theorem mk_X10_alone : mOK yX10_alone cX10_alone 10 (some .int) 2 := ⟨tb (List.mem_of_getElem? (i := 1946) (by rfl)) (by rfl), by decide +kernel, by decide +kernel, tb (List.mem_of_getElem? (i := 148) (by decide +kernel)) (by decide +kernel)⟩
set_option maxRecDepth 100000 in
theorem mk_X10_along : mOK yX10_along cX10_along 5 (some .int) 2 := ⟨tb (List.mem_of_getElem? (i := 1939) (by rfl)) (by rfl), by decide +kernel, by decide +kernel, tb (List.mem_of_getElem? (i := 148) (by decide +kernel)) (by decide +kernel)⟩
set_option maxRecDepth 100000 in
theorem mk_X10_baseCell : mOK yX10_baseCell cX10_baseCell 4 (some .int) 3 := ⟨tb (List.mem_of_getElem? (i := 1773) (by rfl)) (by rfl), by decide +kernel, by decide +kernel, tb (List.mem_of_getElem? (i := 148) (by decide +kernel)) (by decide +kernel)⟩
set_option maxRecDepth 100000 in
theorem mk_X10_begins : mOK yX10_begins cX10_begins 3 (some .boolean) 2 := ⟨tb (List.mem_of_getElem? (i := 1559) (by rfl)) (by rfl), by decide +kernel, by decide +kernel, tb (List.mem_of_getElem? (i := 148) (by decide +kernel)) (by decide +kernel)⟩
set_option maxRecDepth 100000 in
theorem mk_X10_bits : mOK yX10_bits cX10_bits 3 (some .int) 1 := ⟨tb (List.mem_of_getElem? (i := 1655) (by rfl)) (by rfl), by decide +kernel, by decide +kernel, tb (List.mem_of_getElem? (i := 148) (by decide +kernel)) (by decide +kernel)⟩
set_option maxRecDepth 100000 in
theorem mk_X10_byteAt : mOK yX10_byteAt cX10_byteAt 2 (some .int) 1 := ⟨tb (List.mem_of_getElem? (i := 1530) (by rfl)) (by rfl), by decide +kernel, by decide +kernel, tb (List.mem_of_getElem? (i := 148) (by decide +kernel)) (by decide +kernel)⟩
set_option maxRecDepth 100000 in
theorem mk_X10_castTo : mOK yX10_castTo cX10_castTo 2 (some .int) 2 := ⟨tb (List.mem_of_getElem? (i := 1666) (by rfl)) (by rfl), by decide +kernel, by decide +kernel, tb (List.mem_of_getElem? (i := 148) (by decide +kernel)) (by decide +kernel)⟩
set_option maxRecDepth 100000 in
theorem mk_X10_cell : mOK yX10_cell cX10_cell 4 (some .int) 3 := ⟨tb (List.mem_of_getElem? (i := 1865) (by rfl)) (by rfl), by decide +kernel, by decide +kernel, tb (List.mem_of_getElem? (i := 148) (by decide +kernel)) (by decide +kernel)⟩
set_option maxRecDepth 100000 in
theorem mk_X10_cellAt : mOK yX10_cellAt cX10_cellAt 4 (some .int) 4 := ⟨tb (List.mem_of_getElem? (i := 1624) (by rfl)) (by rfl), by decide +kernel, by decide +kernel, tb (List.mem_of_getElem? (i := 148) (by decide +kernel)) (by decide +kernel)⟩
set_option maxRecDepth 100000 in
theorem mk_X10_cellOf : mOK yX10_cellOf cX10_cellOf 3 (some .int) 0 := ⟨tb (List.mem_of_getElem? (i := 1606) (by rfl)) (by rfl), by decide +kernel, by decide +kernel, tb (List.mem_of_getElem? (i := 148) (by decide +kernel)) (by decide +kernel)⟩
set_option maxRecDepth 100000 in
theorem mk_X10_changedCells : mOK yX10_changedCells cX10_changedCells 5 (some .int) 1 := ⟨tb (List.mem_of_getElem? (i := 1931) (by rfl)) (by rfl), by decide +kernel, by decide +kernel, tb (List.mem_of_getElem? (i := 148) (by decide +kernel)) (by decide +kernel)⟩
set_option maxRecDepth 100000 in
theorem mk_X10_changedColumns : mOK yX10_changedColumns cX10_changedColumns 5 (some .int) 2 := ⟨tb (List.mem_of_getElem? (i := 1935) (by rfl)) (by rfl), by decide +kernel, by decide +kernel, tb (List.mem_of_getElem? (i := 148) (by decide +kernel)) (by decide +kernel)⟩
set_option maxRecDepth 100000 in
theorem mk_X10_choiceAt : mOK yX10_choiceAt cX10_choiceAt 3 (some .int) 3 := ⟨tb (List.mem_of_getElem? (i := 1753) (by rfl)) (by rfl), by decide +kernel, by decide +kernel, tb (List.mem_of_getElem? (i := 148) (by decide +kernel)) (by decide +kernel)⟩
set_option maxRecDepth 100000 in
theorem mk_X10_choicesOf : mOK yX10_choicesOf cX10_choicesOf 1 (some .int) 1 := ⟨tb (List.mem_of_getElem? (i := 1880) (by rfl)) (by rfl), by decide +kernel, by decide +kernel, tb (List.mem_of_getElem? (i := 148) (by decide +kernel)) (by decide +kernel)⟩
set_option maxRecDepth 100000 in
theorem mk_X10_choicesThere : mOK yX10_choicesThere cX10_choicesThere 3 (some .int) 0 := ⟨tb (List.mem_of_getElem? (i := 1825) (by rfl)) (by rfl), by decide +kernel, by decide +kernel, tb (List.mem_of_getElem? (i := 148) (by decide +kernel)) (by decide +kernel)⟩
set_option maxRecDepth 100000 in
theorem mk_X10_choicesWaiting : mOK yX10_choicesWaiting cX10_choicesWaiting 3 (some .int) 0 := ⟨tb (List.mem_of_getElem? (i := 1829) (by rfl)) (by rfl), by decide +kernel, by decide +kernel, tb (List.mem_of_getElem? (i := 148) (by decide +kernel)) (by decide +kernel)⟩
set_option maxRecDepth 100000 in
theorem mk_X10_column : mOK yX10_column cX10_column 4 (some .int) 3 := ⟨tb (List.mem_of_getElem? (i := 1857) (by rfl)) (by rfl), by decide +kernel, by decide +kernel, tb (List.mem_of_getElem? (i := 148) (by decide +kernel)) (by decide +kernel)⟩
set_option maxRecDepth 100000 in
theorem mk_X10_columnHere : mOK yX10_columnHere cX10_columnHere 2 (some .int) 0 := ⟨tb (List.mem_of_getElem? (i := 1632) (by rfl)) (by rfl), by decide +kernel, by decide +kernel, tb (List.mem_of_getElem? (i := 148) (by decide +kernel)) (by decide +kernel)⟩
set_option maxRecDepth 100000 in
theorem mk_X10_comesUp : mOK yX10_comesUp cX10_comesUp 9 (some .int) 6 := ⟨tb (List.mem_of_getElem? (i := 1750) (by rfl)) (by rfl), by decide +kernel, by decide +kernel, tb (List.mem_of_getElem? (i := 148) (by decide +kernel)) (by decide +kernel)⟩
set_option maxRecDepth 100000 in
theorem mk_X10_commit : mOK yX10_commit cX10_commit 2 (some .int) 0 := ⟨tb (List.mem_of_getElem? (i := 1911) (by rfl)) (by rfl), by decide +kernel, by decide +kernel, tb (List.mem_of_getElem? (i := 148) (by decide +kernel)) (by decide +kernel)⟩
set_option maxRecDepth 100000 in
theorem mk_X10_commitsDemands : mOK yX10_commitsDemands cX10_commitsDemands 6 none 0 := ⟨tb (List.mem_of_getElem? (i := 1919) (by rfl)) (by rfl), by decide +kernel, by decide +kernel, tb (List.mem_of_getElem? (i := 148) (by decide +kernel)) (by decide +kernel)⟩
set_option maxRecDepth 100000 in
theorem mk_X10_commitsTable : mOK yX10_commitsTable cX10_commitsTable 5 none 0 := ⟨tb (List.mem_of_getElem? (i := 1915) (by rfl)) (by rfl), by decide +kernel, by decide +kernel, tb (List.mem_of_getElem? (i := 148) (by decide +kernel)) (by decide +kernel)⟩
set_option maxRecDepth 100000 in
theorem mk_X10_conflict : mOK yX10_conflict cX10_conflict 3 (some .int) 2 := ⟨tb (List.mem_of_getElem? (i := 1877) (by rfl)) (by rfl), by decide +kernel, by decide +kernel, tb (List.mem_of_getElem? (i := 148) (by decide +kernel)) (by decide +kernel)⟩
set_option maxRecDepth 100000 in
theorem mk_X10_copies : mOK yX10_copies cX10_copies 4 none 2 := ⟨tb (List.mem_of_getElem? (i := 1987) (by rfl)) (by rfl), by decide +kernel, by decide +kernel, tb (List.mem_of_getElem? (i := 148) (by decide +kernel)) (by decide +kernel)⟩
set_option maxRecDepth 100000 in
theorem mk_X10_count : mOK yX10_count cX10_count 2 (some .int) 1 := ⟨tb (List.mem_of_getElem? (i := 1734) (by rfl)) (by rfl), by decide +kernel, by decide +kernel, tb (List.mem_of_getElem? (i := 148) (by decide +kernel)) (by decide +kernel)⟩
set_option maxRecDepth 100000 in
theorem mk_X10_delete : mOK yX10_delete cX10_delete 3 (some .boolean) 2 := ⟨tb (List.mem_of_getElem? (i := 1714) (by rfl)) (by rfl), by decide +kernel, by decide +kernel, tb (List.mem_of_getElem? (i := 148) (by decide +kernel)) (by decide +kernel)⟩
set_option maxRecDepth 100000 in
theorem mk_X10_demands : mOK yX10_demands cX10_demands 8 none 2 := ⟨tb (List.mem_of_getElem? (i := 1809) (by rfl)) (by rfl), by decide +kernel, by decide +kernel, tb (List.mem_of_getElem? (i := 148) (by decide +kernel)) (by decide +kernel)⟩
set_option maxRecDepth 100000 in
theorem mk_X10_difference : mOK yX10_difference cX10_difference 7 (some .int) 2 := ⟨tb (List.mem_of_getElem? (i := 1923) (by rfl)) (by rfl), by decide +kernel, by decide +kernel, tb (List.mem_of_getElem? (i := 148) (by decide +kernel)) (by decide +kernel)⟩
set_option maxRecDepth 100000 in
theorem mk_X10_does : mOK yX10_does cX10_does 7 (some .boolean) 6 := ⟨tb (List.mem_of_getElem? (i := 1644) (by rfl)) (by rfl), by decide +kernel, by decide +kernel, tb (List.mem_of_getElem? (i := 148) (by decide +kernel)) (by decide +kernel)⟩
set_option maxRecDepth 100000 in
theorem mk_X10_doesHold : mOK yX10_doesHold cX10_doesHold 2 (some .boolean) 2 := ⟨tb (List.mem_of_getElem? (i := 1621) (by rfl)) (by rfl), by decide +kernel, by decide +kernel, tb (List.mem_of_getElem? (i := 148) (by decide +kernel)) (by decide +kernel)⟩
set_option maxRecDepth 100000 in
theorem mk_X10_draw : mOK yX10_draw cX10_draw 2 (some .int) 1 := ⟨tb (List.mem_of_getElem? (i := 1978) (by rfl)) (by rfl), by decide +kernel, by decide +kernel, tb (List.mem_of_getElem? (i := 148) (by decide +kernel)) (by decide +kernel)⟩
set_option maxRecDepth 100000 in
theorem mk_X10_drop : mOK yX10_drop cX10_drop 3 (some .boolean) 2 := ⟨tb (List.mem_of_getElem? (i := 1730) (by rfl)) (by rfl), by decide +kernel, by decide +kernel, tb (List.mem_of_getElem? (i := 148) (by decide +kernel)) (by decide +kernel)⟩
set_option maxRecDepth 100000 in
theorem mk_X10_edited : mOK yX10_edited cX10_edited 7 (some .int) 1 := ⟨tb (List.mem_of_getElem? (i := 1962) (by rfl)) (by rfl), by decide +kernel, by decide +kernel, tb (List.mem_of_getElem? (i := 148) (by decide +kernel)) (by decide +kernel)⟩
set_option maxRecDepth 100000 in
theorem mk_X10_edited0 : mOK yX10_edited0 cX10_edited0 7 (some .boolean) 5 := ⟨tb (List.mem_of_getElem? (i := 1694) (by rfl)) (by rfl), by decide +kernel, by decide +kernel, tb (List.mem_of_getElem? (i := 148) (by decide +kernel)) (by decide +kernel)⟩
set_option maxRecDepth 100000 in
theorem mk_X10_fault : mOK yX10_fault cX10_fault 1 (some .int) 0 := ⟨tb (List.mem_of_getElem? (i := 1682) (by rfl)) (by rfl), by decide +kernel, by decide +kernel, tb (List.mem_of_getElem? (i := 148) (by decide +kernel)) (by decide +kernel)⟩
set_option maxRecDepth 100000 in
theorem mk_X10_feed : mOK yX10_feed cX10_feed 6 (some .int) 5 := ⟨tb (List.mem_of_getElem? (i := 1510) (by rfl)) (by rfl), by decide +kernel, by decide +kernel, tb (List.mem_of_getElem? (i := 148) (by decide +kernel)) (by decide +kernel)⟩
set_option maxRecDepth 100000 in
theorem mk_X10_filled : mOK yX10_filled cX10_filled 4 (some .int) 0 := ⟨tb (List.mem_of_getElem? (i := 1833) (by rfl)) (by rfl), by decide +kernel, by decide +kernel, tb (List.mem_of_getElem? (i := 148) (by decide +kernel)) (by decide +kernel)⟩
set_option maxRecDepth 100000 in
theorem mk_X10_flip : mOK yX10_flip cX10_flip 3 none 0 := ⟨tb (List.mem_of_getElem? (i := 1896) (by rfl)) (by rfl), by decide +kernel, by decide +kernel, tb (List.mem_of_getElem? (i := 148) (by decide +kernel)) (by decide +kernel)⟩
set_option maxRecDepth 100000 in
theorem mk_X10_flipped : mOK yX10_flipped cX10_flipped 1 (some .int) 1 := ⟨tb (List.mem_of_getElem? (i := 1903) (by rfl)) (by rfl), by decide +kernel, by decide +kernel, tb (List.mem_of_getElem? (i := 148) (by decide +kernel)) (by decide +kernel)⟩
set_option maxRecDepth 100000 in
theorem mk_X10_flipsChoice : mOK yX10_flipsChoice cX10_flipsChoice 8 none 5 := ⟨tb (List.mem_of_getElem? (i := 1907) (by rfl)) (by rfl), by decide +kernel, by decide +kernel, tb (List.mem_of_getElem? (i := 148) (by decide +kernel)) (by decide +kernel)⟩
set_option maxRecDepth 100000 in
theorem mk_X10_flipsTable : mOK yX10_flipsTable cX10_flipsTable 8 none 2 := ⟨tb (List.mem_of_getElem? (i := 1900) (by rfl)) (by rfl), by decide +kernel, by decide +kernel, tb (List.mem_of_getElem? (i := 148) (by decide +kernel)) (by decide +kernel)⟩
set_option maxRecDepth 100000 in
theorem mk_X10_forget : mOK yX10_forget cX10_forget 1 none 0 := ⟨tb (List.mem_of_getElem? (i := 1958) (by rfl)) (by rfl), by decide +kernel, by decide +kernel, tb (List.mem_of_getElem? (i := 148) (by decide +kernel)) (by decide +kernel)⟩
set_option maxRecDepth 100000 in
theorem mk_X10_goes : mOK yX10_goes cX10_goes 2 none 0 := ⟨tb (List.mem_of_getElem? (i := 1526) (by rfl)) (by rfl), by decide +kernel, by decide +kernel, tb (List.mem_of_getElem? (i := 148) (by decide +kernel)) (by decide +kernel)⟩
set_option maxRecDepth 100000 in
theorem mk_X10_happens : mOK yX10_happens cX10_happens 5 (some .boolean) 0 := ⟨tb (List.mem_of_getElem? (i := 1974) (by rfl)) (by rfl), by decide +kernel, by decide +kernel, tb (List.mem_of_getElem? (i := 148) (by decide +kernel)) (by decide +kernel)⟩
set_option maxRecDepth 100000 in
theorem mk_X10_hasColumn : mOK yX10_hasColumn cX10_hasColumn 4 (some .boolean) 3 := ⟨tb (List.mem_of_getElem? (i := 1579) (by rfl)) (by rfl), by decide +kernel, by decide +kernel, tb (List.mem_of_getElem? (i := 148) (by decide +kernel)) (by decide +kernel)⟩
set_option maxRecDepth 100000 in
theorem mk_X10_hasName : mOK yX10_hasName cX10_hasName 5 (some .boolean) 3 := ⟨tb (List.mem_of_getElem? (i := 1575) (by rfl)) (by rfl), by decide +kernel, by decide +kernel, tb (List.mem_of_getElem? (i := 148) (by decide +kernel)) (by decide +kernel)⟩
set_option maxRecDepth 100000 in
theorem mk_X10_hasOf : mOK yX10_hasOf cX10_hasOf 2 (some .int) 1 := ⟨tb (List.mem_of_getElem? (i := 1849) (by rfl)) (by rfl), by decide +kernel, by decide +kernel, tb (List.mem_of_getElem? (i := 148) (by decide +kernel)) (by decide +kernel)⟩
set_option maxRecDepth 100000 in
theorem mk_X10_hasRow : mOK yX10_hasRow cX10_hasRow 4 (some .boolean) 3 := ⟨tb (List.mem_of_getElem? (i := 1602) (by rfl)) (by rfl), by decide +kernel, by decide +kernel, tb (List.mem_of_getElem? (i := 148) (by decide +kernel)) (by decide +kernel)⟩
set_option maxRecDepth 100000 in
theorem mk_X10_image : mOK yX10_image cX10_image 2 none 0 := ⟨tb (List.mem_of_getElem? (i := 1983) (by rfl)) (by rfl), by decide +kernel, by decide +kernel, tb (List.mem_of_getElem? (i := 148) (by decide +kernel)) (by decide +kernel)⟩
set_option maxRecDepth 100000 in
theorem mk_X10_insert : mOK yX10_insert cX10_insert 3 (some .boolean) 2 := ⟨tb (List.mem_of_getElem? (i := 1710) (by rfl)) (by rfl), by decide +kernel, by decide +kernel, tb (List.mem_of_getElem? (i := 148) (by decide +kernel)) (by decide +kernel)⟩
set_option maxRecDepth 100000 in
theorem mk_X10_inserts : mOK yX10_inserts cX10_inserts 5 (some .boolean) 3 := ⟨tb (List.mem_of_getElem? (i := 1652) (by rfl)) (by rfl), by decide +kernel, by decide +kernel, tb (List.mem_of_getElem? (i := 148) (by decide +kernel)) (by decide +kernel)⟩
set_option maxRecDepth 100000 in
theorem mk_X10_isAgainst : mOK yX10_isAgainst cX10_isAgainst 7 (some .boolean) 3 := ⟨tb (List.mem_of_getElem? (i := 1813) (by rfl)) (by rfl), by decide +kernel, by decide +kernel, tb (List.mem_of_getElem? (i := 148) (by decide +kernel)) (by decide +kernel)⟩
set_option maxRecDepth 100000 in
theorem mk_X10_isChanged : mOK yX10_isChanged cX10_isChanged 5 (some .boolean) 4 := ⟨tb (List.mem_of_getElem? (i := 1769) (by rfl)) (by rfl), by decide +kernel, by decide +kernel, tb (List.mem_of_getElem? (i := 148) (by decide +kernel)) (by decide +kernel)⟩
set_option maxRecDepth 100000 in
theorem mk_X10_isChangedAt : mOK yX10_isChangedAt cX10_isChangedAt 6 (some .boolean) 4 := ⟨tb (List.mem_of_getElem? (i := 1801) (by rfl)) (by rfl), by decide +kernel, by decide +kernel, tb (List.mem_of_getElem? (i := 148) (by decide +kernel)) (by decide +kernel)⟩
set_option maxRecDepth 100000 in
theorem mk_X10_isColumn : mOK yX10_isColumn cX10_isColumn 3 (some .boolean) 2 := ⟨tb (List.mem_of_getElem? (i := 1861) (by rfl)) (by rfl), by decide +kernel, by decide +kernel, tb (List.mem_of_getElem? (i := 148) (by decide +kernel)) (by decide +kernel)⟩
set_option maxRecDepth 100000 in
theorem mk_X10_isColumnChanged : mOK yX10_isColumnChanged cX10_isColumnChanged 5 (some .boolean) 3 := ⟨tb (List.mem_of_getElem? (i := 1765) (by rfl)) (by rfl), by decide +kernel, by decide +kernel, tb (List.mem_of_getElem? (i := 148) (by decide +kernel)) (by decide +kernel)⟩
set_option maxRecDepth 100000 in
theorem mk_X10_isConflict : mOK yX10_isConflict cX10_isConflict 5 (some .boolean) 3 := ⟨tb (List.mem_of_getElem? (i := 1888) (by rfl)) (by rfl), by decide +kernel, by decide +kernel, tb (List.mem_of_getElem? (i := 148) (by decide +kernel)) (by decide +kernel)⟩
set_option maxRecDepth 100000 in
theorem mk_X10_isDigit : mOK yX10_isDigit cX10_isDigit 1 (some .boolean) 1 := ⟨tb (List.mem_of_getElem? (i := 1536) (by rfl)) (by rfl), by decide +kernel, by decide +kernel, tb (List.mem_of_getElem? (i := 148) (by decide +kernel)) (by decide +kernel)⟩
set_option maxRecDepth 100000 in
theorem mk_X10_isGood : mOK yX10_isGood cX10_isGood 1 (some .boolean) 0 := ⟨tb (List.mem_of_getElem? (i := 1540) (by rfl)) (by rfl), by decide +kernel, by decide +kernel, tb (List.mem_of_getElem? (i := 148) (by decide +kernel)) (by decide +kernel)⟩
set_option maxRecDepth 100000 in
theorem mk_X10_isKey : mOK yX10_isKey cX10_isKey 3 (some .boolean) 2 := ⟨tb (List.mem_of_getElem? (i := 1869) (by rfl)) (by rfl), by decide +kernel, by decide +kernel, tb (List.mem_of_getElem? (i := 148) (by decide +kernel)) (by decide +kernel)⟩
set_option maxRecDepth 100000 in
theorem mk_X10_isLetter : mOK yX10_isLetter cX10_isLetter 1 (some .boolean) 1 := ⟨tb (List.mem_of_getElem? (i := 1533) (by rfl)) (by rfl), by decide +kernel, by decide +kernel, tb (List.mem_of_getElem? (i := 148) (by decide +kernel)) (by decide +kernel)⟩
set_option maxRecDepth 100000 in
theorem mk_X10_isLike : mOK yX10_isLike cX10_isLike 4 (some .boolean) 2 := ⟨tb (List.mem_of_getElem? (i := 1821) (by rfl)) (by rfl), by decide +kernel, by decide +kernel, tb (List.mem_of_getElem? (i := 148) (by decide +kernel)) (by decide +kernel)⟩
set_option maxRecDepth 100000 in
theorem mk_X10_isMergedRow : mOK yX10_isMergedRow cX10_isMergedRow 5 (some .boolean) 2 := ⟨tb (List.mem_of_getElem? (i := 1789) (by rfl)) (by rfl), by decide +kernel, by decide +kernel, tb (List.mem_of_getElem? (i := 148) (by decide +kernel)) (by decide +kernel)⟩
set_option maxRecDepth 100000 in
theorem mk_X10_isNamed : mOK yX10_isNamed cX10_isNamed 4 (some .boolean) 2 := ⟨tb (List.mem_of_getElem? (i := 1785) (by rfl)) (by rfl), by decide +kernel, by decide +kernel, tb (List.mem_of_getElem? (i := 148) (by decide +kernel)) (by decide +kernel)⟩
set_option maxRecDepth 100000 in
theorem mk_X10_isRowChanged : mOK yX10_isRowChanged cX10_isRowChanged 5 (some .boolean) 3 := ⟨tb (List.mem_of_getElem? (i := 1793) (by rfl)) (by rfl), by decide +kernel, by decide +kernel, tb (List.mem_of_getElem? (i := 148) (by decide +kernel)) (by decide +kernel)⟩
set_option maxRecDepth 100000 in
theorem mk_X10_isSeen : mOK yX10_isSeen cX10_isSeen 5 (some .boolean) 1 := ⟨tb (List.mem_of_getElem? (i := 1966) (by rfl)) (by rfl), by decide +kernel, by decide +kernel, tb (List.mem_of_getElem? (i := 148) (by decide +kernel)) (by decide +kernel)⟩
set_option maxRecDepth 100000 in
theorem mk_X10_isSide : mOK yX10_isSide cX10_isSide 2 (some .boolean) 1 := ⟨tb (List.mem_of_getElem? (i := 1927) (by rfl)) (by rfl), by decide +kernel, by decide +kernel, tb (List.mem_of_getElem? (i := 148) (by decide +kernel)) (by decide +kernel)⟩
set_option maxRecDepth 100000 in
theorem mk_X10_isSign : mOK yX10_isSign cX10_isSign 2 (some .boolean) 1 := ⟨tb (List.mem_of_getElem? (i := 1610) (by rfl)) (by rfl), by decide +kernel, by decide +kernel, tb (List.mem_of_getElem? (i := 148) (by decide +kernel)) (by decide +kernel)⟩
set_option maxRecDepth 100000 in
theorem mk_X10_isTable : mOK yX10_isTable cX10_isTable 2 (some .boolean) 1 := ⟨tb (List.mem_of_getElem? (i := 1841) (by rfl)) (by rfl), by decide +kernel, by decide +kernel, tb (List.mem_of_getElem? (i := 148) (by decide +kernel)) (by decide +kernel)⟩
set_option maxRecDepth 100000 in
theorem mk_X10_isWhat : mOK yX10_isWhat cX10_isWhat 3 (some .boolean) 2 := ⟨tb (List.mem_of_getElem? (i := 1845) (by rfl)) (by rfl), by decide +kernel, by decide +kernel, tb (List.mem_of_getElem? (i := 148) (by decide +kernel)) (by decide +kernel)⟩
set_option maxRecDepth 100000 in
theorem mk_X10_keeps : mOK yX10_keeps cX10_keeps 2 none 0 := ⟨tb (List.mem_of_getElem? (i := 1706) (by rfl)) (by rfl), by decide +kernel, by decide +kernel, tb (List.mem_of_getElem? (i := 148) (by decide +kernel)) (by decide +kernel)⟩
set_option maxRecDepth 100000 in
theorem mk_X10_keysOf : mOK yX10_keysOf cX10_keysOf 2 (some .int) 1 := ⟨tb (List.mem_of_getElem? (i := 1853) (by rfl)) (by rfl), by decide +kernel, by decide +kernel, tb (List.mem_of_getElem? (i := 148) (by decide +kernel)) (by decide +kernel)⟩
set_option maxRecDepth 100000 in
theorem mk_X10_knownWord : mOK yX10_knownWord cX10_knownWord 2 (some .int) 0 := ⟨tb (List.mem_of_getElem? (i := 1548) (by rfl)) (by rfl), by decide +kernel, by decide +kernel, tb (List.mem_of_getElem? (i := 148) (by decide +kernel)) (by decide +kernel)⟩
set_option maxRecDepth 100000 in
theorem mk_X10_lays : mOK yX10_lays cX10_lays 3 none 1 := ⟨tb (List.mem_of_getElem? (i := 1514) (by rfl)) (by rfl), by decide +kernel, by decide +kernel, tb (List.mem_of_getElem? (i := 148) (by decide +kernel)) (by decide +kernel)⟩
set_option maxRecDepth 100000 in
theorem mk_X10_laysAlone : mOK yX10_laysAlone cX10_laysAlone 7 (some .int) 1 := ⟨tb (List.mem_of_getElem? (i := 1950) (by rfl)) (by rfl), by decide +kernel, by decide +kernel, tb (List.mem_of_getElem? (i := 148) (by decide +kernel)) (by decide +kernel)⟩
set_option maxRecDepth 100000 in
theorem mk_X10_lesser : mOK yX10_lesser cX10_lesser 2 (some .int) 2 := ⟨tb (List.mem_of_getElem? (i := 1942) (by rfl)) (by rfl), by decide +kernel, by decide +kernel, tb (List.mem_of_getElem? (i := 148) (by decide +kernel)) (by decide +kernel)⟩
set_option maxRecDepth 100000 in
theorem mk_X10_letters : mOK yX10_letters cX10_letters 1 (some .long) 1 := ⟨tb (List.mem_of_getElem? (i := 1551) (by rfl)) (by rfl), by decide +kernel, by decide +kernel, tb (List.mem_of_getElem? (i := 148) (by decide +kernel)) (by decide +kernel)⟩
set_option maxRecDepth 100000 in
theorem mk_X10_line : mOK yX10_line cX10_line 2 none 0 := ⟨tb (List.mem_of_getElem? (i := 1544) (by rfl)) (by rfl), by decide +kernel, by decide +kernel, tb (List.mem_of_getElem? (i := 148) (by decide +kernel)) (by decide +kernel)⟩
set_option maxRecDepth 100000 in
theorem mk_X10_mergedAt : mOK yX10_mergedAt cX10_mergedAt 3 (some .int) 2 := ⟨tb (List.mem_of_getElem? (i := 1817) (by rfl)) (by rfl), by decide +kernel, by decide +kernel, tb (List.mem_of_getElem? (i := 148) (by decide +kernel)) (by decide +kernel)⟩
set_option maxRecDepth 100000 in
theorem mk_X10_merges : mOK yX10_merges cX10_merges 4 none 1 := ⟨tb (List.mem_of_getElem? (i := 1738) (by rfl)) (by rfl), by decide +kernel, by decide +kernel, tb (List.mem_of_getElem? (i := 148) (by decide +kernel)) (by decide +kernel)⟩
set_option maxRecDepth 100000 in
theorem mk_X10_mergesAdded : mOK yX10_mergesAdded cX10_mergesAdded 5 none 1 := ⟨tb (List.mem_of_getElem? (i := 1777) (by rfl)) (by rfl), by decide +kernel, by decide +kernel, tb (List.mem_of_getElem? (i := 148) (by decide +kernel)) (by decide +kernel)⟩
set_option maxRecDepth 100000 in
theorem mk_X10_mergesCell : mOK yX10_mergesCell cX10_mergesCell 10 none 3 := ⟨tb (List.mem_of_getElem? (i := 1797) (by rfl)) (by rfl), by decide +kernel, by decide +kernel, tb (List.mem_of_getElem? (i := 148) (by decide +kernel)) (by decide +kernel)⟩
set_option maxRecDepth 100000 in
theorem mk_X10_mergesNames : mOK yX10_mergesNames cX10_mergesNames 5 none 1 := ⟨tb (List.mem_of_getElem? (i := 1781) (by rfl)) (by rfl), by decide +kernel, by decide +kernel, tb (List.mem_of_getElem? (i := 148) (by decide +kernel)) (by decide +kernel)⟩
set_option maxRecDepth 100000 in
theorem mk_X10_mergesOwn : mOK yX10_mergesOwn cX10_mergesOwn 6 none 2 := ⟨tb (List.mem_of_getElem? (i := 1742) (by rfl)) (by rfl), by decide +kernel, by decide +kernel, tb (List.mem_of_getElem? (i := 148) (by decide +kernel)) (by decide +kernel)⟩
set_option maxRecDepth 100000 in
theorem mk_X10_nameAt : mOK yX10_nameAt cX10_nameAt 4 (some .int) 3 := ⟨tb (List.mem_of_getElem? (i := 1586) (by rfl)) (by rfl), by decide +kernel, by decide +kernel, tb (List.mem_of_getElem? (i := 148) (by decide +kernel)) (by decide +kernel)⟩
set_option maxRecDepth 100000 in
theorem mk_X10_nameHere : mOK yX10_nameHere cX10_nameHere 1 (some .int) 0 := ⟨tb (List.mem_of_getElem? (i := 1571) (by rfl)) (by rfl), by decide +kernel, by decide +kernel, tb (List.mem_of_getElem? (i := 148) (by decide +kernel)) (by decide +kernel)⟩
set_option maxRecDepth 100000 in
theorem mk_X10_nameOf : mOK yX10_nameOf cX10_nameOf 7 (some .int) 2 := ⟨tb (List.mem_of_getElem? (i := 1746) (by rfl)) (by rfl), by decide +kernel, by decide +kernel, tb (List.mem_of_getElem? (i := 148) (by decide +kernel)) (by decide +kernel)⟩
set_option maxRecDepth 100000 in
theorem mk_X10_need : mOK yX10_need cX10_need 2 none 1 := ⟨tb (List.mem_of_getElem? (i := 1678) (by rfl)) (by rfl), by decide +kernel, by decide +kernel, tb (List.mem_of_getElem? (i := 148) (by decide +kernel)) (by decide +kernel)⟩
set_option maxRecDepth 100000 in
theorem mk_X10_nextColumn : mOK yX10_nextColumn cX10_nextColumn 3 (some .int) 2 := ⟨tb (List.mem_of_getElem? (i := 1674) (by rfl)) (by rfl), by decide +kernel, by decide +kernel, tb (List.mem_of_getElem? (i := 148) (by decide +kernel)) (by decide +kernel)⟩
set_option maxRecDepth 100000 in
theorem mk_X10_number : mOK yX10_number cX10_number 3 (some .int) 1 := ⟨tb (List.mem_of_getElem? (i := 1614) (by rfl)) (by rfl), by decide +kernel, by decide +kernel, tb (List.mem_of_getElem? (i := 148) (by decide +kernel)) (by decide +kernel)⟩
set_option maxRecDepth 100000 in
theorem mk_X10_numberHere : mOK yX10_numberHere cX10_numberHere 2 (some .int) 1 := ⟨tb (List.mem_of_getElem? (i := 1598) (by rfl)) (by rfl), by decide +kernel, by decide +kernel, tb (List.mem_of_getElem? (i := 148) (by decide +kernel)) (by decide +kernel)⟩
set_option maxRecDepth 100000 in
theorem mk_X10_readsColumn : mOK yX10_readsColumn cX10_readsColumn 4 none 0 := ⟨tb (List.mem_of_getElem? (i := 1567) (by rfl)) (by rfl), by decide +kernel, by decide +kernel, tb (List.mem_of_getElem? (i := 148) (by decide +kernel)) (by decide +kernel)⟩
set_option maxRecDepth 100000 in
theorem mk_X10_readsDemand : mOK yX10_readsDemand cX10_readsDemand 5 none 1 := ⟨tb (List.mem_of_getElem? (i := 1628) (by rfl)) (by rfl), by decide +kernel, by decide +kernel, tb (List.mem_of_getElem? (i := 148) (by decide +kernel)) (by decide +kernel)⟩
set_option maxRecDepth 100000 in
theorem mk_X10_readsEdit : mOK yX10_readsEdit cX10_readsEdit 8 none 1 := ⟨tb (List.mem_of_getElem? (i := 1636) (by rfl)) (by rfl), by decide +kernel, by decide +kernel, tb (List.mem_of_getElem? (i := 148) (by decide +kernel)) (by decide +kernel)⟩
set_option maxRecDepth 100000 in
theorem mk_X10_readsRow : mOK yX10_readsRow cX10_readsRow 5 none 0 := ⟨tb (List.mem_of_getElem? (i := 1594) (by rfl)) (by rfl), by decide +kernel, by decide +kernel, tb (List.mem_of_getElem? (i := 148) (by decide +kernel)) (by decide +kernel)⟩
set_option maxRecDepth 100000 in
theorem mk_X10_refuses : mOK yX10_refuses cX10_refuses 2 (some .int) 1 := ⟨tb (List.mem_of_getElem? (i := 1702) (by rfl)) (by rfl), by decide +kernel, by decide +kernel, tb (List.mem_of_getElem? (i := 148) (by decide +kernel)) (by decide +kernel)⟩
set_option maxRecDepth 100000 in
theorem mk_X10_rename : mOK yX10_rename cX10_rename 4 (some .boolean) 3 := ⟨tb (List.mem_of_getElem? (i := 1718) (by rfl)) (by rfl), by decide +kernel, by decide +kernel, tb (List.mem_of_getElem? (i := 148) (by decide +kernel)) (by decide +kernel)⟩
set_option maxRecDepth 100000 in
theorem mk_X10_renames : mOK yX10_renames cX10_renames 5 (some .boolean) 4 := ⟨tb (List.mem_of_getElem? (i := 1659) (by rfl)) (by rfl), by decide +kernel, by decide +kernel, tb (List.mem_of_getElem? (i := 148) (by decide +kernel)) (by decide +kernel)⟩
set_option maxRecDepth 100000 in
theorem mk_X10_restore : mOK yX10_restore cX10_restore 2 (some .boolean) 0 := ⟨tb (List.mem_of_getElem? (i := 1991) (by rfl)) (by rfl), by decide +kernel, by decide +kernel, tb (List.mem_of_getElem? (i := 148) (by decide +kernel)) (by decide +kernel)⟩
set_option maxRecDepth 100000 in
theorem mk_X10_retype : mOK yX10_retype cX10_retype 4 (some .boolean) 3 := ⟨tb (List.mem_of_getElem? (i := 1722) (by rfl)) (by rfl), by decide +kernel, by decide +kernel, tb (List.mem_of_getElem? (i := 148) (by decide +kernel)) (by decide +kernel)⟩
set_option maxRecDepth 100000 in
theorem mk_X10_retypes : mOK yX10_retypes cX10_retypes 6 (some .boolean) 4 := ⟨tb (List.mem_of_getElem? (i := 1663) (by rfl)) (by rfl), by decide +kernel, by decide +kernel, tb (List.mem_of_getElem? (i := 148) (by decide +kernel)) (by decide +kernel)⟩
set_option maxRecDepth 100000 in
theorem mk_X10_right : mOK yX10_right cX10_right 3 (some .boolean) 2 := ⟨tb (List.mem_of_getElem? (i := 1522) (by rfl)) (by rfl), by decide +kernel, by decide +kernel, tb (List.mem_of_getElem? (i := 148) (by decide +kernel)) (by decide +kernel)⟩
set_option maxRecDepth 100000 in
theorem mk_X10_see : mOK yX10_see cX10_see 4 (some .int) 3 := ⟨tb (List.mem_of_getElem? (i := 1954) (by rfl)) (by rfl), by decide +kernel, by decide +kernel, tb (List.mem_of_getElem? (i := 148) (by decide +kernel)) (by decide +kernel)⟩
set_option maxRecDepth 100000 in
theorem mk_X10_set : mOK yX10_set cX10_set 5 (some .boolean) 4 := ⟨tb (List.mem_of_getElem? (i := 1690) (by rfl)) (by rfl), by decide +kernel, by decide +kernel, tb (List.mem_of_getElem? (i := 148) (by decide +kernel)) (by decide +kernel)⟩
set_option maxRecDepth 100000 in
theorem mk_X10_sets : mOK yX10_sets cX10_sets 6 (some .boolean) 5 := ⟨tb (List.mem_of_getElem? (i := 1648) (by rfl)) (by rfl), by decide +kernel, by decide +kernel, tb (List.mem_of_getElem? (i := 148) (by decide +kernel)) (by decide +kernel)⟩
set_option maxRecDepth 100000 in
theorem mk_X10_settle : mOK yX10_settle cX10_settle 5 (some .int) 4 := ⟨tb (List.mem_of_getElem? (i := 1884) (by rfl)) (by rfl), by decide +kernel, by decide +kernel, tb (List.mem_of_getElem? (i := 148) (by decide +kernel)) (by decide +kernel)⟩
set_option maxRecDepth 100000 in
theorem mk_X10_sideCell : mOK yX10_sideCell cX10_sideCell 5 (some .int) 4 := ⟨tb (List.mem_of_getElem? (i := 1805) (by rfl)) (by rfl), by decide +kernel, by decide +kernel, tb (List.mem_of_getElem? (i := 148) (by decide +kernel)) (by decide +kernel)⟩
set_option maxRecDepth 100000 in
theorem mk_X10_sidesBegin : mOK yX10_sidesBegin cX10_sidesBegin 3 none 1 := ⟨tb (List.mem_of_getElem? (i := 1640) (by rfl)) (by rfl), by decide +kernel, by decide +kernel, tb (List.mem_of_getElem? (i := 148) (by decide +kernel)) (by decide +kernel)⟩
set_option maxRecDepth 100000 in
theorem mk_X10_spelled : mOK yX10_spelled cX10_spelled 8 (some .long) 6 := ⟨tb (List.mem_of_getElem? (i := 1554) (by rfl)) (by rfl), by decide +kernel, by decide +kernel, tb (List.mem_of_getElem? (i := 148) (by decide +kernel)) (by decide +kernel)⟩
set_option maxRecDepth 100000 in
theorem mk_X10_table : mOK yX10_table cX10_table 3 (some .int) 2 := ⟨tb (List.mem_of_getElem? (i := 1837) (by rfl)) (by rfl), by decide +kernel, by decide +kernel, tb (List.mem_of_getElem? (i := 148) (by decide +kernel)) (by decide +kernel)⟩
set_option maxRecDepth 100000 in
theorem mk_X10_tables : mOK yX10_tables cX10_tables 3 (some .int) 1 := ⟨tb (List.mem_of_getElem? (i := 1518) (by rfl)) (by rfl), by decide +kernel, by decide +kernel, tb (List.mem_of_getElem? (i := 148) (by decide +kernel)) (by decide +kernel)⟩
set_option maxRecDepth 100000 in
theorem mk_X10_takes : mOK yX10_takes cX10_takes 4 none 3 := ⟨tb (List.mem_of_getElem? (i := 1761) (by rfl)) (by rfl), by decide +kernel, by decide +kernel, tb (List.mem_of_getElem? (i := 148) (by decide +kernel)) (by decide +kernel)⟩
set_option maxRecDepth 100000 in
theorem mk_X10_thrown : mOK yX10_thrown cX10_thrown 1 (some .int) 0 := ⟨tb (List.mem_of_getElem? (i := 1506) (by rfl)) (by rfl), by decide +kernel, by decide +kernel, tb (List.mem_of_getElem? (i := 148) (by decide +kernel)) (by decide +kernel)⟩
set_option maxRecDepth 100000 in
theorem mk_X10_tries : mOK yX10_tries cX10_tries 2 none 0 := ⟨tb (List.mem_of_getElem? (i := 1698) (by rfl)) (by rfl), by decide +kernel, by decide +kernel, tb (List.mem_of_getElem? (i := 148) (by decide +kernel)) (by decide +kernel)⟩
set_option maxRecDepth 100000 in
theorem mk_X10_typeAt : mOK yX10_typeAt cX10_typeAt 4 (some .int) 3 := ⟨tb (List.mem_of_getElem? (i := 1618) (by rfl)) (by rfl), by decide +kernel, by decide +kernel, tb (List.mem_of_getElem? (i := 148) (by decide +kernel)) (by decide +kernel)⟩
set_option maxRecDepth 100000 in
theorem mk_X10_typeBy : mOK yX10_typeBy cX10_typeBy 7 (some .int) 2 := ⟨tb (List.mem_of_getElem? (i := 1757) (by rfl)) (by rfl), by decide +kernel, by decide +kernel, tb (List.mem_of_getElem? (i := 148) (by decide +kernel)) (by decide +kernel)⟩
set_option maxRecDepth 100000 in
theorem mk_X10_typeOf : mOK yX10_typeOf cX10_typeOf 2 (some .int) 0 := ⟨tb (List.mem_of_getElem? (i := 1590) (by rfl)) (by rfl), by decide +kernel, by decide +kernel, tb (List.mem_of_getElem? (i := 148) (by decide +kernel)) (by decide +kernel)⟩
set_option maxRecDepth 100000 in
theorem mk_X10_undo : mOK yX10_undo cX10_undo 2 (some .int) 0 := ⟨tb (List.mem_of_getElem? (i := 1686) (by rfl)) (by rfl), by decide +kernel, by decide +kernel, tb (List.mem_of_getElem? (i := 148) (by decide +kernel)) (by decide +kernel)⟩
set_option maxRecDepth 100000 in
theorem mk_X10_unsettle : mOK yX10_unsettle cX10_unsettle 6 (some .int) 3 := ⟨tb (List.mem_of_getElem? (i := 1892) (by rfl)) (by rfl), by decide +kernel, by decide +kernel, tb (List.mem_of_getElem? (i := 148) (by decide +kernel)) (by decide +kernel)⟩
set_option maxRecDepth 100000 in
theorem mk_X10_whose : mOK yX10_whose cX10_whose 3 (some .int) 2 := ⟨tb (List.mem_of_getElem? (i := 1873) (by rfl)) (by rfl), by decide +kernel, by decide +kernel, tb (List.mem_of_getElem? (i := 148) (by decide +kernel)) (by decide +kernel)⟩
set_option maxRecDepth 100000 in
theorem mk_X10_within : mOK yX10_within cX10_within 3 (some .boolean) 3 := ⟨tb (List.mem_of_getElem? (i := 1582) (by rfl)) (by rfl), by decide +kernel, by decide +kernel, tb (List.mem_of_getElem? (i := 148) (by decide +kernel)) (by decide +kernel)⟩
set_option maxRecDepth 100000 in
theorem mk_X10_wrong : mOK yX10_wrong cX10_wrong 2 none 1 := ⟨tb (List.mem_of_getElem? (i := 1563) (by rfl)) (by rfl), by decide +kernel, by decide +kernel, tb (List.mem_of_getElem? (i := 148) (by decide +kernel)) (by decide +kernel)⟩
set_option maxRecDepth 100000 in
theorem mk_X10_years : mOK yX10_years cX10_years 6 (some .int) 3 := ⟨tb (List.mem_of_getElem? (i := 1970) (by rfl)) (by rfl), by decide +kernel, by decide +kernel, tb (List.mem_of_getElem? (i := 148) (by decide +kernel)) (by decide +kernel)⟩
set_option maxRecDepth 100000 in
theorem mk_X1_choicesOf : mOK yX1_choicesOf cX1_choicesOf 1 (some .int) 1 := ⟨tb (List.mem_of_getElem? (i := 654) (by rfl)) (by rfl), by decide +kernel, by decide +kernel, tb (List.mem_of_getElem? (i := 161) (by decide +kernel)) (by decide +kernel)⟩
set_option maxRecDepth 100000 in
theorem mk_X1_firstOf : mOK yX1_firstOf cX1_firstOf 1 (some .int) 1 := ⟨tb (List.mem_of_getElem? (i := 1177) (by rfl)) (by rfl), by decide +kernel, by decide +kernel, tb (List.mem_of_getElem? (i := 161) (by decide +kernel)) (by decide +kernel)⟩
set_option maxRecDepth 100000 in
theorem mk_X1_idOf : mOK yX1_idOf cX1_idOf 3 (some .int) 3 := ⟨tb (List.mem_of_getElem? (i := 491) (by rfl)) (by rfl), by decide +kernel, by decide +kernel, tb (List.mem_of_getElem? (i := 161) (by decide +kernel)) (by decide +kernel)⟩
set_option maxRecDepth 100000 in
theorem mk_X1_isOfSides : mOK yX1_isOfSides cX1_isOfSides 2 (some .boolean) 1 := ⟨tb (List.mem_of_getElem? (i := 657) (by rfl)) (by rfl), by decide +kernel, by decide +kernel, tb (List.mem_of_getElem? (i := 161) (by decide +kernel)) (by decide +kernel)⟩
set_option maxRecDepth 100000 in
theorem mk_X1_kindOf : mOK yX1_kindOf cX1_kindOf 1 (some .int) 1 := ⟨tb (List.mem_of_getElem? (i := 660) (by rfl)) (by rfl), by decide +kernel, by decide +kernel, tb (List.mem_of_getElem? (i := 161) (by decide +kernel)) (by decide +kernel)⟩
set_option maxRecDepth 100000 in
theorem mk_X1_secondOf : mOK yX1_secondOf cX1_secondOf 1 (some .int) 1 := ⟨tb (List.mem_of_getElem? (i := 1180) (by rfl)) (by rfl), by decide +kernel, by decide +kernel, tb (List.mem_of_getElem? (i := 161) (by decide +kernel)) (by decide +kernel)⟩
set_option maxRecDepth 100000 in
theorem mk_X1_within : mOK yX1_within cX1_within 2 (some .boolean) 2 := ⟨tb (List.mem_of_getElem? (i := 494) (by rfl)) (by rfl), by decide +kernel, by decide +kernel, tb (List.mem_of_getElem? (i := 161) (by decide +kernel)) (by decide +kernel)⟩
set_option maxRecDepth 100000 in
theorem mk_X2_ask : mOK yX2_ask cX2_ask 6 (some .int) 4 := ⟨tb (List.mem_of_getElem? (i := 523) (by rfl)) (by rfl), by decide +kernel, by decide +kernel, tb (List.mem_of_getElem? (i := 143) (by decide +kernel)) (by decide +kernel)⟩
set_option maxRecDepth 100000 in
theorem mk_X2_checkDemand : mOK yX2_checkDemand cX2_checkDemand 8 none 2 := ⟨tb (List.mem_of_getElem? (i := 634) (by rfl)) (by rfl), by decide +kernel, by decide +kernel, tb (List.mem_of_getElem? (i := 143) (by decide +kernel)) (by decide +kernel)⟩
set_option maxRecDepth 100000 in
theorem mk_X2_chosen : mOK yX2_chosen cX2_chosen 4 (some .int) 4 := ⟨tb (List.mem_of_getElem? (i := 526) (by rfl)) (by rfl), by decide +kernel, by decide +kernel, tb (List.mem_of_getElem? (i := 143) (by decide +kernel)) (by decide +kernel)⟩
set_option maxRecDepth 100000 in
theorem mk_X2_isAtLesserKey : mOK yX2_isAtLesserKey cX2_isAtLesserKey 5 (some .boolean) 3 := ⟨tb (List.mem_of_getElem? (i := 642) (by rfl)) (by rfl), by decide +kernel, by decide +kernel, tb (List.mem_of_getElem? (i := 143) (by decide +kernel)) (by decide +kernel)⟩
set_option maxRecDepth 100000 in
theorem mk_X2_isBroken : mOK yX2_isBroken cX2_isBroken 7 (some .boolean) 4 := ⟨tb (List.mem_of_getElem? (i := 638) (by rfl)) (by rfl), by decide +kernel, by decide +kernel, tb (List.mem_of_getElem? (i := 143) (by decide +kernel)) (by decide +kernel)⟩
set_option maxRecDepth 100000 in
theorem mk_X2_isMerged : mOK yX2_isMerged cX2_isMerged 4 (some .boolean) 2 := ⟨tb (List.mem_of_getElem? (i := 1310) (by rfl)) (by rfl), by decide +kernel, by decide +kernel, tb (List.mem_of_getElem? (i := 143) (by decide +kernel)) (by decide +kernel)⟩
set_option maxRecDepth 100000 in
theorem mk_X2_isNameAhead : mOK yX2_isNameAhead cX2_isNameAhead 3 (some .boolean) 1 := ⟨tb (List.mem_of_getElem? (i := 577) (by rfl)) (by rfl), by decide +kernel, by decide +kernel, tb (List.mem_of_getElem? (i := 143) (by decide +kernel)) (by decide +kernel)⟩
set_option maxRecDepth 100000 in
theorem mk_X2_isOpen : mOK yX2_isOpen cX2_isOpen 3 (some .boolean) 1 := ⟨tb (List.mem_of_getElem? (i := 651) (by rfl)) (by rfl), by decide +kernel, by decide +kernel, tb (List.mem_of_getElem? (i := 143) (by decide +kernel)) (by decide +kernel)⟩
set_option maxRecDepth 100000 in
theorem mk_X2_leastFreeName : mOK yX2_leastFreeName cX2_leastFreeName 3 (some .int) 0 := ⟨tb (List.mem_of_getElem? (i := 581) (by rfl)) (by rfl), by decide +kernel, by decide +kernel, tb (List.mem_of_getElem? (i := 143) (by decide +kernel)) (by decide +kernel)⟩
set_option maxRecDepth 100000 in
theorem mk_X2_mergeAddedColumns : mOK yX2_mergeAddedColumns cX2_mergeAddedColumns 4 none 1 := ⟨tb (List.mem_of_getElem? (i := 565) (by rfl)) (by rfl), by decide +kernel, by decide +kernel, tb (List.mem_of_getElem? (i := 143) (by decide +kernel)) (by decide +kernel)⟩
set_option maxRecDepth 100000 in
theorem mk_X2_mergeCell : mOK yX2_mergeCell cX2_mergeCell 10 none 3 := ⟨tb (List.mem_of_getElem? (i := 618) (by rfl)) (by rfl), by decide +kernel, by decide +kernel, tb (List.mem_of_getElem? (i := 143) (by decide +kernel)) (by decide +kernel)⟩
set_option maxRecDepth 100000 in
theorem mk_X2_mergeCells : mOK yX2_mergeCells cX2_mergeCells 4 none 2 := ⟨tb (List.mem_of_getElem? (i := 614) (by rfl)) (by rfl), by decide +kernel, by decide +kernel, tb (List.mem_of_getElem? (i := 143) (by decide +kernel)) (by decide +kernel)⟩
set_option maxRecDepth 100000 in
theorem mk_X2_mergeColumn : mOK yX2_mergeColumn cX2_mergeColumn 8 none 2 := ⟨tb (List.mem_of_getElem? (i := 514) (by rfl)) (by rfl), by decide +kernel, by decide +kernel, tb (List.mem_of_getElem? (i := 143) (by decide +kernel)) (by decide +kernel)⟩
set_option maxRecDepth 100000 in
theorem mk_X2_mergeRow : mOK yX2_mergeRow cX2_mergeRow 6 none 2 := ⟨tb (List.mem_of_getElem? (i := 598) (by rfl)) (by rfl), by decide +kernel, by decide +kernel, tb (List.mem_of_getElem? (i := 143) (by decide +kernel)) (by decide +kernel)⟩
set_option maxRecDepth 100000 in
theorem mk_X2_mergedName : mOK yX2_mergedName cX2_mergedName 6 (some .int) 2 := ⟨tb (List.mem_of_getElem? (i := 518) (by rfl)) (by rfl), by decide +kernel, by decide +kernel, tb (List.mem_of_getElem? (i := 143) (by decide +kernel)) (by decide +kernel)⟩
set_option maxRecDepth 100000 in
theorem mk_X2_mergedType : mOK yX2_mergedType cX2_mergedType 7 (some .int) 2 := ⟨tb (List.mem_of_getElem? (i := 530) (by rfl)) (by rfl), by decide +kernel, by decide +kernel, tb (List.mem_of_getElem? (i := 143) (by decide +kernel)) (by decide +kernel)⟩
set_option maxRecDepth 100000 in
theorem mk_X2_partNames : mOK yX2_partNames cX2_partNames 4 none 1 := ⟨tb (List.mem_of_getElem? (i := 573) (by rfl)) (by rfl), by decide +kernel, by decide +kernel, tb (List.mem_of_getElem? (i := 143) (by decide +kernel)) (by decide +kernel)⟩
set_option maxRecDepth 100000 in
theorem mk_X2_putMerged : mOK yX2_putMerged cX2_putMerged 5 none 4 := ⟨tb (List.mem_of_getElem? (i := 625) (by rfl)) (by rfl), by decide +kernel, by decide +kernel, tb (List.mem_of_getElem? (i := 143) (by decide +kernel)) (by decide +kernel)⟩
set_option maxRecDepth 100000 in
theorem mk_X2_run : mOK yX2_run cX2_run 3 none 1 := ⟨tb (List.mem_of_getElem? (i := 502) (by rfl)) (by rfl), by decide +kernel, by decide +kernel, tb (List.mem_of_getElem? (i := 143) (by decide +kernel)) (by decide +kernel)⟩
set_option maxRecDepth 100000 in
theorem mk_X2_twinInLeft : mOK yX2_twinInLeft cX2_twinInLeft 4 (some .int) 2 := ⟨tb (List.mem_of_getElem? (i := 569) (by rfl)) (by rfl), by decide +kernel, by decide +kernel, tb (List.mem_of_getElem? (i := 143) (by decide +kernel)) (by decide +kernel)⟩
set_option maxRecDepth 100000 in
theorem mk_X3_answerTo : mOK yX3_answerTo cX3_answerTo 4 (some .int) 2 := ⟨tb (List.mem_of_getElem? (i := 1293) (by rfl)) (by rfl), by decide +kernel, by decide +kernel, tb (List.mem_of_getElem? (i := 147) (by decide +kernel)) (by decide +kernel)⟩
set_option maxRecDepth 100000 in
theorem mk_X3_clear : mOK yX3_clear cX3_clear 1 none 0 := ⟨tb (List.mem_of_getElem? (i := 704) (by rfl)) (by rfl), by decide +kernel, by decide +kernel, tb (List.mem_of_getElem? (i := 147) (by decide +kernel)) (by decide +kernel)⟩
set_option maxRecDepth 100000 in
theorem mk_X3_draw : mOK yX3_draw cX3_draw 2 (some .int) 1 := ⟨tb (List.mem_of_getElem? (i := 1368) (by rfl)) (by rfl), by decide +kernel, by decide +kernel, tb (List.mem_of_getElem? (i := 147) (by decide +kernel)) (by decide +kernel)⟩
set_option maxRecDepth 100000 in
theorem mk_X3_findAlone : mOK yX3_findAlone cX3_findAlone 8 none 2 := ⟨tb (List.mem_of_getElem? (i := 1314) (by rfl)) (by rfl), by decide +kernel, by decide +kernel, tb (List.mem_of_getElem? (i := 147) (by decide +kernel)) (by decide +kernel)⟩
set_option maxRecDepth 100000 in
theorem mk_X3_findAlong : mOK yX3_findAlong cX3_findAlong 5 none 2 := ⟨tb (List.mem_of_getElem? (i := 1280) (by rfl)) (by rfl), by decide +kernel, by decide +kernel, tb (List.mem_of_getElem? (i := 147) (by decide +kernel)) (by decide +kernel)⟩
set_option maxRecDepth 100000 in
theorem mk_X3_findEdited : mOK yX3_findEdited cX3_findEdited 9 none 2 := ⟨tb (List.mem_of_getElem? (i := 1336) (by rfl)) (by rfl), by decide +kernel, by decide +kernel, tb (List.mem_of_getElem? (i := 147) (by decide +kernel)) (by decide +kernel)⟩
set_option maxRecDepth 100000 in
theorem mk_X3_findYears : mOK yX3_findYears cX3_findYears 6 none 3 := ⟨tb (List.mem_of_getElem? (i := 1360) (by rfl)) (by rfl), by decide +kernel, by decide +kernel, tb (List.mem_of_getElem? (i := 147) (by decide +kernel)) (by decide +kernel)⟩
set_option maxRecDepth 100000 in
theorem mk_X3_keepAnswer : mOK yX3_keepAnswer cX3_keepAnswer 5 none 4 := ⟨tb (List.mem_of_getElem? (i := 1289) (by rfl)) (by rfl), by decide +kernel, by decide +kernel, tb (List.mem_of_getElem? (i := 147) (by decide +kernel)) (by decide +kernel)⟩
set_option maxRecDepth 100000 in
theorem mk_X3_knows : mOK yX3_knows cX3_knows 2 (some .boolean) 1 := ⟨tb (List.mem_of_getElem? (i := 1276) (by rfl)) (by rfl), by decide +kernel, by decide +kernel, tb (List.mem_of_getElem? (i := 147) (by decide +kernel)) (by decide +kernel)⟩
set_option maxRecDepth 100000 in
theorem mk_X3_leavePicked : mOK yX3_leavePicked cX3_leavePicked 10 none 3 := ⟨tb (List.mem_of_getElem? (i := 1318) (by rfl)) (by rfl), by decide +kernel, by decide +kernel, tb (List.mem_of_getElem? (i := 147) (by decide +kernel)) (by decide +kernel)⟩
set_option maxRecDepth 100000 in
theorem mk_X3_passYear : mOK yX3_passYear cX3_passYear 5 (some .boolean) 0 := ⟨tb (List.mem_of_getElem? (i := 1364) (by rfl)) (by rfl), by decide +kernel, by decide +kernel, tb (List.mem_of_getElem? (i := 147) (by decide +kernel)) (by decide +kernel)⟩
set_option maxRecDepth 100000 in
theorem mk_X3_pickChanged : mOK yX3_pickChanged cX3_pickChanged 6 none 3 := ⟨tb (List.mem_of_getElem? (i := 1304) (by rfl)) (by rfl), by decide +kernel, by decide +kernel, tb (List.mem_of_getElem? (i := 147) (by decide +kernel)) (by decide +kernel)⟩
set_option maxRecDepth 100000 in
theorem mk_X3_wouldBeSo : mOK yX3_wouldBeSo cX3_wouldBeSo 7 (some .boolean) 5 := ⟨tb (List.mem_of_getElem? (i := 1347) (by rfl)) (by rfl), by decide +kernel, by decide +kernel, tb (List.mem_of_getElem? (i := 147) (by decide +kernel)) (by decide +kernel)⟩
set_option maxRecDepth 100000 in
theorem mk_X4_clear : mOK yX4_clear cX4_clear 1 none 0 := ⟨tb (List.mem_of_getElem? (i := 796) (by rfl)) (by rfl), by decide +kernel, by decide +kernel, tb (List.mem_of_getElem? (i := 146) (by decide +kernel)) (by decide +kernel)⟩
set_option maxRecDepth 100000 in
theorem mk_X4_copyFrom : mOK yX4_copyFrom cX4_copyFrom 2 none 1 := ⟨tb (List.mem_of_getElem? (i := 809) (by rfl)) (by rfl), by decide +kernel, by decide +kernel, tb (List.mem_of_getElem? (i := 146) (by decide +kernel)) (by decide +kernel)⟩
set_option maxRecDepth 100000 in
theorem mk_X4_isSo : mOK yX4_isSo cX4_isSo 3 (some .boolean) 1 := ⟨tb (List.mem_of_getElem? (i := 1340) (by rfl)) (by rfl), by decide +kernel, by decide +kernel, tb (List.mem_of_getElem? (i := 146) (by decide +kernel)) (by decide +kernel)⟩
set_option maxRecDepth 100000 in
theorem mk_X4_note : mOK yX4_note cX4_note 4 (some .boolean) 3 := ⟨tb (List.mem_of_getElem? (i := 785) (by rfl)) (by rfl), by decide +kernel, by decide +kernel, tb (List.mem_of_getElem? (i := 146) (by decide +kernel)) (by decide +kernel)⟩
set_option maxRecDepth 100000 in
theorem mk_X5_addColumn : mOK yX5_addColumn cX5_addColumn 7 (some .int) 3 := ⟨tb (List.mem_of_getElem? (i := 1083) (by rfl)) (by rfl), by decide +kernel, by decide +kernel, tb (List.mem_of_getElem? (i := 140) (by decide +kernel)) (by decide +kernel)⟩
set_option maxRecDepth 100000 in
theorem mk_X5_baseCast : mOK yX5_baseCast cX5_baseCast 6 (some .int) 3 := ⟨tb (List.mem_of_getElem? (i := 1324) (by rfl)) (by rfl), by decide +kernel, by decide +kernel, tb (List.mem_of_getElem? (i := 140) (by decide +kernel)) (by decide +kernel)⟩
set_option maxRecDepth 100000 in
theorem mk_X5_becomeMerged : mOK yX5_becomeMerged cX5_becomeMerged 5 none 1 := ⟨tb (List.mem_of_getElem? (i := 749) (by rfl)) (by rfl), by decide +kernel, by decide +kernel, tb (List.mem_of_getElem? (i := 140) (by decide +kernel)) (by decide +kernel)⟩
set_option maxRecDepth 100000 in
theorem mk_X5_changeChoicesAbout : mOK yX5_changeChoicesAbout cX5_changeChoicesAbout 3 none 0 := ⟨tb (List.mem_of_getElem? (i := 728) (by rfl)) (by rfl), by decide +kernel, by decide +kernel, tb (List.mem_of_getElem? (i := 140) (by decide +kernel)) (by decide +kernel)⟩
set_option maxRecDepth 100000 in
theorem mk_X5_clear : mOK yX5_clear cX5_clear 1 none 0 := ⟨tb (List.mem_of_getElem? (i := 900) (by rfl)) (by rfl), by decide +kernel, by decide +kernel, tb (List.mem_of_getElem? (i := 140) (by decide +kernel)) (by decide +kernel)⟩
set_option maxRecDepth 100000 in
theorem mk_X5_copyFrom : mOK yX5_copyFrom cX5_copyFrom 2 none 1 := ⟨tb (List.mem_of_getElem? (i := 680) (by rfl)) (by rfl), by decide +kernel, by decide +kernel, tb (List.mem_of_getElem? (i := 140) (by decide +kernel)) (by decide +kernel)⟩
set_option maxRecDepth 100000 in
theorem mk_X5_countChanged : mOK yX5_countChanged cX5_countChanged 5 (some .int) 1 := ⟨tb (List.mem_of_getElem? (i := 1251) (by rfl)) (by rfl), by decide +kernel, by decide +kernel, tb (List.mem_of_getElem? (i := 140) (by decide +kernel)) (by decide +kernel)⟩
set_option maxRecDepth 100000 in
theorem mk_X5_countChoices : mOK yX5_countChoices cX5_countChoices 3 (some .int) 0 := ⟨tb (List.mem_of_getElem? (i := 1105) (by rfl)) (by rfl), by decide +kernel, by decide +kernel, tb (List.mem_of_getElem? (i := 140) (by decide +kernel)) (by decide +kernel)⟩
set_option maxRecDepth 100000 in
theorem mk_X5_deleteRow : mOK yX5_deleteRow cX5_deleteRow 3 (some .boolean) 2 := ⟨tb (List.mem_of_getElem? (i := 1069) (by rfl)) (by rfl), by decide +kernel, by decide +kernel, tb (List.mem_of_getElem? (i := 140) (by decide +kernel)) (by decide +kernel)⟩
set_option maxRecDepth 100000 in
theorem mk_X5_doEdit : mOK yX5_doEdit cX5_doEdit 7 (some .int) 5 := ⟨tb (List.mem_of_getElem? (i := 1054) (by rfl)) (by rfl), by decide +kernel, by decide +kernel, tb (List.mem_of_getElem? (i := 140) (by decide +kernel)) (by decide +kernel)⟩
set_option maxRecDepth 100000 in
theorem mk_X5_dropColumn : mOK yX5_dropColumn cX5_dropColumn 3 (some .boolean) 2 := ⟨tb (List.mem_of_getElem? (i := 1087) (by rfl)) (by rfl), by decide +kernel, by decide +kernel, tb (List.mem_of_getElem? (i := 140) (by decide +kernel)) (by decide +kernel)⟩
set_option maxRecDepth 100000 in
theorem mk_X5_insertRow : mOK yX5_insertRow cX5_insertRow 3 (some .boolean) 2 := ⟨tb (List.mem_of_getElem? (i := 1063) (by rfl)) (by rfl), by decide +kernel, by decide +kernel, tb (List.mem_of_getElem? (i := 140) (by decide +kernel)) (by decide +kernel)⟩
set_option maxRecDepth 100000 in
theorem mk_X5_isChanged : mOK yX5_isChanged cX5_isChanged 5 (some .boolean) 3 := ⟨tb (List.mem_of_getElem? (i := 549) (by rfl)) (by rfl), by decide +kernel, by decide +kernel, tb (List.mem_of_getElem? (i := 140) (by decide +kernel)) (by decide +kernel)⟩
set_option maxRecDepth 100000 in
theorem mk_X5_isColumnChanged : mOK yX5_isColumnChanged cX5_isColumnChanged 4 (some .boolean) 2 := ⟨tb (List.mem_of_getElem? (i := 545) (by rfl)) (by rfl), by decide +kernel, by decide +kernel, tb (List.mem_of_getElem? (i := 140) (by decide +kernel)) (by decide +kernel)⟩
set_option maxRecDepth 100000 in
theorem mk_X5_isRowChanged : mOK yX5_isRowChanged cX5_isRowChanged 4 (some .boolean) 2 := ⟨tb (List.mem_of_getElem? (i := 606) (by rfl)) (by rfl), by decide +kernel, by decide +kernel, tb (List.mem_of_getElem? (i := 140) (by decide +kernel)) (by decide +kernel)⟩
set_option maxRecDepth 100000 in
theorem mk_X5_keepDemandsOf : mOK yX5_keepDemandsOf cX5_keepDemandsOf 6 none 1 := ⟨tb (List.mem_of_getElem? (i := 753) (by rfl)) (by rfl), by decide +kernel, by decide +kernel, tb (List.mem_of_getElem? (i := 140) (by decide +kernel)) (by decide +kernel)⟩
set_option maxRecDepth 100000 in
theorem mk_X5_placeAmong : mOK yX5_placeAmong cX5_placeAmong 2 (some .int) 2 := ⟨tb (List.mem_of_getElem? (i := 757) (by rfl)) (by rfl), by decide +kernel, by decide +kernel, tb (List.mem_of_getElem? (i := 140) (by decide +kernel)) (by decide +kernel)⟩
set_option maxRecDepth 100000 in
theorem mk_X5_putDemand : mOK yX5_putDemand cX5_putDemand 4 none 3 := ⟨tb (List.mem_of_getElem? (i := 762) (by rfl)) (by rfl), by decide +kernel, by decide +kernel, tb (List.mem_of_getElem? (i := 140) (by decide +kernel)) (by decide +kernel)⟩
set_option maxRecDepth 100000 in
theorem mk_X5_renameColumn : mOK yX5_renameColumn cX5_renameColumn 4 (some .boolean) 3 := ⟨tb (List.mem_of_getElem? (i := 1078) (by rfl)) (by rfl), by decide +kernel, by decide +kernel, tb (List.mem_of_getElem? (i := 140) (by decide +kernel)) (by decide +kernel)⟩
set_option maxRecDepth 100000 in
theorem mk_X5_retypeColumn : mOK yX5_retypeColumn cX5_retypeColumn 5 (some .boolean) 3 := ⟨tb (List.mem_of_getElem? (i := 1074) (by rfl)) (by rfl), by decide +kernel, by decide +kernel, tb (List.mem_of_getElem? (i := 140) (by decide +kernel)) (by decide +kernel)⟩
set_option maxRecDepth 100000 in
theorem mk_X5_setNumber : mOK yX5_setNumber cX5_setNumber 5 (some .boolean) 4 := ⟨tb (List.mem_of_getElem? (i := 1058) (by rfl)) (by rfl), by decide +kernel, by decide +kernel, tb (List.mem_of_getElem? (i := 140) (by decide +kernel)) (by decide +kernel)⟩
set_option maxRecDepth 100000 in
theorem mk_X5_sideOf : mOK yX5_sideOf cX5_sideOf 2 (some (.object "TableMerge$Table")) 1 := ⟨tb (List.mem_of_getElem? (i := 541) (by rfl)) (by rfl), by decide +kernel, by decide +kernel, tb (List.mem_of_getElem? (i := 140) (by decide +kernel)) (by decide +kernel)⟩
set_option maxRecDepth 100000 in
theorem mk_X5_startSides : mOK yX5_startSides cX5_startSides 1 none 0 := ⟨tb (List.mem_of_getElem? (i := 769) (by rfl)) (by rfl), by decide +kernel, by decide +kernel, tb (List.mem_of_getElem? (i := 140) (by decide +kernel)) (by decide +kernel)⟩
set_option maxRecDepth 100000 in
theorem mk_X5_swapChoices : mOK yX5_swapChoices cX5_swapChoices 6 none 5 := ⟨tb (List.mem_of_getElem? (i := 732) (by rfl)) (by rfl), by decide +kernel, by decide +kernel, tb (List.mem_of_getElem? (i := 140) (by decide +kernel)) (by decide +kernel)⟩
set_option maxRecDepth 100000 in
theorem mk_X6_clear : mOK yX6_clear cX6_clear 1 none 0 := ⟨tb (List.mem_of_getElem? (i := 506) (by rfl)) (by rfl), by decide +kernel, by decide +kernel, tb (List.mem_of_getElem? (i := 141) (by decide +kernel)) (by decide +kernel)⟩
set_option maxRecDepth 100000 in
theorem mk_X6_copyFrom : mOK yX6_copyFrom cX6_copyFrom 2 none 1 := ⟨tb (List.mem_of_getElem? (i := 684) (by rfl)) (by rfl), by decide +kernel, by decide +kernel, tb (List.mem_of_getElem? (i := 141) (by decide +kernel)) (by decide +kernel)⟩
set_option maxRecDepth 100000 in
theorem mk_X6_countFull : mOK yX6_countFull cX6_countFull 3 (some .int) 0 := ⟨tb (List.mem_of_getElem? (i := 1109) (by rfl)) (by rfl), by decide +kernel, by decide +kernel, tb (List.mem_of_getElem? (i := 141) (by decide +kernel)) (by decide +kernel)⟩
set_option maxRecDepth 100000 in
theorem mk_X6_countOtherNames : mOK yX6_countOtherNames cX6_countOtherNames 4 (some .int) 1 := ⟨tb (List.mem_of_getElem? (i := 1255) (by rfl)) (by rfl), by decide +kernel, by decide +kernel, tb (List.mem_of_getElem? (i := 141) (by decide +kernel)) (by decide +kernel)⟩
set_option maxRecDepth 100000 in
theorem mk_X6_countOtherTypes : mOK yX6_countOtherTypes cX6_countOtherTypes 4 (some .int) 1 := ⟨tb (List.mem_of_getElem? (i := 1259) (by rfl)) (by rfl), by decide +kernel, by decide +kernel, tb (List.mem_of_getElem? (i := 141) (by decide +kernel)) (by decide +kernel)⟩
set_option maxRecDepth 100000 in
theorem mk_X6_hasCell : mOK yX6_hasCell cX6_hasCell 3 (some .boolean) 2 := ⟨tb (List.mem_of_getElem? (i := 554) (by rfl)) (by rfl), by decide +kernel, by decide +kernel, tb (List.mem_of_getElem? (i := 141) (by decide +kernel)) (by decide +kernel)⟩
set_option maxRecDepth 100000 in
theorem mk_X6_hasColumn : mOK yX6_hasColumn cX6_hasColumn 2 (some .boolean) 1 := ⟨tb (List.mem_of_getElem? (i := 510) (by rfl)) (by rfl), by decide +kernel, by decide +kernel, tb (List.mem_of_getElem? (i := 141) (by decide +kernel)) (by decide +kernel)⟩
set_option maxRecDepth 100000 in
theorem mk_X6_hasName : mOK yX6_hasName cX6_hasName 3 (some .boolean) 1 := ⟨tb (List.mem_of_getElem? (i := 585) (by rfl)) (by rfl), by decide +kernel, by decide +kernel, tb (List.mem_of_getElem? (i := 141) (by decide +kernel)) (by decide +kernel)⟩
set_option maxRecDepth 100000 in
theorem mk_X6_hasRow : mOK yX6_hasRow cX6_hasRow 2 (some .boolean) 1 := ⟨tb (List.mem_of_getElem? (i := 602) (by rfl)) (by rfl), by decide +kernel, by decide +kernel, tb (List.mem_of_getElem? (i := 141) (by decide +kernel)) (by decide +kernel)⟩
set_option maxRecDepth 100000 in
theorem mk_X6_numberAt : mOK yX6_numberAt cX6_numberAt 3 (some .int) 2 := ⟨tb (List.mem_of_getElem? (i := 558) (by rfl)) (by rfl), by decide +kernel, by decide +kernel, tb (List.mem_of_getElem? (i := 141) (by decide +kernel)) (by decide +kernel)⟩
set_option maxRecDepth 100000 in
theorem mk_X6_putColumn : mOK yX6_putColumn cX6_putColumn 4 none 3 := ⟨tb (List.mem_of_getElem? (i := 537) (by rfl)) (by rfl), by decide +kernel, by decide +kernel, tb (List.mem_of_getElem? (i := 141) (by decide +kernel)) (by decide +kernel)⟩
set_option maxRecDepth 100000 in
theorem mk_X6_putNumber : mOK yX6_putNumber cX6_putNumber 4 none 3 := ⟨tb (List.mem_of_getElem? (i := 594) (by rfl)) (by rfl), by decide +kernel, by decide +kernel, tb (List.mem_of_getElem? (i := 141) (by decide +kernel)) (by decide +kernel)⟩
set_option maxRecDepth 100000 in
theorem mk_X6_putRow : mOK yX6_putRow cX6_putRow 2 none 1 := ⟨tb (List.mem_of_getElem? (i := 610) (by rfl)) (by rfl), by decide +kernel, by decide +kernel, tb (List.mem_of_getElem? (i := 141) (by decide +kernel)) (by decide +kernel)⟩
set_option maxRecDepth 100000 in
theorem mk_X6_renumberAdded : mOK yX6_renumberAdded cX6_renumberAdded 5 none 0 := ⟨tb (List.mem_of_getElem? (i := 721) (by rfl)) (by rfl), by decide +kernel, by decide +kernel, tb (List.mem_of_getElem? (i := 141) (by decide +kernel)) (by decide +kernel)⟩
set_option maxRecDepth 100000 in
theorem mk_X6_swap : mOK yX6_swap cX6_swap 4 none 3 := ⟨tb (List.mem_of_getElem? (i := 724) (by rfl)) (by rfl), by decide +kernel, by decide +kernel, tb (List.mem_of_getElem? (i := 141) (by decide +kernel)) (by decide +kernel)⟩
set_option maxRecDepth 100000 in
theorem mk_X6_takeColumn : mOK yX6_takeColumn cX6_takeColumn 3 none 1 := ⟨tb (List.mem_of_getElem? (i := 590) (by rfl)) (by rfl), by decide +kernel, by decide +kernel, tb (List.mem_of_getElem? (i := 141) (by decide +kernel)) (by decide +kernel)⟩
set_option maxRecDepth 100000 in
theorem mk_X6_takeRow : mOK yX6_takeRow cX6_takeRow 3 none 1 := ⟨tb (List.mem_of_getElem? (i := 646) (by rfl)) (by rfl), by decide +kernel, by decide +kernel, tb (List.mem_of_getElem? (i := 141) (by decide +kernel)) (by decide +kernel)⟩
set_option maxRecDepth 100000 in
theorem mk_X7_append : mOK yX7_append cX7_append 3 none 1 := ⟨tb (List.mem_of_getElem? (i := 479) (by rfl)) (by rfl), by decide +kernel, by decide +kernel, tb (List.mem_of_getElem? (i := 144) (by decide +kernel)) (by decide +kernel)⟩
set_option maxRecDepth 100000 in
theorem mk_X7_fail : mOK yX7_fail cX7_fail 3 (some .int) 2 := ⟨tb (List.mem_of_getElem? (i := 977) (by rfl)) (by rfl), by decide +kernel, by decide +kernel, tb (List.mem_of_getElem? (i := 144) (by decide +kernel)) (by decide +kernel)⟩
set_option maxRecDepth 100000 in
theorem mk_X7_hasRoom : mOK yX7_hasRoom cX7_hasRoom 2 (some .boolean) 1 := ⟨tb (List.mem_of_getElem? (i := 475) (by rfl)) (by rfl), by decide +kernel, by decide +kernel, tb (List.mem_of_getElem? (i := 144) (by decide +kernel)) (by decide +kernel)⟩
set_option maxRecDepth 100000 in
theorem mk_X7_isSign : mOK yX7_isSign cX7_isSign 2 (some .boolean) 1 := ⟨tb (List.mem_of_getElem? (i := 1002) (by rfl)) (by rfl), by decide +kernel, by decide +kernel, tb (List.mem_of_getElem? (i := 144) (by decide +kernel)) (by decide +kernel)⟩
set_option maxRecDepth 100000 in
theorem mk_X7_isWord : mOK yX7_isWord cX7_isWord 3 (some .boolean) 1 := ⟨tb (List.mem_of_getElem? (i := 916) (by rfl)) (by rfl), by decide +kernel, by decide +kernel, tb (List.mem_of_getElem? (i := 144) (by decide +kernel)) (by decide +kernel)⟩
set_option maxRecDepth 100000 in
theorem mk_X7_kindOf : mOK yX7_kindOf cX7_kindOf 1 (some .int) 1 := ⟨tb (List.mem_of_getElem? (i := 907) (by rfl)) (by rfl), by decide +kernel, by decide +kernel, tb (List.mem_of_getElem? (i := 144) (by decide +kernel)) (by decide +kernel)⟩
set_option maxRecDepth 100000 in
theorem mk_X7_passed : mOK yX7_passed cX7_passed 2 (some .int) 1 := ⟨tb (List.mem_of_getElem? (i := 985) (by rfl)) (by rfl), by decide +kernel, by decide +kernel, tb (List.mem_of_getElem? (i := 144) (by decide +kernel)) (by decide +kernel)⟩
set_option maxRecDepth 100000 in
theorem mk_X7_readColumn : mOK yX7_readColumn cX7_readColumn 5 none 0 := ⟨tb (List.mem_of_getElem? (i := 968) (by rfl)) (by rfl), by decide +kernel, by decide +kernel, tb (List.mem_of_getElem? (i := 144) (by decide +kernel)) (by decide +kernel)⟩
set_option maxRecDepth 100000 in
theorem mk_X7_readDemand : mOK yX7_readDemand cX7_readDemand 4 none 1 := ⟨tb (List.mem_of_getElem? (i := 1026) (by rfl)) (by rfl), by decide +kernel, by decide +kernel, tb (List.mem_of_getElem? (i := 144) (by decide +kernel)) (by decide +kernel)⟩
set_option maxRecDepth 100000 in
theorem mk_X7_readEdit : mOK yX7_readEdit cX7_readEdit 7 none 1 := ⟨tb (List.mem_of_getElem? (i := 1038) (by rfl)) (by rfl), by decide +kernel, by decide +kernel, tb (List.mem_of_getElem? (i := 144) (by decide +kernel)) (by decide +kernel)⟩
set_option maxRecDepth 100000 in
theorem mk_X7_readLine : mOK yX7_readLine cX7_readLine 1 none 0 := ⟨tb (List.mem_of_getElem? (i := 911) (by rfl)) (by rfl), by decide +kernel, by decide +kernel, tb (List.mem_of_getElem? (i := 144) (by decide +kernel)) (by decide +kernel)⟩
set_option maxRecDepth 100000 in
theorem mk_X7_readRow : mOK yX7_readRow cX7_readRow 6 none 0 := ⟨tb (List.mem_of_getElem? (i := 1008) (by rfl)) (by rfl), by decide +kernel, by decide +kernel, tb (List.mem_of_getElem? (i := 144) (by decide +kernel)) (by decide +kernel)⟩
set_option maxRecDepth 100000 in
theorem mk_X7_readTables : mOK yX7_readTables cX7_readTables 3 (some .int) 1 := ⟨tb (List.mem_of_getElem? (i := 892) (by rfl)) (by rfl), by decide +kernel, by decide +kernel, tb (List.mem_of_getElem? (i := 144) (by decide +kernel)) (by decide +kernel)⟩
set_option maxRecDepth 100000 in
theorem mk_X7_step : mOK yX7_step cX7_step 1 none 0 := ⟨tb (List.mem_of_getElem? (i := 904) (by rfl)) (by rfl), by decide +kernel, by decide +kernel, tb (List.mem_of_getElem? (i := 144) (by decide +kernel)) (by decide +kernel)⟩
set_option maxRecDepth 100000 in
theorem mk_X7_takeCell : mOK yX7_takeCell cX7_takeCell 3 (some .int) 0 := ⟨tb (List.mem_of_getElem? (i := 1019) (by rfl)) (by rfl), by decide +kernel, by decide +kernel, tb (List.mem_of_getElem? (i := 144) (by decide +kernel)) (by decide +kernel)⟩
set_option maxRecDepth 100000 in
theorem mk_X7_takeDemanded : mOK yX7_takeDemanded cX7_takeDemanded 4 (some .int) 1 := ⟨tb (List.mem_of_getElem? (i := 1030) (by rfl)) (by rfl), by decide +kernel, by decide +kernel, tb (List.mem_of_getElem? (i := 144) (by decide +kernel)) (by decide +kernel)⟩
set_option maxRecDepth 100000 in
theorem mk_X7_takeEditWord : mOK yX7_takeEditWord cX7_takeEditWord 2 (some .int) 0 := ⟨tb (List.mem_of_getElem? (i := 1043) (by rfl)) (by rfl), by decide +kernel, by decide +kernel, tb (List.mem_of_getElem? (i := 144) (by decide +kernel)) (by decide +kernel)⟩
set_option maxRecDepth 100000 in
theorem mk_X7_takeHead : mOK yX7_takeHead cX7_takeHead 3 none 2 := ⟨tb (List.mem_of_getElem? (i := 973) (by rfl)) (by rfl), by decide +kernel, by decide +kernel, tb (List.mem_of_getElem? (i := 144) (by decide +kernel)) (by decide +kernel)⟩
set_option maxRecDepth 100000 in
theorem mk_X7_takeName : mOK yX7_takeName cX7_takeName 1 (some .int) 0 := ⟨tb (List.mem_of_getElem? (i := 981) (by rfl)) (by rfl), by decide +kernel, by decide +kernel, tb (List.mem_of_getElem? (i := 144) (by decide +kernel)) (by decide +kernel)⟩
set_option maxRecDepth 100000 in
theorem mk_X7_takeNumber : mOK yX7_takeNumber cX7_takeNumber 4 (some .int) 1 := ⟨tb (List.mem_of_getElem? (i := 1012) (by rfl)) (by rfl), by decide +kernel, by decide +kernel, tb (List.mem_of_getElem? (i := 144) (by decide +kernel)) (by decide +kernel)⟩
set_option maxRecDepth 100000 in
theorem mk_X7_takeSemicolon : mOK yX7_takeSemicolon cX7_takeSemicolon 1 none 0 := ⟨tb (List.mem_of_getElem? (i := 998) (by rfl)) (by rfl), by decide +kernel, by decide +kernel, tb (List.mem_of_getElem? (i := 144) (by decide +kernel)) (by decide +kernel)⟩
set_option maxRecDepth 100000 in
theorem mk_X7_takeType : mOK yX7_takeType cX7_takeType 1 (some .int) 0 := ⟨tb (List.mem_of_getElem? (i := 990) (by rfl)) (by rfl), by decide +kernel, by decide +kernel, tb (List.mem_of_getElem? (i := 144) (by decide +kernel)) (by decide +kernel)⟩
set_option maxRecDepth 100000 in
theorem mk_X8_cast : mOK yX8_cast cX8_cast 2 (some .int) 2 := ⟨tb (List.mem_of_getElem? (i := 561) (by rfl)) (by rfl), by decide +kernel, by decide +kernel, tb (List.mem_of_getElem? (i := 160) (by decide +kernel)) (by decide +kernel)⟩
set_option maxRecDepth 100000 in
theorem mk_X8_holds : mOK yX8_holds cX8_holds 2 (some .boolean) 2 := ⟨tb (List.mem_of_getElem? (i := 788) (by rfl)) (by rfl), by decide +kernel, by decide +kernel, tb (List.mem_of_getElem? (i := 160) (by decide +kernel)) (by decide +kernel)⟩
set_option maxRecDepth 100000 in
theorem mk_X8_together : mOK yX8_together cX8_together 2 (some .int) 2 := ⟨tb (List.mem_of_getElem? (i := 533) (by rfl)) (by rfl), by decide +kernel, by decide +kernel, tb (List.mem_of_getElem? (i := 160) (by decide +kernel)) (by decide +kernel)⟩
set_option maxRecDepth 100000 in
theorem mk_X9_fault : mOK yX9_fault cX9_fault 1 (some .int) 0 := ⟨tb (List.mem_of_getElem? (i := 484) (by rfl)) (by rfl), by decide +kernel, by decide +kernel, tb (List.mem_of_getElem? (i := 139) (by decide +kernel)) (by decide +kernel)⟩
set_option maxRecDepth 100000 in
theorem mk_X9_feed : mOK yX9_feed cX9_feed 6 (some .int) 5 := ⟨tb (List.mem_of_getElem? (i := 471) (by rfl)) (by rfl), by decide +kernel, by decide +kernel, tb (List.mem_of_getElem? (i := 139) (by decide +kernel)) (by decide +kernel)⟩
set_option maxRecDepth 100000 in
theorem mk_X9_forget : mOK yX9_forget cX9_forget 1 none 0 := ⟨tb (List.mem_of_getElem? (i := 792) (by rfl)) (by rfl), by decide +kernel, by decide +kernel, tb (List.mem_of_getElem? (i := 139) (by decide +kernel)) (by decide +kernel)⟩
set_option maxRecDepth 100000 in
theorem mk_X9_freshMerge : mOK yX9_freshMerge cX9_freshMerge 1 (some (.object "TableMerge$Merge")) 0 := ⟨tb (List.mem_of_getElem? (i := 498) (by rfl)) (by rfl), by decide +kernel, by decide +kernel, tb (List.mem_of_getElem? (i := 139) (by decide +kernel)) (by decide +kernel)⟩
set_option maxRecDepth 100000 in
theorem mk_X9_keepAct : mOK yX9_keepAct cX9_keepAct 1 none 0 := ⟨tb (List.mem_of_getElem? (i := 692) (by rfl)) (by rfl), by decide +kernel, by decide +kernel, tb (List.mem_of_getElem? (i := 139) (by decide +kernel)) (by decide +kernel)⟩
set_option maxRecDepth 100000 in
theorem mk_X9_noteChange : mOK yX9_noteChange cX9_noteChange 1 none 0 := ⟨tb (List.mem_of_getElem? (i := 700) (by rfl)) (by rfl), by decide +kernel, by decide +kernel, tb (List.mem_of_getElem? (i := 139) (by decide +kernel)) (by decide +kernel)⟩
set_option maxRecDepth 100000 in
theorem mk_X9_refuseAct : mOK yX9_refuseAct cX9_refuseAct 1 (some .int) 0 := ⟨tb (List.mem_of_getElem? (i := 664) (by rfl)) (by rfl), by decide +kernel, by decide +kernel, tb (List.mem_of_getElem? (i := 139) (by decide +kernel)) (by decide +kernel)⟩
set_option maxRecDepth 100000 in
theorem mk_X9_see : mOK yX9_see cX9_see 4 (some .int) 3 := ⟨tb (List.mem_of_getElem? (i := 781) (by rfl)) (by rfl), by decide +kernel, by decide +kernel, tb (List.mem_of_getElem? (i := 139) (by decide +kernel)) (by decide +kernel)⟩
theorem pf_X0_17 : pOK RX0 17 0 2 0 .int := ⟨(RX0, TX0, 3), tyX0, rfl, by decide, rfl, rfl, tb (List.mem_of_getElem? (i := 367) (by decide +kernel)) (by decide +kernel), inX0, tyX0_ok, nmX0, rfl, rfl⟩
theorem pf_X0_29 : pOK RX0 29 0 1 0 .int := ⟨(RX0, TX0, 3), tyX0, rfl, by decide, rfl, rfl, tb (List.mem_of_getElem? (i := 366) (by decide +kernel)) (by decide +kernel), inX0, tyX0_ok, nmX0, rfl, rfl⟩
theorem pf_X10_108 : pOK RX10 108 8 10 0 .int := ⟨(RX10, TX10, 41), tyX10, rfl, by decide, rfl, rfl, tb (List.mem_of_getElem? (i := 1389) (by decide +kernel)) (by decide +kernel), inX10, tyX10_ok, nmX10, rfl, rfl⟩
theorem pf_X10_121 : pOK RX10 121 8 3 0 .int := ⟨(RX10, TX10, 41), tyX10, rfl, by decide, rfl, rfl, tb (List.mem_of_getElem? (i := 1382) (by decide +kernel)) (by decide +kernel), inX10, tyX10_ok, nmX10, rfl, rfl⟩
theorem pf_X10_13 : pOK RX10 13 8 4 0 .int := ⟨(RX10, TX10, 41), tyX10, rfl, by decide, rfl, rfl, tb (List.mem_of_getElem? (i := 1383) (by decide +kernel)) (by decide +kernel), inX10, tyX10_ok, nmX10, rfl, rfl⟩
theorem pf_X10_147 : pOK RX10 147 8 14 0 .int := ⟨(RX10, TX10, 41), tyX10, rfl, by decide, rfl, rfl, tb (List.mem_of_getElem? (i := 1393) (by decide +kernel)) (by decide +kernel), inX10, tyX10_ok, nmX10, rfl, rfl⟩
theorem pf_X10_178 : pOK RX10 178 8 15 0 .int := ⟨(RX10, TX10, 41), tyX10, rfl, by decide, rfl, rfl, tb (List.mem_of_getElem? (i := 1394) (by decide +kernel)) (by decide +kernel), inX10, tyX10_ok, nmX10, rfl, rfl⟩
theorem pf_X10_184 : pOK RX10 184 8 16 0 .int := ⟨(RX10, TX10, 41), tyX10, rfl, by decide, rfl, rfl, tb (List.mem_of_getElem? (i := 1395) (by decide +kernel)) (by decide +kernel), inX10, tyX10_ok, nmX10, rfl, rfl⟩
theorem pf_X10_221 : pOK RX10 221 8 19 0 .int := ⟨(RX10, TX10, 41), tyX10, rfl, by decide, rfl, rfl, tb (List.mem_of_getElem? (i := 1398) (by decide +kernel)) (by decide +kernel), inX10, tyX10_ok, nmX10, rfl, rfl⟩
theorem pf_X10_224 : pOK RX10 224 8 32 0 .int := ⟨(RX10, TX10, 41), tyX10, rfl, by decide, rfl, rfl, tb (List.mem_of_getElem? (i := 1411) (by decide +kernel)) (by decide +kernel), inX10, tyX10_ok, nmX10, rfl, rfl⟩
theorem pf_X10_227 : pOK RX10 227 8 35 0 .boolean := ⟨(RX10, TX10, 41), tyX10, rfl, by decide, rfl, rfl, tb (List.mem_of_getElem? (i := 1414) (by decide +kernel)) (by decide +kernel), inX10, tyX10_ok, nmX10, rfl, rfl⟩
theorem pf_X10_282 : pOK RX10 282 8 22 0 .int := ⟨(RX10, TX10, 41), tyX10, rfl, by decide, rfl, rfl, tb (List.mem_of_getElem? (i := 1401) (by decide +kernel)) (by decide +kernel), inX10, tyX10_ok, nmX10, rfl, rfl⟩
theorem pf_X10_291 : pOK RX10 291 8 20 0 .int := ⟨(RX10, TX10, 41), tyX10, rfl, by decide, rfl, rfl, tb (List.mem_of_getElem? (i := 1399) (by decide +kernel)) (by decide +kernel), inX10, tyX10_ok, nmX10, rfl, rfl⟩
theorem pf_X10_323 : pOK RX10 323 8 21 0 .int := ⟨(RX10, TX10, 41), tyX10, rfl, by decide, rfl, rfl, tb (List.mem_of_getElem? (i := 1400) (by decide +kernel)) (by decide +kernel), inX10, tyX10_ok, nmX10, rfl, rfl⟩
theorem pf_X10_424 : pOK RX10 424 8 34 0 .int := ⟨(RX10, TX10, 41), tyX10, rfl, by decide, rfl, rfl, tb (List.mem_of_getElem? (i := 1413) (by decide +kernel)) (by decide +kernel), inX10, tyX10_ok, nmX10, rfl, rfl⟩
theorem pf_X10_434 : pOK RX10 434 8 36 0 .int := ⟨(RX10, TX10, 41), tyX10, rfl, by decide, rfl, rfl, tb (List.mem_of_getElem? (i := 1415) (by decide +kernel)) (by decide +kernel), inX10, tyX10_ok, nmX10, rfl, rfl⟩
theorem pf_X10_437 : pOK RX10 437 8 37 0 .int := ⟨(RX10, TX10, 41), tyX10, rfl, by decide, rfl, rfl, tb (List.mem_of_getElem? (i := 1416) (by decide +kernel)) (by decide +kernel), inX10, tyX10_ok, nmX10, rfl, rfl⟩
theorem pf_X10_65 : pOK RX10 65 8 0 0 .int := ⟨(RX10, TX10, 41), tyX10, rfl, by decide, rfl, rfl, tb (List.mem_of_getElem? (i := 1379) (by decide +kernel)) (by decide +kernel), inX10, tyX10_ok, nmX10, rfl, rfl⟩
theorem pf_X10_68 : pOK RX10 68 8 2 0 .int := ⟨(RX10, TX10, 41), tyX10, rfl, by decide, rfl, rfl, tb (List.mem_of_getElem? (i := 1381) (by decide +kernel)) (by decide +kernel), inX10, tyX10_ok, nmX10, rfl, rfl⟩
theorem pf_X10_75 : pOK RX10 75 8 6 0 .int := ⟨(RX10, TX10, 41), tyX10, rfl, by decide, rfl, rfl, tb (List.mem_of_getElem? (i := 1385) (by decide +kernel)) (by decide +kernel), inX10, tyX10_ok, nmX10, rfl, rfl⟩
theorem pf_X10_78 : pOK RX10 78 8 7 0 .int := ⟨(RX10, TX10, 41), tyX10, rfl, by decide, rfl, rfl, tb (List.mem_of_getElem? (i := 1386) (by decide +kernel)) (by decide +kernel), inX10, tyX10_ok, nmX10, rfl, rfl⟩
theorem pf_X10_85 : pOK RX10 85 8 9 0 .int := ⟨(RX10, TX10, 41), tyX10, rfl, by decide, rfl, rfl, tb (List.mem_of_getElem? (i := 1388) (by decide +kernel)) (by decide +kernel), inX10, tyX10_ok, nmX10, rfl, rfl⟩
theorem pf_X10_88 : pOK RX10 88 8 13 2 .long := ⟨(RX10, TX10, 41), tyX10, rfl, by decide, rfl, rfl, tb (List.mem_of_getElem? (i := 1392) (by decide +kernel)) (by decide +kernel), inX10, tyX10_ok, nmX10, rfl, rfl⟩
theorem pf_X10_92 : pOK RX10 92 8 11 0 .int := ⟨(RX10, TX10, 41), tyX10, rfl, by decide, rfl, rfl, tb (List.mem_of_getElem? (i := 1390) (by decide +kernel)) (by decide +kernel), inX10, tyX10_ok, nmX10, rfl, rfl⟩
theorem pf_X10_95 : pOK RX10 95 8 12 0 .int := ⟨(RX10, TX10, 41), tyX10, rfl, by decide, rfl, rfl, tb (List.mem_of_getElem? (i := 1391) (by decide +kernel)) (by decide +kernel), inX10, tyX10_ok, nmX10, rfl, rfl⟩
theorem pf_X10_98 : pOK RX10 98 8 8 0 .int := ⟨(RX10, TX10, 41), tyX10, rfl, by decide, rfl, rfl, tb (List.mem_of_getElem? (i := 1387) (by decide +kernel)) (by decide +kernel), inX10, tyX10_ok, nmX10, rfl, rfl⟩
theorem pf_X2_37 : pOK RX2 37 1 2 0 .int := ⟨(RX2, TX2, 8), tyX2, rfl, by decide, rfl, rfl, tb (List.mem_of_getElem? (i := 281) (by decide +kernel)) (by decide +kernel), inX2, tyX2_ok, nmX2, rfl, rfl⟩
theorem pf_X2_41 : pOK RX2 41 1 3 0 .int := ⟨(RX2, TX2, 8), tyX2, rfl, by decide, rfl, rfl, tb (List.mem_of_getElem? (i := 284) (by decide +kernel)) (by decide +kernel), inX2, tyX2_ok, nmX2, rfl, rfl⟩
theorem pf_X3_149 : pOK RX3 149 2 6 0 .int := ⟨(RX3, TX3, 7), tyX3, rfl, by decide, rfl, rfl, tb (List.mem_of_getElem? (i := 412) (by decide +kernel)) (by decide +kernel), inX3, tyX3_ok, nmX3, rfl, rfl⟩
theorem pf_X3_88 : pOK RX3 88 2 5 0 .int := ⟨(RX3, TX3, 7), tyX3, rfl, by decide, rfl, rfl, tb (List.mem_of_getElem? (i := 411) (by decide +kernel)) (by decide +kernel), inX3, tyX3_ok, nmX3, rfl, rfl⟩
theorem pf_X4_21 : pOK RX4 21 3 0 0 .int := ⟨(RX4, TX4, 4), tyX4, rfl, by decide, rfl, rfl, tb (List.mem_of_getElem? (i := 382) (by decide +kernel)) (by decide +kernel), inX4, tyX4_ok, nmX4, rfl, rfl⟩
theorem pf_X5_132 : pOK RX5 132 5 1 0 .int := ⟨(RX6, TX6, 5), tyX6, rfl, by decide, rfl, rfl, tb (List.mem_of_getElem? (i := 194) (by decide +kernel)) (by decide +kernel), inX6, tyX6_ok, nmX6, rfl, rfl⟩
theorem pf_X5_46 : pOK RX5 46 4 5 0 .int := ⟨(RX5, TX5, 10), tyX5, rfl, by decide, rfl, rfl, tb (List.mem_of_getElem? (i := 233) (by decide +kernel)) (by decide +kernel), inX5, tyX5_ok, nmX5, rfl, rfl⟩
theorem pf_X5_57 : pOK RX5 57 4 3 0 .int := ⟨(RX5, TX5, 10), tyX5, rfl, by decide, rfl, rfl, tb (List.mem_of_getElem? (i := 231) (by decide +kernel)) (by decide +kernel), inX5, tyX5_ok, nmX5, rfl, rfl⟩
theorem pf_X5_60 : pOK RX5 60 4 4 0 .int := ⟨(RX5, TX5, 10), tyX5, rfl, by decide, rfl, rfl, tb (List.mem_of_getElem? (i := 232) (by decide +kernel)) (by decide +kernel), inX5, tyX5_ok, nmX5, rfl, rfl⟩
theorem pf_X6_27 : pOK RX6 27 5 0 0 .int := ⟨(RX6, TX6, 5), tyX6, rfl, by decide, rfl, rfl, tb (List.mem_of_getElem? (i := 186) (by decide +kernel)) (by decide +kernel), inX6, tyX6_ok, nmX6, rfl, rfl⟩
theorem pf_X6_31 : pOK RX6 31 5 1 0 .int := ⟨(RX6, TX6, 5), tyX6, rfl, by decide, rfl, rfl, tb (List.mem_of_getElem? (i := 190) (by decide +kernel)) (by decide +kernel), inX6, tyX6_ok, nmX6, rfl, rfl⟩
theorem pf_X7_104 : pOK RX7 104 6 7 0 .int := ⟨(RX7, TX7, 11), tyX7, rfl, by decide, rfl, rfl, tb (List.mem_of_getElem? (i := 329) (by decide +kernel)) (by decide +kernel), inX7, tyX7_ok, nmX7, rfl, rfl⟩
theorem pf_X7_22 : pOK RX7 22 6 3 0 .int := ⟨(RX7, TX7, 11), tyX7, rfl, by decide, rfl, rfl, tb (List.mem_of_getElem? (i := 324) (by decide +kernel)) (by decide +kernel), inX7, tyX7_ok, nmX7, rfl, rfl⟩
theorem pf_X7_26 : pOK RX7 26 6 1 0 .int := ⟨(RX7, TX7, 11), tyX7, rfl, by decide, rfl, rfl, tb (List.mem_of_getElem? (i := 320) (by decide +kernel)) (by decide +kernel), inX7, tyX7_ok, nmX7, rfl, rfl⟩
theorem pf_X7_42 : pOK RX7 42 6 5 0 .int := ⟨(RX7, TX7, 11), tyX7, rfl, by decide, rfl, rfl, tb (List.mem_of_getElem? (i := 327) (by decide +kernel)) (by decide +kernel), inX7, tyX7_ok, nmX7, rfl, rfl⟩
theorem pf_X7_45 : pOK RX7 45 6 4 0 .int := ⟨(RX7, TX7, 11), tyX7, rfl, by decide, rfl, rfl, tb (List.mem_of_getElem? (i := 326) (by decide +kernel)) (by decide +kernel), inX7, tyX7_ok, nmX7, rfl, rfl⟩
theorem pf_X7_48 : pOK RX7 48 6 8 0 .int := ⟨(RX7, TX7, 11), tyX7, rfl, by decide, rfl, rfl, tb (List.mem_of_getElem? (i := 330) (by decide +kernel)) (by decide +kernel), inX7, tyX7_ok, nmX7, rfl, rfl⟩
theorem pf_X7_51 : pOK RX7 51 6 9 0 .boolean := ⟨(RX7, TX7, 11), tyX7, rfl, by decide, rfl, rfl, tb (List.mem_of_getElem? (i := 331) (by decide +kernel)) (by decide +kernel), inX7, tyX7_ok, nmX7, rfl, rfl⟩
theorem pf_X7_55 : pOK RX7 55 6 10 0 .boolean := ⟨(RX7, TX7, 11), tyX7, rfl, by decide, rfl, rfl, tb (List.mem_of_getElem? (i := 332) (by decide +kernel)) (by decide +kernel), inX7, tyX7_ok, nmX7, rfl, rfl⟩
theorem pf_X7_64 : pOK RX7 64 6 6 0 .int := ⟨(RX7, TX7, 11), tyX7, rfl, by decide, rfl, rfl, tb (List.mem_of_getElem? (i := 328) (by decide +kernel)) (by decide +kernel), inX7, tyX7_ok, nmX7, rfl, rfl⟩
theorem pf_X9_324 : pOK RX9 324 7 10 0 .boolean := ⟨(RX9, TX9, 13), tyX9, rfl, by decide, rfl, rfl, tb (List.mem_of_getElem? (i := 438) (by decide +kernel)) (by decide +kernel), inX9, tyX9_ok, nmX9, rfl, rfl⟩
theorem sk_J0_1059 : sOK RJ0 1059 yJ3_checkIndex_8e157 := ⟨tb (List.mem_of_getElem? (i := 943) (by decide +kernel)) (by decide +kernel), tb (List.mem_of_getElem? (i := 944) (by decide +kernel)) (by decide +kernel)⟩
theorem sk_J0_495 : sOK RJ0 495 yJ1_charAt_3b067 := ⟨tb (List.mem_of_getElem? (i := 935) (by decide +kernel)) (by decide +kernel), tb (List.mem_of_getElem? (i := 936) (by decide +kernel)) (by decide +kernel)⟩
theorem sk_J1_9 : sOK RJ1 9 yJ0_checkIndex_df160 := ⟨tb (List.mem_of_getElem? (i := 938) (by decide +kernel)) (by decide +kernel), tb (List.mem_of_getElem? (i := 939) (by decide +kernel)) (by decide +kernel)⟩
theorem sk_X10_101 : sOK RX10 101 yX10_isLetter := ⟨tb (List.mem_of_getElem? (i := 1531) (by decide +kernel)) (by decide +kernel), tb (List.mem_of_getElem? (i := 1532) (by decide +kernel)) (by decide +kernel)⟩
theorem sk_X10_105 : sOK RX10 105 yX10_isDigit := ⟨tb (List.mem_of_getElem? (i := 1534) (by decide +kernel)) (by decide +kernel), tb (List.mem_of_getElem? (i := 1535) (by decide +kernel)) (by decide +kernel)⟩
theorem sk_X10_113 : sOK RX10 113 yX10_spelled := ⟨tb (List.mem_of_getElem? (i := 1552) (by decide +kernel)) (by decide +kernel), tb (List.mem_of_getElem? (i := 1553) (by decide +kernel)) (by decide +kernel)⟩
theorem sk_X10_117 : sOK RX10 117 yX10_letters := ⟨tb (List.mem_of_getElem? (i := 1549) (by decide +kernel)) (by decide +kernel), tb (List.mem_of_getElem? (i := 1550) (by decide +kernel)) (by decide +kernel)⟩
theorem sk_X10_170 : sOK RX10 170 yX10_doesHold := ⟨tb (List.mem_of_getElem? (i := 1619) (by decide +kernel)) (by decide +kernel), tb (List.mem_of_getElem? (i := 1620) (by decide +kernel)) (by decide +kernel)⟩
theorem sk_X10_174 : sOK RX10 174 yX10_cellAt := ⟨tb (List.mem_of_getElem? (i := 1622) (by decide +kernel)) (by decide +kernel), tb (List.mem_of_getElem? (i := 1623) (by decide +kernel)) (by decide +kernel)⟩
theorem sk_X10_231 : sOK RX10 231 yX10_within := ⟨tb (List.mem_of_getElem? (i := 1580) (by decide +kernel)) (by decide +kernel), tb (List.mem_of_getElem? (i := 1581) (by decide +kernel)) (by decide +kernel)⟩
theorem sk_X10_240 : sOK RX10 240 yX10_bits := ⟨tb (List.mem_of_getElem? (i := 1653) (by decide +kernel)) (by decide +kernel), tb (List.mem_of_getElem? (i := 1654) (by decide +kernel)) (by decide +kernel)⟩
theorem sk_X10_243 : sOK RX10 243 yX10_castTo := ⟨tb (List.mem_of_getElem? (i := 1664) (by decide +kernel)) (by decide +kernel), tb (List.mem_of_getElem? (i := 1665) (by decide +kernel)) (by decide +kernel)⟩
theorem sk_X10_279 : sOK RX10 279 yX10_choiceAt := ⟨tb (List.mem_of_getElem? (i := 1751) (by decide +kernel)) (by decide +kernel), tb (List.mem_of_getElem? (i := 1752) (by decide +kernel)) (by decide +kernel)⟩
theorem sk_X10_384 : sOK RX10 384 yX10_choicesOf := ⟨tb (List.mem_of_getElem? (i := 1878) (by decide +kernel)) (by decide +kernel), tb (List.mem_of_getElem? (i := 1879) (by decide +kernel)) (by decide +kernel)⟩
theorem sk_X10_390 : sOK RX10 390 yX10_flipped := ⟨tb (List.mem_of_getElem? (i := 1901) (by decide +kernel)) (by decide +kernel), tb (List.mem_of_getElem? (i := 1902) (by decide +kernel)) (by decide +kernel)⟩
theorem sk_X10_415 : sOK RX10 415 yX10_lesser := ⟨tb (List.mem_of_getElem? (i := 1940) (by decide +kernel)) (by decide +kernel), tb (List.mem_of_getElem? (i := 1941) (by decide +kernel)) (by decide +kernel)⟩
theorem sk_X1_11 : sOK RX1 11 yX1_within := ⟨tb (List.mem_of_getElem? (i := 492) (by decide +kernel)) (by decide +kernel), tb (List.mem_of_getElem? (i := 493) (by decide +kernel)) (by decide +kernel)⟩
theorem sk_X1_15 : sOK RX1 15 yX1_isOfSides := ⟨tb (List.mem_of_getElem? (i := 655) (by decide +kernel)) (by decide +kernel), tb (List.mem_of_getElem? (i := 656) (by decide +kernel)) (by decide +kernel)⟩
theorem sk_X1_19 : sOK RX1 19 yX1_kindOf := ⟨tb (List.mem_of_getElem? (i := 658) (by decide +kernel)) (by decide +kernel), tb (List.mem_of_getElem? (i := 659) (by decide +kernel)) (by decide +kernel)⟩
theorem sk_X2_113 : sOK RX2 113 yX1_idOf := ⟨tb (List.mem_of_getElem? (i := 519) (by decide +kernel)) (by decide +kernel), tb (List.mem_of_getElem? (i := 490) (by decide +kernel)) (by decide +kernel)⟩
theorem sk_X2_123 : sOK RX2 123 yX2_chosen := ⟨tb (List.mem_of_getElem? (i := 524) (by decide +kernel)) (by decide +kernel), tb (List.mem_of_getElem? (i := 525) (by decide +kernel)) (by decide +kernel)⟩
theorem sk_X2_127 : sOK RX2 127 yX8_together := ⟨tb (List.mem_of_getElem? (i := 531) (by decide +kernel)) (by decide +kernel), tb (List.mem_of_getElem? (i := 532) (by decide +kernel)) (by decide +kernel)⟩
theorem sk_X2_167 : sOK RX2 167 yX8_cast := ⟨tb (List.mem_of_getElem? (i := 621) (by decide +kernel)) (by decide +kernel), tb (List.mem_of_getElem? (i := 560) (by decide +kernel)) (by decide +kernel)⟩
theorem sk_X2_174 : sOK RX2 174 yJ9_max_7cf53 := ⟨tb (List.mem_of_getElem? (i := 628) (by decide +kernel)) (by decide +kernel), tb (List.mem_of_getElem? (i := 629) (by decide +kernel)) (by decide +kernel)⟩
theorem sk_X3_144 : sOK RX3 144 yX8_holds := ⟨tb (List.mem_of_getElem? (i := 1348) (by decide +kernel)) (by decide +kernel), tb (List.mem_of_getElem? (i := 787) (by decide +kernel)) (by decide +kernel)⟩
theorem sk_X3_164 : sOK RX3 164 yJ9_max_7cf53 := ⟨tb (List.mem_of_getElem? (i := 1370) (by decide +kernel)) (by decide +kernel), tb (List.mem_of_getElem? (i := 629) (by decide +kernel)) (by decide +kernel)⟩
theorem sk_X3_167 : sOK RX3 167 yJ9_floorMod_7cf53 := ⟨tb (List.mem_of_getElem? (i := 1371) (by decide +kernel)) (by decide +kernel), tb (List.mem_of_getElem? (i := 674) (by decide +kernel)) (by decide +kernel)⟩
theorem sk_X3_35 : sOK RX3 35 yJ7_fill_53178 := ⟨tb (List.mem_of_getElem? (i := 705) (by decide +kernel)) (by decide +kernel), tb (List.mem_of_getElem? (i := 184) (by decide +kernel)) (by decide +kernel)⟩
theorem sk_X3_58 : sOK RX3 58 yX1_choicesOf := ⟨tb (List.mem_of_getElem? (i := 1283) (by decide +kernel)) (by decide +kernel), tb (List.mem_of_getElem? (i := 653) (by decide +kernel)) (by decide +kernel)⟩
theorem sk_X3_64 : sOK RX3 64 yJ9_min_7cf53 := ⟨tb (List.mem_of_getElem? (i := 1284) (by decide +kernel)) (by decide +kernel), tb (List.mem_of_getElem? (i := 894) (by decide +kernel)) (by decide +kernel)⟩
theorem sk_X3_79 : sOK RX3 79 yJ6_bitCount_0f7a4 := ⟨tb (List.mem_of_getElem? (i := 1285) (by decide +kernel)) (by decide +kernel), tb (List.mem_of_getElem? (i := 741) (by decide +kernel)) (by decide +kernel)⟩
theorem sk_X4_25 : sOK RX4 25 yX8_holds := ⟨tb (List.mem_of_getElem? (i := 786) (by decide +kernel)) (by decide +kernel), tb (List.mem_of_getElem? (i := 787) (by decide +kernel)) (by decide +kernel)⟩
theorem sk_X5_122 : sOK RX5 122 yX8_holds := ⟨tb (List.mem_of_getElem? (i := 1059) (by decide +kernel)) (by decide +kernel), tb (List.mem_of_getElem? (i := 787) (by decide +kernel)) (by decide +kernel)⟩
theorem sk_X5_135 : sOK RX5 135 yJ6_bitCount_0f7a4 := ⟨tb (List.mem_of_getElem? (i := 758) (by decide +kernel)) (by decide +kernel), tb (List.mem_of_getElem? (i := 741) (by decide +kernel)) (by decide +kernel)⟩
theorem sk_X5_170 : sOK RX5 170 yX1_isOfSides := ⟨tb (List.mem_of_getElem? (i := 735) (by decide +kernel)) (by decide +kernel), tb (List.mem_of_getElem? (i := 656) (by decide +kernel)) (by decide +kernel)⟩
theorem sk_X5_175 : sOK RX5 175 yX1_idOf := ⟨tb (List.mem_of_getElem? (i := 733) (by decide +kernel)) (by decide +kernel), tb (List.mem_of_getElem? (i := 490) (by decide +kernel)) (by decide +kernel)⟩
theorem sk_X5_178 : sOK RX5 178 yX6_swap := ⟨tb (List.mem_of_getElem? (i := 734) (by decide +kernel)) (by decide +kernel), tb (List.mem_of_getElem? (i := 723) (by decide +kernel)) (by decide +kernel)⟩
theorem sk_X5_185 : sOK RX5 185 yX5_placeAmong := ⟨tb (List.mem_of_getElem? (i := 755) (by decide +kernel)) (by decide +kernel), tb (List.mem_of_getElem? (i := 756) (by decide +kernel)) (by decide +kernel)⟩
theorem sk_X5_37 : sOK RX5 37 yJ7_fill_53178 := ⟨tb (List.mem_of_getElem? (i := 218) (by decide +kernel)) (by decide +kernel), tb (List.mem_of_getElem? (i := 184) (by decide +kernel)) (by decide +kernel)⟩
theorem sk_X5_84 : sOK RX5 84 yX8_cast := ⟨tb (List.mem_of_getElem? (i := 559) (by decide +kernel)) (by decide +kernel), tb (List.mem_of_getElem? (i := 560) (by decide +kernel)) (by decide +kernel)⟩
theorem sk_X6_21 : sOK RX6 21 yJ7_fill_53178 := ⟨tb (List.mem_of_getElem? (i := 183) (by decide +kernel)) (by decide +kernel), tb (List.mem_of_getElem? (i := 184) (by decide +kernel)) (by decide +kernel)⟩
theorem sk_X6_51 : sOK RX6 51 yX6_swap := ⟨tb (List.mem_of_getElem? (i := 722) (by decide +kernel)) (by decide +kernel), tb (List.mem_of_getElem? (i := 723) (by decide +kernel)) (by decide +kernel)⟩
theorem sk_X7_119 : sOK RX7 119 yJ6_bitCount_0f7a4 := ⟨tb (List.mem_of_getElem? (i := 969) (by decide +kernel)) (by decide +kernel), tb (List.mem_of_getElem? (i := 741) (by decide +kernel)) (by decide +kernel)⟩
theorem sk_X7_168 : sOK RX7 168 yX8_holds := ⟨tb (List.mem_of_getElem? (i := 1020) (by decide +kernel)) (by decide +kernel), tb (List.mem_of_getElem? (i := 787) (by decide +kernel)) (by decide +kernel)⟩
theorem sk_X7_230 : sOK RX7 230 yX7_kindOf := ⟨tb (List.mem_of_getElem? (i := 905) (by decide +kernel)) (by decide +kernel), tb (List.mem_of_getElem? (i := 906) (by decide +kernel)) (by decide +kernel)⟩
theorem sk_X7_33 : sOK RX7 33 yJ9_min_7cf53 := ⟨tb (List.mem_of_getElem? (i := 893) (by decide +kernel)) (by decide +kernel), tb (List.mem_of_getElem? (i := 894) (by decide +kernel)) (by decide +kernel)⟩
theorem sk_X7_39 : sOK RX7 39 yJ9_max_7cf53 := ⟨tb (List.mem_of_getElem? (i := 896) (by decide +kernel)) (by decide +kernel), tb (List.mem_of_getElem? (i := 629) (by decide +kernel)) (by decide +kernel)⟩
theorem vk_J0_335 : vOK RJ0 335 yJ0_coder_7d493 := ⟨tb (List.mem_of_getElem? (i := 921) (by decide +kernel)) (by decide +kernel), tb (List.mem_of_getElem? (i := 922) (by decide +kernel)) (by decide +kernel), tb (List.mem_of_getElem? (i := 923) (by decide +kernel)) (by decide +kernel)⟩
theorem vk_J0_492 : vOK RJ0 492 yJ0_isLatin1_aae02 := ⟨tb (List.mem_of_getElem? (i := 931) (by decide +kernel)) (by decide +kernel), tb (List.mem_of_getElem? (i := 932) (by decide +kernel)) (by decide +kernel), tb (List.mem_of_getElem? (i := 933) (by decide +kernel)) (by decide +kernel)⟩
theorem vk_X10_124 : vOK RX10 124 yX10_isGood := ⟨tb (List.mem_of_getElem? (i := 1537) (by decide +kernel)) (by decide +kernel), tb (List.mem_of_getElem? (i := 1539) (by decide +kernel)) (by decide +kernel), tb (List.mem_of_getElem? (i := 61) (by decide +kernel)) (by decide +kernel)⟩
theorem vk_X10_128 : vOK RX10 128 yX10_goes := ⟨tb (List.mem_of_getElem? (i := 1523) (by decide +kernel)) (by decide +kernel), tb (List.mem_of_getElem? (i := 1525) (by decide +kernel)) (by decide +kernel), tb (List.mem_of_getElem? (i := 59) (by decide +kernel)) (by decide +kernel)⟩
theorem vk_X10_131 : vOK RX10 131 yX10_wrong := ⟨tb (List.mem_of_getElem? (i := 1560) (by decide +kernel)) (by decide +kernel), tb (List.mem_of_getElem? (i := 1562) (by decide +kernel)) (by decide +kernel), tb (List.mem_of_getElem? (i := 65) (by decide +kernel)) (by decide +kernel)⟩
theorem vk_X10_134 : vOK RX10 134 yX10_numberHere := ⟨tb (List.mem_of_getElem? (i := 1595) (by decide +kernel)) (by decide +kernel), tb (List.mem_of_getElem? (i := 1597) (by decide +kernel)) (by decide +kernel), tb (List.mem_of_getElem? (i := 73) (by decide +kernel)) (by decide +kernel)⟩
theorem vk_X10_137 : vOK RX10 137 yX10_knownWord := ⟨tb (List.mem_of_getElem? (i := 1545) (by decide +kernel)) (by decide +kernel), tb (List.mem_of_getElem? (i := 1547) (by decide +kernel)) (by decide +kernel), tb (List.mem_of_getElem? (i := 63) (by decide +kernel)) (by decide +kernel)⟩
theorem vk_X10_141 : vOK RX10 141 yX10_isSign := ⟨tb (List.mem_of_getElem? (i := 1607) (by decide +kernel)) (by decide +kernel), tb (List.mem_of_getElem? (i := 1609) (by decide +kernel)) (by decide +kernel), tb (List.mem_of_getElem? (i := 76) (by decide +kernel)) (by decide +kernel)⟩
theorem vk_X10_144 : vOK RX10 144 yX10_number := ⟨tb (List.mem_of_getElem? (i := 1611) (by decide +kernel)) (by decide +kernel), tb (List.mem_of_getElem? (i := 1613) (by decide +kernel)) (by decide +kernel), tb (List.mem_of_getElem? (i := 77) (by decide +kernel)) (by decide +kernel)⟩
theorem vk_X10_150 : vOK RX10 150 yX10_nameHere := ⟨tb (List.mem_of_getElem? (i := 1568) (by decide +kernel)) (by decide +kernel), tb (List.mem_of_getElem? (i := 1570) (by decide +kernel)) (by decide +kernel), tb (List.mem_of_getElem? (i := 67) (by decide +kernel)) (by decide +kernel)⟩
theorem vk_X10_153 : vOK RX10 153 yX10_hasName := ⟨tb (List.mem_of_getElem? (i := 1572) (by decide +kernel)) (by decide +kernel), tb (List.mem_of_getElem? (i := 1574) (by decide +kernel)) (by decide +kernel), tb (List.mem_of_getElem? (i := 68) (by decide +kernel)) (by decide +kernel)⟩
theorem vk_X10_157 : vOK RX10 157 yX10_typeOf := ⟨tb (List.mem_of_getElem? (i := 1587) (by decide +kernel)) (by decide +kernel), tb (List.mem_of_getElem? (i := 1589) (by decide +kernel)) (by decide +kernel), tb (List.mem_of_getElem? (i := 71) (by decide +kernel)) (by decide +kernel)⟩
theorem vk_X10_160 : vOK RX10 160 yX10_hasRow := ⟨tb (List.mem_of_getElem? (i := 1599) (by decide +kernel)) (by decide +kernel), tb (List.mem_of_getElem? (i := 1601) (by decide +kernel)) (by decide +kernel), tb (List.mem_of_getElem? (i := 74) (by decide +kernel)) (by decide +kernel)⟩
theorem vk_X10_163 : vOK RX10 163 yX10_cellOf := ⟨tb (List.mem_of_getElem? (i := 1603) (by decide +kernel)) (by decide +kernel), tb (List.mem_of_getElem? (i := 1605) (by decide +kernel)) (by decide +kernel), tb (List.mem_of_getElem? (i := 75) (by decide +kernel)) (by decide +kernel)⟩
theorem vk_X10_166 : vOK RX10 166 yX10_typeAt := ⟨tb (List.mem_of_getElem? (i := 1615) (by decide +kernel)) (by decide +kernel), tb (List.mem_of_getElem? (i := 1617) (by decide +kernel)) (by decide +kernel), tb (List.mem_of_getElem? (i := 78) (by decide +kernel)) (by decide +kernel)⟩
theorem vk_X10_181 : vOK RX10 181 yX10_columnHere := ⟨tb (List.mem_of_getElem? (i := 1629) (by decide +kernel)) (by decide +kernel), tb (List.mem_of_getElem? (i := 1631) (by decide +kernel)) (by decide +kernel), tb (List.mem_of_getElem? (i := 80) (by decide +kernel)) (by decide +kernel)⟩
theorem vk_X10_187 : vOK RX10 187 yX10_sidesBegin := ⟨tb (List.mem_of_getElem? (i := 1637) (by decide +kernel)) (by decide +kernel), tb (List.mem_of_getElem? (i := 1639) (by decide +kernel)) (by decide +kernel), tb (List.mem_of_getElem? (i := 82) (by decide +kernel)) (by decide +kernel)⟩
theorem vk_X10_190 : vOK RX10 190 yX10_does := ⟨tb (List.mem_of_getElem? (i := 1641) (by decide +kernel)) (by decide +kernel), tb (List.mem_of_getElem? (i := 1643) (by decide +kernel)) (by decide +kernel), tb (List.mem_of_getElem? (i := 83) (by decide +kernel)) (by decide +kernel)⟩
theorem vk_X10_194 : vOK RX10 194 yX10_begins := ⟨tb (List.mem_of_getElem? (i := 1556) (by decide +kernel)) (by decide +kernel), tb (List.mem_of_getElem? (i := 1558) (by decide +kernel)) (by decide +kernel), tb (List.mem_of_getElem? (i := 64) (by decide +kernel)) (by decide +kernel)⟩
theorem vk_X10_198 : vOK RX10 198 yX10_readsColumn := ⟨tb (List.mem_of_getElem? (i := 1564) (by decide +kernel)) (by decide +kernel), tb (List.mem_of_getElem? (i := 1566) (by decide +kernel)) (by decide +kernel), tb (List.mem_of_getElem? (i := 66) (by decide +kernel)) (by decide +kernel)⟩
theorem vk_X10_201 : vOK RX10 201 yX10_readsRow := ⟨tb (List.mem_of_getElem? (i := 1591) (by decide +kernel)) (by decide +kernel), tb (List.mem_of_getElem? (i := 1593) (by decide +kernel)) (by decide +kernel), tb (List.mem_of_getElem? (i := 72) (by decide +kernel)) (by decide +kernel)⟩
theorem vk_X10_204 : vOK RX10 204 yX10_readsDemand := ⟨tb (List.mem_of_getElem? (i := 1625) (by decide +kernel)) (by decide +kernel), tb (List.mem_of_getElem? (i := 1627) (by decide +kernel)) (by decide +kernel), tb (List.mem_of_getElem? (i := 79) (by decide +kernel)) (by decide +kernel)⟩
theorem vk_X10_207 : vOK RX10 207 yX10_readsEdit := ⟨tb (List.mem_of_getElem? (i := 1633) (by decide +kernel)) (by decide +kernel), tb (List.mem_of_getElem? (i := 1635) (by decide +kernel)) (by decide +kernel), tb (List.mem_of_getElem? (i := 81) (by decide +kernel)) (by decide +kernel)⟩
theorem vk_X10_210 : vOK RX10 210 yX10_need := ⟨tb (List.mem_of_getElem? (i := 1675) (by decide +kernel)) (by decide +kernel), tb (List.mem_of_getElem? (i := 1677) (by decide +kernel)) (by decide +kernel), tb (List.mem_of_getElem? (i := 90) (by decide +kernel)) (by decide +kernel)⟩
theorem vk_X10_214 : vOK RX10 214 yX10_right := ⟨tb (List.mem_of_getElem? (i := 1519) (by decide +kernel)) (by decide +kernel), tb (List.mem_of_getElem? (i := 1521) (by decide +kernel)) (by decide +kernel), tb (List.mem_of_getElem? (i := 58) (by decide +kernel)) (by decide +kernel)⟩
theorem vk_X10_218 : vOK RX10 218 yX10_line := ⟨tb (List.mem_of_getElem? (i := 1541) (by decide +kernel)) (by decide +kernel), tb (List.mem_of_getElem? (i := 1543) (by decide +kernel)) (by decide +kernel), tb (List.mem_of_getElem? (i := 62) (by decide +kernel)) (by decide +kernel)⟩
theorem vk_X10_234 : vOK RX10 234 yX10_hasColumn := ⟨tb (List.mem_of_getElem? (i := 1576) (by decide +kernel)) (by decide +kernel), tb (List.mem_of_getElem? (i := 1578) (by decide +kernel)) (by decide +kernel), tb (List.mem_of_getElem? (i := 69) (by decide +kernel)) (by decide +kernel)⟩
theorem vk_X10_237 : vOK RX10 237 yX10_nameAt := ⟨tb (List.mem_of_getElem? (i := 1583) (by decide +kernel)) (by decide +kernel), tb (List.mem_of_getElem? (i := 1585) (by decide +kernel)) (by decide +kernel), tb (List.mem_of_getElem? (i := 70) (by decide +kernel)) (by decide +kernel)⟩
theorem vk_X10_247 : vOK RX10 247 yX10_nextColumn := ⟨tb (List.mem_of_getElem? (i := 1671) (by decide +kernel)) (by decide +kernel), tb (List.mem_of_getElem? (i := 1673) (by decide +kernel)) (by decide +kernel), tb (List.mem_of_getElem? (i := 89) (by decide +kernel)) (by decide +kernel)⟩
theorem vk_X10_250 : vOK RX10 250 yX10_sets := ⟨tb (List.mem_of_getElem? (i := 1645) (by decide +kernel)) (by decide +kernel), tb (List.mem_of_getElem? (i := 1647) (by decide +kernel)) (by decide +kernel), tb (List.mem_of_getElem? (i := 84) (by decide +kernel)) (by decide +kernel)⟩
theorem vk_X10_254 : vOK RX10 254 yX10_inserts := ⟨tb (List.mem_of_getElem? (i := 1649) (by decide +kernel)) (by decide +kernel), tb (List.mem_of_getElem? (i := 1651) (by decide +kernel)) (by decide +kernel), tb (List.mem_of_getElem? (i := 85) (by decide +kernel)) (by decide +kernel)⟩
theorem vk_X10_257 : vOK RX10 257 yX10_renames := ⟨tb (List.mem_of_getElem? (i := 1656) (by decide +kernel)) (by decide +kernel), tb (List.mem_of_getElem? (i := 1658) (by decide +kernel)) (by decide +kernel), tb (List.mem_of_getElem? (i := 86) (by decide +kernel)) (by decide +kernel)⟩
theorem vk_X10_261 : vOK RX10 261 yX10_retypes := ⟨tb (List.mem_of_getElem? (i := 1660) (by decide +kernel)) (by decide +kernel), tb (List.mem_of_getElem? (i := 1662) (by decide +kernel)) (by decide +kernel), tb (List.mem_of_getElem? (i := 87) (by decide +kernel)) (by decide +kernel)⟩
theorem vk_X10_264 : vOK RX10 264 yX10_adds := ⟨tb (List.mem_of_getElem? (i := 1667) (by decide +kernel)) (by decide +kernel), tb (List.mem_of_getElem? (i := 1669) (by decide +kernel)) (by decide +kernel), tb (List.mem_of_getElem? (i := 88) (by decide +kernel)) (by decide +kernel)⟩
theorem vk_X10_267 : vOK RX10 267 yX10_tries := ⟨tb (List.mem_of_getElem? (i := 1695) (by decide +kernel)) (by decide +kernel), tb (List.mem_of_getElem? (i := 1697) (by decide +kernel)) (by decide +kernel), tb (List.mem_of_getElem? (i := 92) (by decide +kernel)) (by decide +kernel)⟩
theorem vk_X10_270 : vOK RX10 270 yX10_refuses := ⟨tb (List.mem_of_getElem? (i := 1699) (by decide +kernel)) (by decide +kernel), tb (List.mem_of_getElem? (i := 1701) (by decide +kernel)) (by decide +kernel), tb (List.mem_of_getElem? (i := 93) (by decide +kernel)) (by decide +kernel)⟩
theorem vk_X10_273 : vOK RX10 273 yX10_keeps := ⟨tb (List.mem_of_getElem? (i := 1703) (by decide +kernel)) (by decide +kernel), tb (List.mem_of_getElem? (i := 1705) (by decide +kernel)) (by decide +kernel), tb (List.mem_of_getElem? (i := 94) (by decide +kernel)) (by decide +kernel)⟩
theorem vk_X10_276 : vOK RX10 276 yX10_edited0 := ⟨tb (List.mem_of_getElem? (i := 1691) (by decide +kernel)) (by decide +kernel), tb (List.mem_of_getElem? (i := 1693) (by decide +kernel)) (by decide +kernel), tb (List.mem_of_getElem? (i := 91) (by decide +kernel)) (by decide +kernel)⟩
theorem vk_X10_285 : vOK RX10 285 yX10_baseCell := ⟨tb (List.mem_of_getElem? (i := 1770) (by decide +kernel)) (by decide +kernel), tb (List.mem_of_getElem? (i := 1772) (by decide +kernel)) (by decide +kernel), tb (List.mem_of_getElem? (i := 103) (by decide +kernel)) (by decide +kernel)⟩
theorem vk_X10_288 : vOK RX10 288 yX10_isChanged := ⟨tb (List.mem_of_getElem? (i := 1766) (by decide +kernel)) (by decide +kernel), tb (List.mem_of_getElem? (i := 1768) (by decide +kernel)) (by decide +kernel), tb (List.mem_of_getElem? (i := 102) (by decide +kernel)) (by decide +kernel)⟩
theorem vk_X10_294 : vOK RX10 294 yX10_comesUp := ⟨tb (List.mem_of_getElem? (i := 1747) (by decide +kernel)) (by decide +kernel), tb (List.mem_of_getElem? (i := 1749) (by decide +kernel)) (by decide +kernel), tb (List.mem_of_getElem? (i := 98) (by decide +kernel)) (by decide +kernel)⟩
theorem vk_X10_298 : vOK RX10 298 yX10_nameOf := ⟨tb (List.mem_of_getElem? (i := 1743) (by decide +kernel)) (by decide +kernel), tb (List.mem_of_getElem? (i := 1745) (by decide +kernel)) (by decide +kernel), tb (List.mem_of_getElem? (i := 97) (by decide +kernel)) (by decide +kernel)⟩
theorem vk_X10_301 : vOK RX10 301 yX10_typeBy := ⟨tb (List.mem_of_getElem? (i := 1754) (by decide +kernel)) (by decide +kernel), tb (List.mem_of_getElem? (i := 1756) (by decide +kernel)) (by decide +kernel), tb (List.mem_of_getElem? (i := 99) (by decide +kernel)) (by decide +kernel)⟩
theorem vk_X10_304 : vOK RX10 304 yX10_takes := ⟨tb (List.mem_of_getElem? (i := 1758) (by decide +kernel)) (by decide +kernel), tb (List.mem_of_getElem? (i := 1760) (by decide +kernel)) (by decide +kernel), tb (List.mem_of_getElem? (i := 100) (by decide +kernel)) (by decide +kernel)⟩
theorem vk_X10_308 : vOK RX10 308 yX10_isColumnChanged := ⟨tb (List.mem_of_getElem? (i := 1762) (by decide +kernel)) (by decide +kernel), tb (List.mem_of_getElem? (i := 1764) (by decide +kernel)) (by decide +kernel), tb (List.mem_of_getElem? (i := 101) (by decide +kernel)) (by decide +kernel)⟩
theorem vk_X10_311 : vOK RX10 311 yX10_isNamed := ⟨tb (List.mem_of_getElem? (i := 1782) (by decide +kernel)) (by decide +kernel), tb (List.mem_of_getElem? (i := 1784) (by decide +kernel)) (by decide +kernel), tb (List.mem_of_getElem? (i := 106) (by decide +kernel)) (by decide +kernel)⟩
theorem vk_X10_314 : vOK RX10 314 yX10_isRowChanged := ⟨tb (List.mem_of_getElem? (i := 1790) (by decide +kernel)) (by decide +kernel), tb (List.mem_of_getElem? (i := 1792) (by decide +kernel)) (by decide +kernel), tb (List.mem_of_getElem? (i := 108) (by decide +kernel)) (by decide +kernel)⟩
theorem vk_X10_317 : vOK RX10 317 yX10_isChangedAt := ⟨tb (List.mem_of_getElem? (i := 1798) (by decide +kernel)) (by decide +kernel), tb (List.mem_of_getElem? (i := 1800) (by decide +kernel)) (by decide +kernel), tb (List.mem_of_getElem? (i := 110) (by decide +kernel)) (by decide +kernel)⟩
theorem vk_X10_320 : vOK RX10 320 yX10_sideCell := ⟨tb (List.mem_of_getElem? (i := 1802) (by decide +kernel)) (by decide +kernel), tb (List.mem_of_getElem? (i := 1804) (by decide +kernel)) (by decide +kernel), tb (List.mem_of_getElem? (i := 111) (by decide +kernel)) (by decide +kernel)⟩
theorem vk_X10_326 : vOK RX10 326 yX10_mergedAt := ⟨tb (List.mem_of_getElem? (i := 1814) (by decide +kernel)) (by decide +kernel), tb (List.mem_of_getElem? (i := 1816) (by decide +kernel)) (by decide +kernel), tb (List.mem_of_getElem? (i := 114) (by decide +kernel)) (by decide +kernel)⟩
theorem vk_X10_329 : vOK RX10 329 yX10_isLike := ⟨tb (List.mem_of_getElem? (i := 1818) (by decide +kernel)) (by decide +kernel), tb (List.mem_of_getElem? (i := 1820) (by decide +kernel)) (by decide +kernel), tb (List.mem_of_getElem? (i := 115) (by decide +kernel)) (by decide +kernel)⟩
theorem vk_X10_332 : vOK RX10 332 yX10_isAgainst := ⟨tb (List.mem_of_getElem? (i := 1810) (by decide +kernel)) (by decide +kernel), tb (List.mem_of_getElem? (i := 1812) (by decide +kernel)) (by decide +kernel), tb (List.mem_of_getElem? (i := 113) (by decide +kernel)) (by decide +kernel)⟩
theorem vk_X10_335 : vOK RX10 335 yX10_mergesOwn := ⟨tb (List.mem_of_getElem? (i := 1739) (by decide +kernel)) (by decide +kernel), tb (List.mem_of_getElem? (i := 1741) (by decide +kernel)) (by decide +kernel), tb (List.mem_of_getElem? (i := 96) (by decide +kernel)) (by decide +kernel)⟩
theorem vk_X10_339 : vOK RX10 339 yX10_mergesAdded := ⟨tb (List.mem_of_getElem? (i := 1774) (by decide +kernel)) (by decide +kernel), tb (List.mem_of_getElem? (i := 1776) (by decide +kernel)) (by decide +kernel), tb (List.mem_of_getElem? (i := 104) (by decide +kernel)) (by decide +kernel)⟩
theorem vk_X10_342 : vOK RX10 342 yX10_mergesNames := ⟨tb (List.mem_of_getElem? (i := 1778) (by decide +kernel)) (by decide +kernel), tb (List.mem_of_getElem? (i := 1780) (by decide +kernel)) (by decide +kernel), tb (List.mem_of_getElem? (i := 105) (by decide +kernel)) (by decide +kernel)⟩
theorem vk_X10_345 : vOK RX10 345 yX10_isMergedRow := ⟨tb (List.mem_of_getElem? (i := 1786) (by decide +kernel)) (by decide +kernel), tb (List.mem_of_getElem? (i := 1788) (by decide +kernel)) (by decide +kernel), tb (List.mem_of_getElem? (i := 107) (by decide +kernel)) (by decide +kernel)⟩
theorem vk_X10_348 : vOK RX10 348 yX10_mergesCell := ⟨tb (List.mem_of_getElem? (i := 1794) (by decide +kernel)) (by decide +kernel), tb (List.mem_of_getElem? (i := 1796) (by decide +kernel)) (by decide +kernel), tb (List.mem_of_getElem? (i := 109) (by decide +kernel)) (by decide +kernel)⟩
theorem vk_X10_351 : vOK RX10 351 yX10_demands := ⟨tb (List.mem_of_getElem? (i := 1806) (by decide +kernel)) (by decide +kernel), tb (List.mem_of_getElem? (i := 1808) (by decide +kernel)) (by decide +kernel), tb (List.mem_of_getElem? (i := 112) (by decide +kernel)) (by decide +kernel)⟩
theorem vk_X10_354 : vOK RX10 354 yX10_merges := ⟨tb (List.mem_of_getElem? (i := 1735) (by decide +kernel)) (by decide +kernel), tb (List.mem_of_getElem? (i := 1737) (by decide +kernel)) (by decide +kernel), tb (List.mem_of_getElem? (i := 95) (by decide +kernel)) (by decide +kernel)⟩
theorem vk_X10_357 : vOK RX10 357 yX10_choicesThere := ⟨tb (List.mem_of_getElem? (i := 1822) (by decide +kernel)) (by decide +kernel), tb (List.mem_of_getElem? (i := 1824) (by decide +kernel)) (by decide +kernel), tb (List.mem_of_getElem? (i := 116) (by decide +kernel)) (by decide +kernel)⟩
theorem vk_X10_360 : vOK RX10 360 yX10_choicesWaiting := ⟨tb (List.mem_of_getElem? (i := 1826) (by decide +kernel)) (by decide +kernel), tb (List.mem_of_getElem? (i := 1828) (by decide +kernel)) (by decide +kernel), tb (List.mem_of_getElem? (i := 117) (by decide +kernel)) (by decide +kernel)⟩
theorem vk_X10_363 : vOK RX10 363 yX10_filled := ⟨tb (List.mem_of_getElem? (i := 1830) (by decide +kernel)) (by decide +kernel), tb (List.mem_of_getElem? (i := 1832) (by decide +kernel)) (by decide +kernel), tb (List.mem_of_getElem? (i := 118) (by decide +kernel)) (by decide +kernel)⟩
theorem vk_X10_366 : vOK RX10 366 yX10_hasOf := ⟨tb (List.mem_of_getElem? (i := 1846) (by decide +kernel)) (by decide +kernel), tb (List.mem_of_getElem? (i := 1848) (by decide +kernel)) (by decide +kernel), tb (List.mem_of_getElem? (i := 121) (by decide +kernel)) (by decide +kernel)⟩
theorem vk_X10_369 : vOK RX10 369 yX10_keysOf := ⟨tb (List.mem_of_getElem? (i := 1850) (by decide +kernel)) (by decide +kernel), tb (List.mem_of_getElem? (i := 1852) (by decide +kernel)) (by decide +kernel), tb (List.mem_of_getElem? (i := 122) (by decide +kernel)) (by decide +kernel)⟩
theorem vk_X10_372 : vOK RX10 372 yX10_isTable := ⟨tb (List.mem_of_getElem? (i := 1838) (by decide +kernel)) (by decide +kernel), tb (List.mem_of_getElem? (i := 1840) (by decide +kernel)) (by decide +kernel), tb (List.mem_of_getElem? (i := 119) (by decide +kernel)) (by decide +kernel)⟩
theorem vk_X10_375 : vOK RX10 375 yX10_isWhat := ⟨tb (List.mem_of_getElem? (i := 1842) (by decide +kernel)) (by decide +kernel), tb (List.mem_of_getElem? (i := 1844) (by decide +kernel)) (by decide +kernel), tb (List.mem_of_getElem? (i := 120) (by decide +kernel)) (by decide +kernel)⟩
theorem vk_X10_378 : vOK RX10 378 yX10_isColumn := ⟨tb (List.mem_of_getElem? (i := 1858) (by decide +kernel)) (by decide +kernel), tb (List.mem_of_getElem? (i := 1860) (by decide +kernel)) (by decide +kernel), tb (List.mem_of_getElem? (i := 123) (by decide +kernel)) (by decide +kernel)⟩
theorem vk_X10_381 : vOK RX10 381 yX10_isKey := ⟨tb (List.mem_of_getElem? (i := 1866) (by decide +kernel)) (by decide +kernel), tb (List.mem_of_getElem? (i := 1868) (by decide +kernel)) (by decide +kernel), tb (List.mem_of_getElem? (i := 124) (by decide +kernel)) (by decide +kernel)⟩
theorem vk_X10_387 : vOK RX10 387 yX10_isConflict := ⟨tb (List.mem_of_getElem? (i := 1885) (by decide +kernel)) (by decide +kernel), tb (List.mem_of_getElem? (i := 1887) (by decide +kernel)) (by decide +kernel), tb (List.mem_of_getElem? (i := 125) (by decide +kernel)) (by decide +kernel)⟩
theorem vk_X10_393 : vOK RX10 393 yX10_flipsTable := ⟨tb (List.mem_of_getElem? (i := 1897) (by decide +kernel)) (by decide +kernel), tb (List.mem_of_getElem? (i := 1899) (by decide +kernel)) (by decide +kernel), tb (List.mem_of_getElem? (i := 126) (by decide +kernel)) (by decide +kernel)⟩
theorem vk_X10_396 : vOK RX10 396 yX10_flipsChoice := ⟨tb (List.mem_of_getElem? (i := 1904) (by decide +kernel)) (by decide +kernel), tb (List.mem_of_getElem? (i := 1906) (by decide +kernel)) (by decide +kernel), tb (List.mem_of_getElem? (i := 127) (by decide +kernel)) (by decide +kernel)⟩
theorem vk_X10_400 : vOK RX10 400 yX10_commitsTable := ⟨tb (List.mem_of_getElem? (i := 1912) (by decide +kernel)) (by decide +kernel), tb (List.mem_of_getElem? (i := 1914) (by decide +kernel)) (by decide +kernel), tb (List.mem_of_getElem? (i := 128) (by decide +kernel)) (by decide +kernel)⟩
theorem vk_X10_403 : vOK RX10 403 yX10_commitsDemands := ⟨tb (List.mem_of_getElem? (i := 1916) (by decide +kernel)) (by decide +kernel), tb (List.mem_of_getElem? (i := 1918) (by decide +kernel)) (by decide +kernel), tb (List.mem_of_getElem? (i := 129) (by decide +kernel)) (by decide +kernel)⟩
theorem vk_X10_406 : vOK RX10 406 yX10_isSide := ⟨tb (List.mem_of_getElem? (i := 1924) (by decide +kernel)) (by decide +kernel), tb (List.mem_of_getElem? (i := 1926) (by decide +kernel)) (by decide +kernel), tb (List.mem_of_getElem? (i := 130) (by decide +kernel)) (by decide +kernel)⟩
theorem vk_X10_409 : vOK RX10 409 yX10_changedCells := ⟨tb (List.mem_of_getElem? (i := 1928) (by decide +kernel)) (by decide +kernel), tb (List.mem_of_getElem? (i := 1930) (by decide +kernel)) (by decide +kernel), tb (List.mem_of_getElem? (i := 131) (by decide +kernel)) (by decide +kernel)⟩
theorem vk_X10_412 : vOK RX10 412 yX10_changedColumns := ⟨tb (List.mem_of_getElem? (i := 1932) (by decide +kernel)) (by decide +kernel), tb (List.mem_of_getElem? (i := 1934) (by decide +kernel)) (by decide +kernel), tb (List.mem_of_getElem? (i := 132) (by decide +kernel)) (by decide +kernel)⟩
theorem vk_X10_418 : vOK RX10 418 yX10_laysAlone := ⟨tb (List.mem_of_getElem? (i := 1947) (by decide +kernel)) (by decide +kernel), tb (List.mem_of_getElem? (i := 1949) (by decide +kernel)) (by decide +kernel), tb (List.mem_of_getElem? (i := 133) (by decide +kernel)) (by decide +kernel)⟩
theorem vk_X10_421 : vOK RX10 421 yX10_isSeen := ⟨tb (List.mem_of_getElem? (i := 1963) (by decide +kernel)) (by decide +kernel), tb (List.mem_of_getElem? (i := 1965) (by decide +kernel)) (by decide +kernel), tb (List.mem_of_getElem? (i := 134) (by decide +kernel)) (by decide +kernel)⟩
theorem vk_X10_428 : vOK RX10 428 yX10_draw := ⟨tb (List.mem_of_getElem? (i := 1975) (by decide +kernel)) (by decide +kernel), tb (List.mem_of_getElem? (i := 1977) (by decide +kernel)) (by decide +kernel), tb (List.mem_of_getElem? (i := 136) (by decide +kernel)) (by decide +kernel)⟩
theorem vk_X10_431 : vOK RX10 431 yX10_happens := ⟨tb (List.mem_of_getElem? (i := 1971) (by decide +kernel)) (by decide +kernel), tb (List.mem_of_getElem? (i := 1973) (by decide +kernel)) (by decide +kernel), tb (List.mem_of_getElem? (i := 135) (by decide +kernel)) (by decide +kernel)⟩
theorem vk_X10_440 : vOK RX10 440 yX10_copies := ⟨tb (List.mem_of_getElem? (i := 1984) (by decide +kernel)) (by decide +kernel), tb (List.mem_of_getElem? (i := 1986) (by decide +kernel)) (by decide +kernel), tb (List.mem_of_getElem? (i := 137) (by decide +kernel)) (by decide +kernel)⟩
theorem vk_X10_71 : vOK RX10 71 yX10_lays := ⟨tb (List.mem_of_getElem? (i := 1511) (by decide +kernel)) (by decide +kernel), tb (List.mem_of_getElem? (i := 1513) (by decide +kernel)) (by decide +kernel), tb (List.mem_of_getElem? (i := 57) (by decide +kernel)) (by decide +kernel)⟩
theorem vk_X10_81 : vOK RX10 81 yX10_byteAt := ⟨tb (List.mem_of_getElem? (i := 1527) (by decide +kernel)) (by decide +kernel), tb (List.mem_of_getElem? (i := 1529) (by decide +kernel)) (by decide +kernel), tb (List.mem_of_getElem? (i := 60) (by decide +kernel)) (by decide +kernel)⟩
theorem vk_X2_109 : vOK RX2 109 yX5_isColumnChanged := ⟨tb (List.mem_of_getElem? (i := 542) (by decide +kernel)) (by decide +kernel), tb (List.mem_of_getElem? (i := 543) (by decide +kernel)) (by decide +kernel), tb (List.mem_of_getElem? (i := 544) (by decide +kernel)) (by decide +kernel)⟩
theorem vk_X2_119 : vOK RX2 119 yX2_ask := ⟨tb (List.mem_of_getElem? (i := 520) (by decide +kernel)) (by decide +kernel), tb (List.mem_of_getElem? (i := 522) (by decide +kernel)) (by decide +kernel), tb (List.mem_of_getElem? (i := 3) (by decide +kernel)) (by decide +kernel)⟩
theorem vk_X2_133 : vOK RX2 133 yX2_twinInLeft := ⟨tb (List.mem_of_getElem? (i := 566) (by decide +kernel)) (by decide +kernel), tb (List.mem_of_getElem? (i := 568) (by decide +kernel)) (by decide +kernel), tb (List.mem_of_getElem? (i := 6) (by decide +kernel)) (by decide +kernel)⟩
theorem vk_X2_136 : vOK RX2 136 yX2_isNameAhead := ⟨tb (List.mem_of_getElem? (i := 574) (by decide +kernel)) (by decide +kernel), tb (List.mem_of_getElem? (i := 576) (by decide +kernel)) (by decide +kernel), tb (List.mem_of_getElem? (i := 8) (by decide +kernel)) (by decide +kernel)⟩
theorem vk_X2_139 : vOK RX2 139 yX2_leastFreeName := ⟨tb (List.mem_of_getElem? (i := 578) (by decide +kernel)) (by decide +kernel), tb (List.mem_of_getElem? (i := 580) (by decide +kernel)) (by decide +kernel), tb (List.mem_of_getElem? (i := 9) (by decide +kernel)) (by decide +kernel)⟩
theorem vk_X2_143 : vOK RX2 143 yX6_takeColumn := ⟨tb (List.mem_of_getElem? (i := 587) (by decide +kernel)) (by decide +kernel), tb (List.mem_of_getElem? (i := 588) (by decide +kernel)) (by decide +kernel), tb (List.mem_of_getElem? (i := 589) (by decide +kernel)) (by decide +kernel)⟩
theorem vk_X2_147 : vOK RX2 147 yX6_hasName := ⟨tb (List.mem_of_getElem? (i := 582) (by decide +kernel)) (by decide +kernel), tb (List.mem_of_getElem? (i := 583) (by decide +kernel)) (by decide +kernel), tb (List.mem_of_getElem? (i := 584) (by decide +kernel)) (by decide +kernel)⟩
theorem vk_X2_150 : vOK RX2 150 yX5_isRowChanged := ⟨tb (List.mem_of_getElem? (i := 603) (by decide +kernel)) (by decide +kernel), tb (List.mem_of_getElem? (i := 604) (by decide +kernel)) (by decide +kernel), tb (List.mem_of_getElem? (i := 605) (by decide +kernel)) (by decide +kernel)⟩
theorem vk_X2_153 : vOK RX2 153 yX6_putRow := ⟨tb (List.mem_of_getElem? (i := 607) (by decide +kernel)) (by decide +kernel), tb (List.mem_of_getElem? (i := 608) (by decide +kernel)) (by decide +kernel), tb (List.mem_of_getElem? (i := 609) (by decide +kernel)) (by decide +kernel)⟩
theorem vk_X2_156 : vOK RX2 156 yX2_mergeCell := ⟨tb (List.mem_of_getElem? (i := 615) (by decide +kernel)) (by decide +kernel), tb (List.mem_of_getElem? (i := 617) (by decide +kernel)) (by decide +kernel), tb (List.mem_of_getElem? (i := 12) (by decide +kernel)) (by decide +kernel)⟩
theorem vk_X2_160 : vOK RX2 160 yX5_isChanged := ⟨tb (List.mem_of_getElem? (i := 619) (by decide +kernel)) (by decide +kernel), tb (List.mem_of_getElem? (i := 547) (by decide +kernel)) (by decide +kernel), tb (List.mem_of_getElem? (i := 548) (by decide +kernel)) (by decide +kernel)⟩
theorem vk_X2_164 : vOK RX2 164 yX6_numberAt := ⟨tb (List.mem_of_getElem? (i := 620) (by decide +kernel)) (by decide +kernel), tb (List.mem_of_getElem? (i := 556) (by decide +kernel)) (by decide +kernel), tb (List.mem_of_getElem? (i := 557) (by decide +kernel)) (by decide +kernel)⟩
theorem vk_X2_170 : vOK RX2 170 yX2_putMerged := ⟨tb (List.mem_of_getElem? (i := 622) (by decide +kernel)) (by decide +kernel), tb (List.mem_of_getElem? (i := 624) (by decide +kernel)) (by decide +kernel), tb (List.mem_of_getElem? (i := 13) (by decide +kernel)) (by decide +kernel)⟩
theorem vk_X2_179 : vOK RX2 179 yX6_hasCell := ⟨tb (List.mem_of_getElem? (i := 626) (by decide +kernel)) (by decide +kernel), tb (List.mem_of_getElem? (i := 552) (by decide +kernel)) (by decide +kernel), tb (List.mem_of_getElem? (i := 553) (by decide +kernel)) (by decide +kernel)⟩
theorem vk_X2_182 : vOK RX2 182 yX6_putNumber := ⟨tb (List.mem_of_getElem? (i := 627) (by decide +kernel)) (by decide +kernel), tb (List.mem_of_getElem? (i := 592) (by decide +kernel)) (by decide +kernel), tb (List.mem_of_getElem? (i := 593) (by decide +kernel)) (by decide +kernel)⟩
theorem vk_X2_194 : vOK RX2 194 yX2_isBroken := ⟨tb (List.mem_of_getElem? (i := 635) (by decide +kernel)) (by decide +kernel), tb (List.mem_of_getElem? (i := 637) (by decide +kernel)) (by decide +kernel), tb (List.mem_of_getElem? (i := 15) (by decide +kernel)) (by decide +kernel)⟩
theorem vk_X2_198 : vOK RX2 198 yX6_takeRow := ⟨tb (List.mem_of_getElem? (i := 643) (by decide +kernel)) (by decide +kernel), tb (List.mem_of_getElem? (i := 644) (by decide +kernel)) (by decide +kernel), tb (List.mem_of_getElem? (i := 645) (by decide +kernel)) (by decide +kernel)⟩
theorem vk_X2_201 : vOK RX2 201 yX2_isAtLesserKey := ⟨tb (List.mem_of_getElem? (i := 639) (by decide +kernel)) (by decide +kernel), tb (List.mem_of_getElem? (i := 641) (by decide +kernel)) (by decide +kernel), tb (List.mem_of_getElem? (i := 16) (by decide +kernel)) (by decide +kernel)⟩
theorem vk_X2_34 : vOK RX2 34 yX6_clear := ⟨tb (List.mem_of_getElem? (i := 503) (by decide +kernel)) (by decide +kernel), tb (List.mem_of_getElem? (i := 504) (by decide +kernel)) (by decide +kernel), tb (List.mem_of_getElem? (i := 505) (by decide +kernel)) (by decide +kernel)⟩
theorem vk_X2_49 : vOK RX2 49 yX6_hasColumn := ⟨tb (List.mem_of_getElem? (i := 507) (by decide +kernel)) (by decide +kernel), tb (List.mem_of_getElem? (i := 508) (by decide +kernel)) (by decide +kernel), tb (List.mem_of_getElem? (i := 509) (by decide +kernel)) (by decide +kernel)⟩
theorem vk_X2_53 : vOK RX2 53 yX2_mergeColumn := ⟨tb (List.mem_of_getElem? (i := 511) (by decide +kernel)) (by decide +kernel), tb (List.mem_of_getElem? (i := 513) (by decide +kernel)) (by decide +kernel), tb (List.mem_of_getElem? (i := 1) (by decide +kernel)) (by decide +kernel)⟩
theorem vk_X2_57 : vOK RX2 57 yX2_mergeAddedColumns := ⟨tb (List.mem_of_getElem? (i := 562) (by decide +kernel)) (by decide +kernel), tb (List.mem_of_getElem? (i := 564) (by decide +kernel)) (by decide +kernel), tb (List.mem_of_getElem? (i := 5) (by decide +kernel)) (by decide +kernel)⟩
theorem vk_X2_61 : vOK RX2 61 yX2_partNames := ⟨tb (List.mem_of_getElem? (i := 570) (by decide +kernel)) (by decide +kernel), tb (List.mem_of_getElem? (i := 572) (by decide +kernel)) (by decide +kernel), tb (List.mem_of_getElem? (i := 7) (by decide +kernel)) (by decide +kernel)⟩
theorem vk_X2_64 : vOK RX2 64 yX2_mergeRow := ⟨tb (List.mem_of_getElem? (i := 595) (by decide +kernel)) (by decide +kernel), tb (List.mem_of_getElem? (i := 597) (by decide +kernel)) (by decide +kernel), tb (List.mem_of_getElem? (i := 10) (by decide +kernel)) (by decide +kernel)⟩
theorem vk_X2_67 : vOK RX2 67 yX6_hasRow := ⟨tb (List.mem_of_getElem? (i := 599) (by decide +kernel)) (by decide +kernel), tb (List.mem_of_getElem? (i := 600) (by decide +kernel)) (by decide +kernel), tb (List.mem_of_getElem? (i := 601) (by decide +kernel)) (by decide +kernel)⟩
theorem vk_X2_70 : vOK RX2 70 yX2_mergeCells := ⟨tb (List.mem_of_getElem? (i := 611) (by decide +kernel)) (by decide +kernel), tb (List.mem_of_getElem? (i := 613) (by decide +kernel)) (by decide +kernel), tb (List.mem_of_getElem? (i := 11) (by decide +kernel)) (by decide +kernel)⟩
theorem vk_X2_76 : vOK RX2 76 yX2_checkDemand := ⟨tb (List.mem_of_getElem? (i := 631) (by decide +kernel)) (by decide +kernel), tb (List.mem_of_getElem? (i := 633) (by decide +kernel)) (by decide +kernel), tb (List.mem_of_getElem? (i := 14) (by decide +kernel)) (by decide +kernel)⟩
theorem vk_X2_88 : vOK RX2 88 yX2_mergedName := ⟨tb (List.mem_of_getElem? (i := 515) (by decide +kernel)) (by decide +kernel), tb (List.mem_of_getElem? (i := 517) (by decide +kernel)) (by decide +kernel), tb (List.mem_of_getElem? (i := 2) (by decide +kernel)) (by decide +kernel)⟩
theorem vk_X2_92 : vOK RX2 92 yX2_mergedType := ⟨tb (List.mem_of_getElem? (i := 527) (by decide +kernel)) (by decide +kernel), tb (List.mem_of_getElem? (i := 529) (by decide +kernel)) (by decide +kernel), tb (List.mem_of_getElem? (i := 4) (by decide +kernel)) (by decide +kernel)⟩
theorem vk_X2_95 : vOK RX2 95 yX6_putColumn := ⟨tb (List.mem_of_getElem? (i := 534) (by decide +kernel)) (by decide +kernel), tb (List.mem_of_getElem? (i := 535) (by decide +kernel)) (by decide +kernel), tb (List.mem_of_getElem? (i := 536) (by decide +kernel)) (by decide +kernel)⟩
theorem vk_X2_99 : vOK RX2 99 yX5_sideOf := ⟨tb (List.mem_of_getElem? (i := 538) (by decide +kernel)) (by decide +kernel), tb (List.mem_of_getElem? (i := 539) (by decide +kernel)) (by decide +kernel), tb (List.mem_of_getElem? (i := 540) (by decide +kernel)) (by decide +kernel)⟩
theorem vk_X3_103 : vOK RX3 103 yX3_leavePicked := ⟨tb (List.mem_of_getElem? (i := 1315) (by decide +kernel)) (by decide +kernel), tb (List.mem_of_getElem? (i := 1317) (by decide +kernel)) (by decide +kernel), tb (List.mem_of_getElem? (i := 53) (by decide +kernel)) (by decide +kernel)⟩
theorem vk_X3_107 : vOK RX3 107 yX5_sideOf := ⟨tb (List.mem_of_getElem? (i := 1319) (by decide +kernel)) (by decide +kernel), tb (List.mem_of_getElem? (i := 539) (by decide +kernel)) (by decide +kernel), tb (List.mem_of_getElem? (i := 540) (by decide +kernel)) (by decide +kernel)⟩
theorem vk_X3_111 : vOK RX3 111 yX6_numberAt := ⟨tb (List.mem_of_getElem? (i := 1320) (by decide +kernel)) (by decide +kernel), tb (List.mem_of_getElem? (i := 556) (by decide +kernel)) (by decide +kernel), tb (List.mem_of_getElem? (i := 557) (by decide +kernel)) (by decide +kernel)⟩
theorem vk_X3_114 : vOK RX3 114 yX5_baseCast := ⟨tb (List.mem_of_getElem? (i := 1321) (by decide +kernel)) (by decide +kernel), tb (List.mem_of_getElem? (i := 1322) (by decide +kernel)) (by decide +kernel), tb (List.mem_of_getElem? (i := 1323) (by decide +kernel)) (by decide +kernel)⟩
theorem vk_X3_118 : vOK RX3 118 yX6_putNumber := ⟨tb (List.mem_of_getElem? (i := 1325) (by decide +kernel)) (by decide +kernel), tb (List.mem_of_getElem? (i := 592) (by decide +kernel)) (by decide +kernel), tb (List.mem_of_getElem? (i := 593) (by decide +kernel)) (by decide +kernel)⟩
theorem vk_X3_122 : vOK RX3 122 yX4_isSo := ⟨tb (List.mem_of_getElem? (i := 1337) (by decide +kernel)) (by decide +kernel), tb (List.mem_of_getElem? (i := 1338) (by decide +kernel)) (by decide +kernel), tb (List.mem_of_getElem? (i := 1339) (by decide +kernel)) (by decide +kernel)⟩
theorem vk_X3_131 : vOK RX3 131 yX6_hasCell := ⟨tb (List.mem_of_getElem? (i := 1343) (by decide +kernel)) (by decide +kernel), tb (List.mem_of_getElem? (i := 552) (by decide +kernel)) (by decide +kernel), tb (List.mem_of_getElem? (i := 553) (by decide +kernel)) (by decide +kernel)⟩
theorem vk_X3_137 : vOK RX3 137 yX3_wouldBeSo := ⟨tb (List.mem_of_getElem? (i := 1344) (by decide +kernel)) (by decide +kernel), tb (List.mem_of_getElem? (i := 1346) (by decide +kernel)) (by decide +kernel), tb (List.mem_of_getElem? (i := 54) (by decide +kernel)) (by decide +kernel)⟩
theorem vk_X3_152 : vOK RX3 152 yX3_passYear := ⟨tb (List.mem_of_getElem? (i := 1361) (by decide +kernel)) (by decide +kernel), tb (List.mem_of_getElem? (i := 1363) (by decide +kernel)) (by decide +kernel), tb (List.mem_of_getElem? (i := 55) (by decide +kernel)) (by decide +kernel)⟩
theorem vk_X3_156 : vOK RX3 156 yX3_draw := ⟨tb (List.mem_of_getElem? (i := 1365) (by decide +kernel)) (by decide +kernel), tb (List.mem_of_getElem? (i := 1367) (by decide +kernel)) (by decide +kernel), tb (List.mem_of_getElem? (i := 56) (by decide +kernel)) (by decide +kernel)⟩
theorem vk_X3_159 : vOK RX3 159 yX5_doEdit := ⟨tb (List.mem_of_getElem? (i := 1372) (by decide +kernel)) (by decide +kernel), tb (List.mem_of_getElem? (i := 1052) (by decide +kernel)) (by decide +kernel), tb (List.mem_of_getElem? (i := 1053) (by decide +kernel)) (by decide +kernel)⟩
theorem vk_X3_41 : vOK RX3 41 yX5_copyFrom := ⟨tb (List.mem_of_getElem? (i := 1281) (by decide +kernel)) (by decide +kernel), tb (List.mem_of_getElem? (i := 678) (by decide +kernel)) (by decide +kernel), tb (List.mem_of_getElem? (i := 679) (by decide +kernel)) (by decide +kernel)⟩
theorem vk_X3_45 : vOK RX3 45 yX2_run := ⟨tb (List.mem_of_getElem? (i := 1282) (by decide +kernel)) (by decide +kernel), tb (List.mem_of_getElem? (i := 500) (by decide +kernel)) (by decide +kernel), tb (List.mem_of_getElem? (i := 501) (by decide +kernel)) (by decide +kernel)⟩
theorem vk_X3_84 : vOK RX3 84 yX3_keepAnswer := ⟨tb (List.mem_of_getElem? (i := 1286) (by decide +kernel)) (by decide +kernel), tb (List.mem_of_getElem? (i := 1288) (by decide +kernel)) (by decide +kernel), tb (List.mem_of_getElem? (i := 52) (by decide +kernel)) (by decide +kernel)⟩
theorem vk_X3_91 : vOK RX3 91 yX5_isChanged := ⟨tb (List.mem_of_getElem? (i := 1305) (by decide +kernel)) (by decide +kernel), tb (List.mem_of_getElem? (i := 547) (by decide +kernel)) (by decide +kernel), tb (List.mem_of_getElem? (i := 548) (by decide +kernel)) (by decide +kernel)⟩
theorem vk_X3_95 : vOK RX3 95 yX6_hasRow := ⟨tb (List.mem_of_getElem? (i := 1306) (by decide +kernel)) (by decide +kernel), tb (List.mem_of_getElem? (i := 600) (by decide +kernel)) (by decide +kernel), tb (List.mem_of_getElem? (i := 601) (by decide +kernel)) (by decide +kernel)⟩
theorem vk_X3_99 : vOK RX3 99 yX2_isMerged := ⟨tb (List.mem_of_getElem? (i := 1307) (by decide +kernel)) (by decide +kernel), tb (List.mem_of_getElem? (i := 1308) (by decide +kernel)) (by decide +kernel), tb (List.mem_of_getElem? (i := 1309) (by decide +kernel)) (by decide +kernel)⟩
theorem vk_X4_37 : vOK RX4 37 yX6_hasCell := ⟨tb (List.mem_of_getElem? (i := 1341) (by decide +kernel)) (by decide +kernel), tb (List.mem_of_getElem? (i := 552) (by decide +kernel)) (by decide +kernel), tb (List.mem_of_getElem? (i := 553) (by decide +kernel)) (by decide +kernel)⟩
theorem vk_X4_42 : vOK RX4 42 yX6_numberAt := ⟨tb (List.mem_of_getElem? (i := 1342) (by decide +kernel)) (by decide +kernel), tb (List.mem_of_getElem? (i := 556) (by decide +kernel)) (by decide +kernel), tb (List.mem_of_getElem? (i := 557) (by decide +kernel)) (by decide +kernel)⟩
theorem vk_X5_101 : vOK RX5 101 yX5_insertRow := ⟨tb (List.mem_of_getElem? (i := 1060) (by decide +kernel)) (by decide +kernel), tb (List.mem_of_getElem? (i := 1062) (by decide +kernel)) (by decide +kernel), tb (List.mem_of_getElem? (i := 44) (by decide +kernel)) (by decide +kernel)⟩
theorem vk_X5_105 : vOK RX5 105 yX5_deleteRow := ⟨tb (List.mem_of_getElem? (i := 1066) (by decide +kernel)) (by decide +kernel), tb (List.mem_of_getElem? (i := 1068) (by decide +kernel)) (by decide +kernel), tb (List.mem_of_getElem? (i := 45) (by decide +kernel)) (by decide +kernel)⟩
theorem vk_X5_108 : vOK RX5 108 yX5_retypeColumn := ⟨tb (List.mem_of_getElem? (i := 1071) (by decide +kernel)) (by decide +kernel), tb (List.mem_of_getElem? (i := 1073) (by decide +kernel)) (by decide +kernel), tb (List.mem_of_getElem? (i := 46) (by decide +kernel)) (by decide +kernel)⟩
theorem vk_X5_112 : vOK RX5 112 yX5_renameColumn := ⟨tb (List.mem_of_getElem? (i := 1075) (by decide +kernel)) (by decide +kernel), tb (List.mem_of_getElem? (i := 1077) (by decide +kernel)) (by decide +kernel), tb (List.mem_of_getElem? (i := 47) (by decide +kernel)) (by decide +kernel)⟩
theorem vk_X5_115 : vOK RX5 115 yX5_addColumn := ⟨tb (List.mem_of_getElem? (i := 1080) (by decide +kernel)) (by decide +kernel), tb (List.mem_of_getElem? (i := 1082) (by decide +kernel)) (by decide +kernel), tb (List.mem_of_getElem? (i := 48) (by decide +kernel)) (by decide +kernel)⟩
theorem vk_X5_119 : vOK RX5 119 yX5_dropColumn := ⟨tb (List.mem_of_getElem? (i := 1084) (by decide +kernel)) (by decide +kernel), tb (List.mem_of_getElem? (i := 1086) (by decide +kernel)) (by decide +kernel), tb (List.mem_of_getElem? (i := 49) (by decide +kernel)) (by decide +kernel)⟩
theorem vk_X5_125 : vOK RX5 125 yX6_putNumber := ⟨tb (List.mem_of_getElem? (i := 765) (by decide +kernel)) (by decide +kernel), tb (List.mem_of_getElem? (i := 592) (by decide +kernel)) (by decide +kernel), tb (List.mem_of_getElem? (i := 593) (by decide +kernel)) (by decide +kernel)⟩
theorem vk_X5_129 : vOK RX5 129 yX6_hasRow := ⟨tb (List.mem_of_getElem? (i := 1064) (by decide +kernel)) (by decide +kernel), tb (List.mem_of_getElem? (i := 600) (by decide +kernel)) (by decide +kernel), tb (List.mem_of_getElem? (i := 601) (by decide +kernel)) (by decide +kernel)⟩
theorem vk_X5_141 : vOK RX5 141 yX6_putRow := ⟨tb (List.mem_of_getElem? (i := 1065) (by decide +kernel)) (by decide +kernel), tb (List.mem_of_getElem? (i := 608) (by decide +kernel)) (by decide +kernel), tb (List.mem_of_getElem? (i := 609) (by decide +kernel)) (by decide +kernel)⟩
theorem vk_X5_145 : vOK RX5 145 yX6_takeRow := ⟨tb (List.mem_of_getElem? (i := 1070) (by decide +kernel)) (by decide +kernel), tb (List.mem_of_getElem? (i := 644) (by decide +kernel)) (by decide +kernel), tb (List.mem_of_getElem? (i := 645) (by decide +kernel)) (by decide +kernel)⟩
theorem vk_X5_148 : vOK RX5 148 yX6_hasName := ⟨tb (List.mem_of_getElem? (i := 1079) (by decide +kernel)) (by decide +kernel), tb (List.mem_of_getElem? (i := 583) (by decide +kernel)) (by decide +kernel), tb (List.mem_of_getElem? (i := 584) (by decide +kernel)) (by decide +kernel)⟩
theorem vk_X5_154 : vOK RX5 154 yX6_putColumn := ⟨tb (List.mem_of_getElem? (i := 764) (by decide +kernel)) (by decide +kernel), tb (List.mem_of_getElem? (i := 535) (by decide +kernel)) (by decide +kernel), tb (List.mem_of_getElem? (i := 536) (by decide +kernel)) (by decide +kernel)⟩
theorem vk_X5_157 : vOK RX5 157 yX6_takeColumn := ⟨tb (List.mem_of_getElem? (i := 1088) (by decide +kernel)) (by decide +kernel), tb (List.mem_of_getElem? (i := 588) (by decide +kernel)) (by decide +kernel), tb (List.mem_of_getElem? (i := 589) (by decide +kernel)) (by decide +kernel)⟩
theorem vk_X5_166 : vOK RX5 166 yX5_swapChoices := ⟨tb (List.mem_of_getElem? (i := 729) (by decide +kernel)) (by decide +kernel), tb (List.mem_of_getElem? (i := 731) (by decide +kernel)) (by decide +kernel), tb (List.mem_of_getElem? (i := 22) (by decide +kernel)) (by decide +kernel)⟩
theorem vk_X5_182 : vOK RX5 182 yX5_keepDemandsOf := ⟨tb (List.mem_of_getElem? (i := 750) (by decide +kernel)) (by decide +kernel), tb (List.mem_of_getElem? (i := 752) (by decide +kernel)) (by decide +kernel), tb (List.mem_of_getElem? (i := 23) (by decide +kernel)) (by decide +kernel)⟩
theorem vk_X5_189 : vOK RX5 189 yX5_putDemand := ⟨tb (List.mem_of_getElem? (i := 759) (by decide +kernel)) (by decide +kernel), tb (List.mem_of_getElem? (i := 760) (by decide +kernel)) (by decide +kernel), tb (List.mem_of_getElem? (i := 761) (by decide +kernel)) (by decide +kernel)⟩
theorem vk_X5_43 : vOK RX5 43 yX6_clear := ⟨tb (List.mem_of_getElem? (i := 763) (by decide +kernel)) (by decide +kernel), tb (List.mem_of_getElem? (i := 504) (by decide +kernel)) (by decide +kernel), tb (List.mem_of_getElem? (i := 505) (by decide +kernel)) (by decide +kernel)⟩
theorem vk_X5_50 : vOK RX5 50 yX5_startSides := ⟨tb (List.mem_of_getElem? (i := 766) (by decide +kernel)) (by decide +kernel), tb (List.mem_of_getElem? (i := 767) (by decide +kernel)) (by decide +kernel), tb (List.mem_of_getElem? (i := 768) (by decide +kernel)) (by decide +kernel)⟩
theorem vk_X5_53 : vOK RX5 53 yX6_copyFrom := ⟨tb (List.mem_of_getElem? (i := 681) (by decide +kernel)) (by decide +kernel), tb (List.mem_of_getElem? (i := 682) (by decide +kernel)) (by decide +kernel), tb (List.mem_of_getElem? (i := 683) (by decide +kernel)) (by decide +kernel)⟩
theorem vk_X5_69 : vOK RX5 69 yX5_sideOf := ⟨tb (List.mem_of_getElem? (i := 550) (by decide +kernel)) (by decide +kernel), tb (List.mem_of_getElem? (i := 539) (by decide +kernel)) (by decide +kernel), tb (List.mem_of_getElem? (i := 540) (by decide +kernel)) (by decide +kernel)⟩
theorem vk_X5_73 : vOK RX5 73 yX6_numberAt := ⟨tb (List.mem_of_getElem? (i := 555) (by decide +kernel)) (by decide +kernel), tb (List.mem_of_getElem? (i := 556) (by decide +kernel)) (by decide +kernel), tb (List.mem_of_getElem? (i := 557) (by decide +kernel)) (by decide +kernel)⟩
theorem vk_X5_77 : vOK RX5 77 yX6_hasColumn := ⟨tb (List.mem_of_getElem? (i := 754) (by decide +kernel)) (by decide +kernel), tb (List.mem_of_getElem? (i := 508) (by decide +kernel)) (by decide +kernel), tb (List.mem_of_getElem? (i := 509) (by decide +kernel)) (by decide +kernel)⟩
theorem vk_X5_89 : vOK RX5 89 yX6_hasCell := ⟨tb (List.mem_of_getElem? (i := 551) (by decide +kernel)) (by decide +kernel), tb (List.mem_of_getElem? (i := 552) (by decide +kernel)) (by decide +kernel), tb (List.mem_of_getElem? (i := 553) (by decide +kernel)) (by decide +kernel)⟩
theorem vk_X5_93 : vOK RX5 93 yX5_isChanged := ⟨tb (List.mem_of_getElem? (i := 546) (by decide +kernel)) (by decide +kernel), tb (List.mem_of_getElem? (i := 547) (by decide +kernel)) (by decide +kernel), tb (List.mem_of_getElem? (i := 548) (by decide +kernel)) (by decide +kernel)⟩
theorem vk_X5_97 : vOK RX5 97 yX5_setNumber := ⟨tb (List.mem_of_getElem? (i := 1055) (by decide +kernel)) (by decide +kernel), tb (List.mem_of_getElem? (i := 1057) (by decide +kernel)) (by decide +kernel), tb (List.mem_of_getElem? (i := 43) (by decide +kernel)) (by decide +kernel)⟩
theorem vk_X6_40 : vOK RX6 40 yX6_hasColumn := ⟨tb (List.mem_of_getElem? (i := 586) (by decide +kernel)) (by decide +kernel), tb (List.mem_of_getElem? (i := 508) (by decide +kernel)) (by decide +kernel), tb (List.mem_of_getElem? (i := 509) (by decide +kernel)) (by decide +kernel)⟩
theorem vk_X6_44 : vOK RX6 44 yX6_putNumber := ⟨tb (List.mem_of_getElem? (i := 591) (by decide +kernel)) (by decide +kernel), tb (List.mem_of_getElem? (i := 592) (by decide +kernel)) (by decide +kernel), tb (List.mem_of_getElem? (i := 593) (by decide +kernel)) (by decide +kernel)⟩
theorem vk_X6_48 : vOK RX6 48 yX6_hasRow := ⟨tb (List.mem_of_getElem? (i := 647) (by decide +kernel)) (by decide +kernel), tb (List.mem_of_getElem? (i := 600) (by decide +kernel)) (by decide +kernel), tb (List.mem_of_getElem? (i := 601) (by decide +kernel)) (by decide +kernel)⟩
theorem vk_X7_107 : vOK RX7 107 yX7_fail := ⟨tb (List.mem_of_getElem? (i := 974) (by decide +kernel)) (by decide +kernel), tb (List.mem_of_getElem? (i := 976) (by decide +kernel)) (by decide +kernel), tb (List.mem_of_getElem? (i := 30) (by decide +kernel)) (by decide +kernel)⟩
theorem vk_X7_125 : vOK RX7 125 yX7_takeHead := ⟨tb (List.mem_of_getElem? (i := 970) (by decide +kernel)) (by decide +kernel), tb (List.mem_of_getElem? (i := 972) (by decide +kernel)) (by decide +kernel), tb (List.mem_of_getElem? (i := 29) (by decide +kernel)) (by decide +kernel)⟩
theorem vk_X7_129 : vOK RX7 129 yX7_takeName := ⟨tb (List.mem_of_getElem? (i := 978) (by decide +kernel)) (by decide +kernel), tb (List.mem_of_getElem? (i := 980) (by decide +kernel)) (by decide +kernel), tb (List.mem_of_getElem? (i := 31) (by decide +kernel)) (by decide +kernel)⟩
theorem vk_X7_133 : vOK RX7 133 yX6_hasName := ⟨tb (List.mem_of_getElem? (i := 986) (by decide +kernel)) (by decide +kernel), tb (List.mem_of_getElem? (i := 583) (by decide +kernel)) (by decide +kernel), tb (List.mem_of_getElem? (i := 584) (by decide +kernel)) (by decide +kernel)⟩
theorem vk_X7_136 : vOK RX7 136 yX7_takeType := ⟨tb (List.mem_of_getElem? (i := 987) (by decide +kernel)) (by decide +kernel), tb (List.mem_of_getElem? (i := 989) (by decide +kernel)) (by decide +kernel), tb (List.mem_of_getElem? (i := 33) (by decide +kernel)) (by decide +kernel)⟩
theorem vk_X7_139 : vOK RX7 139 yX7_takeSemicolon := ⟨tb (List.mem_of_getElem? (i := 995) (by decide +kernel)) (by decide +kernel), tb (List.mem_of_getElem? (i := 997) (by decide +kernel)) (by decide +kernel), tb (List.mem_of_getElem? (i := 34) (by decide +kernel)) (by decide +kernel)⟩
theorem vk_X7_142 : vOK RX7 142 yX6_putColumn := ⟨tb (List.mem_of_getElem? (i := 1003) (by decide +kernel)) (by decide +kernel), tb (List.mem_of_getElem? (i := 535) (by decide +kernel)) (by decide +kernel), tb (List.mem_of_getElem? (i := 536) (by decide +kernel)) (by decide +kernel)⟩
theorem vk_X7_149 : vOK RX7 149 yX7_takeNumber := ⟨tb (List.mem_of_getElem? (i := 1009) (by decide +kernel)) (by decide +kernel), tb (List.mem_of_getElem? (i := 1011) (by decide +kernel)) (by decide +kernel), tb (List.mem_of_getElem? (i := 37) (by decide +kernel)) (by decide +kernel)⟩
theorem vk_X7_152 : vOK RX7 152 yX6_hasRow := ⟨tb (List.mem_of_getElem? (i := 1013) (by decide +kernel)) (by decide +kernel), tb (List.mem_of_getElem? (i := 600) (by decide +kernel)) (by decide +kernel), tb (List.mem_of_getElem? (i := 601) (by decide +kernel)) (by decide +kernel)⟩
theorem vk_X7_155 : vOK RX7 155 yX6_putRow := ⟨tb (List.mem_of_getElem? (i := 1014) (by decide +kernel)) (by decide +kernel), tb (List.mem_of_getElem? (i := 608) (by decide +kernel)) (by decide +kernel), tb (List.mem_of_getElem? (i := 609) (by decide +kernel)) (by decide +kernel)⟩
theorem vk_X7_158 : vOK RX7 158 yX6_hasColumn := ⟨tb (List.mem_of_getElem? (i := 1015) (by decide +kernel)) (by decide +kernel), tb (List.mem_of_getElem? (i := 508) (by decide +kernel)) (by decide +kernel), tb (List.mem_of_getElem? (i := 509) (by decide +kernel)) (by decide +kernel)⟩
theorem vk_X7_161 : vOK RX7 161 yX7_takeCell := ⟨tb (List.mem_of_getElem? (i := 1016) (by decide +kernel)) (by decide +kernel), tb (List.mem_of_getElem? (i := 1018) (by decide +kernel)) (by decide +kernel), tb (List.mem_of_getElem? (i := 38) (by decide +kernel)) (by decide +kernel)⟩
theorem vk_X7_174 : vOK RX7 174 yX6_putNumber := ⟨tb (List.mem_of_getElem? (i := 1021) (by decide +kernel)) (by decide +kernel), tb (List.mem_of_getElem? (i := 592) (by decide +kernel)) (by decide +kernel), tb (List.mem_of_getElem? (i := 593) (by decide +kernel)) (by decide +kernel)⟩
theorem vk_X7_180 : vOK RX7 180 yX7_takeDemanded := ⟨tb (List.mem_of_getElem? (i := 1027) (by decide +kernel)) (by decide +kernel), tb (List.mem_of_getElem? (i := 1029) (by decide +kernel)) (by decide +kernel), tb (List.mem_of_getElem? (i := 40) (by decide +kernel)) (by decide +kernel)⟩
theorem vk_X7_183 : vOK RX7 183 yX5_putDemand := ⟨tb (List.mem_of_getElem? (i := 1031) (by decide +kernel)) (by decide +kernel), tb (List.mem_of_getElem? (i := 760) (by decide +kernel)) (by decide +kernel), tb (List.mem_of_getElem? (i := 761) (by decide +kernel)) (by decide +kernel)⟩
theorem vk_X7_186 : vOK RX7 186 yX7_takeEditWord := ⟨tb (List.mem_of_getElem? (i := 1040) (by decide +kernel)) (by decide +kernel), tb (List.mem_of_getElem? (i := 1042) (by decide +kernel)) (by decide +kernel), tb (List.mem_of_getElem? (i := 42) (by decide +kernel)) (by decide +kernel)⟩
theorem vk_X7_189 : vOK RX7 189 yX5_doEdit := ⟨tb (List.mem_of_getElem? (i := 1051) (by decide +kernel)) (by decide +kernel), tb (List.mem_of_getElem? (i := 1052) (by decide +kernel)) (by decide +kernel), tb (List.mem_of_getElem? (i := 1053) (by decide +kernel)) (by decide +kernel)⟩
theorem vk_X7_207 : vOK RX7 207 yX7_passed := ⟨tb (List.mem_of_getElem? (i := 982) (by decide +kernel)) (by decide +kernel), tb (List.mem_of_getElem? (i := 984) (by decide +kernel)) (by decide +kernel), tb (List.mem_of_getElem? (i := 32) (by decide +kernel)) (by decide +kernel)⟩
theorem vk_X7_218 : vOK RX7 218 yX7_isSign := ⟨tb (List.mem_of_getElem? (i := 999) (by decide +kernel)) (by decide +kernel), tb (List.mem_of_getElem? (i := 1001) (by decide +kernel)) (by decide +kernel), tb (List.mem_of_getElem? (i := 35) (by decide +kernel)) (by decide +kernel)⟩
theorem vk_X7_222 : vOK RX7 222 yJ0_length_8abf5 := ⟨tb (List.mem_of_getElem? (i := 917) (by decide +kernel)) (by decide +kernel), tb (List.mem_of_getElem? (i := 918) (by decide +kernel)) (by decide +kernel), tb (List.mem_of_getElem? (i := 919) (by decide +kernel)) (by decide +kernel)⟩
theorem vk_X7_226 : vOK RX7 226 yJ0_charAt_5068e := ⟨tb (List.mem_of_getElem? (i := 927) (by decide +kernel)) (by decide +kernel), tb (List.mem_of_getElem? (i := 928) (by decide +kernel)) (by decide +kernel), tb (List.mem_of_getElem? (i := 929) (by decide +kernel)) (by decide +kernel)⟩
theorem vk_X7_29 : vOK RX7 29 yX7_hasRoom := ⟨tb (List.mem_of_getElem? (i := 480) (by decide +kernel)) (by decide +kernel), tb (List.mem_of_getElem? (i := 473) (by decide +kernel)) (by decide +kernel), tb (List.mem_of_getElem? (i := 474) (by decide +kernel)) (by decide +kernel)⟩
theorem vk_X7_58 : vOK RX7 58 yX5_clear := ⟨tb (List.mem_of_getElem? (i := 897) (by decide +kernel)) (by decide +kernel), tb (List.mem_of_getElem? (i := 898) (by decide +kernel)) (by decide +kernel), tb (List.mem_of_getElem? (i := 899) (by decide +kernel)) (by decide +kernel)⟩
theorem vk_X7_61 : vOK RX7 61 yX7_step := ⟨tb (List.mem_of_getElem? (i := 901) (by decide +kernel)) (by decide +kernel), tb (List.mem_of_getElem? (i := 903) (by decide +kernel)) (by decide +kernel), tb (List.mem_of_getElem? (i := 25) (by decide +kernel)) (by decide +kernel)⟩
theorem vk_X7_67 : vOK RX7 67 yX7_readLine := ⟨tb (List.mem_of_getElem? (i := 908) (by decide +kernel)) (by decide +kernel), tb (List.mem_of_getElem? (i := 910) (by decide +kernel)) (by decide +kernel), tb (List.mem_of_getElem? (i := 26) (by decide +kernel)) (by decide +kernel)⟩
theorem vk_X7_70 : vOK RX7 70 yX5_startSides := ⟨tb (List.mem_of_getElem? (i := 1039) (by decide +kernel)) (by decide +kernel), tb (List.mem_of_getElem? (i := 767) (by decide +kernel)) (by decide +kernel), tb (List.mem_of_getElem? (i := 768) (by decide +kernel)) (by decide +kernel)⟩
theorem vk_X7_75 : vOK RX7 75 yX7_isWord := ⟨tb (List.mem_of_getElem? (i := 913) (by decide +kernel)) (by decide +kernel), tb (List.mem_of_getElem? (i := 915) (by decide +kernel)) (by decide +kernel), tb (List.mem_of_getElem? (i := 27) (by decide +kernel)) (by decide +kernel)⟩
theorem vk_X7_79 : vOK RX7 79 yX7_readColumn := ⟨tb (List.mem_of_getElem? (i := 965) (by decide +kernel)) (by decide +kernel), tb (List.mem_of_getElem? (i := 967) (by decide +kernel)) (by decide +kernel), tb (List.mem_of_getElem? (i := 28) (by decide +kernel)) (by decide +kernel)⟩
theorem vk_X7_84 : vOK RX7 84 yX7_readRow := ⟨tb (List.mem_of_getElem? (i := 1005) (by decide +kernel)) (by decide +kernel), tb (List.mem_of_getElem? (i := 1007) (by decide +kernel)) (by decide +kernel), tb (List.mem_of_getElem? (i := 36) (by decide +kernel)) (by decide +kernel)⟩
theorem vk_X7_89 : vOK RX7 89 yX7_readDemand := ⟨tb (List.mem_of_getElem? (i := 1023) (by decide +kernel)) (by decide +kernel), tb (List.mem_of_getElem? (i := 1025) (by decide +kernel)) (by decide +kernel), tb (List.mem_of_getElem? (i := 39) (by decide +kernel)) (by decide +kernel)⟩
theorem vk_X7_99 : vOK RX7 99 yX7_readEdit := ⟨tb (List.mem_of_getElem? (i := 1035) (by decide +kernel)) (by decide +kernel), tb (List.mem_of_getElem? (i := 1037) (by decide +kernel)) (by decide +kernel), tb (List.mem_of_getElem? (i := 41) (by decide +kernel)) (by decide +kernel)⟩
theorem vk_X9_103 : vOK RX9 103 yX4_clear := ⟨tb (List.mem_of_getElem? (i := 793) (by decide +kernel)) (by decide +kernel), tb (List.mem_of_getElem? (i := 794) (by decide +kernel)) (by decide +kernel), tb (List.mem_of_getElem? (i := 795) (by decide +kernel)) (by decide +kernel)⟩
theorem vk_X9_108 : vOK RX9 108 yX9_noteChange := ⟨tb (List.mem_of_getElem? (i := 697) (by decide +kernel)) (by decide +kernel), tb (List.mem_of_getElem? (i := 699) (by decide +kernel)) (by decide +kernel), tb (List.mem_of_getElem? (i := 20) (by decide +kernel)) (by decide +kernel)⟩
theorem vk_X9_291 : vOK RX9 291 yX4_note := ⟨tb (List.mem_of_getElem? (i := 782) (by decide +kernel)) (by decide +kernel), tb (List.mem_of_getElem? (i := 783) (by decide +kernel)) (by decide +kernel), tb (List.mem_of_getElem? (i := 784) (by decide +kernel)) (by decide +kernel)⟩
theorem vk_X9_295 : vOK RX9 295 yX3_clear := ⟨tb (List.mem_of_getElem? (i := 701) (by decide +kernel)) (by decide +kernel), tb (List.mem_of_getElem? (i := 702) (by decide +kernel)) (by decide +kernel), tb (List.mem_of_getElem? (i := 703) (by decide +kernel)) (by decide +kernel)⟩
theorem vk_X9_327 : vOK RX9 327 yX2_run := ⟨tb (List.mem_of_getElem? (i := 499) (by decide +kernel)) (by decide +kernel), tb (List.mem_of_getElem? (i := 500) (by decide +kernel)) (by decide +kernel), tb (List.mem_of_getElem? (i := 501) (by decide +kernel)) (by decide +kernel)⟩
theorem vk_X9_333 : vOK RX9 333 yX0_keepPrepared := ⟨tb (List.mem_of_getElem? (i := 693) (by decide +kernel)) (by decide +kernel), tb (List.mem_of_getElem? (i := 694) (by decide +kernel)) (by decide +kernel), tb (List.mem_of_getElem? (i := 695) (by decide +kernel)) (by decide +kernel)⟩
theorem vk_X9_68 : vOK RX9 68 yX7_hasRoom := ⟨tb (List.mem_of_getElem? (i := 472) (by decide +kernel)) (by decide +kernel), tb (List.mem_of_getElem? (i := 473) (by decide +kernel)) (by decide +kernel), tb (List.mem_of_getElem? (i := 474) (by decide +kernel)) (by decide +kernel)⟩
theorem vk_X9_72 : vOK RX9 72 yX7_append := ⟨tb (List.mem_of_getElem? (i := 476) (by decide +kernel)) (by decide +kernel), tb (List.mem_of_getElem? (i := 477) (by decide +kernel)) (by decide +kernel), tb (List.mem_of_getElem? (i := 478) (by decide +kernel)) (by decide +kernel)⟩
