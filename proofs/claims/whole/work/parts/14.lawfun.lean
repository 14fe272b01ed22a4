theorem clk_L_13 : Cond.classLink RL 13 "java/lang/IllegalArgumentException" ∈ TB := tb (List.mem_of_getElem? (i := 818) (by decide +kernel)) (by decide +kernel)
theorem clk_L_18 : Cond.classLink RL 18 "java/util/NoSuchElementException" ∈ TB := tb (List.mem_of_getElem? (i := 1097) (by decide +kernel)) (by decide +kernel)
theorem vk_L_15 : vOK RL 15 yX9_count := ⟨tb (List.mem_of_getElem? (i := 1098) (by decide +kernel)) (by decide +kernel), tb (List.mem_of_getElem? (i := 1099) (by decide +kernel)) (by decide +kernel), tb (List.mem_of_getElem? (i := 1100) (by decide +kernel)) (by decide +kernel)⟩
theorem vk_L_20 : vOK RL 20 yX9_table := ⟨tb (List.mem_of_getElem? (i := 1129) (by decide +kernel)) (by decide +kernel), tb (List.mem_of_getElem? (i := 1130) (by decide +kernel)) (by decide +kernel), tb (List.mem_of_getElem? (i := 1131) (by decide +kernel)) (by decide +kernel)⟩
theorem vk_L_24 : vOK RL 24 yX9_column := ⟨tb (List.mem_of_getElem? (i := 1142) (by decide +kernel)) (by decide +kernel), tb (List.mem_of_getElem? (i := 1143) (by decide +kernel)) (by decide +kernel), tb (List.mem_of_getElem? (i := 1144) (by decide +kernel)) (by decide +kernel)⟩
theorem vk_L_28 : vOK RL 28 yX9_cell := ⟨tb (List.mem_of_getElem? (i := 1151) (by decide +kernel)) (by decide +kernel), tb (List.mem_of_getElem? (i := 1152) (by decide +kernel)) (by decide +kernel), tb (List.mem_of_getElem? (i := 1153) (by decide +kernel)) (by decide +kernel)⟩
theorem vk_L_31 : vOK RL 31 yX9_whose := ⟨tb (List.mem_of_getElem? (i := 1161) (by decide +kernel)) (by decide +kernel), tb (List.mem_of_getElem? (i := 1162) (by decide +kernel)) (by decide +kernel), tb (List.mem_of_getElem? (i := 1163) (by decide +kernel)) (by decide +kernel)⟩
theorem vk_L_34 : vOK RL 34 yX9_conflict := ⟨tb (List.mem_of_getElem? (i := 1169) (by decide +kernel)) (by decide +kernel), tb (List.mem_of_getElem? (i := 1170) (by decide +kernel)) (by decide +kernel), tb (List.mem_of_getElem? (i := 1171) (by decide +kernel)) (by decide +kernel)⟩
theorem vk_L_37 : vOK RL 37 yX9_set := ⟨tb (List.mem_of_getElem? (i := 1185) (by decide +kernel)) (by decide +kernel), tb (List.mem_of_getElem? (i := 1186) (by decide +kernel)) (by decide +kernel), tb (List.mem_of_getElem? (i := 1187) (by decide +kernel)) (by decide +kernel)⟩
theorem vk_L_41 : vOK RL 41 yX9_insert := ⟨tb (List.mem_of_getElem? (i := 1201) (by decide +kernel)) (by decide +kernel), tb (List.mem_of_getElem? (i := 1202) (by decide +kernel)) (by decide +kernel), tb (List.mem_of_getElem? (i := 1203) (by decide +kernel)) (by decide +kernel)⟩
theorem vk_L_45 : vOK RL 45 yX9_delete := ⟨tb (List.mem_of_getElem? (i := 1208) (by decide +kernel)) (by decide +kernel), tb (List.mem_of_getElem? (i := 1209) (by decide +kernel)) (by decide +kernel), tb (List.mem_of_getElem? (i := 1210) (by decide +kernel)) (by decide +kernel)⟩
theorem vk_L_48 : vOK RL 48 yX9_rename := ⟨tb (List.mem_of_getElem? (i := 1215) (by decide +kernel)) (by decide +kernel), tb (List.mem_of_getElem? (i := 1216) (by decide +kernel)) (by decide +kernel), tb (List.mem_of_getElem? (i := 1217) (by decide +kernel)) (by decide +kernel)⟩
theorem vk_L_52 : vOK RL 52 yX9_retype := ⟨tb (List.mem_of_getElem? (i := 1222) (by decide +kernel)) (by decide +kernel), tb (List.mem_of_getElem? (i := 1223) (by decide +kernel)) (by decide +kernel), tb (List.mem_of_getElem? (i := 1224) (by decide +kernel)) (by decide +kernel)⟩
theorem vk_L_55 : vOK RL 55 yX9_add := ⟨tb (List.mem_of_getElem? (i := 1229) (by decide +kernel)) (by decide +kernel), tb (List.mem_of_getElem? (i := 1230) (by decide +kernel)) (by decide +kernel), tb (List.mem_of_getElem? (i := 1231) (by decide +kernel)) (by decide +kernel)⟩
theorem vk_L_58 : vOK RL 58 yX9_drop := ⟨tb (List.mem_of_getElem? (i := 1236) (by decide +kernel)) (by decide +kernel), tb (List.mem_of_getElem? (i := 1237) (by decide +kernel)) (by decide +kernel), tb (List.mem_of_getElem? (i := 1238) (by decide +kernel)) (by decide +kernel)⟩
theorem vk_L_61 : vOK RL 61 yX9_difference := ⟨tb (List.mem_of_getElem? (i := 1243) (by decide +kernel)) (by decide +kernel), tb (List.mem_of_getElem? (i := 1244) (by decide +kernel)) (by decide +kernel), tb (List.mem_of_getElem? (i := 1245) (by decide +kernel)) (by decide +kernel)⟩
theorem vk_L_64 : vOK RL 64 yX9_along := ⟨tb (List.mem_of_getElem? (i := 1264) (by decide +kernel)) (by decide +kernel), tb (List.mem_of_getElem? (i := 1265) (by decide +kernel)) (by decide +kernel), tb (List.mem_of_getElem? (i := 1266) (by decide +kernel)) (by decide +kernel)⟩
theorem vk_L_67 : vOK RL 67 yX9_alone := ⟨tb (List.mem_of_getElem? (i := 1297) (by decide +kernel)) (by decide +kernel), tb (List.mem_of_getElem? (i := 1298) (by decide +kernel)) (by decide +kernel), tb (List.mem_of_getElem? (i := 1299) (by decide +kernel)) (by decide +kernel)⟩
theorem vk_L_7 : vOK RL 7 yX9_tables := ⟨tb (List.mem_of_getElem? (i := 819) (by decide +kernel)) (by decide +kernel), tb (List.mem_of_getElem? (i := 820) (by decide +kernel)) (by decide +kernel), tb (List.mem_of_getElem? (i := 821) (by decide +kernel)) (by decide +kernel)⟩
theorem vk_L_70 : vOK RL 70 yX9_edited := ⟨tb (List.mem_of_getElem? (i := 1329) (by decide +kernel)) (by decide +kernel), tb (List.mem_of_getElem? (i := 1330) (by decide +kernel)) (by decide +kernel), tb (List.mem_of_getElem? (i := 1331) (by decide +kernel)) (by decide +kernel)⟩
theorem vk_L_73 : vOK RL 73 yX9_years := ⟨tb (List.mem_of_getElem? (i := 1352) (by decide +kernel)) (by decide +kernel), tb (List.mem_of_getElem? (i := 1353) (by decide +kernel)) (by decide +kernel), tb (List.mem_of_getElem? (i := 1354) (by decide +kernel)) (by decide +kernel)⟩
def f_L_tables (σ : Sh) (X : Mx) (z : Nat) (a0 : Nat) (x1 : Int32) (a2 : Nat) : Option (Hr Int32) := bndC (f_X9_tables σ X z a0 x1) (fun vv σ1 X1 => stL σ1 X1 a2 0 (Int32.toInt64 vv) fun X1 => some (0, σ1, X1, 0, 0)) (fun xk σ1 X1 => (if xk = 1 then some (1, σ1, X1, 0, 0) else none))
abbrev hh_L_tables : List (Nat × Nat × Nat × Nat) := [(0, 9, 12, 13)]
def f_L_count (σ : Sh) (X : Mx) (z : Nat) (a0 : Nat) (x1 : Int32) (a2 : Nat) : Option (Hr Int32) := bndC (f_X9_count σ X z a0 x1) (fun vv σ1 X1 => stL σ1 X1 a2 0 (Int32.toInt64 vv) fun X1 => some (0, σ1, X1, 0, 0)) (fun xk σ1 X1 => (if xk = 0 then some (1, σ1, X1, 0, 0) else none))
abbrev hh_L_count : List (Nat × Nat × Nat × Nat) := [(0, 9, 12, 18)]
def f_L_table (σ : Sh) (X : Mx) (z : Nat) (a0 : Nat) (x1 : Int32) (x2 : Int32) (a3 : Nat) : Option (Hr Int32) := bndC (f_X9_table σ X z a0 x1 x2) (fun vv σ1 X1 => stL σ1 X1 a3 0 (Int32.toInt64 vv) fun X1 => some (0, σ1, X1, 0, 0)) (fun xk σ1 X1 => (if xk = 0 then some (1, σ1, X1, 0, 0) else none))
abbrev hh_L_table : List (Nat × Nat × Nat × Nat) := [(0, 10, 13, 18)]
def f_L_column (σ : Sh) (X : Mx) (z : Nat) (a0 : Nat) (x1 : Int32) (x2 : Int32) (x3 : Int32) (a4 : Nat) : Option (Hr Int32) := bndC (f_X9_column σ X z a0 x1 x2 x3) (fun vv σ1 X1 => stL σ1 X1 a4 0 (Int32.toInt64 vv) fun X1 => some (0, σ1, X1, 0, 0)) (fun xk σ1 X1 => (if xk = 0 then some (1, σ1, X1, 0, 0) else none))
abbrev hh_L_column : List (Nat × Nat × Nat × Nat) := [(0, 12, 15, 18)]
def f_L_cell (σ : Sh) (X : Mx) (z : Nat) (a0 : Nat) (x1 : Int32) (x2 : Int32) (x3 : Int32) (a4 : Nat) : Option (Hr Int32) := bndC (f_X9_cell σ X z a0 x1 x2 x3) (fun vv σ1 X1 => stL σ1 X1 a4 0 (Int32.toInt64 vv) fun X1 => some (0, σ1, X1, 0, 0)) (fun xk σ1 X1 => (if xk = 0 then some (1, σ1, X1, 0, 0) else none))
abbrev hh_L_cell : List (Nat × Nat × Nat × Nat) := [(0, 12, 15, 18)]
def f_L_whose (σ : Sh) (X : Mx) (z : Nat) (a0 : Nat) (x1 : Int32) (x2 : Int32) (a3 : Nat) : Option (Hr Int32) := bndC (f_X9_whose σ X z a0 x1 x2) (fun vv σ1 X1 => stL σ1 X1 a3 0 (Int32.toInt64 vv) fun X1 => some (0, σ1, X1, 0, 0)) (fun xk σ1 X1 => (if xk = 0 then some (1, σ1, X1, 0, 0) else none))
abbrev hh_L_whose : List (Nat × Nat × Nat × Nat) := [(0, 10, 13, 18)]
def f_L_conflict (σ : Sh) (X : Mx) (z : Nat) (a0 : Nat) (x1 : Int32) (x2 : Int32) (a3 : Nat) : Option (Hr Int32) := bndC (f_X9_conflict σ X z a0 x1 x2) (fun vv σ1 X1 => stL σ1 X1 a3 0 (Int32.toInt64 vv) fun X1 => some (0, σ1, X1, 0, 0)) (fun xk σ1 X1 => (if xk = 0 then some (1, σ1, X1, 0, 0) else none))
abbrev hh_L_conflict : List (Nat × Nat × Nat × Nat) := [(0, 10, 13, 18)]
def f_L_set (σ : Sh) (X : Mx) (z : Nat) (a0 : Nat) (x1 : Int32) (x2 : Int32) (x3 : Int32) (x4 : Int32) (a5 : Nat) : Option (Hr Int32) := bndC (f_X9_set σ X z a0 x1 x2 x3 x4) (fun vv σ1 X1 => (if vv = 0 then stL σ1 X1 a5 0 0 fun X1 => some (0, σ1, X1, 0, 0) else stL σ1 X1 a5 0 1 fun X2 => some (0, σ1, X2, 0, 0))) (fun xk σ1 X1 => (if xk = 0 then some (1, σ1, X1, 0, 0) else none))
abbrev hh_L_set : List (Nat × Nat × Nat × Nat) := [(0, 21, 24, 18)]
def f_L_insert (σ : Sh) (X : Mx) (z : Nat) (a0 : Nat) (x1 : Int32) (x2 : Int32) (a3 : Nat) : Option (Hr Int32) := bndC (f_X9_insert σ X z a0 x1 x2) (fun vv σ1 X1 => (if vv = 0 then stL σ1 X1 a3 0 0 fun X1 => some (0, σ1, X1, 0, 0) else stL σ1 X1 a3 0 1 fun X2 => some (0, σ1, X2, 0, 0))) (fun xk σ1 X1 => (if xk = 0 then some (1, σ1, X1, 0, 0) else none))
abbrev hh_L_insert : List (Nat × Nat × Nat × Nat) := [(0, 17, 20, 18)]
def f_L_delete (σ : Sh) (X : Mx) (z : Nat) (a0 : Nat) (x1 : Int32) (x2 : Int32) (a3 : Nat) : Option (Hr Int32) := bndC (f_X9_delete σ X z a0 x1 x2) (fun vv σ1 X1 => (if vv = 0 then stL σ1 X1 a3 0 0 fun X1 => some (0, σ1, X1, 0, 0) else stL σ1 X1 a3 0 1 fun X2 => some (0, σ1, X2, 0, 0))) (fun xk σ1 X1 => (if xk = 0 then some (1, σ1, X1, 0, 0) else none))
abbrev hh_L_delete : List (Nat × Nat × Nat × Nat) := [(0, 17, 20, 18)]
def f_L_rename (σ : Sh) (X : Mx) (z : Nat) (a0 : Nat) (x1 : Int32) (x2 : Int32) (x3 : Int32) (a4 : Nat) : Option (Hr Int32) := bndC (f_X9_rename σ X z a0 x1 x2 x3) (fun vv σ1 X1 => (if vv = 0 then stL σ1 X1 a4 0 0 fun X1 => some (0, σ1, X1, 0, 0) else stL σ1 X1 a4 0 1 fun X2 => some (0, σ1, X2, 0, 0))) (fun xk σ1 X1 => (if xk = 0 then some (1, σ1, X1, 0, 0) else none))
abbrev hh_L_rename : List (Nat × Nat × Nat × Nat) := [(0, 19, 22, 18)]
def f_L_retype (σ : Sh) (X : Mx) (z : Nat) (a0 : Nat) (x1 : Int32) (x2 : Int32) (x3 : Int32) (a4 : Nat) : Option (Hr Int32) := bndC (f_X9_retype σ X z a0 x1 x2 x3) (fun vv σ1 X1 => (if vv = 0 then stL σ1 X1 a4 0 0 fun X1 => some (0, σ1, X1, 0, 0) else stL σ1 X1 a4 0 1 fun X2 => some (0, σ1, X2, 0, 0))) (fun xk σ1 X1 => (if xk = 0 then some (1, σ1, X1, 0, 0) else none))
abbrev hh_L_retype : List (Nat × Nat × Nat × Nat) := [(0, 19, 22, 18)]
def f_L_add (σ : Sh) (X : Mx) (z : Nat) (a0 : Nat) (x1 : Int32) (x2 : Int32) (x3 : Int32) (a4 : Nat) : Option (Hr Int32) := bndC (f_X9_add σ X z a0 x1 x2 x3) (fun vv σ1 X1 => stL σ1 X1 a4 0 (Int32.toInt64 vv) fun X1 => some (0, σ1, X1, 0, 0)) (fun xk σ1 X1 => (if xk = 0 then some (1, σ1, X1, 0, 0) else none))
abbrev hh_L_add : List (Nat × Nat × Nat × Nat) := [(0, 12, 15, 18)]
def f_L_drop (σ : Sh) (X : Mx) (z : Nat) (a0 : Nat) (x1 : Int32) (x2 : Int32) (a3 : Nat) : Option (Hr Int32) := bndC (f_X9_drop σ X z a0 x1 x2) (fun vv σ1 X1 => (if vv = 0 then stL σ1 X1 a3 0 0 fun X1 => some (0, σ1, X1, 0, 0) else stL σ1 X1 a3 0 1 fun X2 => some (0, σ1, X2, 0, 0))) (fun xk σ1 X1 => (if xk = 0 then some (1, σ1, X1, 0, 0) else none))
abbrev hh_L_drop : List (Nat × Nat × Nat × Nat) := [(0, 17, 20, 18)]
def f_L_difference (σ : Sh) (X : Mx) (z : Nat) (a0 : Nat) (x1 : Int32) (x2 : Int32) (a3 : Nat) : Option (Hr Int32) := bndC (f_X9_difference σ X z a0 x1 x2) (fun vv σ1 X1 => stL σ1 X1 a3 0 (Int32.toInt64 vv) fun X1 => some (0, σ1, X1, 0, 0)) (fun xk σ1 X1 => (if xk = 0 then some (1, σ1, X1, 0, 0) else none))
abbrev hh_L_difference : List (Nat × Nat × Nat × Nat) := [(0, 10, 13, 18)]
def f_L_along (σ : Sh) (X : Mx) (z : Nat) (a0 : Nat) (x1 : Int32) (x2 : Int32) (a3 : Nat) : Option (Hr Int32) := bndC (f_X9_along σ X z a0 x1 x2) (fun vv σ1 X1 => stL σ1 X1 a3 0 (Int32.toInt64 vv) fun X1 => some (0, σ1, X1, 0, 0)) (fun xk σ1 X1 => (if xk = 0 then some (1, σ1, X1, 0, 0) else (if xk = 1 then some (2, σ1, X1, 0, 0) else none)))
abbrev hh_L_along : List (Nat × Nat × Nat × Nat) := [(0, 10, 13, 18), (0, 10, 17, 13)]
def f_L_alone (σ : Sh) (X : Mx) (z : Nat) (a0 : Nat) (x1 : Int32) (x2 : Int32) (a3 : Nat) : Option (Hr Int32) := bndC (f_X9_alone σ X z a0 x1 x2) (fun vv σ1 X1 => stL σ1 X1 a3 0 (Int32.toInt64 vv) fun X1 => some (0, σ1, X1, 0, 0)) (fun xk σ1 X1 => (if xk = 0 then some (1, σ1, X1, 0, 0) else none))
abbrev hh_L_alone : List (Nat × Nat × Nat × Nat) := [(0, 10, 13, 18)]
def f_L_edited (σ : Sh) (X : Mx) (z : Nat) (a0 : Nat) (x1 : Int32) (a2 : Nat) : Option (Hr Int32) := bndC (f_X9_edited σ X z a0 x1) (fun vv σ1 X1 => stL σ1 X1 a2 0 (Int32.toInt64 vv) fun X1 => some (0, σ1, X1, 0, 0)) (fun xk σ1 X1 => (if xk = 0 then some (1, σ1, X1, 0, 0) else none))
abbrev hh_L_edited : List (Nat × Nat × Nat × Nat) := [(0, 9, 12, 18)]
def f_L_years (σ : Sh) (X : Mx) (z : Nat) (a0 : Nat) (x1 : Int32) (x2 : Int32) (x3 : Int32) (a4 : Nat) : Option (Hr Int32) := bndC (f_X9_years σ X z a0 x1 x2 x3) (fun vv σ1 X1 => stL σ1 X1 a4 0 (Int32.toInt64 vv) fun X1 => some (0, σ1, X1, 0, 0)) (fun xk σ1 X1 => (if xk = 0 then some (1, σ1, X1, 0, 0) else (if xk = 1 then some (2, σ1, X1, 0, 0) else none)))
abbrev hh_L_years : List (Nat × Nat × Nat × Nat) := [(0, 12, 15, 18), (0, 12, 19, 13)]
section
variable {p : Program} {l : Launch} {e : Env} {s : State} {m : MethodId} {args : Array Value} {below : List Frame} {meth : Method} {c : Code} {g : Gp}
set_option maxRecDepth 100000 in
theorem mkw_L_tables : mOKW yL_tables cL_tables 4 (some .int) hh_L_tables 3 := ⟨tb (List.mem_of_getElem? (i := 817) (by rfl)) (by rfl), by decide +kernel, by decide +kernel, tb (List.mem_of_getElem? (i := 138) (by decide +kernel)) (by decide +kernel)⟩
set_option maxRecDepth 20000 in
set_option maxHeartbeats 2000000 in
theorem t_L_tables {σ : Sh} {X : Mx} {z : Nat} {r : Hr Int32} {a0 : Nat} {x1 : Int32} {a2 : Nat} (hst : l.stackTraces = false) (h : f_L_tables σ X z a0 x1 a2 = some r) : LwI g l yL_tables cL_tables 4 (some .int) hh_L_tables 10 218 [.ref a0, .int x1, .ref a2] σ X z r := by
  obtain ⟨v0, σ0, X0, mc, ms⟩ := r
  refine met_ofL mkw_L_tables (Nat.le_of_ble_eq_true rfl) (fun p e s m args below meth c ls C hT hW hzz hl => ?_)
  have hx := C.x
  have hb := C.b
  have hl : lv_has ls 4 [(0, .ref a0), (1, .int x1), (2, .ref a2)] := hl
  have hm : 0 + mc = mc ∧ 0 + ms = ms := ⟨Nat.zero_add _, Nat.zero_add _⟩
  unfold f_L_tables at h
  refine lv_aload_n hx hb dL_tables_0 rfl (lv_at hl 2 rfl) ?_
  refine lv_iconst (v := 0) hx hb dL_tables_1 (by decide) ?_
  refine lv_aload_n hx hb dL_tables_2 rfl (lv_at hl 0 rfl) ?_
  refine lv_iload_n hx hb dL_tables_3 rfl (lv_at hl 1 rfl) ?_
  obtain ⟨o9, h9, h⟩ := bndC_inv h
  refine c_WV (rest := [.int 0, .ref a2]) C hW hzz hm h (t_X9_tables hst h9) mk_X9_tables vk_L_7 (kd_X9_tables h9) rfl rfl (by decide) ⟨Nat.le_of_ble_eq_true rfl, Nat.le_of_ble_eq_true rfl⟩ rfl rfl (Nat.le_of_ble_eq_true rfl) hl.1 dL_tables_4 (fun vv σ1 X1 H locs cells slots cu du h hW hm => ?_) (fun xk σ1 X1 H locs cells slots cu du q9 ce h hW hm hce hcv hcl => ?_)
  · refine lv_i2l (v := (Int32.toInt64 vv)) hx hb dL_tables_7 rfl ?_
    refine r_last C hW h dL_tables_8 (fun X1 H locs h hW _ => ?_)
    refine lv_goto (tgt := 15) hx hb dL_tables_9 (by decide) ?_
    refine lv_iconst (v := 0) hx hb dL_tables_15 (by decide) ?_
    exact r_wret C hW hm h dL_tables_16
  · refine r_case h (fun ec h => ?_) (fun nc h => ?_)
    · rw [ec] at hcl
      refine w_catch (hh := hh_L_tables) (E := "java/lang/IllegalArgumentException") C hT rfl rfl (by decide) clk_L_13 (by decide +kernel) hce hcv hcl ?_
      refine lv_astore_n (lv' := [(3, .ref q9), (0, .ref a0), (1, .int x1), (2, .ref a2)]) hx hb dL_tables_12 rfl hl (by decide) rfl (fun ls hl => ?_)
      refine lv_iconst (v := 1) hx hb dL_tables_13 (by decide) ?_
      exact r_wret C hW hm h dL_tables_14
    cases h
set_option maxRecDepth 100000 in
theorem mkw_L_count : mOKW yL_count cL_count 4 (some .int) hh_L_count 3 := ⟨tb (List.mem_of_getElem? (i := 1096) (by rfl)) (by rfl), by decide +kernel, by decide +kernel, tb (List.mem_of_getElem? (i := 138) (by decide +kernel)) (by decide +kernel)⟩
set_option maxRecDepth 20000 in
set_option maxHeartbeats 2000000 in
theorem t_L_count {σ : Sh} {X : Mx} {z : Nat} {r : Hr Int32} {a0 : Nat} {x1 : Int32} {a2 : Nat} (hst : l.stackTraces = false) (h : f_L_count σ X z a0 x1 a2 = some r) : LwI g l yL_count cL_count 4 (some .int) hh_L_count 7 162 [.ref a0, .int x1, .ref a2] σ X z r := by
  obtain ⟨v0, σ0, X0, mc, ms⟩ := r
  refine met_ofL mkw_L_count (Nat.le_of_ble_eq_true rfl) (fun p e s m args below meth c ls C hT hW hzz hl => ?_)
  have hx := C.x
  have hb := C.b
  have hl : lv_has ls 4 [(0, .ref a0), (1, .int x1), (2, .ref a2)] := hl
  have hm : 0 + mc = mc ∧ 0 + ms = ms := ⟨Nat.zero_add _, Nat.zero_add _⟩
  unfold f_L_count at h
  refine lv_aload_n hx hb dL_count_0 rfl (lv_at hl 2 rfl) ?_
  refine lv_iconst (v := 0) hx hb dL_count_1 (by decide) ?_
  refine lv_aload_n hx hb dL_count_2 rfl (lv_at hl 0 rfl) ?_
  refine lv_iload_n hx hb dL_count_3 rfl (lv_at hl 1 rfl) ?_
  obtain ⟨o9, h9, h⟩ := bndC_inv h
  refine c_WV (rest := [.int 0, .ref a2]) C hW hzz hm h (t_X9_count hst h9) mk_X9_count vk_L_15 (kd_X9_count h9) rfl rfl (by decide) ⟨Nat.le_of_ble_eq_true rfl, Nat.le_of_ble_eq_true rfl⟩ rfl rfl (Nat.le_of_ble_eq_true rfl) hl.1 dL_count_4 (fun vv σ1 X1 H locs cells slots cu du h hW hm => ?_) (fun xk σ1 X1 H locs cells slots cu du q9 ce h hW hm hce hcv hcl => ?_)
  · refine lv_i2l (v := (Int32.toInt64 vv)) hx hb dL_count_7 rfl ?_
    refine r_last C hW h dL_count_8 (fun X1 H locs h hW _ => ?_)
    refine lv_goto (tgt := 15) hx hb dL_count_9 (by decide) ?_
    refine lv_iconst (v := 0) hx hb dL_count_15 (by decide) ?_
    exact r_wret C hW hm h dL_count_16
  · refine r_case h (fun ec h => ?_) (fun nc h => ?_)
    · rw [ec] at hcl
      refine w_catch (hh := hh_L_count) (E := "java/util/NoSuchElementException") C hT rfl rfl (by decide) clk_L_18 (by decide +kernel) hce hcv hcl ?_
      refine lv_astore_n (lv' := [(3, .ref q9), (0, .ref a0), (1, .int x1), (2, .ref a2)]) hx hb dL_count_12 rfl hl (by decide) rfl (fun ls hl => ?_)
      refine lv_iconst (v := 1) hx hb dL_count_13 (by decide) ?_
      exact r_wret C hW hm h dL_count_14
    cases h
set_option maxRecDepth 100000 in
theorem mkw_L_table : mOKW yL_table cL_table 5 (some .int) hh_L_table 4 := ⟨tb (List.mem_of_getElem? (i := 1128) (by rfl)) (by rfl), by decide +kernel, by decide +kernel, tb (List.mem_of_getElem? (i := 138) (by decide +kernel)) (by decide +kernel)⟩
set_option maxRecDepth 20000 in
set_option maxHeartbeats 2000000 in
theorem t_L_table {σ : Sh} {X : Mx} {z : Nat} {r : Hr Int32} {a0 : Nat} {x1 : Int32} {x2 : Int32} {a3 : Nat} (hst : l.stackTraces = false) (h : f_L_table σ X z a0 x1 x2 a3 = some r) : LwI g l yL_table cL_table 5 (some .int) hh_L_table 8 185 [.ref a0, .int x1, .int x2, .ref a3] σ X z r := by
  obtain ⟨v0, σ0, X0, mc, ms⟩ := r
  refine met_ofL mkw_L_table (Nat.le_of_ble_eq_true rfl) (fun p e s m args below meth c ls C hT hW hzz hl => ?_)
  have hx := C.x
  have hb := C.b
  have hl : lv_has ls 5 [(0, .ref a0), (1, .int x1), (2, .int x2), (3, .ref a3)] := hl
  have hm : 0 + mc = mc ∧ 0 + ms = ms := ⟨Nat.zero_add _, Nat.zero_add _⟩
  unfold f_L_table at h
  refine lv_aload_n hx hb dL_table_0 rfl (lv_at hl 3 rfl) ?_
  refine lv_iconst (v := 0) hx hb dL_table_1 (by decide) ?_
  refine lv_aload_n hx hb dL_table_2 rfl (lv_at hl 0 rfl) ?_
  refine lv_iload_n hx hb dL_table_3 rfl (lv_at hl 1 rfl) ?_
  refine lv_iload_n hx hb dL_table_4 rfl (lv_at hl 2 rfl) ?_
  obtain ⟨o9, h9, h⟩ := bndC_inv h
  refine c_WV (rest := [.int 0, .ref a3]) C hW hzz hm h (t_X9_table hst h9) mk_X9_table vk_L_20 (kd_X9_table h9) rfl rfl (by decide) ⟨Nat.le_of_ble_eq_true rfl, Nat.le_of_ble_eq_true rfl⟩ rfl rfl (Nat.le_of_ble_eq_true rfl) hl.1 dL_table_5 (fun vv σ1 X1 H locs cells slots cu du h hW hm => ?_) (fun xk σ1 X1 H locs cells slots cu du q9 ce h hW hm hce hcv hcl => ?_)
  · refine lv_i2l (v := (Int32.toInt64 vv)) hx hb dL_table_8 rfl ?_
    refine r_last C hW h dL_table_9 (fun X1 H locs h hW _ => ?_)
    refine lv_goto (tgt := 17) hx hb dL_table_10 (by decide) ?_
    refine lv_iconst (v := 0) hx hb dL_table_17 (by decide) ?_
    exact r_wret C hW hm h dL_table_18
  · refine r_case h (fun ec h => ?_) (fun nc h => ?_)
    · rw [ec] at hcl
      refine w_catch (hh := hh_L_table) (E := "java/util/NoSuchElementException") C hT rfl rfl (by decide) clk_L_18 (by decide +kernel) hce hcv hcl ?_
      refine lv_astore (lv' := [(4, .ref q9), (0, .ref a0), (1, .int x1), (2, .int x2), (3, .ref a3)]) hx hb dL_table_13 hl (by decide) rfl (fun ls hl => ?_)
      refine lv_iconst (v := 1) hx hb dL_table_15 (by decide) ?_
      exact r_wret C hW hm h dL_table_16
    cases h
set_option maxRecDepth 100000 in
theorem mkw_L_column : mOKW yL_column cL_column 6 (some .int) hh_L_column 5 := ⟨tb (List.mem_of_getElem? (i := 1141) (by rfl)) (by rfl), by decide +kernel, by decide +kernel, tb (List.mem_of_getElem? (i := 138) (by decide +kernel)) (by decide +kernel)⟩
set_option maxRecDepth 20000 in
set_option maxHeartbeats 2000000 in
theorem t_L_column {σ : Sh} {X : Mx} {z : Nat} {r : Hr Int32} {a0 : Nat} {x1 : Int32} {x2 : Int32} {x3 : Int32} {a4 : Nat} (hst : l.stackTraces = false) (h : f_L_column σ X z a0 x1 x2 x3 a4 = some r) : LwI g l yL_column cL_column 6 (some .int) hh_L_column 8 186 [.ref a0, .int x1, .int x2, .int x3, .ref a4] σ X z r := by
  obtain ⟨v0, σ0, X0, mc, ms⟩ := r
  refine met_ofL mkw_L_column (Nat.le_of_ble_eq_true rfl) (fun p e s m args below meth c ls C hT hW hzz hl => ?_)
  have hx := C.x
  have hb := C.b
  have hl : lv_has ls 6 [(0, .ref a0), (1, .int x1), (2, .int x2), (3, .int x3), (4, .ref a4)] := hl
  have hm : 0 + mc = mc ∧ 0 + ms = ms := ⟨Nat.zero_add _, Nat.zero_add _⟩
  unfold f_L_column at h
  refine lv_aload hx hb dL_column_0 (lv_at hl 4 rfl) ?_
  refine lv_iconst (v := 0) hx hb dL_column_2 (by decide) ?_
  refine lv_aload_n hx hb dL_column_3 rfl (lv_at hl 0 rfl) ?_
  refine lv_iload_n hx hb dL_column_4 rfl (lv_at hl 1 rfl) ?_
  refine lv_iload_n hx hb dL_column_5 rfl (lv_at hl 2 rfl) ?_
  refine lv_iload_n hx hb dL_column_6 rfl (lv_at hl 3 rfl) ?_
  obtain ⟨o9, h9, h⟩ := bndC_inv h
  refine c_WV (rest := [.int 0, .ref a4]) C hW hzz hm h (t_X9_column hst h9) mk_X9_column vk_L_24 (kd_X9_column h9) rfl rfl (by decide) ⟨Nat.le_of_ble_eq_true rfl, Nat.le_of_ble_eq_true rfl⟩ rfl rfl (Nat.le_of_ble_eq_true rfl) hl.1 dL_column_7 (fun vv σ1 X1 H locs cells slots cu du h hW hm => ?_) (fun xk σ1 X1 H locs cells slots cu du q9 ce h hW hm hce hcv hcl => ?_)
  · refine lv_i2l (v := (Int32.toInt64 vv)) hx hb dL_column_10 rfl ?_
    refine r_last C hW h dL_column_11 (fun X1 H locs h hW _ => ?_)
    refine lv_goto (tgt := 19) hx hb dL_column_12 (by decide) ?_
    refine lv_iconst (v := 0) hx hb dL_column_19 (by decide) ?_
    exact r_wret C hW hm h dL_column_20
  · refine r_case h (fun ec h => ?_) (fun nc h => ?_)
    · rw [ec] at hcl
      refine w_catch (hh := hh_L_column) (E := "java/util/NoSuchElementException") C hT rfl rfl (by decide) clk_L_18 (by decide +kernel) hce hcv hcl ?_
      refine lv_astore (lv' := [(5, .ref q9), (0, .ref a0), (1, .int x1), (2, .int x2), (3, .int x3), (4, .ref a4)]) hx hb dL_column_15 hl (by decide) rfl (fun ls hl => ?_)
      refine lv_iconst (v := 1) hx hb dL_column_17 (by decide) ?_
      exact r_wret C hW hm h dL_column_18
    cases h
set_option maxRecDepth 100000 in
theorem mkw_L_cell : mOKW yL_cell cL_cell 6 (some .int) hh_L_cell 5 := ⟨tb (List.mem_of_getElem? (i := 1150) (by rfl)) (by rfl), by decide +kernel, by decide +kernel, tb (List.mem_of_getElem? (i := 138) (by decide +kernel)) (by decide +kernel)⟩
set_option maxRecDepth 20000 in
set_option maxHeartbeats 2000000 in
theorem t_L_cell {σ : Sh} {X : Mx} {z : Nat} {r : Hr Int32} {a0 : Nat} {x1 : Int32} {x2 : Int32} {x3 : Int32} {a4 : Nat} (hst : l.stackTraces = false) (h : f_L_cell σ X z a0 x1 x2 x3 a4 = some r) : LwI g l yL_cell cL_cell 6 (some .int) hh_L_cell 8 186 [.ref a0, .int x1, .int x2, .int x3, .ref a4] σ X z r := by
  obtain ⟨v0, σ0, X0, mc, ms⟩ := r
  refine met_ofL mkw_L_cell (Nat.le_of_ble_eq_true rfl) (fun p e s m args below meth c ls C hT hW hzz hl => ?_)
  have hx := C.x
  have hb := C.b
  have hl : lv_has ls 6 [(0, .ref a0), (1, .int x1), (2, .int x2), (3, .int x3), (4, .ref a4)] := hl
  have hm : 0 + mc = mc ∧ 0 + ms = ms := ⟨Nat.zero_add _, Nat.zero_add _⟩
  unfold f_L_cell at h
  refine lv_aload hx hb dL_cell_0 (lv_at hl 4 rfl) ?_
  refine lv_iconst (v := 0) hx hb dL_cell_2 (by decide) ?_
  refine lv_aload_n hx hb dL_cell_3 rfl (lv_at hl 0 rfl) ?_
  refine lv_iload_n hx hb dL_cell_4 rfl (lv_at hl 1 rfl) ?_
  refine lv_iload_n hx hb dL_cell_5 rfl (lv_at hl 2 rfl) ?_
  refine lv_iload_n hx hb dL_cell_6 rfl (lv_at hl 3 rfl) ?_
  obtain ⟨o9, h9, h⟩ := bndC_inv h
  refine c_WV (rest := [.int 0, .ref a4]) C hW hzz hm h (t_X9_cell hst h9) mk_X9_cell vk_L_28 (kd_X9_cell h9) rfl rfl (by decide) ⟨Nat.le_of_ble_eq_true rfl, Nat.le_of_ble_eq_true rfl⟩ rfl rfl (Nat.le_of_ble_eq_true rfl) hl.1 dL_cell_7 (fun vv σ1 X1 H locs cells slots cu du h hW hm => ?_) (fun xk σ1 X1 H locs cells slots cu du q9 ce h hW hm hce hcv hcl => ?_)
  · refine lv_i2l (v := (Int32.toInt64 vv)) hx hb dL_cell_10 rfl ?_
    refine r_last C hW h dL_cell_11 (fun X1 H locs h hW _ => ?_)
    refine lv_goto (tgt := 19) hx hb dL_cell_12 (by decide) ?_
    refine lv_iconst (v := 0) hx hb dL_cell_19 (by decide) ?_
    exact r_wret C hW hm h dL_cell_20
  · refine r_case h (fun ec h => ?_) (fun nc h => ?_)
    · rw [ec] at hcl
      refine w_catch (hh := hh_L_cell) (E := "java/util/NoSuchElementException") C hT rfl rfl (by decide) clk_L_18 (by decide +kernel) hce hcv hcl ?_
      refine lv_astore (lv' := [(5, .ref q9), (0, .ref a0), (1, .int x1), (2, .int x2), (3, .int x3), (4, .ref a4)]) hx hb dL_cell_15 hl (by decide) rfl (fun ls hl => ?_)
      refine lv_iconst (v := 1) hx hb dL_cell_17 (by decide) ?_
      exact r_wret C hW hm h dL_cell_18
    cases h
set_option maxRecDepth 100000 in
theorem mkw_L_whose : mOKW yL_whose cL_whose 5 (some .int) hh_L_whose 4 := ⟨tb (List.mem_of_getElem? (i := 1160) (by rfl)) (by rfl), by decide +kernel, by decide +kernel, tb (List.mem_of_getElem? (i := 138) (by decide +kernel)) (by decide +kernel)⟩
set_option maxRecDepth 20000 in
set_option maxHeartbeats 2000000 in
theorem t_L_whose {σ : Sh} {X : Mx} {z : Nat} {r : Hr Int32} {a0 : Nat} {x1 : Int32} {x2 : Int32} {a3 : Nat} (hst : l.stackTraces = false) (h : f_L_whose σ X z a0 x1 x2 a3 = some r) : LwI g l yL_whose cL_whose 5 (some .int) hh_L_whose 7 164 [.ref a0, .int x1, .int x2, .ref a3] σ X z r := by
  obtain ⟨v0, σ0, X0, mc, ms⟩ := r
  refine met_ofL mkw_L_whose (Nat.le_of_ble_eq_true rfl) (fun p e s m args below meth c ls C hT hW hzz hl => ?_)
  have hx := C.x
  have hb := C.b
  have hl : lv_has ls 5 [(0, .ref a0), (1, .int x1), (2, .int x2), (3, .ref a3)] := hl
  have hm : 0 + mc = mc ∧ 0 + ms = ms := ⟨Nat.zero_add _, Nat.zero_add _⟩
  unfold f_L_whose at h
  refine lv_aload_n hx hb dL_whose_0 rfl (lv_at hl 3 rfl) ?_
  refine lv_iconst (v := 0) hx hb dL_whose_1 (by decide) ?_
  refine lv_aload_n hx hb dL_whose_2 rfl (lv_at hl 0 rfl) ?_
  refine lv_iload_n hx hb dL_whose_3 rfl (lv_at hl 1 rfl) ?_
  refine lv_iload_n hx hb dL_whose_4 rfl (lv_at hl 2 rfl) ?_
  obtain ⟨o9, h9, h⟩ := bndC_inv h
  refine c_WV (rest := [.int 0, .ref a3]) C hW hzz hm h (t_X9_whose hst h9) mk_X9_whose vk_L_31 (kd_X9_whose h9) rfl rfl (by decide) ⟨Nat.le_of_ble_eq_true rfl, Nat.le_of_ble_eq_true rfl⟩ rfl rfl (Nat.le_of_ble_eq_true rfl) hl.1 dL_whose_5 (fun vv σ1 X1 H locs cells slots cu du h hW hm => ?_) (fun xk σ1 X1 H locs cells slots cu du q9 ce h hW hm hce hcv hcl => ?_)
  · refine lv_i2l (v := (Int32.toInt64 vv)) hx hb dL_whose_8 rfl ?_
    refine r_last C hW h dL_whose_9 (fun X1 H locs h hW _ => ?_)
    refine lv_goto (tgt := 17) hx hb dL_whose_10 (by decide) ?_
    refine lv_iconst (v := 0) hx hb dL_whose_17 (by decide) ?_
    exact r_wret C hW hm h dL_whose_18
  · refine r_case h (fun ec h => ?_) (fun nc h => ?_)
    · rw [ec] at hcl
      refine w_catch (hh := hh_L_whose) (E := "java/util/NoSuchElementException") C hT rfl rfl (by decide) clk_L_18 (by decide +kernel) hce hcv hcl ?_
      refine lv_astore (lv' := [(4, .ref q9), (0, .ref a0), (1, .int x1), (2, .int x2), (3, .ref a3)]) hx hb dL_whose_13 hl (by decide) rfl (fun ls hl => ?_)
      refine lv_iconst (v := 1) hx hb dL_whose_15 (by decide) ?_
      exact r_wret C hW hm h dL_whose_16
    cases h
set_option maxRecDepth 100000 in
theorem mkw_L_conflict : mOKW yL_conflict cL_conflict 5 (some .int) hh_L_conflict 4 := ⟨tb (List.mem_of_getElem? (i := 1168) (by rfl)) (by rfl), by decide +kernel, by decide +kernel, tb (List.mem_of_getElem? (i := 138) (by decide +kernel)) (by decide +kernel)⟩
set_option maxRecDepth 20000 in
set_option maxHeartbeats 2000000 in
theorem t_L_conflict {σ : Sh} {X : Mx} {z : Nat} {r : Hr Int32} {a0 : Nat} {x1 : Int32} {x2 : Int32} {a3 : Nat} (hst : l.stackTraces = false) (h : f_L_conflict σ X z a0 x1 x2 a3 = some r) : LwI g l yL_conflict cL_conflict 5 (some .int) hh_L_conflict 7 165 [.ref a0, .int x1, .int x2, .ref a3] σ X z r := by
  obtain ⟨v0, σ0, X0, mc, ms⟩ := r
  refine met_ofL mkw_L_conflict (Nat.le_of_ble_eq_true rfl) (fun p e s m args below meth c ls C hT hW hzz hl => ?_)
  have hx := C.x
  have hb := C.b
  have hl : lv_has ls 5 [(0, .ref a0), (1, .int x1), (2, .int x2), (3, .ref a3)] := hl
  have hm : 0 + mc = mc ∧ 0 + ms = ms := ⟨Nat.zero_add _, Nat.zero_add _⟩
  unfold f_L_conflict at h
  refine lv_aload_n hx hb dL_conflict_0 rfl (lv_at hl 3 rfl) ?_
  refine lv_iconst (v := 0) hx hb dL_conflict_1 (by decide) ?_
  refine lv_aload_n hx hb dL_conflict_2 rfl (lv_at hl 0 rfl) ?_
  refine lv_iload_n hx hb dL_conflict_3 rfl (lv_at hl 1 rfl) ?_
  refine lv_iload_n hx hb dL_conflict_4 rfl (lv_at hl 2 rfl) ?_
  obtain ⟨o9, h9, h⟩ := bndC_inv h
  refine c_WV (rest := [.int 0, .ref a3]) C hW hzz hm h (t_X9_conflict hst h9) mk_X9_conflict vk_L_34 (kd_X9_conflict h9) rfl rfl (by decide) ⟨Nat.le_of_ble_eq_true rfl, Nat.le_of_ble_eq_true rfl⟩ rfl rfl (Nat.le_of_ble_eq_true rfl) hl.1 dL_conflict_5 (fun vv σ1 X1 H locs cells slots cu du h hW hm => ?_) (fun xk σ1 X1 H locs cells slots cu du q9 ce h hW hm hce hcv hcl => ?_)
  · refine lv_i2l (v := (Int32.toInt64 vv)) hx hb dL_conflict_8 rfl ?_
    refine r_last C hW h dL_conflict_9 (fun X1 H locs h hW _ => ?_)
    refine lv_goto (tgt := 17) hx hb dL_conflict_10 (by decide) ?_
    refine lv_iconst (v := 0) hx hb dL_conflict_17 (by decide) ?_
    exact r_wret C hW hm h dL_conflict_18
  · refine r_case h (fun ec h => ?_) (fun nc h => ?_)
    · rw [ec] at hcl
      refine w_catch (hh := hh_L_conflict) (E := "java/util/NoSuchElementException") C hT rfl rfl (by decide) clk_L_18 (by decide +kernel) hce hcv hcl ?_
      refine lv_astore (lv' := [(4, .ref q9), (0, .ref a0), (1, .int x1), (2, .int x2), (3, .ref a3)]) hx hb dL_conflict_13 hl (by decide) rfl (fun ls hl => ?_)
      refine lv_iconst (v := 1) hx hb dL_conflict_15 (by decide) ?_
      exact r_wret C hW hm h dL_conflict_16
    cases h
set_option maxRecDepth 100000 in
theorem mkw_L_set : mOKW yL_set cL_set 7 (some .int) hh_L_set 6 := ⟨tb (List.mem_of_getElem? (i := 1184) (by rfl)) (by rfl), by decide +kernel, by decide +kernel, tb (List.mem_of_getElem? (i := 138) (by decide +kernel)) (by decide +kernel)⟩
set_option maxRecDepth 20000 in
set_option maxHeartbeats 2000000 in
theorem t_L_set {σ : Sh} {X : Mx} {z : Nat} {r : Hr Int32} {a0 : Nat} {x1 : Int32} {x2 : Int32} {x3 : Int32} {x4 : Int32} {a5 : Nat} (hst : l.stackTraces = false) (h : f_L_set σ X z a0 x1 x2 x3 x4 a5 = some r) : LwI g l yL_set cL_set 7 (some .int) hh_L_set 9 160 [.ref a0, .int x1, .int x2, .int x3, .int x4, .ref a5] σ X z r := by
  obtain ⟨v0, σ0, X0, mc, ms⟩ := r
  refine met_ofL mkw_L_set (Nat.le_of_ble_eq_true rfl) (fun p e s m args below meth c ls C hT hW hzz hl => ?_)
  have hx := C.x
  have hb := C.b
  have hl : lv_has ls 7 [(0, .ref a0), (1, .int x1), (2, .int x2), (3, .int x3), (4, .int x4), (5, .ref a5)] := hl
  have hm : 0 + mc = mc ∧ 0 + ms = ms := ⟨Nat.zero_add _, Nat.zero_add _⟩
  unfold f_L_set at h
  refine lv_aload hx hb dL_set_0 (lv_at hl 5 rfl) ?_
  refine lv_iconst (v := 0) hx hb dL_set_2 (by decide) ?_
  refine lv_aload_n hx hb dL_set_3 rfl (lv_at hl 0 rfl) ?_
  refine lv_iload_n hx hb dL_set_4 rfl (lv_at hl 1 rfl) ?_
  refine lv_iload_n hx hb dL_set_5 rfl (lv_at hl 2 rfl) ?_
  refine lv_iload_n hx hb dL_set_6 rfl (lv_at hl 3 rfl) ?_
  refine lv_iload hx hb dL_set_7 (lv_at hl 4 rfl) ?_
  obtain ⟨o9, h9, h⟩ := bndC_inv h
  refine c_WV (rest := [.int 0, .ref a5]) C hW hzz hm h (t_X9_set hst h9) mk_X9_set vk_L_37 (kd_X9_set h9) rfl rfl (by decide) ⟨Nat.le_of_ble_eq_true rfl, Nat.le_of_ble_eq_true rfl⟩ rfl rfl (Nat.le_of_ble_eq_true rfl) hl.1 dL_set_9 (fun vv σ1 X1 H locs cells slots cu du h hW hm => ?_) (fun xk σ1 X1 H locs cells slots cu du q9 ce h hW hm hce hcv hcl => ?_)
  · refine r_br h (lv_if_eq (tgt := 19) hx hb dL_set_12 (by decide)) (fun h => ?_) (fun h => ?_)
    · refine lv_lconst (v := 0) hx hb dL_set_19 (by decide) ?_
      refine r_last C hW h dL_set_20 (fun X1 H locs h hW _ => ?_)
      refine lv_goto (tgt := 28) hx hb dL_set_21 (by decide) ?_
      refine lv_iconst (v := 0) hx hb dL_set_28 (by decide) ?_
      exact r_wret C hW hm h dL_set_29
    · refine lv_lconst (v := 1) hx hb dL_set_15 (by decide) ?_
      refine lv_goto (tgt := 20) hx hb dL_set_16 (by decide) ?_
      refine r_last C hW h dL_set_20 (fun X2 H locs h hW _ => ?_)
      refine lv_goto (tgt := 28) hx hb dL_set_21 (by decide) ?_
      refine lv_iconst (v := 0) hx hb dL_set_28 (by decide) ?_
      exact r_wret C hW hm h dL_set_29
  · refine r_case h (fun ec h => ?_) (fun nc h => ?_)
    · rw [ec] at hcl
      refine w_catch (hh := hh_L_set) (E := "java/util/NoSuchElementException") C hT rfl rfl (by decide) clk_L_18 (by decide +kernel) hce hcv hcl ?_
      refine lv_astore (lv' := [(6, .ref q9), (0, .ref a0), (1, .int x1), (2, .int x2), (3, .int x3), (4, .int x4), (5, .ref a5)]) hx hb dL_set_24 hl (by decide) rfl (fun ls hl => ?_)
      refine lv_iconst (v := 1) hx hb dL_set_26 (by decide) ?_
      exact r_wret C hW hm h dL_set_27
    cases h
set_option maxRecDepth 100000 in
theorem mkw_L_insert : mOKW yL_insert cL_insert 5 (some .int) hh_L_insert 4 := ⟨tb (List.mem_of_getElem? (i := 1200) (by rfl)) (by rfl), by decide +kernel, by decide +kernel, tb (List.mem_of_getElem? (i := 138) (by decide +kernel)) (by decide +kernel)⟩
set_option maxRecDepth 20000 in
set_option maxHeartbeats 2000000 in
theorem t_L_insert {σ : Sh} {X : Mx} {z : Nat} {r : Hr Int32} {a0 : Nat} {x1 : Int32} {x2 : Int32} {a3 : Nat} (hst : l.stackTraces = false) (h : f_L_insert σ X z a0 x1 x2 a3 = some r) : LwI g l yL_insert cL_insert 5 (some .int) hh_L_insert 9 158 [.ref a0, .int x1, .int x2, .ref a3] σ X z r := by
  obtain ⟨v0, σ0, X0, mc, ms⟩ := r
  refine met_ofL mkw_L_insert (Nat.le_of_ble_eq_true rfl) (fun p e s m args below meth c ls C hT hW hzz hl => ?_)
  have hx := C.x
  have hb := C.b
  have hl : lv_has ls 5 [(0, .ref a0), (1, .int x1), (2, .int x2), (3, .ref a3)] := hl
  have hm : 0 + mc = mc ∧ 0 + ms = ms := ⟨Nat.zero_add _, Nat.zero_add _⟩
  unfold f_L_insert at h
  refine lv_aload_n hx hb dL_insert_0 rfl (lv_at hl 3 rfl) ?_
  refine lv_iconst (v := 0) hx hb dL_insert_1 (by decide) ?_
  refine lv_aload_n hx hb dL_insert_2 rfl (lv_at hl 0 rfl) ?_
  refine lv_iload_n hx hb dL_insert_3 rfl (lv_at hl 1 rfl) ?_
  refine lv_iload_n hx hb dL_insert_4 rfl (lv_at hl 2 rfl) ?_
  obtain ⟨o9, h9, h⟩ := bndC_inv h
  refine c_WV (rest := [.int 0, .ref a3]) C hW hzz hm h (t_X9_insert hst h9) mk_X9_insert vk_L_41 (kd_X9_insert h9) rfl rfl (by decide) ⟨Nat.le_of_ble_eq_true rfl, Nat.le_of_ble_eq_true rfl⟩ rfl rfl (Nat.le_of_ble_eq_true rfl) hl.1 dL_insert_5 (fun vv σ1 X1 H locs cells slots cu du h hW hm => ?_) (fun xk σ1 X1 H locs cells slots cu du q9 ce h hW hm hce hcv hcl => ?_)
  · refine r_br h (lv_if_eq (tgt := 15) hx hb dL_insert_8 (by decide)) (fun h => ?_) (fun h => ?_)
    · refine lv_lconst (v := 0) hx hb dL_insert_15 (by decide) ?_
      refine r_last C hW h dL_insert_16 (fun X1 H locs h hW _ => ?_)
      refine lv_goto (tgt := 24) hx hb dL_insert_17 (by decide) ?_
      refine lv_iconst (v := 0) hx hb dL_insert_24 (by decide) ?_
      exact r_wret C hW hm h dL_insert_25
    · refine lv_lconst (v := 1) hx hb dL_insert_11 (by decide) ?_
      refine lv_goto (tgt := 16) hx hb dL_insert_12 (by decide) ?_
      refine r_last C hW h dL_insert_16 (fun X2 H locs h hW _ => ?_)
      refine lv_goto (tgt := 24) hx hb dL_insert_17 (by decide) ?_
      refine lv_iconst (v := 0) hx hb dL_insert_24 (by decide) ?_
      exact r_wret C hW hm h dL_insert_25
  · refine r_case h (fun ec h => ?_) (fun nc h => ?_)
    · rw [ec] at hcl
      refine w_catch (hh := hh_L_insert) (E := "java/util/NoSuchElementException") C hT rfl rfl (by decide) clk_L_18 (by decide +kernel) hce hcv hcl ?_
      refine lv_astore (lv' := [(4, .ref q9), (0, .ref a0), (1, .int x1), (2, .int x2), (3, .ref a3)]) hx hb dL_insert_20 hl (by decide) rfl (fun ls hl => ?_)
      refine lv_iconst (v := 1) hx hb dL_insert_22 (by decide) ?_
      exact r_wret C hW hm h dL_insert_23
    cases h
set_option maxRecDepth 100000 in
theorem mkw_L_delete : mOKW yL_delete cL_delete 5 (some .int) hh_L_delete 4 := ⟨tb (List.mem_of_getElem? (i := 1207) (by rfl)) (by rfl), by decide +kernel, by decide +kernel, tb (List.mem_of_getElem? (i := 138) (by decide +kernel)) (by decide +kernel)⟩
set_option maxRecDepth 20000 in
set_option maxHeartbeats 2000000 in
theorem t_L_delete {σ : Sh} {X : Mx} {z : Nat} {r : Hr Int32} {a0 : Nat} {x1 : Int32} {x2 : Int32} {a3 : Nat} (hst : l.stackTraces = false) (h : f_L_delete σ X z a0 x1 x2 a3 = some r) : LwI g l yL_delete cL_delete 5 (some .int) hh_L_delete 9 158 [.ref a0, .int x1, .int x2, .ref a3] σ X z r := by
  obtain ⟨v0, σ0, X0, mc, ms⟩ := r
  refine met_ofL mkw_L_delete (Nat.le_of_ble_eq_true rfl) (fun p e s m args below meth c ls C hT hW hzz hl => ?_)
  have hx := C.x
  have hb := C.b
  have hl : lv_has ls 5 [(0, .ref a0), (1, .int x1), (2, .int x2), (3, .ref a3)] := hl
  have hm : 0 + mc = mc ∧ 0 + ms = ms := ⟨Nat.zero_add _, Nat.zero_add _⟩
  unfold f_L_delete at h
  refine lv_aload_n hx hb dL_delete_0 rfl (lv_at hl 3 rfl) ?_
  refine lv_iconst (v := 0) hx hb dL_delete_1 (by decide) ?_
  refine lv_aload_n hx hb dL_delete_2 rfl (lv_at hl 0 rfl) ?_
  refine lv_iload_n hx hb dL_delete_3 rfl (lv_at hl 1 rfl) ?_
  refine lv_iload_n hx hb dL_delete_4 rfl (lv_at hl 2 rfl) ?_
  obtain ⟨o9, h9, h⟩ := bndC_inv h
  refine c_WV (rest := [.int 0, .ref a3]) C hW hzz hm h (t_X9_delete hst h9) mk_X9_delete vk_L_45 (kd_X9_delete h9) rfl rfl (by decide) ⟨Nat.le_of_ble_eq_true rfl, Nat.le_of_ble_eq_true rfl⟩ rfl rfl (Nat.le_of_ble_eq_true rfl) hl.1 dL_delete_5 (fun vv σ1 X1 H locs cells slots cu du h hW hm => ?_) (fun xk σ1 X1 H locs cells slots cu du q9 ce h hW hm hce hcv hcl => ?_)
  · refine r_br h (lv_if_eq (tgt := 15) hx hb dL_delete_8 (by decide)) (fun h => ?_) (fun h => ?_)
    · refine lv_lconst (v := 0) hx hb dL_delete_15 (by decide) ?_
      refine r_last C hW h dL_delete_16 (fun X1 H locs h hW _ => ?_)
      refine lv_goto (tgt := 24) hx hb dL_delete_17 (by decide) ?_
      refine lv_iconst (v := 0) hx hb dL_delete_24 (by decide) ?_
      exact r_wret C hW hm h dL_delete_25
    · refine lv_lconst (v := 1) hx hb dL_delete_11 (by decide) ?_
      refine lv_goto (tgt := 16) hx hb dL_delete_12 (by decide) ?_
      refine r_last C hW h dL_delete_16 (fun X2 H locs h hW _ => ?_)
      refine lv_goto (tgt := 24) hx hb dL_delete_17 (by decide) ?_
      refine lv_iconst (v := 0) hx hb dL_delete_24 (by decide) ?_
      exact r_wret C hW hm h dL_delete_25
  · refine r_case h (fun ec h => ?_) (fun nc h => ?_)
    · rw [ec] at hcl
      refine w_catch (hh := hh_L_delete) (E := "java/util/NoSuchElementException") C hT rfl rfl (by decide) clk_L_18 (by decide +kernel) hce hcv hcl ?_
      refine lv_astore (lv' := [(4, .ref q9), (0, .ref a0), (1, .int x1), (2, .int x2), (3, .ref a3)]) hx hb dL_delete_20 hl (by decide) rfl (fun ls hl => ?_)
      refine lv_iconst (v := 1) hx hb dL_delete_22 (by decide) ?_
      exact r_wret C hW hm h dL_delete_23
    cases h
set_option maxRecDepth 100000 in
theorem mkw_L_rename : mOKW yL_rename cL_rename 6 (some .int) hh_L_rename 5 := ⟨tb (List.mem_of_getElem? (i := 1214) (by rfl)) (by rfl), by decide +kernel, by decide +kernel, tb (List.mem_of_getElem? (i := 138) (by decide +kernel)) (by decide +kernel)⟩
set_option maxRecDepth 20000 in
set_option maxHeartbeats 2000000 in
theorem t_L_rename {σ : Sh} {X : Mx} {z : Nat} {r : Hr Int32} {a0 : Nat} {x1 : Int32} {x2 : Int32} {x3 : Int32} {a4 : Nat} (hst : l.stackTraces = false) (h : f_L_rename σ X z a0 x1 x2 x3 a4 = some r) : LwI g l yL_rename cL_rename 6 (some .int) hh_L_rename 9 159 [.ref a0, .int x1, .int x2, .int x3, .ref a4] σ X z r := by
  obtain ⟨v0, σ0, X0, mc, ms⟩ := r
  refine met_ofL mkw_L_rename (Nat.le_of_ble_eq_true rfl) (fun p e s m args below meth c ls C hT hW hzz hl => ?_)
  have hx := C.x
  have hb := C.b
  have hl : lv_has ls 6 [(0, .ref a0), (1, .int x1), (2, .int x2), (3, .int x3), (4, .ref a4)] := hl
  have hm : 0 + mc = mc ∧ 0 + ms = ms := ⟨Nat.zero_add _, Nat.zero_add _⟩
  unfold f_L_rename at h
  refine lv_aload hx hb dL_rename_0 (lv_at hl 4 rfl) ?_
  refine lv_iconst (v := 0) hx hb dL_rename_2 (by decide) ?_
  refine lv_aload_n hx hb dL_rename_3 rfl (lv_at hl 0 rfl) ?_
  refine lv_iload_n hx hb dL_rename_4 rfl (lv_at hl 1 rfl) ?_
  refine lv_iload_n hx hb dL_rename_5 rfl (lv_at hl 2 rfl) ?_
  refine lv_iload_n hx hb dL_rename_6 rfl (lv_at hl 3 rfl) ?_
  obtain ⟨o9, h9, h⟩ := bndC_inv h
  refine c_WV (rest := [.int 0, .ref a4]) C hW hzz hm h (t_X9_rename hst h9) mk_X9_rename vk_L_48 (kd_X9_rename h9) rfl rfl (by decide) ⟨Nat.le_of_ble_eq_true rfl, Nat.le_of_ble_eq_true rfl⟩ rfl rfl (Nat.le_of_ble_eq_true rfl) hl.1 dL_rename_7 (fun vv σ1 X1 H locs cells slots cu du h hW hm => ?_) (fun xk σ1 X1 H locs cells slots cu du q9 ce h hW hm hce hcv hcl => ?_)
  · refine r_br h (lv_if_eq (tgt := 17) hx hb dL_rename_10 (by decide)) (fun h => ?_) (fun h => ?_)
    · refine lv_lconst (v := 0) hx hb dL_rename_17 (by decide) ?_
      refine r_last C hW h dL_rename_18 (fun X1 H locs h hW _ => ?_)
      refine lv_goto (tgt := 26) hx hb dL_rename_19 (by decide) ?_
      refine lv_iconst (v := 0) hx hb dL_rename_26 (by decide) ?_
      exact r_wret C hW hm h dL_rename_27
    · refine lv_lconst (v := 1) hx hb dL_rename_13 (by decide) ?_
      refine lv_goto (tgt := 18) hx hb dL_rename_14 (by decide) ?_
      refine r_last C hW h dL_rename_18 (fun X2 H locs h hW _ => ?_)
      refine lv_goto (tgt := 26) hx hb dL_rename_19 (by decide) ?_
      refine lv_iconst (v := 0) hx hb dL_rename_26 (by decide) ?_
      exact r_wret C hW hm h dL_rename_27
  · refine r_case h (fun ec h => ?_) (fun nc h => ?_)
    · rw [ec] at hcl
      refine w_catch (hh := hh_L_rename) (E := "java/util/NoSuchElementException") C hT rfl rfl (by decide) clk_L_18 (by decide +kernel) hce hcv hcl ?_
      refine lv_astore (lv' := [(5, .ref q9), (0, .ref a0), (1, .int x1), (2, .int x2), (3, .int x3), (4, .ref a4)]) hx hb dL_rename_22 hl (by decide) rfl (fun ls hl => ?_)
      refine lv_iconst (v := 1) hx hb dL_rename_24 (by decide) ?_
      exact r_wret C hW hm h dL_rename_25
    cases h
set_option maxRecDepth 100000 in
theorem mkw_L_retype : mOKW yL_retype cL_retype 6 (some .int) hh_L_retype 5 := ⟨tb (List.mem_of_getElem? (i := 1221) (by rfl)) (by rfl), by decide +kernel, by decide +kernel, tb (List.mem_of_getElem? (i := 138) (by decide +kernel)) (by decide +kernel)⟩
set_option maxRecDepth 20000 in
set_option maxHeartbeats 2000000 in
theorem t_L_retype {σ : Sh} {X : Mx} {z : Nat} {r : Hr Int32} {a0 : Nat} {x1 : Int32} {x2 : Int32} {x3 : Int32} {a4 : Nat} (hst : l.stackTraces = false) (h : f_L_retype σ X z a0 x1 x2 x3 a4 = some r) : LwI g l yL_retype cL_retype 6 (some .int) hh_L_retype 9 159 [.ref a0, .int x1, .int x2, .int x3, .ref a4] σ X z r := by
  obtain ⟨v0, σ0, X0, mc, ms⟩ := r
  refine met_ofL mkw_L_retype (Nat.le_of_ble_eq_true rfl) (fun p e s m args below meth c ls C hT hW hzz hl => ?_)
  have hx := C.x
  have hb := C.b
  have hl : lv_has ls 6 [(0, .ref a0), (1, .int x1), (2, .int x2), (3, .int x3), (4, .ref a4)] := hl
  have hm : 0 + mc = mc ∧ 0 + ms = ms := ⟨Nat.zero_add _, Nat.zero_add _⟩
  unfold f_L_retype at h
  refine lv_aload hx hb dL_retype_0 (lv_at hl 4 rfl) ?_
  refine lv_iconst (v := 0) hx hb dL_retype_2 (by decide) ?_
  refine lv_aload_n hx hb dL_retype_3 rfl (lv_at hl 0 rfl) ?_
  refine lv_iload_n hx hb dL_retype_4 rfl (lv_at hl 1 rfl) ?_
  refine lv_iload_n hx hb dL_retype_5 rfl (lv_at hl 2 rfl) ?_
  refine lv_iload_n hx hb dL_retype_6 rfl (lv_at hl 3 rfl) ?_
  obtain ⟨o9, h9, h⟩ := bndC_inv h
  refine c_WV (rest := [.int 0, .ref a4]) C hW hzz hm h (t_X9_retype hst h9) mk_X9_retype vk_L_52 (kd_X9_retype h9) rfl rfl (by decide) ⟨Nat.le_of_ble_eq_true rfl, Nat.le_of_ble_eq_true rfl⟩ rfl rfl (Nat.le_of_ble_eq_true rfl) hl.1 dL_retype_7 (fun vv σ1 X1 H locs cells slots cu du h hW hm => ?_) (fun xk σ1 X1 H locs cells slots cu du q9 ce h hW hm hce hcv hcl => ?_)
  · refine r_br h (lv_if_eq (tgt := 17) hx hb dL_retype_10 (by decide)) (fun h => ?_) (fun h => ?_)
    · refine lv_lconst (v := 0) hx hb dL_retype_17 (by decide) ?_
      refine r_last C hW h dL_retype_18 (fun X1 H locs h hW _ => ?_)
      refine lv_goto (tgt := 26) hx hb dL_retype_19 (by decide) ?_
      refine lv_iconst (v := 0) hx hb dL_retype_26 (by decide) ?_
      exact r_wret C hW hm h dL_retype_27
    · refine lv_lconst (v := 1) hx hb dL_retype_13 (by decide) ?_
      refine lv_goto (tgt := 18) hx hb dL_retype_14 (by decide) ?_
      refine r_last C hW h dL_retype_18 (fun X2 H locs h hW _ => ?_)
      refine lv_goto (tgt := 26) hx hb dL_retype_19 (by decide) ?_
      refine lv_iconst (v := 0) hx hb dL_retype_26 (by decide) ?_
      exact r_wret C hW hm h dL_retype_27
  · refine r_case h (fun ec h => ?_) (fun nc h => ?_)
    · rw [ec] at hcl
      refine w_catch (hh := hh_L_retype) (E := "java/util/NoSuchElementException") C hT rfl rfl (by decide) clk_L_18 (by decide +kernel) hce hcv hcl ?_
      refine lv_astore (lv' := [(5, .ref q9), (0, .ref a0), (1, .int x1), (2, .int x2), (3, .int x3), (4, .ref a4)]) hx hb dL_retype_22 hl (by decide) rfl (fun ls hl => ?_)
      refine lv_iconst (v := 1) hx hb dL_retype_24 (by decide) ?_
      exact r_wret C hW hm h dL_retype_25
    cases h
set_option maxRecDepth 100000 in
theorem mkw_L_add : mOKW yL_add cL_add 6 (some .int) hh_L_add 5 := ⟨tb (List.mem_of_getElem? (i := 1228) (by rfl)) (by rfl), by decide +kernel, by decide +kernel, tb (List.mem_of_getElem? (i := 138) (by decide +kernel)) (by decide +kernel)⟩
set_option maxRecDepth 20000 in
set_option maxHeartbeats 2000000 in
theorem t_L_add {σ : Sh} {X : Mx} {z : Nat} {r : Hr Int32} {a0 : Nat} {x1 : Int32} {x2 : Int32} {x3 : Int32} {a4 : Nat} (hst : l.stackTraces = false) (h : f_L_add σ X z a0 x1 x2 x3 a4 = some r) : LwI g l yL_add cL_add 6 (some .int) hh_L_add 9 159 [.ref a0, .int x1, .int x2, .int x3, .ref a4] σ X z r := by
  obtain ⟨v0, σ0, X0, mc, ms⟩ := r
  refine met_ofL mkw_L_add (Nat.le_of_ble_eq_true rfl) (fun p e s m args below meth c ls C hT hW hzz hl => ?_)
  have hx := C.x
  have hb := C.b
  have hl : lv_has ls 6 [(0, .ref a0), (1, .int x1), (2, .int x2), (3, .int x3), (4, .ref a4)] := hl
  have hm : 0 + mc = mc ∧ 0 + ms = ms := ⟨Nat.zero_add _, Nat.zero_add _⟩
  unfold f_L_add at h
  refine lv_aload hx hb dL_add_0 (lv_at hl 4 rfl) ?_
  refine lv_iconst (v := 0) hx hb dL_add_2 (by decide) ?_
  refine lv_aload_n hx hb dL_add_3 rfl (lv_at hl 0 rfl) ?_
  refine lv_iload_n hx hb dL_add_4 rfl (lv_at hl 1 rfl) ?_
  refine lv_iload_n hx hb dL_add_5 rfl (lv_at hl 2 rfl) ?_
  refine lv_iload_n hx hb dL_add_6 rfl (lv_at hl 3 rfl) ?_
  obtain ⟨o9, h9, h⟩ := bndC_inv h
  refine c_WV (rest := [.int 0, .ref a4]) C hW hzz hm h (t_X9_add hst h9) mk_X9_add vk_L_55 (kd_X9_add h9) rfl rfl (by decide) ⟨Nat.le_of_ble_eq_true rfl, Nat.le_of_ble_eq_true rfl⟩ rfl rfl (Nat.le_of_ble_eq_true rfl) hl.1 dL_add_7 (fun vv σ1 X1 H locs cells slots cu du h hW hm => ?_) (fun xk σ1 X1 H locs cells slots cu du q9 ce h hW hm hce hcv hcl => ?_)
  · refine lv_i2l (v := (Int32.toInt64 vv)) hx hb dL_add_10 rfl ?_
    refine r_last C hW h dL_add_11 (fun X1 H locs h hW _ => ?_)
    refine lv_goto (tgt := 19) hx hb dL_add_12 (by decide) ?_
    refine lv_iconst (v := 0) hx hb dL_add_19 (by decide) ?_
    exact r_wret C hW hm h dL_add_20
  · refine r_case h (fun ec h => ?_) (fun nc h => ?_)
    · rw [ec] at hcl
      refine w_catch (hh := hh_L_add) (E := "java/util/NoSuchElementException") C hT rfl rfl (by decide) clk_L_18 (by decide +kernel) hce hcv hcl ?_
      refine lv_astore (lv' := [(5, .ref q9), (0, .ref a0), (1, .int x1), (2, .int x2), (3, .int x3), (4, .ref a4)]) hx hb dL_add_15 hl (by decide) rfl (fun ls hl => ?_)
      refine lv_iconst (v := 1) hx hb dL_add_17 (by decide) ?_
      exact r_wret C hW hm h dL_add_18
    cases h
set_option maxRecDepth 100000 in
theorem mkw_L_drop : mOKW yL_drop cL_drop 5 (some .int) hh_L_drop 4 := ⟨tb (List.mem_of_getElem? (i := 1235) (by rfl)) (by rfl), by decide +kernel, by decide +kernel, tb (List.mem_of_getElem? (i := 138) (by decide +kernel)) (by decide +kernel)⟩
set_option maxRecDepth 20000 in
set_option maxHeartbeats 2000000 in
theorem t_L_drop {σ : Sh} {X : Mx} {z : Nat} {r : Hr Int32} {a0 : Nat} {x1 : Int32} {x2 : Int32} {a3 : Nat} (hst : l.stackTraces = false) (h : f_L_drop σ X z a0 x1 x2 a3 = some r) : LwI g l yL_drop cL_drop 5 (some .int) hh_L_drop 9 158 [.ref a0, .int x1, .int x2, .ref a3] σ X z r := by
  obtain ⟨v0, σ0, X0, mc, ms⟩ := r
  refine met_ofL mkw_L_drop (Nat.le_of_ble_eq_true rfl) (fun p e s m args below meth c ls C hT hW hzz hl => ?_)
  have hx := C.x
  have hb := C.b
  have hl : lv_has ls 5 [(0, .ref a0), (1, .int x1), (2, .int x2), (3, .ref a3)] := hl
  have hm : 0 + mc = mc ∧ 0 + ms = ms := ⟨Nat.zero_add _, Nat.zero_add _⟩
  unfold f_L_drop at h
  refine lv_aload_n hx hb dL_drop_0 rfl (lv_at hl 3 rfl) ?_
  refine lv_iconst (v := 0) hx hb dL_drop_1 (by decide) ?_
  refine lv_aload_n hx hb dL_drop_2 rfl (lv_at hl 0 rfl) ?_
  refine lv_iload_n hx hb dL_drop_3 rfl (lv_at hl 1 rfl) ?_
  refine lv_iload_n hx hb dL_drop_4 rfl (lv_at hl 2 rfl) ?_
  obtain ⟨o9, h9, h⟩ := bndC_inv h
  refine c_WV (rest := [.int 0, .ref a3]) C hW hzz hm h (t_X9_drop hst h9) mk_X9_drop vk_L_58 (kd_X9_drop h9) rfl rfl (by decide) ⟨Nat.le_of_ble_eq_true rfl, Nat.le_of_ble_eq_true rfl⟩ rfl rfl (Nat.le_of_ble_eq_true rfl) hl.1 dL_drop_5 (fun vv σ1 X1 H locs cells slots cu du h hW hm => ?_) (fun xk σ1 X1 H locs cells slots cu du q9 ce h hW hm hce hcv hcl => ?_)
  · refine r_br h (lv_if_eq (tgt := 15) hx hb dL_drop_8 (by decide)) (fun h => ?_) (fun h => ?_)
    · refine lv_lconst (v := 0) hx hb dL_drop_15 (by decide) ?_
      refine r_last C hW h dL_drop_16 (fun X1 H locs h hW _ => ?_)
      refine lv_goto (tgt := 24) hx hb dL_drop_17 (by decide) ?_
      refine lv_iconst (v := 0) hx hb dL_drop_24 (by decide) ?_
      exact r_wret C hW hm h dL_drop_25
    · refine lv_lconst (v := 1) hx hb dL_drop_11 (by decide) ?_
      refine lv_goto (tgt := 16) hx hb dL_drop_12 (by decide) ?_
      refine r_last C hW h dL_drop_16 (fun X2 H locs h hW _ => ?_)
      refine lv_goto (tgt := 24) hx hb dL_drop_17 (by decide) ?_
      refine lv_iconst (v := 0) hx hb dL_drop_24 (by decide) ?_
      exact r_wret C hW hm h dL_drop_25
  · refine r_case h (fun ec h => ?_) (fun nc h => ?_)
    · rw [ec] at hcl
      refine w_catch (hh := hh_L_drop) (E := "java/util/NoSuchElementException") C hT rfl rfl (by decide) clk_L_18 (by decide +kernel) hce hcv hcl ?_
      refine lv_astore (lv' := [(4, .ref q9), (0, .ref a0), (1, .int x1), (2, .int x2), (3, .ref a3)]) hx hb dL_drop_20 hl (by decide) rfl (fun ls hl => ?_)
      refine lv_iconst (v := 1) hx hb dL_drop_22 (by decide) ?_
      exact r_wret C hW hm h dL_drop_23
    cases h
set_option maxRecDepth 100000 in
theorem mkw_L_difference : mOKW yL_difference cL_difference 5 (some .int) hh_L_difference 4 := ⟨tb (List.mem_of_getElem? (i := 1242) (by rfl)) (by rfl), by decide +kernel, by decide +kernel, tb (List.mem_of_getElem? (i := 138) (by decide +kernel)) (by decide +kernel)⟩
set_option maxRecDepth 20000 in
set_option maxHeartbeats 2000000 in
theorem t_L_difference {σ : Sh} {X : Mx} {z : Nat} {r : Hr Int32} {a0 : Nat} {x1 : Int32} {x2 : Int32} {a3 : Nat} (hst : l.stackTraces = false) (h : f_L_difference σ X z a0 x1 x2 a3 = some r) : LwI g l yL_difference cL_difference 5 (some .int) hh_L_difference 8 134 [.ref a0, .int x1, .int x2, .ref a3] σ X z r := by
  obtain ⟨v0, σ0, X0, mc, ms⟩ := r
  refine met_ofL mkw_L_difference (Nat.le_of_ble_eq_true rfl) (fun p e s m args below meth c ls C hT hW hzz hl => ?_)
  have hx := C.x
  have hb := C.b
  have hl : lv_has ls 5 [(0, .ref a0), (1, .int x1), (2, .int x2), (3, .ref a3)] := hl
  have hm : 0 + mc = mc ∧ 0 + ms = ms := ⟨Nat.zero_add _, Nat.zero_add _⟩
  unfold f_L_difference at h
  refine lv_aload_n hx hb dL_difference_0 rfl (lv_at hl 3 rfl) ?_
  refine lv_iconst (v := 0) hx hb dL_difference_1 (by decide) ?_
  refine lv_aload_n hx hb dL_difference_2 rfl (lv_at hl 0 rfl) ?_
  refine lv_iload_n hx hb dL_difference_3 rfl (lv_at hl 1 rfl) ?_
  refine lv_iload_n hx hb dL_difference_4 rfl (lv_at hl 2 rfl) ?_
  obtain ⟨o9, h9, h⟩ := bndC_inv h
  refine c_WV (rest := [.int 0, .ref a3]) C hW hzz hm h (t_X9_difference hst h9) mk_X9_difference vk_L_61 (kd_X9_difference h9) rfl rfl (by decide) ⟨Nat.le_of_ble_eq_true rfl, Nat.le_of_ble_eq_true rfl⟩ rfl rfl (Nat.le_of_ble_eq_true rfl) hl.1 dL_difference_5 (fun vv σ1 X1 H locs cells slots cu du h hW hm => ?_) (fun xk σ1 X1 H locs cells slots cu du q9 ce h hW hm hce hcv hcl => ?_)
  · refine lv_i2l (v := (Int32.toInt64 vv)) hx hb dL_difference_8 rfl ?_
    refine r_last C hW h dL_difference_9 (fun X1 H locs h hW _ => ?_)
    refine lv_goto (tgt := 17) hx hb dL_difference_10 (by decide) ?_
    refine lv_iconst (v := 0) hx hb dL_difference_17 (by decide) ?_
    exact r_wret C hW hm h dL_difference_18
  · refine r_case h (fun ec h => ?_) (fun nc h => ?_)
    · rw [ec] at hcl
      refine w_catch (hh := hh_L_difference) (E := "java/util/NoSuchElementException") C hT rfl rfl (by decide) clk_L_18 (by decide +kernel) hce hcv hcl ?_
      refine lv_astore (lv' := [(4, .ref q9), (0, .ref a0), (1, .int x1), (2, .int x2), (3, .ref a3)]) hx hb dL_difference_13 hl (by decide) rfl (fun ls hl => ?_)
      refine lv_iconst (v := 1) hx hb dL_difference_15 (by decide) ?_
      exact r_wret C hW hm h dL_difference_16
    cases h
set_option maxRecDepth 100000 in
theorem mkw_L_along : mOKW yL_along cL_along 5 (some .int) hh_L_along 4 := ⟨tb (List.mem_of_getElem? (i := 1263) (by rfl)) (by rfl), by decide +kernel, by decide +kernel, tb (List.mem_of_getElem? (i := 138) (by decide +kernel)) (by decide +kernel)⟩
set_option maxRecDepth 20000 in
set_option maxHeartbeats 2000000 in
theorem t_L_along {σ : Sh} {X : Mx} {z : Nat} {r : Hr Int32} {a0 : Nat} {x1 : Int32} {x2 : Int32} {a3 : Nat} (hst : l.stackTraces = false) (h : f_L_along σ X z a0 x1 x2 a3 = some r) : LwI g l yL_along cL_along 5 (some .int) hh_L_along 8 168 [.ref a0, .int x1, .int x2, .ref a3] σ X z r := by
  obtain ⟨v0, σ0, X0, mc, ms⟩ := r
  refine met_ofL mkw_L_along (Nat.le_of_ble_eq_true rfl) (fun p e s m args below meth c ls C hT hW hzz hl => ?_)
  have hx := C.x
  have hb := C.b
  have hl : lv_has ls 5 [(0, .ref a0), (1, .int x1), (2, .int x2), (3, .ref a3)] := hl
  have hm : 0 + mc = mc ∧ 0 + ms = ms := ⟨Nat.zero_add _, Nat.zero_add _⟩
  unfold f_L_along at h
  refine lv_aload_n hx hb dL_along_0 rfl (lv_at hl 3 rfl) ?_
  refine lv_iconst (v := 0) hx hb dL_along_1 (by decide) ?_
  refine lv_aload_n hx hb dL_along_2 rfl (lv_at hl 0 rfl) ?_
  refine lv_iload_n hx hb dL_along_3 rfl (lv_at hl 1 rfl) ?_
  refine lv_iload_n hx hb dL_along_4 rfl (lv_at hl 2 rfl) ?_
  obtain ⟨o9, h9, h⟩ := bndC_inv h
  refine c_WV (rest := [.int 0, .ref a3]) C hW hzz hm h (t_X9_along hst h9) mk_X9_along vk_L_64 (kd_X9_along h9) rfl rfl (by decide) ⟨Nat.le_of_ble_eq_true rfl, Nat.le_of_ble_eq_true rfl⟩ rfl rfl (Nat.le_of_ble_eq_true rfl) hl.1 dL_along_5 (fun vv σ1 X1 H locs cells slots cu du h hW hm => ?_) (fun xk σ1 X1 H locs cells slots cu du q9 ce h hW hm hce hcv hcl => ?_)
  · refine lv_i2l (v := (Int32.toInt64 vv)) hx hb dL_along_8 rfl ?_
    refine r_last C hW h dL_along_9 (fun X1 H locs h hW _ => ?_)
    refine lv_goto (tgt := 21) hx hb dL_along_10 (by decide) ?_
    refine lv_iconst (v := 0) hx hb dL_along_21 (by decide) ?_
    exact r_wret C hW hm h dL_along_22
  · refine r_case h (fun ec h => ?_) (fun nc h => ?_)
    · rw [ec] at hcl
      refine w_catch (hh := hh_L_along) (E := "java/util/NoSuchElementException") C hT rfl rfl (by decide) clk_L_18 (by decide +kernel) hce hcv hcl ?_
      refine lv_astore (lv' := [(4, .ref q9), (0, .ref a0), (1, .int x1), (2, .int x2), (3, .ref a3)]) hx hb dL_along_13 hl (by decide) rfl (fun ls hl => ?_)
      refine lv_iconst (v := 1) hx hb dL_along_15 (by decide) ?_
      exact r_wret C hW hm h dL_along_16
    refine r_case h (fun ec h => ?_) (fun nc h => ?_)
    · rw [ec] at hcl
      refine w_catch2 (hh := hh_L_along) C hT rfl (by decide) clk_L_18 rfl (by decide) clk_L_13 hce hcv hcl ?_
      refine lv_astore (lv' := [(4, .ref q9), (0, .ref a0), (1, .int x1), (2, .int x2), (3, .ref a3)]) hx hb dL_along_17 hl (by decide) rfl (fun ls hl => ?_)
      refine lv_iconst (v := 2) hx hb dL_along_19 (by decide) ?_
      exact r_wret C hW hm h dL_along_20
    cases h
set_option maxRecDepth 100000 in
theorem mkw_L_alone : mOKW yL_alone cL_alone 5 (some .int) hh_L_alone 4 := ⟨tb (List.mem_of_getElem? (i := 1296) (by rfl)) (by rfl), by decide +kernel, by decide +kernel, tb (List.mem_of_getElem? (i := 138) (by decide +kernel)) (by decide +kernel)⟩
set_option maxRecDepth 20000 in
set_option maxHeartbeats 2000000 in
theorem t_L_alone {σ : Sh} {X : Mx} {z : Nat} {r : Hr Int32} {a0 : Nat} {x1 : Int32} {x2 : Int32} {a3 : Nat} (hst : l.stackTraces = false) (h : f_L_alone σ X z a0 x1 x2 a3 = some r) : LwI g l yL_alone cL_alone 5 (some .int) hh_L_alone 8 171 [.ref a0, .int x1, .int x2, .ref a3] σ X z r := by
  obtain ⟨v0, σ0, X0, mc, ms⟩ := r
  refine met_ofL mkw_L_alone (Nat.le_of_ble_eq_true rfl) (fun p e s m args below meth c ls C hT hW hzz hl => ?_)
  have hx := C.x
  have hb := C.b
  have hl : lv_has ls 5 [(0, .ref a0), (1, .int x1), (2, .int x2), (3, .ref a3)] := hl
  have hm : 0 + mc = mc ∧ 0 + ms = ms := ⟨Nat.zero_add _, Nat.zero_add _⟩
  unfold f_L_alone at h
  refine lv_aload_n hx hb dL_alone_0 rfl (lv_at hl 3 rfl) ?_
  refine lv_iconst (v := 0) hx hb dL_alone_1 (by decide) ?_
  refine lv_aload_n hx hb dL_alone_2 rfl (lv_at hl 0 rfl) ?_
  refine lv_iload_n hx hb dL_alone_3 rfl (lv_at hl 1 rfl) ?_
  refine lv_iload_n hx hb dL_alone_4 rfl (lv_at hl 2 rfl) ?_
  obtain ⟨o9, h9, h⟩ := bndC_inv h
  refine c_WV (rest := [.int 0, .ref a3]) C hW hzz hm h (t_X9_alone hst h9) mk_X9_alone vk_L_67 (kd_X9_alone h9) rfl rfl (by decide) ⟨Nat.le_of_ble_eq_true rfl, Nat.le_of_ble_eq_true rfl⟩ rfl rfl (Nat.le_of_ble_eq_true rfl) hl.1 dL_alone_5 (fun vv σ1 X1 H locs cells slots cu du h hW hm => ?_) (fun xk σ1 X1 H locs cells slots cu du q9 ce h hW hm hce hcv hcl => ?_)
  · refine lv_i2l (v := (Int32.toInt64 vv)) hx hb dL_alone_8 rfl ?_
    refine r_last C hW h dL_alone_9 (fun X1 H locs h hW _ => ?_)
    refine lv_goto (tgt := 17) hx hb dL_alone_10 (by decide) ?_
    refine lv_iconst (v := 0) hx hb dL_alone_17 (by decide) ?_
    exact r_wret C hW hm h dL_alone_18
  · refine r_case h (fun ec h => ?_) (fun nc h => ?_)
    · rw [ec] at hcl
      refine w_catch (hh := hh_L_alone) (E := "java/util/NoSuchElementException") C hT rfl rfl (by decide) clk_L_18 (by decide +kernel) hce hcv hcl ?_
      refine lv_astore (lv' := [(4, .ref q9), (0, .ref a0), (1, .int x1), (2, .int x2), (3, .ref a3)]) hx hb dL_alone_13 hl (by decide) rfl (fun ls hl => ?_)
      refine lv_iconst (v := 1) hx hb dL_alone_15 (by decide) ?_
      exact r_wret C hW hm h dL_alone_16
    cases h
set_option maxRecDepth 100000 in
theorem mkw_L_edited : mOKW yL_edited cL_edited 4 (some .int) hh_L_edited 3 := ⟨tb (List.mem_of_getElem? (i := 1328) (by rfl)) (by rfl), by decide +kernel, by decide +kernel, tb (List.mem_of_getElem? (i := 138) (by decide +kernel)) (by decide +kernel)⟩
set_option maxRecDepth 20000 in
set_option maxHeartbeats 2000000 in
theorem t_L_edited {σ : Sh} {X : Mx} {z : Nat} {r : Hr Int32} {a0 : Nat} {x1 : Int32} {a2 : Nat} (hst : l.stackTraces = false) (h : f_L_edited σ X z a0 x1 a2 = some r) : LwI g l yL_edited cL_edited 4 (some .int) hh_L_edited 8 196 [.ref a0, .int x1, .ref a2] σ X z r := by
  obtain ⟨v0, σ0, X0, mc, ms⟩ := r
  refine met_ofL mkw_L_edited (Nat.le_of_ble_eq_true rfl) (fun p e s m args below meth c ls C hT hW hzz hl => ?_)
  have hx := C.x
  have hb := C.b
  have hl : lv_has ls 4 [(0, .ref a0), (1, .int x1), (2, .ref a2)] := hl
  have hm : 0 + mc = mc ∧ 0 + ms = ms := ⟨Nat.zero_add _, Nat.zero_add _⟩
  unfold f_L_edited at h
  refine lv_aload_n hx hb dL_edited_0 rfl (lv_at hl 2 rfl) ?_
  refine lv_iconst (v := 0) hx hb dL_edited_1 (by decide) ?_
  refine lv_aload_n hx hb dL_edited_2 rfl (lv_at hl 0 rfl) ?_
  refine lv_iload_n hx hb dL_edited_3 rfl (lv_at hl 1 rfl) ?_
  obtain ⟨o9, h9, h⟩ := bndC_inv h
  refine c_WV (rest := [.int 0, .ref a2]) C hW hzz hm h (t_X9_edited hst h9) mk_X9_edited vk_L_70 (kd_X9_edited h9) rfl rfl (by decide) ⟨Nat.le_of_ble_eq_true rfl, Nat.le_of_ble_eq_true rfl⟩ rfl rfl (Nat.le_of_ble_eq_true rfl) hl.1 dL_edited_4 (fun vv σ1 X1 H locs cells slots cu du h hW hm => ?_) (fun xk σ1 X1 H locs cells slots cu du q9 ce h hW hm hce hcv hcl => ?_)
  · refine lv_i2l (v := (Int32.toInt64 vv)) hx hb dL_edited_7 rfl ?_
    refine r_last C hW h dL_edited_8 (fun X1 H locs h hW _ => ?_)
    refine lv_goto (tgt := 15) hx hb dL_edited_9 (by decide) ?_
    refine lv_iconst (v := 0) hx hb dL_edited_15 (by decide) ?_
    exact r_wret C hW hm h dL_edited_16
  · refine r_case h (fun ec h => ?_) (fun nc h => ?_)
    · rw [ec] at hcl
      refine w_catch (hh := hh_L_edited) (E := "java/util/NoSuchElementException") C hT rfl rfl (by decide) clk_L_18 (by decide +kernel) hce hcv hcl ?_
      refine lv_astore_n (lv' := [(3, .ref q9), (0, .ref a0), (1, .int x1), (2, .ref a2)]) hx hb dL_edited_12 rfl hl (by decide) rfl (fun ls hl => ?_)
      refine lv_iconst (v := 1) hx hb dL_edited_13 (by decide) ?_
      exact r_wret C hW hm h dL_edited_14
    cases h
set_option maxRecDepth 100000 in
theorem mkw_L_years : mOKW yL_years cL_years 6 (some .int) hh_L_years 5 := ⟨tb (List.mem_of_getElem? (i := 1351) (by rfl)) (by rfl), by decide +kernel, by decide +kernel, tb (List.mem_of_getElem? (i := 138) (by decide +kernel)) (by decide +kernel)⟩
set_option maxRecDepth 20000 in
set_option maxHeartbeats 2000000 in
theorem t_L_years {σ : Sh} {X : Mx} {z : Nat} {r : Hr Int32} {a0 : Nat} {x1 : Int32} {x2 : Int32} {x3 : Int32} {a4 : Nat} (hst : l.stackTraces = false) (h : f_L_years σ X z a0 x1 x2 x3 a4 = some r) : LwI g l yL_years cL_years 6 (some .int) hh_L_years 8 169 [.ref a0, .int x1, .int x2, .int x3, .ref a4] σ X z r := by
  obtain ⟨v0, σ0, X0, mc, ms⟩ := r
  refine met_ofL mkw_L_years (Nat.le_of_ble_eq_true rfl) (fun p e s m args below meth c ls C hT hW hzz hl => ?_)
  have hx := C.x
  have hb := C.b
  have hl : lv_has ls 6 [(0, .ref a0), (1, .int x1), (2, .int x2), (3, .int x3), (4, .ref a4)] := hl
  have hm : 0 + mc = mc ∧ 0 + ms = ms := ⟨Nat.zero_add _, Nat.zero_add _⟩
  unfold f_L_years at h
  refine lv_aload hx hb dL_years_0 (lv_at hl 4 rfl) ?_
  refine lv_iconst (v := 0) hx hb dL_years_2 (by decide) ?_
  refine lv_aload_n hx hb dL_years_3 rfl (lv_at hl 0 rfl) ?_
  refine lv_iload_n hx hb dL_years_4 rfl (lv_at hl 1 rfl) ?_
  refine lv_iload_n hx hb dL_years_5 rfl (lv_at hl 2 rfl) ?_
  refine lv_iload_n hx hb dL_years_6 rfl (lv_at hl 3 rfl) ?_
  obtain ⟨o9, h9, h⟩ := bndC_inv h
  refine c_WV (rest := [.int 0, .ref a4]) C hW hzz hm h (t_X9_years hst h9) mk_X9_years vk_L_73 (kd_X9_years h9) rfl rfl (by decide) ⟨Nat.le_of_ble_eq_true rfl, Nat.le_of_ble_eq_true rfl⟩ rfl rfl (Nat.le_of_ble_eq_true rfl) hl.1 dL_years_7 (fun vv σ1 X1 H locs cells slots cu du h hW hm => ?_) (fun xk σ1 X1 H locs cells slots cu du q9 ce h hW hm hce hcv hcl => ?_)
  · refine lv_i2l (v := (Int32.toInt64 vv)) hx hb dL_years_10 rfl ?_
    refine r_last C hW h dL_years_11 (fun X1 H locs h hW _ => ?_)
    refine lv_goto (tgt := 23) hx hb dL_years_12 (by decide) ?_
    refine lv_iconst (v := 0) hx hb dL_years_23 (by decide) ?_
    exact r_wret C hW hm h dL_years_24
  · refine r_case h (fun ec h => ?_) (fun nc h => ?_)
    · rw [ec] at hcl
      refine w_catch (hh := hh_L_years) (E := "java/util/NoSuchElementException") C hT rfl rfl (by decide) clk_L_18 (by decide +kernel) hce hcv hcl ?_
      refine lv_astore (lv' := [(5, .ref q9), (0, .ref a0), (1, .int x1), (2, .int x2), (3, .int x3), (4, .ref a4)]) hx hb dL_years_15 hl (by decide) rfl (fun ls hl => ?_)
      refine lv_iconst (v := 1) hx hb dL_years_17 (by decide) ?_
      exact r_wret C hW hm h dL_years_18
    refine r_case h (fun ec h => ?_) (fun nc h => ?_)
    · rw [ec] at hcl
      refine w_catch2 (hh := hh_L_years) C hT rfl (by decide) clk_L_18 rfl (by decide) clk_L_13 hce hcv hcl ?_
      refine lv_astore (lv' := [(5, .ref q9), (0, .ref a0), (1, .int x1), (2, .int x2), (3, .int x3), (4, .ref a4)]) hx hb dL_years_19 hl (by decide) rfl (fun ls hl => ?_)
      refine lv_iconst (v := 2) hx hb dL_years_21 (by decide) ?_
      exact r_wret C hW hm h dL_years_22
    cases h
end
