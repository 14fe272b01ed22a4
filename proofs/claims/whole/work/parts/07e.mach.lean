section
variable {p : Program} {l : Launch} {e : Env} {s : State} {m : MethodId} {args : Array Value} {below : List Frame} {meth : Method} {c : Code} {H : Heap} {locs : List Loc} {g : Gp} {σ : Sh} {ls : Array Slot}
theorem kd_X9_fault {X : Mx} {r : Int32} {a : Nat} (h : f_X9_fault σ X a = some r) : shK σ a = 7 := (grd_inv h).1
set_option maxRecDepth 20000 in
set_option maxHeartbeats 2000000 in
theorem t_X9_fault {X : Mx} {r : Int32} {a : Nat} (h : f_X9_fault σ X a = some r) : MtI g l yX9_fault cX9_fault 1 (some .int) 0 0 [.ref a] σ X (r, X) := by
  refine met_of mk_X9_fault (Nat.le_of_ble_eq_true rfl) (fun p e s m args below meth c ls C hW hl => ?_)
  have hx := C.x
  have hb := C.b
  have hl : lv_has ls 1 [(0, .ref a)] := hl
  unfold f_X9_fault at h
  obtain ⟨hk0, h⟩ := grd_inv h
  refine lv_aload_n hx hb dX9_fault_0 rfl (lv_at hl 0 rfl) ?_
  refine r_gI C hW h fl_X9_60 (by decide) dX9_fault_1 (fun v1 h => ?_)
  exact r_iret C hW (rt_R h) rfl dX9_fault_4
theorem kd_X9_see {X : Mx} {r : (Int32 × Mx)} {a : Nat} {x1 : Int32} {x2 : Int32} {x3 : Int32} (h : f_X9_see σ X a x1 x2 x3 = some r) : shK σ a = 7 := (grd_inv h).1
set_option maxRecDepth 20000 in
set_option maxHeartbeats 2000000 in
theorem t_X9_see {X : Mx} {r : (Int32 × Mx)} {a : Nat} {x1 : Int32} {x2 : Int32} {x3 : Int32} (h : f_X9_see σ X a x1 x2 x3 = some r) : MtI g l yX9_see cX9_see 4 (some .int) 2 44 [.ref a, .int x1, .int x2, .int x3] σ X r := by
  refine met_of mk_X9_see (Nat.le_of_ble_eq_true rfl) (fun p e s m args below meth c ls C hW hl => ?_)
  have hx := C.x
  have hb := C.b
  have hl : lv_has ls 4 [(0, .ref a), (1, .int x1), (2, .int x2), (3, .int x3)] := hl
  unfold f_X9_see at h
  obtain ⟨hk0, h⟩ := grd_inv h
  refine lv_aload_n hx hb dX9_see_0 rfl (lv_at hl 0 rfl) ?_
  refine r_gR C hW h fl_X9_40 (by decide) dX9_see_1 (fun b1 h => ?_)
  refine lv_iload_n hx hb dX9_see_4 rfl (lv_at hl 1 rfl) ?_
  refine lv_iload_n hx hb dX9_see_5 rfl (lv_at hl 2 rfl) ?_
  refine lv_iload_n hx hb dX9_see_6 rfl (lv_at hl 3 rfl) ?_
  obtain ⟨v4, X3, h2, h⟩ := bnd2_inv h
  refine r_cI hW (run_V (rest := []) C hW (t_X4_note h2) mk_X4_note vk_X9_291 (kd_X4_note h2) rfl rfl (by decide) ⟨Nat.le_of_ble_eq_true rfl, Nat.le_of_ble_eq_true rfl⟩ ⟨Nat.zero_le _, Nat.zero_le _⟩ rfl rfl (Nat.le_of_ble_eq_true rfl) hl.1 dX9_see_7) (fun H locs hW _ => ?_)
  refine r_brn h (lv_if_ne (tgt := 25) hx hb dX9_see_10 (by decide)) (fun h => ?_) (fun h => ?_)
  · refine lv_aload_n hx hb dX9_see_25 rfl (lv_at hl 0 rfl) ?_
    refine r_gR C hW h fl_X9_47 (by decide) dX9_see_26 (fun b5 h => ?_)
    obtain ⟨X7, h6, h⟩ := bnd_inv h
    refine r_cV hW (run_V (rest := []) C hW (t_X3_clear h6) mk_X3_clear vk_X9_295 (kd_X3_clear h6) rfl rfl (by decide) ⟨Nat.le_of_ble_eq_true rfl, Nat.le_of_ble_eq_true rfl⟩ ⟨Nat.zero_le _, Nat.zero_le _⟩ rfl rfl (Nat.le_of_ble_eq_true rfl) hl.1 dX9_see_29) (fun H locs hW _ => ?_)
    refine lv_aload_n hx hb dX9_see_32 rfl (lv_at hl 0 rfl) ?_
    refine r_gR C hW h fl_X9_40 (by decide) dX9_see_33 (fun b8 h => ?_)
    refine r_gI C hW h fl_X9_152 (by decide) dX9_see_36 (fun v9 h => ?_)
    exact r_iret C hW (Option.some.inj h).symm rfl dX9_see_39
  · refine lv_aload_n hx hb dX9_see_13 rfl (lv_at hl 0 rfl) ?_
    refine r_gR C hW h fl_X9_64 (by decide) dX9_see_14 (fun b10 h => ?_)
    refine lv_iconst (v := 2) hx hb dX9_see_17 (by decide) ?_
    refine lv_dup2_11 hx hb dX9_see_18 rfl rfl ?_
    refine r_iald C hW h dX9_see_19 (fun v11 h => ?_)
    refine lv_iconst (v := 1) hx hb dX9_see_20 (by decide) ?_
    refine lv_iadd hx hb dX9_see_21 ?_
    refine r_iast C hW h dX9_see_22 (fun X12 H locs h hW _ => ?_)
    refine lv_iconst (v := (-1)) hx hb dX9_see_23 (by decide) ?_
    exact r_iret C hW (Option.some.inj h).symm rfl dX9_see_24
theorem kd_X9_forget {X : Mx} {r : Mx} {a : Nat} (h : f_X9_forget σ X a = some r) : shK σ a = 7 := (grd_inv h).1
set_option maxRecDepth 20000 in
set_option maxHeartbeats 2000000 in
theorem t_X9_forget {X : Mx} {r : Mx} {a : Nat} (h : f_X9_forget σ X a = some r) : MtV g l yX9_forget cX9_forget 1 none 2 43 [.ref a] σ X r := by
  refine met_of mk_X9_forget (Nat.le_of_ble_eq_true rfl) (fun p e s m args below meth c ls C hW hl => ?_)
  have hx := C.x
  have hb := C.b
  have hl : lv_has ls 1 [(0, .ref a)] := hl
  unfold f_X9_forget at h
  obtain ⟨hk0, h⟩ := grd_inv h
  refine lv_aload_n hx hb dX9_forget_0 rfl (lv_at hl 0 rfl) ?_
  refine r_gR C hW h fl_X9_40 (by decide) dX9_forget_1 (fun b1 h => ?_)
  obtain ⟨X3, h2, h⟩ := bnd_inv h
  refine r_cV hW (run_V (rest := []) C hW (t_X4_clear h2) mk_X4_clear vk_X9_103 (kd_X4_clear h2) rfl rfl (by decide) ⟨Nat.le_of_ble_eq_true rfl, Nat.le_of_ble_eq_true rfl⟩ ⟨Nat.zero_le _, Nat.zero_le _⟩ rfl rfl (Nat.le_of_ble_eq_true rfl) hl.1 dX9_forget_4) (fun H locs hW _ => ?_)
  refine lv_aload_n hx hb dX9_forget_7 rfl (lv_at hl 0 rfl) ?_
  refine r_gR C hW h fl_X9_47 (by decide) dX9_forget_8 (fun b4 h => ?_)
  obtain ⟨X6, h5, h⟩ := bnd_inv h
  refine r_cV hW (run_V (rest := []) C hW (t_X3_clear h5) mk_X3_clear vk_X9_295 (kd_X3_clear h5) rfl rfl (by decide) ⟨Nat.le_of_ble_eq_true rfl, Nat.le_of_ble_eq_true rfl⟩ ⟨Nat.zero_le _, Nat.zero_le _⟩ rfl rfl (Nat.le_of_ble_eq_true rfl) hl.1 dX9_forget_11) (fun H locs hW _ => ?_)
  exact r_vret C hW (Option.some.inj h).symm dX9_forget_14
theorem kd_X9_freshMerge {X : Mx} {r : (Nat × Mx)} {a : Nat} (h : f_X9_freshMerge σ X a = some r) : shK σ a = 7 := (grd_inv h).1
set_option maxRecDepth 20000 in
set_option maxHeartbeats 2000000 in
theorem t_X9_freshMerge {X : Mx} {r : (Nat × Mx)} {a : Nat} (h : f_X9_freshMerge σ X a = some r) : MtR g l yX9_freshMerge cX9_freshMerge 1 (some (.object "TableMerge$Merge")) 5 121 [.ref a] σ X r := by
  refine met_of mk_X9_freshMerge (Nat.le_of_ble_eq_true rfl) (fun p e s m args below meth c ls C hW hl => ?_)
  have hx := C.x
  have hb := C.b
  have hl : lv_has ls 1 [(0, .ref a)] := hl
  unfold f_X9_freshMerge at h
  obtain ⟨hk0, h⟩ := grd_inv h
  refine lv_aload_n hx hb dX9_freshMerge_0 rfl (lv_at hl 0 rfl) ?_
  refine r_gI C hW h fl_X9_324 (by decide) dX9_freshMerge_1 (fun v1 h => ?_)
  refine r_brn h (lv_if_ne (tgt := 23) hx hb dX9_freshMerge_4 (by decide)) (fun h => ?_) (fun h => ?_)
  · refine lv_aload_n hx hb dX9_freshMerge_23 rfl (lv_at hl 0 rfl) ?_
    refine r_gR C hW h fl_X9_19 (by decide) dX9_freshMerge_24 (fun b2 h => ?_)
    exact r_aret C hW (Option.some.inj h).symm dX9_freshMerge_27
  · refine lv_aload_n hx hb dX9_freshMerge_7 rfl (lv_at hl 0 rfl) ?_
    refine r_gR C hW h fl_X9_19 (by decide) dX9_freshMerge_8 (fun b3 h => ?_)
    refine lv_aload_n hx hb dX9_freshMerge_11 rfl (lv_at hl 0 rfl) ?_
    refine r_gR C hW h fl_X9_12 (by decide) dX9_freshMerge_12 (fun b4 h => ?_)
    obtain ⟨X6, h5, h⟩ := bnd_inv h
    refine r_cV hW (run_V (rest := []) C hW (t_X2_run h5) mk_X2_run vk_X9_327 (kd_X2_run h5) rfl rfl (by decide) ⟨Nat.le_of_ble_eq_true rfl, Nat.le_of_ble_eq_true rfl⟩ ⟨Nat.zero_le _, Nat.zero_le _⟩ rfl rfl (Nat.le_of_ble_eq_true rfl) hl.1 dX9_freshMerge_15) (fun H locs hW _ => ?_)
    refine lv_aload_n hx hb dX9_freshMerge_18 rfl (lv_at hl 0 rfl) ?_
    refine lv_iconst (v := 1) hx hb dX9_freshMerge_19 (by decide) ?_
    refine r_pI C hW h pf_X9_324 (by decide) rfl rfl dX9_freshMerge_20 (fun X7 H locs h hW _ => ?_)
    refine lv_aload_n hx hb dX9_freshMerge_23 rfl (lv_at hl 0 rfl) ?_
    refine r_gR C hW h fl_X9_19 (by decide) dX9_freshMerge_24 (fun b8 h => ?_)
    exact r_aret C hW (Option.some.inj h).symm dX9_freshMerge_27
theorem kd_X9_refuseAct {X : Mx} {r : (Int32 × Mx)} {a : Nat} (h : f_X9_refuseAct σ X a = some r) : shK σ a = 7 := (grd_inv h).1
set_option maxRecDepth 20000 in
set_option maxHeartbeats 2000000 in
theorem t_X9_refuseAct {X : Mx} {r : (Int32 × Mx)} {a : Nat} (h : f_X9_refuseAct σ X a = some r) : MtI g l yX9_refuseAct cX9_refuseAct 1 (some .int) 0 0 [.ref a] σ X r := by
  refine met_of mk_X9_refuseAct (Nat.le_of_ble_eq_true rfl) (fun p e s m args below meth c ls C hW hl => ?_)
  have hx := C.x
  have hb := C.b
  have hl : lv_has ls 1 [(0, .ref a)] := hl
  unfold f_X9_refuseAct at h
  obtain ⟨hk0, h⟩ := grd_inv h
  refine lv_aload_n hx hb dX9_refuseAct_0 rfl (lv_at hl 0 rfl) ?_
  refine r_gR C hW h fl_X9_64 (by decide) dX9_refuseAct_1 (fun b1 h => ?_)
  refine lv_iconst (v := 1) hx hb dX9_refuseAct_4 (by decide) ?_
  refine lv_dup2_11 hx hb dX9_refuseAct_5 rfl rfl ?_
  refine r_iald C hW h dX9_refuseAct_6 (fun v2 h => ?_)
  refine lv_iconst (v := 1) hx hb dX9_refuseAct_7 (by decide) ?_
  refine lv_iadd hx hb dX9_refuseAct_8 ?_
  refine r_iast C hW h dX9_refuseAct_9 (fun X3 H locs h hW _ => ?_)
  refine lv_iconst (v := (-1)) hx hb dX9_refuseAct_10 (by decide) ?_
  exact r_iret C hW (Option.some.inj h).symm rfl dX9_refuseAct_11
theorem kd_X9_noteChange {X : Mx} {r : Mx} {a : Nat} (h : f_X9_noteChange σ X a = some r) : shK σ a = 7 := (grd_inv h).1
set_option maxRecDepth 20000 in
set_option maxHeartbeats 2000000 in
theorem t_X9_noteChange {X : Mx} {r : Mx} {a : Nat} (h : f_X9_noteChange σ X a = some r) : MtV g l yX9_noteChange cX9_noteChange 1 none 2 43 [.ref a] σ X r := by
  refine met_of mk_X9_noteChange (Nat.le_of_ble_eq_true rfl) (fun p e s m args below meth c ls C hW hl => ?_)
  have hx := C.x
  have hb := C.b
  have hl : lv_has ls 1 [(0, .ref a)] := hl
  unfold f_X9_noteChange at h
  obtain ⟨hk0, h⟩ := grd_inv h
  refine lv_aload_n hx hb dX9_noteChange_0 rfl (lv_at hl 0 rfl) ?_
  refine lv_iconst (v := 0) hx hb dX9_noteChange_1 (by decide) ?_
  refine r_pI C hW h pf_X9_324 (by decide) rfl rfl dX9_noteChange_2 (fun X1 H locs h hW _ => ?_)
  refine lv_aload_n hx hb dX9_noteChange_5 rfl (lv_at hl 0 rfl) ?_
  refine r_gR C hW h fl_X9_47 (by decide) dX9_noteChange_6 (fun b2 h => ?_)
  obtain ⟨X4, h3, h⟩ := bnd_inv h
  refine r_cV hW (run_V (rest := []) C hW (t_X3_clear h3) mk_X3_clear vk_X9_295 (kd_X3_clear h3) rfl rfl (by decide) ⟨Nat.le_of_ble_eq_true rfl, Nat.le_of_ble_eq_true rfl⟩ ⟨Nat.zero_le _, Nat.zero_le _⟩ rfl rfl (Nat.le_of_ble_eq_true rfl) hl.1 dX9_noteChange_9) (fun H locs hW _ => ?_)
  exact r_vret C hW (Option.some.inj h).symm dX9_noteChange_12
theorem kd_X9_keepAct {X : Mx} {r : Mx} {a : Nat} (h : f_X9_keepAct σ X a = some r) : shK σ a = 7 := (grd_inv h).1
set_option maxRecDepth 20000 in
set_option maxHeartbeats 2000000 in
theorem t_X9_keepAct {X : Mx} {r : Mx} {a : Nat} (h : f_X9_keepAct σ X a = some r) : MtV g l yX9_keepAct cX9_keepAct 1 none 3 63 [.ref a] σ X r := by
  refine met_of mk_X9_keepAct (Nat.le_of_ble_eq_true rfl) (fun p e s m args below meth c ls C hW hl => ?_)
  have hx := C.x
  have hb := C.b
  have hl : lv_has ls 1 [(0, .ref a)] := hl
  unfold f_X9_keepAct at h
  obtain ⟨hk0, h⟩ := grd_inv h
  refine lv_aload_n hx hb dX9_keepAct_0 rfl (lv_at hl 0 rfl) ?_
  refine r_gR C hW h fl_X9_33 (by decide) dX9_keepAct_1 (fun b1 h => ?_)
  obtain ⟨X3, h2, h⟩ := bnd_inv h
  refine r_cV hW (run_V (rest := []) C hW (t_X0_keepPrepared h2) mk_X0_keepPrepared vk_X9_333 (kd_X0_keepPrepared h2) rfl rfl (by decide) ⟨Nat.le_of_ble_eq_true rfl, Nat.le_of_ble_eq_true rfl⟩ ⟨Nat.zero_le _, Nat.zero_le _⟩ rfl rfl (Nat.le_of_ble_eq_true rfl) hl.1 dX9_keepAct_4) (fun H locs hW _ => ?_)
  refine lv_aload_n hx hb dX9_keepAct_7 rfl (lv_at hl 0 rfl) ?_
  obtain ⟨X5, h4, h⟩ := bnd_inv h
  refine r_cV hW (run_V (rest := []) C hW (t_X9_noteChange h4) mk_X9_noteChange vk_X9_108 (kd_X9_noteChange h4) rfl rfl (by decide) ⟨Nat.le_of_ble_eq_true rfl, Nat.le_of_ble_eq_true rfl⟩ ⟨Nat.zero_le _, Nat.zero_le _⟩ rfl rfl (Nat.le_of_ble_eq_true rfl) hl.1 dX9_keepAct_8) (fun H locs hW _ => ?_)
  exact r_vret C hW (Option.some.inj h).symm dX9_keepAct_11
theorem kd_X10_thrown {X : Mx} {r : Int32} {a : Nat} (h : f_X10_thrown σ X a = some r) : shK σ a = 8 := (grd_inv h).1
set_option maxRecDepth 20000 in
set_option maxHeartbeats 2000000 in
theorem t_X10_thrown {X : Mx} {r : Int32} {a : Nat} (h : f_X10_thrown σ X a = some r) : MtI g l yX10_thrown cX10_thrown 1 (some .int) 0 0 [.ref a] σ X (r, X) := by
  refine met_of mk_X10_thrown (Nat.le_of_ble_eq_true rfl) (fun p e s m args below meth c ls C hW hl => ?_)
  have hx := C.x
  have hb := C.b
  have hl : lv_has ls 1 [(0, .ref a)] := hl
  unfold f_X10_thrown at h
  obtain ⟨hk0, h⟩ := grd_inv h
  refine lv_aload_n hx hb dX10_thrown_0 rfl (lv_at hl 0 rfl) ?_
  refine r_gI C hW h fl_X10_65 (by decide) dX10_thrown_1 (fun v1 h => ?_)
  exact r_iret C hW (rt_R h) rfl dX10_thrown_4
set_option maxRecDepth 20000 in
set_option maxHeartbeats 2000000 in
theorem b_X10_right_16 {a : Nat} (C : Cx g RX10 cX10_right 3 (some .boolean) p s m args meth c) {r : (Int32 × Mx)} {X : Mx} (hW : Wd g σ X s H locs) (hl : lv_has ls 3 [(0, .ref a)]) (h : f_X10_right_16 σ a X = some r) : W p l e (rmZ 0 0) s m args below meth c H locs 0 0 (QI g σ below args s r) (F0 m 16 ls []) := by
  have hx := C.x
  have hb := C.b
  unfold f_X10_right_16 at h
  refine lv_aload_n hx hb dX10_right_16 rfl (lv_at hl 0 rfl) ?_
  refine r_gI C hW h fl_X10_65 (by decide) dX10_right_17 (fun v1 h => ?_)
  refine r_brn h (lv_if_ne (tgt := 27) hx hb dX10_right_20 (by decide)) (fun h => ?_) (fun h => ?_)
  · refine lv_iconst (v := 0) hx hb dX10_right_27 (by decide) ?_
    exact r_iret C hW (Option.some.inj h).symm rfl dX10_right_28
  · refine lv_iconst (v := 1) hx hb dX10_right_23 (by decide) ?_
    refine lv_goto (tgt := 28) hx hb dX10_right_24 (by decide) ?_
    exact r_iret C hW (Option.some.inj h).symm rfl dX10_right_28
theorem kd_X10_right {X : Mx} {r : (Int32 × Mx)} {a : Nat} {x1 : Int32} {x2 : Int32} (h : f_X10_right σ X a x1 x2 = some r) : shK σ a = 8 := (grd_inv h).1
set_option maxRecDepth 20000 in
set_option maxHeartbeats 2000000 in
theorem t_X10_right {X : Mx} {r : (Int32 × Mx)} {a : Nat} {x1 : Int32} {x2 : Int32} (h : f_X10_right σ X a x1 x2 = some r) : MtI g l yX10_right cX10_right 3 (some .boolean) 0 0 [.ref a, .int x1, .int x2] σ X r := by
  refine met_of mk_X10_right (Nat.le_of_ble_eq_true rfl) (fun p e s m args below meth c ls C hW hl => ?_)
  have hx := C.x
  have hb := C.b
  have hl : lv_has ls 3 [(0, .ref a), (1, .int x1), (2, .int x2)] := hl
  unfold f_X10_right at h
  obtain ⟨hk0, h⟩ := grd_inv h
  refine lv_aload_n hx hb dX10_right_0 rfl (lv_at hl 0 rfl) ?_
  refine r_gI C hW h fl_X10_65 (by decide) dX10_right_1 (fun v1 h => ?_)
  refine r_brn h (lv_if_ne (tgt := 16) hx hb dX10_right_4 (by decide)) (fun h => ?_) (fun h => ?_)
  · exact b_X10_right_16 C hW (lv_sub hl [0] rfl) h
  · refine lv_iload_n hx hb dX10_right_7 rfl (lv_at hl 1 rfl) ?_
    refine r_brn h (lv_if_ne (tgt := 16) hx hb dX10_right_8 (by decide)) (fun h => ?_) (fun h => ?_)
    · exact b_X10_right_16 C hW (lv_sub hl [0] rfl) h
    · refine lv_aload_n hx hb dX10_right_11 rfl (lv_at hl 0 rfl) ?_
      refine lv_iload_n hx hb dX10_right_12 rfl (lv_at hl 2 rfl) ?_
      refine r_pI C hW h pf_X10_65 (by decide) rfl rfl dX10_right_13 (fun X2 H locs h hW _ => ?_)
      exact b_X10_right_16 C hW (lv_sub hl [0] rfl) h
set_option maxRecDepth 20000 in
set_option maxHeartbeats 2000000 in
theorem t_X10_within {X : Mx} {x0 : Int32} {x1 : Int32} {x2 : Int32} : MtI g l yX10_within cX10_within 3 (some .boolean) 0 0 [.int x0, .int x1, .int x2] σ X (f_X10_within x0 x1 x2, X) := by
  obtain ⟨r, h⟩ : ∃ r, f_X10_within x0 x1 x2 = r := ⟨_, rfl⟩
  rw [h]
  refine met_of mk_X10_within (Nat.le_of_ble_eq_true rfl) (fun p e s m args below meth c ls C hW hl => ?_)
  have hx := C.x
  have hb := C.b
  have hl : lv_has ls 3 [(0, .int x0), (1, .int x1), (2, .int x2)] := hl
  unfold f_X10_within at h
  refine lv_iload_n hx hb dX10_within_0 rfl (lv_at hl 0 rfl) ?_
  refine lv_iload_n hx hb dX10_within_1 rfl (lv_at hl 1 rfl) ?_
  refine r_br h (lv_icmp_lt (tgt := 14) hx hb dX10_within_2 (by decide)) (fun h => ?_) (fun h => ?_)
  · refine lv_iconst (v := 0) hx hb dX10_within_14 (by decide) ?_
    exact r_iret C hW (rt_T h) rfl dX10_within_15
  · refine lv_iload_n hx hb dX10_within_5 rfl (lv_at hl 0 rfl) ?_
    refine lv_iload_n hx hb dX10_within_6 rfl (lv_at hl 2 rfl) ?_
    refine r_br h (lv_icmp_gt (tgt := 14) hx hb dX10_within_7 (by decide)) (fun h => ?_) (fun h => ?_)
    · refine lv_iconst (v := 0) hx hb dX10_within_14 (by decide) ?_
      exact r_iret C hW (rt_T h) rfl dX10_within_15
    · refine lv_iconst (v := 1) hx hb dX10_within_10 (by decide) ?_
      refine lv_goto (tgt := 15) hx hb dX10_within_11 (by decide) ?_
      exact r_iret C hW (rt_T h) rfl dX10_within_15
set_option maxRecDepth 20000 in
set_option maxHeartbeats 2000000 in
theorem t_X10_lesser {X : Mx} {x0 : Int32} {x1 : Int32} : MtI g l yX10_lesser cX10_lesser 2 (some .int) 0 0 [.int x0, .int x1] σ X (f_X10_lesser x0 x1, X) := by
  obtain ⟨r, h⟩ : ∃ r, f_X10_lesser x0 x1 = r := ⟨_, rfl⟩
  rw [h]
  refine met_of mk_X10_lesser (Nat.le_of_ble_eq_true rfl) (fun p e s m args below meth c ls C hW hl => ?_)
  have hx := C.x
  have hb := C.b
  have hl : lv_has ls 2 [(0, .int x0), (1, .int x1)] := hl
  unfold f_X10_lesser at h
  refine lv_iload_n hx hb dX10_lesser_0 rfl (lv_at hl 0 rfl) ?_
  refine lv_iload_n hx hb dX10_lesser_1 rfl (lv_at hl 1 rfl) ?_
  refine r_br h (lv_icmp_ge (tgt := 9) hx hb dX10_lesser_2 (by decide)) (fun h => ?_) (fun h => ?_)
  · refine lv_iload_n hx hb dX10_lesser_9 rfl (lv_at hl 1 rfl) ?_
    exact r_iret C hW (rt_T h) rfl dX10_lesser_10
  · refine lv_iload_n hx hb dX10_lesser_5 rfl (lv_at hl 0 rfl) ?_
    refine lv_goto (tgt := 10) hx hb dX10_lesser_6 (by decide) ?_
    exact r_iret C hW (rt_T h) rfl dX10_lesser_10
set_option maxRecDepth 20000 in
set_option maxHeartbeats 2000000 in
theorem b_X10_bits_4 {x0 : Int32} (C : Cx g RX10 cX10_bits 3 (some .int) p s m args meth c) {r : Int32} {X : Mx} : ∀ (n : Nat) {x1 : Int32} {x2 : Int32} {H : Heap} {locs : List Loc} {ls : Array Slot} (hW : Wd g σ X s H locs) (hl : lv_has ls 3 [(0, .int x0), (1, .int x1), (2, .int x2)]) (h : f_X10_bits_4 x0 n x1 x2 = some r), W p l e (rmZ 0 0) s m args below meth c H locs 0 0 (QI g σ below args s (r, X)) (F0 m 4 ls []) := by
  have hx := C.x
  have hb := C.b
  intro n
  induction n with
  | zero =>
    intro x1 x2 H locs ls hW hl h
    cases (show none = some r from h)
  | succ n ih =>
    intro x1 x2 H locs ls hW hl h
    rw [f_X10_bits_4] at h
    refine lv_iload_n hx hb dX10_bits_4 rfl (lv_at hl 2 rfl) ?_
    refine lv_bipush (v := 20) hx hb dX10_bits_5 (by decide) ?_
    refine r_br h (lv_icmp_ge (tgt := 24) hx hb dX10_bits_7 (by decide)) (fun h => ?_) (fun h => ?_)
    · refine lv_iload_n hx hb dX10_bits_24 rfl (lv_at hl 1 rfl) ?_
      exact r_iret C hW (rt_R h) rfl dX10_bits_25
    · refine lv_iload_n hx hb dX10_bits_10 rfl (lv_at hl 1 rfl) ?_
      refine lv_iload_n hx hb dX10_bits_11 rfl (lv_at hl 0 rfl) ?_
      refine lv_iload_n hx hb dX10_bits_12 rfl (lv_at hl 2 rfl) ?_
      refine lv_ishr hx hb dX10_bits_13 ?_
      refine lv_iconst (v := 1) hx hb dX10_bits_14 (by decide) ?_
      refine lv_iand hx hb dX10_bits_15 ?_
      refine lv_iadd hx hb dX10_bits_16 ?_
      refine lv_istore_n (lv' := [(1, .int (x1 + ((x0 >>> (x2 &&& 31)) &&& 1))), (0, .int x0), (2, .int x2)]) hx hb dX10_bits_17 rfl hl (by decide) rfl (fun ls hl => ?_)
      refine lv_iinc (v := (x2 + 1)) (lv' := [(2, .int (x2 + 1)), (1, .int (x1 + ((x0 >>> (x2 &&& 31)) &&& 1))), (0, .int x0)]) hx hb dX10_bits_18 hl (k := 2) rfl rfl (by decide) rfl (fun ls hl => ?_)
      refine lv_goto (tgt := 4) hx hb dX10_bits_21 (by decide) ?_
      exact ih hW (lv_sub hl [2, 1, 0] rfl) h
set_option maxRecDepth 20000 in
set_option maxHeartbeats 2000000 in
theorem t_X10_bits {X : Mx} {r : Int32} {x0 : Int32} (h : f_X10_bits x0 = some r) : MtI g l yX10_bits cX10_bits 3 (some .int) 0 0 [.int x0] σ X (r, X) := by
  refine met_of mk_X10_bits (Nat.le_of_ble_eq_true rfl) (fun p e s m args below meth c ls C hW hl => ?_)
  have hx := C.x
  have hb := C.b
  have hl : lv_has ls 3 [(0, .int x0)] := hl
  unfold f_X10_bits at h
  refine lv_iconst (v := 0) hx hb dX10_bits_0 (by decide) ?_
  refine lv_istore_n (lv' := [(1, .int 0), (0, .int x0)]) hx hb dX10_bits_1 rfl hl (by decide) rfl (fun ls hl => ?_)
  refine lv_iconst (v := 0) hx hb dX10_bits_2 (by decide) ?_
  refine lv_istore_n (lv' := [(2, .int 0), (1, .int 0), (0, .int x0)]) hx hb dX10_bits_3 rfl hl (by decide) rfl (fun ls hl => ?_)
  exact b_X10_bits_4 C FU hW (lv_sub hl [2, 1, 0] rfl) h
set_option maxRecDepth 20000 in
set_option maxHeartbeats 2000000 in
theorem b_X10_lays_3 {a : Nat} {x1 : Int32} (C : Cx g RX10 cX10_lays 3 none p s m args meth c) {r : Mx} : ∀ (n : Nat) {X : Mx} {x2 : Int32} {H : Heap} {locs : List Loc} {ls : Array Slot} (hW : Wd g σ X s H locs) (hl : lv_has ls 3 [(0, .ref a), (1, .int x1), (2, .int x2)]) (h : f_X10_lays_3 σ a x1 n X x2 = some r), W p l e (rmZ 0 0) s m args below meth c H locs 0 0 (QV g σ below args s r) (F0 m 3 ls []) := by
  have hx := C.x
  have hb := C.b
  intro n
  induction n with
  | zero =>
    intro X x2 H locs ls hW hl h
    cases (show none = some r from h)
  | succ n ih =>
    intro X x2 H locs ls hW hl h
    rw [f_X10_lays_3] at h
    refine lv_iload_n hx hb dX10_lays_3 rfl (lv_at hl 2 rfl) ?_
    refine r_br h (lv_if_lt (tgt := 39) hx hb dX10_lays_4 (by decide)) (fun h => ?_) (fun h => ?_)
    · exact r_vret C hW (Option.some.inj h).symm dX10_lays_39
    · refine lv_aload_n hx hb dX10_lays_7 rfl (lv_at hl 0 rfl) ?_
      refine r_gR C hW h fl_X10_7 (by decide) dX10_lays_8 (fun b1 h => ?_)
      refine lv_aload_n hx hb dX10_lays_11 rfl (lv_at hl 0 rfl) ?_
      refine r_gI C hW h fl_X10_68 (by decide) dX10_lays_12 (fun v2 h => ?_)
      refine lv_iload_n hx hb dX10_lays_15 rfl (lv_at hl 1 rfl) ?_
      refine lv_iload_n hx hb dX10_lays_16 rfl (lv_at hl 2 rfl) ?_
      refine lv_ishr hx hb dX10_lays_17 ?_
      refine lv_sipush (v := 255) hx hb dX10_lays_18 (by decide) ?_
      refine lv_iand hx hb dX10_lays_21 ?_
      refine r_iast C hW h dX10_lays_22 (fun X3 H locs h hW _ => ?_)
      refine lv_aload_n hx hb dX10_lays_23 rfl (lv_at hl 0 rfl) ?_
      refine lv_dup hx hb dX10_lays_24 rfl ?_
      refine r_gI C hW h fl_X10_68 (by decide) dX10_lays_25 (fun v4 h => ?_)
      refine lv_iconst (v := 1) hx hb dX10_lays_28 (by decide) ?_
      refine lv_iadd hx hb dX10_lays_29 ?_
      refine r_pI C hW h pf_X10_68 (by decide) rfl rfl dX10_lays_30 (fun X5 H locs h hW _ => ?_)
      refine lv_iinc (v := (x2 + (-8))) (lv' := [(2, .int (x2 + (-8))), (0, .ref a), (1, .int x1)]) hx hb dX10_lays_33 hl (k := 2) rfl rfl (by decide) rfl (fun ls hl => ?_)
      refine lv_goto (tgt := 3) hx hb dX10_lays_36 (by decide) ?_
      exact ih hW (lv_sub hl [1, 2, 0] rfl) h
theorem kd_X10_lays {X : Mx} {r : Mx} {a : Nat} {x1 : Int32} (h : f_X10_lays σ X a x1 = some r) : shK σ a = 8 := (grd_inv h).1
set_option maxRecDepth 20000 in
set_option maxHeartbeats 2000000 in
theorem t_X10_lays {X : Mx} {r : Mx} {a : Nat} {x1 : Int32} (h : f_X10_lays σ X a x1 = some r) : MtV g l yX10_lays cX10_lays 3 none 0 0 [.ref a, .int x1] σ X r := by
  refine met_of mk_X10_lays (Nat.le_of_ble_eq_true rfl) (fun p e s m args below meth c ls C hW hl => ?_)
  have hx := C.x
  have hb := C.b
  have hl : lv_has ls 3 [(0, .ref a), (1, .int x1)] := hl
  unfold f_X10_lays at h
  obtain ⟨hk0, h⟩ := grd_inv h
  refine lv_bipush (v := 24) hx hb dX10_lays_0 (by decide) ?_
  refine lv_istore_n (lv' := [(2, .int 24), (0, .ref a), (1, .int x1)]) hx hb dX10_lays_2 rfl hl (by decide) rfl (fun ls hl => ?_)
  exact b_X10_lays_3 C FU hW (lv_sub hl [1, 2, 0] rfl) h
theorem kd_X10_feed {X : Mx} {r : (Int32 × Mx)} {a : Nat} {x1 : Int32} {x2 : Int32} {x3 : Int32} {x4 : Int32} {x5 : Int32} (h : f_X10_feed σ X a x1 x2 x3 x4 x5 = some r) : shK σ a = 8 := (grd_inv h).1
set_option maxRecDepth 20000 in
set_option maxHeartbeats 2000000 in
theorem t_X10_feed {X : Mx} {r : (Int32 × Mx)} {a : Nat} {x1 : Int32} {x2 : Int32} {x3 : Int32} {x4 : Int32} {x5 : Int32} (h : f_X10_feed σ X a x1 x2 x3 x4 x5 = some r) : MtI g l yX10_feed cX10_feed 6 (some .int) 1 22 [.ref a, .int x1, .int x2, .int x3, .int x4, .int x5] σ X r := by
  refine met_of mk_X10_feed (Nat.le_of_ble_eq_true rfl) (fun p e s m args below meth c ls C hW hl => ?_)
  have hx := C.x
  have hb := C.b
  have hl : lv_has ls 6 [(0, .ref a), (1, .int x1), (2, .int x2), (3, .int x3), (4, .int x4), (5, .int x5)] := hl
  unfold f_X10_feed at h
  obtain ⟨hk0, h⟩ := grd_inv h
  refine lv_aload_n hx hb dX10_feed_0 rfl (lv_at hl 0 rfl) ?_
  refine lv_iconst (v := 0) hx hb dX10_feed_1 (by decide) ?_
  refine r_pI C hW h pf_X10_65 (by decide) rfl rfl dX10_feed_2 (fun X1 H locs h hW _ => ?_)
  refine lv_aload_n hx hb dX10_feed_5 rfl (lv_at hl 0 rfl) ?_
  refine r_gI C hW h fl_X10_68 (by decide) dX10_feed_6 (fun v2 h => ?_)
  refine lv_bipush (v := 20) hx hb dX10_feed_9 (by decide) ?_
  refine lv_iadd hx hb dX10_feed_11 ?_
  refine lv_sipush (v := 700) hx hb dX10_feed_12 (by decide) ?_
  refine r_br h (lv_icmp_le (tgt := 20) hx hb dX10_feed_15 (by decide)) (fun h => ?_) (fun h => ?_)
  · refine lv_aload_n hx hb dX10_feed_20 rfl (lv_at hl 0 rfl) ?_
    refine lv_iload_n hx hb dX10_feed_21 rfl (lv_at hl 1 rfl) ?_
    obtain ⟨X4, h3, h⟩ := bnd_inv h
    refine r_cV hW (run_V (rest := []) C hW (t_X10_lays h3) mk_X10_lays vk_X10_71 (kd_X10_lays h3) rfl rfl (by decide) ⟨Nat.le_of_ble_eq_true rfl, Nat.le_of_ble_eq_true rfl⟩ ⟨Nat.zero_le _, Nat.zero_le _⟩ rfl rfl (Nat.le_of_ble_eq_true rfl) hl.1 dX10_feed_22) (fun H locs hW _ => ?_)
    refine lv_aload_n hx hb dX10_feed_25 rfl (lv_at hl 0 rfl) ?_
    refine lv_iload_n hx hb dX10_feed_26 rfl (lv_at hl 2 rfl) ?_
    obtain ⟨X6, h5, h⟩ := bnd_inv h
    refine r_cV hW (run_V (rest := []) C hW (t_X10_lays h5) mk_X10_lays vk_X10_71 (kd_X10_lays h5) rfl rfl (by decide) ⟨Nat.le_of_ble_eq_true rfl, Nat.le_of_ble_eq_true rfl⟩ ⟨Nat.zero_le _, Nat.zero_le _⟩ rfl rfl (Nat.le_of_ble_eq_true rfl) hl.1 dX10_feed_27) (fun H locs hW _ => ?_)
    refine lv_aload_n hx hb dX10_feed_30 rfl (lv_at hl 0 rfl) ?_
    refine lv_iload_n hx hb dX10_feed_31 rfl (lv_at hl 3 rfl) ?_
    obtain ⟨X8, h7, h⟩ := bnd_inv h
    refine r_cV hW (run_V (rest := []) C hW (t_X10_lays h7) mk_X10_lays vk_X10_71 (kd_X10_lays h7) rfl rfl (by decide) ⟨Nat.le_of_ble_eq_true rfl, Nat.le_of_ble_eq_true rfl⟩ ⟨Nat.zero_le _, Nat.zero_le _⟩ rfl rfl (Nat.le_of_ble_eq_true rfl) hl.1 dX10_feed_32) (fun H locs hW _ => ?_)
    refine lv_aload_n hx hb dX10_feed_35 rfl (lv_at hl 0 rfl) ?_
    refine lv_iload hx hb dX10_feed_36 (lv_at hl 4 rfl) ?_
    obtain ⟨X10, h9, h⟩ := bnd_inv h
    refine r_cV hW (run_V (rest := []) C hW (t_X10_lays h9) mk_X10_lays vk_X10_71 (kd_X10_lays h9) rfl rfl (by decide) ⟨Nat.le_of_ble_eq_true rfl, Nat.le_of_ble_eq_true rfl⟩ ⟨Nat.zero_le _, Nat.zero_le _⟩ rfl rfl (Nat.le_of_ble_eq_true rfl) hl.1 dX10_feed_38) (fun H locs hW _ => ?_)
    refine lv_aload_n hx hb dX10_feed_41 rfl (lv_at hl 0 rfl) ?_
    refine lv_iload hx hb dX10_feed_42 (lv_at hl 5 rfl) ?_
    obtain ⟨X12, h11, h⟩ := bnd_inv h
    refine r_cV hW (run_V (rest := []) C hW (t_X10_lays h11) mk_X10_lays vk_X10_71 (kd_X10_lays h11) rfl rfl (by decide) ⟨Nat.le_of_ble_eq_true rfl, Nat.le_of_ble_eq_true rfl⟩ ⟨Nat.zero_le _, Nat.zero_le _⟩ rfl rfl (Nat.le_of_ble_eq_true rfl) hl.1 dX10_feed_44) (fun H locs hW _ => ?_)
    refine lv_aload_n hx hb dX10_feed_47 rfl (lv_at hl 0 rfl) ?_
    refine r_gI C hW h fl_X10_68 (by decide) dX10_feed_48 (fun v13 h => ?_)
    exact r_iret C hW (Option.some.inj h).symm rfl dX10_feed_51
  · refine lv_iconst (v := (-1)) hx hb dX10_feed_18 (by decide) ?_
    exact r_iret C hW (Option.some.inj h).symm rfl dX10_feed_19
theorem kd_X10_byteAt {X : Mx} {r : Int32} {a : Nat} {x1 : Int32} (h : f_X10_byteAt σ X a x1 = some r) : shK σ a = 8 := (grd_inv h).1
set_option maxRecDepth 20000 in
set_option maxHeartbeats 2000000 in
theorem t_X10_byteAt {X : Mx} {r : Int32} {a : Nat} {x1 : Int32} (h : f_X10_byteAt σ X a x1 = some r) : MtI g l yX10_byteAt cX10_byteAt 2 (some .int) 0 0 [.ref a, .int x1] σ X (r, X) := by
  refine met_of mk_X10_byteAt (Nat.le_of_ble_eq_true rfl) (fun p e s m args below meth c ls C hW hl => ?_)
  have hx := C.x
  have hb := C.b
  have hl : lv_has ls 2 [(0, .ref a), (1, .int x1)] := hl
  unfold f_X10_byteAt at h
  obtain ⟨hk0, h⟩ := grd_inv h
  refine lv_iload_n hx hb dX10_byteAt_0 rfl (lv_at hl 1 rfl) ?_
  refine lv_aload_n hx hb dX10_byteAt_1 rfl (lv_at hl 0 rfl) ?_
  refine r_gI C hW h fl_X10_75 (by decide) dX10_byteAt_2 (fun v1 h => ?_)
  refine r_br h (lv_icmp_ge (tgt := 17) hx hb dX10_byteAt_5 (by decide)) (fun h => ?_) (fun h => ?_)
  · refine lv_iconst (v := 0) hx hb dX10_byteAt_17 (by decide) ?_
    exact r_iret C hW (rt_R h) rfl dX10_byteAt_18
  · refine lv_aload_n hx hb dX10_byteAt_8 rfl (lv_at hl 0 rfl) ?_
    refine r_gR C hW h fl_X10_7 (by decide) dX10_byteAt_9 (fun b2 h => ?_)
    refine lv_iload_n hx hb dX10_byteAt_12 rfl (lv_at hl 1 rfl) ?_
    refine r_iald C hW h dX10_byteAt_13 (fun v3 h => ?_)
    refine lv_goto (tgt := 18) hx hb dX10_byteAt_14 (by decide) ?_
    exact r_iret C hW (rt_R h) rfl dX10_byteAt_18
set_option maxRecDepth 20000 in
set_option maxHeartbeats 2000000 in
theorem t_X10_isLetter {X : Mx} {x0 : Int32} : MtI g l yX10_isLetter cX10_isLetter 1 (some .boolean) 0 0 [.int x0] σ X (f_X10_isLetter x0, X) := by
  obtain ⟨r, h⟩ : ∃ r, f_X10_isLetter x0 = r := ⟨_, rfl⟩
  rw [h]
  refine met_of mk_X10_isLetter (Nat.le_of_ble_eq_true rfl) (fun p e s m args below meth c ls C hW hl => ?_)
  have hx := C.x
  have hb := C.b
  have hl : lv_has ls 1 [(0, .int x0)] := hl
  unfold f_X10_isLetter at h
  refine lv_iload_n hx hb dX10_isLetter_0 rfl (lv_at hl 0 rfl) ?_
  refine lv_bipush (v := 97) hx hb dX10_isLetter_1 (by decide) ?_
  refine r_br h (lv_icmp_lt (tgt := 16) hx hb dX10_isLetter_3 (by decide)) (fun h => ?_) (fun h => ?_)
  · refine lv_iconst (v := 0) hx hb dX10_isLetter_16 (by decide) ?_
    exact r_iret C hW (rt_T h) rfl dX10_isLetter_17
  · refine lv_iload_n hx hb dX10_isLetter_6 rfl (lv_at hl 0 rfl) ?_
    refine lv_bipush (v := 122) hx hb dX10_isLetter_7 (by decide) ?_
    refine r_br h (lv_icmp_gt (tgt := 16) hx hb dX10_isLetter_9 (by decide)) (fun h => ?_) (fun h => ?_)
    · refine lv_iconst (v := 0) hx hb dX10_isLetter_16 (by decide) ?_
      exact r_iret C hW (rt_T h) rfl dX10_isLetter_17
    · refine lv_iconst (v := 1) hx hb dX10_isLetter_12 (by decide) ?_
      refine lv_goto (tgt := 17) hx hb dX10_isLetter_13 (by decide) ?_
      exact r_iret C hW (rt_T h) rfl dX10_isLetter_17
set_option maxRecDepth 20000 in
set_option maxHeartbeats 2000000 in
theorem t_X10_isDigit {X : Mx} {x0 : Int32} : MtI g l yX10_isDigit cX10_isDigit 1 (some .boolean) 0 0 [.int x0] σ X (f_X10_isDigit x0, X) := by
  obtain ⟨r, h⟩ : ∃ r, f_X10_isDigit x0 = r := ⟨_, rfl⟩
  rw [h]
  refine met_of mk_X10_isDigit (Nat.le_of_ble_eq_true rfl) (fun p e s m args below meth c ls C hW hl => ?_)
  have hx := C.x
  have hb := C.b
  have hl : lv_has ls 1 [(0, .int x0)] := hl
  unfold f_X10_isDigit at h
  refine lv_iload_n hx hb dX10_isDigit_0 rfl (lv_at hl 0 rfl) ?_
  refine lv_bipush (v := 48) hx hb dX10_isDigit_1 (by decide) ?_
  refine r_br h (lv_icmp_lt (tgt := 16) hx hb dX10_isDigit_3 (by decide)) (fun h => ?_) (fun h => ?_)
  · refine lv_iconst (v := 0) hx hb dX10_isDigit_16 (by decide) ?_
    exact r_iret C hW (rt_T h) rfl dX10_isDigit_17
  · refine lv_iload_n hx hb dX10_isDigit_6 rfl (lv_at hl 0 rfl) ?_
    refine lv_bipush (v := 57) hx hb dX10_isDigit_7 (by decide) ?_
    refine r_br h (lv_icmp_gt (tgt := 16) hx hb dX10_isDigit_9 (by decide)) (fun h => ?_) (fun h => ?_)
    · refine lv_iconst (v := 0) hx hb dX10_isDigit_16 (by decide) ?_
      exact r_iret C hW (rt_T h) rfl dX10_isDigit_17
    · refine lv_iconst (v := 1) hx hb dX10_isDigit_12 (by decide) ?_
      refine lv_goto (tgt := 17) hx hb dX10_isDigit_13 (by decide) ?_
      exact r_iret C hW (rt_T h) rfl dX10_isDigit_17
set_option maxRecDepth 20000 in
set_option maxHeartbeats 2000000 in
theorem b_X10_goes_295 {a : Nat} (C : Cx g RX10 cX10_goes 2 none p s m args meth c) {r : Mx} {X : Mx} (hW : Wd g σ X s H locs) (hl : lv_has ls 2 [(0, .ref a)]) (h : f_X10_goes_295 σ a X = some r) : W p l e (rmZ 1 21) s m args below meth c H locs 0 0 (QV g σ below args s r) (F0 m 295 ls []) := by
  have hx := C.x
  have hb := C.b
  unfold f_X10_goes_295 at h
  refine lv_aload_n hx hb dX10_goes_295 rfl (lv_at hl 0 rfl) ?_
  refine lv_aload_n hx hb dX10_goes_296 rfl (lv_at hl 0 rfl) ?_
  refine r_gI C hW h fl_X10_78 (by decide) dX10_goes_297 (fun v1 h => ?_)
  refine lv_aload_n hx hb dX10_goes_300 rfl (lv_at hl 0 rfl) ?_
  refine r_gI C hW h fl_X10_85 (by decide) dX10_goes_301 (fun v2 h => ?_)
  refine lv_isub hx hb dX10_goes_304 ?_
  refine r_pI C hW h pf_X10_108 (by decide) rfl rfl dX10_goes_305 (fun X3 H locs h hW _ => ?_)
  exact r_vret C hW (Option.some.inj h).symm dX10_goes_308
set_option maxRecDepth 20000 in
set_option maxHeartbeats 2000000 in
theorem b_X10_goes_159 {k108 : Mx → Option Mx} {a : Nat} (C : Cx g RX10 cX10_goes 2 none p s m args meth c) {r : Mx} {X : Mx} (hk108 : ∀ {H' : Heap} {locs' : List Loc} {ls' : Array Slot} {X' : Mx}, Wd g σ X' s H' locs' → lv_has ls' 2 [(0, .ref a)] → k108 X' = some r → W p l e (rmZ 1 21) s m args below meth c H' locs' 0 0 (QV g σ below args s r) (F0 m 108 ls' [])) (hW : Wd g σ X s H locs) (hl : lv_has ls 2 [(0, .ref a)]) (h : f_X10_goes_159 k108 σ a X = some r) : W p l e (rmZ 1 21) s m args below meth c H locs 0 0 (QV g σ below args s r) (F0 m 159 ls []) := by
  have hx := C.x
  have hb := C.b
  unfold f_X10_goes_159 at h
  refine lv_aload_n hx hb dX10_goes_159 rfl (lv_at hl 0 rfl) ?_
  refine lv_dup hx hb dX10_goes_160 rfl ?_
  refine r_gI C hW h fl_X10_78 (by decide) dX10_goes_161 (fun v1 h => ?_)
  refine lv_iconst (v := 1) hx hb dX10_goes_164 (by decide) ?_
  refine lv_iadd hx hb dX10_goes_165 ?_
  refine r_pI C hW h pf_X10_78 (by decide) rfl rfl dX10_goes_166 (fun X2 H locs h hW _ => ?_)
  refine lv_goto (tgt := 108) hx hb dX10_goes_169 (by decide) ?_
  exact hk108 hW (lv_sub hl [0] rfl) h
set_option maxRecDepth 20000 in
set_option maxHeartbeats 2000000 in
theorem b_X10_goes_108 {a : Nat} (C : Cx g RX10 cX10_goes 2 none p s m args meth c) {r : Mx} : ∀ (n : Nat) {X : Mx} {H : Heap} {locs : List Loc} {ls : Array Slot} (hW : Wd g σ X s H locs) (hl : lv_has ls 2 [(0, .ref a)]) (h : f_X10_goes_108 σ a n X = some r), W p l e (rmZ 1 21) s m args below meth c H locs 0 0 (QV g σ below args s r) (F0 m 108 ls []) := by
  have hx := C.x
  have hb := C.b
  intro n
  induction n with
  | zero =>
    intro X H locs ls hW hl h
    cases (show none = some r from h)
  | succ n ih =>
    intro X H locs ls hW hl h
    rw [f_X10_goes_108] at h
    refine lv_aload_n hx hb dX10_goes_108 rfl (lv_at hl 0 rfl) ?_
    refine lv_aload_n hx hb dX10_goes_109 rfl (lv_at hl 0 rfl) ?_
    refine r_gI C hW h fl_X10_78 (by decide) dX10_goes_110 (fun v1 h => ?_)
    obtain ⟨v3, h2, h⟩ := bnd_inv h
    refine r_cI hW (run_V (rest := []) C hW (t_X10_byteAt h2) mk_X10_byteAt vk_X10_81 (kd_X10_byteAt h2) rfl rfl (by decide) ⟨Nat.le_of_ble_eq_true rfl, Nat.le_of_ble_eq_true rfl⟩ ⟨Nat.zero_le _, Nat.zero_le _⟩ rfl rfl (Nat.le_of_ble_eq_true rfl) hl.1 dX10_goes_113) (fun H locs hW _ => ?_)
    refine r_cI hW (run_S (rest := []) C hW (t_X10_isLetter (X := X)) mk_X10_isLetter sk_X10_101 ⟨Nat.le_of_ble_eq_true rfl, Nat.le_of_ble_eq_true rfl⟩ ⟨Nat.zero_le _, Nat.zero_le _⟩ rfl rfl (Nat.le_of_ble_eq_true rfl) hl.1 dX10_goes_116) (fun H locs hW _ => ?_)
    refine r_br h (lv_if_eq (tgt := 172) hx hb dX10_goes_119 (by decide)) (fun h => ?_) (fun h => ?_)
    · refine lv_aload_n hx hb dX10_goes_172 rfl (lv_at hl 0 rfl) ?_
      refine lv_iconst (v := 1) hx hb dX10_goes_173 (by decide) ?_
      refine r_pI C hW h pf_X10_98 (by decide) rfl rfl dX10_goes_174 (fun X4 H locs h hW _ => ?_)
      refine lv_goto (tgt := 295) hx hb dX10_goes_177 (by decide) ?_
      exact b_X10_goes_295 C hW (lv_sub hl [0] rfl) h
    · refine lv_aload_n hx hb dX10_goes_122 rfl (lv_at hl 0 rfl) ?_
      refine r_gI C hW h fl_X10_78 (by decide) dX10_goes_123 (fun v5 h => ?_)
      refine lv_aload_n hx hb dX10_goes_126 rfl (lv_at hl 0 rfl) ?_
      refine r_gI C hW h fl_X10_85 (by decide) dX10_goes_127 (fun v6 h => ?_)
      refine lv_isub hx hb dX10_goes_130 ?_
      refine lv_bipush (v := 6) hx hb dX10_goes_131 (by decide) ?_
      refine r_br h (lv_icmp_ge (tgt := 159) hx hb dX10_goes_133 (by decide)) (fun h => ?_) (fun h => ?_)
      · exact b_X10_goes_159 C (fun hW hl h => ih hW hl h) hW (lv_sub hl [0] rfl) h
      · refine lv_aload_n hx hb dX10_goes_136 rfl (lv_at hl 0 rfl) ?_
        refine lv_aload_n hx hb dX10_goes_137 rfl (lv_at hl 0 rfl) ?_
        refine r_gJ C hW h fl_X10_88 (by decide) dX10_goes_138 (fun v7 h => ?_)
        refine lv_iconst (v := 5) hx hb dX10_goes_141 (by decide) ?_
        refine lv_lshl (v := (v7 <<< (Int32.toInt64 5 &&& 63))) hx hb dX10_goes_142 rfl ?_
        refine lv_aload_n hx hb dX10_goes_143 rfl (lv_at hl 0 rfl) ?_
        refine lv_aload_n hx hb dX10_goes_144 rfl (lv_at hl 0 rfl) ?_
        refine r_gI C hW h fl_X10_78 (by decide) dX10_goes_145 (fun v8 h => ?_)
        obtain ⟨v10, h9, h⟩ := bnd_inv h
        refine r_cI hW (run_V (rest := [.long (v7 <<< (Int32.toInt64 5 &&& 63)), .ref a]) C hW (t_X10_byteAt h9) mk_X10_byteAt vk_X10_81 (kd_X10_byteAt h9) rfl rfl (by decide) ⟨Nat.le_of_ble_eq_true rfl, Nat.le_of_ble_eq_true rfl⟩ ⟨Nat.zero_le _, Nat.zero_le _⟩ rfl rfl (Nat.le_of_ble_eq_true rfl) hl.1 dX10_goes_148) (fun H locs hW _ => ?_)
        refine lv_bipush (v := 96) hx hb dX10_goes_151 (by decide) ?_
        refine lv_isub hx hb dX10_goes_153 ?_
        refine lv_i2l (v := (Int32.toInt64 (v10 - 96))) hx hb dX10_goes_154 rfl ?_
        refine lv_lor hx hb dX10_goes_155 ?_
        refine r_pJ C hW h pf_X10_88 (by decide) dX10_goes_156 (fun X11 H locs h hW _ => ?_)
        exact b_X10_goes_159 C (fun hW hl h => ih hW hl h) hW (lv_sub hl [0] rfl) h
set_option maxRecDepth 20000 in
set_option maxHeartbeats 2000000 in
theorem b_X10_goes_237 {k187 : Mx → Option Mx} {a : Nat} (C : Cx g RX10 cX10_goes 2 none p s m args meth c) {r : Mx} {X : Mx} (hk187 : ∀ {H' : Heap} {locs' : List Loc} {ls' : Array Slot} {X' : Mx}, Wd g σ X' s H' locs' → lv_has ls' 2 [(0, .ref a)] → k187 X' = some r → W p l e (rmZ 1 21) s m args below meth c H' locs' 0 0 (QV g σ below args s r) (F0 m 187 ls' [])) (hW : Wd g σ X s H locs) (hl : lv_has ls 2 [(0, .ref a)]) (h : f_X10_goes_237 k187 σ a X = some r) : W p l e (rmZ 1 21) s m args below meth c H locs 0 0 (QV g σ below args s r) (F0 m 237 ls []) := by
  have hx := C.x
  have hb := C.b
  unfold f_X10_goes_237 at h
  refine lv_aload_n hx hb dX10_goes_237 rfl (lv_at hl 0 rfl) ?_
  refine lv_dup hx hb dX10_goes_238 rfl ?_
  refine r_gI C hW h fl_X10_78 (by decide) dX10_goes_239 (fun v1 h => ?_)
  refine lv_iconst (v := 1) hx hb dX10_goes_242 (by decide) ?_
  refine lv_iadd hx hb dX10_goes_243 ?_
  refine r_pI C hW h pf_X10_78 (by decide) rfl rfl dX10_goes_244 (fun X2 H locs h hW _ => ?_)
  refine lv_goto (tgt := 187) hx hb dX10_goes_247 (by decide) ?_
  exact hk187 hW (lv_sub hl [0] rfl) h
set_option maxRecDepth 20000 in
set_option maxHeartbeats 2000000 in
theorem b_X10_goes_187 {a : Nat} (C : Cx g RX10 cX10_goes 2 none p s m args meth c) {r : Mx} : ∀ (n : Nat) {X : Mx} {H : Heap} {locs : List Loc} {ls : Array Slot} (hW : Wd g σ X s H locs) (hl : lv_has ls 2 [(0, .ref a)]) (h : f_X10_goes_187 σ a n X = some r), W p l e (rmZ 1 21) s m args below meth c H locs 0 0 (QV g σ below args s r) (F0 m 187 ls []) := by
  have hx := C.x
  have hb := C.b
  intro n
  induction n with
  | zero =>
    intro X H locs ls hW hl h
    cases (show none = some r from h)
  | succ n ih =>
    intro X H locs ls hW hl h
    rw [f_X10_goes_187] at h
    refine lv_aload_n hx hb dX10_goes_187 rfl (lv_at hl 0 rfl) ?_
    refine lv_aload_n hx hb dX10_goes_188 rfl (lv_at hl 0 rfl) ?_
    refine r_gI C hW h fl_X10_78 (by decide) dX10_goes_189 (fun v1 h => ?_)
    obtain ⟨v3, h2, h⟩ := bnd_inv h
    refine r_cI hW (run_V (rest := []) C hW (t_X10_byteAt h2) mk_X10_byteAt vk_X10_81 (kd_X10_byteAt h2) rfl rfl (by decide) ⟨Nat.le_of_ble_eq_true rfl, Nat.le_of_ble_eq_true rfl⟩ ⟨Nat.zero_le _, Nat.zero_le _⟩ rfl rfl (Nat.le_of_ble_eq_true rfl) hl.1 dX10_goes_192) (fun H locs hW _ => ?_)
    refine r_cI hW (run_S (rest := []) C hW (t_X10_isDigit (X := X)) mk_X10_isDigit sk_X10_105 ⟨Nat.le_of_ble_eq_true rfl, Nat.le_of_ble_eq_true rfl⟩ ⟨Nat.zero_le _, Nat.zero_le _⟩ rfl rfl (Nat.le_of_ble_eq_true rfl) hl.1 dX10_goes_195) (fun H locs hW _ => ?_)
    refine r_br h (lv_if_eq (tgt := 250) hx hb dX10_goes_198 (by decide)) (fun h => ?_) (fun h => ?_)
    · refine lv_aload_n hx hb dX10_goes_250 rfl (lv_at hl 0 rfl) ?_
      refine lv_iconst (v := 2) hx hb dX10_goes_251 (by decide) ?_
      refine r_pI C hW h pf_X10_98 (by decide) rfl rfl dX10_goes_252 (fun X4 H locs h hW _ => ?_)
      refine lv_goto (tgt := 295) hx hb dX10_goes_255 (by decide) ?_
      exact b_X10_goes_295 C hW (lv_sub hl [0] rfl) h
    · refine lv_aload_n hx hb dX10_goes_201 rfl (lv_at hl 0 rfl) ?_
      refine r_gI C hW h fl_X10_78 (by decide) dX10_goes_202 (fun v5 h => ?_)
      refine lv_aload_n hx hb dX10_goes_205 rfl (lv_at hl 0 rfl) ?_
      refine r_gI C hW h fl_X10_85 (by decide) dX10_goes_206 (fun v6 h => ?_)
      refine lv_isub hx hb dX10_goes_209 ?_
      refine lv_iconst (v := 4) hx hb dX10_goes_210 (by decide) ?_
      refine r_br h (lv_icmp_ge (tgt := 237) hx hb dX10_goes_211 (by decide)) (fun h => ?_) (fun h => ?_)
      · exact b_X10_goes_237 C (fun hW hl h => ih hW hl h) hW (lv_sub hl [0] rfl) h
      · refine lv_aload_n hx hb dX10_goes_214 rfl (lv_at hl 0 rfl) ?_
        refine lv_bipush (v := 10) hx hb dX10_goes_215 (by decide) ?_
        refine lv_aload_n hx hb dX10_goes_217 rfl (lv_at hl 0 rfl) ?_
        refine r_gI C hW h fl_X10_92 (by decide) dX10_goes_218 (fun v7 h => ?_)
        refine lv_imul hx hb dX10_goes_221 ?_
        refine lv_aload_n hx hb dX10_goes_222 rfl (lv_at hl 0 rfl) ?_
        refine lv_aload_n hx hb dX10_goes_223 rfl (lv_at hl 0 rfl) ?_
        refine r_gI C hW h fl_X10_78 (by decide) dX10_goes_224 (fun v8 h => ?_)
        obtain ⟨v10, h9, h⟩ := bnd_inv h
        refine r_cI hW (run_V (rest := [.int (10 * v7), .ref a]) C hW (t_X10_byteAt h9) mk_X10_byteAt vk_X10_81 (kd_X10_byteAt h9) rfl rfl (by decide) ⟨Nat.le_of_ble_eq_true rfl, Nat.le_of_ble_eq_true rfl⟩ ⟨Nat.zero_le _, Nat.zero_le _⟩ rfl rfl (Nat.le_of_ble_eq_true rfl) hl.1 dX10_goes_227) (fun H locs hW _ => ?_)
        refine lv_iadd hx hb dX10_goes_230 ?_
        refine lv_bipush (v := 48) hx hb dX10_goes_231 (by decide) ?_
        refine lv_isub hx hb dX10_goes_233 ?_
        refine r_pI C hW h pf_X10_92 (by decide) rfl rfl dX10_goes_234 (fun X11 H locs h hW _ => ?_)
        exact b_X10_goes_237 C (fun hW hl h => ih hW hl h) hW (lv_sub hl [0] rfl) h
set_option maxRecDepth 20000 in
set_option maxHeartbeats 2000000 in
theorem b_X10_goes_292 {a : Nat} (C : Cx g RX10 cX10_goes 2 none p s m args meth c) {r : Mx} {X : Mx} {y0 : Nat} {y1 : Int32} (hW : Wd g σ X s H locs) (hl : lv_has ls 2 [(0, .ref a)]) (h : f_X10_goes_292 σ a X y0 y1 = some r) : W p l e (rmZ 1 21) s m args below meth c H locs 0 0 (QV g σ below args s r) (F0 m 292 ls [.int y1, .ref y0]) := by
  have hx := C.x
  have hb := C.b
  unfold f_X10_goes_292 at h
  refine r_pI C hW h pf_X10_98 (by decide) rfl rfl dX10_goes_292 (fun X1 H locs h hW _ => ?_)
  exact b_X10_goes_295 C hW (lv_sub hl [0] rfl) h
set_option maxRecDepth 20000 in
set_option maxHeartbeats 2000000 in
theorem b_X10_goes_287 {a : Nat} (C : Cx g RX10 cX10_goes 2 none p s m args meth c) {r : Mx} {X : Mx} {y0 : Nat} (hW : Wd g σ X s H locs) (hl : lv_has ls 2 [(0, .ref a)]) (h : f_X10_goes_287 σ a X y0 = some r) : W p l e (rmZ 1 21) s m args below meth c H locs 0 0 (QV g σ below args s r) (F0 m 287 ls [.ref y0]) := by
  have hx := C.x
  have hb := C.b
  unfold f_X10_goes_287 at h
  refine lv_iconst (v := 3) hx hb dX10_goes_287 (by decide) ?_
  refine lv_goto (tgt := 292) hx hb dX10_goes_288 (by decide) ?_
  exact b_X10_goes_292 C hW (lv_sub hl [0] rfl) h
set_option maxRecDepth 20000 in
set_option maxHeartbeats 2000000 in
theorem b_X10_goes_50 {a : Nat} (C : Cx g RX10 cX10_goes 2 none p s m args meth c) {r : Mx} {X : Mx} (hW : Wd g σ X s H locs) (hl : lv_has ls 2 [(0, .ref a)]) (h : f_X10_goes_50 σ a X = some r) : W p l e (rmZ 1 21) s m args below meth c H locs 0 0 (QV g σ below args s r) (F0 m 50 ls []) := by
  have hx := C.x
  have hb := C.b
  unfold f_X10_goes_50 at h
  refine lv_aload_n hx hb dX10_goes_50 rfl (lv_at hl 0 rfl) ?_
  refine lv_aload_n hx hb dX10_goes_51 rfl (lv_at hl 0 rfl) ?_
  refine r_gI C hW h fl_X10_78 (by decide) dX10_goes_52 (fun v1 h => ?_)
  refine r_pI C hW h pf_X10_85 (by decide) rfl rfl dX10_goes_55 (fun X2 H locs h hW _ => ?_)
  refine lv_aload_n hx hb dX10_goes_58 rfl (lv_at hl 0 rfl) ?_
  refine lv_lconst (v := 0) hx hb dX10_goes_59 (by decide) ?_
  refine r_pJ C hW h pf_X10_88 (by decide) dX10_goes_60 (fun X3 H locs h hW _ => ?_)
  refine lv_aload_n hx hb dX10_goes_63 rfl (lv_at hl 0 rfl) ?_
  refine lv_iconst (v := 0) hx hb dX10_goes_64 (by decide) ?_
  refine r_pI C hW h pf_X10_92 (by decide) rfl rfl dX10_goes_65 (fun X4 H locs h hW _ => ?_)
  refine lv_aload_n hx hb dX10_goes_68 rfl (lv_at hl 0 rfl) ?_
  refine lv_aload_n hx hb dX10_goes_69 rfl (lv_at hl 0 rfl) ?_
  refine r_gI C hW h fl_X10_78 (by decide) dX10_goes_70 (fun v5 h => ?_)
  obtain ⟨v7, h6, h⟩ := bnd_inv h
  refine r_cI hW (run_V (rest := []) C hW (t_X10_byteAt h6) mk_X10_byteAt vk_X10_81 (kd_X10_byteAt h6) rfl rfl (by decide) ⟨Nat.le_of_ble_eq_true rfl, Nat.le_of_ble_eq_true rfl⟩ ⟨Nat.zero_le _, Nat.zero_le _⟩ rfl rfl (Nat.le_of_ble_eq_true rfl) hl.1 dX10_goes_73) (fun H locs hW _ => ?_)
  refine lv_istore_n (lv' := [(1, .int v7), (0, .ref a)]) hx hb dX10_goes_76 rfl hl (by decide) rfl (fun ls hl => ?_)
  refine lv_aload_n hx hb dX10_goes_77 rfl (lv_at hl 1 rfl) ?_
  refine lv_iload_n hx hb dX10_goes_78 rfl (lv_at hl 0 rfl) ?_
  refine r_pI C hW h pf_X10_95 (by decide) rfl rfl dX10_goes_79 (fun X8 H locs h hW _ => ?_)
  refine lv_aload_n hx hb dX10_goes_82 rfl (lv_at hl 1 rfl) ?_
  refine r_gI C hW h fl_X10_78 (by decide) dX10_goes_83 (fun v9 h => ?_)
  refine lv_aload_n hx hb dX10_goes_86 rfl (lv_at hl 1 rfl) ?_
  refine r_gI C hW h fl_X10_75 (by decide) dX10_goes_87 (fun v10 h => ?_)
  refine r_br h (lv_icmp_lt (tgt := 101) hx hb dX10_goes_90 (by decide)) (fun h => ?_) (fun h => ?_)
  · refine lv_iload_n hx hb dX10_goes_101 rfl (lv_at hl 0 rfl) ?_
    refine r_cI hW (run_S (rest := []) C hW (t_X10_isLetter (X := X8)) mk_X10_isLetter sk_X10_101 ⟨Nat.le_of_ble_eq_true rfl, Nat.le_of_ble_eq_true rfl⟩ ⟨Nat.zero_le _, Nat.zero_le _⟩ rfl rfl (Nat.le_of_ble_eq_true rfl) hl.1 dX10_goes_102) (fun H locs hW _ => ?_)
    refine r_br h (lv_if_eq (tgt := 180) hx hb dX10_goes_105 (by decide)) (fun h => ?_) (fun h => ?_)
    · refine lv_iload_n hx hb dX10_goes_180 rfl (lv_at hl 0 rfl) ?_
      refine r_cI hW (run_S (rest := []) C hW (t_X10_isDigit (X := X8)) mk_X10_isDigit sk_X10_105 ⟨Nat.le_of_ble_eq_true rfl, Nat.le_of_ble_eq_true rfl⟩ ⟨Nat.zero_le _, Nat.zero_le _⟩ rfl rfl (Nat.le_of_ble_eq_true rfl) hl.1 dX10_goes_181) (fun H locs hW _ => ?_)
      refine r_br h (lv_if_eq (tgt := 258) hx hb dX10_goes_184 (by decide)) (fun h => ?_) (fun h => ?_)
      · refine lv_aload_n hx hb dX10_goes_258 rfl (lv_at hl 1 rfl) ?_
        refine lv_dup hx hb dX10_goes_259 rfl ?_
        refine r_gI C hW h fl_X10_78 (by decide) dX10_goes_260 (fun v11 h => ?_)
        refine lv_iconst (v := 1) hx hb dX10_goes_263 (by decide) ?_
        refine lv_iadd hx hb dX10_goes_264 ?_
        refine r_pI C hW h pf_X10_78 (by decide) rfl rfl dX10_goes_265 (fun X12 H locs h hW _ => ?_)
        refine lv_aload_n hx hb dX10_goes_268 rfl (lv_at hl 1 rfl) ?_
        refine lv_iload_n hx hb dX10_goes_269 rfl (lv_at hl 0 rfl) ?_
        refine lv_bipush (v := 59) hx hb dX10_goes_270 (by decide) ?_
        refine r_br h (lv_icmp_eq (tgt := 287) hx hb dX10_goes_272 (by decide)) (fun h => ?_) (fun h => ?_)
        · exact b_X10_goes_287 C hW (lv_sub hl [1] rfl) h
        · refine lv_iload_n hx hb dX10_goes_275 rfl (lv_at hl 0 rfl) ?_
          refine lv_bipush (v := 45) hx hb dX10_goes_276 (by decide) ?_
          refine r_br h (lv_icmp_eq (tgt := 287) hx hb dX10_goes_278 (by decide)) (fun h => ?_) (fun h => ?_)
          · exact b_X10_goes_287 C hW (lv_sub hl [1] rfl) h
          · refine lv_iload_n hx hb dX10_goes_281 rfl (lv_at hl 0 rfl) ?_
            refine lv_bipush (v := 95) hx hb dX10_goes_282 (by decide) ?_
            refine r_brn h (lv_icmp_ne (tgt := 291) hx hb dX10_goes_284 (by decide)) (fun h => ?_) (fun h => ?_)
            · refine lv_iconst (v := 4) hx hb dX10_goes_291 (by decide) ?_
              exact b_X10_goes_292 C hW (lv_sub hl [1] rfl) h
            · exact b_X10_goes_287 C hW (lv_sub hl [1] rfl) h
      · exact b_X10_goes_187 C FU hW (lv_sub hl [1] rfl) h
    · exact b_X10_goes_108 C FU hW (lv_sub hl [1] rfl) h
  · refine lv_aload_n hx hb dX10_goes_93 rfl (lv_at hl 1 rfl) ?_
    refine lv_iconst (v := 0) hx hb dX10_goes_94 (by decide) ?_
    refine r_pI C hW h pf_X10_98 (by decide) rfl rfl dX10_goes_95 (fun X13 H locs h hW _ => ?_)
    refine lv_goto (tgt := 295) hx hb dX10_goes_98 (by decide) ?_
    exact b_X10_goes_295 C hW (lv_sub hl [1] rfl) h
set_option maxRecDepth 20000 in
set_option maxHeartbeats 2000000 in
theorem b_X10_goes_37 {k0 : Mx → Option Mx} {a : Nat} (C : Cx g RX10 cX10_goes 2 none p s m args meth c) {r : Mx} {X : Mx} (hk0 : ∀ {H' : Heap} {locs' : List Loc} {ls' : Array Slot} {X' : Mx}, Wd g σ X' s H' locs' → lv_has ls' 2 [(0, .ref a)] → k0 X' = some r → W p l e (rmZ 1 21) s m args below meth c H' locs' 0 0 (QV g σ below args s r) (F0 m 0 ls' [])) (hW : Wd g σ X s H locs) (hl : lv_has ls 2 [(0, .ref a)]) (h : f_X10_goes_37 k0 σ a X = some r) : W p l e (rmZ 1 21) s m args below meth c H locs 0 0 (QV g σ below args s r) (F0 m 37 ls []) := by
  have hx := C.x
  have hb := C.b
  unfold f_X10_goes_37 at h
  refine lv_aload_n hx hb dX10_goes_37 rfl (lv_at hl 0 rfl) ?_
  refine lv_dup hx hb dX10_goes_38 rfl ?_
  refine r_gI C hW h fl_X10_78 (by decide) dX10_goes_39 (fun v1 h => ?_)
  refine lv_iconst (v := 1) hx hb dX10_goes_42 (by decide) ?_
  refine lv_iadd hx hb dX10_goes_43 ?_
  refine r_pI C hW h pf_X10_78 (by decide) rfl rfl dX10_goes_44 (fun X2 H locs h hW _ => ?_)
  refine lv_goto (tgt := 0) hx hb dX10_goes_47 (by decide) ?_
  exact hk0 hW (lv_sub hl [0] rfl) h
set_option maxRecDepth 20000 in
set_option maxHeartbeats 2000000 in
theorem b_X10_goes_0 {a : Nat} (C : Cx g RX10 cX10_goes 2 none p s m args meth c) {r : Mx} : ∀ (n : Nat) {X : Mx} {H : Heap} {locs : List Loc} {ls : Array Slot} (hW : Wd g σ X s H locs) (hl : lv_has ls 2 [(0, .ref a)]) (h : f_X10_goes_0 σ a n X = some r), W p l e (rmZ 1 21) s m args below meth c H locs 0 0 (QV g σ below args s r) (F0 m 0 ls []) := by
  have hx := C.x
  have hb := C.b
  intro n
  induction n with
  | zero =>
    intro X H locs ls hW hl h
    cases (show none = some r from h)
  | succ n ih =>
    intro X H locs ls hW hl h
    rw [f_X10_goes_0] at h
    refine lv_aload_n hx hb dX10_goes_0 rfl (lv_at hl 0 rfl) ?_
    refine r_gI C hW h fl_X10_78 (by decide) dX10_goes_1 (fun v1 h => ?_)
    refine lv_aload_n hx hb dX10_goes_4 rfl (lv_at hl 0 rfl) ?_
    refine r_gI C hW h fl_X10_75 (by decide) dX10_goes_5 (fun v2 h => ?_)
    refine r_br h (lv_icmp_ge (tgt := 50) hx hb dX10_goes_8 (by decide)) (fun h => ?_) (fun h => ?_)
    · exact b_X10_goes_50 C hW (lv_sub hl [0] rfl) h
    · refine lv_aload_n hx hb dX10_goes_11 rfl (lv_at hl 0 rfl) ?_
      refine lv_aload_n hx hb dX10_goes_12 rfl (lv_at hl 0 rfl) ?_
      refine r_gI C hW h fl_X10_78 (by decide) dX10_goes_13 (fun v3 h => ?_)
      obtain ⟨v5, h4, h⟩ := bnd_inv h
      refine r_cI hW (run_V (rest := []) C hW (t_X10_byteAt h4) mk_X10_byteAt vk_X10_81 (kd_X10_byteAt h4) rfl rfl (by decide) ⟨Nat.le_of_ble_eq_true rfl, Nat.le_of_ble_eq_true rfl⟩ ⟨Nat.zero_le _, Nat.zero_le _⟩ rfl rfl (Nat.le_of_ble_eq_true rfl) hl.1 dX10_goes_16) (fun H locs hW _ => ?_)
      refine lv_bipush (v := 32) hx hb dX10_goes_19 (by decide) ?_
      refine r_br h (lv_icmp_eq (tgt := 37) hx hb dX10_goes_21 (by decide)) (fun h => ?_) (fun h => ?_)
      · exact b_X10_goes_37 C (fun hW hl h => ih hW hl h) hW (lv_sub hl [0] rfl) h
      · refine lv_aload_n hx hb dX10_goes_24 rfl (lv_at hl 0 rfl) ?_
        refine lv_aload_n hx hb dX10_goes_25 rfl (lv_at hl 0 rfl) ?_
        refine r_gI C hW h fl_X10_78 (by decide) dX10_goes_26 (fun v6 h => ?_)
        obtain ⟨v8, h7, h⟩ := bnd_inv h
        refine r_cI hW (run_V (rest := []) C hW (t_X10_byteAt h7) mk_X10_byteAt vk_X10_81 (kd_X10_byteAt h7) rfl rfl (by decide) ⟨Nat.le_of_ble_eq_true rfl, Nat.le_of_ble_eq_true rfl⟩ ⟨Nat.zero_le _, Nat.zero_le _⟩ rfl rfl (Nat.le_of_ble_eq_true rfl) hl.1 dX10_goes_29) (fun H locs hW _ => ?_)
        refine lv_bipush (v := 10) hx hb dX10_goes_32 (by decide) ?_
        refine r_brn h (lv_icmp_ne (tgt := 50) hx hb dX10_goes_34 (by decide)) (fun h => ?_) (fun h => ?_)
        · exact b_X10_goes_50 C hW (lv_sub hl [0] rfl) h
        · exact b_X10_goes_37 C (fun hW hl h => ih hW hl h) hW (lv_sub hl [0] rfl) h
theorem kd_X10_goes {X : Mx} {r : Mx} {a : Nat} (h : f_X10_goes σ X a = some r) : shK σ a = 8 := (grd_inv h).1
set_option maxRecDepth 20000 in
set_option maxHeartbeats 2000000 in
theorem t_X10_goes {X : Mx} {r : Mx} {a : Nat} (h : f_X10_goes σ X a = some r) : MtV g l yX10_goes cX10_goes 2 none 1 21 [.ref a] σ X r := by
  refine met_of mk_X10_goes (Nat.le_of_ble_eq_true rfl) (fun p e s m args below meth c ls C hW hl => ?_)
  have hx := C.x
  have hb := C.b
  have hl : lv_has ls 2 [(0, .ref a)] := hl
  unfold f_X10_goes at h
  obtain ⟨hk0, h⟩ := grd_inv h
  exact b_X10_goes_0 C FU hW (lv_sub hl [0] rfl) h
set_option maxRecDepth 20000 in
set_option maxHeartbeats 2000000 in
theorem b_X10_spelled_66 {x5 : Int32} {x6 : Int64} (C : Cx g RX10 cX10_spelled 8 (some .long) p s m args meth c) {r : Int64} {X : Mx} (hW : Wd g σ X s H locs) (hl : lv_has ls 8 [(5, .int x5), (6, .long x6)]) (h : f_X10_spelled_66 x5 x6 = r) : W p l e (rmZ 0 0) s m args below meth c H locs 0 0 (QL g σ below args s (r, X)) (F0 m 66 ls []) := by
  have hx := C.x
  have hb := C.b
  unfold f_X10_spelled_66 at h
  refine lv_iload hx hb dX10_spelled_66 (lv_at hl 0 rfl) ?_
  refine r_br h (lv_if_eq (tgt := 84) hx hb dX10_spelled_68 (by decide)) (fun h => ?_) (fun h => ?_)
  · refine lv_lload hx hb dX10_spelled_84 (lv_at hl 1 rfl) ?_
    exact r_lret C hW (rt_T h) dX10_spelled_86
  · refine lv_lload hx hb dX10_spelled_71 (lv_at hl 1 rfl) ?_
    refine lv_iconst (v := 5) hx hb dX10_spelled_73 (by decide) ?_
    refine lv_lshl (v := (x6 <<< (Int32.toInt64 5 &&& 63))) hx hb dX10_spelled_74 rfl ?_
    refine lv_iload hx hb dX10_spelled_75 (lv_at hl 0 rfl) ?_
    refine lv_bipush (v := 96) hx hb dX10_spelled_77 (by decide) ?_
    refine lv_isub hx hb dX10_spelled_79 ?_
    refine lv_i2l (v := (Int32.toInt64 (x5 - 96))) hx hb dX10_spelled_80 rfl ?_
    refine lv_lor hx hb dX10_spelled_81 ?_
    refine lv_lstore (lv' := [(6, .long ((x6 <<< (Int32.toInt64 5 &&& 63)) ||| (Int32.toInt64 (x5 - 96)))), (5, .int x5)]) hx hb dX10_spelled_82 hl (by decide) rfl (fun ls hl => ?_)
    refine lv_lload hx hb dX10_spelled_84 (lv_at hl 0 rfl) ?_
    exact r_lret C hW (rt_T h) dX10_spelled_86
set_option maxRecDepth 20000 in
set_option maxHeartbeats 2000000 in
theorem b_X10_spelled_48 {x4 : Int32} {x5 : Int32} {x6 : Int64} (C : Cx g RX10 cX10_spelled 8 (some .long) p s m args meth c) {r : Int64} {X : Mx} (hW : Wd g σ X s H locs) (hl : lv_has ls 8 [(4, .int x4), (5, .int x5), (6, .long x6)]) (h : f_X10_spelled_48 x4 x5 x6 = r) : W p l e (rmZ 0 0) s m args below meth c H locs 0 0 (QL g σ below args s (r, X)) (F0 m 48 ls []) := by
  have hx := C.x
  have hb := C.b
  unfold f_X10_spelled_48 at h
  refine lv_iload hx hb dX10_spelled_48 (lv_at hl 0 rfl) ?_
  refine r_br h (lv_if_eq (tgt := 66) hx hb dX10_spelled_50 (by decide)) (fun h => ?_) (fun h => ?_)
  · exact b_X10_spelled_66 C hW (lv_sub hl [1, 2] rfl) h
  · refine lv_lload hx hb dX10_spelled_53 (lv_at hl 2 rfl) ?_
    refine lv_iconst (v := 5) hx hb dX10_spelled_55 (by decide) ?_
    refine lv_lshl (v := (x6 <<< (Int32.toInt64 5 &&& 63))) hx hb dX10_spelled_56 rfl ?_
    refine lv_iload hx hb dX10_spelled_57 (lv_at hl 0 rfl) ?_
    refine lv_bipush (v := 96) hx hb dX10_spelled_59 (by decide) ?_
    refine lv_isub hx hb dX10_spelled_61 ?_
    refine lv_i2l (v := (Int32.toInt64 (x4 - 96))) hx hb dX10_spelled_62 rfl ?_
    refine lv_lor hx hb dX10_spelled_63 ?_
    refine lv_lstore (lv' := [(6, .long ((x6 <<< (Int32.toInt64 5 &&& 63)) ||| (Int32.toInt64 (x4 - 96)))), (4, .int x4), (5, .int x5)]) hx hb dX10_spelled_64 hl (by decide) rfl (fun ls hl => ?_)
    exact b_X10_spelled_66 C hW (lv_sub hl [2, 0] rfl) h
set_option maxRecDepth 20000 in
set_option maxHeartbeats 2000000 in
theorem b_X10_spelled_32 {x3 : Int32} {x4 : Int32} {x5 : Int32} {x6 : Int64} (C : Cx g RX10 cX10_spelled 8 (some .long) p s m args meth c) {r : Int64} {X : Mx} (hW : Wd g σ X s H locs) (hl : lv_has ls 8 [(3, .int x3), (4, .int x4), (5, .int x5), (6, .long x6)]) (h : f_X10_spelled_32 x3 x4 x5 x6 = r) : W p l e (rmZ 0 0) s m args below meth c H locs 0 0 (QL g σ below args s (r, X)) (F0 m 32 ls []) := by
  have hx := C.x
  have hb := C.b
  unfold f_X10_spelled_32 at h
  refine lv_iload_n hx hb dX10_spelled_32 rfl (lv_at hl 0 rfl) ?_
  refine r_br h (lv_if_eq (tgt := 48) hx hb dX10_spelled_33 (by decide)) (fun h => ?_) (fun h => ?_)
  · exact b_X10_spelled_48 C hW (lv_sub hl [1, 2, 3] rfl) h
  · refine lv_lload hx hb dX10_spelled_36 (lv_at hl 3 rfl) ?_
    refine lv_iconst (v := 5) hx hb dX10_spelled_38 (by decide) ?_
    refine lv_lshl (v := (x6 <<< (Int32.toInt64 5 &&& 63))) hx hb dX10_spelled_39 rfl ?_
    refine lv_iload_n hx hb dX10_spelled_40 rfl (lv_at hl 0 rfl) ?_
    refine lv_bipush (v := 96) hx hb dX10_spelled_41 (by decide) ?_
    refine lv_isub hx hb dX10_spelled_43 ?_
    refine lv_i2l (v := (Int32.toInt64 (x3 - 96))) hx hb dX10_spelled_44 rfl ?_
    refine lv_lor hx hb dX10_spelled_45 ?_
    refine lv_lstore (lv' := [(6, .long ((x6 <<< (Int32.toInt64 5 &&& 63)) ||| (Int32.toInt64 (x3 - 96)))), (3, .int x3), (4, .int x4), (5, .int x5)]) hx hb dX10_spelled_46 hl (by decide) rfl (fun ls hl => ?_)
    exact b_X10_spelled_48 C hW (lv_sub hl [2, 3, 0] rfl) h
set_option maxRecDepth 20000 in
set_option maxHeartbeats 2000000 in
theorem t_X10_spelled {X : Mx} {x0 : Int32} {x1 : Int32} {x2 : Int32} {x3 : Int32} {x4 : Int32} {x5 : Int32} : MtL g l yX10_spelled cX10_spelled 8 (some .long) 0 0 [.int x0, .int x1, .int x2, .int x3, .int x4, .int x5] σ X (f_X10_spelled x0 x1 x2 x3 x4 x5, X) := by
  obtain ⟨r, h⟩ : ∃ r, f_X10_spelled x0 x1 x2 x3 x4 x5 = r := ⟨_, rfl⟩
  rw [h]
  refine met_of mk_X10_spelled (Nat.le_of_ble_eq_true rfl) (fun p e s m args below meth c ls C hW hl => ?_)
  have hx := C.x
  have hb := C.b
  have hl : lv_has ls 8 [(0, .int x0), (1, .int x1), (2, .int x2), (3, .int x3), (4, .int x4), (5, .int x5)] := hl
  unfold f_X10_spelled at h
  refine lv_iload_n hx hb dX10_spelled_0 rfl (lv_at hl 0 rfl) ?_
  refine lv_i2l (v := (Int32.toInt64 x0)) hx hb dX10_spelled_1 rfl ?_
  refine lv_ldc2 hx hb C.1.2.2.2.1 (C.1.2.2.2.2 _ ck_X10_111) dX10_spelled_2 ?_
  refine lv_lsub hx hb dX10_spelled_5 ?_
  refine lv_iconst (v := 5) hx hb dX10_spelled_6 (by decide) ?_
  refine lv_lshl (v := (((Int32.toInt64 x0) - 96) <<< (Int32.toInt64 5 &&& 63))) hx hb dX10_spelled_7 rfl ?_
  refine lv_iload_n hx hb dX10_spelled_8 rfl (lv_at hl 1 rfl) ?_
  refine lv_bipush (v := 96) hx hb dX10_spelled_9 (by decide) ?_
  refine lv_isub hx hb dX10_spelled_11 ?_
  refine lv_i2l (v := (Int32.toInt64 (x1 - 96))) hx hb dX10_spelled_12 rfl ?_
  refine lv_lor hx hb dX10_spelled_13 ?_
  refine lv_lstore (lv' := [(6, .long ((((Int32.toInt64 x0) - 96) <<< (Int32.toInt64 5 &&& 63)) ||| (Int32.toInt64 (x1 - 96)))), (0, .int x0), (1, .int x1), (2, .int x2), (3, .int x3), (4, .int x4), (5, .int x5)]) hx hb dX10_spelled_14 hl (by decide) rfl (fun ls hl => ?_)
  refine lv_iload_n hx hb dX10_spelled_16 rfl (lv_at hl 3 rfl) ?_
  refine r_br h (lv_if_eq (tgt := 32) hx hb dX10_spelled_17 (by decide)) (fun h => ?_) (fun h => ?_)
  · exact b_X10_spelled_32 C hW (lv_sub hl [4, 5, 6, 0] rfl) h
  · refine lv_lload hx hb dX10_spelled_20 (lv_at hl 0 rfl) ?_
    refine lv_iconst (v := 5) hx hb dX10_spelled_22 (by decide) ?_
    refine lv_lshl (v := (((((Int32.toInt64 x0) - 96) <<< (Int32.toInt64 5 &&& 63)) ||| (Int32.toInt64 (x1 - 96))) <<< (Int32.toInt64 5 &&& 63))) hx hb dX10_spelled_23 rfl ?_
    refine lv_iload_n hx hb dX10_spelled_24 rfl (lv_at hl 3 rfl) ?_
    refine lv_bipush (v := 96) hx hb dX10_spelled_25 (by decide) ?_
    refine lv_isub hx hb dX10_spelled_27 ?_
    refine lv_i2l (v := (Int32.toInt64 (x2 - 96))) hx hb dX10_spelled_28 rfl ?_
    refine lv_lor hx hb dX10_spelled_29 ?_
    refine lv_lstore (lv' := [(6, .long ((((((Int32.toInt64 x0) - 96) <<< (Int32.toInt64 5 &&& 63)) ||| (Int32.toInt64 (x1 - 96))) <<< (Int32.toInt64 5 &&& 63)) ||| (Int32.toInt64 (x2 - 96)))), (0, .int x0), (1, .int x1), (2, .int x2), (3, .int x3), (4, .int x4), (5, .int x5)]) hx hb dX10_spelled_30 hl (by decide) rfl (fun ls hl => ?_)
    exact b_X10_spelled_32 C hW (lv_sub hl [4, 5, 6, 0] rfl) h
set_option maxRecDepth 20000 in
set_option maxHeartbeats 2000000 in
theorem t_X10_letters {X : Mx} {x0 : Int32} : MtL g l yX10_letters cX10_letters 1 (some .long) 1 27 [.int x0] σ X (f_X10_letters x0, X) := by
  obtain ⟨r, h⟩ : ∃ r, f_X10_letters x0 = r := ⟨_, rfl⟩
  rw [h]
  refine met_of mk_X10_letters (Nat.le_of_ble_eq_true rfl) (fun p e s m args below meth c ls C hW hl => ?_)
  have hx := C.x
  have hb := C.b
  have hl : lv_has ls 1 [(0, .int x0)] := hl
  unfold f_X10_letters at h
  refine lv_iload_n hx hb dX10_letters_0 rfl (lv_at hl 0 rfl) ?_
  refine r_case h (fun ec h => ?_) (fun nc0 h => ?_)
  · refine lv_tableIn (tgt := 84) (off := 83) hx hb dX10_letters_1 (by rw [ec]; decide) (by rw [ec]; decide) (by rw [ec]; rfl) (by decide) ?_
    refine lv_bipush (v := 110) hx hb dX10_letters_84 (by decide) ?_
    refine lv_bipush (v := 117) hx hb dX10_letters_86 (by decide) ?_
    refine lv_bipush (v := 109) hx hb dX10_letters_88 (by decide) ?_
    refine lv_bipush (v := 98) hx hb dX10_letters_90 (by decide) ?_
    refine lv_bipush (v := 101) hx hb dX10_letters_92 (by decide) ?_
    refine lv_bipush (v := 114) hx hb dX10_letters_94 (by decide) ?_
    refine r_cL hW (run_S (rest := []) C hW (t_X10_spelled (X := X)) mk_X10_spelled sk_X10_113 ⟨Nat.le_of_ble_eq_true rfl, Nat.le_of_ble_eq_true rfl⟩ ⟨Nat.zero_le _, Nat.zero_le _⟩ rfl rfl (Nat.le_of_ble_eq_true rfl) hl.1 dX10_letters_96) (fun H locs hW _ => ?_)
    exact r_lret C hW (rt_T h) dX10_letters_99
  refine r_case h (fun ec h => ?_) (fun nc1 h => ?_)
  · refine lv_tableIn (tgt := 100) (off := 99) hx hb dX10_letters_1 (by rw [ec]; decide) (by rw [ec]; decide) (by rw [ec]; rfl) (by decide) ?_
    refine lv_bipush (v := 100) hx hb dX10_letters_100 (by decide) ?_
    refine lv_bipush (v := 105) hx hb dX10_letters_102 (by decide) ?_
    refine lv_bipush (v := 103) hx hb dX10_letters_104 (by decide) ?_
    refine lv_bipush (v := 105) hx hb dX10_letters_106 (by decide) ?_
    refine lv_bipush (v := 116) hx hb dX10_letters_108 (by decide) ?_
    refine lv_iconst (v := 0) hx hb dX10_letters_110 (by decide) ?_
    refine r_cL hW (run_S (rest := []) C hW (t_X10_spelled (X := X)) mk_X10_spelled sk_X10_113 ⟨Nat.le_of_ble_eq_true rfl, Nat.le_of_ble_eq_true rfl⟩ ⟨Nat.zero_le _, Nat.zero_le _⟩ rfl rfl (Nat.le_of_ble_eq_true rfl) hl.1 dX10_letters_111) (fun H locs hW _ => ?_)
    exact r_lret C hW (rt_T h) dX10_letters_114
  refine r_case h (fun ec h => ?_) (fun nc2 h => ?_)
  · refine lv_tableIn (tgt := 115) (off := 114) hx hb dX10_letters_1 (by rw [ec]; decide) (by rw [ec]; decide) (by rw [ec]; rfl) (by decide) ?_
    refine lv_bipush (v := 101) hx hb dX10_letters_115 (by decide) ?_
    refine lv_bipush (v := 118) hx hb dX10_letters_117 (by decide) ?_
    refine lv_bipush (v := 101) hx hb dX10_letters_119 (by decide) ?_
    refine lv_bipush (v := 110) hx hb dX10_letters_121 (by decide) ?_
    refine lv_iconst (v := 0) hx hb dX10_letters_123 (by decide) ?_
    refine lv_iconst (v := 0) hx hb dX10_letters_124 (by decide) ?_
    refine r_cL hW (run_S (rest := []) C hW (t_X10_spelled (X := X)) mk_X10_spelled sk_X10_113 ⟨Nat.le_of_ble_eq_true rfl, Nat.le_of_ble_eq_true rfl⟩ ⟨Nat.zero_le _, Nat.zero_le _⟩ rfl rfl (Nat.le_of_ble_eq_true rfl) hl.1 dX10_letters_125) (fun H locs hW _ => ?_)
    exact r_lret C hW (rt_T h) dX10_letters_128
  refine r_case h (fun ec h => ?_) (fun nc3 h => ?_)
  · refine lv_tableIn (tgt := 129) (off := 128) hx hb dX10_letters_1 (by rw [ec]; decide) (by rw [ec]; decide) (by rw [ec]; rfl) (by decide) ?_
    refine lv_bipush (v := 102) hx hb dX10_letters_129 (by decide) ?_
    refine lv_bipush (v := 108) hx hb dX10_letters_131 (by decide) ?_
    refine lv_bipush (v := 97) hx hb dX10_letters_133 (by decide) ?_
    refine lv_bipush (v := 103) hx hb dX10_letters_135 (by decide) ?_
    refine lv_iconst (v := 0) hx hb dX10_letters_137 (by decide) ?_
    refine lv_iconst (v := 0) hx hb dX10_letters_138 (by decide) ?_
    refine r_cL hW (run_S (rest := []) C hW (t_X10_spelled (X := X)) mk_X10_spelled sk_X10_113 ⟨Nat.le_of_ble_eq_true rfl, Nat.le_of_ble_eq_true rfl⟩ ⟨Nat.zero_le _, Nat.zero_le _⟩ rfl rfl (Nat.le_of_ble_eq_true rfl) hl.1 dX10_letters_139) (fun H locs hW _ => ?_)
    exact r_lret C hW (rt_T h) dX10_letters_142
  refine r_case h (fun ec h => ?_) (fun nc4 h => ?_)
  · refine lv_tableIn (tgt := 143) (off := 142) hx hb dX10_letters_1 (by rw [ec]; decide) (by rw [ec]; decide) (by rw [ec]; rfl) (by decide) ?_
    refine lv_bipush (v := 99) hx hb dX10_letters_143 (by decide) ?_
    refine lv_bipush (v := 111) hx hb dX10_letters_145 (by decide) ?_
    refine lv_bipush (v := 108) hx hb dX10_letters_147 (by decide) ?_
    refine lv_bipush (v := 117) hx hb dX10_letters_149 (by decide) ?_
    refine lv_bipush (v := 109) hx hb dX10_letters_151 (by decide) ?_
    refine lv_bipush (v := 110) hx hb dX10_letters_153 (by decide) ?_
    refine r_cL hW (run_S (rest := []) C hW (t_X10_spelled (X := X)) mk_X10_spelled sk_X10_113 ⟨Nat.le_of_ble_eq_true rfl, Nat.le_of_ble_eq_true rfl⟩ ⟨Nat.zero_le _, Nat.zero_le _⟩ rfl rfl (Nat.le_of_ble_eq_true rfl) hl.1 dX10_letters_155) (fun H locs hW _ => ?_)
    exact r_lret C hW (rt_T h) dX10_letters_158
  refine r_case h (fun ec h => ?_) (fun nc5 h => ?_)
  · refine lv_tableIn (tgt := 159) (off := 158) hx hb dX10_letters_1 (by rw [ec]; decide) (by rw [ec]; decide) (by rw [ec]; rfl) (by decide) ?_
    refine lv_bipush (v := 114) hx hb dX10_letters_159 (by decide) ?_
    refine lv_bipush (v := 111) hx hb dX10_letters_161 (by decide) ?_
    refine lv_bipush (v := 119) hx hb dX10_letters_163 (by decide) ?_
    refine lv_iconst (v := 0) hx hb dX10_letters_165 (by decide) ?_
    refine lv_iconst (v := 0) hx hb dX10_letters_166 (by decide) ?_
    refine lv_iconst (v := 0) hx hb dX10_letters_167 (by decide) ?_
    refine r_cL hW (run_S (rest := []) C hW (t_X10_spelled (X := X)) mk_X10_spelled sk_X10_113 ⟨Nat.le_of_ble_eq_true rfl, Nat.le_of_ble_eq_true rfl⟩ ⟨Nat.zero_le _, Nat.zero_le _⟩ rfl rfl (Nat.le_of_ble_eq_true rfl) hl.1 dX10_letters_168) (fun H locs hW _ => ?_)
    exact r_lret C hW (rt_T h) dX10_letters_171
  refine r_case h (fun ec h => ?_) (fun nc6 h => ?_)
  · refine lv_tableIn (tgt := 172) (off := 171) hx hb dX10_letters_1 (by rw [ec]; decide) (by rw [ec]; decide) (by rw [ec]; rfl) (by decide) ?_
    refine lv_bipush (v := 117) hx hb dX10_letters_172 (by decide) ?_
    refine lv_bipush (v := 110) hx hb dX10_letters_174 (by decide) ?_
    refine lv_bipush (v := 105) hx hb dX10_letters_176 (by decide) ?_
    refine lv_bipush (v := 113) hx hb dX10_letters_178 (by decide) ?_
    refine lv_bipush (v := 117) hx hb dX10_letters_180 (by decide) ?_
    refine lv_bipush (v := 101) hx hb dX10_letters_182 (by decide) ?_
    refine r_cL hW (run_S (rest := []) C hW (t_X10_spelled (X := X)) mk_X10_spelled sk_X10_113 ⟨Nat.le_of_ble_eq_true rfl, Nat.le_of_ble_eq_true rfl⟩ ⟨Nat.zero_le _, Nat.zero_le _⟩ rfl rfl (Nat.le_of_ble_eq_true rfl) hl.1 dX10_letters_184) (fun H locs hW _ => ?_)
    exact r_lret C hW (rt_T h) dX10_letters_187
  refine r_case h (fun ec h => ?_) (fun nc7 h => ?_)
  · refine lv_tableIn (tgt := 188) (off := 187) hx hb dX10_letters_1 (by rw [ec]; decide) (by rw [ec]; decide) (by rw [ec]; rfl) (by decide) ?_
    refine lv_bipush (v := 110) hx hb dX10_letters_188 (by decide) ?_
    refine lv_bipush (v := 101) hx hb dX10_letters_190 (by decide) ?_
    refine lv_bipush (v := 101) hx hb dX10_letters_192 (by decide) ?_
    refine lv_bipush (v := 100) hx hb dX10_letters_194 (by decide) ?_
    refine lv_bipush (v := 101) hx hb dX10_letters_196 (by decide) ?_
    refine lv_bipush (v := 100) hx hb dX10_letters_198 (by decide) ?_
    refine r_cL hW (run_S (rest := []) C hW (t_X10_spelled (X := X)) mk_X10_spelled sk_X10_113 ⟨Nat.le_of_ble_eq_true rfl, Nat.le_of_ble_eq_true rfl⟩ ⟨Nat.zero_le _, Nat.zero_le _⟩ rfl rfl (Nat.le_of_ble_eq_true rfl) hl.1 dX10_letters_200) (fun H locs hW _ => ?_)
    exact r_lret C hW (rt_T h) dX10_letters_203
  refine r_case h (fun ec h => ?_) (fun nc8 h => ?_)
  · refine lv_tableIn (tgt := 204) (off := 203) hx hb dX10_letters_1 (by rw [ec]; decide) (by rw [ec]; decide) (by rw [ec]; rfl) (by decide) ?_
    refine lv_bipush (v := 98) hx hb dX10_letters_204 (by decide) ?_
    refine lv_bipush (v := 101) hx hb dX10_letters_206 (by decide) ?_
    refine lv_bipush (v := 108) hx hb dX10_letters_208 (by decide) ?_
    refine lv_bipush (v := 111) hx hb dX10_letters_210 (by decide) ?_
    refine lv_bipush (v := 119) hx hb dX10_letters_212 (by decide) ?_
    refine lv_iconst (v := 0) hx hb dX10_letters_214 (by decide) ?_
    refine r_cL hW (run_S (rest := []) C hW (t_X10_spelled (X := X)) mk_X10_spelled sk_X10_113 ⟨Nat.le_of_ble_eq_true rfl, Nat.le_of_ble_eq_true rfl⟩ ⟨Nat.zero_le _, Nat.zero_le _⟩ rfl rfl (Nat.le_of_ble_eq_true rfl) hl.1 dX10_letters_215) (fun H locs hW _ => ?_)
    exact r_lret C hW (rt_T h) dX10_letters_218
  refine r_case h (fun ec h => ?_) (fun nc9 h => ?_)
  · refine lv_tableIn (tgt := 219) (off := 218) hx hb dX10_letters_1 (by rw [ec]; decide) (by rw [ec]; decide) (by rw [ec]; rfl) (by decide) ?_
    refine lv_bipush (v := 108) hx hb dX10_letters_219 (by decide) ?_
    refine lv_bipush (v := 101) hx hb dX10_letters_221 (by decide) ?_
    refine lv_bipush (v := 102) hx hb dX10_letters_223 (by decide) ?_
    refine lv_bipush (v := 116) hx hb dX10_letters_225 (by decide) ?_
    refine lv_iconst (v := 0) hx hb dX10_letters_227 (by decide) ?_
    refine lv_iconst (v := 0) hx hb dX10_letters_228 (by decide) ?_
    refine r_cL hW (run_S (rest := []) C hW (t_X10_spelled (X := X)) mk_X10_spelled sk_X10_113 ⟨Nat.le_of_ble_eq_true rfl, Nat.le_of_ble_eq_true rfl⟩ ⟨Nat.zero_le _, Nat.zero_le _⟩ rfl rfl (Nat.le_of_ble_eq_true rfl) hl.1 dX10_letters_229) (fun H locs hW _ => ?_)
    exact r_lret C hW (rt_T h) dX10_letters_232
  refine r_case h (fun ec h => ?_) (fun nc10 h => ?_)
  · refine lv_tableIn (tgt := 233) (off := 232) hx hb dX10_letters_1 (by rw [ec]; decide) (by rw [ec]; decide) (by rw [ec]; rfl) (by decide) ?_
    refine lv_bipush (v := 114) hx hb dX10_letters_233 (by decide) ?_
    refine lv_bipush (v := 105) hx hb dX10_letters_235 (by decide) ?_
    refine lv_bipush (v := 103) hx hb dX10_letters_237 (by decide) ?_
    refine lv_bipush (v := 104) hx hb dX10_letters_239 (by decide) ?_
    refine lv_bipush (v := 116) hx hb dX10_letters_241 (by decide) ?_
    refine lv_iconst (v := 0) hx hb dX10_letters_243 (by decide) ?_
    refine r_cL hW (run_S (rest := []) C hW (t_X10_spelled (X := X)) mk_X10_spelled sk_X10_113 ⟨Nat.le_of_ble_eq_true rfl, Nat.le_of_ble_eq_true rfl⟩ ⟨Nat.zero_le _, Nat.zero_le _⟩ rfl rfl (Nat.le_of_ble_eq_true rfl) hl.1 dX10_letters_244) (fun H locs hW _ => ?_)
    exact r_lret C hW (rt_T h) dX10_letters_247
  refine r_case h (fun ec h => ?_) (fun nc11 h => ?_)
  · refine lv_tableIn (tgt := 248) (off := 247) hx hb dX10_letters_1 (by rw [ec]; decide) (by rw [ec]; decide) (by rw [ec]; rfl) (by decide) ?_
    refine lv_bipush (v := 115) hx hb dX10_letters_248 (by decide) ?_
    refine lv_bipush (v := 101) hx hb dX10_letters_250 (by decide) ?_
    refine lv_bipush (v := 116) hx hb dX10_letters_252 (by decide) ?_
    refine lv_iconst (v := 0) hx hb dX10_letters_254 (by decide) ?_
    refine lv_iconst (v := 0) hx hb dX10_letters_255 (by decide) ?_
    refine lv_iconst (v := 0) hx hb dX10_letters_256 (by decide) ?_
    refine r_cL hW (run_S (rest := []) C hW (t_X10_spelled (X := X)) mk_X10_spelled sk_X10_113 ⟨Nat.le_of_ble_eq_true rfl, Nat.le_of_ble_eq_true rfl⟩ ⟨Nat.zero_le _, Nat.zero_le _⟩ rfl rfl (Nat.le_of_ble_eq_true rfl) hl.1 dX10_letters_257) (fun H locs hW _ => ?_)
    exact r_lret C hW (rt_T h) dX10_letters_260
  refine r_case h (fun ec h => ?_) (fun nc12 h => ?_)
  · refine lv_tableIn (tgt := 261) (off := 260) hx hb dX10_letters_1 (by rw [ec]; decide) (by rw [ec]; decide) (by rw [ec]; rfl) (by decide) ?_
    refine lv_bipush (v := 105) hx hb dX10_letters_261 (by decide) ?_
    refine lv_bipush (v := 110) hx hb dX10_letters_263 (by decide) ?_
    refine lv_bipush (v := 115) hx hb dX10_letters_265 (by decide) ?_
    refine lv_bipush (v := 101) hx hb dX10_letters_267 (by decide) ?_
    refine lv_bipush (v := 114) hx hb dX10_letters_269 (by decide) ?_
    refine lv_bipush (v := 116) hx hb dX10_letters_271 (by decide) ?_
    refine r_cL hW (run_S (rest := []) C hW (t_X10_spelled (X := X)) mk_X10_spelled sk_X10_113 ⟨Nat.le_of_ble_eq_true rfl, Nat.le_of_ble_eq_true rfl⟩ ⟨Nat.zero_le _, Nat.zero_le _⟩ rfl rfl (Nat.le_of_ble_eq_true rfl) hl.1 dX10_letters_273) (fun H locs hW _ => ?_)
    exact r_lret C hW (rt_T h) dX10_letters_276
  refine r_case h (fun ec h => ?_) (fun nc13 h => ?_)
  · refine lv_tableIn (tgt := 277) (off := 276) hx hb dX10_letters_1 (by rw [ec]; decide) (by rw [ec]; decide) (by rw [ec]; rfl) (by decide) ?_
    refine lv_bipush (v := 100) hx hb dX10_letters_277 (by decide) ?_
    refine lv_bipush (v := 101) hx hb dX10_letters_279 (by decide) ?_
    refine lv_bipush (v := 108) hx hb dX10_letters_281 (by decide) ?_
    refine lv_bipush (v := 101) hx hb dX10_letters_283 (by decide) ?_
    refine lv_bipush (v := 116) hx hb dX10_letters_285 (by decide) ?_
    refine lv_bipush (v := 101) hx hb dX10_letters_287 (by decide) ?_
    refine r_cL hW (run_S (rest := []) C hW (t_X10_spelled (X := X)) mk_X10_spelled sk_X10_113 ⟨Nat.le_of_ble_eq_true rfl, Nat.le_of_ble_eq_true rfl⟩ ⟨Nat.zero_le _, Nat.zero_le _⟩ rfl rfl (Nat.le_of_ble_eq_true rfl) hl.1 dX10_letters_289) (fun H locs hW _ => ?_)
    exact r_lret C hW (rt_T h) dX10_letters_292
  refine r_case h (fun ec h => ?_) (fun nc14 h => ?_)
  · refine lv_tableIn (tgt := 293) (off := 292) hx hb dX10_letters_1 (by rw [ec]; decide) (by rw [ec]; decide) (by rw [ec]; rfl) (by decide) ?_
    refine lv_bipush (v := 114) hx hb dX10_letters_293 (by decide) ?_
    refine lv_bipush (v := 101) hx hb dX10_letters_295 (by decide) ?_
    refine lv_bipush (v := 110) hx hb dX10_letters_297 (by decide) ?_
    refine lv_bipush (v := 97) hx hb dX10_letters_299 (by decide) ?_
    refine lv_bipush (v := 109) hx hb dX10_letters_301 (by decide) ?_
    refine lv_bipush (v := 101) hx hb dX10_letters_303 (by decide) ?_
    refine r_cL hW (run_S (rest := []) C hW (t_X10_spelled (X := X)) mk_X10_spelled sk_X10_113 ⟨Nat.le_of_ble_eq_true rfl, Nat.le_of_ble_eq_true rfl⟩ ⟨Nat.zero_le _, Nat.zero_le _⟩ rfl rfl (Nat.le_of_ble_eq_true rfl) hl.1 dX10_letters_305) (fun H locs hW _ => ?_)
    exact r_lret C hW (rt_T h) dX10_letters_308
  refine r_case h (fun ec h => ?_) (fun nc15 h => ?_)
  · refine lv_tableIn (tgt := 309) (off := 308) hx hb dX10_letters_1 (by rw [ec]; decide) (by rw [ec]; decide) (by rw [ec]; rfl) (by decide) ?_
    refine lv_bipush (v := 114) hx hb dX10_letters_309 (by decide) ?_
    refine lv_bipush (v := 101) hx hb dX10_letters_311 (by decide) ?_
    refine lv_bipush (v := 116) hx hb dX10_letters_313 (by decide) ?_
    refine lv_bipush (v := 121) hx hb dX10_letters_315 (by decide) ?_
    refine lv_bipush (v := 112) hx hb dX10_letters_317 (by decide) ?_
    refine lv_bipush (v := 101) hx hb dX10_letters_319 (by decide) ?_
    refine r_cL hW (run_S (rest := []) C hW (t_X10_spelled (X := X)) mk_X10_spelled sk_X10_113 ⟨Nat.le_of_ble_eq_true rfl, Nat.le_of_ble_eq_true rfl⟩ ⟨Nat.zero_le _, Nat.zero_le _⟩ rfl rfl (Nat.le_of_ble_eq_true rfl) hl.1 dX10_letters_321) (fun H locs hW _ => ?_)
    exact r_lret C hW (rt_T h) dX10_letters_324
  refine r_case h (fun ec h => ?_) (fun nc16 h => ?_)
  · refine lv_tableIn (tgt := 325) (off := 324) hx hb dX10_letters_1 (by rw [ec]; decide) (by rw [ec]; decide) (by rw [ec]; rfl) (by decide) ?_
    refine lv_bipush (v := 97) hx hb dX10_letters_325 (by decide) ?_
    refine lv_bipush (v := 100) hx hb dX10_letters_327 (by decide) ?_
    refine lv_bipush (v := 100) hx hb dX10_letters_329 (by decide) ?_
    refine lv_iconst (v := 0) hx hb dX10_letters_331 (by decide) ?_
    refine lv_iconst (v := 0) hx hb dX10_letters_332 (by decide) ?_
    refine lv_iconst (v := 0) hx hb dX10_letters_333 (by decide) ?_
    refine r_cL hW (run_S (rest := []) C hW (t_X10_spelled (X := X)) mk_X10_spelled sk_X10_113 ⟨Nat.le_of_ble_eq_true rfl, Nat.le_of_ble_eq_true rfl⟩ ⟨Nat.zero_le _, Nat.zero_le _⟩ rfl rfl (Nat.le_of_ble_eq_true rfl) hl.1 dX10_letters_334) (fun H locs hW _ => ?_)
    exact r_lret C hW (rt_T h) dX10_letters_337
  refine lv_tableOut (tgt := 338) hx hb dX10_letters_1 (sw_out (lo := 0) (n := 16) (sw_s nc16 (sw_s nc15 (sw_s nc14 (sw_s nc13 (sw_s nc12 (sw_s nc11 (sw_s nc10 (sw_s nc9 (sw_s nc8 (sw_s nc7 (sw_s nc6 (sw_s nc5 (sw_s nc4 (sw_s nc3 (sw_s nc2 (sw_s nc1 (sw_0 nc0))))))))))))))))) (by decide)) (by decide) ?_
  refine lv_bipush (v := 100) hx hb dX10_letters_338 (by decide) ?_
  refine lv_bipush (v := 114) hx hb dX10_letters_340 (by decide) ?_
  refine lv_bipush (v := 111) hx hb dX10_letters_342 (by decide) ?_
  refine lv_bipush (v := 112) hx hb dX10_letters_344 (by decide) ?_
  refine lv_iconst (v := 0) hx hb dX10_letters_346 (by decide) ?_
  refine lv_iconst (v := 0) hx hb dX10_letters_347 (by decide) ?_
  refine r_cL hW (run_S (rest := []) C hW (t_X10_spelled (X := X)) mk_X10_spelled sk_X10_113 ⟨Nat.le_of_ble_eq_true rfl, Nat.le_of_ble_eq_true rfl⟩ ⟨Nat.zero_le _, Nat.zero_le _⟩ rfl rfl (Nat.le_of_ble_eq_true rfl) hl.1 dX10_letters_348) (fun H locs hW _ => ?_)
  exact r_lret C hW (rt_T h) dX10_letters_351
set_option maxRecDepth 20000 in
set_option maxHeartbeats 2000000 in
theorem b_X10_knownWord_29 {a : Nat} (C : Cx g RX10 cX10_knownWord 2 (some .int) p s m args meth c) {r : Int32} {X : Mx} : ∀ (n : Nat) {x1 : Int32} {H : Heap} {locs : List Loc} {ls : Array Slot} (hW : Wd g σ X s H locs) (hl : lv_has ls 2 [(0, .ref a), (1, .int x1)]) (h : f_X10_knownWord_29 σ X a n x1 = some r), W p l e (rmZ 2 47) s m args below meth c H locs 0 0 (QI g σ below args s (r, X)) (F0 m 29 ls []) := by
  have hx := C.x
  have hb := C.b
  intro n
  induction n with
  | zero =>
    intro x1 H locs ls hW hl h
    cases (show none = some r from h)
  | succ n ih =>
    intro x1 H locs ls hW hl h
    rw [f_X10_knownWord_29] at h
    refine lv_iload_n hx hb dX10_knownWord_29 rfl (lv_at hl 1 rfl) ?_
    refine lv_bipush (v := 18) hx hb dX10_knownWord_30 (by decide) ?_
    refine r_br h (lv_icmp_ge (tgt := 55) hx hb dX10_knownWord_32 (by decide)) (fun h => ?_) (fun h => ?_)
    · refine lv_iconst (v := (-1)) hx hb dX10_knownWord_55 (by decide) ?_
      exact r_iret C hW (rt_R h) rfl dX10_knownWord_56
    · refine lv_iload_n hx hb dX10_knownWord_35 rfl (lv_at hl 1 rfl) ?_
      refine r_cL hW (run_S (rest := []) C hW (t_X10_letters (X := X)) mk_X10_letters sk_X10_117 ⟨Nat.le_of_ble_eq_true rfl, Nat.le_of_ble_eq_true rfl⟩ ⟨Nat.zero_le _, Nat.zero_le _⟩ rfl rfl (Nat.le_of_ble_eq_true rfl) hl.1 dX10_knownWord_36) (fun H locs hW _ => ?_)
      refine lv_aload_n hx hb dX10_knownWord_39 rfl (lv_at hl 0 rfl) ?_
      refine r_gJ C hW h fl_X10_88 (by decide) dX10_knownWord_40 (fun v1 h => ?_)
      refine W.lcmp hx hb dX10_knownWord_43 ?_
      refine r_brn h (lv_if_ne (tgt := 49) hx hb dX10_knownWord_44 (by decide)) (fun h => ?_) (fun h => ?_)
      · refine lv_iinc (v := (x1 + 1)) (lv' := [(1, .int (x1 + 1)), (0, .ref a)]) hx hb dX10_knownWord_49 hl (k := 1) rfl rfl (by decide) rfl (fun ls hl => ?_)
        refine lv_goto (tgt := 29) hx hb dX10_knownWord_52 (by decide) ?_
        exact ih hW (lv_sub hl [1, 0] rfl) h
      · refine lv_iload_n hx hb dX10_knownWord_47 rfl (lv_at hl 1 rfl) ?_
        exact r_iret C hW (rt_R h) rfl dX10_knownWord_48
theorem kd_X10_knownWord {X : Mx} {r : Int32} {a : Nat} (h : f_X10_knownWord σ X a = some r) : shK σ a = 8 := (grd_inv h).1
set_option maxRecDepth 20000 in
set_option maxHeartbeats 2000000 in
theorem t_X10_knownWord {X : Mx} {r : Int32} {a : Nat} (h : f_X10_knownWord σ X a = some r) : MtI g l yX10_knownWord cX10_knownWord 2 (some .int) 2 47 [.ref a] σ X (r, X) := by
  refine met_of mk_X10_knownWord (Nat.le_of_ble_eq_true rfl) (fun p e s m args below meth c ls C hW hl => ?_)
  have hx := C.x
  have hb := C.b
  have hl : lv_has ls 2 [(0, .ref a)] := hl
  unfold f_X10_knownWord at h
  obtain ⟨hk0, h⟩ := grd_inv h
  refine lv_aload_n hx hb dX10_knownWord_0 rfl (lv_at hl 0 rfl) ?_
  refine r_gI C hW h fl_X10_98 (by decide) dX10_knownWord_1 (fun v1 h => ?_)
  refine lv_iconst (v := 1) hx hb dX10_knownWord_4 (by decide) ?_
  refine r_brn h (lv_icmp_ne (tgt := 25) hx hb dX10_knownWord_5 (by decide)) (fun h => ?_) (fun h => ?_)
  · refine lv_iconst (v := (-1)) hx hb dX10_knownWord_25 (by decide) ?_
    exact r_iret C hW (rt_R h) rfl dX10_knownWord_26
  · refine lv_aload_n hx hb dX10_knownWord_8 rfl (lv_at hl 0 rfl) ?_
    refine r_gI C hW h fl_X10_108 (by decide) dX10_knownWord_9 (fun v2 h => ?_)
    refine lv_bipush (v := 6) hx hb dX10_knownWord_12 (by decide) ?_
    refine r_br h (lv_icmp_gt (tgt := 25) hx hb dX10_knownWord_14 (by decide)) (fun h => ?_) (fun h => ?_)
    · refine lv_iconst (v := (-1)) hx hb dX10_knownWord_25 (by decide) ?_
      exact r_iret C hW (rt_R h) rfl dX10_knownWord_26
    · refine lv_aload_n hx hb dX10_knownWord_17 rfl (lv_at hl 0 rfl) ?_
      refine r_gI C hW h fl_X10_108 (by decide) dX10_knownWord_18 (fun v3 h => ?_)
      refine lv_iconst (v := 1) hx hb dX10_knownWord_21 (by decide) ?_
      refine r_brn h (lv_icmp_ne (tgt := 27) hx hb dX10_knownWord_22 (by decide)) (fun h => ?_) (fun h => ?_)
      · refine lv_iconst (v := 0) hx hb dX10_knownWord_27 (by decide) ?_
        refine lv_istore_n (lv' := [(1, .int 0), (0, .ref a)]) hx hb dX10_knownWord_28 rfl hl (by decide) rfl (fun ls hl => ?_)
        exact b_X10_knownWord_29 C FU hW (lv_sub hl [1, 0] rfl) h
      · refine lv_iconst (v := (-1)) hx hb dX10_knownWord_25 (by decide) ?_
        exact r_iret C hW (rt_R h) rfl dX10_knownWord_26
theorem kd_X10_wrong {X : Mx} {r : Mx} {a : Nat} {x1 : Int32} (h : f_X10_wrong σ X a x1 = some r) : shK σ a = 8 := (grd_inv h).1
set_option maxRecDepth 20000 in
set_option maxHeartbeats 2000000 in
theorem t_X10_wrong {X : Mx} {r : Mx} {a : Nat} {x1 : Int32} (h : f_X10_wrong σ X a x1 = some r) : MtV g l yX10_wrong cX10_wrong 2 none 0 0 [.ref a, .int x1] σ X r := by
  refine met_of mk_X10_wrong (Nat.le_of_ble_eq_true rfl) (fun p e s m args below meth c ls C hW hl => ?_)
  have hx := C.x
  have hb := C.b
  have hl : lv_has ls 2 [(0, .ref a), (1, .int x1)] := hl
  unfold f_X10_wrong at h
  obtain ⟨hk0, h⟩ := grd_inv h
  refine lv_aload_n hx hb dX10_wrong_0 rfl (lv_at hl 0 rfl) ?_
  refine r_gI C hW h fl_X10_121 (by decide) dX10_wrong_1 (fun v1 h => ?_)
  refine r_br h (lv_if_eq (tgt := 8) hx hb dX10_wrong_4 (by decide)) (fun h => ?_) (fun h => ?_)
  · refine lv_aload_n hx hb dX10_wrong_8 rfl (lv_at hl 0 rfl) ?_
    refine lv_iload_n hx hb dX10_wrong_9 rfl (lv_at hl 1 rfl) ?_
    refine r_pI C hW h pf_X10_121 (by decide) rfl rfl dX10_wrong_10 (fun X2 H locs h hW _ => ?_)
    refine lv_aload_n hx hb dX10_wrong_13 rfl (lv_at hl 0 rfl) ?_
    refine lv_aload_n hx hb dX10_wrong_14 rfl (lv_at hl 0 rfl) ?_
    refine r_gI C hW h fl_X10_85 (by decide) dX10_wrong_15 (fun v3 h => ?_)
    refine r_pI C hW h pf_X10_13 (by decide) rfl rfl dX10_wrong_18 (fun X4 H locs h hW _ => ?_)
    exact r_vret C hW (Option.some.inj h).symm dX10_wrong_21
  · exact r_vret C hW (Option.some.inj h).symm dX10_wrong_7
theorem kd_X10_isGood {X : Mx} {r : Int32} {a : Nat} (h : f_X10_isGood σ X a = some r) : shK σ a = 8 := (grd_inv h).1
set_option maxRecDepth 20000 in
set_option maxHeartbeats 2000000 in
theorem t_X10_isGood {X : Mx} {r : Int32} {a : Nat} (h : f_X10_isGood σ X a = some r) : MtI g l yX10_isGood cX10_isGood 1 (some .boolean) 0 0 [.ref a] σ X (r, X) := by
  refine met_of mk_X10_isGood (Nat.le_of_ble_eq_true rfl) (fun p e s m args below meth c ls C hW hl => ?_)
  have hx := C.x
  have hb := C.b
  have hl : lv_has ls 1 [(0, .ref a)] := hl
  unfold f_X10_isGood at h
  obtain ⟨hk0, h⟩ := grd_inv h
  refine lv_aload_n hx hb dX10_isGood_0 rfl (lv_at hl 0 rfl) ?_
  refine r_gI C hW h fl_X10_121 (by decide) dX10_isGood_1 (fun v1 h => ?_)
  refine r_brn h (lv_if_ne (tgt := 11) hx hb dX10_isGood_4 (by decide)) (fun h => ?_) (fun h => ?_)
  · refine lv_iconst (v := 0) hx hb dX10_isGood_11 (by decide) ?_
    exact r_iret C hW (rt_R h) rfl dX10_isGood_12
  · refine lv_iconst (v := 1) hx hb dX10_isGood_7 (by decide) ?_
    refine lv_goto (tgt := 12) hx hb dX10_isGood_8 (by decide) ?_
    exact r_iret C hW (rt_R h) rfl dX10_isGood_12
theorem kd_X10_isSign {X : Mx} {r : Int32} {a : Nat} {x1 : Int32} (h : f_X10_isSign σ X a x1 = some r) : shK σ a = 8 := (grd_inv h).1
set_option maxRecDepth 20000 in
set_option maxHeartbeats 2000000 in
theorem t_X10_isSign {X : Mx} {r : Int32} {a : Nat} {x1 : Int32} (h : f_X10_isSign σ X a x1 = some r) : MtI g l yX10_isSign cX10_isSign 2 (some .boolean) 0 0 [.ref a, .int x1] σ X (r, X) := by
  refine met_of mk_X10_isSign (Nat.le_of_ble_eq_true rfl) (fun p e s m args below meth c ls C hW hl => ?_)
  have hx := C.x
  have hb := C.b
  have hl : lv_has ls 2 [(0, .ref a), (1, .int x1)] := hl
  unfold f_X10_isSign at h
  obtain ⟨hk0, h⟩ := grd_inv h
  refine lv_aload_n hx hb dX10_isSign_0 rfl (lv_at hl 0 rfl) ?_
  refine r_gI C hW h fl_X10_98 (by decide) dX10_isSign_1 (fun v1 h => ?_)
  refine lv_iconst (v := 3) hx hb dX10_isSign_4 (by decide) ?_
  refine r_brn h (lv_icmp_ne (tgt := 20) hx hb dX10_isSign_5 (by decide)) (fun h => ?_) (fun h => ?_)
  · refine lv_iconst (v := 0) hx hb dX10_isSign_20 (by decide) ?_
    exact r_iret C hW (rt_R h) rfl dX10_isSign_21
  · refine lv_aload_n hx hb dX10_isSign_8 rfl (lv_at hl 0 rfl) ?_
    refine r_gI C hW h fl_X10_95 (by decide) dX10_isSign_9 (fun v2 h => ?_)
    refine lv_iload_n hx hb dX10_isSign_12 rfl (lv_at hl 1 rfl) ?_
    refine r_brn h (lv_icmp_ne (tgt := 20) hx hb dX10_isSign_13 (by decide)) (fun h => ?_) (fun h => ?_)
    · refine lv_iconst (v := 0) hx hb dX10_isSign_20 (by decide) ?_
      exact r_iret C hW (rt_R h) rfl dX10_isSign_21
    · refine lv_iconst (v := 1) hx hb dX10_isSign_16 (by decide) ?_
      refine lv_goto (tgt := 21) hx hb dX10_isSign_17 (by decide) ?_
      exact r_iret C hW (rt_R h) rfl dX10_isSign_21
theorem kd_X10_need {X : Mx} {r : Mx} {a : Nat} {x1 : Int32} (h : f_X10_need σ X a x1 = some r) : shK σ a = 8 := (grd_inv h).1
set_option maxRecDepth 20000 in
set_option maxHeartbeats 2000000 in
theorem t_X10_need {X : Mx} {r : Mx} {a : Nat} {x1 : Int32} (h : f_X10_need σ X a x1 = some r) : MtV g l yX10_need cX10_need 2 none 2 42 [.ref a, .int x1] σ X r := by
  refine met_of mk_X10_need (Nat.le_of_ble_eq_true rfl) (fun p e s m args below meth c ls C hW hl => ?_)
  have hx := C.x
  have hb := C.b
  have hl : lv_has ls 2 [(0, .ref a), (1, .int x1)] := hl
  unfold f_X10_need at h
  obtain ⟨hk0, h⟩ := grd_inv h
  refine lv_aload_n hx hb dX10_need_0 rfl (lv_at hl 0 rfl) ?_
  obtain ⟨v2, h1, h⟩ := bnd_inv h
  refine r_cI hW (run_V (rest := []) C hW (t_X10_isGood h1) mk_X10_isGood vk_X10_124 (kd_X10_isGood h1) rfl rfl (by decide) ⟨Nat.le_of_ble_eq_true rfl, Nat.le_of_ble_eq_true rfl⟩ ⟨Nat.zero_le _, Nat.zero_le _⟩ rfl rfl (Nat.le_of_ble_eq_true rfl) hl.1 dX10_need_1) (fun H locs hW _ => ?_)
  refine r_brn h (lv_if_ne (tgt := 8) hx hb dX10_need_4 (by decide)) (fun h => ?_) (fun h => ?_)
  · refine lv_iload_n hx hb dX10_need_8 rfl (lv_at hl 1 rfl) ?_
    refine r_br h (lv_if_eq (tgt := 19) hx hb dX10_need_9 (by decide)) (fun h => ?_) (fun h => ?_)
    · refine lv_aload_n hx hb dX10_need_19 rfl (lv_at hl 0 rfl) ?_
      refine lv_iconst (v := 1) hx hb dX10_need_20 (by decide) ?_
      obtain ⟨X4, h3, h⟩ := bnd_inv h
      refine r_cV hW (run_V (rest := []) C hW (t_X10_wrong h3) mk_X10_wrong vk_X10_131 (kd_X10_wrong h3) rfl rfl (by decide) ⟨Nat.le_of_ble_eq_true rfl, Nat.le_of_ble_eq_true rfl⟩ ⟨Nat.zero_le _, Nat.zero_le _⟩ rfl rfl (Nat.le_of_ble_eq_true rfl) hl.1 dX10_need_21) (fun H locs hW _ => ?_)
      exact r_vret C hW (Option.some.inj h).symm dX10_need_24
    · refine lv_aload_n hx hb dX10_need_12 rfl (lv_at hl 0 rfl) ?_
      obtain ⟨X6, h5, h⟩ := bnd_inv h
      refine r_cV hW (run_V (rest := []) C hW (t_X10_goes h5) mk_X10_goes vk_X10_128 (kd_X10_goes h5) rfl rfl (by decide) ⟨Nat.le_of_ble_eq_true rfl, Nat.le_of_ble_eq_true rfl⟩ ⟨Nat.zero_le _, Nat.zero_le _⟩ rfl rfl (Nat.le_of_ble_eq_true rfl) hl.1 dX10_need_13) (fun H locs hW _ => ?_)
      refine lv_goto (tgt := 24) hx hb dX10_need_16 (by decide) ?_
      exact r_vret C hW (Option.some.inj h).symm dX10_need_24
  · exact r_vret C hW (Option.some.inj h).symm dX10_need_7
set_option maxRecDepth 20000 in
set_option maxHeartbeats 2000000 in
theorem b_X10_numberHere_41 {a : Nat} (C : Cx g RX10 cX10_numberHere 2 (some .int) p s m args meth c) {r : (Int32 × Mx)} {X : Mx} (hW : Wd g σ X s H locs) (hl : lv_has ls 2 [(0, .ref a)]) (h : f_X10_numberHere_41 σ a X = some r) : W p l e (rmZ 1 21) s m args below meth c H locs 0 0 (QI g σ below args s r) (F0 m 41 ls []) := by
  have hx := C.x
  have hb := C.b
  unfold f_X10_numberHere_41 at h
  refine lv_aload_n hx hb dX10_numberHere_41 rfl (lv_at hl 0 rfl) ?_
  refine lv_iconst (v := 2) hx hb dX10_numberHere_42 (by decide) ?_
  obtain ⟨X2, h1, h⟩ := bnd_inv h
  refine r_cV hW (run_V (rest := []) C hW (t_X10_wrong h1) mk_X10_wrong vk_X10_131 (kd_X10_wrong h1) rfl rfl (by decide) ⟨Nat.le_of_ble_eq_true rfl, Nat.le_of_ble_eq_true rfl⟩ ⟨Nat.zero_le _, Nat.zero_le _⟩ rfl rfl (Nat.le_of_ble_eq_true rfl) hl.1 dX10_numberHere_43) (fun H locs hW _ => ?_)
  refine lv_aload_n hx hb dX10_numberHere_46 rfl (lv_at hl 0 rfl) ?_
  refine r_gI C hW h fl_X10_92 (by decide) dX10_numberHere_47 (fun v3 h => ?_)
  exact r_iret C hW (Option.some.inj h).symm rfl dX10_numberHere_50
theorem kd_X10_numberHere {X : Mx} {r : (Int32 × Mx)} {a : Nat} {x1 : Int32} (h : f_X10_numberHere σ X a x1 = some r) : shK σ a = 8 := (grd_inv h).1
set_option maxRecDepth 20000 in
set_option maxHeartbeats 2000000 in
theorem t_X10_numberHere {X : Mx} {r : (Int32 × Mx)} {a : Nat} {x1 : Int32} (h : f_X10_numberHere σ X a x1 = some r) : MtI g l yX10_numberHere cX10_numberHere 2 (some .int) 1 21 [.ref a, .int x1] σ X r := by
  refine met_of mk_X10_numberHere (Nat.le_of_ble_eq_true rfl) (fun p e s m args below meth c ls C hW hl => ?_)
  have hx := C.x
  have hb := C.b
  have hl : lv_has ls 2 [(0, .ref a), (1, .int x1)] := hl
  unfold f_X10_numberHere at h
  obtain ⟨hk0, h⟩ := grd_inv h
  refine lv_aload_n hx hb dX10_numberHere_0 rfl (lv_at hl 0 rfl) ?_
  obtain ⟨v2, h1, h⟩ := bnd_inv h
  refine r_cI hW (run_V (rest := []) C hW (t_X10_isGood h1) mk_X10_isGood vk_X10_124 (kd_X10_isGood h1) rfl rfl (by decide) ⟨Nat.le_of_ble_eq_true rfl, Nat.le_of_ble_eq_true rfl⟩ ⟨Nat.zero_le _, Nat.zero_le _⟩ rfl rfl (Nat.le_of_ble_eq_true rfl) hl.1 dX10_numberHere_1) (fun H locs hW _ => ?_)
  refine r_brn h (lv_if_ne (tgt := 9) hx hb dX10_numberHere_4 (by decide)) (fun h => ?_) (fun h => ?_)
  · refine lv_aload_n hx hb dX10_numberHere_9 rfl (lv_at hl 0 rfl) ?_
    refine r_gI C hW h fl_X10_98 (by decide) dX10_numberHere_10 (fun v3 h => ?_)
    refine lv_iconst (v := 2) hx hb dX10_numberHere_13 (by decide) ?_
    refine r_br h (lv_icmp_eq (tgt := 25) hx hb dX10_numberHere_14 (by decide)) (fun h => ?_) (fun h => ?_)
    · refine lv_aload_n hx hb dX10_numberHere_25 rfl (lv_at hl 0 rfl) ?_
      refine r_gI C hW h fl_X10_108 (by decide) dX10_numberHere_26 (fun v4 h => ?_)
      refine lv_iconst (v := 4) hx hb dX10_numberHere_29 (by decide) ?_
      refine r_br h (lv_icmp_gt (tgt := 41) hx hb dX10_numberHere_30 (by decide)) (fun h => ?_) (fun h => ?_)
      · exact b_X10_numberHere_41 C hW (lv_sub hl [0] rfl) h
      · refine lv_aload_n hx hb dX10_numberHere_33 rfl (lv_at hl 0 rfl) ?_
        refine r_gI C hW h fl_X10_92 (by decide) dX10_numberHere_34 (fun v5 h => ?_)
        refine lv_iload_n hx hb dX10_numberHere_37 rfl (lv_at hl 1 rfl) ?_
        refine r_br h (lv_icmp_le (tgt := 46) hx hb dX10_numberHere_38 (by decide)) (fun h => ?_) (fun h => ?_)
        · refine lv_aload_n hx hb dX10_numberHere_46 rfl (lv_at hl 0 rfl) ?_
          refine r_gI C hW h fl_X10_92 (by decide) dX10_numberHere_47 (fun v6 h => ?_)
          exact r_iret C hW (Option.some.inj h).symm rfl dX10_numberHere_50
        · exact b_X10_numberHere_41 C hW (lv_sub hl [0] rfl) h
    · refine lv_aload_n hx hb dX10_numberHere_17 rfl (lv_at hl 0 rfl) ?_
      refine lv_iconst (v := 1) hx hb dX10_numberHere_18 (by decide) ?_
      obtain ⟨X8, h7, h⟩ := bnd_inv h
      refine r_cV hW (run_V (rest := []) C hW (t_X10_wrong h7) mk_X10_wrong vk_X10_131 (kd_X10_wrong h7) rfl rfl (by decide) ⟨Nat.le_of_ble_eq_true rfl, Nat.le_of_ble_eq_true rfl⟩ ⟨Nat.zero_le _, Nat.zero_le _⟩ rfl rfl (Nat.le_of_ble_eq_true rfl) hl.1 dX10_numberHere_19) (fun H locs hW _ => ?_)
      refine lv_goto (tgt := 46) hx hb dX10_numberHere_22 (by decide) ?_
      refine lv_aload_n hx hb dX10_numberHere_46 rfl (lv_at hl 0 rfl) ?_
      refine r_gI C hW h fl_X10_92 (by decide) dX10_numberHere_47 (fun v9 h => ?_)
      exact r_iret C hW (Option.some.inj h).symm rfl dX10_numberHere_50
  · refine lv_iconst (v := 0) hx hb dX10_numberHere_7 (by decide) ?_
    exact r_iret C hW (Option.some.inj h).symm rfl dX10_numberHere_8
theorem kd_X10_number {X : Mx} {r : (Int32 × Mx)} {a : Nat} {x1 : Int32} (h : f_X10_number σ X a x1 = some r) : shK σ a = 8 := (grd_inv h).1
set_option maxRecDepth 20000 in
set_option maxHeartbeats 2000000 in
theorem t_X10_number {X : Mx} {r : (Int32 × Mx)} {a : Nat} {x1 : Int32} (h : f_X10_number σ X a x1 = some r) : MtI g l yX10_number cX10_number 3 (some .int) 2 42 [.ref a, .int x1] σ X r := by
  refine met_of mk_X10_number (Nat.le_of_ble_eq_true rfl) (fun p e s m args below meth c ls C hW hl => ?_)
  have hx := C.x
  have hb := C.b
  have hl : lv_has ls 3 [(0, .ref a), (1, .int x1)] := hl
  unfold f_X10_number at h
  obtain ⟨hk0, h⟩ := grd_inv h
  refine lv_aload_n hx hb dX10_number_0 rfl (lv_at hl 0 rfl) ?_
  refine lv_iload_n hx hb dX10_number_1 rfl (lv_at hl 1 rfl) ?_
  obtain ⟨v3, X2, h1, h⟩ := bnd2_inv h
  refine r_cI hW (run_V (rest := []) C hW (t_X10_numberHere h1) mk_X10_numberHere vk_X10_134 (kd_X10_numberHere h1) rfl rfl (by decide) ⟨Nat.le_of_ble_eq_true rfl, Nat.le_of_ble_eq_true rfl⟩ ⟨Nat.zero_le _, Nat.zero_le _⟩ rfl rfl (Nat.le_of_ble_eq_true rfl) hl.1 dX10_number_2) (fun H locs hW _ => ?_)
  refine lv_istore_n (lv' := [(2, .int v3), (0, .ref a), (1, .int x1)]) hx hb dX10_number_5 rfl hl (by decide) rfl (fun ls hl => ?_)
  refine lv_aload_n hx hb dX10_number_6 rfl (lv_at hl 1 rfl) ?_
  obtain ⟨v5, h4, h⟩ := bnd_inv h
  refine r_cI hW (run_V (rest := []) C hW (t_X10_isGood h4) mk_X10_isGood vk_X10_124 (kd_X10_isGood h4) rfl rfl (by decide) ⟨Nat.le_of_ble_eq_true rfl, Nat.le_of_ble_eq_true rfl⟩ ⟨Nat.zero_le _, Nat.zero_le _⟩ rfl rfl (Nat.le_of_ble_eq_true rfl) hl.1 dX10_number_7) (fun H locs hW _ => ?_)
  refine r_br h (lv_if_eq (tgt := 17) hx hb dX10_number_10 (by decide)) (fun h => ?_) (fun h => ?_)
  · refine lv_iload_n hx hb dX10_number_17 rfl (lv_at hl 0 rfl) ?_
    exact r_iret C hW (Option.some.inj h).symm rfl dX10_number_18
  · refine lv_aload_n hx hb dX10_number_13 rfl (lv_at hl 1 rfl) ?_
    obtain ⟨X7, h6, h⟩ := bnd_inv h
    refine r_cV hW (run_V (rest := []) C hW (t_X10_goes h6) mk_X10_goes vk_X10_128 (kd_X10_goes h6) rfl rfl (by decide) ⟨Nat.le_of_ble_eq_true rfl, Nat.le_of_ble_eq_true rfl⟩ ⟨Nat.zero_le _, Nat.zero_le _⟩ rfl rfl (Nat.le_of_ble_eq_true rfl) hl.1 dX10_number_14) (fun H locs hW _ => ?_)
    refine lv_iload_n hx hb dX10_number_17 rfl (lv_at hl 0 rfl) ?_
    exact r_iret C hW (Option.some.inj h).symm rfl dX10_number_18
set_option maxRecDepth 20000 in
set_option maxHeartbeats 2000000 in
theorem b_X10_nameHere_28 {a : Nat} (C : Cx g RX10 cX10_nameHere 1 (some .int) p s m args meth c) {r : (Int32 × Mx)} {X : Mx} (hW : Wd g σ X s H locs) (hl : lv_has ls 1 [(0, .ref a)]) (h : f_X10_nameHere_28 σ a X = some r) : W p l e (rmZ 1 21) s m args below meth c H locs 0 0 (QI g σ below args s r) (F0 m 28 ls []) := by
  have hx := C.x
  have hb := C.b
  unfold f_X10_nameHere_28 at h
  refine lv_aload_n hx hb dX10_nameHere_28 rfl (lv_at hl 0 rfl) ?_
  refine r_gJ C hW h fl_X10_88 (by decide) dX10_nameHere_29 (fun v1 h => ?_)
  refine lv_l2i (v := (Int64.toInt32 v1)) hx hb dX10_nameHere_32 rfl ?_
  refine lv_iconst (v := 1) hx hb dX10_nameHere_33 (by decide) ?_
  refine lv_isub hx hb dX10_nameHere_34 ?_
  exact r_iret C hW (Option.some.inj h).symm rfl dX10_nameHere_35
set_option maxRecDepth 20000 in
set_option maxHeartbeats 2000000 in
theorem b_X10_nameHere_23 {a : Nat} (C : Cx g RX10 cX10_nameHere 1 (some .int) p s m args meth c) {r : (Int32 × Mx)} {X : Mx} (hW : Wd g σ X s H locs) (hl : lv_has ls 1 [(0, .ref a)]) (h : f_X10_nameHere_23 σ a X = some r) : W p l e (rmZ 1 21) s m args below meth c H locs 0 0 (QI g σ below args s r) (F0 m 23 ls []) := by
  have hx := C.x
  have hb := C.b
  unfold f_X10_nameHere_23 at h
  refine lv_aload_n hx hb dX10_nameHere_23 rfl (lv_at hl 0 rfl) ?_
  refine lv_iconst (v := 1) hx hb dX10_nameHere_24 (by decide) ?_
  obtain ⟨X2, h1, h⟩ := bnd_inv h
  refine r_cV hW (run_V (rest := []) C hW (t_X10_wrong h1) mk_X10_wrong vk_X10_131 (kd_X10_wrong h1) rfl rfl (by decide) ⟨Nat.le_of_ble_eq_true rfl, Nat.le_of_ble_eq_true rfl⟩ ⟨Nat.zero_le _, Nat.zero_le _⟩ rfl rfl (Nat.le_of_ble_eq_true rfl) hl.1 dX10_nameHere_25) (fun H locs hW _ => ?_)
  exact b_X10_nameHere_28 C hW (lv_sub hl [0] rfl) h
theorem kd_X10_nameHere {X : Mx} {r : (Int32 × Mx)} {a : Nat} (h : f_X10_nameHere σ X a = some r) : shK σ a = 8 := (grd_inv h).1
set_option maxRecDepth 20000 in
set_option maxHeartbeats 2000000 in
theorem t_X10_nameHere {X : Mx} {r : (Int32 × Mx)} {a : Nat} (h : f_X10_nameHere σ X a = some r) : MtI g l yX10_nameHere cX10_nameHere 1 (some .int) 1 21 [.ref a] σ X r := by
  refine met_of mk_X10_nameHere (Nat.le_of_ble_eq_true rfl) (fun p e s m args below meth c ls C hW hl => ?_)
  have hx := C.x
  have hb := C.b
  have hl : lv_has ls 1 [(0, .ref a)] := hl
  unfold f_X10_nameHere at h
  obtain ⟨hk0, h⟩ := grd_inv h
  refine lv_aload_n hx hb dX10_nameHere_0 rfl (lv_at hl 0 rfl) ?_
  obtain ⟨v2, h1, h⟩ := bnd_inv h
  refine r_cI hW (run_V (rest := []) C hW (t_X10_isGood h1) mk_X10_isGood vk_X10_124 (kd_X10_isGood h1) rfl rfl (by decide) ⟨Nat.le_of_ble_eq_true rfl, Nat.le_of_ble_eq_true rfl⟩ ⟨Nat.zero_le _, Nat.zero_le _⟩ rfl rfl (Nat.le_of_ble_eq_true rfl) hl.1 dX10_nameHere_1) (fun H locs hW _ => ?_)
  refine r_br h (lv_if_eq (tgt := 28) hx hb dX10_nameHere_4 (by decide)) (fun h => ?_) (fun h => ?_)
  · exact b_X10_nameHere_28 C hW (lv_sub hl [0] rfl) h
  · refine lv_aload_n hx hb dX10_nameHere_7 rfl (lv_at hl 0 rfl) ?_
    refine r_gI C hW h fl_X10_98 (by decide) dX10_nameHere_8 (fun v3 h => ?_)
    refine lv_iconst (v := 1) hx hb dX10_nameHere_11 (by decide) ?_
    refine r_brn h (lv_icmp_ne (tgt := 23) hx hb dX10_nameHere_12 (by decide)) (fun h => ?_) (fun h => ?_)
    · exact b_X10_nameHere_23 C hW (lv_sub hl [0] rfl) h
    · refine lv_aload_n hx hb dX10_nameHere_15 rfl (lv_at hl 0 rfl) ?_
      refine r_gI C hW h fl_X10_108 (by decide) dX10_nameHere_16 (fun v4 h => ?_)
      refine lv_iconst (v := 1) hx hb dX10_nameHere_19 (by decide) ?_
      refine r_br h (lv_icmp_eq (tgt := 28) hx hb dX10_nameHere_20 (by decide)) (fun h => ?_) (fun h => ?_)
      · exact b_X10_nameHere_28 C hW (lv_sub hl [0] rfl) h
      · exact b_X10_nameHere_23 C hW (lv_sub hl [0] rfl) h
set_option maxRecDepth 20000 in
set_option maxHeartbeats 2000000 in
theorem b_X10_typeOf_28 {a : Nat} {x1 : Int32} (C : Cx g RX10 cX10_typeOf 2 (some .int) p s m args meth c) {r : (Int32 × Mx)} {X : Mx} (hW : Wd g σ X s H locs) (hl : lv_has ls 2 [(0, .ref a), (1, .int x1)]) (h : f_X10_typeOf_28 σ a x1 X = some r) : W p l e (rmZ 3 68) s m args below meth c H locs 0 0 (QI g σ below args s r) (F0 m 28 ls []) := by
  have hx := C.x
  have hb := C.b
  unfold f_X10_typeOf_28 at h
  refine lv_aload_n hx hb dX10_typeOf_28 rfl (lv_at hl 0 rfl) ?_
  obtain ⟨v2, h1, h⟩ := bnd_inv h
  refine r_cI hW (run_V (rest := []) C hW (t_X10_isGood h1) mk_X10_isGood vk_X10_124 (kd_X10_isGood h1) rfl rfl (by decide) ⟨Nat.le_of_ble_eq_true rfl, Nat.le_of_ble_eq_true rfl⟩ ⟨Nat.zero_le _, Nat.zero_le _⟩ rfl rfl (Nat.le_of_ble_eq_true rfl) hl.1 dX10_typeOf_29) (fun H locs hW _ => ?_)
  refine r_br h (lv_if_eq (tgt := 39) hx hb dX10_typeOf_32 (by decide)) (fun h => ?_) (fun h => ?_)
  · refine lv_iload_n hx hb dX10_typeOf_39 rfl (lv_at hl 1 rfl) ?_
    exact r_iret C hW (Option.some.inj h).symm rfl dX10_typeOf_40
  · refine lv_aload_n hx hb dX10_typeOf_35 rfl (lv_at hl 0 rfl) ?_
    obtain ⟨X4, h3, h⟩ := bnd_inv h
    refine r_cV hW (run_V (rest := []) C hW (t_X10_goes h3) mk_X10_goes vk_X10_128 (kd_X10_goes h3) rfl rfl (by decide) ⟨Nat.le_of_ble_eq_true rfl, Nat.le_of_ble_eq_true rfl⟩ ⟨Nat.zero_le _, Nat.zero_le _⟩ rfl rfl (Nat.le_of_ble_eq_true rfl) hl.1 dX10_typeOf_36) (fun H locs hW _ => ?_)
    refine lv_iload_n hx hb dX10_typeOf_39 rfl (lv_at hl 1 rfl) ?_
    exact r_iret C hW (Option.some.inj h).symm rfl dX10_typeOf_40
set_option maxRecDepth 20000 in
set_option maxHeartbeats 2000000 in
theorem b_X10_typeOf_23 {a : Nat} {x1 : Int32} (C : Cx g RX10 cX10_typeOf 2 (some .int) p s m args meth c) {r : (Int32 × Mx)} {X : Mx} (hW : Wd g σ X s H locs) (hl : lv_has ls 2 [(0, .ref a), (1, .int x1)]) (h : f_X10_typeOf_23 σ a x1 X = some r) : W p l e (rmZ 3 68) s m args below meth c H locs 0 0 (QI g σ below args s r) (F0 m 23 ls []) := by
  have hx := C.x
  have hb := C.b
  unfold f_X10_typeOf_23 at h
  refine lv_aload_n hx hb dX10_typeOf_23 rfl (lv_at hl 0 rfl) ?_
  refine lv_iconst (v := 1) hx hb dX10_typeOf_24 (by decide) ?_
  obtain ⟨X2, h1, h⟩ := bnd_inv h
  refine r_cV hW (run_V (rest := []) C hW (t_X10_wrong h1) mk_X10_wrong vk_X10_131 (kd_X10_wrong h1) rfl rfl (by decide) ⟨Nat.le_of_ble_eq_true rfl, Nat.le_of_ble_eq_true rfl⟩ ⟨Nat.zero_le _, Nat.zero_le _⟩ rfl rfl (Nat.le_of_ble_eq_true rfl) hl.1 dX10_typeOf_25) (fun H locs hW _ => ?_)
  exact b_X10_typeOf_28 C hW (lv_sub hl [0, 1] rfl) h
theorem kd_X10_typeOf {X : Mx} {r : (Int32 × Mx)} {a : Nat} (h : f_X10_typeOf σ X a = some r) : shK σ a = 8 := (grd_inv h).1
set_option maxRecDepth 20000 in
set_option maxHeartbeats 2000000 in
theorem t_X10_typeOf {X : Mx} {r : (Int32 × Mx)} {a : Nat} (h : f_X10_typeOf σ X a = some r) : MtI g l yX10_typeOf cX10_typeOf 2 (some .int) 3 68 [.ref a] σ X r := by
  refine met_of mk_X10_typeOf (Nat.le_of_ble_eq_true rfl) (fun p e s m args below meth c ls C hW hl => ?_)
  have hx := C.x
  have hb := C.b
  have hl : lv_has ls 2 [(0, .ref a)] := hl
  unfold f_X10_typeOf at h
  obtain ⟨hk0, h⟩ := grd_inv h
  refine lv_aload_n hx hb dX10_typeOf_0 rfl (lv_at hl 0 rfl) ?_
  obtain ⟨v2, h1, h⟩ := bnd_inv h
  refine r_cI hW (run_V (rest := []) C hW (t_X10_isGood h1) mk_X10_isGood vk_X10_124 (kd_X10_isGood h1) rfl rfl (by decide) ⟨Nat.le_of_ble_eq_true rfl, Nat.le_of_ble_eq_true rfl⟩ ⟨Nat.zero_le _, Nat.zero_le _⟩ rfl rfl (Nat.le_of_ble_eq_true rfl) hl.1 dX10_typeOf_1) (fun H locs hW _ => ?_)
  refine r_brn h (lv_if_ne (tgt := 9) hx hb dX10_typeOf_4 (by decide)) (fun h => ?_) (fun h => ?_)
  · refine lv_aload_n hx hb dX10_typeOf_9 rfl (lv_at hl 0 rfl) ?_
    obtain ⟨v4, h3, h⟩ := bnd_inv h
    refine r_cI hW (run_V (rest := []) C hW (t_X10_knownWord h3) mk_X10_knownWord vk_X10_137 (kd_X10_knownWord h3) rfl rfl (by decide) ⟨Nat.le_of_ble_eq_true rfl, Nat.le_of_ble_eq_true rfl⟩ ⟨Nat.zero_le _, Nat.zero_le _⟩ rfl rfl (Nat.le_of_ble_eq_true rfl) hl.1 dX10_typeOf_10) (fun H locs hW _ => ?_)
    refine lv_istore_n (lv' := [(1, .int v4), (0, .ref a)]) hx hb dX10_typeOf_13 rfl hl (by decide) rfl (fun ls hl => ?_)
    refine lv_iload_n hx hb dX10_typeOf_14 rfl (lv_at hl 0 rfl) ?_
    refine r_br h (lv_if_lt (tgt := 23) hx hb dX10_typeOf_15 (by decide)) (fun h => ?_) (fun h => ?_)
    · exact b_X10_typeOf_23 C hW (lv_sub hl [1, 0] rfl) h
    · refine lv_iload_n hx hb dX10_typeOf_18 rfl (lv_at hl 0 rfl) ?_
      refine lv_iconst (v := 3) hx hb dX10_typeOf_19 (by decide) ?_
      refine r_br h (lv_icmp_le (tgt := 28) hx hb dX10_typeOf_20 (by decide)) (fun h => ?_) (fun h => ?_)
      · exact b_X10_typeOf_28 C hW (lv_sub hl [1, 0] rfl) h
      · exact b_X10_typeOf_23 C hW (lv_sub hl [1, 0] rfl) h
  · refine lv_iconst (v := 0) hx hb dX10_typeOf_7 (by decide) ?_
    exact r_iret C hW (Option.some.inj h).symm rfl dX10_typeOf_8
set_option maxRecDepth 20000 in
set_option maxHeartbeats 2000000 in
theorem b_X10_cellOf_41 {a : Nat} {x1 : Int32} (C : Cx g RX10 cX10_cellOf 3 (some .int) p s m args meth c) {r : (Int32 × Mx)} {X : Mx} (hW : Wd g σ X s H locs) (hl : lv_has ls 3 [(0, .ref a), (1, .int x1)]) (h : f_X10_cellOf_41 σ a x1 X = some r) : W p l e (rmZ 3 64) s m args below meth c H locs 0 0 (QI g σ below args s r) (F0 m 41 ls []) := by
  have hx := C.x
  have hb := C.b
  unfold f_X10_cellOf_41 at h
  refine lv_aload_n hx hb dX10_cellOf_41 rfl (lv_at hl 0 rfl) ?_
  refine lv_sipush (v := 999) hx hb dX10_cellOf_42 (by decide) ?_
  obtain ⟨v3, X2, h1, h⟩ := bnd2_inv h
  refine r_cI hW (run_V (rest := []) C hW (t_X10_number h1) mk_X10_number vk_X10_144 (kd_X10_number h1) rfl rfl (by decide) ⟨Nat.le_of_ble_eq_true rfl, Nat.le_of_ble_eq_true rfl⟩ ⟨Nat.zero_le _, Nat.zero_le _⟩ rfl rfl (Nat.le_of_ble_eq_true rfl) hl.1 dX10_cellOf_45) (fun H locs hW _ => ?_)
  refine lv_istore_n (lv' := [(2, .int v3), (0, .ref a), (1, .int x1)]) hx hb dX10_cellOf_48 rfl hl (by decide) rfl (fun ls hl => ?_)
  refine lv_iload_n hx hb dX10_cellOf_49 rfl (lv_at hl 2 rfl) ?_
  refine r_br h (lv_if_eq (tgt := 59) hx hb dX10_cellOf_50 (by decide)) (fun h => ?_) (fun h => ?_)
  · refine lv_iload_n hx hb dX10_cellOf_59 rfl (lv_at hl 0 rfl) ?_
    exact r_iret C hW (Option.some.inj h).symm rfl dX10_cellOf_60
  · refine lv_iconst (v := 0) hx hb dX10_cellOf_53 (by decide) ?_
    refine lv_iload_n hx hb dX10_cellOf_54 rfl (lv_at hl 0 rfl) ?_
    refine lv_isub hx hb dX10_cellOf_55 ?_
    refine lv_goto (tgt := 60) hx hb dX10_cellOf_56 (by decide) ?_
    exact r_iret C hW (Option.some.inj h).symm rfl dX10_cellOf_60
theorem kd_X10_cellOf {X : Mx} {r : (Int32 × Mx)} {a : Nat} (h : f_X10_cellOf σ X a = some r) : shK σ a = 8 := (grd_inv h).1
set_option maxRecDepth 20000 in
set_option maxHeartbeats 2000000 in
theorem t_X10_cellOf {X : Mx} {r : (Int32 × Mx)} {a : Nat} (h : f_X10_cellOf σ X a = some r) : MtI g l yX10_cellOf cX10_cellOf 3 (some .int) 3 64 [.ref a] σ X r := by
  refine met_of mk_X10_cellOf (Nat.le_of_ble_eq_true rfl) (fun p e s m args below meth c ls C hW hl => ?_)
  have hx := C.x
  have hb := C.b
  have hl : lv_has ls 3 [(0, .ref a)] := hl
  unfold f_X10_cellOf at h
  obtain ⟨hk0, h⟩ := grd_inv h
  refine lv_aload_n hx hb dX10_cellOf_0 rfl (lv_at hl 0 rfl) ?_
  obtain ⟨v2, h1, h⟩ := bnd_inv h
  refine r_cI hW (run_V (rest := []) C hW (t_X10_isGood h1) mk_X10_isGood vk_X10_124 (kd_X10_isGood h1) rfl rfl (by decide) ⟨Nat.le_of_ble_eq_true rfl, Nat.le_of_ble_eq_true rfl⟩ ⟨Nat.zero_le _, Nat.zero_le _⟩ rfl rfl (Nat.le_of_ble_eq_true rfl) hl.1 dX10_cellOf_1) (fun H locs hW _ => ?_)
  refine r_brn h (lv_if_ne (tgt := 9) hx hb dX10_cellOf_4 (by decide)) (fun h => ?_) (fun h => ?_)
  · refine lv_aload_n hx hb dX10_cellOf_9 rfl (lv_at hl 0 rfl) ?_
    refine lv_bipush (v := 95) hx hb dX10_cellOf_10 (by decide) ?_
    obtain ⟨v4, h3, h⟩ := bnd_inv h
    refine r_cI hW (run_V (rest := []) C hW (t_X10_isSign h3) mk_X10_isSign vk_X10_141 (kd_X10_isSign h3) rfl rfl (by decide) ⟨Nat.le_of_ble_eq_true rfl, Nat.le_of_ble_eq_true rfl⟩ ⟨Nat.zero_le _, Nat.zero_le _⟩ rfl rfl (Nat.le_of_ble_eq_true rfl) hl.1 dX10_cellOf_12) (fun H locs hW _ => ?_)
    refine r_br h (lv_if_eq (tgt := 26) hx hb dX10_cellOf_15 (by decide)) (fun h => ?_) (fun h => ?_)
    · refine lv_aload_n hx hb dX10_cellOf_26 rfl (lv_at hl 0 rfl) ?_
      refine lv_bipush (v := 45) hx hb dX10_cellOf_27 (by decide) ?_
      obtain ⟨v6, h5, h⟩ := bnd_inv h
      refine r_cI hW (run_V (rest := []) C hW (t_X10_isSign h5) mk_X10_isSign vk_X10_141 (kd_X10_isSign h5) rfl rfl (by decide) ⟨Nat.le_of_ble_eq_true rfl, Nat.le_of_ble_eq_true rfl⟩ ⟨Nat.zero_le _, Nat.zero_le _⟩ rfl rfl (Nat.le_of_ble_eq_true rfl) hl.1 dX10_cellOf_29) (fun H locs hW _ => ?_)
      refine lv_istore_n (lv' := [(1, .int v6), (0, .ref a)]) hx hb dX10_cellOf_32 rfl hl (by decide) rfl (fun ls hl => ?_)
      refine lv_iload_n hx hb dX10_cellOf_33 rfl (lv_at hl 0 rfl) ?_
      refine r_br h (lv_if_eq (tgt := 41) hx hb dX10_cellOf_34 (by decide)) (fun h => ?_) (fun h => ?_)
      · exact b_X10_cellOf_41 C hW (lv_sub hl [1, 0] rfl) h
      · refine lv_aload_n hx hb dX10_cellOf_37 rfl (lv_at hl 1 rfl) ?_
        obtain ⟨X8, h7, h⟩ := bnd_inv h
        refine r_cV hW (run_V (rest := []) C hW (t_X10_goes h7) mk_X10_goes vk_X10_128 (kd_X10_goes h7) rfl rfl (by decide) ⟨Nat.le_of_ble_eq_true rfl, Nat.le_of_ble_eq_true rfl⟩ ⟨Nat.zero_le _, Nat.zero_le _⟩ rfl rfl (Nat.le_of_ble_eq_true rfl) hl.1 dX10_cellOf_38) (fun H locs hW _ => ?_)
        exact b_X10_cellOf_41 C hW (lv_sub hl [1, 0] rfl) h
    · refine lv_aload_n hx hb dX10_cellOf_18 rfl (lv_at hl 0 rfl) ?_
      obtain ⟨X10, h9, h⟩ := bnd_inv h
      refine r_cV hW (run_V (rest := []) C hW (t_X10_goes h9) mk_X10_goes vk_X10_128 (kd_X10_goes h9) rfl rfl (by decide) ⟨Nat.le_of_ble_eq_true rfl, Nat.le_of_ble_eq_true rfl⟩ ⟨Nat.zero_le _, Nat.zero_le _⟩ rfl rfl (Nat.le_of_ble_eq_true rfl) hl.1 dX10_cellOf_19) (fun H locs hW _ => ?_)
      refine lv_sipush (v := 9999) hx hb dX10_cellOf_22 (by decide) ?_
      exact r_iret C hW (Option.some.inj h).symm rfl dX10_cellOf_25
  · refine lv_iconst (v := 0) hx hb dX10_cellOf_7 (by decide) ?_
    exact r_iret C hW (Option.some.inj h).symm rfl dX10_cellOf_8
theorem kd_X10_hasColumn {X : Mx} {r : Int32} {a : Nat} {x1 : Int32} {x2 : Int32} {x3 : Int32} (h : f_X10_hasColumn σ X a x1 x2 x3 = some r) : shK σ a = 8 := (grd_inv h).1
set_option maxRecDepth 20000 in
set_option maxHeartbeats 2000000 in
theorem t_X10_hasColumn {X : Mx} {r : Int32} {a : Nat} {x1 : Int32} {x2 : Int32} {x3 : Int32} (h : f_X10_hasColumn σ X a x1 x2 x3 = some r) : MtI g l yX10_hasColumn cX10_hasColumn 4 (some .boolean) 1 22 [.ref a, .int x1, .int x2, .int x3] σ X (r, X) := by
  refine met_of mk_X10_hasColumn (Nat.le_of_ble_eq_true rfl) (fun p e s m args below meth c ls C hW hl => ?_)
  have hx := C.x
  have hb := C.b
  have hl : lv_has ls 4 [(0, .ref a), (1, .int x1), (2, .int x2), (3, .int x3)] := hl
  unfold f_X10_hasColumn at h
  obtain ⟨hk0, h⟩ := grd_inv h
  refine lv_iload_n hx hb dX10_hasColumn_0 rfl (lv_at hl 3 rfl) ?_
  refine lv_iconst (v := 0) hx hb dX10_hasColumn_1 (by decide) ?_
  refine lv_bipush (v := 8) hx hb dX10_hasColumn_2 (by decide) ?_
  refine r_cI hW (run_S (rest := []) C hW (t_X10_within (X := X)) mk_X10_within sk_X10_231 ⟨Nat.le_of_ble_eq_true rfl, Nat.le_of_ble_eq_true rfl⟩ ⟨Nat.zero_le _, Nat.zero_le _⟩ rfl rfl (Nat.le_of_ble_eq_true rfl) hl.1 dX10_hasColumn_4) (fun H locs hW _ => ?_)
  refine r_br h (lv_if_eq (tgt := 36) hx hb dX10_hasColumn_7 (by decide)) (fun h => ?_) (fun h => ?_)
  · refine lv_iconst (v := 0) hx hb dX10_hasColumn_36 (by decide) ?_
    exact r_iret C hW (rt_R h) rfl dX10_hasColumn_37
  · refine lv_aload_n hx hb dX10_hasColumn_10 rfl (lv_at hl 0 rfl) ?_
    refine r_gR C hW h fl_X10_20 (by decide) dX10_hasColumn_11 (fun b1 h => ?_)
    refine lv_iload_n hx hb dX10_hasColumn_14 rfl (lv_at hl 1 rfl) ?_
    refine lv_sipush (v := 200) hx hb dX10_hasColumn_15 (by decide) ?_
    refine lv_iload_n hx hb dX10_hasColumn_18 rfl (lv_at hl 2 rfl) ?_
    refine lv_imul hx hb dX10_hasColumn_19 ?_
    refine lv_iadd hx hb dX10_hasColumn_20 ?_
    refine lv_iconst (v := 0) hx hb dX10_hasColumn_21 (by decide) ?_
    refine lv_iadd hx hb dX10_hasColumn_22 ?_
    refine r_iald C hW h dX10_hasColumn_23 (fun v2 h => ?_)
    refine lv_iload_n hx hb dX10_hasColumn_24 rfl (lv_at hl 3 rfl) ?_
    refine lv_ishr hx hb dX10_hasColumn_25 ?_
    refine lv_iconst (v := 1) hx hb dX10_hasColumn_26 (by decide) ?_
    refine lv_iand hx hb dX10_hasColumn_27 ?_
    refine lv_iconst (v := 1) hx hb dX10_hasColumn_28 (by decide) ?_
    refine r_brn h (lv_icmp_ne (tgt := 36) hx hb dX10_hasColumn_29 (by decide)) (fun h => ?_) (fun h => ?_)
    · refine lv_iconst (v := 0) hx hb dX10_hasColumn_36 (by decide) ?_
      exact r_iret C hW (rt_R h) rfl dX10_hasColumn_37
    · refine lv_iconst (v := 1) hx hb dX10_hasColumn_32 (by decide) ?_
      refine lv_goto (tgt := 37) hx hb dX10_hasColumn_33 (by decide) ?_
      exact r_iret C hW (rt_R h) rfl dX10_hasColumn_37
theorem kd_X10_nameAt {X : Mx} {r : Int32} {a : Nat} {x1 : Int32} {x2 : Int32} {x3 : Int32} (h : f_X10_nameAt σ X a x1 x2 x3 = some r) : shK σ a = 8 := (grd_inv h).1
set_option maxRecDepth 20000 in
set_option maxHeartbeats 2000000 in
theorem t_X10_nameAt {X : Mx} {r : Int32} {a : Nat} {x1 : Int32} {x2 : Int32} {x3 : Int32} (h : f_X10_nameAt σ X a x1 x2 x3 = some r) : MtI g l yX10_nameAt cX10_nameAt 4 (some .int) 0 0 [.ref a, .int x1, .int x2, .int x3] σ X (r, X) := by
  refine met_of mk_X10_nameAt (Nat.le_of_ble_eq_true rfl) (fun p e s m args below meth c ls C hW hl => ?_)
  have hx := C.x
  have hb := C.b
  have hl : lv_has ls 4 [(0, .ref a), (1, .int x1), (2, .int x2), (3, .int x3)] := hl
  unfold f_X10_nameAt at h
  obtain ⟨hk0, h⟩ := grd_inv h
  refine lv_aload_n hx hb dX10_nameAt_0 rfl (lv_at hl 0 rfl) ?_
  refine r_gR C hW h fl_X10_20 (by decide) dX10_nameAt_1 (fun b1 h => ?_)
  refine lv_iload_n hx hb dX10_nameAt_4 rfl (lv_at hl 1 rfl) ?_
  refine lv_sipush (v := 200) hx hb dX10_nameAt_5 (by decide) ?_
  refine lv_iload_n hx hb dX10_nameAt_8 rfl (lv_at hl 2 rfl) ?_
  refine lv_imul hx hb dX10_nameAt_9 ?_
  refine lv_iadd hx hb dX10_nameAt_10 ?_
  refine lv_iconst (v := 2) hx hb dX10_nameAt_11 (by decide) ?_
  refine lv_iadd hx hb dX10_nameAt_12 ?_
  refine lv_iload_n hx hb dX10_nameAt_13 rfl (lv_at hl 3 rfl) ?_
  refine lv_iadd hx hb dX10_nameAt_14 ?_
  refine r_iald C hW h dX10_nameAt_15 (fun v2 h => ?_)
  exact r_iret C hW (rt_R h) rfl dX10_nameAt_16
set_option maxRecDepth 20000 in
set_option maxHeartbeats 2000000 in
theorem b_X10_hasName_35 {k3 : Int32 → Option Int32} {a : Nat} {x1 : Int32} {x2 : Int32} {x3 : Int32} {x4 : Int32} (C : Cx g RX10 cX10_hasName 5 (some .boolean) p s m args meth c) {r : Int32} {X : Mx} (hk3 : ∀ {H' : Heap} {locs' : List Loc} {ls' : Array Slot} {x4' : Int32}, Wd g σ X s H' locs' → lv_has ls' 5 [(0, .ref a), (1, .int x1), (2, .int x2), (3, .int x3), (4, .int x4')] → k3 x4' = some r → W p l e (rmZ 2 45) s m args below meth c H' locs' 0 0 (QI g σ below args s (r, X)) (F0 m 3 ls' [])) (hW : Wd g σ X s H locs) (hl : lv_has ls 5 [(0, .ref a), (1, .int x1), (2, .int x2), (3, .int x3), (4, .int x4)]) (h : f_X10_hasName_35 k3 σ X a x1 x2 x3 x4 = some r) : W p l e (rmZ 2 45) s m args below meth c H locs 0 0 (QI g σ below args s (r, X)) (F0 m 35 ls []) := by
  have hx := C.x
  have hb := C.b
  unfold f_X10_hasName_35 at h
  refine lv_iinc (v := (x4 + 1)) (lv' := [(4, .int (x4 + 1)), (0, .ref a), (1, .int x1), (2, .int x2), (3, .int x3)]) hx hb dX10_hasName_35 hl (k := 4) rfl rfl (by decide) rfl (fun ls hl => ?_)
  refine lv_goto (tgt := 3) hx hb dX10_hasName_38 (by decide) ?_
  exact hk3 hW (lv_sub hl [1, 2, 3, 4, 0] rfl) h
set_option maxRecDepth 20000 in
set_option maxHeartbeats 2000000 in
theorem b_X10_hasName_3 {a : Nat} {x1 : Int32} {x2 : Int32} {x3 : Int32} (C : Cx g RX10 cX10_hasName 5 (some .boolean) p s m args meth c) {r : Int32} {X : Mx} : ∀ (n : Nat) {x4 : Int32} {H : Heap} {locs : List Loc} {ls : Array Slot} (hW : Wd g σ X s H locs) (hl : lv_has ls 5 [(0, .ref a), (1, .int x1), (2, .int x2), (3, .int x3), (4, .int x4)]) (h : f_X10_hasName_3 σ X a x1 x2 x3 n x4 = some r), W p l e (rmZ 2 45) s m args below meth c H locs 0 0 (QI g σ below args s (r, X)) (F0 m 3 ls []) := by
  have hx := C.x
  have hb := C.b
  intro n
  induction n with
  | zero =>
    intro x4 H locs ls hW hl h
    cases (show none = some r from h)
  | succ n ih =>
    intro x4 H locs ls hW hl h
    rw [f_X10_hasName_3] at h
    refine lv_iload hx hb dX10_hasName_3 (lv_at hl 4 rfl) ?_
    refine lv_bipush (v := 9) hx hb dX10_hasName_5 (by decide) ?_
    refine r_br h (lv_icmp_ge (tgt := 41) hx hb dX10_hasName_7 (by decide)) (fun h => ?_) (fun h => ?_)
    · refine lv_iconst (v := 0) hx hb dX10_hasName_41 (by decide) ?_
      exact r_iret C hW (rt_R h) rfl dX10_hasName_42
    · refine lv_aload_n hx hb dX10_hasName_10 rfl (lv_at hl 0 rfl) ?_
      refine lv_iload_n hx hb dX10_hasName_11 rfl (lv_at hl 1 rfl) ?_
      refine lv_iload_n hx hb dX10_hasName_12 rfl (lv_at hl 2 rfl) ?_
      refine lv_iload hx hb dX10_hasName_13 (lv_at hl 4 rfl) ?_
      obtain ⟨v2, h1, h⟩ := bnd_inv h
      refine r_cI hW (run_V (rest := []) C hW (t_X10_hasColumn h1) mk_X10_hasColumn vk_X10_234 (kd_X10_hasColumn h1) rfl rfl (by decide) ⟨Nat.le_of_ble_eq_true rfl, Nat.le_of_ble_eq_true rfl⟩ ⟨Nat.zero_le _, Nat.zero_le _⟩ rfl rfl (Nat.le_of_ble_eq_true rfl) hl.1 dX10_hasName_15) (fun H locs hW _ => ?_)
      refine r_br h (lv_if_eq (tgt := 35) hx hb dX10_hasName_18 (by decide)) (fun h => ?_) (fun h => ?_)
      · exact b_X10_hasName_35 C (fun hW hl h => ih hW hl h) hW (lv_sub hl [0, 1, 2, 3, 4] rfl) h
      · refine lv_aload_n hx hb dX10_hasName_21 rfl (lv_at hl 0 rfl) ?_
        refine lv_iload_n hx hb dX10_hasName_22 rfl (lv_at hl 1 rfl) ?_
        refine lv_iload_n hx hb dX10_hasName_23 rfl (lv_at hl 2 rfl) ?_
        refine lv_iload hx hb dX10_hasName_24 (lv_at hl 4 rfl) ?_
        obtain ⟨v4, h3, h⟩ := bnd_inv h
        refine r_cI hW (run_V (rest := []) C hW (t_X10_nameAt h3) mk_X10_nameAt vk_X10_237 (kd_X10_nameAt h3) rfl rfl (by decide) ⟨Nat.le_of_ble_eq_true rfl, Nat.le_of_ble_eq_true rfl⟩ ⟨Nat.zero_le _, Nat.zero_le _⟩ rfl rfl (Nat.le_of_ble_eq_true rfl) hl.1 dX10_hasName_26) (fun H locs hW _ => ?_)
        refine lv_iload_n hx hb dX10_hasName_29 rfl (lv_at hl 3 rfl) ?_
        refine r_brn h (lv_icmp_ne (tgt := 35) hx hb dX10_hasName_30 (by decide)) (fun h => ?_) (fun h => ?_)
        · exact b_X10_hasName_35 C (fun hW hl h => ih hW hl h) hW (lv_sub hl [0, 1, 2, 3, 4] rfl) h
        · refine lv_iconst (v := 1) hx hb dX10_hasName_33 (by decide) ?_
          exact r_iret C hW (rt_R h) rfl dX10_hasName_34
theorem kd_X10_hasName {X : Mx} {r : Int32} {a : Nat} {x1 : Int32} {x2 : Int32} {x3 : Int32} (h : f_X10_hasName σ X a x1 x2 x3 = some r) : shK σ a = 8 := (grd_inv h).1
set_option maxRecDepth 20000 in
set_option maxHeartbeats 2000000 in
theorem t_X10_hasName {X : Mx} {r : Int32} {a : Nat} {x1 : Int32} {x2 : Int32} {x3 : Int32} (h : f_X10_hasName σ X a x1 x2 x3 = some r) : MtI g l yX10_hasName cX10_hasName 5 (some .boolean) 2 45 [.ref a, .int x1, .int x2, .int x3] σ X (r, X) := by
  refine met_of mk_X10_hasName (Nat.le_of_ble_eq_true rfl) (fun p e s m args below meth c ls C hW hl => ?_)
  have hx := C.x
  have hb := C.b
  have hl : lv_has ls 5 [(0, .ref a), (1, .int x1), (2, .int x2), (3, .int x3)] := hl
  unfold f_X10_hasName at h
  obtain ⟨hk0, h⟩ := grd_inv h
  refine lv_iconst (v := 0) hx hb dX10_hasName_0 (by decide) ?_
  refine lv_istore (lv' := [(4, .int 0), (0, .ref a), (1, .int x1), (2, .int x2), (3, .int x3)]) hx hb dX10_hasName_1 hl (by decide) rfl (fun ls hl => ?_)
  exact b_X10_hasName_3 C FU hW (lv_sub hl [1, 2, 3, 4, 0] rfl) h
set_option maxRecDepth 20000 in
set_option maxHeartbeats 2000000 in
theorem b_X10_readsColumn_34 {a : Nat} {x1 : Int32} {x2 : Int32} (C : Cx g RX10 cX10_readsColumn 4 none p s m args meth c) {r : Mx} {X : Mx} (hW : Wd g σ X s H locs) (hl : lv_has ls 4 [(0, .ref a), (1, .int x1), (2, .int x2)]) (h : f_X10_readsColumn_34 σ a x1 x2 X = some r) : W p l e (rmZ 4 89) s m args below meth c H locs 0 0 (QV g σ below args s r) (F0 m 34 ls []) := by
  have hx := C.x
  have hb := C.b
  unfold f_X10_readsColumn_34 at h
  refine lv_aload_n hx hb dX10_readsColumn_34 rfl (lv_at hl 0 rfl) ?_
  obtain ⟨v2, h1, h⟩ := bnd_inv h
  refine r_cI hW (run_V (rest := []) C hW (t_X10_isGood h1) mk_X10_isGood vk_X10_124 (kd_X10_isGood h1) rfl rfl (by decide) ⟨Nat.le_of_ble_eq_true rfl, Nat.le_of_ble_eq_true rfl⟩ ⟨Nat.zero_le _, Nat.zero_le _⟩ rfl rfl (Nat.le_of_ble_eq_true rfl) hl.1 dX10_readsColumn_35) (fun H locs hW _ => ?_)
  refine r_brn h (lv_if_ne (tgt := 42) hx hb dX10_readsColumn_38 (by decide)) (fun h => ?_) (fun h => ?_)
  · refine lv_aload_n hx hb dX10_readsColumn_42 rfl (lv_at hl 0 rfl) ?_
    obtain ⟨X4, h3, h⟩ := bnd_inv h
    refine r_cV hW (run_V (rest := []) C hW (t_X10_goes h3) mk_X10_goes vk_X10_128 (kd_X10_goes h3) rfl rfl (by decide) ⟨Nat.le_of_ble_eq_true rfl, Nat.le_of_ble_eq_true rfl⟩ ⟨Nat.zero_le _, Nat.zero_le _⟩ rfl rfl (Nat.le_of_ble_eq_true rfl) hl.1 dX10_readsColumn_43) (fun H locs hW _ => ?_)
    refine lv_aload_n hx hb dX10_readsColumn_46 rfl (lv_at hl 0 rfl) ?_
    obtain ⟨v7, X6, h5, h⟩ := bnd2_inv h
    refine r_cI hW (run_V (rest := []) C hW (t_X10_typeOf h5) mk_X10_typeOf vk_X10_157 (kd_X10_typeOf h5) rfl rfl (by decide) ⟨Nat.le_of_ble_eq_true rfl, Nat.le_of_ble_eq_true rfl⟩ ⟨Nat.zero_le _, Nat.zero_le _⟩ rfl rfl (Nat.le_of_ble_eq_true rfl) hl.1 dX10_readsColumn_47) (fun H locs hW _ => ?_)
    refine lv_istore_n (lv' := [(3, .int v7), (0, .ref a), (1, .int x1), (2, .int x2)]) hx hb dX10_readsColumn_50 rfl hl (by decide) rfl (fun ls hl => ?_)
    refine lv_aload_n hx hb dX10_readsColumn_51 rfl (lv_at hl 1 rfl) ?_
    obtain ⟨v9, h8, h⟩ := bnd_inv h
    refine r_cI hW (run_V (rest := []) C hW (t_X10_isGood h8) mk_X10_isGood vk_X10_124 (kd_X10_isGood h8) rfl rfl (by decide) ⟨Nat.le_of_ble_eq_true rfl, Nat.le_of_ble_eq_true rfl⟩ ⟨Nat.zero_le _, Nat.zero_le _⟩ rfl rfl (Nat.le_of_ble_eq_true rfl) hl.1 dX10_readsColumn_52) (fun H locs hW _ => ?_)
    refine r_brn h (lv_if_ne (tgt := 59) hx hb dX10_readsColumn_55 (by decide)) (fun h => ?_) (fun h => ?_)
    · refine lv_aload_n hx hb dX10_readsColumn_59 rfl (lv_at hl 1 rfl) ?_
      refine r_gR C hW h fl_X10_20 (by decide) dX10_readsColumn_60 (fun b10 h => ?_)
      refine lv_sipush (v := 1331) hx hb dX10_readsColumn_63 (by decide) ?_
      refine lv_dup2_11 hx hb dX10_readsColumn_66 rfl rfl ?_
      refine r_iald C hW h dX10_readsColumn_67 (fun v11 h => ?_)
      refine lv_iconst (v := 1) hx hb dX10_readsColumn_68 (by decide) ?_
      refine lv_iload_n hx hb dX10_readsColumn_69 rfl (lv_at hl 2 rfl) ?_
      refine lv_ishl hx hb dX10_readsColumn_70 ?_
      refine lv_ior hx hb dX10_readsColumn_71 ?_
      refine r_iast C hW h dX10_readsColumn_72 (fun X12 H locs h hW _ => ?_)
      refine lv_aload_n hx hb dX10_readsColumn_73 rfl (lv_at hl 1 rfl) ?_
      refine r_gR C hW h fl_X10_20 (by decide) dX10_readsColumn_74 (fun b13 h => ?_)
      refine lv_sipush (v := 1333) hx hb dX10_readsColumn_77 (by decide) ?_
      refine lv_iload_n hx hb dX10_readsColumn_80 rfl (lv_at hl 2 rfl) ?_
      refine lv_iadd hx hb dX10_readsColumn_81 ?_
      refine lv_iload_n hx hb dX10_readsColumn_82 rfl (lv_at hl 3 rfl) ?_
      refine r_iast C hW h dX10_readsColumn_83 (fun X14 H locs h hW _ => ?_)
      refine lv_aload_n hx hb dX10_readsColumn_84 rfl (lv_at hl 1 rfl) ?_
      refine r_gR C hW h fl_X10_20 (by decide) dX10_readsColumn_85 (fun b15 h => ?_)
      refine lv_sipush (v := 1342) hx hb dX10_readsColumn_88 (by decide) ?_
      refine lv_iload_n hx hb dX10_readsColumn_91 rfl (lv_at hl 2 rfl) ?_
      refine lv_iadd hx hb dX10_readsColumn_92 ?_
      refine lv_iload_n hx hb dX10_readsColumn_93 rfl (lv_at hl 0 rfl) ?_
      refine r_iast C hW h dX10_readsColumn_94 (fun X16 H locs h hW _ => ?_)
      refine lv_aload_n hx hb dX10_readsColumn_95 rfl (lv_at hl 1 rfl) ?_
      refine lv_dup hx hb dX10_readsColumn_96 rfl ?_
      refine r_gI C hW h fl_X10_147 (by decide) dX10_readsColumn_97 (fun v17 h => ?_)
      refine lv_iconst (v := 1) hx hb dX10_readsColumn_100 (by decide) ?_
      refine lv_iadd hx hb dX10_readsColumn_101 ?_
      refine r_pI C hW h pf_X10_147 (by decide) rfl rfl dX10_readsColumn_102 (fun X18 H locs h hW _ => ?_)
      exact r_vret C hW (Option.some.inj h).symm dX10_readsColumn_105
    · exact r_vret C hW (Option.some.inj h).symm dX10_readsColumn_58
  · exact r_vret C hW (Option.some.inj h).symm dX10_readsColumn_41
theorem kd_X10_readsColumn {X : Mx} {r : Mx} {a : Nat} (h : f_X10_readsColumn σ X a = some r) : shK σ a = 8 := (grd_inv h).1
set_option maxRecDepth 20000 in
set_option maxHeartbeats 2000000 in
theorem t_X10_readsColumn {X : Mx} {r : Mx} {a : Nat} (h : f_X10_readsColumn σ X a = some r) : MtV g l yX10_readsColumn cX10_readsColumn 4 none 4 89 [.ref a] σ X r := by
  refine met_of mk_X10_readsColumn (Nat.le_of_ble_eq_true rfl) (fun p e s m args below meth c ls C hW hl => ?_)
  have hx := C.x
  have hb := C.b
  have hl : lv_has ls 4 [(0, .ref a)] := hl
  unfold f_X10_readsColumn at h
  obtain ⟨hk0, h⟩ := grd_inv h
  refine lv_aload_n hx hb dX10_readsColumn_0 rfl (lv_at hl 0 rfl) ?_
  refine r_gI C hW h fl_X10_147 (by decide) dX10_readsColumn_1 (fun v1 h => ?_)
  refine lv_istore_n (lv' := [(1, .int v1), (0, .ref a)]) hx hb dX10_readsColumn_4 rfl hl (by decide) rfl (fun ls hl => ?_)
  refine lv_aload_n hx hb dX10_readsColumn_5 rfl (lv_at hl 1 rfl) ?_
  obtain ⟨v4, X3, h2, h⟩ := bnd2_inv h
  refine r_cI hW (run_V (rest := []) C hW (t_X10_nameHere h2) mk_X10_nameHere vk_X10_150 (kd_X10_nameHere h2) rfl rfl (by decide) ⟨Nat.le_of_ble_eq_true rfl, Nat.le_of_ble_eq_true rfl⟩ ⟨Nat.zero_le _, Nat.zero_le _⟩ rfl rfl (Nat.le_of_ble_eq_true rfl) hl.1 dX10_readsColumn_6) (fun H locs hW _ => ?_)
  refine lv_istore_n (lv' := [(2, .int v4), (1, .int v1), (0, .ref a)]) hx hb dX10_readsColumn_9 rfl hl (by decide) rfl (fun ls hl => ?_)
  refine lv_aload_n hx hb dX10_readsColumn_10 rfl (lv_at hl 2 rfl) ?_
  obtain ⟨v6, h5, h⟩ := bnd_inv h
  refine r_cI hW (run_V (rest := []) C hW (t_X10_isGood h5) mk_X10_isGood vk_X10_124 (kd_X10_isGood h5) rfl rfl (by decide) ⟨Nat.le_of_ble_eq_true rfl, Nat.le_of_ble_eq_true rfl⟩ ⟨Nat.zero_le _, Nat.zero_le _⟩ rfl rfl (Nat.le_of_ble_eq_true rfl) hl.1 dX10_readsColumn_11) (fun H locs hW _ => ?_)
  refine r_br h (lv_if_eq (tgt := 34) hx hb dX10_readsColumn_14 (by decide)) (fun h => ?_) (fun h => ?_)
  · exact b_X10_readsColumn_34 C hW (lv_sub hl [2, 1, 0] rfl) h
  · refine lv_aload_n hx hb dX10_readsColumn_17 rfl (lv_at hl 2 rfl) ?_
    refine lv_sipush (v := 931) hx hb dX10_readsColumn_18 (by decide) ?_
    refine lv_iconst (v := 2) hx hb dX10_readsColumn_21 (by decide) ?_
    refine lv_iload_n hx hb dX10_readsColumn_22 rfl (lv_at hl 0 rfl) ?_
    obtain ⟨v8, h7, h⟩ := bnd_inv h
    refine r_cI hW (run_V (rest := []) C hW (t_X10_hasName h7) mk_X10_hasName vk_X10_153 (kd_X10_hasName h7) rfl rfl (by decide) ⟨Nat.le_of_ble_eq_true rfl, Nat.le_of_ble_eq_true rfl⟩ ⟨Nat.zero_le _, Nat.zero_le _⟩ rfl rfl (Nat.le_of_ble_eq_true rfl) hl.1 dX10_readsColumn_23) (fun H locs hW _ => ?_)
    refine r_br h (lv_if_eq (tgt := 34) hx hb dX10_readsColumn_26 (by decide)) (fun h => ?_) (fun h => ?_)
    · exact b_X10_readsColumn_34 C hW (lv_sub hl [2, 1, 0] rfl) h
    · refine lv_aload_n hx hb dX10_readsColumn_29 rfl (lv_at hl 2 rfl) ?_
      refine lv_iconst (v := 4) hx hb dX10_readsColumn_30 (by decide) ?_
      obtain ⟨X10, h9, h⟩ := bnd_inv h
      refine r_cV hW (run_V (rest := []) C hW (t_X10_wrong h9) mk_X10_wrong vk_X10_131 (kd_X10_wrong h9) rfl rfl (by decide) ⟨Nat.le_of_ble_eq_true rfl, Nat.le_of_ble_eq_true rfl⟩ ⟨Nat.zero_le _, Nat.zero_le _⟩ rfl rfl (Nat.le_of_ble_eq_true rfl) hl.1 dX10_readsColumn_31) (fun H locs hW _ => ?_)
      exact b_X10_readsColumn_34 C hW (lv_sub hl [2, 1, 0] rfl) h
set_option maxRecDepth 20000 in
set_option maxHeartbeats 2000000 in
theorem t_X10_cellAt {X : Mx} {x0 : Int32} {x1 : Int32} {x2 : Int32} {x3 : Int32} : MtI g l yX10_cellAt cX10_cellAt 4 (some .int) 0 0 [.int x0, .int x1, .int x2, .int x3] σ X (f_X10_cellAt x0 x1 x2 x3, X) := by
  obtain ⟨r, h⟩ : ∃ r, f_X10_cellAt x0 x1 x2 x3 = r := ⟨_, rfl⟩
  rw [h]
  refine met_of mk_X10_cellAt (Nat.le_of_ble_eq_true rfl) (fun p e s m args below meth c ls C hW hl => ?_)
  have hx := C.x
  have hb := C.b
  have hl : lv_has ls 4 [(0, .int x0), (1, .int x1), (2, .int x2), (3, .int x3)] := hl
  unfold f_X10_cellAt at h
  refine lv_iload_n hx hb dX10_cellAt_0 rfl (lv_at hl 0 rfl) ?_
  refine lv_sipush (v := 200) hx hb dX10_cellAt_1 (by decide) ?_
  refine lv_iload_n hx hb dX10_cellAt_4 rfl (lv_at hl 1 rfl) ?_
  refine lv_imul hx hb dX10_cellAt_5 ?_
  refine lv_iadd hx hb dX10_cellAt_6 ?_
  refine lv_bipush (v := 20) hx hb dX10_cellAt_7 (by decide) ?_
  refine lv_iadd hx hb dX10_cellAt_9 ?_
  refine lv_bipush (v := 9) hx hb dX10_cellAt_10 (by decide) ?_
  refine lv_iload_n hx hb dX10_cellAt_12 rfl (lv_at hl 2 rfl) ?_
  refine lv_imul hx hb dX10_cellAt_13 ?_
  refine lv_iadd hx hb dX10_cellAt_14 ?_
  refine lv_iload_n hx hb dX10_cellAt_15 rfl (lv_at hl 3 rfl) ?_
  refine lv_iadd hx hb dX10_cellAt_16 ?_
  exact r_iret C hW (rt_T h) rfl dX10_cellAt_17
set_option maxRecDepth 20000 in
set_option maxHeartbeats 2000000 in
theorem t_X10_doesHold {X : Mx} {r : Int32} {x0 : Int32} {x1 : Int32} (h : f_X10_doesHold x0 x1 = some r) : MtI g l yX10_doesHold cX10_doesHold 2 (some .boolean) 1 22 [.int x0, .int x1] σ X (r, X) := by
  refine met_of mk_X10_doesHold (Nat.le_of_ble_eq_true rfl) (fun p e s m args below meth c ls C hW hl => ?_)
  have hx := C.x
  have hb := C.b
  have hl : lv_has ls 2 [(0, .int x0), (1, .int x1)] := hl
  unfold f_X10_doesHold at h
  refine lv_iload_n hx hb dX10_doesHold_0 rfl (lv_at hl 1 rfl) ?_
  refine lv_sipush (v := 9999) hx hb dX10_doesHold_1 (by decide) ?_
  refine r_brn h (lv_icmp_ne (tgt := 9) hx hb dX10_doesHold_4 (by decide)) (fun h => ?_) (fun h => ?_)
  · refine lv_iload_n hx hb dX10_doesHold_9 rfl (lv_at hl 0 rfl) ?_
    refine r_case h (fun ec h => ?_) (fun nc0 h => ?_)
    · refine lv_tableIn (tgt := 36) (off := 26) hx hb dX10_doesHold_10 (by rw [ec]; decide) (by rw [ec]; decide) (by rw [ec]; rfl) (by decide) ?_
      refine lv_iload_n hx hb dX10_doesHold_36 rfl (lv_at hl 1 rfl) ?_
      refine lv_sipush (v := (-999)) hx hb dX10_doesHold_37 (by decide) ?_
      refine lv_sipush (v := 999) hx hb dX10_doesHold_40 (by decide) ?_
      refine r_cI hW (run_S (rest := []) C hW (t_X10_within (X := X)) mk_X10_within sk_X10_231 ⟨Nat.le_of_ble_eq_true rfl, Nat.le_of_ble_eq_true rfl⟩ ⟨Nat.zero_le _, Nat.zero_le _⟩ rfl rfl (Nat.le_of_ble_eq_true rfl) hl.1 dX10_doesHold_43) (fun H locs hW _ => ?_)
      obtain ⟨hz, h⟩ := grd_inv h
      exact r_iret C hW (rt_R h) (zb hz) dX10_doesHold_46
    refine r_case h (fun ec h => ?_) (fun nc1 h => ?_)
    · refine lv_tableIn (tgt := 47) (off := 37) hx hb dX10_doesHold_10 (by rw [ec]; decide) (by rw [ec]; decide) (by rw [ec]; rfl) (by decide) ?_
      refine lv_iload_n hx hb dX10_doesHold_47 rfl (lv_at hl 1 rfl) ?_
      refine lv_iconst (v := 0) hx hb dX10_doesHold_48 (by decide) ?_
      refine lv_bipush (v := 9) hx hb dX10_doesHold_49 (by decide) ?_
      refine r_cI hW (run_S (rest := []) C hW (t_X10_within (X := X)) mk_X10_within sk_X10_231 ⟨Nat.le_of_ble_eq_true rfl, Nat.le_of_ble_eq_true rfl⟩ ⟨Nat.zero_le _, Nat.zero_le _⟩ rfl rfl (Nat.le_of_ble_eq_true rfl) hl.1 dX10_doesHold_51) (fun H locs hW _ => ?_)
      obtain ⟨hz, h⟩ := grd_inv h
      exact r_iret C hW (rt_R h) (zb hz) dX10_doesHold_54
    refine r_case h (fun ec h => ?_) (fun nc2 h => ?_)
    · refine lv_tableIn (tgt := 55) (off := 45) hx hb dX10_doesHold_10 (by rw [ec]; decide) (by rw [ec]; decide) (by rw [ec]; rfl) (by decide) ?_
      refine lv_iload_n hx hb dX10_doesHold_55 rfl (lv_at hl 1 rfl) ?_
      refine lv_sipush (v := (-998)) hx hb dX10_doesHold_56 (by decide) ?_
      refine lv_sipush (v := 998) hx hb dX10_doesHold_59 (by decide) ?_
      refine r_cI hW (run_S (rest := []) C hW (t_X10_within (X := X)) mk_X10_within sk_X10_231 ⟨Nat.le_of_ble_eq_true rfl, Nat.le_of_ble_eq_true rfl⟩ ⟨Nat.zero_le _, Nat.zero_le _⟩ rfl rfl (Nat.le_of_ble_eq_true rfl) hl.1 dX10_doesHold_62) (fun H locs hW _ => ?_)
      refine r_br h (lv_if_eq (tgt := 78) hx hb dX10_doesHold_65 (by decide)) (fun h => ?_) (fun h => ?_)
      · refine lv_iconst (v := 0) hx hb dX10_doesHold_78 (by decide) ?_
        exact r_iret C hW (rt_R h) rfl dX10_doesHold_79
      · refine lv_iload_n hx hb dX10_doesHold_68 rfl (lv_at hl 1 rfl) ?_
        refine lv_iconst (v := 2) hx hb dX10_doesHold_69 (by decide) ?_
        refine lv_irem hx hb dX10_doesHold_70 (by decide) ?_
        refine r_brn h (lv_if_ne (tgt := 78) hx hb dX10_doesHold_71 (by decide)) (fun h => ?_) (fun h => ?_)
        · refine lv_iconst (v := 0) hx hb dX10_doesHold_78 (by decide) ?_
          exact r_iret C hW (rt_R h) rfl dX10_doesHold_79
        · refine lv_iconst (v := 1) hx hb dX10_doesHold_74 (by decide) ?_
          refine lv_goto (tgt := 79) hx hb dX10_doesHold_75 (by decide) ?_
          exact r_iret C hW (rt_R h) rfl dX10_doesHold_79
    refine lv_tableOut (tgt := 80) hx hb dX10_doesHold_10 (sw_out (lo := 0) (n := 2) (sw_s nc2 (sw_s nc1 (sw_0 nc0))) (by decide)) (by decide) ?_
    refine lv_iload_n hx hb dX10_doesHold_80 rfl (lv_at hl 1 rfl) ?_
    refine lv_iconst (v := 0) hx hb dX10_doesHold_81 (by decide) ?_
    refine lv_iconst (v := 1) hx hb dX10_doesHold_82 (by decide) ?_
    refine r_cI hW (run_S (rest := []) C hW (t_X10_within (X := X)) mk_X10_within sk_X10_231 ⟨Nat.le_of_ble_eq_true rfl, Nat.le_of_ble_eq_true rfl⟩ ⟨Nat.zero_le _, Nat.zero_le _⟩ rfl rfl (Nat.le_of_ble_eq_true rfl) hl.1 dX10_doesHold_83) (fun H locs hW _ => ?_)
    obtain ⟨hz, h⟩ := grd_inv h
    exact r_iret C hW (rt_R h) (zb hz) dX10_doesHold_86
  · refine lv_iconst (v := 1) hx hb dX10_doesHold_7 (by decide) ?_
    exact r_iret C hW (rt_R h) rfl dX10_doesHold_8
theorem kd_X10_hasRow {X : Mx} {r : Int32} {a : Nat} {x1 : Int32} {x2 : Int32} {x3 : Int32} (h : f_X10_hasRow σ X a x1 x2 x3 = some r) : shK σ a = 8 := (grd_inv h).1
set_option maxRecDepth 20000 in
set_option maxHeartbeats 2000000 in
theorem t_X10_hasRow {X : Mx} {r : Int32} {a : Nat} {x1 : Int32} {x2 : Int32} {x3 : Int32} (h : f_X10_hasRow σ X a x1 x2 x3 = some r) : MtI g l yX10_hasRow cX10_hasRow 4 (some .boolean) 1 22 [.ref a, .int x1, .int x2, .int x3] σ X (r, X) := by
  refine met_of mk_X10_hasRow (Nat.le_of_ble_eq_true rfl) (fun p e s m args below meth c ls C hW hl => ?_)
  have hx := C.x
  have hb := C.b
  have hl : lv_has ls 4 [(0, .ref a), (1, .int x1), (2, .int x2), (3, .int x3)] := hl
  unfold f_X10_hasRow at h
  obtain ⟨hk0, h⟩ := grd_inv h
  refine lv_iload_n hx hb dX10_hasRow_0 rfl (lv_at hl 3 rfl) ?_
  refine lv_iconst (v := 0) hx hb dX10_hasRow_1 (by decide) ?_
  refine lv_bipush (v := 19) hx hb dX10_hasRow_2 (by decide) ?_
  refine r_cI hW (run_S (rest := []) C hW (t_X10_within (X := X)) mk_X10_within sk_X10_231 ⟨Nat.le_of_ble_eq_true rfl, Nat.le_of_ble_eq_true rfl⟩ ⟨Nat.zero_le _, Nat.zero_le _⟩ rfl rfl (Nat.le_of_ble_eq_true rfl) hl.1 dX10_hasRow_4) (fun H locs hW _ => ?_)
  refine r_br h (lv_if_eq (tgt := 36) hx hb dX10_hasRow_7 (by decide)) (fun h => ?_) (fun h => ?_)
  · refine lv_iconst (v := 0) hx hb dX10_hasRow_36 (by decide) ?_
    exact r_iret C hW (rt_R h) rfl dX10_hasRow_37
  · refine lv_aload_n hx hb dX10_hasRow_10 rfl (lv_at hl 0 rfl) ?_
    refine r_gR C hW h fl_X10_20 (by decide) dX10_hasRow_11 (fun b1 h => ?_)
    refine lv_iload_n hx hb dX10_hasRow_14 rfl (lv_at hl 1 rfl) ?_
    refine lv_sipush (v := 200) hx hb dX10_hasRow_15 (by decide) ?_
    refine lv_iload_n hx hb dX10_hasRow_18 rfl (lv_at hl 2 rfl) ?_
    refine lv_imul hx hb dX10_hasRow_19 ?_
    refine lv_iadd hx hb dX10_hasRow_20 ?_
    refine lv_iconst (v := 1) hx hb dX10_hasRow_21 (by decide) ?_
    refine lv_iadd hx hb dX10_hasRow_22 ?_
    refine r_iald C hW h dX10_hasRow_23 (fun v2 h => ?_)
    refine lv_iload_n hx hb dX10_hasRow_24 rfl (lv_at hl 3 rfl) ?_
    refine lv_ishr hx hb dX10_hasRow_25 ?_
    refine lv_iconst (v := 1) hx hb dX10_hasRow_26 (by decide) ?_
    refine lv_iand hx hb dX10_hasRow_27 ?_
    refine lv_iconst (v := 1) hx hb dX10_hasRow_28 (by decide) ?_
    refine r_brn h (lv_icmp_ne (tgt := 36) hx hb dX10_hasRow_29 (by decide)) (fun h => ?_) (fun h => ?_)
    · refine lv_iconst (v := 0) hx hb dX10_hasRow_36 (by decide) ?_
      exact r_iret C hW (rt_R h) rfl dX10_hasRow_37
    · refine lv_iconst (v := 1) hx hb dX10_hasRow_32 (by decide) ?_
      refine lv_goto (tgt := 37) hx hb dX10_hasRow_33 (by decide) ?_
      exact r_iret C hW (rt_R h) rfl dX10_hasRow_37
theorem kd_X10_typeAt {X : Mx} {r : Int32} {a : Nat} {x1 : Int32} {x2 : Int32} {x3 : Int32} (h : f_X10_typeAt σ X a x1 x2 x3 = some r) : shK σ a = 8 := (grd_inv h).1
set_option maxRecDepth 20000 in
set_option maxHeartbeats 2000000 in
theorem t_X10_typeAt {X : Mx} {r : Int32} {a : Nat} {x1 : Int32} {x2 : Int32} {x3 : Int32} (h : f_X10_typeAt σ X a x1 x2 x3 = some r) : MtI g l yX10_typeAt cX10_typeAt 4 (some .int) 0 0 [.ref a, .int x1, .int x2, .int x3] σ X (r, X) := by
  refine met_of mk_X10_typeAt (Nat.le_of_ble_eq_true rfl) (fun p e s m args below meth c ls C hW hl => ?_)
  have hx := C.x
  have hb := C.b
  have hl : lv_has ls 4 [(0, .ref a), (1, .int x1), (2, .int x2), (3, .int x3)] := hl
  unfold f_X10_typeAt at h
  obtain ⟨hk0, h⟩ := grd_inv h
  refine lv_aload_n hx hb dX10_typeAt_0 rfl (lv_at hl 0 rfl) ?_
  refine r_gR C hW h fl_X10_20 (by decide) dX10_typeAt_1 (fun b1 h => ?_)
  refine lv_iload_n hx hb dX10_typeAt_4 rfl (lv_at hl 1 rfl) ?_
  refine lv_sipush (v := 200) hx hb dX10_typeAt_5 (by decide) ?_
  refine lv_iload_n hx hb dX10_typeAt_8 rfl (lv_at hl 2 rfl) ?_
  refine lv_imul hx hb dX10_typeAt_9 ?_
  refine lv_iadd hx hb dX10_typeAt_10 ?_
  refine lv_bipush (v := 11) hx hb dX10_typeAt_11 (by decide) ?_
  refine lv_iadd hx hb dX10_typeAt_13 ?_
  refine lv_iload_n hx hb dX10_typeAt_14 rfl (lv_at hl 3 rfl) ?_
  refine lv_iadd hx hb dX10_typeAt_15 ?_
  refine r_iald C hW h dX10_typeAt_16 (fun v2 h => ?_)
  exact r_iret C hW (rt_R h) rfl dX10_typeAt_17
set_option maxRecDepth 20000 in
set_option maxHeartbeats 2000000 in
theorem b_X10_readsRow_127 {a : Nat} {x1 : Int32} (C : Cx g RX10 cX10_readsRow 5 none p s m args meth c) {r : Mx} {X : Mx} (hW : Wd g σ X s H locs) (hl : lv_has ls 5 [(0, .ref a), (1, .int x1)]) (h : f_X10_readsRow_127 σ a x1 X = some r) : W p l e (rmZ 4 86) s m args below meth c H locs 0 0 (QV g σ below args s r) (F0 m 127 ls []) := by
  have hx := C.x
  have hb := C.b
  unfold f_X10_readsRow_127 at h
  refine lv_aload_n hx hb dX10_readsRow_127 rfl (lv_at hl 0 rfl) ?_
  obtain ⟨v2, h1, h⟩ := bnd_inv h
  refine r_cI hW (run_V (rest := []) C hW (t_X10_isGood h1) mk_X10_isGood vk_X10_124 (kd_X10_isGood h1) rfl rfl (by decide) ⟨Nat.le_of_ble_eq_true rfl, Nat.le_of_ble_eq_true rfl⟩ ⟨Nat.zero_le _, Nat.zero_le _⟩ rfl rfl (Nat.le_of_ble_eq_true rfl) hl.1 dX10_readsRow_128) (fun H locs hW _ => ?_)
  refine r_brn h (lv_if_ne (tgt := 135) hx hb dX10_readsRow_131 (by decide)) (fun h => ?_) (fun h => ?_)
  · refine lv_aload_n hx hb dX10_readsRow_135 rfl (lv_at hl 0 rfl) ?_
    refine r_gR C hW h fl_X10_20 (by decide) dX10_readsRow_136 (fun b3 h => ?_)
    refine lv_sipush (v := 1332) hx hb dX10_readsRow_139 (by decide) ?_
    refine lv_dup2_11 hx hb dX10_readsRow_142 rfl rfl ?_
    refine r_iald C hW h dX10_readsRow_143 (fun v4 h => ?_)
    refine lv_iconst (v := 1) hx hb dX10_readsRow_144 (by decide) ?_
    refine lv_iload_n hx hb dX10_readsRow_145 rfl (lv_at hl 1 rfl) ?_
    refine lv_ishl hx hb dX10_readsRow_146 ?_
    refine lv_ior hx hb dX10_readsRow_147 ?_
    refine r_iast C hW h dX10_readsRow_148 (fun X5 H locs h hW _ => ?_)
    refine lv_aload_n hx hb dX10_readsRow_149 rfl (lv_at hl 0 rfl) ?_
    refine lv_dup hx hb dX10_readsRow_150 rfl ?_
    refine r_gI C hW h fl_X10_178 (by decide) dX10_readsRow_151 (fun v6 h => ?_)
    refine lv_iconst (v := 1) hx hb dX10_readsRow_154 (by decide) ?_
    refine lv_iadd hx hb dX10_readsRow_155 ?_
    refine r_pI C hW h pf_X10_178 (by decide) rfl rfl dX10_readsRow_156 (fun X7 H locs h hW _ => ?_)
    exact r_vret C hW (Option.some.inj h).symm dX10_readsRow_159
  · exact r_vret C hW (Option.some.inj h).symm dX10_readsRow_134
set_option maxRecDepth 20000 in
set_option maxHeartbeats 2000000 in
theorem b_X10_readsRow_105 {k45 : Mx → Int32 → Option Mx} {a : Nat} {x1 : Int32} {x2 : Int32} {x4 : Int32} (C : Cx g RX10 cX10_readsRow 5 none p s m args meth c) {r : Mx} {X : Mx} (hk45 : ∀ {H' : Heap} {locs' : List Loc} {ls' : Array Slot} {X' : Mx} {x2' : Int32}, Wd g σ X' s H' locs' → lv_has ls' 5 [(0, .ref a), (1, .int x1), (2, .int x2')] → k45 X' x2' = some r → W p l e (rmZ 4 86) s m args below meth c H' locs' 0 0 (QV g σ below args s r) (F0 m 45 ls' [])) (hW : Wd g σ X s H locs) (hl : lv_has ls 5 [(0, .ref a), (1, .int x1), (2, .int x2), (4, .int x4)]) (h : f_X10_readsRow_105 k45 σ a x1 x2 x4 X = some r) : W p l e (rmZ 4 86) s m args below meth c H locs 0 0 (QV g σ below args s r) (F0 m 105 ls []) := by
  have hx := C.x
  have hb := C.b
  unfold f_X10_readsRow_105 at h
  refine lv_aload_n hx hb dX10_readsRow_105 rfl (lv_at hl 0 rfl) ?_
  refine r_gR C hW h fl_X10_20 (by decide) dX10_readsRow_106 (fun b1 h => ?_)
  refine lv_sipush (v := 931) hx hb dX10_readsRow_109 (by decide) ?_
  refine lv_iconst (v := 2) hx hb dX10_readsRow_112 (by decide) ?_
  refine lv_iload_n hx hb dX10_readsRow_113 rfl (lv_at hl 1 rfl) ?_
  refine lv_iload_n hx hb dX10_readsRow_114 rfl (lv_at hl 2 rfl) ?_
  refine r_cI hW (run_S (rest := [.ref b1]) C hW (t_X10_cellAt (X := X)) mk_X10_cellAt sk_X10_174 ⟨Nat.le_of_ble_eq_true rfl, Nat.le_of_ble_eq_true rfl⟩ ⟨Nat.zero_le _, Nat.zero_le _⟩ rfl rfl (Nat.le_of_ble_eq_true rfl) hl.1 dX10_readsRow_115) (fun H locs hW _ => ?_)
  refine lv_iload hx hb dX10_readsRow_118 (lv_at hl 3 rfl) ?_
  refine r_iast C hW h dX10_readsRow_120 (fun X2 H locs h hW _ => ?_)
  refine lv_iinc (v := (x2 + 1)) (lv' := [(2, .int (x2 + 1)), (0, .ref a), (1, .int x1), (4, .int x4)]) hx hb dX10_readsRow_121 hl (k := 2) rfl rfl (by decide) rfl (fun ls hl => ?_)
  refine lv_goto (tgt := 45) hx hb dX10_readsRow_124 (by decide) ?_
  exact hk45 hW (lv_sub hl [1, 2, 0] rfl) h
set_option maxRecDepth 20000 in
set_option maxHeartbeats 2000000 in
theorem b_X10_readsRow_45 {a : Nat} {x1 : Int32} (C : Cx g RX10 cX10_readsRow 5 none p s m args meth c) {r : Mx} : ∀ (n : Nat) {X : Mx} {x2 : Int32} {H : Heap} {locs : List Loc} {ls : Array Slot} (hW : Wd g σ X s H locs) (hl : lv_has ls 5 [(0, .ref a), (1, .int x1), (2, .int x2)]) (h : f_X10_readsRow_45 σ a x1 n X x2 = some r), W p l e (rmZ 4 86) s m args below meth c H locs 0 0 (QV g σ below args s r) (F0 m 45 ls []) := by
  have hx := C.x
  have hb := C.b
  intro n
  induction n with
  | zero =>
    intro X x2 H locs ls hW hl h
    cases (show none = some r from h)
  | succ n ih =>
    intro X x2 H locs ls hW hl h
    rw [f_X10_readsRow_45] at h
    refine lv_iload_n hx hb dX10_readsRow_45 rfl (lv_at hl 2 rfl) ?_
    refine lv_aload_n hx hb dX10_readsRow_46 rfl (lv_at hl 0 rfl) ?_
    refine r_gI C hW h fl_X10_147 (by decide) dX10_readsRow_47 (fun v1 h => ?_)
    refine r_br h (lv_icmp_ge (tgt := 127) hx hb dX10_readsRow_50 (by decide)) (fun h => ?_) (fun h => ?_)
    · exact b_X10_readsRow_127 C hW (lv_sub hl [0, 1] rfl) h
    · refine lv_aload_n hx hb dX10_readsRow_53 rfl (lv_at hl 0 rfl) ?_
      obtain ⟨v3, h2, h⟩ := bnd_inv h
      refine r_cI hW (run_V (rest := []) C hW (t_X10_isGood h2) mk_X10_isGood vk_X10_124 (kd_X10_isGood h2) rfl rfl (by decide) ⟨Nat.le_of_ble_eq_true rfl, Nat.le_of_ble_eq_true rfl⟩ ⟨Nat.zero_le _, Nat.zero_le _⟩ rfl rfl (Nat.le_of_ble_eq_true rfl) hl.1 dX10_readsRow_54) (fun H locs hW _ => ?_)
      refine r_br h (lv_if_eq (tgt := 127) hx hb dX10_readsRow_57 (by decide)) (fun h => ?_) (fun h => ?_)
      · exact b_X10_readsRow_127 C hW (lv_sub hl [0, 1] rfl) h
      · refine lv_aload_n hx hb dX10_readsRow_60 rfl (lv_at hl 0 rfl) ?_
        refine r_gI C hW h fl_X10_85 (by decide) dX10_readsRow_61 (fun v4 h => ?_)
        refine lv_istore_n (lv' := [(3, .int v4), (0, .ref a), (1, .int x1), (2, .int x2)]) hx hb dX10_readsRow_64 rfl hl (by decide) rfl (fun ls hl => ?_)
        refine lv_aload_n hx hb dX10_readsRow_65 rfl (lv_at hl 1 rfl) ?_
        obtain ⟨v7, X6, h5, h⟩ := bnd2_inv h
        refine r_cI hW (run_V (rest := []) C hW (t_X10_cellOf h5) mk_X10_cellOf vk_X10_163 (kd_X10_cellOf h5) rfl rfl (by decide) ⟨Nat.le_of_ble_eq_true rfl, Nat.le_of_ble_eq_true rfl⟩ ⟨Nat.zero_le _, Nat.zero_le _⟩ rfl rfl (Nat.le_of_ble_eq_true rfl) hl.1 dX10_readsRow_66) (fun H locs hW _ => ?_)
        refine lv_istore (lv' := [(4, .int v7), (3, .int v4), (0, .ref a), (1, .int x1), (2, .int x2)]) hx hb dX10_readsRow_69 hl (by decide) rfl (fun ls hl => ?_)
        refine lv_aload_n hx hb dX10_readsRow_71 rfl (lv_at hl 2 rfl) ?_
        obtain ⟨v9, h8, h⟩ := bnd_inv h
        refine r_cI hW (run_V (rest := []) C hW (t_X10_isGood h8) mk_X10_isGood vk_X10_124 (kd_X10_isGood h8) rfl rfl (by decide) ⟨Nat.le_of_ble_eq_true rfl, Nat.le_of_ble_eq_true rfl⟩ ⟨Nat.zero_le _, Nat.zero_le _⟩ rfl rfl (Nat.le_of_ble_eq_true rfl) hl.1 dX10_readsRow_72) (fun H locs hW _ => ?_)
        refine r_br h (lv_if_eq (tgt := 105) hx hb dX10_readsRow_75 (by decide)) (fun h => ?_) (fun h => ?_)
        · exact b_X10_readsRow_105 C (fun hW hl h => ih hW hl h) hW (lv_sub hl [2, 3, 4, 0] rfl) h
        · refine lv_aload_n hx hb dX10_readsRow_78 rfl (lv_at hl 2 rfl) ?_
          refine lv_sipush (v := 931) hx hb dX10_readsRow_79 (by decide) ?_
          refine lv_iconst (v := 2) hx hb dX10_readsRow_82 (by decide) ?_
          refine lv_iload_n hx hb dX10_readsRow_83 rfl (lv_at hl 4 rfl) ?_
          obtain ⟨v11, h10, h⟩ := bnd_inv h
          refine r_cI hW (run_V (rest := []) C hW (t_X10_typeAt h10) mk_X10_typeAt vk_X10_166 (kd_X10_typeAt h10) rfl rfl (by decide) ⟨Nat.le_of_ble_eq_true rfl, Nat.le_of_ble_eq_true rfl⟩ ⟨Nat.zero_le _, Nat.zero_le _⟩ rfl rfl (Nat.le_of_ble_eq_true rfl) hl.1 dX10_readsRow_84) (fun H locs hW _ => ?_)
          refine lv_iload hx hb dX10_readsRow_87 (lv_at hl 0 rfl) ?_
          obtain ⟨v13, h12, h⟩ := bnd_inv h
          refine r_cI hW (run_S (rest := []) C hW (t_X10_doesHold h12) mk_X10_doesHold sk_X10_170 ⟨Nat.le_of_ble_eq_true rfl, Nat.le_of_ble_eq_true rfl⟩ ⟨Nat.zero_le _, Nat.zero_le _⟩ rfl rfl (Nat.le_of_ble_eq_true rfl) hl.1 dX10_readsRow_89) (fun H locs hW _ => ?_)
          refine r_brn h (lv_if_ne (tgt := 105) hx hb dX10_readsRow_92 (by decide)) (fun h => ?_) (fun h => ?_)
          · exact b_X10_readsRow_105 C (fun hW hl h => ih hW hl h) hW (lv_sub hl [2, 3, 4, 0] rfl) h
          · refine lv_aload_n hx hb dX10_readsRow_95 rfl (lv_at hl 2 rfl) ?_
            refine lv_iconst (v := 5) hx hb dX10_readsRow_96 (by decide) ?_
            obtain ⟨X15, h14, h⟩ := bnd_inv h
            refine r_cV hW (run_V (rest := []) C hW (t_X10_wrong h14) mk_X10_wrong vk_X10_131 (kd_X10_wrong h14) rfl rfl (by decide) ⟨Nat.le_of_ble_eq_true rfl, Nat.le_of_ble_eq_true rfl⟩ ⟨Nat.zero_le _, Nat.zero_le _⟩ rfl rfl (Nat.le_of_ble_eq_true rfl) hl.1 dX10_readsRow_97) (fun H locs hW _ => ?_)
            refine lv_aload_n hx hb dX10_readsRow_100 rfl (lv_at hl 2 rfl) ?_
            refine lv_iload_n hx hb dX10_readsRow_101 rfl (lv_at hl 1 rfl) ?_
            refine r_pI C hW h pf_X10_13 (by decide) rfl rfl dX10_readsRow_102 (fun X16 H locs h hW _ => ?_)
            exact b_X10_readsRow_105 C (fun hW hl h => ih hW hl h) hW (lv_sub hl [2, 3, 4, 0] rfl) h
end
