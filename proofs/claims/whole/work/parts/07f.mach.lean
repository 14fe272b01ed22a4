section
variable {p : Program} {l : Launch} {e : Env} {s : State} {m : MethodId} {args : Array Value} {below : List Frame} {meth : Method} {c : Code} {H : Heap} {locs : List Loc} {g : Gp} {σ : Sh} {ls : Array Slot}
set_option maxRecDepth 20000 in
set_option maxHeartbeats 2000000 in
theorem b_X10_readsRow_31 {a : Nat} {x1 : Int32} (C : Cx g RX10 cX10_readsRow 5 none p s m args meth c) {r : Mx} {X : Mx} (hW : Wd g σ X s H locs) (hl : lv_has ls 5 [(0, .ref a), (1, .int x1)]) (h : f_X10_readsRow_31 σ a x1 X = some r) : W p l e (rmZ 4 86) s m args below meth c H locs 0 0 (QV g σ below args s r) (F0 m 31 ls []) := by
  have hx := C.x
  have hb := C.b
  unfold f_X10_readsRow_31 at h
  refine lv_aload_n hx hb dX10_readsRow_31 rfl (lv_at hl 0 rfl) ?_
  obtain ⟨v2, h1, h⟩ := bnd_inv h
  refine r_cI hW (run_V (rest := []) C hW (t_X10_isGood h1) mk_X10_isGood vk_X10_124 (kd_X10_isGood h1) rfl rfl (by decide) ⟨Nat.le_of_ble_eq_true rfl, Nat.le_of_ble_eq_true rfl⟩ ⟨Nat.zero_le _, Nat.zero_le _⟩ rfl rfl (Nat.le_of_ble_eq_true rfl) hl.1 dX10_readsRow_32) (fun H locs hW _ => ?_)
  refine r_brn h (lv_if_ne (tgt := 39) hx hb dX10_readsRow_35 (by decide)) (fun h => ?_) (fun h => ?_)
  · refine lv_aload_n hx hb dX10_readsRow_39 rfl (lv_at hl 0 rfl) ?_
    obtain ⟨X4, h3, h⟩ := bnd_inv h
    refine r_cV hW (run_V (rest := []) C hW (t_X10_goes h3) mk_X10_goes vk_X10_128 (kd_X10_goes h3) rfl rfl (by decide) ⟨Nat.le_of_ble_eq_true rfl, Nat.le_of_ble_eq_true rfl⟩ ⟨Nat.zero_le _, Nat.zero_le _⟩ rfl rfl (Nat.le_of_ble_eq_true rfl) hl.1 dX10_readsRow_40) (fun H locs hW _ => ?_)
    refine lv_iconst (v := 0) hx hb dX10_readsRow_43 (by decide) ?_
    refine lv_istore_n (lv' := [(2, .int 0), (0, .ref a), (1, .int x1)]) hx hb dX10_readsRow_44 rfl hl (by decide) rfl (fun ls hl => ?_)
    exact b_X10_readsRow_45 C FU hW (lv_sub hl [1, 2, 0] rfl) h
  · exact r_vret C hW (Option.some.inj h).symm dX10_readsRow_38
theorem kd_X10_readsRow {X : Mx} {r : Mx} {a : Nat} (h : f_X10_readsRow σ X a = some r) : shK σ a = 8 := (grd_inv h).1
set_option maxRecDepth 20000 in
set_option maxHeartbeats 2000000 in
theorem t_X10_readsRow {X : Mx} {r : Mx} {a : Nat} (h : f_X10_readsRow σ X a = some r) : MtV g l yX10_readsRow cX10_readsRow 5 none 4 86 [.ref a] σ X r := by
  refine met_of mk_X10_readsRow (Nat.le_of_ble_eq_true rfl) (fun p e s m args below meth c ls C hW hl => ?_)
  have hx := C.x
  have hb := C.b
  have hl : lv_has ls 5 [(0, .ref a)] := hl
  unfold f_X10_readsRow at h
  obtain ⟨hk0, h⟩ := grd_inv h
  refine lv_aload_n hx hb dX10_readsRow_0 rfl (lv_at hl 0 rfl) ?_
  refine lv_bipush (v := 19) hx hb dX10_readsRow_1 (by decide) ?_
  obtain ⟨v3, X2, h1, h⟩ := bnd2_inv h
  refine r_cI hW (run_V (rest := []) C hW (t_X10_numberHere h1) mk_X10_numberHere vk_X10_134 (kd_X10_numberHere h1) rfl rfl (by decide) ⟨Nat.le_of_ble_eq_true rfl, Nat.le_of_ble_eq_true rfl⟩ ⟨Nat.zero_le _, Nat.zero_le _⟩ rfl rfl (Nat.le_of_ble_eq_true rfl) hl.1 dX10_readsRow_3) (fun H locs hW _ => ?_)
  refine lv_istore_n (lv' := [(1, .int v3), (0, .ref a)]) hx hb dX10_readsRow_6 rfl hl (by decide) rfl (fun ls hl => ?_)
  refine lv_aload_n hx hb dX10_readsRow_7 rfl (lv_at hl 1 rfl) ?_
  obtain ⟨v5, h4, h⟩ := bnd_inv h
  refine r_cI hW (run_V (rest := []) C hW (t_X10_isGood h4) mk_X10_isGood vk_X10_124 (kd_X10_isGood h4) rfl rfl (by decide) ⟨Nat.le_of_ble_eq_true rfl, Nat.le_of_ble_eq_true rfl⟩ ⟨Nat.zero_le _, Nat.zero_le _⟩ rfl rfl (Nat.le_of_ble_eq_true rfl) hl.1 dX10_readsRow_8) (fun H locs hW _ => ?_)
  refine r_br h (lv_if_eq (tgt := 31) hx hb dX10_readsRow_11 (by decide)) (fun h => ?_) (fun h => ?_)
  · exact b_X10_readsRow_31 C hW (lv_sub hl [1, 0] rfl) h
  · refine lv_aload_n hx hb dX10_readsRow_14 rfl (lv_at hl 1 rfl) ?_
    refine lv_sipush (v := 931) hx hb dX10_readsRow_15 (by decide) ?_
    refine lv_iconst (v := 2) hx hb dX10_readsRow_18 (by decide) ?_
    refine lv_iload_n hx hb dX10_readsRow_19 rfl (lv_at hl 0 rfl) ?_
    obtain ⟨v7, h6, h⟩ := bnd_inv h
    refine r_cI hW (run_V (rest := []) C hW (t_X10_hasRow h6) mk_X10_hasRow vk_X10_160 (kd_X10_hasRow h6) rfl rfl (by decide) ⟨Nat.le_of_ble_eq_true rfl, Nat.le_of_ble_eq_true rfl⟩ ⟨Nat.zero_le _, Nat.zero_le _⟩ rfl rfl (Nat.le_of_ble_eq_true rfl) hl.1 dX10_readsRow_20) (fun H locs hW _ => ?_)
    refine r_br h (lv_if_eq (tgt := 31) hx hb dX10_readsRow_23 (by decide)) (fun h => ?_) (fun h => ?_)
    · exact b_X10_readsRow_31 C hW (lv_sub hl [1, 0] rfl) h
    · refine lv_aload_n hx hb dX10_readsRow_26 rfl (lv_at hl 1 rfl) ?_
      refine lv_iconst (v := 4) hx hb dX10_readsRow_27 (by decide) ?_
      obtain ⟨X9, h8, h⟩ := bnd_inv h
      refine r_cV hW (run_V (rest := []) C hW (t_X10_wrong h8) mk_X10_wrong vk_X10_131 (kd_X10_wrong h8) rfl rfl (by decide) ⟨Nat.le_of_ble_eq_true rfl, Nat.le_of_ble_eq_true rfl⟩ ⟨Nat.zero_le _, Nat.zero_le _⟩ rfl rfl (Nat.le_of_ble_eq_true rfl) hl.1 dX10_readsRow_28) (fun H locs hW _ => ?_)
      exact b_X10_readsRow_31 C hW (lv_sub hl [1, 0] rfl) h
theorem kd_X10_columnHere {X : Mx} {r : (Int32 × Mx)} {a : Nat} (h : f_X10_columnHere σ X a = some r) : shK σ a = 8 := (grd_inv h).1
set_option maxRecDepth 20000 in
set_option maxHeartbeats 2000000 in
theorem t_X10_columnHere {X : Mx} {r : (Int32 × Mx)} {a : Nat} (h : f_X10_columnHere σ X a = some r) : MtI g l yX10_columnHere cX10_columnHere 2 (some .int) 2 42 [.ref a] σ X r := by
  refine met_of mk_X10_columnHere (Nat.le_of_ble_eq_true rfl) (fun p e s m args below meth c ls C hW hl => ?_)
  have hx := C.x
  have hb := C.b
  have hl : lv_has ls 2 [(0, .ref a)] := hl
  unfold f_X10_columnHere at h
  obtain ⟨hk0, h⟩ := grd_inv h
  refine lv_aload_n hx hb dX10_columnHere_0 rfl (lv_at hl 0 rfl) ?_
  refine lv_sipush (v := 9999) hx hb dX10_columnHere_1 (by decide) ?_
  obtain ⟨v3, X2, h1, h⟩ := bnd2_inv h
  refine r_cI hW (run_V (rest := []) C hW (t_X10_numberHere h1) mk_X10_numberHere vk_X10_134 (kd_X10_numberHere h1) rfl rfl (by decide) ⟨Nat.le_of_ble_eq_true rfl, Nat.le_of_ble_eq_true rfl⟩ ⟨Nat.zero_le _, Nat.zero_le _⟩ rfl rfl (Nat.le_of_ble_eq_true rfl) hl.1 dX10_columnHere_4) (fun H locs hW _ => ?_)
  refine lv_istore_n (lv' := [(1, .int v3), (0, .ref a)]) hx hb dX10_columnHere_7 rfl hl (by decide) rfl (fun ls hl => ?_)
  refine lv_aload_n hx hb dX10_columnHere_8 rfl (lv_at hl 1 rfl) ?_
  obtain ⟨v5, h4, h⟩ := bnd_inv h
  refine r_cI hW (run_V (rest := []) C hW (t_X10_isGood h4) mk_X10_isGood vk_X10_124 (kd_X10_isGood h4) rfl rfl (by decide) ⟨Nat.le_of_ble_eq_true rfl, Nat.le_of_ble_eq_true rfl⟩ ⟨Nat.zero_le _, Nat.zero_le _⟩ rfl rfl (Nat.le_of_ble_eq_true rfl) hl.1 dX10_columnHere_9) (fun H locs hW _ => ?_)
  refine r_br h (lv_if_eq (tgt := 28) hx hb dX10_columnHere_12 (by decide)) (fun h => ?_) (fun h => ?_)
  · refine lv_iload_n hx hb dX10_columnHere_28 rfl (lv_at hl 0 rfl) ?_
    exact r_iret C hW (Option.some.inj h).symm rfl dX10_columnHere_29
  · refine lv_iload_n hx hb dX10_columnHere_15 rfl (lv_at hl 0 rfl) ?_
    refine lv_aload_n hx hb dX10_columnHere_16 rfl (lv_at hl 1 rfl) ?_
    refine r_gI C hW h fl_X10_147 (by decide) dX10_columnHere_17 (fun v6 h => ?_)
    refine r_br h (lv_icmp_lt (tgt := 28) hx hb dX10_columnHere_20 (by decide)) (fun h => ?_) (fun h => ?_)
    · refine lv_iload_n hx hb dX10_columnHere_28 rfl (lv_at hl 0 rfl) ?_
      exact r_iret C hW (Option.some.inj h).symm rfl dX10_columnHere_29
    · refine lv_aload_n hx hb dX10_columnHere_23 rfl (lv_at hl 1 rfl) ?_
      refine lv_iconst (v := 3) hx hb dX10_columnHere_24 (by decide) ?_
      obtain ⟨X8, h7, h⟩ := bnd_inv h
      refine r_cV hW (run_V (rest := []) C hW (t_X10_wrong h7) mk_X10_wrong vk_X10_131 (kd_X10_wrong h7) rfl rfl (by decide) ⟨Nat.le_of_ble_eq_true rfl, Nat.le_of_ble_eq_true rfl⟩ ⟨Nat.zero_le _, Nat.zero_le _⟩ rfl rfl (Nat.le_of_ble_eq_true rfl) hl.1 dX10_columnHere_25) (fun H locs hW _ => ?_)
      refine lv_iload_n hx hb dX10_columnHere_28 rfl (lv_at hl 0 rfl) ?_
      exact r_iret C hW (Option.some.inj h).symm rfl dX10_columnHere_29
set_option maxRecDepth 20000 in
set_option maxHeartbeats 2000000 in
theorem b_X10_readsDemand_68 {a : Nat} {x1 : Int32} {x2 : Int32} {x3 : Int32} {x4 : Int32} (C : Cx g RX10 cX10_readsDemand 5 none p s m args meth c) {r : Mx} {X : Mx} (hW : Wd g σ X s H locs) (hl : lv_has ls 5 [(0, .ref a), (1, .int x1), (2, .int x2), (3, .int x3), (4, .int x4)]) (h : f_X10_readsDemand_68 σ a x1 x2 x3 x4 X = some r) : W p l e (rmZ 3 63) s m args below meth c H locs 0 0 (QV g σ below args s r) (F0 m 68 ls []) := by
  have hx := C.x
  have hb := C.b
  unfold f_X10_readsDemand_68 at h
  refine lv_aload_n hx hb dX10_readsDemand_68 rfl (lv_at hl 0 rfl) ?_
  obtain ⟨v2, h1, h⟩ := bnd_inv h
  refine r_cI hW (run_V (rest := []) C hW (t_X10_isGood h1) mk_X10_isGood vk_X10_124 (kd_X10_isGood h1) rfl rfl (by decide) ⟨Nat.le_of_ble_eq_true rfl, Nat.le_of_ble_eq_true rfl⟩ ⟨Nat.zero_le _, Nat.zero_le _⟩ rfl rfl (Nat.le_of_ble_eq_true rfl) hl.1 dX10_readsDemand_69) (fun H locs hW _ => ?_)
  refine r_brn h (lv_if_ne (tgt := 76) hx hb dX10_readsDemand_72 (by decide)) (fun h => ?_) (fun h => ?_)
  · refine lv_aload_n hx hb dX10_readsDemand_76 rfl (lv_at hl 0 rfl) ?_
    refine r_gR C hW h fl_X10_20 (by decide) dX10_readsDemand_77 (fun b3 h => ?_)
    refine lv_sipush (v := 1532) hx hb dX10_readsDemand_80 (by decide) ?_
    refine lv_iload_n hx hb dX10_readsDemand_83 rfl (lv_at hl 2 rfl) ?_
    refine lv_iadd hx hb dX10_readsDemand_84 ?_
    refine lv_iload_n hx hb dX10_readsDemand_85 rfl (lv_at hl 1 rfl) ?_
    refine r_iast C hW h dX10_readsDemand_86 (fun X4 H locs h hW _ => ?_)
    refine lv_aload_n hx hb dX10_readsDemand_87 rfl (lv_at hl 0 rfl) ?_
    refine r_gR C hW h fl_X10_20 (by decide) dX10_readsDemand_88 (fun b5 h => ?_)
    refine lv_sipush (v := 1536) hx hb dX10_readsDemand_91 (by decide) ?_
    refine lv_iload_n hx hb dX10_readsDemand_94 rfl (lv_at hl 2 rfl) ?_
    refine lv_iadd hx hb dX10_readsDemand_95 ?_
    refine lv_iload_n hx hb dX10_readsDemand_96 rfl (lv_at hl 3 rfl) ?_
    refine r_iast C hW h dX10_readsDemand_97 (fun X6 H locs h hW _ => ?_)
    refine lv_aload_n hx hb dX10_readsDemand_98 rfl (lv_at hl 0 rfl) ?_
    refine r_gR C hW h fl_X10_20 (by decide) dX10_readsDemand_99 (fun b7 h => ?_)
    refine lv_sipush (v := 1540) hx hb dX10_readsDemand_102 (by decide) ?_
    refine lv_iload_n hx hb dX10_readsDemand_105 rfl (lv_at hl 2 rfl) ?_
    refine lv_iadd hx hb dX10_readsDemand_106 ?_
    refine lv_iload hx hb dX10_readsDemand_107 (lv_at hl 4 rfl) ?_
    refine r_iast C hW h dX10_readsDemand_109 (fun X8 H locs h hW _ => ?_)
    refine lv_aload_n hx hb dX10_readsDemand_110 rfl (lv_at hl 0 rfl) ?_
    refine r_gR C hW h fl_X10_20 (by decide) dX10_readsDemand_111 (fun b9 h => ?_)
    refine lv_sipush (v := 1531) hx hb dX10_readsDemand_114 (by decide) ?_
    refine lv_dup2_11 hx hb dX10_readsDemand_117 rfl rfl ?_
    refine r_iald C hW h dX10_readsDemand_118 (fun v10 h => ?_)
    refine lv_iconst (v := 1) hx hb dX10_readsDemand_119 (by decide) ?_
    refine lv_iadd hx hb dX10_readsDemand_120 ?_
    refine r_iast C hW h dX10_readsDemand_121 (fun X11 H locs h hW _ => ?_)
    exact r_vret C hW (Option.some.inj h).symm dX10_readsDemand_122
  · exact r_vret C hW (Option.some.inj h).symm dX10_readsDemand_75
set_option maxRecDepth 20000 in
set_option maxHeartbeats 2000000 in
theorem b_X10_readsDemand_57 {a : Nat} {x1 : Int32} {x2 : Int32} {x3 : Int32} {x4 : Int32} (C : Cx g RX10 cX10_readsDemand 5 none p s m args meth c) {r : Mx} {X : Mx} (hW : Wd g σ X s H locs) (hl : lv_has ls 5 [(0, .ref a), (1, .int x1), (2, .int x2), (3, .int x3), (4, .int x4)]) (h : f_X10_readsDemand_57 σ a x1 x2 x3 x4 X = some r) : W p l e (rmZ 3 63) s m args below meth c H locs 0 0 (QV g σ below args s r) (F0 m 57 ls []) := by
  have hx := C.x
  have hb := C.b
  unfold f_X10_readsDemand_57 at h
  refine lv_aload_n hx hb dX10_readsDemand_57 rfl (lv_at hl 0 rfl) ?_
  obtain ⟨v2, h1, h⟩ := bnd_inv h
  refine r_cI hW (run_V (rest := []) C hW (t_X10_isGood h1) mk_X10_isGood vk_X10_124 (kd_X10_isGood h1) rfl rfl (by decide) ⟨Nat.le_of_ble_eq_true rfl, Nat.le_of_ble_eq_true rfl⟩ ⟨Nat.zero_le _, Nat.zero_le _⟩ rfl rfl (Nat.le_of_ble_eq_true rfl) hl.1 dX10_readsDemand_58) (fun H locs hW _ => ?_)
  refine r_br h (lv_if_eq (tgt := 68) hx hb dX10_readsDemand_61 (by decide)) (fun h => ?_) (fun h => ?_)
  · exact b_X10_readsDemand_68 C hW (lv_sub hl [0, 1, 2, 3, 4] rfl) h
  · refine lv_aload_n hx hb dX10_readsDemand_64 rfl (lv_at hl 0 rfl) ?_
    obtain ⟨X4, h3, h⟩ := bnd_inv h
    refine r_cV hW (run_V (rest := []) C hW (t_X10_goes h3) mk_X10_goes vk_X10_128 (kd_X10_goes h3) rfl rfl (by decide) ⟨Nat.le_of_ble_eq_true rfl, Nat.le_of_ble_eq_true rfl⟩ ⟨Nat.zero_le _, Nat.zero_le _⟩ rfl rfl (Nat.le_of_ble_eq_true rfl) hl.1 dX10_readsDemand_65) (fun H locs hW _ => ?_)
    exact b_X10_readsDemand_68 C hW (lv_sub hl [0, 1, 2, 3, 4] rfl) h
set_option maxRecDepth 20000 in
set_option maxHeartbeats 2000000 in
theorem b_X10_readsDemand_25 {a : Nat} {x1 : Int32} {x2 : Int32} {x3 : Int32} (C : Cx g RX10 cX10_readsDemand 5 none p s m args meth c) {r : Mx} {X : Mx} (hW : Wd g σ X s H locs) (hl : lv_has ls 5 [(0, .ref a), (1, .int x1), (2, .int x2), (3, .int x3)]) (h : f_X10_readsDemand_25 σ a x1 x2 x3 X = some r) : W p l e (rmZ 3 63) s m args below meth c H locs 0 0 (QV g σ below args s r) (F0 m 25 ls []) := by
  have hx := C.x
  have hb := C.b
  unfold f_X10_readsDemand_25 at h
  refine lv_iconst (v := 0) hx hb dX10_readsDemand_25 (by decide) ?_
  refine lv_istore (lv' := [(4, .int 0), (0, .ref a), (1, .int x1), (2, .int x2), (3, .int x3)]) hx hb dX10_readsDemand_26 hl (by decide) rfl (fun ls hl => ?_)
  refine lv_iload_n hx hb dX10_readsDemand_28 rfl (lv_at hl 2 rfl) ?_
  refine lv_iconst (v := 2) hx hb dX10_readsDemand_29 (by decide) ?_
  refine r_brn h (lv_icmp_ne (tgt := 68) hx hb dX10_readsDemand_30 (by decide)) (fun h => ?_) (fun h => ?_)
  · exact b_X10_readsDemand_68 C hW (lv_sub hl [1, 2, 3, 4, 0] rfl) h
  · refine lv_aload_n hx hb dX10_readsDemand_33 rfl (lv_at hl 1 rfl) ?_
    obtain ⟨v3, X2, h1, h⟩ := bnd2_inv h
    refine r_cI hW (run_V (rest := []) C hW (t_X10_columnHere h1) mk_X10_columnHere vk_X10_181 (kd_X10_columnHere h1) rfl rfl (by decide) ⟨Nat.le_of_ble_eq_true rfl, Nat.le_of_ble_eq_true rfl⟩ ⟨Nat.zero_le _, Nat.zero_le _⟩ rfl rfl (Nat.le_of_ble_eq_true rfl) hl.1 dX10_readsDemand_34) (fun H locs hW _ => ?_)
    refine lv_istore (lv' := [(4, .int v3), (0, .ref a), (1, .int x1), (2, .int x2), (3, .int x3)]) hx hb dX10_readsDemand_37 hl (by decide) rfl (fun ls hl => ?_)
    refine lv_aload_n hx hb dX10_readsDemand_39 rfl (lv_at hl 1 rfl) ?_
    obtain ⟨v5, h4, h⟩ := bnd_inv h
    refine r_cI hW (run_V (rest := []) C hW (t_X10_isGood h4) mk_X10_isGood vk_X10_124 (kd_X10_isGood h4) rfl rfl (by decide) ⟨Nat.le_of_ble_eq_true rfl, Nat.le_of_ble_eq_true rfl⟩ ⟨Nat.zero_le _, Nat.zero_le _⟩ rfl rfl (Nat.le_of_ble_eq_true rfl) hl.1 dX10_readsDemand_40) (fun H locs hW _ => ?_)
    refine r_br h (lv_if_eq (tgt := 57) hx hb dX10_readsDemand_43 (by decide)) (fun h => ?_) (fun h => ?_)
    · exact b_X10_readsDemand_57 C hW (lv_sub hl [1, 2, 3, 4, 0] rfl) h
    · refine lv_iload_n hx hb dX10_readsDemand_46 rfl (lv_at hl 4 rfl) ?_
      refine lv_iload hx hb dX10_readsDemand_47 (lv_at hl 0 rfl) ?_
      refine r_brn h (lv_icmp_ne (tgt := 57) hx hb dX10_readsDemand_49 (by decide)) (fun h => ?_) (fun h => ?_)
      · exact b_X10_readsDemand_57 C hW (lv_sub hl [1, 2, 3, 4, 0] rfl) h
      · refine lv_aload_n hx hb dX10_readsDemand_52 rfl (lv_at hl 1 rfl) ?_
        refine lv_iconst (v := 3) hx hb dX10_readsDemand_53 (by decide) ?_
        obtain ⟨X7, h6, h⟩ := bnd_inv h
        refine r_cV hW (run_V (rest := []) C hW (t_X10_wrong h6) mk_X10_wrong vk_X10_131 (kd_X10_wrong h6) rfl rfl (by decide) ⟨Nat.le_of_ble_eq_true rfl, Nat.le_of_ble_eq_true rfl⟩ ⟨Nat.zero_le _, Nat.zero_le _⟩ rfl rfl (Nat.le_of_ble_eq_true rfl) hl.1 dX10_readsDemand_54) (fun H locs hW _ => ?_)
        exact b_X10_readsDemand_57 C hW (lv_sub hl [1, 2, 3, 4, 0] rfl) h
theorem kd_X10_readsDemand {X : Mx} {r : Mx} {a : Nat} {x1 : Int32} (h : f_X10_readsDemand σ X a x1 = some r) : shK σ a = 8 := (grd_inv h).1
set_option maxRecDepth 20000 in
set_option maxHeartbeats 2000000 in
theorem t_X10_readsDemand {X : Mx} {r : Mx} {a : Nat} {x1 : Int32} (h : f_X10_readsDemand σ X a x1 = some r) : MtV g l yX10_readsDemand cX10_readsDemand 5 none 3 63 [.ref a, .int x1] σ X r := by
  refine met_of mk_X10_readsDemand (Nat.le_of_ble_eq_true rfl) (fun p e s m args below meth c ls C hW hl => ?_)
  have hx := C.x
  have hb := C.b
  have hl : lv_has ls 5 [(0, .ref a), (1, .int x1)] := hl
  unfold f_X10_readsDemand at h
  obtain ⟨hk0, h⟩ := grd_inv h
  refine lv_aload_n hx hb dX10_readsDemand_0 rfl (lv_at hl 0 rfl) ?_
  refine r_gR C hW h fl_X10_20 (by decide) dX10_readsDemand_1 (fun b1 h => ?_)
  refine lv_sipush (v := 1531) hx hb dX10_readsDemand_4 (by decide) ?_
  refine r_iald C hW h dX10_readsDemand_7 (fun v2 h => ?_)
  refine lv_istore_n (lv' := [(2, .int v2), (0, .ref a), (1, .int x1)]) hx hb dX10_readsDemand_8 rfl hl (by decide) rfl (fun ls hl => ?_)
  refine lv_aload_n hx hb dX10_readsDemand_9 rfl (lv_at hl 1 rfl) ?_
  obtain ⟨v5, X4, h3, h⟩ := bnd2_inv h
  refine r_cI hW (run_V (rest := []) C hW (t_X10_columnHere h3) mk_X10_columnHere vk_X10_181 (kd_X10_columnHere h3) rfl rfl (by decide) ⟨Nat.le_of_ble_eq_true rfl, Nat.le_of_ble_eq_true rfl⟩ ⟨Nat.zero_le _, Nat.zero_le _⟩ rfl rfl (Nat.le_of_ble_eq_true rfl) hl.1 dX10_readsDemand_10) (fun H locs hW _ => ?_)
  refine lv_istore_n (lv' := [(3, .int v5), (2, .int v2), (0, .ref a), (1, .int x1)]) hx hb dX10_readsDemand_13 rfl hl (by decide) rfl (fun ls hl => ?_)
  refine lv_aload_n hx hb dX10_readsDemand_14 rfl (lv_at hl 2 rfl) ?_
  obtain ⟨v7, h6, h⟩ := bnd_inv h
  refine r_cI hW (run_V (rest := []) C hW (t_X10_isGood h6) mk_X10_isGood vk_X10_124 (kd_X10_isGood h6) rfl rfl (by decide) ⟨Nat.le_of_ble_eq_true rfl, Nat.le_of_ble_eq_true rfl⟩ ⟨Nat.zero_le _, Nat.zero_le _⟩ rfl rfl (Nat.le_of_ble_eq_true rfl) hl.1 dX10_readsDemand_15) (fun H locs hW _ => ?_)
  refine r_br h (lv_if_eq (tgt := 25) hx hb dX10_readsDemand_18 (by decide)) (fun h => ?_) (fun h => ?_)
  · exact b_X10_readsDemand_25 C hW (lv_sub hl [2, 3, 1, 0] rfl) h
  · refine lv_aload_n hx hb dX10_readsDemand_21 rfl (lv_at hl 2 rfl) ?_
    obtain ⟨X9, h8, h⟩ := bnd_inv h
    refine r_cV hW (run_V (rest := []) C hW (t_X10_goes h8) mk_X10_goes vk_X10_128 (kd_X10_goes h8) rfl rfl (by decide) ⟨Nat.le_of_ble_eq_true rfl, Nat.le_of_ble_eq_true rfl⟩ ⟨Nat.zero_le _, Nat.zero_le _⟩ rfl rfl (Nat.le_of_ble_eq_true rfl) hl.1 dX10_readsDemand_22) (fun H locs hW _ => ?_)
    exact b_X10_readsDemand_25 C hW (lv_sub hl [2, 3, 1, 0] rfl) h
set_option maxRecDepth 20000 in
set_option maxHeartbeats 2000000 in
theorem b_X10_sidesBegin_2 {a : Nat} {x1 : Int32} (C : Cx g RX10 cX10_sidesBegin 3 none p s m args meth c) {r : Mx} : ∀ (n : Nat) {X : Mx} {x2 : Int32} {H : Heap} {locs : List Loc} {ls : Array Slot} (hW : Wd g σ X s H locs) (hl : lv_has ls 3 [(0, .ref a), (1, .int x1), (2, .int x2)]) (h : f_X10_sidesBegin_2 σ a x1 n X x2 = some r), W p l e (rmZ 0 0) s m args below meth c H locs 0 0 (QV g σ below args s r) (F0 m 2 ls []) := by
  have hx := C.x
  have hb := C.b
  intro n
  induction n with
  | zero =>
    intro X x2 H locs ls hW hl h
    cases (show none = some r from h)
  | succ n ih =>
    intro X x2 H locs ls hW hl h
    rw [f_X10_sidesBegin_2] at h
    refine lv_iload_n hx hb dX10_sidesBegin_2 rfl (lv_at hl 2 rfl) ?_
    refine lv_sipush (v := 200) hx hb dX10_sidesBegin_3 (by decide) ?_
    refine r_br h (lv_icmp_ge (tgt := 59) hx hb dX10_sidesBegin_6 (by decide)) (fun h => ?_) (fun h => ?_)
    · exact r_vret C hW (Option.some.inj h).symm dX10_sidesBegin_59
    · refine lv_aload_n hx hb dX10_sidesBegin_9 rfl (lv_at hl 0 rfl) ?_
      refine r_gR C hW h fl_X10_20 (by decide) dX10_sidesBegin_10 (fun b1 h => ?_)
      refine lv_iload_n hx hb dX10_sidesBegin_13 rfl (lv_at hl 1 rfl) ?_
      refine lv_iload_n hx hb dX10_sidesBegin_14 rfl (lv_at hl 2 rfl) ?_
      refine lv_iadd hx hb dX10_sidesBegin_15 ?_
      refine lv_aload_n hx hb dX10_sidesBegin_16 rfl (lv_at hl 0 rfl) ?_
      refine r_gR C hW h fl_X10_20 (by decide) dX10_sidesBegin_17 (fun b2 h => ?_)
      refine lv_iload_n hx hb dX10_sidesBegin_20 rfl (lv_at hl 1 rfl) ?_
      refine lv_sipush (v := 400) hx hb dX10_sidesBegin_21 (by decide) ?_
      refine lv_iadd hx hb dX10_sidesBegin_24 ?_
      refine lv_iload_n hx hb dX10_sidesBegin_25 rfl (lv_at hl 2 rfl) ?_
      refine lv_iadd hx hb dX10_sidesBegin_26 ?_
      refine r_iald C hW h dX10_sidesBegin_27 (fun v3 h => ?_)
      refine r_iast C hW h dX10_sidesBegin_28 (fun X4 H locs h hW _ => ?_)
      refine lv_aload_n hx hb dX10_sidesBegin_29 rfl (lv_at hl 0 rfl) ?_
      refine r_gR C hW h fl_X10_20 (by decide) dX10_sidesBegin_30 (fun b5 h => ?_)
      refine lv_iload_n hx hb dX10_sidesBegin_33 rfl (lv_at hl 1 rfl) ?_
      refine lv_sipush (v := 200) hx hb dX10_sidesBegin_34 (by decide) ?_
      refine lv_iadd hx hb dX10_sidesBegin_37 ?_
      refine lv_iload_n hx hb dX10_sidesBegin_38 rfl (lv_at hl 2 rfl) ?_
      refine lv_iadd hx hb dX10_sidesBegin_39 ?_
      refine lv_aload_n hx hb dX10_sidesBegin_40 rfl (lv_at hl 0 rfl) ?_
      refine r_gR C hW h fl_X10_20 (by decide) dX10_sidesBegin_41 (fun b6 h => ?_)
      refine lv_iload_n hx hb dX10_sidesBegin_44 rfl (lv_at hl 1 rfl) ?_
      refine lv_sipush (v := 400) hx hb dX10_sidesBegin_45 (by decide) ?_
      refine lv_iadd hx hb dX10_sidesBegin_48 ?_
      refine lv_iload_n hx hb dX10_sidesBegin_49 rfl (lv_at hl 2 rfl) ?_
      refine lv_iadd hx hb dX10_sidesBegin_50 ?_
      refine r_iald C hW h dX10_sidesBegin_51 (fun v7 h => ?_)
      refine r_iast C hW h dX10_sidesBegin_52 (fun X8 H locs h hW _ => ?_)
      refine lv_iinc (v := (x2 + 1)) (lv' := [(2, .int (x2 + 1)), (0, .ref a), (1, .int x1)]) hx hb dX10_sidesBegin_53 hl (k := 2) rfl rfl (by decide) rfl (fun ls hl => ?_)
      refine lv_goto (tgt := 2) hx hb dX10_sidesBegin_56 (by decide) ?_
      exact ih hW (lv_sub hl [1, 2, 0] rfl) h
theorem kd_X10_sidesBegin {X : Mx} {r : Mx} {a : Nat} {x1 : Int32} (h : f_X10_sidesBegin σ X a x1 = some r) : shK σ a = 8 := (grd_inv h).1
set_option maxRecDepth 20000 in
set_option maxHeartbeats 2000000 in
theorem t_X10_sidesBegin {X : Mx} {r : Mx} {a : Nat} {x1 : Int32} (h : f_X10_sidesBegin σ X a x1 = some r) : MtV g l yX10_sidesBegin cX10_sidesBegin 3 none 0 0 [.ref a, .int x1] σ X r := by
  refine met_of mk_X10_sidesBegin (Nat.le_of_ble_eq_true rfl) (fun p e s m args below meth c ls C hW hl => ?_)
  have hx := C.x
  have hb := C.b
  have hl : lv_has ls 3 [(0, .ref a), (1, .int x1)] := hl
  unfold f_X10_sidesBegin at h
  obtain ⟨hk0, h⟩ := grd_inv h
  refine lv_iconst (v := 0) hx hb dX10_sidesBegin_0 (by decide) ?_
  refine lv_istore_n (lv' := [(2, .int 0), (0, .ref a), (1, .int x1)]) hx hb dX10_sidesBegin_1 rfl hl (by decide) rfl (fun ls hl => ?_)
  exact b_X10_sidesBegin_2 C FU hW (lv_sub hl [1, 2, 0] rfl) h
theorem kd_X10_nextColumn {X : Mx} {r : Int32} {a : Nat} {x1 : Int32} {x2 : Int32} (h : f_X10_nextColumn σ X a x1 x2 = some r) : shK σ a = 8 := (grd_inv h).1
set_option maxRecDepth 20000 in
set_option maxHeartbeats 2000000 in
theorem t_X10_nextColumn {X : Mx} {r : Int32} {a : Nat} {x1 : Int32} {x2 : Int32} (h : f_X10_nextColumn σ X a x1 x2 = some r) : MtI g l yX10_nextColumn cX10_nextColumn 3 (some .int) 0 0 [.ref a, .int x1, .int x2] σ X (r, X) := by
  refine met_of mk_X10_nextColumn (Nat.le_of_ble_eq_true rfl) (fun p e s m args below meth c ls C hW hl => ?_)
  have hx := C.x
  have hb := C.b
  have hl : lv_has ls 3 [(0, .ref a), (1, .int x1), (2, .int x2)] := hl
  unfold f_X10_nextColumn at h
  obtain ⟨hk0, h⟩ := grd_inv h
  refine lv_aload_n hx hb dX10_nextColumn_0 rfl (lv_at hl 0 rfl) ?_
  refine r_gR C hW h fl_X10_20 (by decide) dX10_nextColumn_1 (fun b1 h => ?_)
  refine lv_iload_n hx hb dX10_nextColumn_4 rfl (lv_at hl 1 rfl) ?_
  refine lv_sipush (v := 613) hx hb dX10_nextColumn_5 (by decide) ?_
  refine lv_iadd hx hb dX10_nextColumn_8 ?_
  refine lv_iload_n hx hb dX10_nextColumn_9 rfl (lv_at hl 2 rfl) ?_
  refine lv_iadd hx hb dX10_nextColumn_10 ?_
  refine r_iald C hW h dX10_nextColumn_11 (fun v2 h => ?_)
  refine lv_iconst (v := 2) hx hb dX10_nextColumn_12 (by decide) ?_
  refine r_brn h (lv_icmp_ne (tgt := 20) hx hb dX10_nextColumn_13 (by decide)) (fun h => ?_) (fun h => ?_)
  · refine lv_iconst (v := 5) hx hb dX10_nextColumn_20 (by decide) ?_
    refine lv_iconst (v := 2) hx hb dX10_nextColumn_21 (by decide) ?_
    refine lv_iload_n hx hb dX10_nextColumn_22 rfl (lv_at hl 2 rfl) ?_
    refine lv_imul hx hb dX10_nextColumn_23 ?_
    refine lv_iadd hx hb dX10_nextColumn_24 ?_
    refine lv_aload_n hx hb dX10_nextColumn_25 rfl (lv_at hl 0 rfl) ?_
    refine r_gR C hW h fl_X10_20 (by decide) dX10_nextColumn_26 (fun b3 h => ?_)
    refine lv_iload_n hx hb dX10_nextColumn_29 rfl (lv_at hl 1 rfl) ?_
    refine lv_sipush (v := 613) hx hb dX10_nextColumn_30 (by decide) ?_
    refine lv_iadd hx hb dX10_nextColumn_33 ?_
    refine lv_iload_n hx hb dX10_nextColumn_34 rfl (lv_at hl 2 rfl) ?_
    refine lv_iadd hx hb dX10_nextColumn_35 ?_
    refine r_iald C hW h dX10_nextColumn_36 (fun v4 h => ?_)
    refine lv_iadd hx hb dX10_nextColumn_37 ?_
    exact r_iret C hW (rt_R h) rfl dX10_nextColumn_38
  · refine lv_iconst (v := (-1)) hx hb dX10_nextColumn_16 (by decide) ?_
    refine lv_goto (tgt := 38) hx hb dX10_nextColumn_17 (by decide) ?_
    exact r_iret C hW (rt_R h) rfl dX10_nextColumn_38
set_option maxRecDepth 20000 in
set_option maxHeartbeats 2000000 in
theorem b_X10_adds_124 {a : Nat} {x1 : Int32} {x2 : Int32} {x5 : Int32} (C : Cx g RX10 cX10_adds 7 (some .boolean) p s m args meth c) {r : (Int32 × Mx)} : ∀ (n : Nat) {X : Mx} {x6 : Int32} {H : Heap} {locs : List Loc} {ls : Array Slot} (hW : Wd g σ X s H locs) (hl : lv_has ls 7 [(0, .ref a), (1, .int x1), (2, .int x2), (5, .int x5), (6, .int x6)]) (h : f_X10_adds_124 σ a x1 x2 x5 n X x6 = some r), W p l e (rmZ 3 69) s m args below meth c H locs 0 0 (QI g σ below args s r) (F0 m 124 ls []) := by
  have hx := C.x
  have hb := C.b
  intro n
  induction n with
  | zero =>
    intro X x6 H locs ls hW hl h
    cases (show none = some r from h)
  | succ n ih =>
    intro X x6 H locs ls hW hl h
    rw [f_X10_adds_124] at h
    refine lv_iload hx hb dX10_adds_124 (lv_at hl 4 rfl) ?_
    refine lv_bipush (v := 20) hx hb dX10_adds_126 (by decide) ?_
    refine r_br h (lv_icmp_ge (tgt := 154) hx hb dX10_adds_128 (by decide)) (fun h => ?_) (fun h => ?_)
    · refine lv_iconst (v := 1) hx hb dX10_adds_154 (by decide) ?_
      exact r_iret C hW (Option.some.inj h).symm rfl dX10_adds_155
    · refine lv_aload_n hx hb dX10_adds_131 rfl (lv_at hl 0 rfl) ?_
      refine r_gR C hW h fl_X10_20 (by decide) dX10_adds_132 (fun b1 h => ?_)
      refine lv_iload_n hx hb dX10_adds_135 rfl (lv_at hl 1 rfl) ?_
      refine lv_iload_n hx hb dX10_adds_136 rfl (lv_at hl 2 rfl) ?_
      refine lv_iload hx hb dX10_adds_137 (lv_at hl 4 rfl) ?_
      refine lv_iload hx hb dX10_adds_139 (lv_at hl 3 rfl) ?_
      refine r_cI hW (run_S (rest := [.ref b1]) C hW (t_X10_cellAt (X := X)) mk_X10_cellAt sk_X10_174 ⟨Nat.le_of_ble_eq_true rfl, Nat.le_of_ble_eq_true rfl⟩ ⟨Nat.zero_le _, Nat.zero_le _⟩ rfl rfl (Nat.le_of_ble_eq_true rfl) hl.1 dX10_adds_141) (fun H locs hW _ => ?_)
      refine lv_sipush (v := 9999) hx hb dX10_adds_144 (by decide) ?_
      refine r_iast C hW h dX10_adds_147 (fun X2 H locs h hW _ => ?_)
      refine lv_iinc (v := (x6 + 1)) (lv' := [(6, .int (x6 + 1)), (0, .ref a), (1, .int x1), (2, .int x2), (5, .int x5)]) hx hb dX10_adds_148 hl (k := 4) rfl rfl (by decide) rfl (fun ls hl => ?_)
      refine lv_goto (tgt := 124) hx hb dX10_adds_151 (by decide) ?_
      exact ih hW (lv_sub hl [1, 2, 3, 4, 0] rfl) h
theorem kd_X10_adds {X : Mx} {r : (Int32 × Mx)} {a : Nat} {x1 : Int32} {x2 : Int32} {x3 : Int32} {x4 : Int32} (h : f_X10_adds σ X a x1 x2 x3 x4 = some r) : shK σ a = 8 := (grd_inv h).1
set_option maxRecDepth 20000 in
set_option maxHeartbeats 2000000 in
theorem t_X10_adds {X : Mx} {r : (Int32 × Mx)} {a : Nat} {x1 : Int32} {x2 : Int32} {x3 : Int32} {x4 : Int32} (h : f_X10_adds σ X a x1 x2 x3 x4 = some r) : MtI g l yX10_adds cX10_adds 7 (some .boolean) 3 69 [.ref a, .int x1, .int x2, .int x3, .int x4] σ X r := by
  refine met_of mk_X10_adds (Nat.le_of_ble_eq_true rfl) (fun p e s m args below meth c ls C hW hl => ?_)
  have hx := C.x
  have hb := C.b
  have hl : lv_has ls 7 [(0, .ref a), (1, .int x1), (2, .int x2), (3, .int x3), (4, .int x4)] := hl
  unfold f_X10_adds at h
  obtain ⟨hk0, h⟩ := grd_inv h
  refine lv_aload_n hx hb dX10_adds_0 rfl (lv_at hl 0 rfl) ?_
  refine lv_iload_n hx hb dX10_adds_1 rfl (lv_at hl 1 rfl) ?_
  refine lv_iload_n hx hb dX10_adds_2 rfl (lv_at hl 2 rfl) ?_
  obtain ⟨v2, h1, h⟩ := bnd_inv h
  refine r_cI hW (run_V (rest := []) C hW (t_X10_nextColumn h1) mk_X10_nextColumn vk_X10_247 (kd_X10_nextColumn h1) rfl rfl (by decide) ⟨Nat.le_of_ble_eq_true rfl, Nat.le_of_ble_eq_true rfl⟩ ⟨Nat.zero_le _, Nat.zero_le _⟩ rfl rfl (Nat.le_of_ble_eq_true rfl) hl.1 dX10_adds_3) (fun H locs hW _ => ?_)
  refine lv_istore (lv' := [(5, .int v2), (0, .ref a), (1, .int x1), (2, .int x2), (3, .int x3), (4, .int x4)]) hx hb dX10_adds_6 hl (by decide) rfl (fun ls hl => ?_)
  refine lv_iload hx hb dX10_adds_8 (lv_at hl 0 rfl) ?_
  refine lv_iconst (v := (-1)) hx hb dX10_adds_10 (by decide) ?_
  refine r_br h (lv_icmp_eq (tgt := 44) hx hb dX10_adds_11 (by decide)) (fun h => ?_) (fun h => ?_)
  · refine lv_iconst (v := 0) hx hb dX10_adds_44 (by decide) ?_
    exact r_iret C hW (Option.some.inj h).symm rfl dX10_adds_45
  · refine lv_iload_n hx hb dX10_adds_14 rfl (lv_at hl 4 rfl) ?_
    refine lv_iconst (v := 0) hx hb dX10_adds_15 (by decide) ?_
    refine lv_bipush (v := 25) hx hb dX10_adds_16 (by decide) ?_
    refine r_cI hW (run_S (rest := []) C hW (t_X10_within (X := X)) mk_X10_within sk_X10_231 ⟨Nat.le_of_ble_eq_true rfl, Nat.le_of_ble_eq_true rfl⟩ ⟨Nat.zero_le _, Nat.zero_le _⟩ rfl rfl (Nat.le_of_ble_eq_true rfl) hl.1 dX10_adds_18) (fun H locs hW _ => ?_)
    refine r_br h (lv_if_eq (tgt := 44) hx hb dX10_adds_21 (by decide)) (fun h => ?_) (fun h => ?_)
    · refine lv_iconst (v := 0) hx hb dX10_adds_44 (by decide) ?_
      exact r_iret C hW (Option.some.inj h).symm rfl dX10_adds_45
    · refine lv_iload hx hb dX10_adds_24 (lv_at hl 5 rfl) ?_
      refine lv_iconst (v := 0) hx hb dX10_adds_26 (by decide) ?_
      refine lv_iconst (v := 3) hx hb dX10_adds_27 (by decide) ?_
      refine r_cI hW (run_S (rest := []) C hW (t_X10_within (X := X)) mk_X10_within sk_X10_231 ⟨Nat.le_of_ble_eq_true rfl, Nat.le_of_ble_eq_true rfl⟩ ⟨Nat.zero_le _, Nat.zero_le _⟩ rfl rfl (Nat.le_of_ble_eq_true rfl) hl.1 dX10_adds_28) (fun H locs hW _ => ?_)
      refine r_br h (lv_if_eq (tgt := 44) hx hb dX10_adds_31 (by decide)) (fun h => ?_) (fun h => ?_)
      · refine lv_iconst (v := 0) hx hb dX10_adds_44 (by decide) ?_
        exact r_iret C hW (Option.some.inj h).symm rfl dX10_adds_45
      · refine lv_aload_n hx hb dX10_adds_34 rfl (lv_at hl 1 rfl) ?_
        refine lv_iload_n hx hb dX10_adds_35 rfl (lv_at hl 2 rfl) ?_
        refine lv_iload_n hx hb dX10_adds_36 rfl (lv_at hl 3 rfl) ?_
        refine lv_iload_n hx hb dX10_adds_37 rfl (lv_at hl 4 rfl) ?_
        obtain ⟨v4, h3, h⟩ := bnd_inv h
        refine r_cI hW (run_V (rest := []) C hW (t_X10_hasName h3) mk_X10_hasName vk_X10_153 (kd_X10_hasName h3) rfl rfl (by decide) ⟨Nat.le_of_ble_eq_true rfl, Nat.le_of_ble_eq_true rfl⟩ ⟨Nat.zero_le _, Nat.zero_le _⟩ rfl rfl (Nat.le_of_ble_eq_true rfl) hl.1 dX10_adds_38) (fun H locs hW _ => ?_)
        refine r_br h (lv_if_eq (tgt := 46) hx hb dX10_adds_41 (by decide)) (fun h => ?_) (fun h => ?_)
        · refine lv_aload_n hx hb dX10_adds_46 rfl (lv_at hl 1 rfl) ?_
          refine r_gR C hW h fl_X10_20 (by decide) dX10_adds_47 (fun b5 h => ?_)
          refine lv_iload_n hx hb dX10_adds_50 rfl (lv_at hl 2 rfl) ?_
          refine lv_sipush (v := 613) hx hb dX10_adds_51 (by decide) ?_
          refine lv_iadd hx hb dX10_adds_54 ?_
          refine lv_iload_n hx hb dX10_adds_55 rfl (lv_at hl 3 rfl) ?_
          refine lv_iadd hx hb dX10_adds_56 ?_
          refine lv_dup2_11 hx hb dX10_adds_57 rfl rfl ?_
          refine r_iald C hW h dX10_adds_58 (fun v6 h => ?_)
          refine lv_iconst (v := 1) hx hb dX10_adds_59 (by decide) ?_
          refine lv_iadd hx hb dX10_adds_60 ?_
          refine r_iast C hW h dX10_adds_61 (fun X7 H locs h hW _ => ?_)
          refine lv_aload_n hx hb dX10_adds_62 rfl (lv_at hl 1 rfl) ?_
          refine r_gR C hW h fl_X10_20 (by decide) dX10_adds_63 (fun b8 h => ?_)
          refine lv_iload_n hx hb dX10_adds_66 rfl (lv_at hl 2 rfl) ?_
          refine lv_sipush (v := 200) hx hb dX10_adds_67 (by decide) ?_
          refine lv_iload_n hx hb dX10_adds_70 rfl (lv_at hl 3 rfl) ?_
          refine lv_imul hx hb dX10_adds_71 ?_
          refine lv_iadd hx hb dX10_adds_72 ?_
          refine lv_iconst (v := 0) hx hb dX10_adds_73 (by decide) ?_
          refine lv_iadd hx hb dX10_adds_74 ?_
          refine lv_dup2_11 hx hb dX10_adds_75 rfl rfl ?_
          refine r_iald C hW h dX10_adds_76 (fun v9 h => ?_)
          refine lv_iconst (v := 1) hx hb dX10_adds_77 (by decide) ?_
          refine lv_iload hx hb dX10_adds_78 (lv_at hl 0 rfl) ?_
          refine lv_ishl hx hb dX10_adds_80 ?_
          refine lv_ior hx hb dX10_adds_81 ?_
          refine r_iast C hW h dX10_adds_82 (fun X10 H locs h hW _ => ?_)
          refine lv_aload_n hx hb dX10_adds_83 rfl (lv_at hl 1 rfl) ?_
          refine r_gR C hW h fl_X10_20 (by decide) dX10_adds_84 (fun b11 h => ?_)
          refine lv_iload_n hx hb dX10_adds_87 rfl (lv_at hl 2 rfl) ?_
          refine lv_sipush (v := 200) hx hb dX10_adds_88 (by decide) ?_
          refine lv_iload_n hx hb dX10_adds_91 rfl (lv_at hl 3 rfl) ?_
          refine lv_imul hx hb dX10_adds_92 ?_
          refine lv_iadd hx hb dX10_adds_93 ?_
          refine lv_iconst (v := 2) hx hb dX10_adds_94 (by decide) ?_
          refine lv_iadd hx hb dX10_adds_95 ?_
          refine lv_iload hx hb dX10_adds_96 (lv_at hl 0 rfl) ?_
          refine lv_iadd hx hb dX10_adds_98 ?_
          refine lv_iload_n hx hb dX10_adds_99 rfl (lv_at hl 4 rfl) ?_
          refine r_iast C hW h dX10_adds_100 (fun X12 H locs h hW _ => ?_)
          refine lv_aload_n hx hb dX10_adds_101 rfl (lv_at hl 1 rfl) ?_
          refine r_gR C hW h fl_X10_20 (by decide) dX10_adds_102 (fun b13 h => ?_)
          refine lv_iload_n hx hb dX10_adds_105 rfl (lv_at hl 2 rfl) ?_
          refine lv_sipush (v := 200) hx hb dX10_adds_106 (by decide) ?_
          refine lv_iload_n hx hb dX10_adds_109 rfl (lv_at hl 3 rfl) ?_
          refine lv_imul hx hb dX10_adds_110 ?_
          refine lv_iadd hx hb dX10_adds_111 ?_
          refine lv_bipush (v := 11) hx hb dX10_adds_112 (by decide) ?_
          refine lv_iadd hx hb dX10_adds_114 ?_
          refine lv_iload hx hb dX10_adds_115 (lv_at hl 0 rfl) ?_
          refine lv_iadd hx hb dX10_adds_117 ?_
          refine lv_iload hx hb dX10_adds_118 (lv_at hl 5 rfl) ?_
          refine r_iast C hW h dX10_adds_120 (fun X14 H locs h hW _ => ?_)
          refine lv_iconst (v := 0) hx hb dX10_adds_121 (by decide) ?_
          refine lv_istore (lv' := [(6, .int 0), (5, .int v2), (0, .ref a), (1, .int x1), (2, .int x2), (3, .int x3), (4, .int x4)]) hx hb dX10_adds_122 hl (by decide) rfl (fun ls hl => ?_)
          exact b_X10_adds_124 C FU hW (lv_sub hl [2, 3, 4, 1, 0] rfl) h
        · refine lv_iconst (v := 0) hx hb dX10_adds_44 (by decide) ?_
          exact r_iret C hW (Option.some.inj h).symm rfl dX10_adds_45
set_option maxRecDepth 20000 in
set_option maxHeartbeats 2000000 in
theorem b_X10_inserts_67 {a : Nat} {x1 : Int32} {x2 : Int32} {x3 : Int32} (C : Cx g RX10 cX10_inserts 5 (some .boolean) p s m args meth c) {r : (Int32 × Mx)} : ∀ (n : Nat) {X : Mx} {x4 : Int32} {H : Heap} {locs : List Loc} {ls : Array Slot} (hW : Wd g σ X s H locs) (hl : lv_has ls 5 [(0, .ref a), (1, .int x1), (2, .int x2), (3, .int x3), (4, .int x4)]) (h : f_X10_inserts_67 σ a x1 x2 x3 n X x4 = some r), W p l e (rmZ 2 45) s m args below meth c H locs 0 0 (QI g σ below args s r) (F0 m 67 ls []) := by
  have hx := C.x
  have hb := C.b
  intro n
  induction n with
  | zero =>
    intro X x4 H locs ls hW hl h
    cases (show none = some r from h)
  | succ n ih =>
    intro X x4 H locs ls hW hl h
    rw [f_X10_inserts_67] at h
    refine lv_iload hx hb dX10_inserts_67 (lv_at hl 4 rfl) ?_
    refine lv_bipush (v := 9) hx hb dX10_inserts_69 (by decide) ?_
    refine r_br h (lv_icmp_ge (tgt := 96) hx hb dX10_inserts_71 (by decide)) (fun h => ?_) (fun h => ?_)
    · refine lv_iconst (v := 1) hx hb dX10_inserts_96 (by decide) ?_
      exact r_iret C hW (Option.some.inj h).symm rfl dX10_inserts_97
    · refine lv_aload_n hx hb dX10_inserts_74 rfl (lv_at hl 0 rfl) ?_
      refine r_gR C hW h fl_X10_20 (by decide) dX10_inserts_75 (fun b1 h => ?_)
      refine lv_iload_n hx hb dX10_inserts_78 rfl (lv_at hl 1 rfl) ?_
      refine lv_iload_n hx hb dX10_inserts_79 rfl (lv_at hl 2 rfl) ?_
      refine lv_iload_n hx hb dX10_inserts_80 rfl (lv_at hl 3 rfl) ?_
      refine lv_iload hx hb dX10_inserts_81 (lv_at hl 4 rfl) ?_
      refine r_cI hW (run_S (rest := [.ref b1]) C hW (t_X10_cellAt (X := X)) mk_X10_cellAt sk_X10_174 ⟨Nat.le_of_ble_eq_true rfl, Nat.le_of_ble_eq_true rfl⟩ ⟨Nat.zero_le _, Nat.zero_le _⟩ rfl rfl (Nat.le_of_ble_eq_true rfl) hl.1 dX10_inserts_83) (fun H locs hW _ => ?_)
      refine lv_sipush (v := 9999) hx hb dX10_inserts_86 (by decide) ?_
      refine r_iast C hW h dX10_inserts_89 (fun X2 H locs h hW _ => ?_)
      refine lv_iinc (v := (x4 + 1)) (lv' := [(4, .int (x4 + 1)), (0, .ref a), (1, .int x1), (2, .int x2), (3, .int x3)]) hx hb dX10_inserts_90 hl (k := 4) rfl rfl (by decide) rfl (fun ls hl => ?_)
      refine lv_goto (tgt := 67) hx hb dX10_inserts_93 (by decide) ?_
      exact ih hW (lv_sub hl [1, 2, 3, 4, 0] rfl) h
theorem kd_X10_inserts {X : Mx} {r : (Int32 × Mx)} {a : Nat} {x1 : Int32} {x2 : Int32} {x3 : Int32} (h : f_X10_inserts σ X a x1 x2 x3 = some r) : shK σ a = 8 := (grd_inv h).1
set_option maxRecDepth 20000 in
set_option maxHeartbeats 2000000 in
theorem t_X10_inserts {X : Mx} {r : (Int32 × Mx)} {a : Nat} {x1 : Int32} {x2 : Int32} {x3 : Int32} (h : f_X10_inserts σ X a x1 x2 x3 = some r) : MtI g l yX10_inserts cX10_inserts 5 (some .boolean) 2 45 [.ref a, .int x1, .int x2, .int x3] σ X r := by
  refine met_of mk_X10_inserts (Nat.le_of_ble_eq_true rfl) (fun p e s m args below meth c ls C hW hl => ?_)
  have hx := C.x
  have hb := C.b
  have hl : lv_has ls 5 [(0, .ref a), (1, .int x1), (2, .int x2), (3, .int x3)] := hl
  unfold f_X10_inserts at h
  obtain ⟨hk0, h⟩ := grd_inv h
  refine lv_iload_n hx hb dX10_inserts_0 rfl (lv_at hl 3 rfl) ?_
  refine lv_iconst (v := 0) hx hb dX10_inserts_1 (by decide) ?_
  refine lv_bipush (v := 19) hx hb dX10_inserts_2 (by decide) ?_
  refine r_cI hW (run_S (rest := []) C hW (t_X10_within (X := X)) mk_X10_within sk_X10_231 ⟨Nat.le_of_ble_eq_true rfl, Nat.le_of_ble_eq_true rfl⟩ ⟨Nat.zero_le _, Nat.zero_le _⟩ rfl rfl (Nat.le_of_ble_eq_true rfl) hl.1 dX10_inserts_4) (fun H locs hW _ => ?_)
  refine r_br h (lv_if_eq (tgt := 42) hx hb dX10_inserts_7 (by decide)) (fun h => ?_) (fun h => ?_)
  · refine lv_iconst (v := 0) hx hb dX10_inserts_42 (by decide) ?_
    exact r_iret C hW (Option.some.inj h).symm rfl dX10_inserts_43
  · refine lv_aload_n hx hb dX10_inserts_10 rfl (lv_at hl 0 rfl) ?_
    refine lv_iload_n hx hb dX10_inserts_11 rfl (lv_at hl 1 rfl) ?_
    refine lv_iload_n hx hb dX10_inserts_12 rfl (lv_at hl 2 rfl) ?_
    refine lv_iload_n hx hb dX10_inserts_13 rfl (lv_at hl 3 rfl) ?_
    obtain ⟨v2, h1, h⟩ := bnd_inv h
    refine r_cI hW (run_V (rest := []) C hW (t_X10_hasRow h1) mk_X10_hasRow vk_X10_160 (kd_X10_hasRow h1) rfl rfl (by decide) ⟨Nat.le_of_ble_eq_true rfl, Nat.le_of_ble_eq_true rfl⟩ ⟨Nat.zero_le _, Nat.zero_le _⟩ rfl rfl (Nat.le_of_ble_eq_true rfl) hl.1 dX10_inserts_14) (fun H locs hW _ => ?_)
    refine r_brn h (lv_if_ne (tgt := 42) hx hb dX10_inserts_17 (by decide)) (fun h => ?_) (fun h => ?_)
    · refine lv_iconst (v := 0) hx hb dX10_inserts_42 (by decide) ?_
      exact r_iret C hW (Option.some.inj h).symm rfl dX10_inserts_43
    · refine lv_aload_n hx hb dX10_inserts_20 rfl (lv_at hl 0 rfl) ?_
      refine r_gR C hW h fl_X10_20 (by decide) dX10_inserts_21 (fun b3 h => ?_)
      refine lv_iload_n hx hb dX10_inserts_24 rfl (lv_at hl 1 rfl) ?_
      refine lv_sipush (v := 200) hx hb dX10_inserts_25 (by decide) ?_
      refine lv_iload_n hx hb dX10_inserts_28 rfl (lv_at hl 2 rfl) ?_
      refine lv_imul hx hb dX10_inserts_29 ?_
      refine lv_iadd hx hb dX10_inserts_30 ?_
      refine lv_iconst (v := 1) hx hb dX10_inserts_31 (by decide) ?_
      refine lv_iadd hx hb dX10_inserts_32 ?_
      refine r_iald C hW h dX10_inserts_33 (fun v4 h => ?_)
      obtain ⟨v6, h5, h⟩ := bnd_inv h
      refine r_cI hW (run_S (rest := []) C hW (t_X10_bits h5) mk_X10_bits sk_X10_240 ⟨Nat.le_of_ble_eq_true rfl, Nat.le_of_ble_eq_true rfl⟩ ⟨Nat.zero_le _, Nat.zero_le _⟩ rfl rfl (Nat.le_of_ble_eq_true rfl) hl.1 dX10_inserts_34) (fun H locs hW _ => ?_)
      refine lv_bipush (v := 12) hx hb dX10_inserts_37 (by decide) ?_
      refine r_br h (lv_icmp_lt (tgt := 44) hx hb dX10_inserts_39 (by decide)) (fun h => ?_) (fun h => ?_)
      · refine lv_aload_n hx hb dX10_inserts_44 rfl (lv_at hl 0 rfl) ?_
        refine r_gR C hW h fl_X10_20 (by decide) dX10_inserts_45 (fun b7 h => ?_)
        refine lv_iload_n hx hb dX10_inserts_48 rfl (lv_at hl 1 rfl) ?_
        refine lv_sipush (v := 200) hx hb dX10_inserts_49 (by decide) ?_
        refine lv_iload_n hx hb dX10_inserts_52 rfl (lv_at hl 2 rfl) ?_
        refine lv_imul hx hb dX10_inserts_53 ?_
        refine lv_iadd hx hb dX10_inserts_54 ?_
        refine lv_iconst (v := 1) hx hb dX10_inserts_55 (by decide) ?_
        refine lv_iadd hx hb dX10_inserts_56 ?_
        refine lv_dup2_11 hx hb dX10_inserts_57 rfl rfl ?_
        refine r_iald C hW h dX10_inserts_58 (fun v8 h => ?_)
        refine lv_iconst (v := 1) hx hb dX10_inserts_59 (by decide) ?_
        refine lv_iload_n hx hb dX10_inserts_60 rfl (lv_at hl 3 rfl) ?_
        refine lv_ishl hx hb dX10_inserts_61 ?_
        refine lv_ior hx hb dX10_inserts_62 ?_
        refine r_iast C hW h dX10_inserts_63 (fun X9 H locs h hW _ => ?_)
        refine lv_iconst (v := 0) hx hb dX10_inserts_64 (by decide) ?_
        refine lv_istore (lv' := [(4, .int 0), (0, .ref a), (1, .int x1), (2, .int x2), (3, .int x3)]) hx hb dX10_inserts_65 hl (by decide) rfl (fun ls hl => ?_)
        exact b_X10_inserts_67 C FU hW (lv_sub hl [1, 2, 3, 4, 0] rfl) h
      · refine lv_iconst (v := 0) hx hb dX10_inserts_42 (by decide) ?_
        exact r_iret C hW (Option.some.inj h).symm rfl dX10_inserts_43
theorem kd_X10_renames {X : Mx} {r : (Int32 × Mx)} {a : Nat} {x1 : Int32} {x2 : Int32} {x3 : Int32} {x4 : Int32} (h : f_X10_renames σ X a x1 x2 x3 x4 = some r) : shK σ a = 8 := (grd_inv h).1
set_option maxRecDepth 20000 in
set_option maxHeartbeats 2000000 in
theorem t_X10_renames {X : Mx} {r : (Int32 × Mx)} {a : Nat} {x1 : Int32} {x2 : Int32} {x3 : Int32} {x4 : Int32} (h : f_X10_renames σ X a x1 x2 x3 x4 = some r) : MtI g l yX10_renames cX10_renames 5 (some .boolean) 3 69 [.ref a, .int x1, .int x2, .int x3, .int x4] σ X r := by
  refine met_of mk_X10_renames (Nat.le_of_ble_eq_true rfl) (fun p e s m args below meth c ls C hW hl => ?_)
  have hx := C.x
  have hb := C.b
  have hl : lv_has ls 5 [(0, .ref a), (1, .int x1), (2, .int x2), (3, .int x3), (4, .int x4)] := hl
  unfold f_X10_renames at h
  obtain ⟨hk0, h⟩ := grd_inv h
  refine lv_aload_n hx hb dX10_renames_0 rfl (lv_at hl 0 rfl) ?_
  refine lv_iload_n hx hb dX10_renames_1 rfl (lv_at hl 1 rfl) ?_
  refine lv_iload_n hx hb dX10_renames_2 rfl (lv_at hl 2 rfl) ?_
  refine lv_iload_n hx hb dX10_renames_3 rfl (lv_at hl 3 rfl) ?_
  obtain ⟨v2, h1, h⟩ := bnd_inv h
  refine r_cI hW (run_V (rest := []) C hW (t_X10_hasColumn h1) mk_X10_hasColumn vk_X10_234 (kd_X10_hasColumn h1) rfl rfl (by decide) ⟨Nat.le_of_ble_eq_true rfl, Nat.le_of_ble_eq_true rfl⟩ ⟨Nat.zero_le _, Nat.zero_le _⟩ rfl rfl (Nat.le_of_ble_eq_true rfl) hl.1 dX10_renames_4) (fun H locs hW _ => ?_)
  refine r_br h (lv_if_eq (tgt := 32) hx hb dX10_renames_7 (by decide)) (fun h => ?_) (fun h => ?_)
  · refine lv_iconst (v := 0) hx hb dX10_renames_32 (by decide) ?_
    exact r_iret C hW (Option.some.inj h).symm rfl dX10_renames_33
  · refine lv_iload hx hb dX10_renames_10 (lv_at hl 4 rfl) ?_
    refine lv_iconst (v := 0) hx hb dX10_renames_12 (by decide) ?_
    refine lv_bipush (v := 25) hx hb dX10_renames_13 (by decide) ?_
    refine r_cI hW (run_S (rest := []) C hW (t_X10_within (X := X)) mk_X10_within sk_X10_231 ⟨Nat.le_of_ble_eq_true rfl, Nat.le_of_ble_eq_true rfl⟩ ⟨Nat.zero_le _, Nat.zero_le _⟩ rfl rfl (Nat.le_of_ble_eq_true rfl) hl.1 dX10_renames_15) (fun H locs hW _ => ?_)
    refine r_br h (lv_if_eq (tgt := 32) hx hb dX10_renames_18 (by decide)) (fun h => ?_) (fun h => ?_)
    · refine lv_iconst (v := 0) hx hb dX10_renames_32 (by decide) ?_
      exact r_iret C hW (Option.some.inj h).symm rfl dX10_renames_33
    · refine lv_aload_n hx hb dX10_renames_21 rfl (lv_at hl 0 rfl) ?_
      refine lv_iload_n hx hb dX10_renames_22 rfl (lv_at hl 1 rfl) ?_
      refine lv_iload_n hx hb dX10_renames_23 rfl (lv_at hl 2 rfl) ?_
      refine lv_iload hx hb dX10_renames_24 (lv_at hl 4 rfl) ?_
      obtain ⟨v4, h3, h⟩ := bnd_inv h
      refine r_cI hW (run_V (rest := []) C hW (t_X10_hasName h3) mk_X10_hasName vk_X10_153 (kd_X10_hasName h3) rfl rfl (by decide) ⟨Nat.le_of_ble_eq_true rfl, Nat.le_of_ble_eq_true rfl⟩ ⟨Nat.zero_le _, Nat.zero_le _⟩ rfl rfl (Nat.le_of_ble_eq_true rfl) hl.1 dX10_renames_26) (fun H locs hW _ => ?_)
      refine r_br h (lv_if_eq (tgt := 34) hx hb dX10_renames_29 (by decide)) (fun h => ?_) (fun h => ?_)
      · refine lv_aload_n hx hb dX10_renames_34 rfl (lv_at hl 0 rfl) ?_
        refine r_gR C hW h fl_X10_20 (by decide) dX10_renames_35 (fun b5 h => ?_)
        refine lv_iload_n hx hb dX10_renames_38 rfl (lv_at hl 1 rfl) ?_
        refine lv_sipush (v := 200) hx hb dX10_renames_39 (by decide) ?_
        refine lv_iload_n hx hb dX10_renames_42 rfl (lv_at hl 2 rfl) ?_
        refine lv_imul hx hb dX10_renames_43 ?_
        refine lv_iadd hx hb dX10_renames_44 ?_
        refine lv_iconst (v := 2) hx hb dX10_renames_45 (by decide) ?_
        refine lv_iadd hx hb dX10_renames_46 ?_
        refine lv_iload_n hx hb dX10_renames_47 rfl (lv_at hl 3 rfl) ?_
        refine lv_iadd hx hb dX10_renames_48 ?_
        refine lv_iload hx hb dX10_renames_49 (lv_at hl 4 rfl) ?_
        refine r_iast C hW h dX10_renames_51 (fun X6 H locs h hW _ => ?_)
        refine lv_iconst (v := 1) hx hb dX10_renames_52 (by decide) ?_
        exact r_iret C hW (Option.some.inj h).symm rfl dX10_renames_53
      · refine lv_iconst (v := 0) hx hb dX10_renames_32 (by decide) ?_
        exact r_iret C hW (Option.some.inj h).symm rfl dX10_renames_33
set_option maxRecDepth 20000 in
set_option maxHeartbeats 2000000 in
theorem t_X10_castTo {X : Mx} {x0 : Int32} {x1 : Int32} : MtI g l yX10_castTo cX10_castTo 2 (some .int) 0 0 [.int x0, .int x1] σ X (f_X10_castTo x0 x1, X) := by
  obtain ⟨r, h⟩ : ∃ r, f_X10_castTo x0 x1 = r := ⟨_, rfl⟩
  rw [h]
  refine met_of mk_X10_castTo (Nat.le_of_ble_eq_true rfl) (fun p e s m args below meth c ls C hW hl => ?_)
  have hx := C.x
  have hb := C.b
  have hl : lv_has ls 2 [(0, .int x0), (1, .int x1)] := hl
  unfold f_X10_castTo at h
  refine lv_iload_n hx hb dX10_castTo_0 rfl (lv_at hl 1 rfl) ?_
  refine lv_sipush (v := 9999) hx hb dX10_castTo_1 (by decide) ?_
  refine r_brn h (lv_icmp_ne (tgt := 11) hx hb dX10_castTo_4 (by decide)) (fun h => ?_) (fun h => ?_)
  · refine lv_iload_n hx hb dX10_castTo_11 rfl (lv_at hl 0 rfl) ?_
    refine r_case h (fun ec h => ?_) (fun nc0 h => ?_)
    · refine lv_tableIn (tgt := 40) (off := 28) hx hb dX10_castTo_12 (by rw [ec]; decide) (by rw [ec]; decide) (by rw [ec]; rfl) (by decide) ?_
      refine lv_iload_n hx hb dX10_castTo_40 rfl (lv_at hl 1 rfl) ?_
      exact r_iret C hW (rt_T h) rfl dX10_castTo_41
    refine r_case h (fun ec h => ?_) (fun nc1 h => ?_)
    · refine lv_tableIn (tgt := 42) (off := 30) hx hb dX10_castTo_12 (by rw [ec]; decide) (by rw [ec]; decide) (by rw [ec]; rfl) (by decide) ?_
      refine lv_iload_n hx hb dX10_castTo_42 rfl (lv_at hl 1 rfl) ?_
      refine r_br h (lv_if_ge (tgt := 55) hx hb dX10_castTo_43 (by decide)) (fun h => ?_) (fun h => ?_)
      · refine lv_iload_n hx hb dX10_castTo_55 rfl (lv_at hl 1 rfl) ?_
        refine lv_bipush (v := 10) hx hb dX10_castTo_56 (by decide) ?_
        refine lv_irem hx hb dX10_castTo_58 (by decide) ?_
        exact r_iret C hW (rt_T h) rfl dX10_castTo_59
      · refine lv_iconst (v := 0) hx hb dX10_castTo_46 (by decide) ?_
        refine lv_iload_n hx hb dX10_castTo_47 rfl (lv_at hl 1 rfl) ?_
        refine lv_isub hx hb dX10_castTo_48 ?_
        refine lv_bipush (v := 10) hx hb dX10_castTo_49 (by decide) ?_
        refine lv_irem hx hb dX10_castTo_51 (by decide) ?_
        refine lv_goto (tgt := 59) hx hb dX10_castTo_52 (by decide) ?_
        exact r_iret C hW (rt_T h) rfl dX10_castTo_59
    refine r_case h (fun ec h => ?_) (fun nc2 h => ?_)
    · refine lv_tableIn (tgt := 60) (off := 48) hx hb dX10_castTo_12 (by rw [ec]; decide) (by rw [ec]; decide) (by rw [ec]; rfl) (by decide) ?_
      refine lv_iload_n hx hb dX10_castTo_60 rfl (lv_at hl 1 rfl) ?_
      refine lv_iload_n hx hb dX10_castTo_61 rfl (lv_at hl 1 rfl) ?_
      refine lv_iconst (v := 2) hx hb dX10_castTo_62 (by decide) ?_
      refine lv_irem hx hb dX10_castTo_63 (by decide) ?_
      refine lv_isub hx hb dX10_castTo_64 ?_
      exact r_iret C hW (rt_T h) rfl dX10_castTo_65
    refine lv_tableOut (tgt := 66) hx hb dX10_castTo_12 (sw_out (lo := 0) (n := 2) (sw_s nc2 (sw_s nc1 (sw_0 nc0))) (by decide)) (by decide) ?_
    refine lv_iload_n hx hb dX10_castTo_66 rfl (lv_at hl 1 rfl) ?_
    refine r_brn h (lv_if_ne (tgt := 74) hx hb dX10_castTo_67 (by decide)) (fun h => ?_) (fun h => ?_)
    · refine lv_iconst (v := 1) hx hb dX10_castTo_74 (by decide) ?_
      exact r_iret C hW (rt_T h) rfl dX10_castTo_75
    · refine lv_iconst (v := 0) hx hb dX10_castTo_70 (by decide) ?_
      refine lv_goto (tgt := 75) hx hb dX10_castTo_71 (by decide) ?_
      exact r_iret C hW (rt_T h) rfl dX10_castTo_75
  · refine lv_sipush (v := 9999) hx hb dX10_castTo_7 (by decide) ?_
    exact r_iret C hW (rt_T h) rfl dX10_castTo_10
set_option maxRecDepth 20000 in
set_option maxHeartbeats 2000000 in
theorem b_X10_retypes_105 {k56 : Mx → Int32 → Option (Int32 × Mx)} {a : Nat} {x1 : Int32} {x2 : Int32} {x3 : Int32} {x4 : Int32} {x5 : Int32} (C : Cx g RX10 cX10_retypes 6 (some .boolean) p s m args meth c) {r : (Int32 × Mx)} {X : Mx} (hk56 : ∀ {H' : Heap} {locs' : List Loc} {ls' : Array Slot} {X' : Mx} {x5' : Int32}, Wd g σ X' s H' locs' → lv_has ls' 6 [(0, .ref a), (1, .int x1), (2, .int x2), (3, .int x3), (4, .int x4), (5, .int x5')] → k56 X' x5' = some r → W p l e (rmZ 2 45) s m args below meth c H' locs' 0 0 (QI g σ below args s r) (F0 m 56 ls' [])) (hW : Wd g σ X s H locs) (hl : lv_has ls 6 [(0, .ref a), (1, .int x1), (2, .int x2), (3, .int x3), (4, .int x4), (5, .int x5)]) (h : f_X10_retypes_105 k56 σ a x1 x2 x3 x4 x5 X = some r) : W p l e (rmZ 2 45) s m args below meth c H locs 0 0 (QI g σ below args s r) (F0 m 105 ls []) := by
  have hx := C.x
  have hb := C.b
  unfold f_X10_retypes_105 at h
  refine lv_iinc (v := (x5 + 1)) (lv' := [(5, .int (x5 + 1)), (0, .ref a), (1, .int x1), (2, .int x2), (3, .int x3), (4, .int x4)]) hx hb dX10_retypes_105 hl (k := 5) rfl rfl (by decide) rfl (fun ls hl => ?_)
  refine lv_goto (tgt := 56) hx hb dX10_retypes_108 (by decide) ?_
  exact hk56 hW (lv_sub hl [1, 2, 3, 4, 5, 0] rfl) h
set_option maxRecDepth 20000 in
set_option maxHeartbeats 2000000 in
theorem b_X10_retypes_56 {a : Nat} {x1 : Int32} {x2 : Int32} {x3 : Int32} {x4 : Int32} (C : Cx g RX10 cX10_retypes 6 (some .boolean) p s m args meth c) {r : (Int32 × Mx)} : ∀ (n : Nat) {X : Mx} {x5 : Int32} {H : Heap} {locs : List Loc} {ls : Array Slot} (hW : Wd g σ X s H locs) (hl : lv_has ls 6 [(0, .ref a), (1, .int x1), (2, .int x2), (3, .int x3), (4, .int x4), (5, .int x5)]) (h : f_X10_retypes_56 σ a x1 x2 x3 x4 n X x5 = some r), W p l e (rmZ 2 45) s m args below meth c H locs 0 0 (QI g σ below args s r) (F0 m 56 ls []) := by
  have hx := C.x
  have hb := C.b
  intro n
  induction n with
  | zero =>
    intro X x5 H locs ls hW hl h
    cases (show none = some r from h)
  | succ n ih =>
    intro X x5 H locs ls hW hl h
    rw [f_X10_retypes_56] at h
    refine lv_iload hx hb dX10_retypes_56 (lv_at hl 5 rfl) ?_
    refine lv_bipush (v := 20) hx hb dX10_retypes_58 (by decide) ?_
    refine r_br h (lv_icmp_ge (tgt := 111) hx hb dX10_retypes_60 (by decide)) (fun h => ?_) (fun h => ?_)
    · refine lv_iconst (v := 1) hx hb dX10_retypes_111 (by decide) ?_
      exact r_iret C hW (Option.some.inj h).symm rfl dX10_retypes_112
    · refine lv_aload_n hx hb dX10_retypes_63 rfl (lv_at hl 0 rfl) ?_
      refine lv_iload_n hx hb dX10_retypes_64 rfl (lv_at hl 1 rfl) ?_
      refine lv_iload_n hx hb dX10_retypes_65 rfl (lv_at hl 2 rfl) ?_
      refine lv_iload hx hb dX10_retypes_66 (lv_at hl 5 rfl) ?_
      obtain ⟨v2, h1, h⟩ := bnd_inv h
      refine r_cI hW (run_V (rest := []) C hW (t_X10_hasRow h1) mk_X10_hasRow vk_X10_160 (kd_X10_hasRow h1) rfl rfl (by decide) ⟨Nat.le_of_ble_eq_true rfl, Nat.le_of_ble_eq_true rfl⟩ ⟨Nat.zero_le _, Nat.zero_le _⟩ rfl rfl (Nat.le_of_ble_eq_true rfl) hl.1 dX10_retypes_68) (fun H locs hW _ => ?_)
      refine r_br h (lv_if_eq (tgt := 105) hx hb dX10_retypes_71 (by decide)) (fun h => ?_) (fun h => ?_)
      · exact b_X10_retypes_105 C (fun hW hl h => ih hW hl h) hW (lv_sub hl [0, 1, 2, 3, 4, 5] rfl) h
      · refine lv_aload_n hx hb dX10_retypes_74 rfl (lv_at hl 0 rfl) ?_
        refine r_gR C hW h fl_X10_20 (by decide) dX10_retypes_75 (fun b3 h => ?_)
        refine lv_iload_n hx hb dX10_retypes_78 rfl (lv_at hl 1 rfl) ?_
        refine lv_iload_n hx hb dX10_retypes_79 rfl (lv_at hl 2 rfl) ?_
        refine lv_iload hx hb dX10_retypes_80 (lv_at hl 5 rfl) ?_
        refine lv_iload_n hx hb dX10_retypes_82 rfl (lv_at hl 3 rfl) ?_
        refine r_cI hW (run_S (rest := [.ref b3]) C hW (t_X10_cellAt (X := X)) mk_X10_cellAt sk_X10_174 ⟨Nat.le_of_ble_eq_true rfl, Nat.le_of_ble_eq_true rfl⟩ ⟨Nat.zero_le _, Nat.zero_le _⟩ rfl rfl (Nat.le_of_ble_eq_true rfl) hl.1 dX10_retypes_83) (fun H locs hW _ => ?_)
        refine lv_iload hx hb dX10_retypes_86 (lv_at hl 4 rfl) ?_
        refine lv_aload_n hx hb dX10_retypes_88 rfl (lv_at hl 0 rfl) ?_
        refine r_gR C hW h fl_X10_20 (by decide) dX10_retypes_89 (fun b4 h => ?_)
        refine lv_iload_n hx hb dX10_retypes_92 rfl (lv_at hl 1 rfl) ?_
        refine lv_iload_n hx hb dX10_retypes_93 rfl (lv_at hl 2 rfl) ?_
        refine lv_iload hx hb dX10_retypes_94 (lv_at hl 5 rfl) ?_
        refine lv_iload_n hx hb dX10_retypes_96 rfl (lv_at hl 3 rfl) ?_
        refine r_cI hW (run_S (rest := [.ref b4, .int x4, .int (f_X10_cellAt x1 x2 x5 x3), .ref b3]) C hW (t_X10_cellAt (X := X)) mk_X10_cellAt sk_X10_174 ⟨Nat.le_of_ble_eq_true rfl, Nat.le_of_ble_eq_true rfl⟩ ⟨Nat.zero_le _, Nat.zero_le _⟩ rfl rfl (Nat.le_of_ble_eq_true rfl) hl.1 dX10_retypes_97) (fun H locs hW _ => ?_)
        refine r_iald C hW h dX10_retypes_100 (fun v5 h => ?_)
        refine r_cI hW (run_S (rest := [.int (f_X10_cellAt x1 x2 x5 x3), .ref b3]) C hW (t_X10_castTo (X := X)) mk_X10_castTo sk_X10_243 ⟨Nat.le_of_ble_eq_true rfl, Nat.le_of_ble_eq_true rfl⟩ ⟨Nat.zero_le _, Nat.zero_le _⟩ rfl rfl (Nat.le_of_ble_eq_true rfl) hl.1 dX10_retypes_101) (fun H locs hW _ => ?_)
        refine r_iast C hW h dX10_retypes_104 (fun X6 H locs h hW _ => ?_)
        exact b_X10_retypes_105 C (fun hW hl h => ih hW hl h) hW (lv_sub hl [0, 1, 2, 3, 4, 5] rfl) h
theorem kd_X10_retypes {X : Mx} {r : (Int32 × Mx)} {a : Nat} {x1 : Int32} {x2 : Int32} {x3 : Int32} {x4 : Int32} (h : f_X10_retypes σ X a x1 x2 x3 x4 = some r) : shK σ a = 8 := (grd_inv h).1
set_option maxRecDepth 20000 in
set_option maxHeartbeats 2000000 in
theorem t_X10_retypes {X : Mx} {r : (Int32 × Mx)} {a : Nat} {x1 : Int32} {x2 : Int32} {x3 : Int32} {x4 : Int32} (h : f_X10_retypes σ X a x1 x2 x3 x4 = some r) : MtI g l yX10_retypes cX10_retypes 6 (some .boolean) 2 45 [.ref a, .int x1, .int x2, .int x3, .int x4] σ X r := by
  refine met_of mk_X10_retypes (Nat.le_of_ble_eq_true rfl) (fun p e s m args below meth c ls C hW hl => ?_)
  have hx := C.x
  have hb := C.b
  have hl : lv_has ls 6 [(0, .ref a), (1, .int x1), (2, .int x2), (3, .int x3), (4, .int x4)] := hl
  unfold f_X10_retypes at h
  obtain ⟨hk0, h⟩ := grd_inv h
  refine lv_aload_n hx hb dX10_retypes_0 rfl (lv_at hl 0 rfl) ?_
  refine lv_iload_n hx hb dX10_retypes_1 rfl (lv_at hl 1 rfl) ?_
  refine lv_iload_n hx hb dX10_retypes_2 rfl (lv_at hl 2 rfl) ?_
  refine lv_iload_n hx hb dX10_retypes_3 rfl (lv_at hl 3 rfl) ?_
  obtain ⟨v2, h1, h⟩ := bnd_inv h
  refine r_cI hW (run_V (rest := []) C hW (t_X10_hasColumn h1) mk_X10_hasColumn vk_X10_234 (kd_X10_hasColumn h1) rfl rfl (by decide) ⟨Nat.le_of_ble_eq_true rfl, Nat.le_of_ble_eq_true rfl⟩ ⟨Nat.zero_le _, Nat.zero_le _⟩ rfl rfl (Nat.le_of_ble_eq_true rfl) hl.1 dX10_retypes_4) (fun H locs hW _ => ?_)
  refine r_br h (lv_if_eq (tgt := 32) hx hb dX10_retypes_7 (by decide)) (fun h => ?_) (fun h => ?_)
  · refine lv_iconst (v := 0) hx hb dX10_retypes_32 (by decide) ?_
    exact r_iret C hW (Option.some.inj h).symm rfl dX10_retypes_33
  · refine lv_iload hx hb dX10_retypes_10 (lv_at hl 4 rfl) ?_
    refine lv_iconst (v := 0) hx hb dX10_retypes_12 (by decide) ?_
    refine lv_iconst (v := 3) hx hb dX10_retypes_13 (by decide) ?_
    refine r_cI hW (run_S (rest := []) C hW (t_X10_within (X := X)) mk_X10_within sk_X10_231 ⟨Nat.le_of_ble_eq_true rfl, Nat.le_of_ble_eq_true rfl⟩ ⟨Nat.zero_le _, Nat.zero_le _⟩ rfl rfl (Nat.le_of_ble_eq_true rfl) hl.1 dX10_retypes_14) (fun H locs hW _ => ?_)
    refine r_br h (lv_if_eq (tgt := 32) hx hb dX10_retypes_17 (by decide)) (fun h => ?_) (fun h => ?_)
    · refine lv_iconst (v := 0) hx hb dX10_retypes_32 (by decide) ?_
      exact r_iret C hW (Option.some.inj h).symm rfl dX10_retypes_33
    · refine lv_aload_n hx hb dX10_retypes_20 rfl (lv_at hl 0 rfl) ?_
      refine lv_iload_n hx hb dX10_retypes_21 rfl (lv_at hl 1 rfl) ?_
      refine lv_iload_n hx hb dX10_retypes_22 rfl (lv_at hl 2 rfl) ?_
      refine lv_iload_n hx hb dX10_retypes_23 rfl (lv_at hl 3 rfl) ?_
      obtain ⟨v4, h3, h⟩ := bnd_inv h
      refine r_cI hW (run_V (rest := []) C hW (t_X10_typeAt h3) mk_X10_typeAt vk_X10_166 (kd_X10_typeAt h3) rfl rfl (by decide) ⟨Nat.le_of_ble_eq_true rfl, Nat.le_of_ble_eq_true rfl⟩ ⟨Nat.zero_le _, Nat.zero_le _⟩ rfl rfl (Nat.le_of_ble_eq_true rfl) hl.1 dX10_retypes_24) (fun H locs hW _ => ?_)
      refine lv_iload hx hb dX10_retypes_27 (lv_at hl 4 rfl) ?_
      refine r_brn h (lv_icmp_ne (tgt := 34) hx hb dX10_retypes_29 (by decide)) (fun h => ?_) (fun h => ?_)
      · refine lv_aload_n hx hb dX10_retypes_34 rfl (lv_at hl 0 rfl) ?_
        refine r_gR C hW h fl_X10_20 (by decide) dX10_retypes_35 (fun b5 h => ?_)
        refine lv_iload_n hx hb dX10_retypes_38 rfl (lv_at hl 1 rfl) ?_
        refine lv_sipush (v := 200) hx hb dX10_retypes_39 (by decide) ?_
        refine lv_iload_n hx hb dX10_retypes_42 rfl (lv_at hl 2 rfl) ?_
        refine lv_imul hx hb dX10_retypes_43 ?_
        refine lv_iadd hx hb dX10_retypes_44 ?_
        refine lv_bipush (v := 11) hx hb dX10_retypes_45 (by decide) ?_
        refine lv_iadd hx hb dX10_retypes_47 ?_
        refine lv_iload_n hx hb dX10_retypes_48 rfl (lv_at hl 3 rfl) ?_
        refine lv_iadd hx hb dX10_retypes_49 ?_
        refine lv_iload hx hb dX10_retypes_50 (lv_at hl 4 rfl) ?_
        refine r_iast C hW h dX10_retypes_52 (fun X6 H locs h hW _ => ?_)
        refine lv_iconst (v := 0) hx hb dX10_retypes_53 (by decide) ?_
        refine lv_istore (lv' := [(5, .int 0), (0, .ref a), (1, .int x1), (2, .int x2), (3, .int x3), (4, .int x4)]) hx hb dX10_retypes_54 hl (by decide) rfl (fun ls hl => ?_)
        exact b_X10_retypes_56 C FU hW (lv_sub hl [1, 2, 3, 4, 5, 0] rfl) h
      · refine lv_iconst (v := 0) hx hb dX10_retypes_32 (by decide) ?_
        exact r_iret C hW (Option.some.inj h).symm rfl dX10_retypes_33
theorem kd_X10_sets {X : Mx} {r : (Int32 × Mx)} {a : Nat} {x1 : Int32} {x2 : Int32} {x3 : Int32} {x4 : Int32} {x5 : Int32} (h : f_X10_sets σ X a x1 x2 x3 x4 x5 = some r) : shK σ a = 8 := (grd_inv h).1
set_option maxRecDepth 20000 in
set_option maxHeartbeats 2000000 in
theorem t_X10_sets {X : Mx} {r : (Int32 × Mx)} {a : Nat} {x1 : Int32} {x2 : Int32} {x3 : Int32} {x4 : Int32} {x5 : Int32} (h : f_X10_sets σ X a x1 x2 x3 x4 x5 = some r) : MtI g l yX10_sets cX10_sets 6 (some .boolean) 2 45 [.ref a, .int x1, .int x2, .int x3, .int x4, .int x5] σ X r := by
  refine met_of mk_X10_sets (Nat.le_of_ble_eq_true rfl) (fun p e s m args below meth c ls C hW hl => ?_)
  have hx := C.x
  have hb := C.b
  have hl : lv_has ls 6 [(0, .ref a), (1, .int x1), (2, .int x2), (3, .int x3), (4, .int x4), (5, .int x5)] := hl
  unfold f_X10_sets at h
  obtain ⟨hk0, h⟩ := grd_inv h
  refine lv_aload_n hx hb dX10_sets_0 rfl (lv_at hl 0 rfl) ?_
  refine lv_iload_n hx hb dX10_sets_1 rfl (lv_at hl 1 rfl) ?_
  refine lv_iload_n hx hb dX10_sets_2 rfl (lv_at hl 2 rfl) ?_
  refine lv_iload_n hx hb dX10_sets_3 rfl (lv_at hl 3 rfl) ?_
  obtain ⟨v2, h1, h⟩ := bnd_inv h
  refine r_cI hW (run_V (rest := []) C hW (t_X10_hasRow h1) mk_X10_hasRow vk_X10_160 (kd_X10_hasRow h1) rfl rfl (by decide) ⟨Nat.le_of_ble_eq_true rfl, Nat.le_of_ble_eq_true rfl⟩ ⟨Nat.zero_le _, Nat.zero_le _⟩ rfl rfl (Nat.le_of_ble_eq_true rfl) hl.1 dX10_sets_4) (fun H locs hW _ => ?_)
  refine r_br h (lv_if_eq (tgt := 55) hx hb dX10_sets_7 (by decide)) (fun h => ?_) (fun h => ?_)
  · refine lv_iconst (v := 0) hx hb dX10_sets_55 (by decide) ?_
    exact r_iret C hW (Option.some.inj h).symm rfl dX10_sets_56
  · refine lv_aload_n hx hb dX10_sets_10 rfl (lv_at hl 0 rfl) ?_
    refine lv_iload_n hx hb dX10_sets_11 rfl (lv_at hl 1 rfl) ?_
    refine lv_iload_n hx hb dX10_sets_12 rfl (lv_at hl 2 rfl) ?_
    refine lv_iload hx hb dX10_sets_13 (lv_at hl 4 rfl) ?_
    obtain ⟨v4, h3, h⟩ := bnd_inv h
    refine r_cI hW (run_V (rest := []) C hW (t_X10_hasColumn h3) mk_X10_hasColumn vk_X10_234 (kd_X10_hasColumn h3) rfl rfl (by decide) ⟨Nat.le_of_ble_eq_true rfl, Nat.le_of_ble_eq_true rfl⟩ ⟨Nat.zero_le _, Nat.zero_le _⟩ rfl rfl (Nat.le_of_ble_eq_true rfl) hl.1 dX10_sets_15) (fun H locs hW _ => ?_)
    refine r_br h (lv_if_eq (tgt := 55) hx hb dX10_sets_18 (by decide)) (fun h => ?_) (fun h => ?_)
    · refine lv_iconst (v := 0) hx hb dX10_sets_55 (by decide) ?_
      exact r_iret C hW (Option.some.inj h).symm rfl dX10_sets_56
    · refine lv_aload_n hx hb dX10_sets_21 rfl (lv_at hl 0 rfl) ?_
      refine lv_iload_n hx hb dX10_sets_22 rfl (lv_at hl 1 rfl) ?_
      refine lv_iload_n hx hb dX10_sets_23 rfl (lv_at hl 2 rfl) ?_
      refine lv_iload hx hb dX10_sets_24 (lv_at hl 4 rfl) ?_
      obtain ⟨v6, h5, h⟩ := bnd_inv h
      refine r_cI hW (run_V (rest := []) C hW (t_X10_typeAt h5) mk_X10_typeAt vk_X10_166 (kd_X10_typeAt h5) rfl rfl (by decide) ⟨Nat.le_of_ble_eq_true rfl, Nat.le_of_ble_eq_true rfl⟩ ⟨Nat.zero_le _, Nat.zero_le _⟩ rfl rfl (Nat.le_of_ble_eq_true rfl) hl.1 dX10_sets_26) (fun H locs hW _ => ?_)
      refine lv_iload hx hb dX10_sets_29 (lv_at hl 5 rfl) ?_
      obtain ⟨v8, h7, h⟩ := bnd_inv h
      refine r_cI hW (run_S (rest := []) C hW (t_X10_doesHold h7) mk_X10_doesHold sk_X10_170 ⟨Nat.le_of_ble_eq_true rfl, Nat.le_of_ble_eq_true rfl⟩ ⟨Nat.zero_le _, Nat.zero_le _⟩ rfl rfl (Nat.le_of_ble_eq_true rfl) hl.1 dX10_sets_31) (fun H locs hW _ => ?_)
      refine r_br h (lv_if_eq (tgt := 55) hx hb dX10_sets_34 (by decide)) (fun h => ?_) (fun h => ?_)
      · refine lv_iconst (v := 0) hx hb dX10_sets_55 (by decide) ?_
        exact r_iret C hW (Option.some.inj h).symm rfl dX10_sets_56
      · refine lv_aload_n hx hb dX10_sets_37 rfl (lv_at hl 0 rfl) ?_
        refine r_gR C hW h fl_X10_20 (by decide) dX10_sets_38 (fun b9 h => ?_)
        refine lv_iload_n hx hb dX10_sets_41 rfl (lv_at hl 1 rfl) ?_
        refine lv_iload_n hx hb dX10_sets_42 rfl (lv_at hl 2 rfl) ?_
        refine lv_iload_n hx hb dX10_sets_43 rfl (lv_at hl 3 rfl) ?_
        refine lv_iload hx hb dX10_sets_44 (lv_at hl 4 rfl) ?_
        refine r_cI hW (run_S (rest := [.ref b9]) C hW (t_X10_cellAt (X := X)) mk_X10_cellAt sk_X10_174 ⟨Nat.le_of_ble_eq_true rfl, Nat.le_of_ble_eq_true rfl⟩ ⟨Nat.zero_le _, Nat.zero_le _⟩ rfl rfl (Nat.le_of_ble_eq_true rfl) hl.1 dX10_sets_46) (fun H locs hW _ => ?_)
        refine r_iald C hW h dX10_sets_49 (fun v10 h => ?_)
        refine lv_iload hx hb dX10_sets_50 (lv_at hl 5 rfl) ?_
        refine r_brn h (lv_icmp_ne (tgt := 57) hx hb dX10_sets_52 (by decide)) (fun h => ?_) (fun h => ?_)
        · refine lv_aload_n hx hb dX10_sets_57 rfl (lv_at hl 0 rfl) ?_
          refine r_gR C hW h fl_X10_20 (by decide) dX10_sets_58 (fun b11 h => ?_)
          refine lv_iload_n hx hb dX10_sets_61 rfl (lv_at hl 1 rfl) ?_
          refine lv_iload_n hx hb dX10_sets_62 rfl (lv_at hl 2 rfl) ?_
          refine lv_iload_n hx hb dX10_sets_63 rfl (lv_at hl 3 rfl) ?_
          refine lv_iload hx hb dX10_sets_64 (lv_at hl 4 rfl) ?_
          refine r_cI hW (run_S (rest := [.ref b11]) C hW (t_X10_cellAt (X := X)) mk_X10_cellAt sk_X10_174 ⟨Nat.le_of_ble_eq_true rfl, Nat.le_of_ble_eq_true rfl⟩ ⟨Nat.zero_le _, Nat.zero_le _⟩ rfl rfl (Nat.le_of_ble_eq_true rfl) hl.1 dX10_sets_66) (fun H locs hW _ => ?_)
          refine lv_iload hx hb dX10_sets_69 (lv_at hl 5 rfl) ?_
          refine r_iast C hW h dX10_sets_71 (fun X12 H locs h hW _ => ?_)
          refine lv_iconst (v := 1) hx hb dX10_sets_72 (by decide) ?_
          exact r_iret C hW (Option.some.inj h).symm rfl dX10_sets_73
        · refine lv_iconst (v := 0) hx hb dX10_sets_55 (by decide) ?_
          exact r_iret C hW (Option.some.inj h).symm rfl dX10_sets_56
theorem kd_X10_does {X : Mx} {r : (Int32 × Mx)} {a : Nat} {x1 : Int32} {x2 : Int32} {x3 : Int32} {x4 : Int32} {x5 : Int32} {x6 : Int32} (h : f_X10_does σ X a x1 x2 x3 x4 x5 x6 = some r) : shK σ a = 8 := (grd_inv h).1
set_option maxRecDepth 20000 in
set_option maxHeartbeats 2000000 in
theorem t_X10_does {X : Mx} {r : (Int32 × Mx)} {a : Nat} {x1 : Int32} {x2 : Int32} {x3 : Int32} {x4 : Int32} {x5 : Int32} {x6 : Int32} (h : f_X10_does σ X a x1 x2 x3 x4 x5 x6 = some r) : MtI g l yX10_does cX10_does 7 (some .boolean) 4 95 [.ref a, .int x1, .int x2, .int x3, .int x4, .int x5, .int x6] σ X r := by
  refine met_of mk_X10_does (Nat.le_of_ble_eq_true rfl) (fun p e s m args below meth c ls C hW hl => ?_)
  have hx := C.x
  have hb := C.b
  have hl : lv_has ls 7 [(0, .ref a), (1, .int x1), (2, .int x2), (3, .int x3), (4, .int x4), (5, .int x5), (6, .int x6)] := hl
  unfold f_X10_does at h
  obtain ⟨hk0, h⟩ := grd_inv h
  refine lv_iload_n hx hb dX10_does_0 rfl (lv_at hl 3 rfl) ?_
  refine r_case h (fun ec h => ?_) (fun nc0 h => ?_)
  · refine lv_tableIn (tgt := 40) (off := 39) hx hb dX10_does_1 (by rw [ec]; decide) (by rw [ec]; decide) (by rw [ec]; rfl) (by decide) ?_
    refine lv_aload_n hx hb dX10_does_40 rfl (lv_at hl 0 rfl) ?_
    refine lv_iload_n hx hb dX10_does_41 rfl (lv_at hl 1 rfl) ?_
    refine lv_iload_n hx hb dX10_does_42 rfl (lv_at hl 2 rfl) ?_
    refine lv_iload hx hb dX10_does_43 (lv_at hl 4 rfl) ?_
    refine lv_iload hx hb dX10_does_45 (lv_at hl 5 rfl) ?_
    refine lv_iload hx hb dX10_does_47 (lv_at hl 6 rfl) ?_
    obtain ⟨v3, X2, h1, h⟩ := bnd2_inv h
    refine r_cI hW (run_V (rest := []) C hW (t_X10_sets h1) mk_X10_sets vk_X10_250 (kd_X10_sets h1) rfl rfl (by decide) ⟨Nat.le_of_ble_eq_true rfl, Nat.le_of_ble_eq_true rfl⟩ ⟨Nat.zero_le _, Nat.zero_le _⟩ rfl rfl (Nat.le_of_ble_eq_true rfl) hl.1 dX10_does_49) (fun H locs hW _ => ?_)
    obtain ⟨hz, h⟩ := grd_inv h
    exact r_iret C hW (Option.some.inj h).symm (zb hz) dX10_does_52
  refine r_case h (fun ec h => ?_) (fun nc1 h => ?_)
  · refine lv_tableIn (tgt := 53) (off := 52) hx hb dX10_does_1 (by rw [ec]; decide) (by rw [ec]; decide) (by rw [ec]; rfl) (by decide) ?_
    refine lv_aload_n hx hb dX10_does_53 rfl (lv_at hl 0 rfl) ?_
    refine lv_iload_n hx hb dX10_does_54 rfl (lv_at hl 1 rfl) ?_
    refine lv_iload_n hx hb dX10_does_55 rfl (lv_at hl 2 rfl) ?_
    refine lv_iload hx hb dX10_does_56 (lv_at hl 4 rfl) ?_
    obtain ⟨v6, X5, h4, h⟩ := bnd2_inv h
    refine r_cI hW (run_V (rest := []) C hW (t_X10_inserts h4) mk_X10_inserts vk_X10_254 (kd_X10_inserts h4) rfl rfl (by decide) ⟨Nat.le_of_ble_eq_true rfl, Nat.le_of_ble_eq_true rfl⟩ ⟨Nat.zero_le _, Nat.zero_le _⟩ rfl rfl (Nat.le_of_ble_eq_true rfl) hl.1 dX10_does_58) (fun H locs hW _ => ?_)
    obtain ⟨hz, h⟩ := grd_inv h
    exact r_iret C hW (Option.some.inj h).symm (zb hz) dX10_does_61
  refine r_case h (fun ec h => ?_) (fun nc2 h => ?_)
  · refine lv_tableIn (tgt := 62) (off := 61) hx hb dX10_does_1 (by rw [ec]; decide) (by rw [ec]; decide) (by rw [ec]; rfl) (by decide) ?_
    refine lv_aload_n hx hb dX10_does_62 rfl (lv_at hl 0 rfl) ?_
    refine lv_iload_n hx hb dX10_does_63 rfl (lv_at hl 1 rfl) ?_
    refine lv_iload_n hx hb dX10_does_64 rfl (lv_at hl 2 rfl) ?_
    refine lv_iload hx hb dX10_does_65 (lv_at hl 4 rfl) ?_
    obtain ⟨v8, h7, h⟩ := bnd_inv h
    refine r_cI hW (run_V (rest := []) C hW (t_X10_hasRow h7) mk_X10_hasRow vk_X10_160 (kd_X10_hasRow h7) rfl rfl (by decide) ⟨Nat.le_of_ble_eq_true rfl, Nat.le_of_ble_eq_true rfl⟩ ⟨Nat.zero_le _, Nat.zero_le _⟩ rfl rfl (Nat.le_of_ble_eq_true rfl) hl.1 dX10_does_67) (fun H locs hW _ => ?_)
    refine r_brn h (lv_if_ne (tgt := 75) hx hb dX10_does_70 (by decide)) (fun h => ?_) (fun h => ?_)
    · refine lv_aload_n hx hb dX10_does_75 rfl (lv_at hl 0 rfl) ?_
      refine r_gR C hW h fl_X10_20 (by decide) dX10_does_76 (fun b9 h => ?_)
      refine lv_iload_n hx hb dX10_does_79 rfl (lv_at hl 1 rfl) ?_
      refine lv_sipush (v := 200) hx hb dX10_does_80 (by decide) ?_
      refine lv_iload_n hx hb dX10_does_83 rfl (lv_at hl 2 rfl) ?_
      refine lv_imul hx hb dX10_does_84 ?_
      refine lv_iadd hx hb dX10_does_85 ?_
      refine lv_iconst (v := 1) hx hb dX10_does_86 (by decide) ?_
      refine lv_iadd hx hb dX10_does_87 ?_
      refine lv_dup2_11 hx hb dX10_does_88 rfl rfl ?_
      refine r_iald C hW h dX10_does_89 (fun v10 h => ?_)
      refine lv_iconst (v := 1) hx hb dX10_does_90 (by decide) ?_
      refine lv_iload hx hb dX10_does_91 (lv_at hl 4 rfl) ?_
      refine lv_ishl hx hb dX10_does_93 ?_
      refine lv_iconst (v := (-1)) hx hb dX10_does_94 (by decide) ?_
      refine lv_ixor hx hb dX10_does_95 ?_
      refine lv_iand hx hb dX10_does_96 ?_
      refine r_iast C hW h dX10_does_97 (fun X11 H locs h hW _ => ?_)
      refine lv_iconst (v := 1) hx hb dX10_does_98 (by decide) ?_
      exact r_iret C hW (Option.some.inj h).symm rfl dX10_does_99
    · refine lv_iconst (v := 0) hx hb dX10_does_73 (by decide) ?_
      exact r_iret C hW (Option.some.inj h).symm rfl dX10_does_74
  refine r_case h (fun ec h => ?_) (fun nc3 h => ?_)
  · refine lv_tableIn (tgt := 100) (off := 99) hx hb dX10_does_1 (by rw [ec]; decide) (by rw [ec]; decide) (by rw [ec]; rfl) (by decide) ?_
    refine lv_aload_n hx hb dX10_does_100 rfl (lv_at hl 0 rfl) ?_
    refine lv_iload_n hx hb dX10_does_101 rfl (lv_at hl 1 rfl) ?_
    refine lv_iload_n hx hb dX10_does_102 rfl (lv_at hl 2 rfl) ?_
    refine lv_iload hx hb dX10_does_103 (lv_at hl 4 rfl) ?_
    refine lv_iload hx hb dX10_does_105 (lv_at hl 5 rfl) ?_
    obtain ⟨v14, X13, h12, h⟩ := bnd2_inv h
    refine r_cI hW (run_V (rest := []) C hW (t_X10_renames h12) mk_X10_renames vk_X10_257 (kd_X10_renames h12) rfl rfl (by decide) ⟨Nat.le_of_ble_eq_true rfl, Nat.le_of_ble_eq_true rfl⟩ ⟨Nat.zero_le _, Nat.zero_le _⟩ rfl rfl (Nat.le_of_ble_eq_true rfl) hl.1 dX10_does_107) (fun H locs hW _ => ?_)
    obtain ⟨hz, h⟩ := grd_inv h
    exact r_iret C hW (Option.some.inj h).symm (zb hz) dX10_does_110
  refine r_case h (fun ec h => ?_) (fun nc4 h => ?_)
  · refine lv_tableIn (tgt := 111) (off := 110) hx hb dX10_does_1 (by rw [ec]; decide) (by rw [ec]; decide) (by rw [ec]; rfl) (by decide) ?_
    refine lv_aload_n hx hb dX10_does_111 rfl (lv_at hl 0 rfl) ?_
    refine lv_iload_n hx hb dX10_does_112 rfl (lv_at hl 1 rfl) ?_
    refine lv_iload_n hx hb dX10_does_113 rfl (lv_at hl 2 rfl) ?_
    refine lv_iload hx hb dX10_does_114 (lv_at hl 4 rfl) ?_
    refine lv_iload hx hb dX10_does_116 (lv_at hl 5 rfl) ?_
    obtain ⟨v17, X16, h15, h⟩ := bnd2_inv h
    refine r_cI hW (run_V (rest := []) C hW (t_X10_retypes h15) mk_X10_retypes vk_X10_261 (kd_X10_retypes h15) rfl rfl (by decide) ⟨Nat.le_of_ble_eq_true rfl, Nat.le_of_ble_eq_true rfl⟩ ⟨Nat.zero_le _, Nat.zero_le _⟩ rfl rfl (Nat.le_of_ble_eq_true rfl) hl.1 dX10_does_118) (fun H locs hW _ => ?_)
    obtain ⟨hz, h⟩ := grd_inv h
    exact r_iret C hW (Option.some.inj h).symm (zb hz) dX10_does_121
  refine r_case h (fun ec h => ?_) (fun nc5 h => ?_)
  · refine lv_tableIn (tgt := 122) (off := 121) hx hb dX10_does_1 (by rw [ec]; decide) (by rw [ec]; decide) (by rw [ec]; rfl) (by decide) ?_
    refine lv_aload_n hx hb dX10_does_122 rfl (lv_at hl 0 rfl) ?_
    refine lv_iload_n hx hb dX10_does_123 rfl (lv_at hl 1 rfl) ?_
    refine lv_iload_n hx hb dX10_does_124 rfl (lv_at hl 2 rfl) ?_
    refine lv_iload hx hb dX10_does_125 (lv_at hl 4 rfl) ?_
    refine lv_iload hx hb dX10_does_127 (lv_at hl 5 rfl) ?_
    obtain ⟨v20, X19, h18, h⟩ := bnd2_inv h
    refine r_cI hW (run_V (rest := []) C hW (t_X10_adds h18) mk_X10_adds vk_X10_264 (kd_X10_adds h18) rfl rfl (by decide) ⟨Nat.le_of_ble_eq_true rfl, Nat.le_of_ble_eq_true rfl⟩ ⟨Nat.zero_le _, Nat.zero_le _⟩ rfl rfl (Nat.le_of_ble_eq_true rfl) hl.1 dX10_does_129) (fun H locs hW _ => ?_)
    obtain ⟨hz, h⟩ := grd_inv h
    exact r_iret C hW (Option.some.inj h).symm (zb hz) dX10_does_132
  refine lv_tableOut (tgt := 133) hx hb dX10_does_1 (sw_out (lo := 11) (n := 5) (sw_s nc5 (sw_s nc4 (sw_s nc3 (sw_s nc2 (sw_s nc1 (sw_0 nc0)))))) (by decide)) (by decide) ?_
  refine lv_aload_n hx hb dX10_does_133 rfl (lv_at hl 0 rfl) ?_
  refine lv_iload_n hx hb dX10_does_134 rfl (lv_at hl 1 rfl) ?_
  refine lv_iload_n hx hb dX10_does_135 rfl (lv_at hl 2 rfl) ?_
  refine lv_iload hx hb dX10_does_136 (lv_at hl 4 rfl) ?_
  obtain ⟨v22, h21, h⟩ := bnd_inv h
  refine r_cI hW (run_V (rest := []) C hW (t_X10_hasColumn h21) mk_X10_hasColumn vk_X10_234 (kd_X10_hasColumn h21) rfl rfl (by decide) ⟨Nat.le_of_ble_eq_true rfl, Nat.le_of_ble_eq_true rfl⟩ ⟨Nat.zero_le _, Nat.zero_le _⟩ rfl rfl (Nat.le_of_ble_eq_true rfl) hl.1 dX10_does_138) (fun H locs hW _ => ?_)
  refine r_brn h (lv_if_ne (tgt := 146) hx hb dX10_does_141 (by decide)) (fun h => ?_) (fun h => ?_)
  · refine lv_aload_n hx hb dX10_does_146 rfl (lv_at hl 0 rfl) ?_
    refine r_gR C hW h fl_X10_20 (by decide) dX10_does_147 (fun b23 h => ?_)
    refine lv_iload_n hx hb dX10_does_150 rfl (lv_at hl 1 rfl) ?_
    refine lv_sipush (v := 200) hx hb dX10_does_151 (by decide) ?_
    refine lv_iload_n hx hb dX10_does_154 rfl (lv_at hl 2 rfl) ?_
    refine lv_imul hx hb dX10_does_155 ?_
    refine lv_iadd hx hb dX10_does_156 ?_
    refine lv_iconst (v := 0) hx hb dX10_does_157 (by decide) ?_
    refine lv_iadd hx hb dX10_does_158 ?_
    refine lv_dup2_11 hx hb dX10_does_159 rfl rfl ?_
    refine r_iald C hW h dX10_does_160 (fun v24 h => ?_)
    refine lv_iconst (v := 1) hx hb dX10_does_161 (by decide) ?_
    refine lv_iload hx hb dX10_does_162 (lv_at hl 4 rfl) ?_
    refine lv_ishl hx hb dX10_does_164 ?_
    refine lv_iconst (v := (-1)) hx hb dX10_does_165 (by decide) ?_
    refine lv_ixor hx hb dX10_does_166 ?_
    refine lv_iand hx hb dX10_does_167 ?_
    refine r_iast C hW h dX10_does_168 (fun X25 H locs h hW _ => ?_)
    refine lv_iconst (v := 1) hx hb dX10_does_169 (by decide) ?_
    exact r_iret C hW (Option.some.inj h).symm rfl dX10_does_170
  · refine lv_iconst (v := 0) hx hb dX10_does_144 (by decide) ?_
    exact r_iret C hW (Option.some.inj h).symm rfl dX10_does_145
set_option maxRecDepth 20000 in
set_option maxHeartbeats 2000000 in
theorem b_X10_readsEdit_228 {a : Nat} {x1 : Int32} {x2 : Int32} {x3 : Int32} {x5 : Int32} {x6 : Int32} {x7 : Int32} (C : Cx g RX10 cX10_readsEdit 8 none p s m args meth c) {r : Mx} {X : Mx} (hW : Wd g σ X s H locs) (hl : lv_has ls 8 [(0, .ref a), (1, .int x1), (2, .int x2), (3, .int x3), (5, .int x5), (6, .int x6), (7, .int x7)]) (h : f_X10_readsEdit_228 σ a x1 x2 x3 x5 x6 x7 X = some r) : W p l e (rmZ 5 121) s m args below meth c H locs 0 0 (QV g σ below args s r) (F0 m 228 ls []) := by
  have hx := C.x
  have hb := C.b
  unfold f_X10_readsEdit_228 at h
  refine lv_aload_n hx hb dX10_readsEdit_228 rfl (lv_at hl 0 rfl) ?_
  obtain ⟨v2, h1, h⟩ := bnd_inv h
  refine r_cI hW (run_V (rest := []) C hW (t_X10_isGood h1) mk_X10_isGood vk_X10_124 (kd_X10_isGood h1) rfl rfl (by decide) ⟨Nat.le_of_ble_eq_true rfl, Nat.le_of_ble_eq_true rfl⟩ ⟨Nat.zero_le _, Nat.zero_le _⟩ rfl rfl (Nat.le_of_ble_eq_true rfl) hl.1 dX10_readsEdit_229) (fun H locs hW _ => ?_)
  refine r_brn h (lv_if_ne (tgt := 236) hx hb dX10_readsEdit_232 (by decide)) (fun h => ?_) (fun h => ?_)
  · refine lv_aload_n hx hb dX10_readsEdit_236 rfl (lv_at hl 0 rfl) ?_
    refine lv_sipush (v := 931) hx hb dX10_readsEdit_237 (by decide) ?_
    refine lv_iload_n hx hb dX10_readsEdit_240 rfl (lv_at hl 1 rfl) ?_
    refine lv_iload_n hx hb dX10_readsEdit_241 rfl (lv_at hl 3 rfl) ?_
    refine lv_iload hx hb dX10_readsEdit_242 (lv_at hl 4 rfl) ?_
    refine lv_iload hx hb dX10_readsEdit_244 (lv_at hl 5 rfl) ?_
    refine lv_iload hx hb dX10_readsEdit_246 (lv_at hl 6 rfl) ?_
    obtain ⟨v5, X4, h3, h⟩ := bnd2_inv h
    refine r_cI hW (run_V (rest := []) C hW (t_X10_does h3) mk_X10_does vk_X10_190 (kd_X10_does h3) rfl rfl (by decide) ⟨Nat.le_of_ble_eq_true rfl, Nat.le_of_ble_eq_true rfl⟩ ⟨Nat.zero_le _, Nat.zero_le _⟩ rfl rfl (Nat.le_of_ble_eq_true rfl) hl.1 dX10_readsEdit_248) (fun H locs hW _ => ?_)
    refine r_brn h (lv_if_ne (tgt := 265) hx hb dX10_readsEdit_251 (by decide)) (fun h => ?_) (fun h => ?_)
    · exact r_vret C hW (Option.some.inj h).symm dX10_readsEdit_265
    · refine lv_aload_n hx hb dX10_readsEdit_254 rfl (lv_at hl 0 rfl) ?_
      refine lv_bipush (v := 6) hx hb dX10_readsEdit_255 (by decide) ?_
      obtain ⟨X7, h6, h⟩ := bnd_inv h
      refine r_cV hW (run_V (rest := []) C hW (t_X10_wrong h6) mk_X10_wrong vk_X10_131 (kd_X10_wrong h6) rfl rfl (by decide) ⟨Nat.le_of_ble_eq_true rfl, Nat.le_of_ble_eq_true rfl⟩ ⟨Nat.zero_le _, Nat.zero_le _⟩ rfl rfl (Nat.le_of_ble_eq_true rfl) hl.1 dX10_readsEdit_257) (fun H locs hW _ => ?_)
      refine lv_aload_n hx hb dX10_readsEdit_260 rfl (lv_at hl 0 rfl) ?_
      refine lv_iload_n hx hb dX10_readsEdit_261 rfl (lv_at hl 2 rfl) ?_
      refine r_pI C hW h pf_X10_13 (by decide) rfl rfl dX10_readsEdit_262 (fun X8 H locs h hW _ => ?_)
      exact r_vret C hW (Option.some.inj h).symm dX10_readsEdit_265
  · exact r_vret C hW (Option.some.inj h).symm dX10_readsEdit_235
set_option maxRecDepth 20000 in
set_option maxHeartbeats 2000000 in
theorem b_X10_readsEdit_205 {a : Nat} {x1 : Int32} {x2 : Int32} {x3 : Int32} {x5 : Int32} {x6 : Int32} (C : Cx g RX10 cX10_readsEdit 8 none p s m args meth c) {r : Mx} {X : Mx} {y0 : Int32} (hW : Wd g σ X s H locs) (hl : lv_has ls 8 [(0, .ref a), (1, .int x1), (2, .int x2), (3, .int x3), (5, .int x5), (6, .int x6)]) (h : f_X10_readsEdit_205 σ a x1 x2 x3 x5 x6 X y0 = some r) : W p l e (rmZ 5 121) s m args below meth c H locs 0 0 (QV g σ below args s r) (F0 m 205 ls [.int y0]) := by
  have hx := C.x
  have hb := C.b
  unfold f_X10_readsEdit_205 at h
  refine lv_istore (lv' := [(7, .int y0), (0, .ref a), (1, .int x1), (2, .int x2), (3, .int x3), (5, .int x5), (6, .int x6)]) hx hb dX10_readsEdit_205 hl (by decide) rfl (fun ls hl => ?_)
  refine lv_aload_n hx hb dX10_readsEdit_207 rfl (lv_at hl 1 rfl) ?_
  obtain ⟨v2, h1, h⟩ := bnd_inv h
  refine r_cI hW (run_V (rest := []) C hW (t_X10_isGood h1) mk_X10_isGood vk_X10_124 (kd_X10_isGood h1) rfl rfl (by decide) ⟨Nat.le_of_ble_eq_true rfl, Nat.le_of_ble_eq_true rfl⟩ ⟨Nat.zero_le _, Nat.zero_le _⟩ rfl rfl (Nat.le_of_ble_eq_true rfl) hl.1 dX10_readsEdit_208) (fun H locs hW _ => ?_)
  refine r_br h (lv_if_eq (tgt := 228) hx hb dX10_readsEdit_211 (by decide)) (fun h => ?_) (fun h => ?_)
  · exact b_X10_readsEdit_228 C hW (lv_sub hl [1, 2, 3, 4, 5, 6, 0] rfl) h
  · refine lv_aload_n hx hb dX10_readsEdit_214 rfl (lv_at hl 1 rfl) ?_
    refine lv_bipush (v := 59) hx hb dX10_readsEdit_215 (by decide) ?_
    obtain ⟨v4, h3, h⟩ := bnd_inv h
    refine r_cI hW (run_V (rest := []) C hW (t_X10_isSign h3) mk_X10_isSign vk_X10_141 (kd_X10_isSign h3) rfl rfl (by decide) ⟨Nat.le_of_ble_eq_true rfl, Nat.le_of_ble_eq_true rfl⟩ ⟨Nat.zero_le _, Nat.zero_le _⟩ rfl rfl (Nat.le_of_ble_eq_true rfl) hl.1 dX10_readsEdit_217) (fun H locs hW _ => ?_)
    refine r_brn h (lv_if_ne (tgt := 228) hx hb dX10_readsEdit_220 (by decide)) (fun h => ?_) (fun h => ?_)
    · exact b_X10_readsEdit_228 C hW (lv_sub hl [1, 2, 3, 4, 5, 6, 0] rfl) h
    · refine lv_aload_n hx hb dX10_readsEdit_223 rfl (lv_at hl 1 rfl) ?_
      refine lv_iconst (v := 1) hx hb dX10_readsEdit_224 (by decide) ?_
      obtain ⟨X6, h5, h⟩ := bnd_inv h
      refine r_cV hW (run_V (rest := []) C hW (t_X10_wrong h5) mk_X10_wrong vk_X10_131 (kd_X10_wrong h5) rfl rfl (by decide) ⟨Nat.le_of_ble_eq_true rfl, Nat.le_of_ble_eq_true rfl⟩ ⟨Nat.zero_le _, Nat.zero_le _⟩ rfl rfl (Nat.le_of_ble_eq_true rfl) hl.1 dX10_readsEdit_225) (fun H locs hW _ => ?_)
      exact b_X10_readsEdit_228 C hW (lv_sub hl [1, 2, 3, 4, 5, 6, 0] rfl) h
set_option maxRecDepth 20000 in
set_option maxHeartbeats 2000000 in
theorem b_X10_readsEdit_191 {a : Nat} {x1 : Int32} {x2 : Int32} {x3 : Int32} {x5 : Int32} {x6 : Int32} (C : Cx g RX10 cX10_readsEdit 8 none p s m args meth c) {r : Mx} {X : Mx} (hW : Wd g σ X s H locs) (hl : lv_has ls 8 [(0, .ref a), (1, .int x1), (2, .int x2), (3, .int x3), (5, .int x5), (6, .int x6)]) (h : f_X10_readsEdit_191 σ a x1 x2 x3 x5 x6 X = some r) : W p l e (rmZ 5 121) s m args below meth c H locs 0 0 (QV g σ below args s r) (F0 m 191 ls []) := by
  have hx := C.x
  have hb := C.b
  unfold f_X10_readsEdit_191 at h
  refine lv_iload_n hx hb dX10_readsEdit_191 rfl (lv_at hl 3 rfl) ?_
  refine lv_bipush (v := 11) hx hb dX10_readsEdit_192 (by decide) ?_
  refine r_brn h (lv_icmp_ne (tgt := 204) hx hb dX10_readsEdit_194 (by decide)) (fun h => ?_) (fun h => ?_)
  · refine lv_iconst (v := 0) hx hb dX10_readsEdit_204 (by decide) ?_
    exact b_X10_readsEdit_205 C hW (lv_sub hl [0, 1, 2, 3, 4, 5] rfl) h
  · refine lv_aload_n hx hb dX10_readsEdit_197 rfl (lv_at hl 0 rfl) ?_
    obtain ⟨v3, X2, h1, h⟩ := bnd2_inv h
    refine r_cI hW (run_V (rest := []) C hW (t_X10_cellOf h1) mk_X10_cellOf vk_X10_163 (kd_X10_cellOf h1) rfl rfl (by decide) ⟨Nat.le_of_ble_eq_true rfl, Nat.le_of_ble_eq_true rfl⟩ ⟨Nat.zero_le _, Nat.zero_le _⟩ rfl rfl (Nat.le_of_ble_eq_true rfl) hl.1 dX10_readsEdit_198) (fun H locs hW _ => ?_)
    refine lv_goto (tgt := 205) hx hb dX10_readsEdit_201 (by decide) ?_
    exact b_X10_readsEdit_205 C hW (lv_sub hl [0, 1, 2, 3, 4, 5] rfl) h
set_option maxRecDepth 20000 in
set_option maxHeartbeats 2000000 in
theorem b_X10_readsEdit_172 {a : Nat} {x1 : Int32} {x2 : Int32} {x3 : Int32} {x5 : Int32} (C : Cx g RX10 cX10_readsEdit 8 none p s m args meth c) {r : Mx} {X : Mx} {y0 : Int32} (hW : Wd g σ X s H locs) (hl : lv_has ls 8 [(0, .ref a), (1, .int x1), (2, .int x2), (3, .int x3), (5, .int x5)]) (h : f_X10_readsEdit_172 σ a x1 x2 x3 x5 X y0 = some r) : W p l e (rmZ 5 121) s m args below meth c H locs 0 0 (QV g σ below args s r) (F0 m 172 ls [.int y0]) := by
  have hx := C.x
  have hb := C.b
  unfold f_X10_readsEdit_172 at h
  refine lv_istore (lv' := [(6, .int y0), (0, .ref a), (1, .int x1), (2, .int x2), (3, .int x3), (5, .int x5)]) hx hb dX10_readsEdit_172 hl (by decide) rfl (fun ls hl => ?_)
  refine lv_iload_n hx hb dX10_readsEdit_174 rfl (lv_at hl 4 rfl) ?_
  refine lv_bipush (v := 14) hx hb dX10_readsEdit_175 (by decide) ?_
  refine r_brn h (lv_icmp_ne (tgt := 191) hx hb dX10_readsEdit_177 (by decide)) (fun h => ?_) (fun h => ?_)
  · exact b_X10_readsEdit_191 C hW (lv_sub hl [1, 2, 3, 4, 5, 0] rfl) h
  · refine lv_aload_n hx hb dX10_readsEdit_180 rfl (lv_at hl 1 rfl) ?_
    obtain ⟨v2, h1, h⟩ := bnd_inv h
    refine r_cI hW (run_V (rest := []) C hW (t_X10_isGood h1) mk_X10_isGood vk_X10_124 (kd_X10_isGood h1) rfl rfl (by decide) ⟨Nat.le_of_ble_eq_true rfl, Nat.le_of_ble_eq_true rfl⟩ ⟨Nat.zero_le _, Nat.zero_le _⟩ rfl rfl (Nat.le_of_ble_eq_true rfl) hl.1 dX10_readsEdit_181) (fun H locs hW _ => ?_)
    refine r_br h (lv_if_eq (tgt := 191) hx hb dX10_readsEdit_184 (by decide)) (fun h => ?_) (fun h => ?_)
    · exact b_X10_readsEdit_191 C hW (lv_sub hl [1, 2, 3, 4, 5, 0] rfl) h
    · refine lv_aload_n hx hb dX10_readsEdit_187 rfl (lv_at hl 1 rfl) ?_
      obtain ⟨X4, h3, h⟩ := bnd_inv h
      refine r_cV hW (run_V (rest := []) C hW (t_X10_goes h3) mk_X10_goes vk_X10_128 (kd_X10_goes h3) rfl rfl (by decide) ⟨Nat.le_of_ble_eq_true rfl, Nat.le_of_ble_eq_true rfl⟩ ⟨Nat.zero_le _, Nat.zero_le _⟩ rfl rfl (Nat.le_of_ble_eq_true rfl) hl.1 dX10_readsEdit_188) (fun H locs hW _ => ?_)
      exact b_X10_readsEdit_191 C hW (lv_sub hl [1, 2, 3, 4, 5, 0] rfl) h
set_option maxRecDepth 20000 in
set_option maxHeartbeats 2000000 in
theorem b_X10_readsEdit_164 {a : Nat} {x1 : Int32} {x2 : Int32} {x3 : Int32} {x5 : Int32} (C : Cx g RX10 cX10_readsEdit 8 none p s m args meth c) {r : Mx} {X : Mx} (hW : Wd g σ X s H locs) (hl : lv_has ls 8 [(0, .ref a), (1, .int x1), (2, .int x2), (3, .int x3), (5, .int x5)]) (h : f_X10_readsEdit_164 σ a x1 x2 x3 x5 X = some r) : W p l e (rmZ 5 121) s m args below meth c H locs 0 0 (QV g σ below args s r) (F0 m 164 ls []) := by
  have hx := C.x
  have hb := C.b
  unfold f_X10_readsEdit_164 at h
  refine lv_aload_n hx hb dX10_readsEdit_164 rfl (lv_at hl 0 rfl) ?_
  obtain ⟨v3, X2, h1, h⟩ := bnd2_inv h
  refine r_cI hW (run_V (rest := []) C hW (t_X10_typeOf h1) mk_X10_typeOf vk_X10_157 (kd_X10_typeOf h1) rfl rfl (by decide) ⟨Nat.le_of_ble_eq_true rfl, Nat.le_of_ble_eq_true rfl⟩ ⟨Nat.zero_le _, Nat.zero_le _⟩ rfl rfl (Nat.le_of_ble_eq_true rfl) hl.1 dX10_readsEdit_165) (fun H locs hW _ => ?_)
  refine lv_goto (tgt := 172) hx hb dX10_readsEdit_168 (by decide) ?_
  exact b_X10_readsEdit_172 C hW (lv_sub hl [0, 1, 2, 3, 4] rfl) h
set_option maxRecDepth 20000 in
set_option maxHeartbeats 2000000 in
theorem b_X10_readsEdit_123 {a : Nat} {x1 : Int32} {x2 : Int32} {x3 : Int32} {x5 : Int32} (C : Cx g RX10 cX10_readsEdit 8 none p s m args meth c) {r : Mx} {X : Mx} (hW : Wd g σ X s H locs) (hl : lv_has ls 8 [(0, .ref a), (1, .int x1), (2, .int x2), (3, .int x3), (5, .int x5)]) (h : f_X10_readsEdit_123 σ a x1 x2 x3 x5 X = some r) : W p l e (rmZ 5 121) s m args below meth c H locs 0 0 (QV g σ below args s r) (F0 m 123 ls []) := by
  have hx := C.x
  have hb := C.b
  unfold f_X10_readsEdit_123 at h
  refine lv_iload_n hx hb dX10_readsEdit_123 rfl (lv_at hl 3 rfl) ?_
  refine lv_bipush (v := 11) hx hb dX10_readsEdit_124 (by decide) ?_
  refine r_brn h (lv_icmp_ne (tgt := 139) hx hb dX10_readsEdit_126 (by decide)) (fun h => ?_) (fun h => ?_)
  · refine lv_iload_n hx hb dX10_readsEdit_139 rfl (lv_at hl 3 rfl) ?_
    refine lv_bipush (v := 14) hx hb dX10_readsEdit_140 (by decide) ?_
    refine r_brn h (lv_icmp_ne (tgt := 152) hx hb dX10_readsEdit_142 (by decide)) (fun h => ?_) (fun h => ?_)
    · refine lv_iload_n hx hb dX10_readsEdit_152 rfl (lv_at hl 3 rfl) ?_
      refine lv_bipush (v := 15) hx hb dX10_readsEdit_153 (by decide) ?_
      refine r_br h (lv_icmp_eq (tgt := 164) hx hb dX10_readsEdit_155 (by decide)) (fun h => ?_) (fun h => ?_)
      · exact b_X10_readsEdit_164 C hW (lv_sub hl [0, 1, 2, 3, 4] rfl) h
      · refine lv_iload_n hx hb dX10_readsEdit_158 rfl (lv_at hl 3 rfl) ?_
        refine lv_bipush (v := 16) hx hb dX10_readsEdit_159 (by decide) ?_
        refine r_brn h (lv_icmp_ne (tgt := 171) hx hb dX10_readsEdit_161 (by decide)) (fun h => ?_) (fun h => ?_)
        · refine lv_iconst (v := 0) hx hb dX10_readsEdit_171 (by decide) ?_
          exact b_X10_readsEdit_172 C hW (lv_sub hl [0, 1, 2, 3, 4] rfl) h
        · exact b_X10_readsEdit_164 C hW (lv_sub hl [0, 1, 2, 3, 4] rfl) h
    · refine lv_aload_n hx hb dX10_readsEdit_145 rfl (lv_at hl 0 rfl) ?_
      obtain ⟨v3, X2, h1, h⟩ := bnd2_inv h
      refine r_cI hW (run_V (rest := []) C hW (t_X10_nameHere h1) mk_X10_nameHere vk_X10_150 (kd_X10_nameHere h1) rfl rfl (by decide) ⟨Nat.le_of_ble_eq_true rfl, Nat.le_of_ble_eq_true rfl⟩ ⟨Nat.zero_le _, Nat.zero_le _⟩ rfl rfl (Nat.le_of_ble_eq_true rfl) hl.1 dX10_readsEdit_146) (fun H locs hW _ => ?_)
      refine lv_goto (tgt := 172) hx hb dX10_readsEdit_149 (by decide) ?_
      exact b_X10_readsEdit_172 C hW (lv_sub hl [0, 1, 2, 3, 4] rfl) h
  · refine lv_aload_n hx hb dX10_readsEdit_129 rfl (lv_at hl 0 rfl) ?_
    refine lv_sipush (v := 9999) hx hb dX10_readsEdit_130 (by decide) ?_
    obtain ⟨v6, X5, h4, h⟩ := bnd2_inv h
    refine r_cI hW (run_V (rest := []) C hW (t_X10_number h4) mk_X10_number vk_X10_144 (kd_X10_number h4) rfl rfl (by decide) ⟨Nat.le_of_ble_eq_true rfl, Nat.le_of_ble_eq_true rfl⟩ ⟨Nat.zero_le _, Nat.zero_le _⟩ rfl rfl (Nat.le_of_ble_eq_true rfl) hl.1 dX10_readsEdit_133) (fun H locs hW _ => ?_)
    refine lv_goto (tgt := 172) hx hb dX10_readsEdit_136 (by decide) ?_
    exact b_X10_readsEdit_172 C hW (lv_sub hl [0, 1, 2, 3, 4] rfl) h
set_option maxRecDepth 20000 in
set_option maxHeartbeats 2000000 in
theorem b_X10_readsEdit_104 {a : Nat} {x1 : Int32} {x2 : Int32} {x3 : Int32} (C : Cx g RX10 cX10_readsEdit 8 none p s m args meth c) {r : Mx} {X : Mx} {y0 : Int32} (hW : Wd g σ X s H locs) (hl : lv_has ls 8 [(0, .ref a), (1, .int x1), (2, .int x2), (3, .int x3)]) (h : f_X10_readsEdit_104 σ a x1 x2 x3 X y0 = some r) : W p l e (rmZ 5 121) s m args below meth c H locs 0 0 (QV g σ below args s r) (F0 m 104 ls [.int y0]) := by
  have hx := C.x
  have hb := C.b
  unfold f_X10_readsEdit_104 at h
  refine lv_istore (lv' := [(5, .int y0), (0, .ref a), (1, .int x1), (2, .int x2), (3, .int x3)]) hx hb dX10_readsEdit_104 hl (by decide) rfl (fun ls hl => ?_)
  refine lv_iload_n hx hb dX10_readsEdit_106 rfl (lv_at hl 4 rfl) ?_
  refine lv_bipush (v := 16) hx hb dX10_readsEdit_107 (by decide) ?_
  refine r_brn h (lv_icmp_ne (tgt := 123) hx hb dX10_readsEdit_109 (by decide)) (fun h => ?_) (fun h => ?_)
  · exact b_X10_readsEdit_123 C hW (lv_sub hl [1, 2, 3, 4, 0] rfl) h
  · refine lv_aload_n hx hb dX10_readsEdit_112 rfl (lv_at hl 1 rfl) ?_
    obtain ⟨v2, h1, h⟩ := bnd_inv h
    refine r_cI hW (run_V (rest := []) C hW (t_X10_isGood h1) mk_X10_isGood vk_X10_124 (kd_X10_isGood h1) rfl rfl (by decide) ⟨Nat.le_of_ble_eq_true rfl, Nat.le_of_ble_eq_true rfl⟩ ⟨Nat.zero_le _, Nat.zero_le _⟩ rfl rfl (Nat.le_of_ble_eq_true rfl) hl.1 dX10_readsEdit_113) (fun H locs hW _ => ?_)
    refine r_br h (lv_if_eq (tgt := 123) hx hb dX10_readsEdit_116 (by decide)) (fun h => ?_) (fun h => ?_)
    · exact b_X10_readsEdit_123 C hW (lv_sub hl [1, 2, 3, 4, 0] rfl) h
    · refine lv_aload_n hx hb dX10_readsEdit_119 rfl (lv_at hl 1 rfl) ?_
      obtain ⟨X4, h3, h⟩ := bnd_inv h
      refine r_cV hW (run_V (rest := []) C hW (t_X10_goes h3) mk_X10_goes vk_X10_128 (kd_X10_goes h3) rfl rfl (by decide) ⟨Nat.le_of_ble_eq_true rfl, Nat.le_of_ble_eq_true rfl⟩ ⟨Nat.zero_le _, Nat.zero_le _⟩ rfl rfl (Nat.le_of_ble_eq_true rfl) hl.1 dX10_readsEdit_120) (fun H locs hW _ => ?_)
      exact b_X10_readsEdit_123 C hW (lv_sub hl [1, 2, 3, 4, 0] rfl) h
set_option maxRecDepth 20000 in
set_option maxHeartbeats 2000000 in
theorem b_X10_readsEdit_101 {a : Nat} {x1 : Int32} {x2 : Int32} {x3 : Int32} (C : Cx g RX10 cX10_readsEdit 8 none p s m args meth c) {r : Mx} {X : Mx} {y0 : Nat} {y1 : Int32} (hW : Wd g σ X s H locs) (hl : lv_has ls 8 [(0, .ref a), (1, .int x1), (2, .int x2), (3, .int x3)]) (h : f_X10_readsEdit_101 σ a x1 x2 x3 X y0 y1 = some r) : W p l e (rmZ 5 121) s m args below meth c H locs 0 0 (QV g σ below args s r) (F0 m 101 ls [.int y1, .ref y0]) := by
  have hx := C.x
  have hb := C.b
  unfold f_X10_readsEdit_101 at h
  obtain ⟨v3, X2, h1, h⟩ := bnd2_inv h
  refine r_cI hW (run_V (rest := []) C hW (t_X10_number h1) mk_X10_number vk_X10_144 (kd_X10_number h1) rfl rfl (by decide) ⟨Nat.le_of_ble_eq_true rfl, Nat.le_of_ble_eq_true rfl⟩ ⟨Nat.zero_le _, Nat.zero_le _⟩ rfl rfl (Nat.le_of_ble_eq_true rfl) hl.1 dX10_readsEdit_101) (fun H locs hW _ => ?_)
  exact b_X10_readsEdit_104 C hW (lv_sub hl [0, 1, 2, 3] rfl) h
set_option maxRecDepth 20000 in
set_option maxHeartbeats 2000000 in
theorem b_X10_readsEdit_72 {a : Nat} {x1 : Int32} {x2 : Int32} {x3 : Int32} (C : Cx g RX10 cX10_readsEdit 8 none p s m args meth c) {r : Mx} {X : Mx} {y0 : Int32} (hW : Wd g σ X s H locs) (hl : lv_has ls 8 [(0, .ref a), (1, .int x1), (2, .int x2), (3, .int x3)]) (h : f_X10_readsEdit_72 σ a x1 x2 x3 X y0 = some r) : W p l e (rmZ 5 121) s m args below meth c H locs 0 0 (QV g σ below args s r) (F0 m 72 ls [.int y0]) := by
  have hx := C.x
  have hb := C.b
  unfold f_X10_readsEdit_72 at h
  refine lv_istore (lv' := [(4, .int y0), (0, .ref a), (1, .int x1), (2, .int x2), (3, .int x3)]) hx hb dX10_readsEdit_72 hl (by decide) rfl (fun ls hl => ?_)
  refine lv_iload_n hx hb dX10_readsEdit_74 rfl (lv_at hl 4 rfl) ?_
  refine lv_bipush (v := 16) hx hb dX10_readsEdit_75 (by decide) ?_
  refine r_brn h (lv_icmp_ne (tgt := 87) hx hb dX10_readsEdit_77 (by decide)) (fun h => ?_) (fun h => ?_)
  · refine lv_aload_n hx hb dX10_readsEdit_87 rfl (lv_at hl 1 rfl) ?_
    refine lv_iload hx hb dX10_readsEdit_88 (lv_at hl 0 rfl) ?_
    refine r_br h (lv_if_eq (tgt := 98) hx hb dX10_readsEdit_90 (by decide)) (fun h => ?_) (fun h => ?_)
    · refine lv_sipush (v := 9999) hx hb dX10_readsEdit_98 (by decide) ?_
      exact b_X10_readsEdit_101 C hW (lv_sub hl [1, 2, 3, 4] rfl) h
    · refine lv_bipush (v := 19) hx hb dX10_readsEdit_93 (by decide) ?_
      refine lv_goto (tgt := 101) hx hb dX10_readsEdit_95 (by decide) ?_
      exact b_X10_readsEdit_101 C hW (lv_sub hl [1, 2, 3, 4] rfl) h
  · refine lv_aload_n hx hb dX10_readsEdit_80 rfl (lv_at hl 1 rfl) ?_
    obtain ⟨v3, X2, h1, h⟩ := bnd2_inv h
    refine r_cI hW (run_V (rest := []) C hW (t_X10_nameHere h1) mk_X10_nameHere vk_X10_150 (kd_X10_nameHere h1) rfl rfl (by decide) ⟨Nat.le_of_ble_eq_true rfl, Nat.le_of_ble_eq_true rfl⟩ ⟨Nat.zero_le _, Nat.zero_le _⟩ rfl rfl (Nat.le_of_ble_eq_true rfl) hl.1 dX10_readsEdit_81) (fun H locs hW _ => ?_)
    refine lv_goto (tgt := 104) hx hb dX10_readsEdit_84 (by decide) ?_
    exact b_X10_readsEdit_104 C hW (lv_sub hl [1, 2, 3, 4] rfl) h
set_option maxRecDepth 20000 in
set_option maxHeartbeats 2000000 in
theorem b_X10_readsEdit_49 {a : Nat} {x1 : Int32} {x2 : Int32} {x3 : Int32} (C : Cx g RX10 cX10_readsEdit 8 none p s m args meth c) {r : Mx} {X : Mx} (hW : Wd g σ X s H locs) (hl : lv_has ls 8 [(0, .ref a), (1, .int x1), (2, .int x2), (3, .int x3)]) (h : f_X10_readsEdit_49 σ a x1 x2 x3 X = some r) : W p l e (rmZ 5 121) s m args below meth c H locs 0 0 (QV g σ below args s r) (F0 m 49 ls []) := by
  have hx := C.x
  have hb := C.b
  unfold f_X10_readsEdit_49 at h
  refine lv_aload_n hx hb dX10_readsEdit_49 rfl (lv_at hl 0 rfl) ?_
  obtain ⟨v2, h1, h⟩ := bnd_inv h
  refine r_cI hW (run_V (rest := []) C hW (t_X10_isGood h1) mk_X10_isGood vk_X10_124 (kd_X10_isGood h1) rfl rfl (by decide) ⟨Nat.le_of_ble_eq_true rfl, Nat.le_of_ble_eq_true rfl⟩ ⟨Nat.zero_le _, Nat.zero_le _⟩ rfl rfl (Nat.le_of_ble_eq_true rfl) hl.1 dX10_readsEdit_50) (fun H locs hW _ => ?_)
  refine r_brn h (lv_if_ne (tgt := 57) hx hb dX10_readsEdit_53 (by decide)) (fun h => ?_) (fun h => ?_)
  · refine lv_aload_n hx hb dX10_readsEdit_57 rfl (lv_at hl 0 rfl) ?_
    obtain ⟨X4, h3, h⟩ := bnd_inv h
    refine r_cV hW (run_V (rest := []) C hW (t_X10_goes h3) mk_X10_goes vk_X10_128 (kd_X10_goes h3) rfl rfl (by decide) ⟨Nat.le_of_ble_eq_true rfl, Nat.le_of_ble_eq_true rfl⟩ ⟨Nat.zero_le _, Nat.zero_le _⟩ rfl rfl (Nat.le_of_ble_eq_true rfl) hl.1 dX10_readsEdit_58) (fun H locs hW _ => ?_)
    refine lv_iload_n hx hb dX10_readsEdit_61 rfl (lv_at hl 3 rfl) ?_
    refine lv_bipush (v := 13) hx hb dX10_readsEdit_62 (by decide) ?_
    refine r_br h (lv_icmp_gt (tgt := 71) hx hb dX10_readsEdit_64 (by decide)) (fun h => ?_) (fun h => ?_)
    · refine lv_iconst (v := 0) hx hb dX10_readsEdit_71 (by decide) ?_
      exact b_X10_readsEdit_72 C hW (lv_sub hl [0, 1, 2, 3] rfl) h
    · refine lv_iconst (v := 1) hx hb dX10_readsEdit_67 (by decide) ?_
      refine lv_goto (tgt := 72) hx hb dX10_readsEdit_68 (by decide) ?_
      exact b_X10_readsEdit_72 C hW (lv_sub hl [0, 1, 2, 3] rfl) h
  · exact r_vret C hW (Option.some.inj h).symm dX10_readsEdit_56
set_option maxRecDepth 20000 in
set_option maxHeartbeats 2000000 in
theorem b_X10_readsEdit_19 {a : Nat} {x1 : Int32} {x2 : Int32} (C : Cx g RX10 cX10_readsEdit 8 none p s m args meth c) {r : Mx} {X : Mx} (hW : Wd g σ X s H locs) (hl : lv_has ls 8 [(0, .ref a), (1, .int x1), (2, .int x2)]) (h : f_X10_readsEdit_19 σ a x1 x2 X = some r) : W p l e (rmZ 5 121) s m args below meth c H locs 0 0 (QV g σ below args s r) (F0 m 19 ls []) := by
  have hx := C.x
  have hb := C.b
  unfold f_X10_readsEdit_19 at h
  refine lv_aload_n hx hb dX10_readsEdit_19 rfl (lv_at hl 0 rfl) ?_
  refine lv_dup hx hb dX10_readsEdit_20 rfl ?_
  refine r_gI C hW h fl_X10_184 (by decide) dX10_readsEdit_21 (fun v1 h => ?_)
  refine lv_iconst (v := 1) hx hb dX10_readsEdit_24 (by decide) ?_
  refine lv_iadd hx hb dX10_readsEdit_25 ?_
  refine r_pI C hW h pf_X10_184 (by decide) rfl rfl dX10_readsEdit_26 (fun X2 H locs h hW _ => ?_)
  refine lv_aload_n hx hb dX10_readsEdit_29 rfl (lv_at hl 0 rfl) ?_
  obtain ⟨X4, h3, h⟩ := bnd_inv h
  refine r_cV hW (run_V (rest := []) C hW (t_X10_goes h3) mk_X10_goes vk_X10_128 (kd_X10_goes h3) rfl rfl (by decide) ⟨Nat.le_of_ble_eq_true rfl, Nat.le_of_ble_eq_true rfl⟩ ⟨Nat.zero_le _, Nat.zero_le _⟩ rfl rfl (Nat.le_of_ble_eq_true rfl) hl.1 dX10_readsEdit_30) (fun H locs hW _ => ?_)
  refine lv_aload_n hx hb dX10_readsEdit_33 rfl (lv_at hl 0 rfl) ?_
  obtain ⟨v6, h5, h⟩ := bnd_inv h
  refine r_cI hW (run_V (rest := []) C hW (t_X10_knownWord h5) mk_X10_knownWord vk_X10_137 (kd_X10_knownWord h5) rfl rfl (by decide) ⟨Nat.le_of_ble_eq_true rfl, Nat.le_of_ble_eq_true rfl⟩ ⟨Nat.zero_le _, Nat.zero_le _⟩ rfl rfl (Nat.le_of_ble_eq_true rfl) hl.1 dX10_readsEdit_34) (fun H locs hW _ => ?_)
  refine lv_istore_n (lv' := [(3, .int v6), (0, .ref a), (1, .int x1), (2, .int x2)]) hx hb dX10_readsEdit_37 rfl hl (by decide) rfl (fun ls hl => ?_)
  refine lv_iload_n hx hb dX10_readsEdit_38 rfl (lv_at hl 0 rfl) ?_
  refine lv_bipush (v := 11) hx hb dX10_readsEdit_39 (by decide) ?_
  refine r_br h (lv_icmp_ge (tgt := 49) hx hb dX10_readsEdit_41 (by decide)) (fun h => ?_) (fun h => ?_)
  · exact b_X10_readsEdit_49 C hW (lv_sub hl [1, 2, 3, 0] rfl) h
  · refine lv_aload_n hx hb dX10_readsEdit_44 rfl (lv_at hl 1 rfl) ?_
    refine lv_iconst (v := 1) hx hb dX10_readsEdit_45 (by decide) ?_
    obtain ⟨X8, h7, h⟩ := bnd_inv h
    refine r_cV hW (run_V (rest := []) C hW (t_X10_wrong h7) mk_X10_wrong vk_X10_131 (kd_X10_wrong h7) rfl rfl (by decide) ⟨Nat.le_of_ble_eq_true rfl, Nat.le_of_ble_eq_true rfl⟩ ⟨Nat.zero_le _, Nat.zero_le _⟩ rfl rfl (Nat.le_of_ble_eq_true rfl) hl.1 dX10_readsEdit_46) (fun H locs hW _ => ?_)
    exact b_X10_readsEdit_49 C hW (lv_sub hl [1, 2, 3, 0] rfl) h
theorem kd_X10_readsEdit {X : Mx} {r : Mx} {a : Nat} {x1 : Int32} (h : f_X10_readsEdit σ X a x1 = some r) : shK σ a = 8 := (grd_inv h).1
set_option maxRecDepth 20000 in
set_option maxHeartbeats 2000000 in
theorem t_X10_readsEdit {X : Mx} {r : Mx} {a : Nat} {x1 : Int32} (h : f_X10_readsEdit σ X a x1 = some r) : MtV g l yX10_readsEdit cX10_readsEdit 8 none 5 121 [.ref a, .int x1] σ X r := by
  refine met_of mk_X10_readsEdit (Nat.le_of_ble_eq_true rfl) (fun p e s m args below meth c ls C hW hl => ?_)
  have hx := C.x
  have hb := C.b
  have hl : lv_has ls 8 [(0, .ref a), (1, .int x1)] := hl
  unfold f_X10_readsEdit at h
  obtain ⟨hk0, h⟩ := grd_inv h
  refine lv_aload_n hx hb dX10_readsEdit_0 rfl (lv_at hl 0 rfl) ?_
  refine r_gI C hW h fl_X10_85 (by decide) dX10_readsEdit_1 (fun v1 h => ?_)
  refine lv_istore_n (lv' := [(2, .int v1), (0, .ref a), (1, .int x1)]) hx hb dX10_readsEdit_4 rfl hl (by decide) rfl (fun ls hl => ?_)
  refine lv_aload_n hx hb dX10_readsEdit_5 rfl (lv_at hl 1 rfl) ?_
  refine r_gI C hW h fl_X10_184 (by decide) dX10_readsEdit_6 (fun v2 h => ?_)
  refine r_brn h (lv_if_ne (tgt := 19) hx hb dX10_readsEdit_9 (by decide)) (fun h => ?_) (fun h => ?_)
  · exact b_X10_readsEdit_19 C hW (lv_sub hl [1, 2, 0] rfl) h
  · refine lv_aload_n hx hb dX10_readsEdit_12 rfl (lv_at hl 1 rfl) ?_
    refine lv_sipush (v := 931) hx hb dX10_readsEdit_13 (by decide) ?_
    obtain ⟨X4, h3, h⟩ := bnd_inv h
    refine r_cV hW (run_V (rest := []) C hW (t_X10_sidesBegin h3) mk_X10_sidesBegin vk_X10_187 (kd_X10_sidesBegin h3) rfl rfl (by decide) ⟨Nat.le_of_ble_eq_true rfl, Nat.le_of_ble_eq_true rfl⟩ ⟨Nat.zero_le _, Nat.zero_le _⟩ rfl rfl (Nat.le_of_ble_eq_true rfl) hl.1 dX10_readsEdit_16) (fun H locs hW _ => ?_)
    exact b_X10_readsEdit_19 C hW (lv_sub hl [1, 2, 0] rfl) h
set_option maxRecDepth 20000 in
set_option maxHeartbeats 2000000 in
theorem b_X10_begins_18 {a : Nat} (C : Cx g RX10 cX10_begins 3 (some .boolean) p s m args meth c) {r : (Int32 × Mx)} {X : Mx} (hW : Wd g σ X s H locs) (hl : lv_has ls 3 [(0, .ref a)]) (h : f_X10_begins_18 σ a X = some r) : W p l e (rmZ 2 42) s m args below meth c H locs 0 0 (QI g σ below args s r) (F0 m 18 ls []) := by
  have hx := C.x
  have hb := C.b
  unfold f_X10_begins_18 at h
  refine lv_aload_n hx hb dX10_begins_18 rfl (lv_at hl 0 rfl) ?_
  obtain ⟨v2, h1, h⟩ := bnd_inv h
  refine r_cI hW (run_V (rest := []) C hW (t_X10_isGood h1) mk_X10_isGood vk_X10_124 (kd_X10_isGood h1) rfl rfl (by decide) ⟨Nat.le_of_ble_eq_true rfl, Nat.le_of_ble_eq_true rfl⟩ ⟨Nat.zero_le _, Nat.zero_le _⟩ rfl rfl (Nat.le_of_ble_eq_true rfl) hl.1 dX10_begins_19) (fun H locs hW _ => ?_)
  refine r_brn h (lv_if_ne (tgt := 27) hx hb dX10_begins_22 (by decide)) (fun h => ?_) (fun h => ?_)
  · refine lv_aload_n hx hb dX10_begins_27 rfl (lv_at hl 0 rfl) ?_
    obtain ⟨X4, h3, h⟩ := bnd_inv h
    refine r_cV hW (run_V (rest := []) C hW (t_X10_goes h3) mk_X10_goes vk_X10_128 (kd_X10_goes h3) rfl rfl (by decide) ⟨Nat.le_of_ble_eq_true rfl, Nat.le_of_ble_eq_true rfl⟩ ⟨Nat.zero_le _, Nat.zero_le _⟩ rfl rfl (Nat.le_of_ble_eq_true rfl) hl.1 dX10_begins_28) (fun H locs hW _ => ?_)
    refine lv_iconst (v := 1) hx hb dX10_begins_31 (by decide) ?_
    exact r_iret C hW (Option.some.inj h).symm rfl dX10_begins_32
  · refine lv_iconst (v := 0) hx hb dX10_begins_25 (by decide) ?_
    exact r_iret C hW (Option.some.inj h).symm rfl dX10_begins_26
set_option maxRecDepth 20000 in
set_option maxHeartbeats 2000000 in
theorem b_X10_begins_9 {a : Nat} {x2 : Int32} (C : Cx g RX10 cX10_begins 3 (some .boolean) p s m args meth c) {r : (Int32 × Mx)} {X : Mx} (hW : Wd g σ X s H locs) (hl : lv_has ls 3 [(0, .ref a), (2, .int x2)]) (h : f_X10_begins_9 σ a x2 X = some r) : W p l e (rmZ 2 42) s m args below meth c H locs 0 0 (QI g σ below args s r) (F0 m 9 ls []) := by
  have hx := C.x
  have hb := C.b
  unfold f_X10_begins_9 at h
  refine lv_iload_n hx hb dX10_begins_9 rfl (lv_at hl 1 rfl) ?_
  refine r_br h (lv_if_eq (tgt := 18) hx hb dX10_begins_10 (by decide)) (fun h => ?_) (fun h => ?_)
  · exact b_X10_begins_18 C hW (lv_sub hl [0] rfl) h
  · refine lv_aload_n hx hb dX10_begins_13 rfl (lv_at hl 0 rfl) ?_
    refine lv_iconst (v := 2) hx hb dX10_begins_14 (by decide) ?_
    obtain ⟨X2, h1, h⟩ := bnd_inv h
    refine r_cV hW (run_V (rest := []) C hW (t_X10_wrong h1) mk_X10_wrong vk_X10_131 (kd_X10_wrong h1) rfl rfl (by decide) ⟨Nat.le_of_ble_eq_true rfl, Nat.le_of_ble_eq_true rfl⟩ ⟨Nat.zero_le _, Nat.zero_le _⟩ rfl rfl (Nat.le_of_ble_eq_true rfl) hl.1 dX10_begins_15) (fun H locs hW _ => ?_)
    exact b_X10_begins_18 C hW (lv_sub hl [0] rfl) h
theorem kd_X10_begins {X : Mx} {r : (Int32 × Mx)} {a : Nat} {x1 : Int32} {x2 : Int32} (h : f_X10_begins σ X a x1 x2 = some r) : shK σ a = 8 := (grd_inv h).1
set_option maxRecDepth 20000 in
set_option maxHeartbeats 2000000 in
theorem t_X10_begins {X : Mx} {r : (Int32 × Mx)} {a : Nat} {x1 : Int32} {x2 : Int32} (h : f_X10_begins σ X a x1 x2 = some r) : MtI g l yX10_begins cX10_begins 3 (some .boolean) 2 42 [.ref a, .int x1, .int x2] σ X r := by
  refine met_of mk_X10_begins (Nat.le_of_ble_eq_true rfl) (fun p e s m args below meth c ls C hW hl => ?_)
  have hx := C.x
  have hb := C.b
  have hl : lv_has ls 3 [(0, .ref a), (1, .int x1), (2, .int x2)] := hl
  unfold f_X10_begins at h
  obtain ⟨hk0, h⟩ := grd_inv h
  refine lv_iload_n hx hb dX10_begins_0 rfl (lv_at hl 1 rfl) ?_
  refine r_br h (lv_if_eq (tgt := 9) hx hb dX10_begins_1 (by decide)) (fun h => ?_) (fun h => ?_)
  · exact b_X10_begins_9 C hW (lv_sub hl [0, 2] rfl) h
  · refine lv_aload_n hx hb dX10_begins_4 rfl (lv_at hl 0 rfl) ?_
    refine lv_iconst (v := 1) hx hb dX10_begins_5 (by decide) ?_
    obtain ⟨X2, h1, h⟩ := bnd_inv h
    refine r_cV hW (run_V (rest := []) C hW (t_X10_wrong h1) mk_X10_wrong vk_X10_131 (kd_X10_wrong h1) rfl rfl (by decide) ⟨Nat.le_of_ble_eq_true rfl, Nat.le_of_ble_eq_true rfl⟩ ⟨Nat.zero_le _, Nat.zero_le _⟩ rfl rfl (Nat.le_of_ble_eq_true rfl) hl.1 dX10_begins_6) (fun H locs hW _ => ?_)
    exact b_X10_begins_9 C hW (lv_sub hl [0, 2] rfl) h
set_option maxRecDepth 20000 in
set_option maxHeartbeats 2000000 in
theorem b_X10_line_188 {a : Nat} (C : Cx g RX10 cX10_line 2 none p s m args meth c) {r : Mx} {X : Mx} (hW : Wd g σ X s H locs) (hl : lv_has ls 2 [(0, .ref a)]) (h : f_X10_line_188 σ a X = some r) : W p l e (rmZ 6 148) s m args below meth c H locs 0 0 (QV g σ below args s r) (F0 m 188 ls []) := by
  have hx := C.x
  have hb := C.b
  unfold f_X10_line_188 at h
  refine lv_aload_n hx hb dX10_line_188 rfl (lv_at hl 0 rfl) ?_
  refine lv_aload_n hx hb dX10_line_189 rfl (lv_at hl 0 rfl) ?_
  refine lv_bipush (v := 59) hx hb dX10_line_190 (by decide) ?_
  obtain ⟨v2, h1, h⟩ := bnd_inv h
  refine r_cI hW (run_V (rest := [.ref a]) C hW (t_X10_isSign h1) mk_X10_isSign vk_X10_141 (kd_X10_isSign h1) rfl rfl (by decide) ⟨Nat.le_of_ble_eq_true rfl, Nat.le_of_ble_eq_true rfl⟩ ⟨Nat.zero_le _, Nat.zero_le _⟩ rfl rfl (Nat.le_of_ble_eq_true rfl) hl.1 dX10_line_192) (fun H locs hW _ => ?_)
  obtain ⟨X4, h3, h⟩ := bnd_inv h
  refine r_cV hW (run_V (rest := []) C hW (t_X10_need h3) mk_X10_need vk_X10_210 (kd_X10_need h3) rfl rfl (by decide) ⟨Nat.le_of_ble_eq_true rfl, Nat.le_of_ble_eq_true rfl⟩ ⟨Nat.zero_le _, Nat.zero_le _⟩ rfl rfl (Nat.le_of_ble_eq_true rfl) hl.1 dX10_line_195) (fun H locs hW _ => ?_)
  exact r_vret C hW (Option.some.inj h).symm dX10_line_198
set_option maxRecDepth 20000 in
set_option maxHeartbeats 2000000 in
theorem b_X10_line_43 {a : Nat} (C : Cx g RX10 cX10_line 2 none p s m args meth c) {r : Mx} {X : Mx} {y0 : Nat} {y1 : Int32} {y2 : Int32} (hW : Wd g σ X s H locs) (hl : lv_has ls 2 [(0, .ref a)]) (h : f_X10_line_43 σ a X y0 y1 y2 = some r) : W p l e (rmZ 6 148) s m args below meth c H locs 0 0 (QV g σ below args s r) (F0 m 43 ls [.int y2, .int y1, .ref y0]) := by
  have hx := C.x
  have hb := C.b
  unfold f_X10_line_43 at h
  obtain ⟨v3, X2, h1, h⟩ := bnd2_inv h
  refine r_cI hW (run_V (rest := []) C hW (t_X10_begins h1) mk_X10_begins vk_X10_194 (kd_X10_begins h1) rfl rfl (by decide) ⟨Nat.le_of_ble_eq_true rfl, Nat.le_of_ble_eq_true rfl⟩ ⟨Nat.zero_le _, Nat.zero_le _⟩ rfl rfl (Nat.le_of_ble_eq_true rfl) hl.1 dX10_line_43) (fun H locs hW _ => ?_)
  refine r_br h (lv_if_eq (tgt := 188) hx hb dX10_line_46 (by decide)) (fun h => ?_) (fun h => ?_)
  · exact b_X10_line_188 C hW (lv_sub hl [0] rfl) h
  · refine lv_aload_n hx hb dX10_line_49 rfl (lv_at hl 0 rfl) ?_
    obtain ⟨X5, h4, h⟩ := bnd_inv h
    refine r_cV hW (run_V (rest := []) C hW (t_X10_readsColumn h4) mk_X10_readsColumn vk_X10_198 (kd_X10_readsColumn h4) rfl rfl (by decide) ⟨Nat.le_of_ble_eq_true rfl, Nat.le_of_ble_eq_true rfl⟩ ⟨Nat.zero_le _, Nat.zero_le _⟩ rfl rfl (Nat.le_of_ble_eq_true rfl) hl.1 dX10_line_50) (fun H locs hW _ => ?_)
    refine lv_goto (tgt := 188) hx hb dX10_line_53 (by decide) ?_
    exact b_X10_line_188 C hW (lv_sub hl [0] rfl) h
set_option maxRecDepth 20000 in
set_option maxHeartbeats 2000000 in
theorem b_X10_line_30 {a : Nat} (C : Cx g RX10 cX10_line 2 none p s m args meth c) {r : Mx} {X : Mx} {y0 : Nat} {y1 : Int32} (hW : Wd g σ X s H locs) (hl : lv_has ls 2 [(0, .ref a)]) (h : f_X10_line_30 σ a X y0 y1 = some r) : W p l e (rmZ 6 148) s m args below meth c H locs 0 0 (QV g σ below args s r) (F0 m 30 ls [.int y1, .ref y0]) := by
  have hx := C.x
  have hb := C.b
  unfold f_X10_line_30 at h
  refine lv_aload_n hx hb dX10_line_30 rfl (lv_at hl 0 rfl) ?_
  refine r_gI C hW h fl_X10_147 (by decide) dX10_line_31 (fun v1 h => ?_)
  refine lv_iconst (v := 5) hx hb dX10_line_34 (by decide) ?_
  refine r_brn h (lv_icmp_ne (tgt := 42) hx hb dX10_line_35 (by decide)) (fun h => ?_) (fun h => ?_)
  · refine lv_iconst (v := 0) hx hb dX10_line_42 (by decide) ?_
    exact b_X10_line_43 C hW (lv_sub hl [0] rfl) h
  · refine lv_iconst (v := 1) hx hb dX10_line_38 (by decide) ?_
    refine lv_goto (tgt := 43) hx hb dX10_line_39 (by decide) ?_
    exact b_X10_line_43 C hW (lv_sub hl [0] rfl) h
set_option maxRecDepth 20000 in
set_option maxHeartbeats 2000000 in
theorem b_X10_line_25 {a : Nat} (C : Cx g RX10 cX10_line 2 none p s m args meth c) {r : Mx} {X : Mx} {y0 : Nat} (hW : Wd g σ X s H locs) (hl : lv_has ls 2 [(0, .ref a)]) (h : f_X10_line_25 σ a X y0 = some r) : W p l e (rmZ 6 148) s m args below meth c H locs 0 0 (QV g σ below args s r) (F0 m 25 ls [.ref y0]) := by
  have hx := C.x
  have hb := C.b
  unfold f_X10_line_25 at h
  refine lv_iconst (v := 1) hx hb dX10_line_25 (by decide) ?_
  refine lv_goto (tgt := 30) hx hb dX10_line_26 (by decide) ?_
  exact b_X10_line_30 C hW (lv_sub hl [0] rfl) h
set_option maxRecDepth 20000 in
set_option maxHeartbeats 2000000 in
theorem b_X10_line_88 {a : Nat} (C : Cx g RX10 cX10_line 2 none p s m args meth c) {r : Mx} {X : Mx} {y0 : Nat} {y1 : Int32} {y2 : Int32} (hW : Wd g σ X s H locs) (hl : lv_has ls 2 [(0, .ref a)]) (h : f_X10_line_88 σ a X y0 y1 y2 = some r) : W p l e (rmZ 6 148) s m args below meth c H locs 0 0 (QV g σ below args s r) (F0 m 88 ls [.int y2, .int y1, .ref y0]) := by
  have hx := C.x
  have hb := C.b
  unfold f_X10_line_88 at h
  obtain ⟨v3, X2, h1, h⟩ := bnd2_inv h
  refine r_cI hW (run_V (rest := []) C hW (t_X10_begins h1) mk_X10_begins vk_X10_194 (kd_X10_begins h1) rfl rfl (by decide) ⟨Nat.le_of_ble_eq_true rfl, Nat.le_of_ble_eq_true rfl⟩ ⟨Nat.zero_le _, Nat.zero_le _⟩ rfl rfl (Nat.le_of_ble_eq_true rfl) hl.1 dX10_line_88) (fun H locs hW _ => ?_)
  refine r_br h (lv_if_eq (tgt := 188) hx hb dX10_line_91 (by decide)) (fun h => ?_) (fun h => ?_)
  · exact b_X10_line_188 C hW (lv_sub hl [0] rfl) h
  · refine lv_aload_n hx hb dX10_line_94 rfl (lv_at hl 0 rfl) ?_
    obtain ⟨X5, h4, h⟩ := bnd_inv h
    refine r_cV hW (run_V (rest := []) C hW (t_X10_readsRow h4) mk_X10_readsRow vk_X10_201 (kd_X10_readsRow h4) rfl rfl (by decide) ⟨Nat.le_of_ble_eq_true rfl, Nat.le_of_ble_eq_true rfl⟩ ⟨Nat.zero_le _, Nat.zero_le _⟩ rfl rfl (Nat.le_of_ble_eq_true rfl) hl.1 dX10_line_95) (fun H locs hW _ => ?_)
    refine lv_goto (tgt := 188) hx hb dX10_line_98 (by decide) ?_
    exact b_X10_line_188 C hW (lv_sub hl [0] rfl) h
set_option maxRecDepth 20000 in
set_option maxHeartbeats 2000000 in
theorem b_X10_line_74 {a : Nat} (C : Cx g RX10 cX10_line 2 none p s m args meth c) {r : Mx} {X : Mx} {y0 : Nat} {y1 : Int32} (hW : Wd g σ X s H locs) (hl : lv_has ls 2 [(0, .ref a)]) (h : f_X10_line_74 σ a X y0 y1 = some r) : W p l e (rmZ 6 148) s m args below meth c H locs 0 0 (QV g σ below args s r) (F0 m 74 ls [.int y1, .ref y0]) := by
  have hx := C.x
  have hb := C.b
  unfold f_X10_line_74 at h
  refine lv_aload_n hx hb dX10_line_74 rfl (lv_at hl 0 rfl) ?_
  refine r_gI C hW h fl_X10_178 (by decide) dX10_line_75 (fun v1 h => ?_)
  refine lv_bipush (v := 12) hx hb dX10_line_78 (by decide) ?_
  refine r_brn h (lv_icmp_ne (tgt := 87) hx hb dX10_line_80 (by decide)) (fun h => ?_) (fun h => ?_)
  · refine lv_iconst (v := 0) hx hb dX10_line_87 (by decide) ?_
    exact b_X10_line_88 C hW (lv_sub hl [0] rfl) h
  · refine lv_iconst (v := 1) hx hb dX10_line_83 (by decide) ?_
    refine lv_goto (tgt := 88) hx hb dX10_line_84 (by decide) ?_
    exact b_X10_line_88 C hW (lv_sub hl [0] rfl) h
set_option maxRecDepth 20000 in
set_option maxHeartbeats 2000000 in
theorem b_X10_line_172 {a : Nat} {x1 : Int32} (C : Cx g RX10 cX10_line 2 none p s m args meth c) {r : Mx} {X : Mx} (hW : Wd g σ X s H locs) (hl : lv_has ls 2 [(0, .ref a), (1, .int x1)]) (h : f_X10_line_172 σ a x1 X = some r) : W p l e (rmZ 6 148) s m args below meth c H locs 0 0 (QV g σ below args s r) (F0 m 172 ls []) := by
  have hx := C.x
  have hb := C.b
  unfold f_X10_line_172 at h
  refine lv_aload_n hx hb dX10_line_172 rfl (lv_at hl 0 rfl) ?_
  refine lv_iload_n hx hb dX10_line_173 rfl (lv_at hl 1 rfl) ?_
  refine lv_bipush (v := 9) hx hb dX10_line_174 (by decide) ?_
  refine lv_isub hx hb dX10_line_176 ?_
  obtain ⟨X2, h1, h⟩ := bnd_inv h
  refine r_cV hW (run_V (rest := []) C hW (t_X10_readsEdit h1) mk_X10_readsEdit vk_X10_207 (kd_X10_readsEdit h1) rfl rfl (by decide) ⟨Nat.le_of_ble_eq_true rfl, Nat.le_of_ble_eq_true rfl⟩ ⟨Nat.zero_le _, Nat.zero_le _⟩ rfl rfl (Nat.le_of_ble_eq_true rfl) hl.1 dX10_line_177) (fun H locs hW _ => ?_)
  refine lv_goto (tgt := 188) hx hb dX10_line_180 (by decide) ?_
  exact b_X10_line_188 C hW (lv_sub hl [0] rfl) h
set_option maxRecDepth 20000 in
set_option maxHeartbeats 2000000 in
theorem b_X10_line_160 {a : Nat} {x1 : Int32} (C : Cx g RX10 cX10_line 2 none p s m args meth c) {r : Mx} {X : Mx} (hW : Wd g σ X s H locs) (hl : lv_has ls 2 [(0, .ref a), (1, .int x1)]) (h : f_X10_line_160 σ a x1 X = some r) : W p l e (rmZ 6 148) s m args below meth c H locs 0 0 (QV g σ below args s r) (F0 m 160 ls []) := by
  have hx := C.x
  have hb := C.b
  unfold f_X10_line_160 at h
  refine lv_iload_n hx hb dX10_line_160 rfl (lv_at hl 1 rfl) ?_
  refine lv_bipush (v := 9) hx hb dX10_line_161 (by decide) ?_
  refine r_br h (lv_icmp_eq (tgt := 172) hx hb dX10_line_163 (by decide)) (fun h => ?_) (fun h => ?_)
  · exact b_X10_line_172 C hW (lv_sub hl [0, 1] rfl) h
  · refine lv_iload_n hx hb dX10_line_166 rfl (lv_at hl 1 rfl) ?_
    refine lv_bipush (v := 10) hx hb dX10_line_167 (by decide) ?_
    refine r_brn h (lv_icmp_ne (tgt := 183) hx hb dX10_line_169 (by decide)) (fun h => ?_) (fun h => ?_)
    · refine lv_aload_n hx hb dX10_line_183 rfl (lv_at hl 0 rfl) ?_
      refine lv_iconst (v := 1) hx hb dX10_line_184 (by decide) ?_
      obtain ⟨X2, h1, h⟩ := bnd_inv h
      refine r_cV hW (run_V (rest := []) C hW (t_X10_wrong h1) mk_X10_wrong vk_X10_131 (kd_X10_wrong h1) rfl rfl (by decide) ⟨Nat.le_of_ble_eq_true rfl, Nat.le_of_ble_eq_true rfl⟩ ⟨Nat.zero_le _, Nat.zero_le _⟩ rfl rfl (Nat.le_of_ble_eq_true rfl) hl.1 dX10_line_185) (fun H locs hW _ => ?_)
      exact b_X10_line_188 C hW (lv_sub hl [0] rfl) h
    · exact b_X10_line_172 C hW (lv_sub hl [0, 1] rfl) h
set_option maxRecDepth 20000 in
set_option maxHeartbeats 2000000 in
theorem b_X10_line_143 {a : Nat} {x1 : Int32} (C : Cx g RX10 cX10_line 2 none p s m args meth c) {r : Mx} {X : Mx} {y0 : Nat} {y1 : Int32} {y2 : Int32} (hW : Wd g σ X s H locs) (hl : lv_has ls 2 [(0, .ref a), (1, .int x1)]) (h : f_X10_line_143 σ a x1 X y0 y1 y2 = some r) : W p l e (rmZ 6 148) s m args below meth c H locs 0 0 (QV g σ below args s r) (F0 m 143 ls [.int y2, .int y1, .ref y0]) := by
  have hx := C.x
  have hb := C.b
  unfold f_X10_line_143 at h
  obtain ⟨v3, X2, h1, h⟩ := bnd2_inv h
  refine r_cI hW (run_V (rest := []) C hW (t_X10_begins h1) mk_X10_begins vk_X10_194 (kd_X10_begins h1) rfl rfl (by decide) ⟨Nat.le_of_ble_eq_true rfl, Nat.le_of_ble_eq_true rfl⟩ ⟨Nat.zero_le _, Nat.zero_le _⟩ rfl rfl (Nat.le_of_ble_eq_true rfl) hl.1 dX10_line_143) (fun H locs hW _ => ?_)
  refine r_br h (lv_if_eq (tgt := 188) hx hb dX10_line_146 (by decide)) (fun h => ?_) (fun h => ?_)
  · exact b_X10_line_188 C hW (lv_sub hl [0] rfl) h
  · refine lv_aload_n hx hb dX10_line_149 rfl (lv_at hl 0 rfl) ?_
    refine lv_iload_n hx hb dX10_line_150 rfl (lv_at hl 1 rfl) ?_
    refine lv_bipush (v := 6) hx hb dX10_line_151 (by decide) ?_
    refine lv_isub hx hb dX10_line_153 ?_
    obtain ⟨X5, h4, h⟩ := bnd_inv h
    refine r_cV hW (run_V (rest := []) C hW (t_X10_readsDemand h4) mk_X10_readsDemand vk_X10_204 (kd_X10_readsDemand h4) rfl rfl (by decide) ⟨Nat.le_of_ble_eq_true rfl, Nat.le_of_ble_eq_true rfl⟩ ⟨Nat.zero_le _, Nat.zero_le _⟩ rfl rfl (Nat.le_of_ble_eq_true rfl) hl.1 dX10_line_154) (fun H locs hW _ => ?_)
    refine lv_goto (tgt := 188) hx hb dX10_line_157 (by decide) ?_
    exact b_X10_line_188 C hW (lv_sub hl [0] rfl) h
set_option maxRecDepth 20000 in
set_option maxHeartbeats 2000000 in
theorem b_X10_line_126 {a : Nat} {x1 : Int32} (C : Cx g RX10 cX10_line 2 none p s m args meth c) {r : Mx} {X : Mx} {y0 : Nat} {y1 : Int32} (hW : Wd g σ X s H locs) (hl : lv_has ls 2 [(0, .ref a), (1, .int x1)]) (h : f_X10_line_126 σ a x1 X y0 y1 = some r) : W p l e (rmZ 6 148) s m args below meth c H locs 0 0 (QV g σ below args s r) (F0 m 126 ls [.int y1, .ref y0]) := by
  have hx := C.x
  have hb := C.b
  unfold f_X10_line_126 at h
  refine lv_aload_n hx hb dX10_line_126 rfl (lv_at hl 0 rfl) ?_
  refine r_gR C hW h fl_X10_20 (by decide) dX10_line_127 (fun b1 h => ?_)
  refine lv_sipush (v := 1531) hx hb dX10_line_130 (by decide) ?_
  refine r_iald C hW h dX10_line_133 (fun v2 h => ?_)
  refine lv_iconst (v := 4) hx hb dX10_line_134 (by decide) ?_
  refine r_brn h (lv_icmp_ne (tgt := 142) hx hb dX10_line_135 (by decide)) (fun h => ?_) (fun h => ?_)
  · refine lv_iconst (v := 0) hx hb dX10_line_142 (by decide) ?_
    exact b_X10_line_143 C hW (lv_sub hl [0, 1] rfl) h
  · refine lv_iconst (v := 1) hx hb dX10_line_138 (by decide) ?_
    refine lv_goto (tgt := 143) hx hb dX10_line_139 (by decide) ?_
    exact b_X10_line_143 C hW (lv_sub hl [0, 1] rfl) h
theorem kd_X10_line {X : Mx} {r : Mx} {a : Nat} (h : f_X10_line σ X a = some r) : shK σ a = 8 := (grd_inv h).1
set_option maxRecDepth 20000 in
set_option maxHeartbeats 2000000 in
theorem t_X10_line {X : Mx} {r : Mx} {a : Nat} (h : f_X10_line σ X a = some r) : MtV g l yX10_line cX10_line 2 none 6 148 [.ref a] σ X r := by
  refine met_of mk_X10_line (Nat.le_of_ble_eq_true rfl) (fun p e s m args below meth c ls C hW hl => ?_)
  have hx := C.x
  have hb := C.b
  have hl : lv_has ls 2 [(0, .ref a)] := hl
  unfold f_X10_line at h
  obtain ⟨hk0, h⟩ := grd_inv h
  refine lv_aload_n hx hb dX10_line_0 rfl (lv_at hl 0 rfl) ?_
  obtain ⟨v2, h1, h⟩ := bnd_inv h
  refine r_cI hW (run_V (rest := []) C hW (t_X10_knownWord h1) mk_X10_knownWord vk_X10_137 (kd_X10_knownWord h1) rfl rfl (by decide) ⟨Nat.le_of_ble_eq_true rfl, Nat.le_of_ble_eq_true rfl⟩ ⟨Nat.zero_le _, Nat.zero_le _⟩ rfl rfl (Nat.le_of_ble_eq_true rfl) hl.1 dX10_line_1) (fun H locs hW _ => ?_)
  refine lv_istore_n (lv' := [(1, .int v2), (0, .ref a)]) hx hb dX10_line_4 rfl hl (by decide) rfl (fun ls hl => ?_)
  refine lv_iload_n hx hb dX10_line_5 rfl (lv_at hl 0 rfl) ?_
  refine lv_iconst (v := 4) hx hb dX10_line_6 (by decide) ?_
  refine r_brn h (lv_icmp_ne (tgt := 56) hx hb dX10_line_7 (by decide)) (fun h => ?_) (fun h => ?_)
  · refine lv_iload_n hx hb dX10_line_56 rfl (lv_at hl 0 rfl) ?_
    refine lv_iconst (v := 5) hx hb dX10_line_57 (by decide) ?_
    refine r_brn h (lv_icmp_ne (tgt := 101) hx hb dX10_line_58 (by decide)) (fun h => ?_) (fun h => ?_)
    · refine lv_iload_n hx hb dX10_line_101 rfl (lv_at hl 0 rfl) ?_
      refine lv_bipush (v := 6) hx hb dX10_line_102 (by decide) ?_
      refine r_br h (lv_icmp_lt (tgt := 160) hx hb dX10_line_104 (by decide)) (fun h => ?_) (fun h => ?_)
      · exact b_X10_line_160 C hW (lv_sub hl [1, 0] rfl) h
      · refine lv_iload_n hx hb dX10_line_107 rfl (lv_at hl 0 rfl) ?_
        refine lv_bipush (v := 8) hx hb dX10_line_108 (by decide) ?_
        refine r_br h (lv_icmp_gt (tgt := 160) hx hb dX10_line_110 (by decide)) (fun h => ?_) (fun h => ?_)
        · exact b_X10_line_160 C hW (lv_sub hl [1, 0] rfl) h
        · refine lv_aload_n hx hb dX10_line_113 rfl (lv_at hl 1 rfl) ?_
          refine lv_aload_n hx hb dX10_line_114 rfl (lv_at hl 1 rfl) ?_
          refine r_gI C hW h fl_X10_184 (by decide) dX10_line_115 (fun v3 h => ?_)
          refine r_br h (lv_if_le (tgt := 125) hx hb dX10_line_118 (by decide)) (fun h => ?_) (fun h => ?_)
          · refine lv_iconst (v := 0) hx hb dX10_line_125 (by decide) ?_
            exact b_X10_line_126 C hW (lv_sub hl [1, 0] rfl) h
          · refine lv_iconst (v := 1) hx hb dX10_line_121 (by decide) ?_
            refine lv_goto (tgt := 126) hx hb dX10_line_122 (by decide) ?_
            exact b_X10_line_126 C hW (lv_sub hl [1, 0] rfl) h
    · refine lv_aload_n hx hb dX10_line_61 rfl (lv_at hl 1 rfl) ?_
      refine lv_aload_n hx hb dX10_line_62 rfl (lv_at hl 1 rfl) ?_
      refine r_gI C hW h fl_X10_184 (by decide) dX10_line_63 (fun v4 h => ?_)
      refine r_br h (lv_if_le (tgt := 73) hx hb dX10_line_66 (by decide)) (fun h => ?_) (fun h => ?_)
      · refine lv_iconst (v := 0) hx hb dX10_line_73 (by decide) ?_
        exact b_X10_line_74 C hW (lv_sub hl [1] rfl) h
      · refine lv_iconst (v := 1) hx hb dX10_line_69 (by decide) ?_
        refine lv_goto (tgt := 74) hx hb dX10_line_70 (by decide) ?_
        exact b_X10_line_74 C hW (lv_sub hl [1] rfl) h
  · refine lv_aload_n hx hb dX10_line_10 rfl (lv_at hl 1 rfl) ?_
    refine lv_aload_n hx hb dX10_line_11 rfl (lv_at hl 1 rfl) ?_
    refine r_gI C hW h fl_X10_178 (by decide) dX10_line_12 (fun v5 h => ?_)
    refine r_br h (lv_if_gt (tgt := 25) hx hb dX10_line_15 (by decide)) (fun h => ?_) (fun h => ?_)
    · exact b_X10_line_25 C hW (lv_sub hl [1] rfl) h
    · refine lv_aload_n hx hb dX10_line_18 rfl (lv_at hl 1 rfl) ?_
      refine r_gI C hW h fl_X10_184 (by decide) dX10_line_19 (fun v6 h => ?_)
      refine r_br h (lv_if_le (tgt := 29) hx hb dX10_line_22 (by decide)) (fun h => ?_) (fun h => ?_)
      · refine lv_iconst (v := 0) hx hb dX10_line_29 (by decide) ?_
        exact b_X10_line_30 C hW (lv_sub hl [1] rfl) h
      · exact b_X10_line_25 C hW (lv_sub hl [1] rfl) h
set_option maxRecDepth 20000 in
set_option maxHeartbeats 2000000 in
theorem b_X10_tables_102 {k74 : Mx → Int32 → Option (Int32 × Mx)} {a : Nat} {x2 : Int32} (C : Cx g RX10 cX10_tables 3 (some .int) p s m args meth c) {r : (Int32 × Mx)} {X : Mx} {y0 : Nat} {y1 : Int32} {y2 : Int32} (hk74 : ∀ {H' : Heap} {locs' : List Loc} {ls' : Array Slot} {X' : Mx} {x2' : Int32}, Wd g σ X' s H' locs' → lv_has ls' 3 [(0, .ref a), (2, .int x2')] → k74 X' x2' = some r → W p l e (rmZ 7 169) s m args below meth c H' locs' 0 0 (QI g σ below args s r) (F0 m 74 ls' [])) (hW : Wd g σ X s H locs) (hl : lv_has ls 3 [(0, .ref a), (2, .int x2)]) (h : f_X10_tables_102 k74 σ a x2 X y0 y1 y2 = some r) : W p l e (rmZ 7 169) s m args below meth c H locs 0 0 (QI g σ below args s r) (F0 m 102 ls [.int y2, .int y1, .ref y0]) := by
  have hx := C.x
  have hb := C.b
  unfold f_X10_tables_102 at h
  refine r_iast C hW h dX10_tables_102 (fun X1 H locs h hW _ => ?_)
  refine lv_iinc (v := (x2 + 1)) (lv' := [(2, .int (x2 + 1)), (0, .ref a)]) hx hb dX10_tables_103 hl (k := 1) rfl rfl (by decide) rfl (fun ls hl => ?_)
  refine lv_goto (tgt := 74) hx hb dX10_tables_106 (by decide) ?_
  exact hk74 hW (lv_sub hl [1, 0] rfl) h
set_option maxRecDepth 20000 in
set_option maxHeartbeats 2000000 in
theorem b_X10_tables_172 {a : Nat} (C : Cx g RX10 cX10_tables 3 (some .int) p s m args meth c) {r : (Int32 × Mx)} : ∀ (n : Nat) {X : Mx} {x2 : Int32} {H : Heap} {locs : List Loc} {ls : Array Slot} (hW : Wd g σ X s H locs) (hl : lv_has ls 3 [(0, .ref a), (2, .int x2)]) (h : f_X10_tables_172 σ a n X x2 = some r), W p l e (rmZ 7 169) s m args below meth c H locs 0 0 (QI g σ below args s r) (F0 m 172 ls []) := by
  have hx := C.x
  have hb := C.b
  intro n
  induction n with
  | zero =>
    intro X x2 H locs ls hW hl h
    cases (show none = some r from h)
  | succ n ih =>
    intro X x2 H locs ls hW hl h
    rw [f_X10_tables_172] at h
    refine lv_iload_n hx hb dX10_tables_172 rfl (lv_at hl 1 rfl) ?_
    refine lv_sipush (v := 931) hx hb dX10_tables_173 (by decide) ?_
    refine r_br h (lv_icmp_ge (tgt := 201) hx hb dX10_tables_176 (by decide)) (fun h => ?_) (fun h => ?_)
    · refine lv_aload_n hx hb dX10_tables_201 rfl (lv_at hl 0 rfl) ?_
      refine lv_iconst (v := 0) hx hb dX10_tables_202 (by decide) ?_
      refine r_pI C hW h pf_X10_221 (by decide) rfl rfl dX10_tables_203 (fun X1 H locs h hW _ => ?_)
      refine lv_aload_n hx hb dX10_tables_206 rfl (lv_at hl 0 rfl) ?_
      refine lv_iconst (v := 0) hx hb dX10_tables_207 (by decide) ?_
      refine r_pI C hW h pf_X10_224 (by decide) rfl rfl dX10_tables_208 (fun X2 H locs h hW _ => ?_)
      refine lv_aload_n hx hb dX10_tables_211 rfl (lv_at hl 0 rfl) ?_
      refine lv_iconst (v := 0) hx hb dX10_tables_212 (by decide) ?_
      refine r_pI C hW h pf_X10_227 (by decide) rfl rfl dX10_tables_213 (fun X3 H locs h hW _ => ?_)
      refine lv_iconst (v := 0) hx hb dX10_tables_216 (by decide) ?_
      exact r_iret C hW (Option.some.inj h).symm rfl dX10_tables_217
    · refine lv_aload_n hx hb dX10_tables_179 rfl (lv_at hl 0 rfl) ?_
      refine r_gR C hW h fl_X10_20 (by decide) dX10_tables_180 (fun b4 h => ?_)
      refine lv_iload_n hx hb dX10_tables_183 rfl (lv_at hl 1 rfl) ?_
      refine lv_aload_n hx hb dX10_tables_184 rfl (lv_at hl 0 rfl) ?_
      refine r_gR C hW h fl_X10_20 (by decide) dX10_tables_185 (fun b5 h => ?_)
      refine lv_sipush (v := 931) hx hb dX10_tables_188 (by decide) ?_
      refine lv_iload_n hx hb dX10_tables_191 rfl (lv_at hl 1 rfl) ?_
      refine lv_iadd hx hb dX10_tables_192 ?_
      refine r_iald C hW h dX10_tables_193 (fun v6 h => ?_)
      refine r_iast C hW h dX10_tables_194 (fun X7 H locs h hW _ => ?_)
      refine lv_iinc (v := (x2 + 1)) (lv' := [(2, .int (x2 + 1)), (0, .ref a)]) hx hb dX10_tables_195 hl (k := 1) rfl rfl (by decide) rfl (fun ls hl => ?_)
      refine lv_goto (tgt := 172) hx hb dX10_tables_198 (by decide) ?_
      exact ih hW (lv_sub hl [1, 0] rfl) h
set_option maxRecDepth 20000 in
set_option maxHeartbeats 2000000 in
theorem b_X10_tables_170 {a : Nat} (C : Cx g RX10 cX10_tables 3 (some .int) p s m args meth c) {r : (Int32 × Mx)} {X : Mx} (hW : Wd g σ X s H locs) (hl : lv_has ls 3 [(0, .ref a)]) (h : f_X10_tables_170 σ a X = some r) : W p l e (rmZ 7 169) s m args below meth c H locs 0 0 (QI g σ below args s r) (F0 m 170 ls []) := by
  have hx := C.x
  have hb := C.b
  unfold f_X10_tables_170 at h
  refine lv_iconst (v := 0) hx hb dX10_tables_170 (by decide) ?_
  refine lv_istore_n (lv' := [(2, .int 0), (0, .ref a)]) hx hb dX10_tables_171 rfl hl (by decide) rfl (fun ls hl => ?_)
  exact b_X10_tables_172 C FU hW (lv_sub hl [1, 0] rfl) h
set_option maxRecDepth 20000 in
set_option maxHeartbeats 2000000 in
theorem b_X10_tables_134 {a : Nat} (C : Cx g RX10 cX10_tables 3 (some .int) p s m args meth c) {r : (Int32 × Mx)} {X : Mx} (hW : Wd g σ X s H locs) (hl : lv_has ls 3 [(0, .ref a)]) (h : f_X10_tables_134 σ a X = some r) : W p l e (rmZ 7 169) s m args below meth c H locs 0 0 (QI g σ below args s r) (F0 m 134 ls []) := by
  have hx := C.x
  have hb := C.b
  unfold f_X10_tables_134 at h
  refine lv_aload_n hx hb dX10_tables_134 rfl (lv_at hl 0 rfl) ?_
  obtain ⟨v2, h1, h⟩ := bnd_inv h
  refine r_cI hW (run_V (rest := []) C hW (t_X10_isGood h1) mk_X10_isGood vk_X10_124 (kd_X10_isGood h1) rfl rfl (by decide) ⟨Nat.le_of_ble_eq_true rfl, Nat.le_of_ble_eq_true rfl⟩ ⟨Nat.zero_le _, Nat.zero_le _⟩ rfl rfl (Nat.le_of_ble_eq_true rfl) hl.1 dX10_tables_135) (fun H locs hW _ => ?_)
  refine r_brn h (lv_if_ne (tgt := 156) hx hb dX10_tables_138 (by decide)) (fun h => ?_) (fun h => ?_)
  · refine lv_aload_n hx hb dX10_tables_156 rfl (lv_at hl 0 rfl) ?_
    refine r_gI C hW h fl_X10_184 (by decide) dX10_tables_157 (fun v3 h => ?_)
    refine r_brn h (lv_if_ne (tgt := 170) hx hb dX10_tables_160 (by decide)) (fun h => ?_) (fun h => ?_)
    · exact b_X10_tables_170 C hW (lv_sub hl [0] rfl) h
    · refine lv_aload_n hx hb dX10_tables_163 rfl (lv_at hl 0 rfl) ?_
      refine lv_sipush (v := 931) hx hb dX10_tables_164 (by decide) ?_
      obtain ⟨X5, h4, h⟩ := bnd_inv h
      refine r_cV hW (run_V (rest := []) C hW (t_X10_sidesBegin h4) mk_X10_sidesBegin vk_X10_187 (kd_X10_sidesBegin h4) rfl rfl (by decide) ⟨Nat.le_of_ble_eq_true rfl, Nat.le_of_ble_eq_true rfl⟩ ⟨Nat.zero_le _, Nat.zero_le _⟩ rfl rfl (Nat.le_of_ble_eq_true rfl) hl.1 dX10_tables_167) (fun H locs hW _ => ?_)
      exact b_X10_tables_170 C hW (lv_sub hl [0] rfl) h
  · refine lv_aload_n hx hb dX10_tables_141 rfl (lv_at hl 0 rfl) ?_
    refine r_gR C hW h fl_X10_17 (by decide) dX10_tables_142 (fun b6 h => ?_)
    refine lv_iconst (v := 0) hx hb dX10_tables_145 (by decide) ?_
    refine lv_dup2_11 hx hb dX10_tables_146 rfl rfl ?_
    refine r_iald C hW h dX10_tables_147 (fun v7 h => ?_)
    refine lv_iconst (v := 1) hx hb dX10_tables_148 (by decide) ?_
    refine lv_iadd hx hb dX10_tables_149 ?_
    refine r_iast C hW h dX10_tables_150 (fun X8 H locs h hW _ => ?_)
    refine lv_aload_n hx hb dX10_tables_151 rfl (lv_at hl 0 rfl) ?_
    refine r_gI C hW h fl_X10_121 (by decide) dX10_tables_152 (fun v9 h => ?_)
    exact r_iret C hW (Option.some.inj h).symm rfl dX10_tables_155
set_option maxRecDepth 20000 in
set_option maxHeartbeats 2000000 in
theorem b_X10_tables_113 {a : Nat} (C : Cx g RX10 cX10_tables 3 (some .int) p s m args meth c) {r : (Int32 × Mx)} : ∀ (n : Nat) {X : Mx} {H : Heap} {locs : List Loc} {ls : Array Slot} (hW : Wd g σ X s H locs) (hl : lv_has ls 3 [(0, .ref a)]) (h : f_X10_tables_113 σ a n X = some r), W p l e (rmZ 7 169) s m args below meth c H locs 0 0 (QI g σ below args s r) (F0 m 113 ls []) := by
  have hx := C.x
  have hb := C.b
  intro n
  induction n with
  | zero =>
    intro X H locs ls hW hl h
    cases (show none = some r from h)
  | succ n ih =>
    intro X H locs ls hW hl h
    rw [f_X10_tables_113] at h
    refine lv_aload_n hx hb dX10_tables_113 rfl (lv_at hl 0 rfl) ?_
    obtain ⟨v2, h1, h⟩ := bnd_inv h
    refine r_cI hW (run_V (rest := []) C hW (t_X10_isGood h1) mk_X10_isGood vk_X10_124 (kd_X10_isGood h1) rfl rfl (by decide) ⟨Nat.le_of_ble_eq_true rfl, Nat.le_of_ble_eq_true rfl⟩ ⟨Nat.zero_le _, Nat.zero_le _⟩ rfl rfl (Nat.le_of_ble_eq_true rfl) hl.1 dX10_tables_114) (fun H locs hW _ => ?_)
    refine r_br h (lv_if_eq (tgt := 134) hx hb dX10_tables_117 (by decide)) (fun h => ?_) (fun h => ?_)
    · exact b_X10_tables_134 C hW (lv_sub hl [0] rfl) h
    · refine lv_aload_n hx hb dX10_tables_120 rfl (lv_at hl 0 rfl) ?_
      refine r_gI C hW h fl_X10_98 (by decide) dX10_tables_121 (fun v3 h => ?_)
      refine r_br h (lv_if_eq (tgt := 134) hx hb dX10_tables_124 (by decide)) (fun h => ?_) (fun h => ?_)
      · exact b_X10_tables_134 C hW (lv_sub hl [0] rfl) h
      · refine lv_aload_n hx hb dX10_tables_127 rfl (lv_at hl 0 rfl) ?_
        obtain ⟨X5, h4, h⟩ := bnd_inv h
        refine r_cV hW (run_V (rest := []) C hW (t_X10_line h4) mk_X10_line vk_X10_218 (kd_X10_line h4) rfl rfl (by decide) ⟨Nat.le_of_ble_eq_true rfl, Nat.le_of_ble_eq_true rfl⟩ ⟨Nat.zero_le _, Nat.zero_le _⟩ rfl rfl (Nat.le_of_ble_eq_true rfl) hl.1 dX10_tables_128) (fun H locs hW _ => ?_)
        refine lv_goto (tgt := 113) hx hb dX10_tables_131 (by decide) ?_
        exact ih hW (lv_sub hl [0] rfl) h
set_option maxRecDepth 20000 in
set_option maxHeartbeats 2000000 in
theorem b_X10_tables_74 {a : Nat} (C : Cx g RX10 cX10_tables 3 (some .int) p s m args meth c) {r : (Int32 × Mx)} : ∀ (n : Nat) {X : Mx} {x2 : Int32} {H : Heap} {locs : List Loc} {ls : Array Slot} (hW : Wd g σ X s H locs) (hl : lv_has ls 3 [(0, .ref a), (2, .int x2)]) (h : f_X10_tables_74 σ a n X x2 = some r), W p l e (rmZ 7 169) s m args below meth c H locs 0 0 (QI g σ below args s r) (F0 m 74 ls []) := by
  have hx := C.x
  have hb := C.b
  intro n
  induction n with
  | zero =>
    intro X x2 H locs ls hW hl h
    cases (show none = some r from h)
  | succ n ih =>
    intro X x2 H locs ls hW hl h
    rw [f_X10_tables_74] at h
    refine lv_iload_n hx hb dX10_tables_74 rfl (lv_at hl 1 rfl) ?_
    refine lv_sipush (v := 931) hx hb dX10_tables_75 (by decide) ?_
    refine r_br h (lv_icmp_ge (tgt := 109) hx hb dX10_tables_78 (by decide)) (fun h => ?_) (fun h => ?_)
    · refine lv_aload_n hx hb dX10_tables_109 rfl (lv_at hl 0 rfl) ?_
      obtain ⟨X2, h1, h⟩ := bnd_inv h
      refine r_cV hW (run_V (rest := []) C hW (t_X10_goes h1) mk_X10_goes vk_X10_128 (kd_X10_goes h1) rfl rfl (by decide) ⟨Nat.le_of_ble_eq_true rfl, Nat.le_of_ble_eq_true rfl⟩ ⟨Nat.zero_le _, Nat.zero_le _⟩ rfl rfl (Nat.le_of_ble_eq_true rfl) hl.1 dX10_tables_110) (fun H locs hW _ => ?_)
      exact b_X10_tables_113 C FU hW (lv_sub hl [0] rfl) h
    · refine lv_aload_n hx hb dX10_tables_81 rfl (lv_at hl 0 rfl) ?_
      refine r_gR C hW h fl_X10_20 (by decide) dX10_tables_82 (fun b3 h => ?_)
      refine lv_sipush (v := 931) hx hb dX10_tables_85 (by decide) ?_
      refine lv_iload_n hx hb dX10_tables_88 rfl (lv_at hl 1 rfl) ?_
      refine lv_iadd hx hb dX10_tables_89 ?_
      refine lv_iload_n hx hb dX10_tables_90 rfl (lv_at hl 1 rfl) ?_
      refine lv_sipush (v := 615) hx hb dX10_tables_91 (by decide) ?_
      refine r_br h (lv_icmp_lt (tgt := 101) hx hb dX10_tables_94 (by decide)) (fun h => ?_) (fun h => ?_)
      · refine lv_iconst (v := 0) hx hb dX10_tables_101 (by decide) ?_
        exact b_X10_tables_102 C (fun hW hl h => ih hW hl h) hW (lv_sub hl [0, 1] rfl) h
      · refine lv_iconst (v := (-1)) hx hb dX10_tables_97 (by decide) ?_
        refine lv_goto (tgt := 102) hx hb dX10_tables_98 (by decide) ?_
        exact b_X10_tables_102 C (fun hW hl h => ih hW hl h) hW (lv_sub hl [0, 1] rfl) h
set_option maxRecDepth 20000 in
set_option maxHeartbeats 2000000 in
theorem b_X10_tables_23 {a : Nat} {x1 : Int32} (C : Cx g RX10 cX10_tables 3 (some .int) p s m args meth c) {r : (Int32 × Mx)} {X : Mx} {y0 : Nat} {y1 : Int32} (hW : Wd g σ X s H locs) (hl : lv_has ls 3 [(0, .ref a), (1, .int x1)]) (h : f_X10_tables_23 σ a x1 X y0 y1 = some r) : W p l e (rmZ 7 169) s m args below meth c H locs 0 0 (QI g σ below args s r) (F0 m 23 ls [.int y1, .ref y0]) := by
  have hx := C.x
  have hb := C.b
  unfold f_X10_tables_23 at h
  refine lv_iconst (v := 1) hx hb dX10_tables_23 (by decide) ?_
  obtain ⟨v3, X2, h1, h⟩ := bnd2_inv h
  refine r_cI hW (run_V (rest := []) C hW (t_X10_right h1) mk_X10_right vk_X10_214 (kd_X10_right h1) rfl rfl (by decide) ⟨Nat.le_of_ble_eq_true rfl, Nat.le_of_ble_eq_true rfl⟩ ⟨Nat.zero_le _, Nat.zero_le _⟩ rfl rfl (Nat.le_of_ble_eq_true rfl) hl.1 dX10_tables_24) (fun H locs hW _ => ?_)
  refine r_brn h (lv_if_ne (tgt := 32) hx hb dX10_tables_27 (by decide)) (fun h => ?_) (fun h => ?_)
  · refine lv_aload_n hx hb dX10_tables_32 rfl (lv_at hl 0 rfl) ?_
    refine lv_iconst (v := 0) hx hb dX10_tables_33 (by decide) ?_
    refine r_pI C hW h pf_X10_68 (by decide) rfl rfl dX10_tables_34 (fun X4 H locs h hW _ => ?_)
    refine lv_aload_n hx hb dX10_tables_37 rfl (lv_at hl 0 rfl) ?_
    refine lv_iconst (v := (-1)) hx hb dX10_tables_38 (by decide) ?_
    refine r_pI C hW h pf_X10_13 (by decide) rfl rfl dX10_tables_39 (fun X5 H locs h hW _ => ?_)
    refine lv_aload_n hx hb dX10_tables_42 rfl (lv_at hl 0 rfl) ?_
    refine lv_iconst (v := 0) hx hb dX10_tables_43 (by decide) ?_
    refine r_pI C hW h pf_X10_121 (by decide) rfl rfl dX10_tables_44 (fun X6 H locs h hW _ => ?_)
    refine lv_aload_n hx hb dX10_tables_47 rfl (lv_at hl 0 rfl) ?_
    refine lv_iload_n hx hb dX10_tables_48 rfl (lv_at hl 1 rfl) ?_
    refine r_pI C hW h pf_X10_75 (by decide) rfl rfl dX10_tables_49 (fun X7 H locs h hW _ => ?_)
    refine lv_aload_n hx hb dX10_tables_52 rfl (lv_at hl 0 rfl) ?_
    refine lv_iconst (v := 0) hx hb dX10_tables_53 (by decide) ?_
    refine r_pI C hW h pf_X10_78 (by decide) rfl rfl dX10_tables_54 (fun X8 H locs h hW _ => ?_)
    refine lv_aload_n hx hb dX10_tables_57 rfl (lv_at hl 0 rfl) ?_
    refine lv_iconst (v := 0) hx hb dX10_tables_58 (by decide) ?_
    refine r_pI C hW h pf_X10_147 (by decide) rfl rfl dX10_tables_59 (fun X9 H locs h hW _ => ?_)
    refine lv_aload_n hx hb dX10_tables_62 rfl (lv_at hl 0 rfl) ?_
    refine lv_iconst (v := 0) hx hb dX10_tables_63 (by decide) ?_
    refine r_pI C hW h pf_X10_178 (by decide) rfl rfl dX10_tables_64 (fun X10 H locs h hW _ => ?_)
    refine lv_aload_n hx hb dX10_tables_67 rfl (lv_at hl 0 rfl) ?_
    refine lv_iconst (v := 0) hx hb dX10_tables_68 (by decide) ?_
    refine r_pI C hW h pf_X10_184 (by decide) rfl rfl dX10_tables_69 (fun X11 H locs h hW _ => ?_)
    refine lv_iconst (v := 0) hx hb dX10_tables_72 (by decide) ?_
    refine lv_istore_n (lv' := [(2, .int 0), (0, .ref a), (1, .int x1)]) hx hb dX10_tables_73 rfl hl (by decide) rfl (fun ls hl => ?_)
    exact b_X10_tables_74 C FU hW (lv_sub hl [1, 0] rfl) h
  · refine lv_iconst (v := 0) hx hb dX10_tables_30 (by decide) ?_
    exact r_iret C hW (Option.some.inj h).symm rfl dX10_tables_31
set_option maxRecDepth 20000 in
set_option maxHeartbeats 2000000 in
theorem b_X10_tables_22 {a : Nat} {x1 : Int32} (C : Cx g RX10 cX10_tables 3 (some .int) p s m args meth c) {r : (Int32 × Mx)} {X : Mx} {y0 : Nat} (hW : Wd g σ X s H locs) (hl : lv_has ls 3 [(0, .ref a), (1, .int x1)]) (h : f_X10_tables_22 σ a x1 X y0 = some r) : W p l e (rmZ 7 169) s m args below meth c H locs 0 0 (QI g σ below args s r) (F0 m 22 ls [.ref y0]) := by
  have hx := C.x
  have hb := C.b
  unfold f_X10_tables_22 at h
  refine lv_iconst (v := 0) hx hb dX10_tables_22 (by decide) ?_
  exact b_X10_tables_23 C hW (lv_sub hl [0, 1] rfl) h
theorem kd_X10_tables {X : Mx} {r : (Int32 × Mx)} {a : Nat} {x1 : Int32} (h : f_X10_tables σ X a x1 = some r) : shK σ a = 8 := (grd_inv h).1
set_option maxRecDepth 20000 in
set_option maxHeartbeats 2000000 in
theorem t_X10_tables {X : Mx} {r : (Int32 × Mx)} {a : Nat} {x1 : Int32} (h : f_X10_tables σ X a x1 = some r) : MtI g l yX10_tables cX10_tables 3 (some .int) 7 169 [.ref a, .int x1] σ X r := by
  refine met_of mk_X10_tables (Nat.le_of_ble_eq_true rfl) (fun p e s m args below meth c ls C hW hl => ?_)
  have hx := C.x
  have hb := C.b
  have hl : lv_has ls 3 [(0, .ref a), (1, .int x1)] := hl
  unfold f_X10_tables at h
  obtain ⟨hk0, h⟩ := grd_inv h
  refine lv_aload_n hx hb dX10_tables_0 rfl (lv_at hl 0 rfl) ?_
  refine lv_iconst (v := 0) hx hb dX10_tables_1 (by decide) ?_
  refine r_pI C hW h pf_X10_65 (by decide) rfl rfl dX10_tables_2 (fun X1 H locs h hW _ => ?_)
  refine lv_aload_n hx hb dX10_tables_5 rfl (lv_at hl 0 rfl) ?_
  refine lv_iload_n hx hb dX10_tables_6 rfl (lv_at hl 1 rfl) ?_
  refine r_br h (lv_if_lt (tgt := 22) hx hb dX10_tables_7 (by decide)) (fun h => ?_) (fun h => ?_)
  · exact b_X10_tables_22 C hW (lv_sub hl [0, 1] rfl) h
  · refine lv_iload_n hx hb dX10_tables_10 rfl (lv_at hl 1 rfl) ?_
    refine lv_aload_n hx hb dX10_tables_11 rfl (lv_at hl 0 rfl) ?_
    refine r_gI C hW h fl_X10_68 (by decide) dX10_tables_12 (fun v2 h => ?_)
    refine r_br h (lv_icmp_gt (tgt := 22) hx hb dX10_tables_15 (by decide)) (fun h => ?_) (fun h => ?_)
    · exact b_X10_tables_22 C hW (lv_sub hl [0, 1] rfl) h
    · refine lv_iconst (v := 1) hx hb dX10_tables_18 (by decide) ?_
      refine lv_goto (tgt := 23) hx hb dX10_tables_19 (by decide) ?_
      exact b_X10_tables_23 C hW (lv_sub hl [0, 1] rfl) h
theorem kd_X10_fault {X : Mx} {r : (Int32 × Mx)} {a : Nat} (h : f_X10_fault σ X a = some r) : shK σ a = 8 := (grd_inv h).1
set_option maxRecDepth 20000 in
set_option maxHeartbeats 2000000 in
theorem t_X10_fault {X : Mx} {r : (Int32 × Mx)} {a : Nat} (h : f_X10_fault σ X a = some r) : MtI g l yX10_fault cX10_fault 1 (some .int) 0 0 [.ref a] σ X r := by
  refine met_of mk_X10_fault (Nat.le_of_ble_eq_true rfl) (fun p e s m args below meth c ls C hW hl => ?_)
  have hx := C.x
  have hb := C.b
  have hl : lv_has ls 1 [(0, .ref a)] := hl
  unfold f_X10_fault at h
  obtain ⟨hk0, h⟩ := grd_inv h
  refine lv_aload_n hx hb dX10_fault_0 rfl (lv_at hl 0 rfl) ?_
  refine lv_iconst (v := 0) hx hb dX10_fault_1 (by decide) ?_
  refine r_pI C hW h pf_X10_65 (by decide) rfl rfl dX10_fault_2 (fun X1 H locs h hW _ => ?_)
  refine lv_aload_n hx hb dX10_fault_5 rfl (lv_at hl 0 rfl) ?_
  refine r_gI C hW h fl_X10_13 (by decide) dX10_fault_6 (fun v2 h => ?_)
  exact r_iret C hW (Option.some.inj h).symm rfl dX10_fault_9
set_option maxRecDepth 20000 in
set_option maxHeartbeats 2000000 in
theorem b_X10_keeps_54 {a : Nat} (C : Cx g RX10 cX10_keeps 2 none p s m args meth c) {r : Mx} : ∀ (n : Nat) {X : Mx} {x1 : Int32} {H : Heap} {locs : List Loc} {ls : Array Slot} (hW : Wd g σ X s H locs) (hl : lv_has ls 2 [(0, .ref a), (1, .int x1)]) (h : f_X10_keeps_54 σ a n X x1 = some r), W p l e (rmZ 0 0) s m args below meth c H locs 0 0 (QV g σ below args s r) (F0 m 54 ls []) := by
  have hx := C.x
  have hb := C.b
  intro n
  induction n with
  | zero =>
    intro X x1 H locs ls hW hl h
    cases (show none = some r from h)
  | succ n ih =>
    intro X x1 H locs ls hW hl h
    rw [f_X10_keeps_54] at h
    refine lv_iload_n hx hb dX10_keeps_54 rfl (lv_at hl 1 rfl) ?_
    refine lv_sipush (v := 931) hx hb dX10_keeps_55 (by decide) ?_
    refine r_br h (lv_icmp_ge (tgt := 88) hx hb dX10_keeps_58 (by decide)) (fun h => ?_) (fun h => ?_)
    · refine lv_aload_n hx hb dX10_keeps_88 rfl (lv_at hl 0 rfl) ?_
      refine lv_dup hx hb dX10_keeps_89 rfl ?_
      refine r_gI C hW h fl_X10_221 (by decide) dX10_keeps_90 (fun v1 h => ?_)
      refine lv_iconst (v := 1) hx hb dX10_keeps_93 (by decide) ?_
      refine lv_iadd hx hb dX10_keeps_94 ?_
      refine r_pI C hW h pf_X10_221 (by decide) rfl rfl dX10_keeps_95 (fun X2 H locs h hW _ => ?_)
      exact r_vret C hW (Option.some.inj h).symm dX10_keeps_98
    · refine lv_aload_n hx hb dX10_keeps_61 rfl (lv_at hl 0 rfl) ?_
      refine r_gR C hW h fl_X10_23 (by decide) dX10_keeps_62 (fun b3 h => ?_)
      refine lv_sipush (v := 931) hx hb dX10_keeps_65 (by decide) ?_
      refine lv_aload_n hx hb dX10_keeps_68 rfl (lv_at hl 0 rfl) ?_
      refine r_gI C hW h fl_X10_221 (by decide) dX10_keeps_69 (fun v4 h => ?_)
      refine lv_imul hx hb dX10_keeps_72 ?_
      refine lv_iload_n hx hb dX10_keeps_73 rfl (lv_at hl 1 rfl) ?_
      refine lv_iadd hx hb dX10_keeps_74 ?_
      refine lv_aload_n hx hb dX10_keeps_75 rfl (lv_at hl 0 rfl) ?_
      refine r_gR C hW h fl_X10_20 (by decide) dX10_keeps_76 (fun b5 h => ?_)
      refine lv_iload_n hx hb dX10_keeps_79 rfl (lv_at hl 1 rfl) ?_
      refine r_iald C hW h dX10_keeps_80 (fun v6 h => ?_)
      refine r_iast C hW h dX10_keeps_81 (fun X7 H locs h hW _ => ?_)
      refine lv_iinc (v := (x1 + 1)) (lv' := [(1, .int (x1 + 1)), (0, .ref a)]) hx hb dX10_keeps_82 hl (k := 1) rfl rfl (by decide) rfl (fun ls hl => ?_)
      refine lv_goto (tgt := 54) hx hb dX10_keeps_85 (by decide) ?_
      exact ih hW (lv_sub hl [1, 0] rfl) h
set_option maxRecDepth 20000 in
set_option maxHeartbeats 2000000 in
theorem b_X10_keeps_52 {a : Nat} (C : Cx g RX10 cX10_keeps 2 none p s m args meth c) {r : Mx} {X : Mx} (hW : Wd g σ X s H locs) (hl : lv_has ls 2 [(0, .ref a)]) (h : f_X10_keeps_52 σ a X = some r) : W p l e (rmZ 0 0) s m args below meth c H locs 0 0 (QV g σ below args s r) (F0 m 52 ls []) := by
  have hx := C.x
  have hb := C.b
  unfold f_X10_keeps_52 at h
  refine lv_iconst (v := 0) hx hb dX10_keeps_52 (by decide) ?_
  refine lv_istore_n (lv' := [(1, .int 0), (0, .ref a)]) hx hb dX10_keeps_53 rfl hl (by decide) rfl (fun ls hl => ?_)
  exact b_X10_keeps_54 C FU hW (lv_sub hl [1, 0] rfl) h
set_option maxRecDepth 20000 in
set_option maxHeartbeats 2000000 in
theorem b_X10_keeps_13 {a : Nat} (C : Cx g RX10 cX10_keeps 2 none p s m args meth c) {r : Mx} : ∀ (n : Nat) {X : Mx} {x1 : Int32} {H : Heap} {locs : List Loc} {ls : Array Slot} (hW : Wd g σ X s H locs) (hl : lv_has ls 2 [(0, .ref a), (1, .int x1)]) (h : f_X10_keeps_13 σ a n X x1 = some r), W p l e (rmZ 0 0) s m args below meth c H locs 0 0 (QV g σ below args s r) (F0 m 13 ls []) := by
  have hx := C.x
  have hb := C.b
  intro n
  induction n with
  | zero =>
    intro X x1 H locs ls hW hl h
    cases (show none = some r from h)
  | succ n ih =>
    intro X x1 H locs ls hW hl h
    rw [f_X10_keeps_13] at h
    refine lv_iload_n hx hb dX10_keeps_13 rfl (lv_at hl 1 rfl) ?_
    refine lv_sipush (v := 27930) hx hb dX10_keeps_14 (by decide) ?_
    refine r_br h (lv_icmp_ge (tgt := 42) hx hb dX10_keeps_17 (by decide)) (fun h => ?_) (fun h => ?_)
    · refine lv_aload_n hx hb dX10_keeps_42 rfl (lv_at hl 0 rfl) ?_
      refine lv_dup hx hb dX10_keeps_43 rfl ?_
      refine r_gI C hW h fl_X10_221 (by decide) dX10_keeps_44 (fun v1 h => ?_)
      refine lv_iconst (v := 1) hx hb dX10_keeps_47 (by decide) ?_
      refine lv_isub hx hb dX10_keeps_48 ?_
      refine r_pI C hW h pf_X10_221 (by decide) rfl rfl dX10_keeps_49 (fun X2 H locs h hW _ => ?_)
      exact b_X10_keeps_52 C hW (lv_sub hl [0] rfl) h
    · refine lv_aload_n hx hb dX10_keeps_20 rfl (lv_at hl 0 rfl) ?_
      refine r_gR C hW h fl_X10_23 (by decide) dX10_keeps_21 (fun b3 h => ?_)
      refine lv_iload_n hx hb dX10_keeps_24 rfl (lv_at hl 1 rfl) ?_
      refine lv_sipush (v := 931) hx hb dX10_keeps_25 (by decide) ?_
      refine lv_isub hx hb dX10_keeps_28 ?_
      refine lv_aload_n hx hb dX10_keeps_29 rfl (lv_at hl 0 rfl) ?_
      refine r_gR C hW h fl_X10_23 (by decide) dX10_keeps_30 (fun b4 h => ?_)
      refine lv_iload_n hx hb dX10_keeps_33 rfl (lv_at hl 1 rfl) ?_
      refine r_iald C hW h dX10_keeps_34 (fun v5 h => ?_)
      refine r_iast C hW h dX10_keeps_35 (fun X6 H locs h hW _ => ?_)
      refine lv_iinc (v := (x1 + 1)) (lv' := [(1, .int (x1 + 1)), (0, .ref a)]) hx hb dX10_keeps_36 hl (k := 1) rfl rfl (by decide) rfl (fun ls hl => ?_)
      refine lv_goto (tgt := 13) hx hb dX10_keeps_39 (by decide) ?_
      exact ih hW (lv_sub hl [1, 0] rfl) h
theorem kd_X10_keeps {X : Mx} {r : Mx} {a : Nat} (h : f_X10_keeps σ X a = some r) : shK σ a = 8 := (grd_inv h).1
set_option maxRecDepth 20000 in
set_option maxHeartbeats 2000000 in
theorem t_X10_keeps {X : Mx} {r : Mx} {a : Nat} (h : f_X10_keeps σ X a = some r) : MtV g l yX10_keeps cX10_keeps 2 none 0 0 [.ref a] σ X r := by
  refine met_of mk_X10_keeps (Nat.le_of_ble_eq_true rfl) (fun p e s m args below meth c ls C hW hl => ?_)
  have hx := C.x
  have hb := C.b
  have hl : lv_has ls 2 [(0, .ref a)] := hl
  unfold f_X10_keeps at h
  obtain ⟨hk0, h⟩ := grd_inv h
  refine lv_aload_n hx hb dX10_keeps_0 rfl (lv_at hl 0 rfl) ?_
  refine r_gI C hW h fl_X10_221 (by decide) dX10_keeps_1 (fun v1 h => ?_)
  refine lv_bipush (v := 30) hx hb dX10_keeps_4 (by decide) ?_
  refine r_brn h (lv_icmp_ne (tgt := 52) hx hb dX10_keeps_6 (by decide)) (fun h => ?_) (fun h => ?_)
  · exact b_X10_keeps_52 C hW (lv_sub hl [0] rfl) h
  · refine lv_sipush (v := 931) hx hb dX10_keeps_9 (by decide) ?_
    refine lv_istore_n (lv' := [(1, .int 931), (0, .ref a)]) hx hb dX10_keeps_12 rfl hl (by decide) rfl (fun ls hl => ?_)
    exact b_X10_keeps_13 C FU hW (lv_sub hl [1, 0] rfl) h
theorem kd_X10_refuses {X : Mx} {r : (Int32 × Mx)} {a : Nat} {x1 : Int32} (h : f_X10_refuses σ X a x1 = some r) : shK σ a = 8 := (grd_inv h).1
set_option maxRecDepth 20000 in
set_option maxHeartbeats 2000000 in
theorem t_X10_refuses {X : Mx} {r : (Int32 × Mx)} {a : Nat} {x1 : Int32} (h : f_X10_refuses σ X a x1 = some r) : MtI g l yX10_refuses cX10_refuses 2 (some .int) 0 0 [.ref a, .int x1] σ X r := by
  refine met_of mk_X10_refuses (Nat.le_of_ble_eq_true rfl) (fun p e s m args below meth c ls C hW hl => ?_)
  have hx := C.x
  have hb := C.b
  have hl : lv_has ls 2 [(0, .ref a), (1, .int x1)] := hl
  unfold f_X10_refuses at h
  obtain ⟨hk0, h⟩ := grd_inv h
  refine lv_aload_n hx hb dX10_refuses_0 rfl (lv_at hl 0 rfl) ?_
  refine r_gR C hW h fl_X10_17 (by decide) dX10_refuses_1 (fun b1 h => ?_)
  refine lv_iload_n hx hb dX10_refuses_4 rfl (lv_at hl 1 rfl) ?_
  refine lv_dup2_11 hx hb dX10_refuses_5 rfl rfl ?_
  refine r_iald C hW h dX10_refuses_6 (fun v2 h => ?_)
  refine lv_iconst (v := 1) hx hb dX10_refuses_7 (by decide) ?_
  refine lv_iadd hx hb dX10_refuses_8 ?_
  refine r_iast C hW h dX10_refuses_9 (fun X3 H locs h hW _ => ?_)
  refine lv_iconst (v := (-1)) hx hb dX10_refuses_10 (by decide) ?_
  exact r_iret C hW (Option.some.inj h).symm rfl dX10_refuses_11
set_option maxRecDepth 20000 in
set_option maxHeartbeats 2000000 in
theorem b_X10_undo_26 {a : Nat} (C : Cx g RX10 cX10_undo 2 (some .int) p s m args meth c) {r : (Int32 × Mx)} : ∀ (n : Nat) {X : Mx} {x1 : Int32} {H : Heap} {locs : List Loc} {ls : Array Slot} (hW : Wd g σ X s H locs) (hl : lv_has ls 2 [(0, .ref a), (1, .int x1)]) (h : f_X10_undo_26 σ a n X x1 = some r), W p l e (rmZ 0 0) s m args below meth c H locs 0 0 (QI g σ below args s r) (F0 m 26 ls []) := by
  have hx := C.x
  have hb := C.b
  intro n
  induction n with
  | zero =>
    intro X x1 H locs ls hW hl h
    cases (show none = some r from h)
  | succ n ih =>
    intro X x1 H locs ls hW hl h
    rw [f_X10_undo_26] at h
    refine lv_iload_n hx hb dX10_undo_26 rfl (lv_at hl 1 rfl) ?_
    refine lv_sipush (v := 931) hx hb dX10_undo_27 (by decide) ?_
    refine r_br h (lv_icmp_ge (tgt := 60) hx hb dX10_undo_30 (by decide)) (fun h => ?_) (fun h => ?_)
    · refine lv_aload_n hx hb dX10_undo_60 rfl (lv_at hl 0 rfl) ?_
      refine r_gI C hW h fl_X10_221 (by decide) dX10_undo_61 (fun v1 h => ?_)
      exact r_iret C hW (Option.some.inj h).symm rfl dX10_undo_64
    · refine lv_aload_n hx hb dX10_undo_33 rfl (lv_at hl 0 rfl) ?_
      refine r_gR C hW h fl_X10_20 (by decide) dX10_undo_34 (fun b2 h => ?_)
      refine lv_iload_n hx hb dX10_undo_37 rfl (lv_at hl 1 rfl) ?_
      refine lv_aload_n hx hb dX10_undo_38 rfl (lv_at hl 0 rfl) ?_
      refine r_gR C hW h fl_X10_23 (by decide) dX10_undo_39 (fun b3 h => ?_)
      refine lv_sipush (v := 931) hx hb dX10_undo_42 (by decide) ?_
      refine lv_aload_n hx hb dX10_undo_45 rfl (lv_at hl 0 rfl) ?_
      refine r_gI C hW h fl_X10_221 (by decide) dX10_undo_46 (fun v4 h => ?_)
      refine lv_imul hx hb dX10_undo_49 ?_
      refine lv_iload_n hx hb dX10_undo_50 rfl (lv_at hl 1 rfl) ?_
      refine lv_iadd hx hb dX10_undo_51 ?_
      refine r_iald C hW h dX10_undo_52 (fun v5 h => ?_)
      refine r_iast C hW h dX10_undo_53 (fun X6 H locs h hW _ => ?_)
      refine lv_iinc (v := (x1 + 1)) (lv' := [(1, .int (x1 + 1)), (0, .ref a)]) hx hb dX10_undo_54 hl (k := 1) rfl rfl (by decide) rfl (fun ls hl => ?_)
      refine lv_goto (tgt := 26) hx hb dX10_undo_57 (by decide) ?_
      exact ih hW (lv_sub hl [1, 0] rfl) h
end
