section
variable {p : Program} {l : Launch} {e : Env} {s : State} {m : MethodId} {args : Array Value} {below : List Frame} {meth : Method} {c : Code} {H : Heap} {locs : List Loc} {g : Gp} {σ : Sh} {ls : Array Slot}
theorem kd_X10_edited {X : Mx} {r : (Int32 × Mx)} {a : Nat} {x1 : Int32} (h : f_X10_edited σ X a x1 = some r) : shK σ a = 8 := (grd_inv h).1
set_option maxRecDepth 20000 in
set_option maxHeartbeats 2000000 in
theorem t_X10_edited {X : Mx} {r : (Int32 × Mx)} {a : Nat} {x1 : Int32} (h : f_X10_edited σ X a x1 = some r) : MtI g l yX10_edited cX10_edited 7 (some .int) 8 193 [.ref a, .int x1] σ X r := by
  refine met_of mk_X10_edited (Nat.le_of_ble_eq_true rfl) (fun p e s m args below meth c ls C hW hl => ?_)
  have hx := C.x
  have hb := C.b
  have hl : lv_has ls 7 [(0, .ref a), (1, .int x1)] := hl
  unfold f_X10_edited at h
  obtain ⟨hk0, h⟩ := grd_inv h
  refine lv_aload_n hx hb dX10_edited_0 rfl (lv_at hl 0 rfl) ?_
  refine lv_iconst (v := 0) hx hb dX10_edited_1 (by decide) ?_
  refine r_pI C hW h pf_X10_65 (by decide) rfl rfl dX10_edited_2 (fun X1 H locs h hW _ => ?_)
  refine lv_aload_n hx hb dX10_edited_5 rfl (lv_at hl 0 rfl) ?_
  refine lv_iload_n hx hb dX10_edited_6 rfl (lv_at hl 1 rfl) ?_
  refine lv_iconst (v := 2) hx hb dX10_edited_7 (by decide) ?_
  obtain ⟨v4, X3, h2, h⟩ := bnd2_inv h
  refine r_cI hW (run_V (rest := []) C hW (t_X10_isWhat h2) mk_X10_isWhat vk_X10_375 (kd_X10_isWhat h2) rfl rfl (by decide) ⟨Nat.le_of_ble_eq_true rfl, Nat.le_of_ble_eq_true rfl⟩ ⟨Nat.zero_le _, Nat.zero_le _⟩ rfl rfl (Nat.le_of_ble_eq_true rfl) hl.1 dX10_edited_8) (fun H locs hW _ => ?_)
  refine r_brn h (lv_if_ne (tgt := 16) hx hb dX10_edited_11 (by decide)) (fun h => ?_) (fun h => ?_)
  · refine lv_iload_n hx hb dX10_edited_16 rfl (lv_at hl 1 rfl) ?_
    refine lv_iconst (v := 2) hx hb dX10_edited_17 (by decide) ?_
    refine r_brn h (lv_icmp_ne (tgt := 35) hx hb dX10_edited_18 (by decide)) (fun h => ?_) (fun h => ?_)
    · refine lv_iconst (v := 0) hx hb dX10_edited_35 (by decide) ?_
      refine lv_istore_n (lv' := [(2, .int 0), (0, .ref a), (1, .int x1)]) hx hb dX10_edited_36 rfl hl (by decide) rfl (fun ls hl => ?_)
      refine lv_iconst (v := (-1)) hx hb dX10_edited_37 (by decide) ?_
      refine lv_istore_n (lv' := [(3, .int (-1)), (2, .int 0), (0, .ref a), (1, .int x1)]) hx hb dX10_edited_38 rfl hl (by decide) rfl (fun ls hl => ?_)
      refine lv_iconst (v := 0) hx hb dX10_edited_39 (by decide) ?_
      refine lv_istore (lv' := [(4, .int 0), (3, .int (-1)), (2, .int 0), (0, .ref a), (1, .int x1)]) hx hb dX10_edited_40 hl (by decide) rfl (fun ls hl => ?_)
      exact b_X10_edited_42 C FU hW (lv_sub hl [3, 4, 2, 1, 0] rfl) h
    · refine lv_aload_n hx hb dX10_edited_21 rfl (lv_at hl 0 rfl) ?_
      refine lv_iconst (v := 0) hx hb dX10_edited_22 (by decide) ?_
      obtain ⟨v7, X6, h5, h⟩ := bnd2_inv h
      refine r_cI hW (run_V (rest := []) C hW (t_X10_isSeen h5) mk_X10_isSeen vk_X10_421 (kd_X10_isSeen h5) rfl rfl (by decide) ⟨Nat.le_of_ble_eq_true rfl, Nat.le_of_ble_eq_true rfl⟩ ⟨Nat.zero_le _, Nat.zero_le _⟩ rfl rfl (Nat.le_of_ble_eq_true rfl) hl.1 dX10_edited_23) (fun H locs hW _ => ?_)
      refine r_br h (lv_if_eq (tgt := 33) hx hb dX10_edited_26 (by decide)) (fun h => ?_) (fun h => ?_)
      · refine lv_iconst (v := 0) hx hb dX10_edited_33 (by decide) ?_
        exact r_iret C hW (Option.some.inj h).symm rfl dX10_edited_34
      · refine lv_iconst (v := 1) hx hb dX10_edited_29 (by decide) ?_
        refine lv_goto (tgt := 34) hx hb dX10_edited_30 (by decide) ?_
        exact r_iret C hW (Option.some.inj h).symm rfl dX10_edited_34
  · refine lv_iconst (v := 0) hx hb dX10_edited_14 (by decide) ?_
    exact r_iret C hW (Option.some.inj h).symm rfl dX10_edited_15
theorem kd_X10_draw {X : Mx} {r : (Int32 × Mx)} {a : Nat} {x1 : Int32} (h : f_X10_draw σ X a x1 = some r) : shK σ a = 8 := (grd_inv h).1
set_option maxRecDepth 20000 in
set_option maxHeartbeats 2000000 in
theorem t_X10_draw {X : Mx} {r : (Int32 × Mx)} {a : Nat} {x1 : Int32} (h : f_X10_draw σ X a x1 = some r) : MtI g l yX10_draw cX10_draw 2 (some .int) 0 0 [.ref a, .int x1] σ X r := by
  refine met_of mk_X10_draw (Nat.le_of_ble_eq_true rfl) (fun p e s m args below meth c ls C hW hl => ?_)
  have hx := C.x
  have hb := C.b
  have hl : lv_has ls 2 [(0, .ref a), (1, .int x1)] := hl
  unfold f_X10_draw at h
  obtain ⟨hk0, h⟩ := grd_inv h
  refine lv_aload_n hx hb dX10_draw_0 rfl (lv_at hl 0 rfl) ?_
  refine lv_aload_n hx hb dX10_draw_1 rfl (lv_at hl 0 rfl) ?_
  refine r_gI C hW h fl_X10_424 (by decide) dX10_draw_2 (fun v1 h => ?_)
  refine lv_ldcw hx hb C.1.2.2.2.1 (C.1.2.2.2.2 _ ck_X10_427) dX10_draw_5 ?_
  refine lv_imul hx hb dX10_draw_8 ?_
  refine lv_sipush (v := 12345) hx hb dX10_draw_9 (by decide) ?_
  refine lv_iadd hx hb dX10_draw_12 ?_
  refine r_pI C hW h pf_X10_424 (by decide) rfl rfl dX10_draw_13 (fun X2 H locs h hW _ => ?_)
  refine lv_aload_n hx hb dX10_draw_16 rfl (lv_at hl 0 rfl) ?_
  refine r_gI C hW h fl_X10_424 (by decide) dX10_draw_17 (fun v3 h => ?_)
  refine lv_bipush (v := 16) hx hb dX10_draw_20 (by decide) ?_
  refine lv_ishr hx hb dX10_draw_22 ?_
  refine lv_sipush (v := 32767) hx hb dX10_draw_23 (by decide) ?_
  refine lv_iand hx hb dX10_draw_26 ?_
  refine lv_iload_n hx hb dX10_draw_27 rfl (lv_at hl 1 rfl) ?_
  obtain ⟨hz, h⟩ := grd_inv h
  refine lv_irem hx hb dX10_draw_28 hz ?_
  exact r_iret C hW (Option.some.inj h).symm rfl dX10_draw_29
set_option maxRecDepth 20000 in
set_option maxHeartbeats 2000000 in
theorem b_X10_happens_73 {x3 : Int32} (C : Cx g RX10 cX10_happens 5 (some .boolean) p s m args meth c) {r : (Int32 × Mx)} {X : Mx} {y0 : Nat} {y1 : Int32} {y2 : Int32} {y3 : Int32} (hW : Wd g σ X s H locs) (hl : lv_has ls 5 [(3, .int x3)]) (h : f_X10_happens_73 σ x3 X y0 y1 y2 y3 = some r) : W p l e (rmZ 5 121) s m args below meth c H locs 0 0 (QI g σ below args s r) (F0 m 73 ls [.int y3, .int y2, .int y1, .ref y0]) := by
  have hx := C.x
  have hb := C.b
  unfold f_X10_happens_73 at h
  refine lv_iload_n hx hb dX10_happens_73 rfl (lv_at hl 0 rfl) ?_
  refine lv_iconst (v := 0) hx hb dX10_happens_74 (by decide) ?_
  refine lv_iconst (v := 0) hx hb dX10_happens_75 (by decide) ?_
  obtain ⟨v3, X2, h1, h⟩ := bnd2_inv h
  refine r_cI hW (run_V (rest := []) C hW (t_X10_does h1) mk_X10_does vk_X10_190 (kd_X10_does h1) rfl rfl (by decide) ⟨Nat.le_of_ble_eq_true rfl, Nat.le_of_ble_eq_true rfl⟩ ⟨Nat.zero_le _, Nat.zero_le _⟩ rfl rfl (Nat.le_of_ble_eq_true rfl) hl.1 dX10_happens_76) (fun H locs hW _ => ?_)
  obtain ⟨hz, h⟩ := grd_inv h
  exact r_iret C hW (Option.some.inj h).symm (zb hz) dX10_happens_79
set_option maxRecDepth 20000 in
set_option maxHeartbeats 2000000 in
theorem b_X10_happens_25 {a : Nat} {x1 : Int32} {x2 : Int32} (C : Cx g RX10 cX10_happens 5 (some .boolean) p s m args meth c) {r : (Int32 × Mx)} {X : Mx} {y0 : Nat} {y1 : Int32} (hW : Wd g σ X s H locs) (hl : lv_has ls 5 [(0, .ref a), (1, .int x1), (2, .int x2)]) (h : f_X10_happens_25 σ a x1 x2 X y0 y1 = some r) : W p l e (rmZ 5 121) s m args below meth c H locs 0 0 (QI g σ below args s r) (F0 m 25 ls [.int y1, .ref y0]) := by
  have hx := C.x
  have hb := C.b
  unfold f_X10_happens_25 at h
  obtain ⟨v3, X2, h1, h⟩ := bnd2_inv h
  refine r_cI hW (run_V (rest := []) C hW (t_X10_draw h1) mk_X10_draw vk_X10_428 (kd_X10_draw h1) rfl rfl (by decide) ⟨Nat.le_of_ble_eq_true rfl, Nat.le_of_ble_eq_true rfl⟩ ⟨Nat.zero_le _, Nat.zero_le _⟩ rfl rfl (Nat.le_of_ble_eq_true rfl) hl.1 dX10_happens_25) (fun H locs hW _ => ?_)
  refine lv_istore_n (lv' := [(3, .int v3), (0, .ref a), (1, .int x1), (2, .int x2)]) hx hb dX10_happens_28 rfl hl (by decide) rfl (fun ls hl => ?_)
  refine lv_iload_n hx hb dX10_happens_29 rfl (lv_at hl 3 rfl) ?_
  refine lv_iconst (v := 3) hx hb dX10_happens_30 (by decide) ?_
  refine r_brn h (lv_icmp_ne (tgt := 52) hx hb dX10_happens_31 (by decide)) (fun h => ?_) (fun h => ?_)
  · refine lv_iload_n hx hb dX10_happens_52 rfl (lv_at hl 3 rfl) ?_
    refine r_br h (lv_if_le (tgt := 80) hx hb dX10_happens_53 (by decide)) (fun h => ?_) (fun h => ?_)
    · refine lv_aload_n hx hb dX10_happens_80 rfl (lv_at hl 1 rfl) ?_
      refine lv_bipush (v := 9) hx hb dX10_happens_81 (by decide) ?_
      obtain ⟨v6, X5, h4, h⟩ := bnd2_inv h
      refine r_cI hW (run_V (rest := []) C hW (t_X10_draw h4) mk_X10_draw vk_X10_428 (kd_X10_draw h4) rfl rfl (by decide) ⟨Nat.le_of_ble_eq_true rfl, Nat.le_of_ble_eq_true rfl⟩ ⟨Nat.zero_le _, Nat.zero_le _⟩ rfl rfl (Nat.le_of_ble_eq_true rfl) hl.1 dX10_happens_83) (fun H locs hW _ => ?_)
      refine lv_istore (lv' := [(4, .int v6), (3, .int v3), (0, .ref a), (1, .int x1), (2, .int x2)]) hx hb dX10_happens_86 hl (by decide) rfl (fun ls hl => ?_)
      refine lv_aload_n hx hb dX10_happens_88 rfl (lv_at hl 2 rfl) ?_
      refine lv_sipush (v := 931) hx hb dX10_happens_89 (by decide) ?_
      refine lv_iload_n hx hb dX10_happens_92 rfl (lv_at hl 3 rfl) ?_
      refine lv_bipush (v := 11) hx hb dX10_happens_93 (by decide) ?_
      refine lv_iload_n hx hb dX10_happens_95 rfl (lv_at hl 1 rfl) ?_
      refine lv_iload hx hb dX10_happens_96 (lv_at hl 0 rfl) ?_
      refine lv_aload_n hx hb dX10_happens_98 rfl (lv_at hl 2 rfl) ?_
      refine lv_bipush (v := 10) hx hb dX10_happens_99 (by decide) ?_
      obtain ⟨v9, X8, h7, h⟩ := bnd2_inv h
      refine r_cI hW (run_V (rest := [.int v6, .int v3, .int 11, .int x1, .int 931, .ref a]) C hW (t_X10_draw h7) mk_X10_draw vk_X10_428 (kd_X10_draw h7) rfl rfl (by decide) ⟨Nat.le_of_ble_eq_true rfl, Nat.le_of_ble_eq_true rfl⟩ ⟨Nat.zero_le _, Nat.zero_le _⟩ rfl rfl (Nat.le_of_ble_eq_true rfl) hl.1 dX10_happens_101) (fun H locs hW _ => ?_)
      obtain ⟨v12, X11, h10, h⟩ := bnd2_inv h
      refine r_cI hW (run_V (rest := []) C hW (t_X10_does h10) mk_X10_does vk_X10_190 (kd_X10_does h10) rfl rfl (by decide) ⟨Nat.le_of_ble_eq_true rfl, Nat.le_of_ble_eq_true rfl⟩ ⟨Nat.zero_le _, Nat.zero_le _⟩ rfl rfl (Nat.le_of_ble_eq_true rfl) hl.1 dX10_happens_104) (fun H locs hW _ => ?_)
      obtain ⟨hz, h⟩ := grd_inv h
      exact r_iret C hW (Option.some.inj h).symm (zb hz) dX10_happens_107
    · refine lv_aload_n hx hb dX10_happens_56 rfl (lv_at hl 1 rfl) ?_
      refine lv_sipush (v := 931) hx hb dX10_happens_57 (by decide) ?_
      refine lv_iload_n hx hb dX10_happens_60 rfl (lv_at hl 2 rfl) ?_
      refine lv_iload_n hx hb dX10_happens_61 rfl (lv_at hl 3 rfl) ?_
      refine lv_iconst (v := 1) hx hb dX10_happens_62 (by decide) ?_
      refine r_brn h (lv_icmp_ne (tgt := 71) hx hb dX10_happens_63 (by decide)) (fun h => ?_) (fun h => ?_)
      · refine lv_bipush (v := 13) hx hb dX10_happens_71 (by decide) ?_
        exact b_X10_happens_73 C hW (lv_sub hl [0] rfl) h
      · refine lv_bipush (v := 12) hx hb dX10_happens_66 (by decide) ?_
        refine lv_goto (tgt := 73) hx hb dX10_happens_68 (by decide) ?_
        exact b_X10_happens_73 C hW (lv_sub hl [0] rfl) h
  · refine lv_aload_n hx hb dX10_happens_34 rfl (lv_at hl 1 rfl) ?_
    refine lv_sipush (v := 931) hx hb dX10_happens_35 (by decide) ?_
    refine lv_iload_n hx hb dX10_happens_38 rfl (lv_at hl 2 rfl) ?_
    refine lv_bipush (v := 15) hx hb dX10_happens_39 (by decide) ?_
    refine lv_iload_n hx hb dX10_happens_41 rfl (lv_at hl 0 rfl) ?_
    refine lv_aload_n hx hb dX10_happens_42 rfl (lv_at hl 1 rfl) ?_
    refine lv_iconst (v := 4) hx hb dX10_happens_43 (by decide) ?_
    obtain ⟨v15, X14, h13, h⟩ := bnd2_inv h
    refine r_cI hW (run_V (rest := [.int v3, .int 15, .int x1, .int 931, .ref a]) C hW (t_X10_draw h13) mk_X10_draw vk_X10_428 (kd_X10_draw h13) rfl rfl (by decide) ⟨Nat.le_of_ble_eq_true rfl, Nat.le_of_ble_eq_true rfl⟩ ⟨Nat.zero_le _, Nat.zero_le _⟩ rfl rfl (Nat.le_of_ble_eq_true rfl) hl.1 dX10_happens_44) (fun H locs hW _ => ?_)
    refine lv_iconst (v := 0) hx hb dX10_happens_47 (by decide) ?_
    obtain ⟨v18, X17, h16, h⟩ := bnd2_inv h
    refine r_cI hW (run_V (rest := []) C hW (t_X10_does h16) mk_X10_does vk_X10_190 (kd_X10_does h16) rfl rfl (by decide) ⟨Nat.le_of_ble_eq_true rfl, Nat.le_of_ble_eq_true rfl⟩ ⟨Nat.zero_le _, Nat.zero_le _⟩ rfl rfl (Nat.le_of_ble_eq_true rfl) hl.1 dX10_happens_48) (fun H locs hW _ => ?_)
    obtain ⟨hz, h⟩ := grd_inv h
    exact r_iret C hW (Option.some.inj h).symm (zb hz) dX10_happens_51
theorem kd_X10_happens {X : Mx} {r : (Int32 × Mx)} {a : Nat} (h : f_X10_happens σ X a = some r) : shK σ a = 8 := (grd_inv h).1
set_option maxRecDepth 20000 in
set_option maxHeartbeats 2000000 in
theorem t_X10_happens {X : Mx} {r : (Int32 × Mx)} {a : Nat} (h : f_X10_happens σ X a = some r) : MtI g l yX10_happens cX10_happens 5 (some .boolean) 5 121 [.ref a] σ X r := by
  refine met_of mk_X10_happens (Nat.le_of_ble_eq_true rfl) (fun p e s m args below meth c ls C hW hl => ?_)
  have hx := C.x
  have hb := C.b
  have hl : lv_has ls 5 [(0, .ref a)] := hl
  unfold f_X10_happens at h
  obtain ⟨hk0, h⟩ := grd_inv h
  refine lv_aload_n hx hb dX10_happens_0 rfl (lv_at hl 0 rfl) ?_
  refine lv_iconst (v := 2) hx hb dX10_happens_1 (by decide) ?_
  obtain ⟨v3, X2, h1, h⟩ := bnd2_inv h
  refine r_cI hW (run_V (rest := []) C hW (t_X10_draw h1) mk_X10_draw vk_X10_428 (kd_X10_draw h1) rfl rfl (by decide) ⟨Nat.le_of_ble_eq_true rfl, Nat.le_of_ble_eq_true rfl⟩ ⟨Nat.zero_le _, Nat.zero_le _⟩ rfl rfl (Nat.le_of_ble_eq_true rfl) hl.1 dX10_happens_2) (fun H locs hW _ => ?_)
  refine lv_istore_n (lv' := [(1, .int v3), (0, .ref a)]) hx hb dX10_happens_5 rfl hl (by decide) rfl (fun ls hl => ?_)
  refine lv_aload_n hx hb dX10_happens_6 rfl (lv_at hl 1 rfl) ?_
  refine lv_iconst (v := 4) hx hb dX10_happens_7 (by decide) ?_
  obtain ⟨v6, X5, h4, h⟩ := bnd2_inv h
  refine r_cI hW (run_V (rest := []) C hW (t_X10_draw h4) mk_X10_draw vk_X10_428 (kd_X10_draw h4) rfl rfl (by decide) ⟨Nat.le_of_ble_eq_true rfl, Nat.le_of_ble_eq_true rfl⟩ ⟨Nat.zero_le _, Nat.zero_le _⟩ rfl rfl (Nat.le_of_ble_eq_true rfl) hl.1 dX10_happens_8) (fun H locs hW _ => ?_)
  refine lv_istore_n (lv' := [(2, .int v6), (1, .int v3), (0, .ref a)]) hx hb dX10_happens_11 rfl hl (by decide) rfl (fun ls hl => ?_)
  refine lv_aload_n hx hb dX10_happens_12 rfl (lv_at hl 2 rfl) ?_
  refine lv_iload_n hx hb dX10_happens_13 rfl (lv_at hl 0 rfl) ?_
  refine lv_iconst (v := 3) hx hb dX10_happens_14 (by decide) ?_
  refine r_brn h (lv_icmp_ne (tgt := 23) hx hb dX10_happens_15 (by decide)) (fun h => ?_) (fun h => ?_)
  · refine lv_bipush (v := 20) hx hb dX10_happens_23 (by decide) ?_
    exact b_X10_happens_25 C hW (lv_sub hl [2, 1, 0] rfl) h
  · refine lv_bipush (v := 9) hx hb dX10_happens_18 (by decide) ?_
    refine lv_goto (tgt := 25) hx hb dX10_happens_20 (by decide) ?_
    exact b_X10_happens_25 C hW (lv_sub hl [2, 1, 0] rfl) h
set_option maxRecDepth 20000 in
set_option maxHeartbeats 2000000 in
theorem b_X10_years_66 {k46 : Mx → Int32 → Int32 → Option (Int32 × Mx)} {a : Nat} {x2 : Int32} {x3 : Int32} {x5 : Int32} (C : Cx g RX10 cX10_years 6 (some .int) p s m args meth c) {r : (Int32 × Mx)} {X : Mx} {y0 : Int32} {y1 : Int32} (hk46 : ∀ {H' : Heap} {locs' : List Loc} {ls' : Array Slot} {X' : Mx} {x4' : Int32} {x5' : Int32}, Wd g σ X' s H' locs' → lv_has ls' 6 [(0, .ref a), (2, .int x2), (3, .int x3), (4, .int x4'), (5, .int x5')] → k46 X' x4' x5' = some r → W p l e (rmZ 7 169) s m args below meth c H' locs' 0 0 (QI g σ below args s r) (F0 m 46 ls' [])) (hW : Wd g σ X s H locs) (hl : lv_has ls 6 [(0, .ref a), (2, .int x2), (3, .int x3), (5, .int x5)]) (h : f_X10_years_66 k46 σ a x2 x3 x5 X y0 y1 = some r) : W p l e (rmZ 7 169) s m args below meth c H locs 0 0 (QI g σ below args s r) (F0 m 66 ls [.int y1, .int y0]) := by
  have hx := C.x
  have hb := C.b
  unfold f_X10_years_66 at h
  refine lv_iadd hx hb dX10_years_66 ?_
  refine lv_istore (lv' := [(4, .int (y0 + y1)), (0, .ref a), (2, .int x2), (3, .int x3), (5, .int x5)]) hx hb dX10_years_67 hl (by decide) rfl (fun ls hl => ?_)
  refine lv_iinc (v := (x5 + 1)) (lv' := [(5, .int (x5 + 1)), (4, .int (y0 + y1)), (0, .ref a), (2, .int x2), (3, .int x3)]) hx hb dX10_years_69 hl (k := 4) rfl rfl (by decide) rfl (fun ls hl => ?_)
  refine lv_goto (tgt := 46) hx hb dX10_years_72 (by decide) ?_
  exact hk46 hW (lv_sub hl [2, 3, 4, 1, 0] rfl) h
set_option maxRecDepth 20000 in
set_option maxHeartbeats 2000000 in
theorem b_X10_years_46 {a : Nat} {x2 : Int32} {x3 : Int32} (C : Cx g RX10 cX10_years 6 (some .int) p s m args meth c) {r : (Int32 × Mx)} : ∀ (n : Nat) {X : Mx} {x4 : Int32} {x5 : Int32} {H : Heap} {locs : List Loc} {ls : Array Slot} (hW : Wd g σ X s H locs) (hl : lv_has ls 6 [(0, .ref a), (2, .int x2), (3, .int x3), (4, .int x4), (5, .int x5)]) (h : f_X10_years_46 σ a x2 x3 n X x4 x5 = some r), W p l e (rmZ 7 169) s m args below meth c H locs 0 0 (QI g σ below args s r) (F0 m 46 ls []) := by
  have hx := C.x
  have hb := C.b
  intro n
  induction n with
  | zero =>
    intro X x4 x5 H locs ls hW hl h
    cases (show none = some r from h)
  | succ n ih =>
    intro X x4 x5 H locs ls hW hl h
    rw [f_X10_years_46] at h
    refine lv_iload hx hb dX10_years_46 (lv_at hl 4 rfl) ?_
    refine lv_iload_n hx hb dX10_years_48 rfl (lv_at hl 1 rfl) ?_
    refine r_br h (lv_icmp_ge (tgt := 75) hx hb dX10_years_49 (by decide)) (fun h => ?_) (fun h => ?_)
    · refine lv_aload_n hx hb dX10_years_75 rfl (lv_at hl 0 rfl) ?_
      refine lv_sipush (v := 931) hx hb dX10_years_76 (by decide) ?_
      obtain ⟨X2, h1, h⟩ := bnd_inv h
      refine r_cV hW (run_V (rest := []) C hW (t_X10_merges h1) mk_X10_merges vk_X10_354 (kd_X10_merges h1) rfl rfl (by decide) ⟨Nat.le_of_ble_eq_true rfl, Nat.le_of_ble_eq_true rfl⟩ ⟨Nat.zero_le _, Nat.zero_le _⟩ rfl rfl (Nat.le_of_ble_eq_true rfl) hl.1 dX10_years_79) (fun H locs hW _ => ?_)
      refine lv_iload_n hx hb dX10_years_82 rfl (lv_at hl 2 rfl) ?_
      refine r_brn h (lv_if_ne (tgt := 91) hx hb dX10_years_83 (by decide)) (fun h => ?_) (fun h => ?_)
      · refine lv_iload_n hx hb dX10_years_91 rfl (lv_at hl 2 rfl) ?_
        refine lv_iconst (v := 1) hx hb dX10_years_92 (by decide) ?_
        refine r_brn h (lv_icmp_ne (tgt := 103) hx hb dX10_years_93 (by decide)) (fun h => ?_) (fun h => ?_)
        · refine lv_aload_n hx hb dX10_years_103 rfl (lv_at hl 0 rfl) ?_
          refine r_gI C hW h fl_X10_323 (by decide) dX10_years_104 (fun v3 h => ?_)
          obtain ⟨v5, h4, h⟩ := bnd_inv h
          refine r_cI hW (run_S (rest := []) C hW (t_X10_bits h4) mk_X10_bits sk_X10_240 ⟨Nat.le_of_ble_eq_true rfl, Nat.le_of_ble_eq_true rfl⟩ ⟨Nat.zero_le _, Nat.zero_le _⟩ rfl rfl (Nat.le_of_ble_eq_true rfl) hl.1 dX10_years_107) (fun H locs hW _ => ?_)
          exact r_iret C hW (Option.some.inj h).symm rfl dX10_years_110
        · refine lv_aload_n hx hb dX10_years_96 rfl (lv_at hl 0 rfl) ?_
          refine r_gI C hW h fl_X10_282 (by decide) dX10_years_97 (fun v6 h => ?_)
          refine lv_goto (tgt := 110) hx hb dX10_years_100 (by decide) ?_
          exact r_iret C hW (Option.some.inj h).symm rfl dX10_years_110
      · refine lv_iload hx hb dX10_years_86 (lv_at hl 3 rfl) ?_
        refine lv_goto (tgt := 110) hx hb dX10_years_88 (by decide) ?_
        exact r_iret C hW (Option.some.inj h).symm rfl dX10_years_110
    · refine lv_iload hx hb dX10_years_52 (lv_at hl 3 rfl) ?_
      refine lv_aload_n hx hb dX10_years_54 rfl (lv_at hl 0 rfl) ?_
      obtain ⟨v9, X8, h7, h⟩ := bnd2_inv h
      refine r_cI hW (run_V (rest := [.int x4]) C hW (t_X10_happens h7) mk_X10_happens vk_X10_431 (kd_X10_happens h7) rfl rfl (by decide) ⟨Nat.le_of_ble_eq_true rfl, Nat.le_of_ble_eq_true rfl⟩ ⟨Nat.zero_le _, Nat.zero_le _⟩ rfl rfl (Nat.le_of_ble_eq_true rfl) hl.1 dX10_years_55) (fun H locs hW _ => ?_)
      refine r_br h (lv_if_eq (tgt := 65) hx hb dX10_years_58 (by decide)) (fun h => ?_) (fun h => ?_)
      · refine lv_iconst (v := 0) hx hb dX10_years_65 (by decide) ?_
        exact b_X10_years_66 C (fun hW hl h => ih hW hl h) hW (lv_sub hl [0, 1, 2, 4] rfl) h
      · refine lv_iconst (v := 1) hx hb dX10_years_61 (by decide) ?_
        refine lv_goto (tgt := 66) hx hb dX10_years_62 (by decide) ?_
        exact b_X10_years_66 C (fun hW hl h => ih hW hl h) hW (lv_sub hl [0, 1, 2, 4] rfl) h
theorem kd_X10_years {X : Mx} {r : (Int32 × Mx)} {a : Nat} {x1 : Int32} {x2 : Int32} {x3 : Int32} (h : f_X10_years σ X a x1 x2 x3 = some r) : shK σ a = 8 := (grd_inv h).1
set_option maxRecDepth 20000 in
set_option maxHeartbeats 2000000 in
theorem t_X10_years {X : Mx} {r : (Int32 × Mx)} {a : Nat} {x1 : Int32} {x2 : Int32} {x3 : Int32} (h : f_X10_years σ X a x1 x2 x3 = some r) : MtI g l yX10_years cX10_years 6 (some .int) 7 169 [.ref a, .int x1, .int x2, .int x3] σ X r := by
  refine met_of mk_X10_years (Nat.le_of_ble_eq_true rfl) (fun p e s m args below meth c ls C hW hl => ?_)
  have hx := C.x
  have hb := C.b
  have hl : lv_has ls 6 [(0, .ref a), (1, .int x1), (2, .int x2), (3, .int x3)] := hl
  unfold f_X10_years at h
  obtain ⟨hk0, h⟩ := grd_inv h
  refine lv_aload_n hx hb dX10_years_0 rfl (lv_at hl 0 rfl) ?_
  refine lv_iconst (v := 0) hx hb dX10_years_1 (by decide) ?_
  refine r_pI C hW h pf_X10_65 (by decide) rfl rfl dX10_years_2 (fun X1 H locs h hW _ => ?_)
  refine lv_aload_n hx hb dX10_years_5 rfl (lv_at hl 0 rfl) ?_
  refine lv_iload_n hx hb dX10_years_6 rfl (lv_at hl 3 rfl) ?_
  refine lv_iconst (v := 2) hx hb dX10_years_7 (by decide) ?_
  obtain ⟨v4, X3, h2, h⟩ := bnd2_inv h
  refine r_cI hW (run_V (rest := []) C hW (t_X10_isWhat h2) mk_X10_isWhat vk_X10_375 (kd_X10_isWhat h2) rfl rfl (by decide) ⟨Nat.le_of_ble_eq_true rfl, Nat.le_of_ble_eq_true rfl⟩ ⟨Nat.zero_le _, Nat.zero_le _⟩ rfl rfl (Nat.le_of_ble_eq_true rfl) hl.1 dX10_years_8) (fun H locs hW _ => ?_)
  refine r_br h (lv_if_eq (tgt := 29) hx hb dX10_years_11 (by decide)) (fun h => ?_) (fun h => ?_)
  · refine lv_iconst (v := 0) hx hb dX10_years_29 (by decide) ?_
    exact r_iret C hW (Option.some.inj h).symm rfl dX10_years_30
  · refine lv_aload_n hx hb dX10_years_14 rfl (lv_at hl 0 rfl) ?_
    refine lv_iload_n hx hb dX10_years_15 rfl (lv_at hl 2 rfl) ?_
    refine lv_iconst (v := 0) hx hb dX10_years_16 (by decide) ?_
    refine lv_bipush (v := 60) hx hb dX10_years_17 (by decide) ?_
    refine r_cI hW (run_S (rest := [.ref a]) C hW (t_X10_within (X := X3)) mk_X10_within sk_X10_231 ⟨Nat.le_of_ble_eq_true rfl, Nat.le_of_ble_eq_true rfl⟩ ⟨Nat.zero_le _, Nat.zero_le _⟩ rfl rfl (Nat.le_of_ble_eq_true rfl) hl.1 dX10_years_19) (fun H locs hW _ => ?_)
    refine lv_iconst (v := 2) hx hb dX10_years_22 (by decide) ?_
    obtain ⟨v7, X6, h5, h⟩ := bnd2_inv h
    refine r_cI hW (run_V (rest := []) C hW (t_X10_right h5) mk_X10_right vk_X10_214 (kd_X10_right h5) rfl rfl (by decide) ⟨Nat.le_of_ble_eq_true rfl, Nat.le_of_ble_eq_true rfl⟩ ⟨Nat.zero_le _, Nat.zero_le _⟩ rfl rfl (Nat.le_of_ble_eq_true rfl) hl.1 dX10_years_23) (fun H locs hW _ => ?_)
    refine r_brn h (lv_if_ne (tgt := 31) hx hb dX10_years_26 (by decide)) (fun h => ?_) (fun h => ?_)
    · refine lv_aload_n hx hb dX10_years_31 rfl (lv_at hl 0 rfl) ?_
      obtain ⟨X9, h8, h⟩ := bnd_inv h
      refine r_cV hW (run_V (rest := []) C hW (t_X10_tries h8) mk_X10_tries vk_X10_267 (kd_X10_tries h8) rfl rfl (by decide) ⟨Nat.le_of_ble_eq_true rfl, Nat.le_of_ble_eq_true rfl⟩ ⟨Nat.zero_le _, Nat.zero_le _⟩ rfl rfl (Nat.le_of_ble_eq_true rfl) hl.1 dX10_years_32) (fun H locs hW _ => ?_)
      refine lv_aload_n hx hb dX10_years_35 rfl (lv_at hl 0 rfl) ?_
      refine lv_iload_n hx hb dX10_years_36 rfl (lv_at hl 1 rfl) ?_
      refine r_pI C hW h pf_X10_424 (by decide) rfl rfl dX10_years_37 (fun X10 H locs h hW _ => ?_)
      refine lv_iconst (v := 0) hx hb dX10_years_40 (by decide) ?_
      refine lv_istore (lv' := [(4, .int 0), (0, .ref a), (1, .int x1), (2, .int x2), (3, .int x3)]) hx hb dX10_years_41 hl (by decide) rfl (fun ls hl => ?_)
      refine lv_iconst (v := 0) hx hb dX10_years_43 (by decide) ?_
      refine lv_istore (lv' := [(5, .int 0), (4, .int 0), (0, .ref a), (1, .int x1), (2, .int x2), (3, .int x3)]) hx hb dX10_years_44 hl (by decide) rfl (fun ls hl => ?_)
      exact b_X10_years_46 C FU hW (lv_sub hl [2, 4, 5, 1, 0] rfl) h
    · refine lv_iconst (v := 0) hx hb dX10_years_29 (by decide) ?_
      exact r_iret C hW (Option.some.inj h).symm rfl dX10_years_30
set_option maxRecDepth 20000 in
set_option maxHeartbeats 2000000 in
theorem b_X10_copies_2 {a1 : Nat} {a2 : Nat} (C : Cx g RX10 cX10_copies 4 none p s m args meth c) {r : Mx} : ∀ (n : Nat) {X : Mx} {x3 : Int32} {H : Heap} {locs : List Loc} {ls : Array Slot} (hW : Wd g σ X s H locs) (hl : lv_has ls 4 [(1, .ref a1), (2, .ref a2), (3, .int x3)]) (h : f_X10_copies_2 σ a1 a2 n X x3 = some r), W p l e (rmZ 0 0) s m args below meth c H locs 0 0 (QV g σ below args s r) (F0 m 2 ls []) := by
  have hx := C.x
  have hb := C.b
  intro n
  induction n with
  | zero =>
    intro X x3 H locs ls hW hl h
    cases (show none = some r from h)
  | succ n ih =>
    intro X x3 H locs ls hW hl h
    rw [f_X10_copies_2] at h
    refine lv_iload_n hx hb dX10_copies_2 rfl (lv_at hl 2 rfl) ?_
    refine lv_aload_n hx hb dX10_copies_3 rfl (lv_at hl 0 rfl) ?_
    refine r_alenI C hW h dX10_copies_4 (fun v1 h => ?_)
    refine r_br h (lv_icmp_ge (tgt := 20) hx hb dX10_copies_5 (by decide)) (fun h => ?_) (fun h => ?_)
    · exact r_vret C hW (Option.some.inj h).symm dX10_copies_20
    · refine lv_aload_n hx hb dX10_copies_8 rfl (lv_at hl 1 rfl) ?_
      refine lv_iload_n hx hb dX10_copies_9 rfl (lv_at hl 2 rfl) ?_
      refine lv_aload_n hx hb dX10_copies_10 rfl (lv_at hl 0 rfl) ?_
      refine lv_iload_n hx hb dX10_copies_11 rfl (lv_at hl 2 rfl) ?_
      refine r_iald C hW h dX10_copies_12 (fun v2 h => ?_)
      refine r_iast C hW h dX10_copies_13 (fun X3 H locs h hW _ => ?_)
      refine lv_iinc (v := (x3 + 1)) (lv' := [(3, .int (x3 + 1)), (1, .ref a1), (2, .ref a2)]) hx hb dX10_copies_14 hl (k := 2) rfl rfl (by decide) rfl (fun ls hl => ?_)
      refine lv_goto (tgt := 2) hx hb dX10_copies_17 (by decide) ?_
      exact ih hW (lv_sub hl [1, 2, 0] rfl) h
theorem kd_X10_copies {X : Mx} {r : Mx} {a : Nat} {a1 : Nat} {a2 : Nat} (h : f_X10_copies σ X a a1 a2 = some r) : shK σ a = 8 := (grd_inv h).1
set_option maxRecDepth 20000 in
set_option maxHeartbeats 2000000 in
theorem t_X10_copies {X : Mx} {r : Mx} {a : Nat} {a1 : Nat} {a2 : Nat} (h : f_X10_copies σ X a a1 a2 = some r) : MtV g l yX10_copies cX10_copies 4 none 0 0 [.ref a, .ref a1, .ref a2] σ X r := by
  refine met_of mk_X10_copies (Nat.le_of_ble_eq_true rfl) (fun p e s m args below meth c ls C hW hl => ?_)
  have hx := C.x
  have hb := C.b
  have hl : lv_has ls 4 [(0, .ref a), (1, .ref a1), (2, .ref a2)] := hl
  unfold f_X10_copies at h
  obtain ⟨hk0, h⟩ := grd_inv h
  refine lv_iconst (v := 0) hx hb dX10_copies_0 (by decide) ?_
  refine lv_istore_n (lv' := [(3, .int 0), (0, .ref a), (1, .ref a1), (2, .ref a2)]) hx hb dX10_copies_1 rfl hl (by decide) rfl (fun ls hl => ?_)
  exact b_X10_copies_2 C FU hW (lv_sub hl [2, 3, 0] rfl) h
set_option maxRecDepth 20000 in
set_option maxHeartbeats 2000000 in
theorem b_X10_image_28 {a : Nat} (C : Cx g RX10 cX10_image 2 none p s m args meth c) {r : Mx} : ∀ (n : Nat) {X : Mx} {x1 : Int32} {H : Heap} {locs : List Loc} {ls : Array Slot} (hW : Wd g σ X s H locs) (hl : lv_has ls 2 [(0, .ref a), (1, .int x1)]) (h : f_X10_image_28 σ a n X x1 = some r), W p l e (rmZ 1 23) s m args below meth c H locs 0 0 (QV g σ below args s r) (F0 m 28 ls []) := by
  have hx := C.x
  have hb := C.b
  intro n
  induction n with
  | zero =>
    intro X x1 H locs ls hW hl h
    cases (show none = some r from h)
  | succ n ih =>
    intro X x1 H locs ls hW hl h
    rw [f_X10_image_28] at h
    refine lv_iload_n hx hb dX10_image_28 rfl (lv_at hl 1 rfl) ?_
    refine lv_sipush (v := 931) hx hb dX10_image_29 (by decide) ?_
    refine r_br h (lv_icmp_ge (tgt := 53) hx hb dX10_image_32 (by decide)) (fun h => ?_) (fun h => ?_)
    · refine lv_aload_n hx hb dX10_image_53 rfl (lv_at hl 0 rfl) ?_
      refine lv_aload_n hx hb dX10_image_54 rfl (lv_at hl 0 rfl) ?_
      refine r_gR C hW h fl_X10_23 (by decide) dX10_image_55 (fun b1 h => ?_)
      refine lv_aload_n hx hb dX10_image_58 rfl (lv_at hl 0 rfl) ?_
      refine r_gR C hW h fl_X10_59 (by decide) dX10_image_59 (fun b2 h => ?_)
      obtain ⟨X4, h3, h⟩ := bnd_inv h
      refine r_cV hW (run_V (rest := []) C hW (t_X10_copies h3) mk_X10_copies vk_X10_440 (kd_X10_copies h3) rfl rfl (by decide) ⟨Nat.le_of_ble_eq_true rfl, Nat.le_of_ble_eq_true rfl⟩ ⟨Nat.zero_le _, Nat.zero_le _⟩ rfl rfl (Nat.le_of_ble_eq_true rfl) hl.1 dX10_image_62) (fun H locs hW _ => ?_)
      refine lv_aload_n hx hb dX10_image_65 rfl (lv_at hl 0 rfl) ?_
      refine lv_aload_n hx hb dX10_image_66 rfl (lv_at hl 0 rfl) ?_
      refine r_gR C hW h fl_X10_53 (by decide) dX10_image_67 (fun b5 h => ?_)
      refine lv_aload_n hx hb dX10_image_70 rfl (lv_at hl 0 rfl) ?_
      refine r_gR C hW h fl_X10_62 (by decide) dX10_image_71 (fun b6 h => ?_)
      obtain ⟨X8, h7, h⟩ := bnd_inv h
      refine r_cV hW (run_V (rest := []) C hW (t_X10_copies h7) mk_X10_copies vk_X10_440 (kd_X10_copies h7) rfl rfl (by decide) ⟨Nat.le_of_ble_eq_true rfl, Nat.le_of_ble_eq_true rfl⟩ ⟨Nat.zero_le _, Nat.zero_le _⟩ rfl rfl (Nat.le_of_ble_eq_true rfl) hl.1 dX10_image_74) (fun H locs hW _ => ?_)
      exact r_vret C hW (Option.some.inj h).symm dX10_image_77
    · refine lv_aload_n hx hb dX10_image_35 rfl (lv_at hl 0 rfl) ?_
      refine r_gR C hW h fl_X10_56 (by decide) dX10_image_36 (fun b9 h => ?_)
      refine lv_iload_n hx hb dX10_image_39 rfl (lv_at hl 1 rfl) ?_
      refine lv_aload_n hx hb dX10_image_40 rfl (lv_at hl 0 rfl) ?_
      refine r_gR C hW h fl_X10_20 (by decide) dX10_image_41 (fun b10 h => ?_)
      refine lv_iload_n hx hb dX10_image_44 rfl (lv_at hl 1 rfl) ?_
      refine r_iald C hW h dX10_image_45 (fun v11 h => ?_)
      refine r_iast C hW h dX10_image_46 (fun X12 H locs h hW _ => ?_)
      refine lv_iinc (v := (x1 + 1)) (lv' := [(1, .int (x1 + 1)), (0, .ref a)]) hx hb dX10_image_47 hl (k := 1) rfl rfl (by decide) rfl (fun ls hl => ?_)
      refine lv_goto (tgt := 28) hx hb dX10_image_50 (by decide) ?_
      exact ih hW (lv_sub hl [1, 0] rfl) h
theorem kd_X10_image {X : Mx} {r : Mx} {a : Nat} (h : f_X10_image σ X a = some r) : shK σ a = 8 := (grd_inv h).1
set_option maxRecDepth 20000 in
set_option maxHeartbeats 2000000 in
theorem t_X10_image {X : Mx} {r : Mx} {a : Nat} (h : f_X10_image σ X a = some r) : MtV g l yX10_image cX10_image 2 none 1 23 [.ref a] σ X r := by
  refine met_of mk_X10_image (Nat.le_of_ble_eq_true rfl) (fun p e s m args below meth c ls C hW hl => ?_)
  have hx := C.x
  have hb := C.b
  have hl : lv_has ls 2 [(0, .ref a)] := hl
  unfold f_X10_image at h
  obtain ⟨hk0, h⟩ := grd_inv h
  refine lv_aload_n hx hb dX10_image_0 rfl (lv_at hl 0 rfl) ?_
  refine lv_iconst (v := 0) hx hb dX10_image_1 (by decide) ?_
  refine r_pI C hW h pf_X10_65 (by decide) rfl rfl dX10_image_2 (fun X1 H locs h hW _ => ?_)
  refine lv_aload_n hx hb dX10_image_5 rfl (lv_at hl 0 rfl) ?_
  refine lv_iconst (v := 1) hx hb dX10_image_6 (by decide) ?_
  refine r_pI C hW h pf_X10_227 (by decide) rfl rfl dX10_image_7 (fun X2 H locs h hW _ => ?_)
  refine lv_aload_n hx hb dX10_image_10 rfl (lv_at hl 0 rfl) ?_
  refine lv_aload_n hx hb dX10_image_11 rfl (lv_at hl 0 rfl) ?_
  refine r_gI C hW h fl_X10_221 (by decide) dX10_image_12 (fun v3 h => ?_)
  refine r_pI C hW h pf_X10_434 (by decide) rfl rfl dX10_image_15 (fun X4 H locs h hW _ => ?_)
  refine lv_aload_n hx hb dX10_image_18 rfl (lv_at hl 0 rfl) ?_
  refine lv_aload_n hx hb dX10_image_19 rfl (lv_at hl 0 rfl) ?_
  refine r_gI C hW h fl_X10_224 (by decide) dX10_image_20 (fun v5 h => ?_)
  refine r_pI C hW h pf_X10_437 (by decide) rfl rfl dX10_image_23 (fun X6 H locs h hW _ => ?_)
  refine lv_iconst (v := 0) hx hb dX10_image_26 (by decide) ?_
  refine lv_istore_n (lv' := [(1, .int 0), (0, .ref a)]) hx hb dX10_image_27 rfl hl (by decide) rfl (fun ls hl => ?_)
  exact b_X10_image_28 C FU hW (lv_sub hl [1, 0] rfl) h
set_option maxRecDepth 20000 in
set_option maxHeartbeats 2000000 in
theorem b_X10_restore_32 {a : Nat} (C : Cx g RX10 cX10_restore 2 (some .boolean) p s m args meth c) {r : (Int32 × Mx)} : ∀ (n : Nat) {X : Mx} {x1 : Int32} {H : Heap} {locs : List Loc} {ls : Array Slot} (hW : Wd g σ X s H locs) (hl : lv_has ls 2 [(0, .ref a), (1, .int x1)]) (h : f_X10_restore_32 σ a n X x1 = some r), W p l e (rmZ 1 23) s m args below meth c H locs 0 0 (QI g σ below args s r) (F0 m 32 ls []) := by
  have hx := C.x
  have hb := C.b
  intro n
  induction n with
  | zero =>
    intro X x1 H locs ls hW hl h
    cases (show none = some r from h)
  | succ n ih =>
    intro X x1 H locs ls hW hl h
    rw [f_X10_restore_32] at h
    refine lv_iload_n hx hb dX10_restore_32 rfl (lv_at hl 1 rfl) ?_
    refine lv_sipush (v := 931) hx hb dX10_restore_33 (by decide) ?_
    refine r_br h (lv_icmp_ge (tgt := 57) hx hb dX10_restore_36 (by decide)) (fun h => ?_) (fun h => ?_)
    · refine lv_aload_n hx hb dX10_restore_57 rfl (lv_at hl 0 rfl) ?_
      refine lv_aload_n hx hb dX10_restore_58 rfl (lv_at hl 0 rfl) ?_
      refine r_gR C hW h fl_X10_59 (by decide) dX10_restore_59 (fun b1 h => ?_)
      refine lv_aload_n hx hb dX10_restore_62 rfl (lv_at hl 0 rfl) ?_
      refine r_gR C hW h fl_X10_23 (by decide) dX10_restore_63 (fun b2 h => ?_)
      obtain ⟨X4, h3, h⟩ := bnd_inv h
      refine r_cV hW (run_V (rest := []) C hW (t_X10_copies h3) mk_X10_copies vk_X10_440 (kd_X10_copies h3) rfl rfl (by decide) ⟨Nat.le_of_ble_eq_true rfl, Nat.le_of_ble_eq_true rfl⟩ ⟨Nat.zero_le _, Nat.zero_le _⟩ rfl rfl (Nat.le_of_ble_eq_true rfl) hl.1 dX10_restore_66) (fun H locs hW _ => ?_)
      refine lv_aload_n hx hb dX10_restore_69 rfl (lv_at hl 0 rfl) ?_
      refine lv_aload_n hx hb dX10_restore_70 rfl (lv_at hl 0 rfl) ?_
      refine r_gR C hW h fl_X10_62 (by decide) dX10_restore_71 (fun b5 h => ?_)
      refine lv_aload_n hx hb dX10_restore_74 rfl (lv_at hl 0 rfl) ?_
      refine r_gR C hW h fl_X10_53 (by decide) dX10_restore_75 (fun b6 h => ?_)
      obtain ⟨X8, h7, h⟩ := bnd_inv h
      refine r_cV hW (run_V (rest := []) C hW (t_X10_copies h7) mk_X10_copies vk_X10_440 (kd_X10_copies h7) rfl rfl (by decide) ⟨Nat.le_of_ble_eq_true rfl, Nat.le_of_ble_eq_true rfl⟩ ⟨Nat.zero_le _, Nat.zero_le _⟩ rfl rfl (Nat.le_of_ble_eq_true rfl) hl.1 dX10_restore_78) (fun H locs hW _ => ?_)
      refine lv_iconst (v := 1) hx hb dX10_restore_81 (by decide) ?_
      exact r_iret C hW (Option.some.inj h).symm rfl dX10_restore_82
    · refine lv_aload_n hx hb dX10_restore_39 rfl (lv_at hl 0 rfl) ?_
      refine r_gR C hW h fl_X10_20 (by decide) dX10_restore_40 (fun b9 h => ?_)
      refine lv_iload_n hx hb dX10_restore_43 rfl (lv_at hl 1 rfl) ?_
      refine lv_aload_n hx hb dX10_restore_44 rfl (lv_at hl 0 rfl) ?_
      refine r_gR C hW h fl_X10_56 (by decide) dX10_restore_45 (fun b10 h => ?_)
      refine lv_iload_n hx hb dX10_restore_48 rfl (lv_at hl 1 rfl) ?_
      refine r_iald C hW h dX10_restore_49 (fun v11 h => ?_)
      refine r_iast C hW h dX10_restore_50 (fun X12 H locs h hW _ => ?_)
      refine lv_iinc (v := (x1 + 1)) (lv' := [(1, .int (x1 + 1)), (0, .ref a)]) hx hb dX10_restore_51 hl (k := 1) rfl rfl (by decide) rfl (fun ls hl => ?_)
      refine lv_goto (tgt := 32) hx hb dX10_restore_54 (by decide) ?_
      exact ih hW (lv_sub hl [1, 0] rfl) h
theorem kd_X10_restore {X : Mx} {r : (Int32 × Mx)} {a : Nat} (h : f_X10_restore σ X a = some r) : shK σ a = 8 := (grd_inv h).1
set_option maxRecDepth 20000 in
set_option maxHeartbeats 2000000 in
theorem t_X10_restore {X : Mx} {r : (Int32 × Mx)} {a : Nat} (h : f_X10_restore σ X a = some r) : MtI g l yX10_restore cX10_restore 2 (some .boolean) 1 23 [.ref a] σ X r := by
  refine met_of mk_X10_restore (Nat.le_of_ble_eq_true rfl) (fun p e s m args below meth c ls C hW hl => ?_)
  have hx := C.x
  have hb := C.b
  have hl : lv_has ls 2 [(0, .ref a)] := hl
  unfold f_X10_restore at h
  obtain ⟨hk0, h⟩ := grd_inv h
  refine lv_aload_n hx hb dX10_restore_0 rfl (lv_at hl 0 rfl) ?_
  refine lv_iconst (v := 0) hx hb dX10_restore_1 (by decide) ?_
  refine r_pI C hW h pf_X10_65 (by decide) rfl rfl dX10_restore_2 (fun X1 H locs h hW _ => ?_)
  refine lv_aload_n hx hb dX10_restore_5 rfl (lv_at hl 0 rfl) ?_
  refine r_gI C hW h fl_X10_227 (by decide) dX10_restore_6 (fun v2 h => ?_)
  refine r_brn h (lv_if_ne (tgt := 14) hx hb dX10_restore_9 (by decide)) (fun h => ?_) (fun h => ?_)
  · refine lv_aload_n hx hb dX10_restore_14 rfl (lv_at hl 0 rfl) ?_
    refine lv_aload_n hx hb dX10_restore_15 rfl (lv_at hl 0 rfl) ?_
    refine r_gI C hW h fl_X10_434 (by decide) dX10_restore_16 (fun v3 h => ?_)
    refine r_pI C hW h pf_X10_221 (by decide) rfl rfl dX10_restore_19 (fun X4 H locs h hW _ => ?_)
    refine lv_aload_n hx hb dX10_restore_22 rfl (lv_at hl 0 rfl) ?_
    refine lv_aload_n hx hb dX10_restore_23 rfl (lv_at hl 0 rfl) ?_
    refine r_gI C hW h fl_X10_437 (by decide) dX10_restore_24 (fun v5 h => ?_)
    refine r_pI C hW h pf_X10_224 (by decide) rfl rfl dX10_restore_27 (fun X6 H locs h hW _ => ?_)
    refine lv_iconst (v := 0) hx hb dX10_restore_30 (by decide) ?_
    refine lv_istore_n (lv' := [(1, .int 0), (0, .ref a)]) hx hb dX10_restore_31 rfl hl (by decide) rfl (fun ls hl => ?_)
    exact b_X10_restore_32 C FU hW (lv_sub hl [1, 0] rfl) h
  · refine lv_iconst (v := 0) hx hb dX10_restore_12 (by decide) ?_
    exact r_iret C hW (Option.some.inj h).symm rfl dX10_restore_13
end
