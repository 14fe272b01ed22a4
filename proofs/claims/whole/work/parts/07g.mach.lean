section
variable {p : Program} {l : Launch} {e : Env} {s : State} {m : MethodId} {args : Array Value} {below : List Frame} {meth : Method} {c : Code} {H : Heap} {locs : List Loc} {g : Gp} {σ : Sh} {ls : Array Slot}
theorem kd_X10_undo {X : Mx} {r : (Int32 × Mx)} {a : Nat} (h : f_X10_undo σ X a = some r) : shK σ a = 8 := (grd_inv h).1
set_option maxRecDepth 20000 in
set_option maxHeartbeats 2000000 in
theorem t_X10_undo {X : Mx} {r : (Int32 × Mx)} {a : Nat} (h : f_X10_undo σ X a = some r) : MtI g l yX10_undo cX10_undo 2 (some .int) 0 0 [.ref a] σ X r := by
  refine met_of mk_X10_undo (Nat.le_of_ble_eq_true rfl) (fun p e s m args below meth c ls C hW hl => ?_)
  have hx := C.x
  have hb := C.b
  have hl : lv_has ls 2 [(0, .ref a)] := hl
  unfold f_X10_undo at h
  obtain ⟨hk0, h⟩ := grd_inv h
  refine lv_aload_n hx hb dX10_undo_0 rfl (lv_at hl 0 rfl) ?_
  refine lv_iconst (v := 0) hx hb dX10_undo_1 (by decide) ?_
  refine r_pI C hW h pf_X10_65 (by decide) rfl rfl dX10_undo_2 (fun X1 H locs h hW _ => ?_)
  refine lv_aload_n hx hb dX10_undo_5 rfl (lv_at hl 0 rfl) ?_
  refine r_gI C hW h fl_X10_221 (by decide) dX10_undo_6 (fun v2 h => ?_)
  refine r_brn h (lv_if_ne (tgt := 14) hx hb dX10_undo_9 (by decide)) (fun h => ?_) (fun h => ?_)
  · refine lv_aload_n hx hb dX10_undo_14 rfl (lv_at hl 0 rfl) ?_
    refine lv_dup hx hb dX10_undo_15 rfl ?_
    refine r_gI C hW h fl_X10_221 (by decide) dX10_undo_16 (fun v3 h => ?_)
    refine lv_iconst (v := 1) hx hb dX10_undo_19 (by decide) ?_
    refine lv_isub hx hb dX10_undo_20 ?_
    refine r_pI C hW h pf_X10_221 (by decide) rfl rfl dX10_undo_21 (fun X4 H locs h hW _ => ?_)
    refine lv_iconst (v := 0) hx hb dX10_undo_24 (by decide) ?_
    refine lv_istore_n (lv' := [(1, .int 0), (0, .ref a)]) hx hb dX10_undo_25 rfl hl (by decide) rfl (fun ls hl => ?_)
    exact b_X10_undo_26 C FU hW (lv_sub hl [1, 0] rfl) h
  · refine lv_iconst (v := (-1)) hx hb dX10_undo_12 (by decide) ?_
    exact r_iret C hW (Option.some.inj h).symm rfl dX10_undo_13
set_option maxRecDepth 20000 in
set_option maxHeartbeats 2000000 in
theorem b_X10_tries_2 {a : Nat} (C : Cx g RX10 cX10_tries 2 none p s m args meth c) {r : Mx} : ∀ (n : Nat) {X : Mx} {x1 : Int32} {H : Heap} {locs : List Loc} {ls : Array Slot} (hW : Wd g σ X s H locs) (hl : lv_has ls 2 [(0, .ref a), (1, .int x1)]) (h : f_X10_tries_2 σ a n X x1 = some r), W p l e (rmZ 0 0) s m args below meth c H locs 0 0 (QV g σ below args s r) (F0 m 2 ls []) := by
  have hx := C.x
  have hb := C.b
  intro n
  induction n with
  | zero =>
    intro X x1 H locs ls hW hl h
    cases (show none = some r from h)
  | succ n ih =>
    intro X x1 H locs ls hW hl h
    rw [f_X10_tries_2] at h
    refine lv_iload_n hx hb dX10_tries_2 rfl (lv_at hl 1 rfl) ?_
    refine lv_sipush (v := 931) hx hb dX10_tries_3 (by decide) ?_
    refine r_br h (lv_icmp_ge (tgt := 31) hx hb dX10_tries_6 (by decide)) (fun h => ?_) (fun h => ?_)
    · exact r_vret C hW (Option.some.inj h).symm dX10_tries_31
    · refine lv_aload_n hx hb dX10_tries_9 rfl (lv_at hl 0 rfl) ?_
      refine r_gR C hW h fl_X10_20 (by decide) dX10_tries_10 (fun b1 h => ?_)
      refine lv_sipush (v := 931) hx hb dX10_tries_13 (by decide) ?_
      refine lv_iload_n hx hb dX10_tries_16 rfl (lv_at hl 1 rfl) ?_
      refine lv_iadd hx hb dX10_tries_17 ?_
      refine lv_aload_n hx hb dX10_tries_18 rfl (lv_at hl 0 rfl) ?_
      refine r_gR C hW h fl_X10_20 (by decide) dX10_tries_19 (fun b2 h => ?_)
      refine lv_iload_n hx hb dX10_tries_22 rfl (lv_at hl 1 rfl) ?_
      refine r_iald C hW h dX10_tries_23 (fun v3 h => ?_)
      refine r_iast C hW h dX10_tries_24 (fun X4 H locs h hW _ => ?_)
      refine lv_iinc (v := (x1 + 1)) (lv' := [(1, .int (x1 + 1)), (0, .ref a)]) hx hb dX10_tries_25 hl (k := 1) rfl rfl (by decide) rfl (fun ls hl => ?_)
      refine lv_goto (tgt := 2) hx hb dX10_tries_28 (by decide) ?_
      exact ih hW (lv_sub hl [1, 0] rfl) h
theorem kd_X10_tries {X : Mx} {r : Mx} {a : Nat} (h : f_X10_tries σ X a = some r) : shK σ a = 8 := (grd_inv h).1
set_option maxRecDepth 20000 in
set_option maxHeartbeats 2000000 in
theorem t_X10_tries {X : Mx} {r : Mx} {a : Nat} (h : f_X10_tries σ X a = some r) : MtV g l yX10_tries cX10_tries 2 none 0 0 [.ref a] σ X r := by
  refine met_of mk_X10_tries (Nat.le_of_ble_eq_true rfl) (fun p e s m args below meth c ls C hW hl => ?_)
  have hx := C.x
  have hb := C.b
  have hl : lv_has ls 2 [(0, .ref a)] := hl
  unfold f_X10_tries at h
  obtain ⟨hk0, h⟩ := grd_inv h
  refine lv_iconst (v := 0) hx hb dX10_tries_0 (by decide) ?_
  refine lv_istore_n (lv' := [(1, .int 0), (0, .ref a)]) hx hb dX10_tries_1 rfl hl (by decide) rfl (fun ls hl => ?_)
  exact b_X10_tries_2 C FU hW (lv_sub hl [1, 0] rfl) h
set_option maxRecDepth 20000 in
set_option maxHeartbeats 2000000 in
theorem b_X10_edited0_58 {a : Nat} (C : Cx g RX10 cX10_edited0 7 (some .boolean) p s m args meth c) {r : (Int32 × Mx)} : ∀ (n : Nat) {X : Mx} {x6 : Int32} {H : Heap} {locs : List Loc} {ls : Array Slot} (hW : Wd g σ X s H locs) (hl : lv_has ls 7 [(0, .ref a), (6, .int x6)]) (h : f_X10_edited0_58 σ a n X x6 = some r), W p l e (rmZ 5 121) s m args below meth c H locs 0 0 (QI g σ below args s r) (F0 m 58 ls []) := by
  have hx := C.x
  have hb := C.b
  intro n
  induction n with
  | zero =>
    intro X x6 H locs ls hW hl h
    cases (show none = some r from h)
  | succ n ih =>
    intro X x6 H locs ls hW hl h
    rw [f_X10_edited0_58] at h
    refine lv_iload hx hb dX10_edited0_58 (lv_at hl 1 rfl) ?_
    refine lv_sipush (v := 931) hx hb dX10_edited0_60 (by decide) ?_
    refine r_br h (lv_icmp_ge (tgt := 90) hx hb dX10_edited0_63 (by decide)) (fun h => ?_) (fun h => ?_)
    · refine lv_iconst (v := 1) hx hb dX10_edited0_90 (by decide) ?_
      exact r_iret C hW (Option.some.inj h).symm rfl dX10_edited0_91
    · refine lv_aload_n hx hb dX10_edited0_66 rfl (lv_at hl 0 rfl) ?_
      refine r_gR C hW h fl_X10_20 (by decide) dX10_edited0_67 (fun b1 h => ?_)
      refine lv_iload hx hb dX10_edited0_70 (lv_at hl 1 rfl) ?_
      refine lv_aload_n hx hb dX10_edited0_72 rfl (lv_at hl 0 rfl) ?_
      refine r_gR C hW h fl_X10_20 (by decide) dX10_edited0_73 (fun b2 h => ?_)
      refine lv_sipush (v := 931) hx hb dX10_edited0_76 (by decide) ?_
      refine lv_iload hx hb dX10_edited0_79 (lv_at hl 1 rfl) ?_
      refine lv_iadd hx hb dX10_edited0_81 ?_
      refine r_iald C hW h dX10_edited0_82 (fun v3 h => ?_)
      refine r_iast C hW h dX10_edited0_83 (fun X4 H locs h hW _ => ?_)
      refine lv_iinc (v := (x6 + 1)) (lv' := [(6, .int (x6 + 1)), (0, .ref a)]) hx hb dX10_edited0_84 hl (k := 1) rfl rfl (by decide) rfl (fun ls hl => ?_)
      refine lv_goto (tgt := 58) hx hb dX10_edited0_87 (by decide) ?_
      exact ih hW (lv_sub hl [1, 0] rfl) h
theorem kd_X10_edited0 {X : Mx} {r : (Int32 × Mx)} {a : Nat} {x1 : Int32} {x2 : Int32} {x3 : Int32} {x4 : Int32} {x5 : Int32} (h : f_X10_edited0 σ X a x1 x2 x3 x4 x5 = some r) : shK σ a = 8 := (grd_inv h).1
set_option maxRecDepth 20000 in
set_option maxHeartbeats 2000000 in
theorem t_X10_edited0 {X : Mx} {r : (Int32 × Mx)} {a : Nat} {x1 : Int32} {x2 : Int32} {x3 : Int32} {x4 : Int32} {x5 : Int32} (h : f_X10_edited0 σ X a x1 x2 x3 x4 x5 = some r) : MtI g l yX10_edited0 cX10_edited0 7 (some .boolean) 5 121 [.ref a, .int x1, .int x2, .int x3, .int x4, .int x5] σ X r := by
  refine met_of mk_X10_edited0 (Nat.le_of_ble_eq_true rfl) (fun p e s m args below meth c ls C hW hl => ?_)
  have hx := C.x
  have hb := C.b
  have hl : lv_has ls 7 [(0, .ref a), (1, .int x1), (2, .int x2), (3, .int x3), (4, .int x4), (5, .int x5)] := hl
  unfold f_X10_edited0 at h
  obtain ⟨hk0, h⟩ := grd_inv h
  refine lv_aload_n hx hb dX10_edited0_0 rfl (lv_at hl 0 rfl) ?_
  refine lv_iload_n hx hb dX10_edited0_1 rfl (lv_at hl 1 rfl) ?_
  refine lv_iconst (v := 0) hx hb dX10_edited0_2 (by decide) ?_
  refine lv_iconst (v := 1) hx hb dX10_edited0_3 (by decide) ?_
  refine r_cI hW (run_S (rest := [.ref a]) C hW (t_X10_within (X := X)) mk_X10_within sk_X10_231 ⟨Nat.le_of_ble_eq_true rfl, Nat.le_of_ble_eq_true rfl⟩ ⟨Nat.zero_le _, Nat.zero_le _⟩ rfl rfl (Nat.le_of_ble_eq_true rfl) hl.1 dX10_edited0_4) (fun H locs hW _ => ?_)
  refine lv_iconst (v := 1) hx hb dX10_edited0_7 (by decide) ?_
  obtain ⟨v3, X2, h1, h⟩ := bnd2_inv h
  refine r_cI hW (run_V (rest := []) C hW (t_X10_right h1) mk_X10_right vk_X10_214 (kd_X10_right h1) rfl rfl (by decide) ⟨Nat.le_of_ble_eq_true rfl, Nat.le_of_ble_eq_true rfl⟩ ⟨Nat.zero_le _, Nat.zero_le _⟩ rfl rfl (Nat.le_of_ble_eq_true rfl) hl.1 dX10_edited0_8) (fun H locs hW _ => ?_)
  refine r_brn h (lv_if_ne (tgt := 16) hx hb dX10_edited0_11 (by decide)) (fun h => ?_) (fun h => ?_)
  · refine lv_aload_n hx hb dX10_edited0_16 rfl (lv_at hl 0 rfl) ?_
    obtain ⟨X5, h4, h⟩ := bnd_inv h
    refine r_cV hW (run_V (rest := []) C hW (t_X10_tries h4) mk_X10_tries vk_X10_267 (kd_X10_tries h4) rfl rfl (by decide) ⟨Nat.le_of_ble_eq_true rfl, Nat.le_of_ble_eq_true rfl⟩ ⟨Nat.zero_le _, Nat.zero_le _⟩ rfl rfl (Nat.le_of_ble_eq_true rfl) hl.1 dX10_edited0_17) (fun H locs hW _ => ?_)
    refine lv_aload_n hx hb dX10_edited0_20 rfl (lv_at hl 0 rfl) ?_
    refine lv_sipush (v := 931) hx hb dX10_edited0_21 (by decide) ?_
    refine lv_iload_n hx hb dX10_edited0_24 rfl (lv_at hl 1 rfl) ?_
    refine lv_iload_n hx hb dX10_edited0_25 rfl (lv_at hl 2 rfl) ?_
    refine lv_iload_n hx hb dX10_edited0_26 rfl (lv_at hl 3 rfl) ?_
    refine lv_iload hx hb dX10_edited0_27 (lv_at hl 4 rfl) ?_
    refine lv_iload hx hb dX10_edited0_29 (lv_at hl 5 rfl) ?_
    obtain ⟨v8, X7, h6, h⟩ := bnd2_inv h
    refine r_cI hW (run_V (rest := []) C hW (t_X10_does h6) mk_X10_does vk_X10_190 (kd_X10_does h6) rfl rfl (by decide) ⟨Nat.le_of_ble_eq_true rfl, Nat.le_of_ble_eq_true rfl⟩ ⟨Nat.zero_le _, Nat.zero_le _⟩ rfl rfl (Nat.le_of_ble_eq_true rfl) hl.1 dX10_edited0_31) (fun H locs hW _ => ?_)
    refine r_brn h (lv_if_ne (tgt := 51) hx hb dX10_edited0_34 (by decide)) (fun h => ?_) (fun h => ?_)
    · refine lv_aload_n hx hb dX10_edited0_51 rfl (lv_at hl 0 rfl) ?_
      obtain ⟨X10, h9, h⟩ := bnd_inv h
      refine r_cV hW (run_V (rest := []) C hW (t_X10_keeps h9) mk_X10_keeps vk_X10_273 (kd_X10_keeps h9) rfl rfl (by decide) ⟨Nat.le_of_ble_eq_true rfl, Nat.le_of_ble_eq_true rfl⟩ ⟨Nat.zero_le _, Nat.zero_le _⟩ rfl rfl (Nat.le_of_ble_eq_true rfl) hl.1 dX10_edited0_52) (fun H locs hW _ => ?_)
      refine lv_iconst (v := 0) hx hb dX10_edited0_55 (by decide) ?_
      refine lv_istore (lv' := [(6, .int 0), (0, .ref a), (1, .int x1), (2, .int x2), (3, .int x3), (4, .int x4), (5, .int x5)]) hx hb dX10_edited0_56 hl (by decide) rfl (fun ls hl => ?_)
      exact b_X10_edited0_58 C FU hW (lv_sub hl [1, 0] rfl) h
    · refine lv_aload_n hx hb dX10_edited0_37 rfl (lv_at hl 0 rfl) ?_
      refine lv_iconst (v := 1) hx hb dX10_edited0_38 (by decide) ?_
      obtain ⟨v13, X12, h11, h⟩ := bnd2_inv h
      refine r_cI hW (run_V (rest := []) C hW (t_X10_refuses h11) mk_X10_refuses vk_X10_270 (kd_X10_refuses h11) rfl rfl (by decide) ⟨Nat.le_of_ble_eq_true rfl, Nat.le_of_ble_eq_true rfl⟩ ⟨Nat.zero_le _, Nat.zero_le _⟩ rfl rfl (Nat.le_of_ble_eq_true rfl) hl.1 dX10_edited0_39) (fun H locs hW _ => ?_)
      refine r_br h (lv_if_le (tgt := 49) hx hb dX10_edited0_42 (by decide)) (fun h => ?_) (fun h => ?_)
      · refine lv_iconst (v := 0) hx hb dX10_edited0_49 (by decide) ?_
        exact r_iret C hW (Option.some.inj h).symm rfl dX10_edited0_50
      · refine lv_iconst (v := 1) hx hb dX10_edited0_45 (by decide) ?_
        refine lv_goto (tgt := 50) hx hb dX10_edited0_46 (by decide) ?_
        exact r_iret C hW (Option.some.inj h).symm rfl dX10_edited0_50
  · refine lv_iconst (v := 0) hx hb dX10_edited0_14 (by decide) ?_
    exact r_iret C hW (Option.some.inj h).symm rfl dX10_edited0_15
theorem kd_X10_set {X : Mx} {r : (Int32 × Mx)} {a : Nat} {x1 : Int32} {x2 : Int32} {x3 : Int32} {x4 : Int32} (h : f_X10_set σ X a x1 x2 x3 x4 = some r) : shK σ a = 8 := (grd_inv h).1
set_option maxRecDepth 20000 in
set_option maxHeartbeats 2000000 in
theorem t_X10_set {X : Mx} {r : (Int32 × Mx)} {a : Nat} {x1 : Int32} {x2 : Int32} {x3 : Int32} {x4 : Int32} (h : f_X10_set σ X a x1 x2 x3 x4 = some r) : MtI g l yX10_set cX10_set 5 (some .boolean) 6 147 [.ref a, .int x1, .int x2, .int x3, .int x4] σ X r := by
  refine met_of mk_X10_set (Nat.le_of_ble_eq_true rfl) (fun p e s m args below meth c ls C hW hl => ?_)
  have hx := C.x
  have hb := C.b
  have hl : lv_has ls 5 [(0, .ref a), (1, .int x1), (2, .int x2), (3, .int x3), (4, .int x4)] := hl
  unfold f_X10_set at h
  obtain ⟨hk0, h⟩ := grd_inv h
  refine lv_aload_n hx hb dX10_set_0 rfl (lv_at hl 0 rfl) ?_
  refine lv_iconst (v := 0) hx hb dX10_set_1 (by decide) ?_
  refine r_pI C hW h pf_X10_65 (by decide) rfl rfl dX10_set_2 (fun X1 H locs h hW _ => ?_)
  refine lv_aload_n hx hb dX10_set_5 rfl (lv_at hl 0 rfl) ?_
  refine lv_iload_n hx hb dX10_set_6 rfl (lv_at hl 1 rfl) ?_
  refine lv_bipush (v := 11) hx hb dX10_set_7 (by decide) ?_
  refine lv_iload_n hx hb dX10_set_9 rfl (lv_at hl 2 rfl) ?_
  refine lv_iload_n hx hb dX10_set_10 rfl (lv_at hl 3 rfl) ?_
  refine lv_iload hx hb dX10_set_11 (lv_at hl 4 rfl) ?_
  obtain ⟨v4, X3, h2, h⟩ := bnd2_inv h
  refine r_cI hW (run_V (rest := []) C hW (t_X10_edited0 h2) mk_X10_edited0 vk_X10_276 (kd_X10_edited0 h2) rfl rfl (by decide) ⟨Nat.le_of_ble_eq_true rfl, Nat.le_of_ble_eq_true rfl⟩ ⟨Nat.zero_le _, Nat.zero_le _⟩ rfl rfl (Nat.le_of_ble_eq_true rfl) hl.1 dX10_set_13) (fun H locs hW _ => ?_)
  obtain ⟨hz, h⟩ := grd_inv h
  exact r_iret C hW (Option.some.inj h).symm (zb hz) dX10_set_16
theorem kd_X10_insert {X : Mx} {r : (Int32 × Mx)} {a : Nat} {x1 : Int32} {x2 : Int32} (h : f_X10_insert σ X a x1 x2 = some r) : shK σ a = 8 := (grd_inv h).1
set_option maxRecDepth 20000 in
set_option maxHeartbeats 2000000 in
theorem t_X10_insert {X : Mx} {r : (Int32 × Mx)} {a : Nat} {x1 : Int32} {x2 : Int32} (h : f_X10_insert σ X a x1 x2 = some r) : MtI g l yX10_insert cX10_insert 3 (some .boolean) 6 147 [.ref a, .int x1, .int x2] σ X r := by
  refine met_of mk_X10_insert (Nat.le_of_ble_eq_true rfl) (fun p e s m args below meth c ls C hW hl => ?_)
  have hx := C.x
  have hb := C.b
  have hl : lv_has ls 3 [(0, .ref a), (1, .int x1), (2, .int x2)] := hl
  unfold f_X10_insert at h
  obtain ⟨hk0, h⟩ := grd_inv h
  refine lv_aload_n hx hb dX10_insert_0 rfl (lv_at hl 0 rfl) ?_
  refine lv_iconst (v := 0) hx hb dX10_insert_1 (by decide) ?_
  refine r_pI C hW h pf_X10_65 (by decide) rfl rfl dX10_insert_2 (fun X1 H locs h hW _ => ?_)
  refine lv_aload_n hx hb dX10_insert_5 rfl (lv_at hl 0 rfl) ?_
  refine lv_iload_n hx hb dX10_insert_6 rfl (lv_at hl 1 rfl) ?_
  refine lv_bipush (v := 12) hx hb dX10_insert_7 (by decide) ?_
  refine lv_iload_n hx hb dX10_insert_9 rfl (lv_at hl 2 rfl) ?_
  refine lv_iconst (v := 0) hx hb dX10_insert_10 (by decide) ?_
  refine lv_iconst (v := 0) hx hb dX10_insert_11 (by decide) ?_
  obtain ⟨v4, X3, h2, h⟩ := bnd2_inv h
  refine r_cI hW (run_V (rest := []) C hW (t_X10_edited0 h2) mk_X10_edited0 vk_X10_276 (kd_X10_edited0 h2) rfl rfl (by decide) ⟨Nat.le_of_ble_eq_true rfl, Nat.le_of_ble_eq_true rfl⟩ ⟨Nat.zero_le _, Nat.zero_le _⟩ rfl rfl (Nat.le_of_ble_eq_true rfl) hl.1 dX10_insert_12) (fun H locs hW _ => ?_)
  obtain ⟨hz, h⟩ := grd_inv h
  exact r_iret C hW (Option.some.inj h).symm (zb hz) dX10_insert_15
theorem kd_X10_delete {X : Mx} {r : (Int32 × Mx)} {a : Nat} {x1 : Int32} {x2 : Int32} (h : f_X10_delete σ X a x1 x2 = some r) : shK σ a = 8 := (grd_inv h).1
set_option maxRecDepth 20000 in
set_option maxHeartbeats 2000000 in
theorem t_X10_delete {X : Mx} {r : (Int32 × Mx)} {a : Nat} {x1 : Int32} {x2 : Int32} (h : f_X10_delete σ X a x1 x2 = some r) : MtI g l yX10_delete cX10_delete 3 (some .boolean) 6 147 [.ref a, .int x1, .int x2] σ X r := by
  refine met_of mk_X10_delete (Nat.le_of_ble_eq_true rfl) (fun p e s m args below meth c ls C hW hl => ?_)
  have hx := C.x
  have hb := C.b
  have hl : lv_has ls 3 [(0, .ref a), (1, .int x1), (2, .int x2)] := hl
  unfold f_X10_delete at h
  obtain ⟨hk0, h⟩ := grd_inv h
  refine lv_aload_n hx hb dX10_delete_0 rfl (lv_at hl 0 rfl) ?_
  refine lv_iconst (v := 0) hx hb dX10_delete_1 (by decide) ?_
  refine r_pI C hW h pf_X10_65 (by decide) rfl rfl dX10_delete_2 (fun X1 H locs h hW _ => ?_)
  refine lv_aload_n hx hb dX10_delete_5 rfl (lv_at hl 0 rfl) ?_
  refine lv_iload_n hx hb dX10_delete_6 rfl (lv_at hl 1 rfl) ?_
  refine lv_bipush (v := 13) hx hb dX10_delete_7 (by decide) ?_
  refine lv_iload_n hx hb dX10_delete_9 rfl (lv_at hl 2 rfl) ?_
  refine lv_iconst (v := 0) hx hb dX10_delete_10 (by decide) ?_
  refine lv_iconst (v := 0) hx hb dX10_delete_11 (by decide) ?_
  obtain ⟨v4, X3, h2, h⟩ := bnd2_inv h
  refine r_cI hW (run_V (rest := []) C hW (t_X10_edited0 h2) mk_X10_edited0 vk_X10_276 (kd_X10_edited0 h2) rfl rfl (by decide) ⟨Nat.le_of_ble_eq_true rfl, Nat.le_of_ble_eq_true rfl⟩ ⟨Nat.zero_le _, Nat.zero_le _⟩ rfl rfl (Nat.le_of_ble_eq_true rfl) hl.1 dX10_delete_12) (fun H locs hW _ => ?_)
  obtain ⟨hz, h⟩ := grd_inv h
  exact r_iret C hW (Option.some.inj h).symm (zb hz) dX10_delete_15
theorem kd_X10_rename {X : Mx} {r : (Int32 × Mx)} {a : Nat} {x1 : Int32} {x2 : Int32} {x3 : Int32} (h : f_X10_rename σ X a x1 x2 x3 = some r) : shK σ a = 8 := (grd_inv h).1
set_option maxRecDepth 20000 in
set_option maxHeartbeats 2000000 in
theorem t_X10_rename {X : Mx} {r : (Int32 × Mx)} {a : Nat} {x1 : Int32} {x2 : Int32} {x3 : Int32} (h : f_X10_rename σ X a x1 x2 x3 = some r) : MtI g l yX10_rename cX10_rename 4 (some .boolean) 6 147 [.ref a, .int x1, .int x2, .int x3] σ X r := by
  refine met_of mk_X10_rename (Nat.le_of_ble_eq_true rfl) (fun p e s m args below meth c ls C hW hl => ?_)
  have hx := C.x
  have hb := C.b
  have hl : lv_has ls 4 [(0, .ref a), (1, .int x1), (2, .int x2), (3, .int x3)] := hl
  unfold f_X10_rename at h
  obtain ⟨hk0, h⟩ := grd_inv h
  refine lv_aload_n hx hb dX10_rename_0 rfl (lv_at hl 0 rfl) ?_
  refine lv_iconst (v := 0) hx hb dX10_rename_1 (by decide) ?_
  refine r_pI C hW h pf_X10_65 (by decide) rfl rfl dX10_rename_2 (fun X1 H locs h hW _ => ?_)
  refine lv_aload_n hx hb dX10_rename_5 rfl (lv_at hl 0 rfl) ?_
  refine lv_iload_n hx hb dX10_rename_6 rfl (lv_at hl 1 rfl) ?_
  refine lv_bipush (v := 14) hx hb dX10_rename_7 (by decide) ?_
  refine lv_iload_n hx hb dX10_rename_9 rfl (lv_at hl 2 rfl) ?_
  refine lv_iload_n hx hb dX10_rename_10 rfl (lv_at hl 3 rfl) ?_
  refine lv_iconst (v := 0) hx hb dX10_rename_11 (by decide) ?_
  obtain ⟨v4, X3, h2, h⟩ := bnd2_inv h
  refine r_cI hW (run_V (rest := []) C hW (t_X10_edited0 h2) mk_X10_edited0 vk_X10_276 (kd_X10_edited0 h2) rfl rfl (by decide) ⟨Nat.le_of_ble_eq_true rfl, Nat.le_of_ble_eq_true rfl⟩ ⟨Nat.zero_le _, Nat.zero_le _⟩ rfl rfl (Nat.le_of_ble_eq_true rfl) hl.1 dX10_rename_12) (fun H locs hW _ => ?_)
  obtain ⟨hz, h⟩ := grd_inv h
  exact r_iret C hW (Option.some.inj h).symm (zb hz) dX10_rename_15
theorem kd_X10_retype {X : Mx} {r : (Int32 × Mx)} {a : Nat} {x1 : Int32} {x2 : Int32} {x3 : Int32} (h : f_X10_retype σ X a x1 x2 x3 = some r) : shK σ a = 8 := (grd_inv h).1
set_option maxRecDepth 20000 in
set_option maxHeartbeats 2000000 in
theorem t_X10_retype {X : Mx} {r : (Int32 × Mx)} {a : Nat} {x1 : Int32} {x2 : Int32} {x3 : Int32} (h : f_X10_retype σ X a x1 x2 x3 = some r) : MtI g l yX10_retype cX10_retype 4 (some .boolean) 6 147 [.ref a, .int x1, .int x2, .int x3] σ X r := by
  refine met_of mk_X10_retype (Nat.le_of_ble_eq_true rfl) (fun p e s m args below meth c ls C hW hl => ?_)
  have hx := C.x
  have hb := C.b
  have hl : lv_has ls 4 [(0, .ref a), (1, .int x1), (2, .int x2), (3, .int x3)] := hl
  unfold f_X10_retype at h
  obtain ⟨hk0, h⟩ := grd_inv h
  refine lv_aload_n hx hb dX10_retype_0 rfl (lv_at hl 0 rfl) ?_
  refine lv_iconst (v := 0) hx hb dX10_retype_1 (by decide) ?_
  refine r_pI C hW h pf_X10_65 (by decide) rfl rfl dX10_retype_2 (fun X1 H locs h hW _ => ?_)
  refine lv_aload_n hx hb dX10_retype_5 rfl (lv_at hl 0 rfl) ?_
  refine lv_iload_n hx hb dX10_retype_6 rfl (lv_at hl 1 rfl) ?_
  refine lv_bipush (v := 15) hx hb dX10_retype_7 (by decide) ?_
  refine lv_iload_n hx hb dX10_retype_9 rfl (lv_at hl 2 rfl) ?_
  refine lv_iload_n hx hb dX10_retype_10 rfl (lv_at hl 3 rfl) ?_
  refine lv_iconst (v := 0) hx hb dX10_retype_11 (by decide) ?_
  obtain ⟨v4, X3, h2, h⟩ := bnd2_inv h
  refine r_cI hW (run_V (rest := []) C hW (t_X10_edited0 h2) mk_X10_edited0 vk_X10_276 (kd_X10_edited0 h2) rfl rfl (by decide) ⟨Nat.le_of_ble_eq_true rfl, Nat.le_of_ble_eq_true rfl⟩ ⟨Nat.zero_le _, Nat.zero_le _⟩ rfl rfl (Nat.le_of_ble_eq_true rfl) hl.1 dX10_retype_12) (fun H locs hW _ => ?_)
  obtain ⟨hz, h⟩ := grd_inv h
  exact r_iret C hW (Option.some.inj h).symm (zb hz) dX10_retype_15
set_option maxRecDepth 20000 in
set_option maxHeartbeats 2000000 in
theorem b_X10_add_24 {a : Nat} {x1 : Int32} {x2 : Int32} {x3 : Int32} (C : Cx g RX10 cX10_add 6 (some .int) p s m args meth c) {r : (Int32 × Mx)} {X : Mx} {y0 : Int32} (hW : Wd g σ X s H locs) (hl : lv_has ls 6 [(0, .ref a), (1, .int x1), (2, .int x2), (3, .int x3)]) (h : f_X10_add_24 σ a x1 x2 x3 X y0 = some r) : W p l e (rmZ 6 147) s m args below meth c H locs 0 0 (QI g σ below args s r) (F0 m 24 ls [.int y0]) := by
  have hx := C.x
  have hb := C.b
  unfold f_X10_add_24 at h
  refine lv_istore (lv' := [(4, .int y0), (0, .ref a), (1, .int x1), (2, .int x2), (3, .int x3)]) hx hb dX10_add_24 hl (by decide) rfl (fun ls hl => ?_)
  refine lv_aload_n hx hb dX10_add_26 rfl (lv_at hl 1 rfl) ?_
  refine lv_iload_n hx hb dX10_add_27 rfl (lv_at hl 2 rfl) ?_
  refine lv_bipush (v := 16) hx hb dX10_add_28 (by decide) ?_
  refine lv_iload_n hx hb dX10_add_30 rfl (lv_at hl 3 rfl) ?_
  refine lv_iload_n hx hb dX10_add_31 rfl (lv_at hl 4 rfl) ?_
  refine lv_iconst (v := 0) hx hb dX10_add_32 (by decide) ?_
  obtain ⟨v3, X2, h1, h⟩ := bnd2_inv h
  refine r_cI hW (run_V (rest := []) C hW (t_X10_edited0 h1) mk_X10_edited0 vk_X10_276 (kd_X10_edited0 h1) rfl rfl (by decide) ⟨Nat.le_of_ble_eq_true rfl, Nat.le_of_ble_eq_true rfl⟩ ⟨Nat.zero_le _, Nat.zero_le _⟩ rfl rfl (Nat.le_of_ble_eq_true rfl) hl.1 dX10_add_33) (fun H locs hW _ => ?_)
  refine lv_istore (lv' := [(5, .int v3), (4, .int y0), (0, .ref a), (1, .int x1), (2, .int x2), (3, .int x3)]) hx hb dX10_add_36 hl (by decide) rfl (fun ls hl => ?_)
  refine lv_aload_n hx hb dX10_add_38 rfl (lv_at hl 2 rfl) ?_
  refine r_gI C hW h fl_X10_65 (by decide) dX10_add_39 (fun v4 h => ?_)
  refine r_br h (lv_if_eq (tgt := 49) hx hb dX10_add_42 (by decide)) (fun h => ?_) (fun h => ?_)
  · refine lv_iload hx hb dX10_add_49 (lv_at hl 0 rfl) ?_
    refine r_br h (lv_if_eq (tgt := 59) hx hb dX10_add_51 (by decide)) (fun h => ?_) (fun h => ?_)
    · refine lv_iconst (v := (-1)) hx hb dX10_add_59 (by decide) ?_
      exact r_iret C hW (Option.some.inj h).symm rfl dX10_add_60
    · refine lv_iload hx hb dX10_add_54 (lv_at hl 1 rfl) ?_
      refine lv_goto (tgt := 60) hx hb dX10_add_56 (by decide) ?_
      exact r_iret C hW (Option.some.inj h).symm rfl dX10_add_60
  · refine lv_iconst (v := 0) hx hb dX10_add_45 (by decide) ?_
    refine lv_goto (tgt := 60) hx hb dX10_add_46 (by decide) ?_
    exact r_iret C hW (Option.some.inj h).symm rfl dX10_add_60
theorem kd_X10_add {X : Mx} {r : (Int32 × Mx)} {a : Nat} {x1 : Int32} {x2 : Int32} {x3 : Int32} (h : f_X10_add σ X a x1 x2 x3 = some r) : shK σ a = 8 := (grd_inv h).1
set_option maxRecDepth 20000 in
set_option maxHeartbeats 2000000 in
theorem t_X10_add {X : Mx} {r : (Int32 × Mx)} {a : Nat} {x1 : Int32} {x2 : Int32} {x3 : Int32} (h : f_X10_add σ X a x1 x2 x3 = some r) : MtI g l yX10_add cX10_add 6 (some .int) 6 147 [.ref a, .int x1, .int x2, .int x3] σ X r := by
  refine met_of mk_X10_add (Nat.le_of_ble_eq_true rfl) (fun p e s m args below meth c ls C hW hl => ?_)
  have hx := C.x
  have hb := C.b
  have hl : lv_has ls 6 [(0, .ref a), (1, .int x1), (2, .int x2), (3, .int x3)] := hl
  unfold f_X10_add at h
  obtain ⟨hk0, h⟩ := grd_inv h
  refine lv_aload_n hx hb dX10_add_0 rfl (lv_at hl 0 rfl) ?_
  refine lv_iconst (v := 0) hx hb dX10_add_1 (by decide) ?_
  refine r_pI C hW h pf_X10_65 (by decide) rfl rfl dX10_add_2 (fun X1 H locs h hW _ => ?_)
  refine lv_iload_n hx hb dX10_add_5 rfl (lv_at hl 1 rfl) ?_
  refine lv_iconst (v := 0) hx hb dX10_add_6 (by decide) ?_
  refine lv_iconst (v := 1) hx hb dX10_add_7 (by decide) ?_
  refine r_cI hW (run_S (rest := []) C hW (t_X10_within (X := X1)) mk_X10_within sk_X10_231 ⟨Nat.le_of_ble_eq_true rfl, Nat.le_of_ble_eq_true rfl⟩ ⟨Nat.zero_le _, Nat.zero_le _⟩ rfl rfl (Nat.le_of_ble_eq_true rfl) hl.1 dX10_add_8) (fun H locs hW _ => ?_)
  refine r_br h (lv_if_eq (tgt := 23) hx hb dX10_add_11 (by decide)) (fun h => ?_) (fun h => ?_)
  · refine lv_iconst (v := (-1)) hx hb dX10_add_23 (by decide) ?_
    exact b_X10_add_24 C hW (lv_sub hl [0, 1, 2, 3] rfl) h
  · refine lv_aload_n hx hb dX10_add_14 rfl (lv_at hl 0 rfl) ?_
    refine lv_iconst (v := 0) hx hb dX10_add_15 (by decide) ?_
    refine lv_iload_n hx hb dX10_add_16 rfl (lv_at hl 1 rfl) ?_
    obtain ⟨v3, h2, h⟩ := bnd_inv h
    refine r_cI hW (run_V (rest := []) C hW (t_X10_nextColumn h2) mk_X10_nextColumn vk_X10_247 (kd_X10_nextColumn h2) rfl rfl (by decide) ⟨Nat.le_of_ble_eq_true rfl, Nat.le_of_ble_eq_true rfl⟩ ⟨Nat.zero_le _, Nat.zero_le _⟩ rfl rfl (Nat.le_of_ble_eq_true rfl) hl.1 dX10_add_17) (fun H locs hW _ => ?_)
    refine lv_goto (tgt := 24) hx hb dX10_add_20 (by decide) ?_
    exact b_X10_add_24 C hW (lv_sub hl [0, 1, 2, 3] rfl) h
theorem kd_X10_drop {X : Mx} {r : (Int32 × Mx)} {a : Nat} {x1 : Int32} {x2 : Int32} (h : f_X10_drop σ X a x1 x2 = some r) : shK σ a = 8 := (grd_inv h).1
set_option maxRecDepth 20000 in
set_option maxHeartbeats 2000000 in
theorem t_X10_drop {X : Mx} {r : (Int32 × Mx)} {a : Nat} {x1 : Int32} {x2 : Int32} (h : f_X10_drop σ X a x1 x2 = some r) : MtI g l yX10_drop cX10_drop 3 (some .boolean) 6 147 [.ref a, .int x1, .int x2] σ X r := by
  refine met_of mk_X10_drop (Nat.le_of_ble_eq_true rfl) (fun p e s m args below meth c ls C hW hl => ?_)
  have hx := C.x
  have hb := C.b
  have hl : lv_has ls 3 [(0, .ref a), (1, .int x1), (2, .int x2)] := hl
  unfold f_X10_drop at h
  obtain ⟨hk0, h⟩ := grd_inv h
  refine lv_aload_n hx hb dX10_drop_0 rfl (lv_at hl 0 rfl) ?_
  refine lv_iconst (v := 0) hx hb dX10_drop_1 (by decide) ?_
  refine r_pI C hW h pf_X10_65 (by decide) rfl rfl dX10_drop_2 (fun X1 H locs h hW _ => ?_)
  refine lv_aload_n hx hb dX10_drop_5 rfl (lv_at hl 0 rfl) ?_
  refine lv_iload_n hx hb dX10_drop_6 rfl (lv_at hl 1 rfl) ?_
  refine lv_bipush (v := 17) hx hb dX10_drop_7 (by decide) ?_
  refine lv_iload_n hx hb dX10_drop_9 rfl (lv_at hl 2 rfl) ?_
  refine lv_iconst (v := 0) hx hb dX10_drop_10 (by decide) ?_
  refine lv_iconst (v := 0) hx hb dX10_drop_11 (by decide) ?_
  obtain ⟨v4, X3, h2, h⟩ := bnd2_inv h
  refine r_cI hW (run_V (rest := []) C hW (t_X10_edited0 h2) mk_X10_edited0 vk_X10_276 (kd_X10_edited0 h2) rfl rfl (by decide) ⟨Nat.le_of_ble_eq_true rfl, Nat.le_of_ble_eq_true rfl⟩ ⟨Nat.zero_le _, Nat.zero_le _⟩ rfl rfl (Nat.le_of_ble_eq_true rfl) hl.1 dX10_drop_12) (fun H locs hW _ => ?_)
  obtain ⟨hz, h⟩ := grd_inv h
  exact r_iret C hW (Option.some.inj h).symm (zb hz) dX10_drop_15
set_option maxRecDepth 20000 in
set_option maxHeartbeats 2000000 in
theorem t_X10_choiceAt {X : Mx} {x0 : Int32} {x1 : Int32} {x2 : Int32} : MtI g l yX10_choiceAt cX10_choiceAt 3 (some .int) 1 22 [.int x0, .int x1, .int x2] σ X (f_X10_choiceAt x0 x1 x2, X) := by
  obtain ⟨r, h⟩ : ∃ r, f_X10_choiceAt x0 x1 x2 = r := ⟨_, rfl⟩
  rw [h]
  refine met_of mk_X10_choiceAt (Nat.le_of_ble_eq_true rfl) (fun p e s m args below meth c ls C hW hl => ?_)
  have hx := C.x
  have hb := C.b
  have hl : lv_has ls 3 [(0, .int x0), (1, .int x1), (2, .int x2)] := hl
  unfold f_X10_choiceAt at h
  refine lv_iload_n hx hb dX10_choiceAt_0 rfl (lv_at hl 0 rfl) ?_
  refine lv_iconst (v := 0) hx hb dX10_choiceAt_1 (by decide) ?_
  refine lv_bipush (v := 6) hx hb dX10_choiceAt_2 (by decide) ?_
  refine r_cI hW (run_S (rest := []) C hW (t_X10_within (X := X)) mk_X10_within sk_X10_231 ⟨Nat.le_of_ble_eq_true rfl, Nat.le_of_ble_eq_true rfl⟩ ⟨Nat.zero_le _, Nat.zero_le _⟩ rfl rfl (Nat.le_of_ble_eq_true rfl) hl.1 dX10_choiceAt_4) (fun H locs hW _ => ?_)
  refine r_br h (lv_if_eq (tgt := 18) hx hb dX10_choiceAt_7 (by decide)) (fun h => ?_) (fun h => ?_)
  · refine lv_iconst (v := (-1)) hx hb dX10_choiceAt_18 (by decide) ?_
    exact r_iret C hW (rt_T h) rfl dX10_choiceAt_19
  · refine lv_iload_n hx hb dX10_choiceAt_10 rfl (lv_at hl 1 rfl) ?_
    refine r_br h (lv_if_lt (tgt := 18) hx hb dX10_choiceAt_11 (by decide)) (fun h => ?_) (fun h => ?_)
    · refine lv_iconst (v := (-1)) hx hb dX10_choiceAt_18 (by decide) ?_
      exact r_iret C hW (rt_T h) rfl dX10_choiceAt_19
    · refine lv_iload_n hx hb dX10_choiceAt_14 rfl (lv_at hl 2 rfl) ?_
      refine r_br h (lv_if_ge (tgt := 20) hx hb dX10_choiceAt_15 (by decide)) (fun h => ?_) (fun h => ?_)
      · refine lv_iload_n hx hb dX10_choiceAt_20 rfl (lv_at hl 0 rfl) ?_
        refine lv_iconst (v := 4) hx hb dX10_choiceAt_21 (by decide) ?_
        refine r_br h (lv_icmp_ge (tgt := 46) hx hb dX10_choiceAt_22 (by decide)) (fun h => ?_) (fun h => ?_)
        · refine lv_iload_n hx hb dX10_choiceAt_46 rfl (lv_at hl 0 rfl) ?_
          refine lv_iconst (v := 4) hx hb dX10_choiceAt_47 (by decide) ?_
          refine r_brn h (lv_icmp_ne (tgt := 70) hx hb dX10_choiceAt_48 (by decide)) (fun h => ?_) (fun h => ?_)
          · refine lv_iload_n hx hb dX10_choiceAt_70 rfl (lv_at hl 0 rfl) ?_
            refine lv_iconst (v := 5) hx hb dX10_choiceAt_71 (by decide) ?_
            refine r_brn h (lv_icmp_ne (tgt := 101) hx hb dX10_choiceAt_72 (by decide)) (fun h => ?_) (fun h => ?_)
            · refine lv_iload_n hx hb dX10_choiceAt_101 rfl (lv_at hl 1 rfl) ?_
              refine lv_iconst (v := 4) hx hb dX10_choiceAt_102 (by decide) ?_
              refine r_br h (lv_icmp_ge (tgt := 125) hx hb dX10_choiceAt_103 (by decide)) (fun h => ?_) (fun h => ?_)
              · refine lv_iconst (v := (-1)) hx hb dX10_choiceAt_125 (by decide) ?_
                exact r_iret C hW (rt_T h) rfl dX10_choiceAt_126
              · refine lv_iload_n hx hb dX10_choiceAt_106 rfl (lv_at hl 2 rfl) ?_
                refine lv_bipush (v := 20) hx hb dX10_choiceAt_107 (by decide) ?_
                refine r_br h (lv_icmp_ge (tgt := 125) hx hb dX10_choiceAt_109 (by decide)) (fun h => ?_) (fun h => ?_)
                · refine lv_iconst (v := (-1)) hx hb dX10_choiceAt_125 (by decide) ?_
                  exact r_iret C hW (rt_T h) rfl dX10_choiceAt_126
                · refine lv_sipush (v := 236) hx hb dX10_choiceAt_112 (by decide) ?_
                  refine lv_bipush (v := 20) hx hb dX10_choiceAt_115 (by decide) ?_
                  refine lv_iload_n hx hb dX10_choiceAt_117 rfl (lv_at hl 1 rfl) ?_
                  refine lv_imul hx hb dX10_choiceAt_118 ?_
                  refine lv_iadd hx hb dX10_choiceAt_119 ?_
                  refine lv_iload_n hx hb dX10_choiceAt_120 rfl (lv_at hl 2 rfl) ?_
                  refine lv_iadd hx hb dX10_choiceAt_121 ?_
                  refine lv_goto (tgt := 126) hx hb dX10_choiceAt_122 (by decide) ?_
                  exact r_iret C hW (rt_T h) rfl dX10_choiceAt_126
            · refine lv_iload_n hx hb dX10_choiceAt_75 rfl (lv_at hl 1 rfl) ?_
              refine lv_bipush (v := 20) hx hb dX10_choiceAt_76 (by decide) ?_
              refine r_br h (lv_icmp_ge (tgt := 99) hx hb dX10_choiceAt_78 (by decide)) (fun h => ?_) (fun h => ?_)
              · refine lv_iconst (v := (-1)) hx hb dX10_choiceAt_99 (by decide) ?_
                exact r_iret C hW (rt_T h) rfl dX10_choiceAt_100
              · refine lv_iload_n hx hb dX10_choiceAt_81 rfl (lv_at hl 2 rfl) ?_
                refine lv_bipush (v := 9) hx hb dX10_choiceAt_82 (by decide) ?_
                refine r_br h (lv_icmp_ge (tgt := 99) hx hb dX10_choiceAt_84 (by decide)) (fun h => ?_) (fun h => ?_)
                · refine lv_iconst (v := (-1)) hx hb dX10_choiceAt_99 (by decide) ?_
                  exact r_iret C hW (rt_T h) rfl dX10_choiceAt_100
                · refine lv_bipush (v := 56) hx hb dX10_choiceAt_87 (by decide) ?_
                  refine lv_bipush (v := 9) hx hb dX10_choiceAt_89 (by decide) ?_
                  refine lv_iload_n hx hb dX10_choiceAt_91 rfl (lv_at hl 1 rfl) ?_
                  refine lv_imul hx hb dX10_choiceAt_92 ?_
                  refine lv_iadd hx hb dX10_choiceAt_93 ?_
                  refine lv_iload_n hx hb dX10_choiceAt_94 rfl (lv_at hl 2 rfl) ?_
                  refine lv_iadd hx hb dX10_choiceAt_95 ?_
                  refine lv_goto (tgt := 100) hx hb dX10_choiceAt_96 (by decide) ?_
                  exact r_iret C hW (rt_T h) rfl dX10_choiceAt_100
          · refine lv_iload_n hx hb dX10_choiceAt_51 rfl (lv_at hl 1 rfl) ?_
            refine lv_bipush (v := 20) hx hb dX10_choiceAt_52 (by decide) ?_
            refine r_br h (lv_icmp_ge (tgt := 68) hx hb dX10_choiceAt_54 (by decide)) (fun h => ?_) (fun h => ?_)
            · refine lv_iconst (v := (-1)) hx hb dX10_choiceAt_68 (by decide) ?_
              exact r_iret C hW (rt_T h) rfl dX10_choiceAt_69
            · refine lv_iload_n hx hb dX10_choiceAt_57 rfl (lv_at hl 2 rfl) ?_
              refine r_brn h (lv_if_ne (tgt := 68) hx hb dX10_choiceAt_58 (by decide)) (fun h => ?_) (fun h => ?_)
              · refine lv_iconst (v := (-1)) hx hb dX10_choiceAt_68 (by decide) ?_
                exact r_iret C hW (rt_T h) rfl dX10_choiceAt_69
              · refine lv_bipush (v := 36) hx hb dX10_choiceAt_61 (by decide) ?_
                refine lv_iload_n hx hb dX10_choiceAt_63 rfl (lv_at hl 1 rfl) ?_
                refine lv_iadd hx hb dX10_choiceAt_64 ?_
                refine lv_goto (tgt := 69) hx hb dX10_choiceAt_65 (by decide) ?_
                exact r_iret C hW (rt_T h) rfl dX10_choiceAt_69
        · refine lv_iload_n hx hb dX10_choiceAt_25 rfl (lv_at hl 1 rfl) ?_
          refine lv_bipush (v := 9) hx hb dX10_choiceAt_26 (by decide) ?_
          refine r_br h (lv_icmp_ge (tgt := 44) hx hb dX10_choiceAt_28 (by decide)) (fun h => ?_) (fun h => ?_)
          · refine lv_iconst (v := (-1)) hx hb dX10_choiceAt_44 (by decide) ?_
            exact r_iret C hW (rt_T h) rfl dX10_choiceAt_45
          · refine lv_iload_n hx hb dX10_choiceAt_31 rfl (lv_at hl 2 rfl) ?_
            refine r_brn h (lv_if_ne (tgt := 44) hx hb dX10_choiceAt_32 (by decide)) (fun h => ?_) (fun h => ?_)
            · refine lv_iconst (v := (-1)) hx hb dX10_choiceAt_44 (by decide) ?_
              exact r_iret C hW (rt_T h) rfl dX10_choiceAt_45
            · refine lv_bipush (v := 9) hx hb dX10_choiceAt_35 (by decide) ?_
              refine lv_iload_n hx hb dX10_choiceAt_37 rfl (lv_at hl 0 rfl) ?_
              refine lv_imul hx hb dX10_choiceAt_38 ?_
              refine lv_iload_n hx hb dX10_choiceAt_39 rfl (lv_at hl 1 rfl) ?_
              refine lv_iadd hx hb dX10_choiceAt_40 ?_
              refine lv_goto (tgt := 45) hx hb dX10_choiceAt_41 (by decide) ?_
              exact r_iret C hW (rt_T h) rfl dX10_choiceAt_45
      · refine lv_iconst (v := (-1)) hx hb dX10_choiceAt_18 (by decide) ?_
        exact r_iret C hW (rt_T h) rfl dX10_choiceAt_19
set_option maxRecDepth 20000 in
set_option maxHeartbeats 2000000 in
theorem t_X10_choicesOf {X : Mx} {x0 : Int32} : MtI g l yX10_choicesOf cX10_choicesOf 1 (some .int) 0 0 [.int x0] σ X (f_X10_choicesOf x0, X) := by
  obtain ⟨r, h⟩ : ∃ r, f_X10_choicesOf x0 = r := ⟨_, rfl⟩
  rw [h]
  refine met_of mk_X10_choicesOf (Nat.le_of_ble_eq_true rfl) (fun p e s m args below meth c ls C hW hl => ?_)
  have hx := C.x
  have hb := C.b
  have hl : lv_has ls 1 [(0, .int x0)] := hl
  unfold f_X10_choicesOf at h
  refine lv_iload_n hx hb dX10_choicesOf_0 rfl (lv_at hl 0 rfl) ?_
  refine lv_iconst (v := 1) hx hb dX10_choicesOf_1 (by decide) ?_
  refine r_br h (lv_icmp_eq (tgt := 15) hx hb dX10_choicesOf_2 (by decide)) (fun h => ?_) (fun h => ?_)
  · refine lv_iconst (v := 3) hx hb dX10_choicesOf_15 (by decide) ?_
    refine lv_goto (tgt := 20) hx hb dX10_choicesOf_16 (by decide) ?_
    exact r_iret C hW (rt_T h) rfl dX10_choicesOf_20
  · refine lv_iload_n hx hb dX10_choicesOf_5 rfl (lv_at hl 0 rfl) ?_
    refine lv_iconst (v := 2) hx hb dX10_choicesOf_6 (by decide) ?_
    refine r_br h (lv_icmp_eq (tgt := 15) hx hb dX10_choicesOf_7 (by decide)) (fun h => ?_) (fun h => ?_)
    · refine lv_iconst (v := 3) hx hb dX10_choicesOf_15 (by decide) ?_
      refine lv_goto (tgt := 20) hx hb dX10_choicesOf_16 (by decide) ?_
      exact r_iret C hW (rt_T h) rfl dX10_choicesOf_20
    · refine lv_iload_n hx hb dX10_choicesOf_10 rfl (lv_at hl 0 rfl) ?_
      refine lv_iconst (v := 5) hx hb dX10_choicesOf_11 (by decide) ?_
      refine r_brn h (lv_icmp_ne (tgt := 19) hx hb dX10_choicesOf_12 (by decide)) (fun h => ?_) (fun h => ?_)
      · refine lv_iconst (v := 2) hx hb dX10_choicesOf_19 (by decide) ?_
        exact r_iret C hW (rt_T h) rfl dX10_choicesOf_20
      · refine lv_iconst (v := 3) hx hb dX10_choicesOf_15 (by decide) ?_
        refine lv_goto (tgt := 20) hx hb dX10_choicesOf_16 (by decide) ?_
        exact r_iret C hW (rt_T h) rfl dX10_choicesOf_20
theorem kd_X10_comesUp {X : Mx} {r : (Int32 × Mx)} {a : Nat} {x1 : Int32} {x2 : Int32} {x3 : Int32} {x4 : Int32} {x5 : Int32} {x6 : Int32} (h : f_X10_comesUp σ X a x1 x2 x3 x4 x5 x6 = some r) : shK σ a = 8 := (grd_inv h).1
set_option maxRecDepth 20000 in
set_option maxHeartbeats 2000000 in
theorem t_X10_comesUp {X : Mx} {r : (Int32 × Mx)} {a : Nat} {x1 : Int32} {x2 : Int32} {x3 : Int32} {x4 : Int32} {x5 : Int32} {x6 : Int32} (h : f_X10_comesUp σ X a x1 x2 x3 x4 x5 x6 = some r) : MtI g l yX10_comesUp cX10_comesUp 9 (some .int) 2 44 [.ref a, .int x1, .int x2, .int x3, .int x4, .int x5, .int x6] σ X r := by
  refine met_of mk_X10_comesUp (Nat.le_of_ble_eq_true rfl) (fun p e s m args below meth c ls C hW hl => ?_)
  have hx := C.x
  have hb := C.b
  have hl : lv_has ls 9 [(0, .ref a), (1, .int x1), (2, .int x2), (3, .int x3), (4, .int x4), (5, .int x5), (6, .int x6)] := hl
  unfold f_X10_comesUp at h
  obtain ⟨hk0, h⟩ := grd_inv h
  refine lv_iload_n hx hb dX10_comesUp_0 rfl (lv_at hl 2 rfl) ?_
  refine lv_iload_n hx hb dX10_comesUp_1 rfl (lv_at hl 3 rfl) ?_
  refine lv_iload hx hb dX10_comesUp_2 (lv_at hl 4 rfl) ?_
  refine r_cI hW (run_S (rest := []) C hW (t_X10_choiceAt (X := X)) mk_X10_choiceAt sk_X10_279 ⟨Nat.le_of_ble_eq_true rfl, Nat.le_of_ble_eq_true rfl⟩ ⟨Nat.zero_le _, Nat.zero_le _⟩ rfl rfl (Nat.le_of_ble_eq_true rfl) hl.1 dX10_comesUp_4) (fun H locs hW _ => ?_)
  refine lv_istore (lv' := [(7, .int (f_X10_choiceAt x2 x3 x4)), (0, .ref a), (1, .int x1), (2, .int x2), (3, .int x3), (4, .int x4), (5, .int x5), (6, .int x6)]) hx hb dX10_comesUp_7 hl (by decide) rfl (fun ls hl => ?_)
  refine lv_aload_n hx hb dX10_comesUp_9 rfl (lv_at hl 1 rfl) ?_
  refine r_gR C hW h fl_X10_44 (by decide) dX10_comesUp_10 (fun b1 h => ?_)
  refine lv_iload hx hb dX10_comesUp_13 (lv_at hl 0 rfl) ?_
  refine lv_iconst (v := 1) hx hb dX10_comesUp_15 (by decide) ?_
  refine r_iast C hW h dX10_comesUp_16 (fun X2 H locs h hW _ => ?_)
  refine lv_aload_n hx hb dX10_comesUp_17 rfl (lv_at hl 1 rfl) ?_
  refine r_gR C hW h fl_X10_20 (by decide) dX10_comesUp_18 (fun b3 h => ?_)
  refine lv_iload_n hx hb dX10_comesUp_21 rfl (lv_at hl 2 rfl) ?_
  refine lv_sipush (v := 615) hx hb dX10_comesUp_22 (by decide) ?_
  refine lv_iadd hx hb dX10_comesUp_25 ?_
  refine lv_iload hx hb dX10_comesUp_26 (lv_at hl 0 rfl) ?_
  refine lv_iadd hx hb dX10_comesUp_28 ?_
  refine r_iald C hW h dX10_comesUp_29 (fun v4 h => ?_)
  refine lv_istore (lv' := [(8, .int v4), (7, .int (f_X10_choiceAt x2 x3 x4)), (0, .ref a), (1, .int x1), (2, .int x2), (3, .int x3), (4, .int x4), (5, .int x5), (6, .int x6)]) hx hb dX10_comesUp_30 hl (by decide) rfl (fun ls hl => ?_)
  refine lv_iload hx hb dX10_comesUp_32 (lv_at hl 0 rfl) ?_
  refine lv_iconst (v := (-1)) hx hb dX10_comesUp_34 (by decide) ?_
  refine r_br h (lv_icmp_eq (tgt := 41) hx hb dX10_comesUp_35 (by decide)) (fun h => ?_) (fun h => ?_)
  · refine lv_aload_n hx hb dX10_comesUp_41 rfl (lv_at hl 2 rfl) ?_
    refine r_gR C hW h fl_X10_41 (by decide) dX10_comesUp_42 (fun b5 h => ?_)
    refine lv_iconst (v := 5) hx hb dX10_comesUp_45 (by decide) ?_
    refine lv_aload_n hx hb dX10_comesUp_46 rfl (lv_at hl 2 rfl) ?_
    refine r_gI C hW h fl_X10_282 (by decide) dX10_comesUp_47 (fun v6 h => ?_)
    refine lv_imul hx hb dX10_comesUp_50 ?_
    refine lv_iload_n hx hb dX10_comesUp_51 rfl (lv_at hl 4 rfl) ?_
    refine r_iast C hW h dX10_comesUp_52 (fun X7 H locs h hW _ => ?_)
    refine lv_aload_n hx hb dX10_comesUp_53 rfl (lv_at hl 2 rfl) ?_
    refine r_gR C hW h fl_X10_41 (by decide) dX10_comesUp_54 (fun b8 h => ?_)
    refine lv_iconst (v := 5) hx hb dX10_comesUp_57 (by decide) ?_
    refine lv_aload_n hx hb dX10_comesUp_58 rfl (lv_at hl 2 rfl) ?_
    refine r_gI C hW h fl_X10_282 (by decide) dX10_comesUp_59 (fun v9 h => ?_)
    refine lv_imul hx hb dX10_comesUp_62 ?_
    refine lv_iconst (v := 1) hx hb dX10_comesUp_63 (by decide) ?_
    refine lv_iadd hx hb dX10_comesUp_64 ?_
    refine lv_iload_n hx hb dX10_comesUp_65 rfl (lv_at hl 5 rfl) ?_
    refine r_iast C hW h dX10_comesUp_66 (fun X10 H locs h hW _ => ?_)
    refine lv_aload_n hx hb dX10_comesUp_67 rfl (lv_at hl 2 rfl) ?_
    refine r_gR C hW h fl_X10_41 (by decide) dX10_comesUp_68 (fun b11 h => ?_)
    refine lv_iconst (v := 5) hx hb dX10_comesUp_71 (by decide) ?_
    refine lv_aload_n hx hb dX10_comesUp_72 rfl (lv_at hl 2 rfl) ?_
    refine r_gI C hW h fl_X10_282 (by decide) dX10_comesUp_73 (fun v12 h => ?_)
    refine lv_imul hx hb dX10_comesUp_76 ?_
    refine lv_iconst (v := 2) hx hb dX10_comesUp_77 (by decide) ?_
    refine lv_iadd hx hb dX10_comesUp_78 ?_
    refine lv_iload hx hb dX10_comesUp_79 (lv_at hl 6 rfl) ?_
    refine r_iast C hW h dX10_comesUp_81 (fun X13 H locs h hW _ => ?_)
    refine lv_aload_n hx hb dX10_comesUp_82 rfl (lv_at hl 2 rfl) ?_
    refine r_gR C hW h fl_X10_41 (by decide) dX10_comesUp_83 (fun b14 h => ?_)
    refine lv_iconst (v := 5) hx hb dX10_comesUp_86 (by decide) ?_
    refine lv_aload_n hx hb dX10_comesUp_87 rfl (lv_at hl 2 rfl) ?_
    refine r_gI C hW h fl_X10_282 (by decide) dX10_comesUp_88 (fun v15 h => ?_)
    refine lv_imul hx hb dX10_comesUp_91 ?_
    refine lv_iconst (v := 3) hx hb dX10_comesUp_92 (by decide) ?_
    refine lv_iadd hx hb dX10_comesUp_93 ?_
    refine lv_iload hx hb dX10_comesUp_94 (lv_at hl 7 rfl) ?_
    refine r_iast C hW h dX10_comesUp_96 (fun X16 H locs h hW _ => ?_)
    refine lv_aload_n hx hb dX10_comesUp_97 rfl (lv_at hl 2 rfl) ?_
    refine r_gR C hW h fl_X10_41 (by decide) dX10_comesUp_98 (fun b17 h => ?_)
    refine lv_iconst (v := 5) hx hb dX10_comesUp_101 (by decide) ?_
    refine lv_aload_n hx hb dX10_comesUp_102 rfl (lv_at hl 2 rfl) ?_
    refine r_gI C hW h fl_X10_282 (by decide) dX10_comesUp_103 (fun v18 h => ?_)
    refine lv_imul hx hb dX10_comesUp_106 ?_
    refine lv_iconst (v := 4) hx hb dX10_comesUp_107 (by decide) ?_
    refine lv_iadd hx hb dX10_comesUp_108 ?_
    refine lv_iload hx hb dX10_comesUp_109 (lv_at hl 8 rfl) ?_
    refine r_iast C hW h dX10_comesUp_111 (fun X19 H locs h hW _ => ?_)
    refine lv_aload_n hx hb dX10_comesUp_112 rfl (lv_at hl 2 rfl) ?_
    refine lv_dup hx hb dX10_comesUp_113 rfl ?_
    refine r_gI C hW h fl_X10_282 (by decide) dX10_comesUp_114 (fun v20 h => ?_)
    refine lv_iconst (v := 1) hx hb dX10_comesUp_117 (by decide) ?_
    refine lv_iadd hx hb dX10_comesUp_118 ?_
    refine r_pI C hW h pf_X10_282 (by decide) rfl rfl dX10_comesUp_119 (fun X21 H locs h hW _ => ?_)
    refine lv_iconst (v := (-1)) hx hb dX10_comesUp_122 (by decide) ?_
    exact r_iret C hW (Option.some.inj h).symm rfl dX10_comesUp_123
  · refine lv_iload hx hb dX10_comesUp_38 (lv_at hl 0 rfl) ?_
    exact r_iret C hW (Option.some.inj h).symm rfl dX10_comesUp_40
theorem kd_X10_baseCell {X : Mx} {r : Int32} {a : Nat} {x1 : Int32} {x2 : Int32} {x3 : Int32} (h : f_X10_baseCell σ X a x1 x2 x3 = some r) : shK σ a = 8 := (grd_inv h).1
set_option maxRecDepth 20000 in
set_option maxHeartbeats 2000000 in
theorem t_X10_baseCell {X : Mx} {r : Int32} {a : Nat} {x1 : Int32} {x2 : Int32} {x3 : Int32} (h : f_X10_baseCell σ X a x1 x2 x3 = some r) : MtI g l yX10_baseCell cX10_baseCell 4 (some .int) 2 45 [.ref a, .int x1, .int x2, .int x3] σ X (r, X) := by
  refine met_of mk_X10_baseCell (Nat.le_of_ble_eq_true rfl) (fun p e s m args below meth c ls C hW hl => ?_)
  have hx := C.x
  have hb := C.b
  have hl : lv_has ls 4 [(0, .ref a), (1, .int x1), (2, .int x2), (3, .int x3)] := hl
  unfold f_X10_baseCell at h
  obtain ⟨hk0, h⟩ := grd_inv h
  refine lv_aload_n hx hb dX10_baseCell_0 rfl (lv_at hl 0 rfl) ?_
  refine lv_iload_n hx hb dX10_baseCell_1 rfl (lv_at hl 1 rfl) ?_
  refine lv_iconst (v := 2) hx hb dX10_baseCell_2 (by decide) ?_
  refine lv_iload_n hx hb dX10_baseCell_3 rfl (lv_at hl 2 rfl) ?_
  obtain ⟨v2, h1, h⟩ := bnd_inv h
  refine r_cI hW (run_V (rest := []) C hW (t_X10_hasRow h1) mk_X10_hasRow vk_X10_160 (kd_X10_hasRow h1) rfl rfl (by decide) ⟨Nat.le_of_ble_eq_true rfl, Nat.le_of_ble_eq_true rfl⟩ ⟨Nat.zero_le _, Nat.zero_le _⟩ rfl rfl (Nat.le_of_ble_eq_true rfl) hl.1 dX10_baseCell_4) (fun H locs hW _ => ?_)
  refine r_br h (lv_if_eq (tgt := 35) hx hb dX10_baseCell_7 (by decide)) (fun h => ?_) (fun h => ?_)
  · refine lv_sipush (v := 9999) hx hb dX10_baseCell_35 (by decide) ?_
    exact r_iret C hW (rt_R h) rfl dX10_baseCell_38
  · refine lv_aload_n hx hb dX10_baseCell_10 rfl (lv_at hl 0 rfl) ?_
    refine lv_iload_n hx hb dX10_baseCell_11 rfl (lv_at hl 1 rfl) ?_
    refine lv_iconst (v := 2) hx hb dX10_baseCell_12 (by decide) ?_
    refine lv_iload_n hx hb dX10_baseCell_13 rfl (lv_at hl 3 rfl) ?_
    obtain ⟨v4, h3, h⟩ := bnd_inv h
    refine r_cI hW (run_V (rest := []) C hW (t_X10_hasColumn h3) mk_X10_hasColumn vk_X10_234 (kd_X10_hasColumn h3) rfl rfl (by decide) ⟨Nat.le_of_ble_eq_true rfl, Nat.le_of_ble_eq_true rfl⟩ ⟨Nat.zero_le _, Nat.zero_le _⟩ rfl rfl (Nat.le_of_ble_eq_true rfl) hl.1 dX10_baseCell_14) (fun H locs hW _ => ?_)
    refine r_br h (lv_if_eq (tgt := 35) hx hb dX10_baseCell_17 (by decide)) (fun h => ?_) (fun h => ?_)
    · refine lv_sipush (v := 9999) hx hb dX10_baseCell_35 (by decide) ?_
      exact r_iret C hW (rt_R h) rfl dX10_baseCell_38
    · refine lv_aload_n hx hb dX10_baseCell_20 rfl (lv_at hl 0 rfl) ?_
      refine r_gR C hW h fl_X10_20 (by decide) dX10_baseCell_21 (fun b5 h => ?_)
      refine lv_iload_n hx hb dX10_baseCell_24 rfl (lv_at hl 1 rfl) ?_
      refine lv_iconst (v := 2) hx hb dX10_baseCell_25 (by decide) ?_
      refine lv_iload_n hx hb dX10_baseCell_26 rfl (lv_at hl 2 rfl) ?_
      refine lv_iload_n hx hb dX10_baseCell_27 rfl (lv_at hl 3 rfl) ?_
      refine r_cI hW (run_S (rest := [.ref b5]) C hW (t_X10_cellAt (X := X)) mk_X10_cellAt sk_X10_174 ⟨Nat.le_of_ble_eq_true rfl, Nat.le_of_ble_eq_true rfl⟩ ⟨Nat.zero_le _, Nat.zero_le _⟩ rfl rfl (Nat.le_of_ble_eq_true rfl) hl.1 dX10_baseCell_28) (fun H locs hW _ => ?_)
      refine r_iald C hW h dX10_baseCell_31 (fun v6 h => ?_)
      refine lv_goto (tgt := 38) hx hb dX10_baseCell_32 (by decide) ?_
      exact r_iret C hW (rt_R h) rfl dX10_baseCell_38
theorem kd_X10_isChanged {X : Mx} {r : Int32} {a : Nat} {x1 : Int32} {x2 : Int32} {x3 : Int32} {x4 : Int32} (h : f_X10_isChanged σ X a x1 x2 x3 x4 = some r) : shK σ a = 8 := (grd_inv h).1
set_option maxRecDepth 20000 in
set_option maxHeartbeats 2000000 in
theorem t_X10_isChanged {X : Mx} {r : Int32} {a : Nat} {x1 : Int32} {x2 : Int32} {x3 : Int32} {x4 : Int32} (h : f_X10_isChanged σ X a x1 x2 x3 x4 = some r) : MtI g l yX10_isChanged cX10_isChanged 5 (some .boolean) 3 68 [.ref a, .int x1, .int x2, .int x3, .int x4] σ X (r, X) := by
  refine met_of mk_X10_isChanged (Nat.le_of_ble_eq_true rfl) (fun p e s m args below meth c ls C hW hl => ?_)
  have hx := C.x
  have hb := C.b
  have hl : lv_has ls 5 [(0, .ref a), (1, .int x1), (2, .int x2), (3, .int x3), (4, .int x4)] := hl
  unfold f_X10_isChanged at h
  obtain ⟨hk0, h⟩ := grd_inv h
  refine lv_aload_n hx hb dX10_isChanged_0 rfl (lv_at hl 0 rfl) ?_
  refine lv_iload_n hx hb dX10_isChanged_1 rfl (lv_at hl 1 rfl) ?_
  refine lv_iload_n hx hb dX10_isChanged_2 rfl (lv_at hl 2 rfl) ?_
  refine lv_iload_n hx hb dX10_isChanged_3 rfl (lv_at hl 3 rfl) ?_
  obtain ⟨v2, h1, h⟩ := bnd_inv h
  refine r_cI hW (run_V (rest := []) C hW (t_X10_hasRow h1) mk_X10_hasRow vk_X10_160 (kd_X10_hasRow h1) rfl rfl (by decide) ⟨Nat.le_of_ble_eq_true rfl, Nat.le_of_ble_eq_true rfl⟩ ⟨Nat.zero_le _, Nat.zero_le _⟩ rfl rfl (Nat.le_of_ble_eq_true rfl) hl.1 dX10_isChanged_4) (fun H locs hW _ => ?_)
  refine r_br h (lv_if_eq (tgt := 60) hx hb dX10_isChanged_7 (by decide)) (fun h => ?_) (fun h => ?_)
  · refine lv_iconst (v := 0) hx hb dX10_isChanged_60 (by decide) ?_
    exact r_iret C hW (rt_R h) rfl dX10_isChanged_61
  · refine lv_aload_n hx hb dX10_isChanged_10 rfl (lv_at hl 0 rfl) ?_
    refine lv_iload_n hx hb dX10_isChanged_11 rfl (lv_at hl 1 rfl) ?_
    refine lv_iload_n hx hb dX10_isChanged_12 rfl (lv_at hl 2 rfl) ?_
    refine lv_iload hx hb dX10_isChanged_13 (lv_at hl 4 rfl) ?_
    obtain ⟨v4, h3, h⟩ := bnd_inv h
    refine r_cI hW (run_V (rest := []) C hW (t_X10_hasColumn h3) mk_X10_hasColumn vk_X10_234 (kd_X10_hasColumn h3) rfl rfl (by decide) ⟨Nat.le_of_ble_eq_true rfl, Nat.le_of_ble_eq_true rfl⟩ ⟨Nat.zero_le _, Nat.zero_le _⟩ rfl rfl (Nat.le_of_ble_eq_true rfl) hl.1 dX10_isChanged_15) (fun H locs hW _ => ?_)
    refine r_br h (lv_if_eq (tgt := 60) hx hb dX10_isChanged_18 (by decide)) (fun h => ?_) (fun h => ?_)
    · refine lv_iconst (v := 0) hx hb dX10_isChanged_60 (by decide) ?_
      exact r_iret C hW (rt_R h) rfl dX10_isChanged_61
    · refine lv_aload_n hx hb dX10_isChanged_21 rfl (lv_at hl 0 rfl) ?_
      refine r_gR C hW h fl_X10_20 (by decide) dX10_isChanged_22 (fun b5 h => ?_)
      refine lv_iload_n hx hb dX10_isChanged_25 rfl (lv_at hl 1 rfl) ?_
      refine lv_iload_n hx hb dX10_isChanged_26 rfl (lv_at hl 2 rfl) ?_
      refine lv_iload_n hx hb dX10_isChanged_27 rfl (lv_at hl 3 rfl) ?_
      refine lv_iload hx hb dX10_isChanged_28 (lv_at hl 4 rfl) ?_
      refine r_cI hW (run_S (rest := [.ref b5]) C hW (t_X10_cellAt (X := X)) mk_X10_cellAt sk_X10_174 ⟨Nat.le_of_ble_eq_true rfl, Nat.le_of_ble_eq_true rfl⟩ ⟨Nat.zero_le _, Nat.zero_le _⟩ rfl rfl (Nat.le_of_ble_eq_true rfl) hl.1 dX10_isChanged_30) (fun H locs hW _ => ?_)
      refine r_iald C hW h dX10_isChanged_33 (fun v6 h => ?_)
      refine lv_aload_n hx hb dX10_isChanged_34 rfl (lv_at hl 0 rfl) ?_
      refine lv_iload_n hx hb dX10_isChanged_35 rfl (lv_at hl 1 rfl) ?_
      refine lv_iload_n hx hb dX10_isChanged_36 rfl (lv_at hl 2 rfl) ?_
      refine lv_iload hx hb dX10_isChanged_37 (lv_at hl 4 rfl) ?_
      obtain ⟨v8, h7, h⟩ := bnd_inv h
      refine r_cI hW (run_V (rest := [.int v6]) C hW (t_X10_typeAt h7) mk_X10_typeAt vk_X10_166 (kd_X10_typeAt h7) rfl rfl (by decide) ⟨Nat.le_of_ble_eq_true rfl, Nat.le_of_ble_eq_true rfl⟩ ⟨Nat.zero_le _, Nat.zero_le _⟩ rfl rfl (Nat.le_of_ble_eq_true rfl) hl.1 dX10_isChanged_39) (fun H locs hW _ => ?_)
      refine lv_aload_n hx hb dX10_isChanged_42 rfl (lv_at hl 0 rfl) ?_
      refine lv_iload_n hx hb dX10_isChanged_43 rfl (lv_at hl 1 rfl) ?_
      refine lv_iload_n hx hb dX10_isChanged_44 rfl (lv_at hl 3 rfl) ?_
      refine lv_iload hx hb dX10_isChanged_45 (lv_at hl 4 rfl) ?_
      obtain ⟨v10, h9, h⟩ := bnd_inv h
      refine r_cI hW (run_V (rest := [.int v8, .int v6]) C hW (t_X10_baseCell h9) mk_X10_baseCell vk_X10_285 (kd_X10_baseCell h9) rfl rfl (by decide) ⟨Nat.le_of_ble_eq_true rfl, Nat.le_of_ble_eq_true rfl⟩ ⟨Nat.zero_le _, Nat.zero_le _⟩ rfl rfl (Nat.le_of_ble_eq_true rfl) hl.1 dX10_isChanged_47) (fun H locs hW _ => ?_)
      refine r_cI hW (run_S (rest := [.int v6]) C hW (t_X10_castTo (X := X)) mk_X10_castTo sk_X10_243 ⟨Nat.le_of_ble_eq_true rfl, Nat.le_of_ble_eq_true rfl⟩ ⟨Nat.zero_le _, Nat.zero_le _⟩ rfl rfl (Nat.le_of_ble_eq_true rfl) hl.1 dX10_isChanged_50) (fun H locs hW _ => ?_)
      refine r_br h (lv_icmp_eq (tgt := 60) hx hb dX10_isChanged_53 (by decide)) (fun h => ?_) (fun h => ?_)
      · refine lv_iconst (v := 0) hx hb dX10_isChanged_60 (by decide) ?_
        exact r_iret C hW (rt_R h) rfl dX10_isChanged_61
      · refine lv_iconst (v := 1) hx hb dX10_isChanged_56 (by decide) ?_
        refine lv_goto (tgt := 61) hx hb dX10_isChanged_57 (by decide) ?_
        exact r_iret C hW (rt_R h) rfl dX10_isChanged_61
set_option maxRecDepth 20000 in
set_option maxHeartbeats 2000000 in
theorem b_X10_isColumnChanged_3 {a : Nat} {x1 : Int32} {x2 : Int32} {x3 : Int32} (C : Cx g RX10 cX10_isColumnChanged 5 (some .boolean) p s m args meth c) {r : Int32} {X : Mx} : ∀ (n : Nat) {x4 : Int32} {H : Heap} {locs : List Loc} {ls : Array Slot} (hW : Wd g σ X s H locs) (hl : lv_has ls 5 [(0, .ref a), (1, .int x1), (2, .int x2), (3, .int x3), (4, .int x4)]) (h : f_X10_isColumnChanged_3 σ X a x1 x2 x3 n x4 = some r), W p l e (rmZ 4 92) s m args below meth c H locs 0 0 (QI g σ below args s (r, X)) (F0 m 3 ls []) := by
  have hx := C.x
  have hb := C.b
  intro n
  induction n with
  | zero =>
    intro x4 H locs ls hW hl h
    cases (show none = some r from h)
  | succ n ih =>
    intro x4 H locs ls hW hl h
    rw [f_X10_isColumnChanged_3] at h
    refine lv_iload hx hb dX10_isColumnChanged_3 (lv_at hl 4 rfl) ?_
    refine lv_bipush (v := 20) hx hb dX10_isColumnChanged_5 (by decide) ?_
    refine r_br h (lv_icmp_ge (tgt := 30) hx hb dX10_isColumnChanged_7 (by decide)) (fun h => ?_) (fun h => ?_)
    · refine lv_aload_n hx hb dX10_isColumnChanged_30 rfl (lv_at hl 0 rfl) ?_
      refine lv_iload_n hx hb dX10_isColumnChanged_31 rfl (lv_at hl 1 rfl) ?_
      refine lv_iload_n hx hb dX10_isColumnChanged_32 rfl (lv_at hl 2 rfl) ?_
      refine lv_iload_n hx hb dX10_isColumnChanged_33 rfl (lv_at hl 3 rfl) ?_
      obtain ⟨v2, h1, h⟩ := bnd_inv h
      refine r_cI hW (run_V (rest := []) C hW (t_X10_nameAt h1) mk_X10_nameAt vk_X10_237 (kd_X10_nameAt h1) rfl rfl (by decide) ⟨Nat.le_of_ble_eq_true rfl, Nat.le_of_ble_eq_true rfl⟩ ⟨Nat.zero_le _, Nat.zero_le _⟩ rfl rfl (Nat.le_of_ble_eq_true rfl) hl.1 dX10_isColumnChanged_34) (fun H locs hW _ => ?_)
      refine lv_aload_n hx hb dX10_isColumnChanged_37 rfl (lv_at hl 0 rfl) ?_
      refine lv_iload_n hx hb dX10_isColumnChanged_38 rfl (lv_at hl 1 rfl) ?_
      refine lv_iconst (v := 2) hx hb dX10_isColumnChanged_39 (by decide) ?_
      refine lv_iload_n hx hb dX10_isColumnChanged_40 rfl (lv_at hl 3 rfl) ?_
      obtain ⟨v4, h3, h⟩ := bnd_inv h
      refine r_cI hW (run_V (rest := [.int v2]) C hW (t_X10_nameAt h3) mk_X10_nameAt vk_X10_237 (kd_X10_nameAt h3) rfl rfl (by decide) ⟨Nat.le_of_ble_eq_true rfl, Nat.le_of_ble_eq_true rfl⟩ ⟨Nat.zero_le _, Nat.zero_le _⟩ rfl rfl (Nat.le_of_ble_eq_true rfl) hl.1 dX10_isColumnChanged_41) (fun H locs hW _ => ?_)
      refine r_brn h (lv_icmp_ne (tgt := 64) hx hb dX10_isColumnChanged_44 (by decide)) (fun h => ?_) (fun h => ?_)
      · refine lv_iconst (v := 1) hx hb dX10_isColumnChanged_64 (by decide) ?_
        refine lv_goto (tgt := 69) hx hb dX10_isColumnChanged_65 (by decide) ?_
        exact r_iret C hW (rt_R h) rfl dX10_isColumnChanged_69
      · refine lv_aload_n hx hb dX10_isColumnChanged_47 rfl (lv_at hl 0 rfl) ?_
        refine lv_iload_n hx hb dX10_isColumnChanged_48 rfl (lv_at hl 1 rfl) ?_
        refine lv_iload_n hx hb dX10_isColumnChanged_49 rfl (lv_at hl 2 rfl) ?_
        refine lv_iload_n hx hb dX10_isColumnChanged_50 rfl (lv_at hl 3 rfl) ?_
        obtain ⟨v6, h5, h⟩ := bnd_inv h
        refine r_cI hW (run_V (rest := []) C hW (t_X10_typeAt h5) mk_X10_typeAt vk_X10_166 (kd_X10_typeAt h5) rfl rfl (by decide) ⟨Nat.le_of_ble_eq_true rfl, Nat.le_of_ble_eq_true rfl⟩ ⟨Nat.zero_le _, Nat.zero_le _⟩ rfl rfl (Nat.le_of_ble_eq_true rfl) hl.1 dX10_isColumnChanged_51) (fun H locs hW _ => ?_)
        refine lv_aload_n hx hb dX10_isColumnChanged_54 rfl (lv_at hl 0 rfl) ?_
        refine lv_iload_n hx hb dX10_isColumnChanged_55 rfl (lv_at hl 1 rfl) ?_
        refine lv_iconst (v := 2) hx hb dX10_isColumnChanged_56 (by decide) ?_
        refine lv_iload_n hx hb dX10_isColumnChanged_57 rfl (lv_at hl 3 rfl) ?_
        obtain ⟨v8, h7, h⟩ := bnd_inv h
        refine r_cI hW (run_V (rest := [.int v6]) C hW (t_X10_typeAt h7) mk_X10_typeAt vk_X10_166 (kd_X10_typeAt h7) rfl rfl (by decide) ⟨Nat.le_of_ble_eq_true rfl, Nat.le_of_ble_eq_true rfl⟩ ⟨Nat.zero_le _, Nat.zero_le _⟩ rfl rfl (Nat.le_of_ble_eq_true rfl) hl.1 dX10_isColumnChanged_58) (fun H locs hW _ => ?_)
        refine r_br h (lv_icmp_eq (tgt := 68) hx hb dX10_isColumnChanged_61 (by decide)) (fun h => ?_) (fun h => ?_)
        · refine lv_iconst (v := 0) hx hb dX10_isColumnChanged_68 (by decide) ?_
          exact r_iret C hW (rt_R h) rfl dX10_isColumnChanged_69
        · refine lv_iconst (v := 1) hx hb dX10_isColumnChanged_64 (by decide) ?_
          refine lv_goto (tgt := 69) hx hb dX10_isColumnChanged_65 (by decide) ?_
          exact r_iret C hW (rt_R h) rfl dX10_isColumnChanged_69
    · refine lv_aload_n hx hb dX10_isColumnChanged_10 rfl (lv_at hl 0 rfl) ?_
      refine lv_iload_n hx hb dX10_isColumnChanged_11 rfl (lv_at hl 1 rfl) ?_
      refine lv_iload_n hx hb dX10_isColumnChanged_12 rfl (lv_at hl 2 rfl) ?_
      refine lv_iload hx hb dX10_isColumnChanged_13 (lv_at hl 4 rfl) ?_
      refine lv_iload_n hx hb dX10_isColumnChanged_15 rfl (lv_at hl 3 rfl) ?_
      obtain ⟨v10, h9, h⟩ := bnd_inv h
      refine r_cI hW (run_V (rest := []) C hW (t_X10_isChanged h9) mk_X10_isChanged vk_X10_288 (kd_X10_isChanged h9) rfl rfl (by decide) ⟨Nat.le_of_ble_eq_true rfl, Nat.le_of_ble_eq_true rfl⟩ ⟨Nat.zero_le _, Nat.zero_le _⟩ rfl rfl (Nat.le_of_ble_eq_true rfl) hl.1 dX10_isColumnChanged_16) (fun H locs hW _ => ?_)
      refine r_br h (lv_if_eq (tgt := 24) hx hb dX10_isColumnChanged_19 (by decide)) (fun h => ?_) (fun h => ?_)
      · refine lv_iinc (v := (x4 + 1)) (lv' := [(4, .int (x4 + 1)), (0, .ref a), (1, .int x1), (2, .int x2), (3, .int x3)]) hx hb dX10_isColumnChanged_24 hl (k := 4) rfl rfl (by decide) rfl (fun ls hl => ?_)
        refine lv_goto (tgt := 3) hx hb dX10_isColumnChanged_27 (by decide) ?_
        exact ih hW (lv_sub hl [1, 2, 3, 4, 0] rfl) h
      · refine lv_iconst (v := 1) hx hb dX10_isColumnChanged_22 (by decide) ?_
        exact r_iret C hW (rt_R h) rfl dX10_isColumnChanged_23
theorem kd_X10_isColumnChanged {X : Mx} {r : Int32} {a : Nat} {x1 : Int32} {x2 : Int32} {x3 : Int32} (h : f_X10_isColumnChanged σ X a x1 x2 x3 = some r) : shK σ a = 8 := (grd_inv h).1
set_option maxRecDepth 20000 in
set_option maxHeartbeats 2000000 in
theorem t_X10_isColumnChanged {X : Mx} {r : Int32} {a : Nat} {x1 : Int32} {x2 : Int32} {x3 : Int32} (h : f_X10_isColumnChanged σ X a x1 x2 x3 = some r) : MtI g l yX10_isColumnChanged cX10_isColumnChanged 5 (some .boolean) 4 92 [.ref a, .int x1, .int x2, .int x3] σ X (r, X) := by
  refine met_of mk_X10_isColumnChanged (Nat.le_of_ble_eq_true rfl) (fun p e s m args below meth c ls C hW hl => ?_)
  have hx := C.x
  have hb := C.b
  have hl : lv_has ls 5 [(0, .ref a), (1, .int x1), (2, .int x2), (3, .int x3)] := hl
  unfold f_X10_isColumnChanged at h
  obtain ⟨hk0, h⟩ := grd_inv h
  refine lv_iconst (v := 0) hx hb dX10_isColumnChanged_0 (by decide) ?_
  refine lv_istore (lv' := [(4, .int 0), (0, .ref a), (1, .int x1), (2, .int x2), (3, .int x3)]) hx hb dX10_isColumnChanged_1 hl (by decide) rfl (fun ls hl => ?_)
  exact b_X10_isColumnChanged_3 C FU hW (lv_sub hl [1, 2, 3, 4, 0] rfl) h
set_option maxRecDepth 20000 in
set_option maxHeartbeats 2000000 in
theorem b_X10_isRowChanged_3 {a : Nat} {x1 : Int32} {x2 : Int32} {x3 : Int32} (C : Cx g RX10 cX10_isRowChanged 5 (some .boolean) p s m args meth c) {r : Int32} {X : Mx} : ∀ (n : Nat) {x4 : Int32} {H : Heap} {locs : List Loc} {ls : Array Slot} (hW : Wd g σ X s H locs) (hl : lv_has ls 5 [(0, .ref a), (1, .int x1), (2, .int x2), (3, .int x3), (4, .int x4)]) (h : f_X10_isRowChanged_3 σ X a x1 x2 x3 n x4 = some r), W p l e (rmZ 4 92) s m args below meth c H locs 0 0 (QI g σ below args s (r, X)) (F0 m 3 ls []) := by
  have hx := C.x
  have hb := C.b
  intro n
  induction n with
  | zero =>
    intro x4 H locs ls hW hl h
    cases (show none = some r from h)
  | succ n ih =>
    intro x4 H locs ls hW hl h
    rw [f_X10_isRowChanged_3] at h
    refine lv_iload hx hb dX10_isRowChanged_3 (lv_at hl 4 rfl) ?_
    refine lv_bipush (v := 9) hx hb dX10_isRowChanged_5 (by decide) ?_
    refine r_br h (lv_icmp_ge (tgt := 30) hx hb dX10_isRowChanged_7 (by decide)) (fun h => ?_) (fun h => ?_)
    · refine lv_iconst (v := 0) hx hb dX10_isRowChanged_30 (by decide) ?_
      exact r_iret C hW (rt_R h) rfl dX10_isRowChanged_31
    · refine lv_aload_n hx hb dX10_isRowChanged_10 rfl (lv_at hl 0 rfl) ?_
      refine lv_iload_n hx hb dX10_isRowChanged_11 rfl (lv_at hl 1 rfl) ?_
      refine lv_iload_n hx hb dX10_isRowChanged_12 rfl (lv_at hl 2 rfl) ?_
      refine lv_iload_n hx hb dX10_isRowChanged_13 rfl (lv_at hl 3 rfl) ?_
      refine lv_iload hx hb dX10_isRowChanged_14 (lv_at hl 4 rfl) ?_
      obtain ⟨v2, h1, h⟩ := bnd_inv h
      refine r_cI hW (run_V (rest := []) C hW (t_X10_isChanged h1) mk_X10_isChanged vk_X10_288 (kd_X10_isChanged h1) rfl rfl (by decide) ⟨Nat.le_of_ble_eq_true rfl, Nat.le_of_ble_eq_true rfl⟩ ⟨Nat.zero_le _, Nat.zero_le _⟩ rfl rfl (Nat.le_of_ble_eq_true rfl) hl.1 dX10_isRowChanged_16) (fun H locs hW _ => ?_)
      refine r_br h (lv_if_eq (tgt := 24) hx hb dX10_isRowChanged_19 (by decide)) (fun h => ?_) (fun h => ?_)
      · refine lv_iinc (v := (x4 + 1)) (lv' := [(4, .int (x4 + 1)), (0, .ref a), (1, .int x1), (2, .int x2), (3, .int x3)]) hx hb dX10_isRowChanged_24 hl (k := 4) rfl rfl (by decide) rfl (fun ls hl => ?_)
        refine lv_goto (tgt := 3) hx hb dX10_isRowChanged_27 (by decide) ?_
        exact ih hW (lv_sub hl [1, 2, 3, 4, 0] rfl) h
      · refine lv_iconst (v := 1) hx hb dX10_isRowChanged_22 (by decide) ?_
        exact r_iret C hW (rt_R h) rfl dX10_isRowChanged_23
theorem kd_X10_isRowChanged {X : Mx} {r : Int32} {a : Nat} {x1 : Int32} {x2 : Int32} {x3 : Int32} (h : f_X10_isRowChanged σ X a x1 x2 x3 = some r) : shK σ a = 8 := (grd_inv h).1
set_option maxRecDepth 20000 in
set_option maxHeartbeats 2000000 in
theorem t_X10_isRowChanged {X : Mx} {r : Int32} {a : Nat} {x1 : Int32} {x2 : Int32} {x3 : Int32} (h : f_X10_isRowChanged σ X a x1 x2 x3 = some r) : MtI g l yX10_isRowChanged cX10_isRowChanged 5 (some .boolean) 4 92 [.ref a, .int x1, .int x2, .int x3] σ X (r, X) := by
  refine met_of mk_X10_isRowChanged (Nat.le_of_ble_eq_true rfl) (fun p e s m args below meth c ls C hW hl => ?_)
  have hx := C.x
  have hb := C.b
  have hl : lv_has ls 5 [(0, .ref a), (1, .int x1), (2, .int x2), (3, .int x3)] := hl
  unfold f_X10_isRowChanged at h
  obtain ⟨hk0, h⟩ := grd_inv h
  refine lv_iconst (v := 0) hx hb dX10_isRowChanged_0 (by decide) ?_
  refine lv_istore (lv' := [(4, .int 0), (0, .ref a), (1, .int x1), (2, .int x2), (3, .int x3)]) hx hb dX10_isRowChanged_1 hl (by decide) rfl (fun ls hl => ?_)
  exact b_X10_isRowChanged_3 C FU hW (lv_sub hl [1, 2, 3, 4, 0] rfl) h
theorem kd_X10_takes {X : Mx} {r : Mx} {a : Nat} {x1 : Int32} {x2 : Int32} {x3 : Int32} (h : f_X10_takes σ X a x1 x2 x3 = some r) : shK σ a = 8 := (grd_inv h).1
set_option maxRecDepth 20000 in
set_option maxHeartbeats 2000000 in
theorem t_X10_takes {X : Mx} {r : Mx} {a : Nat} {x1 : Int32} {x2 : Int32} {x3 : Int32} (h : f_X10_takes σ X a x1 x2 x3 = some r) : MtV g l yX10_takes cX10_takes 4 none 0 0 [.ref a, .int x1, .int x2, .int x3] σ X r := by
  refine met_of mk_X10_takes (Nat.le_of_ble_eq_true rfl) (fun p e s m args below meth c ls C hW hl => ?_)
  have hx := C.x
  have hb := C.b
  have hl : lv_has ls 4 [(0, .ref a), (1, .int x1), (2, .int x2), (3, .int x3)] := hl
  unfold f_X10_takes at h
  obtain ⟨hk0, h⟩ := grd_inv h
  refine lv_aload_n hx hb dX10_takes_0 rfl (lv_at hl 0 rfl) ?_
  refine lv_dup hx hb dX10_takes_1 rfl ?_
  refine r_gI C hW h fl_X10_291 (by decide) dX10_takes_2 (fun v1 h => ?_)
  refine lv_iconst (v := 1) hx hb dX10_takes_5 (by decide) ?_
  refine lv_iload_n hx hb dX10_takes_6 rfl (lv_at hl 1 rfl) ?_
  refine lv_ishl hx hb dX10_takes_7 ?_
  refine lv_ior hx hb dX10_takes_8 ?_
  refine r_pI C hW h pf_X10_291 (by decide) rfl rfl dX10_takes_9 (fun X2 H locs h hW _ => ?_)
  refine lv_aload_n hx hb dX10_takes_12 rfl (lv_at hl 0 rfl) ?_
  refine r_gR C hW h fl_X10_26 (by decide) dX10_takes_13 (fun b3 h => ?_)
  refine lv_iload_n hx hb dX10_takes_16 rfl (lv_at hl 1 rfl) ?_
  refine lv_iload_n hx hb dX10_takes_17 rfl (lv_at hl 2 rfl) ?_
  refine r_iast C hW h dX10_takes_18 (fun X4 H locs h hW _ => ?_)
  refine lv_aload_n hx hb dX10_takes_19 rfl (lv_at hl 0 rfl) ?_
  refine r_gR C hW h fl_X10_29 (by decide) dX10_takes_20 (fun b5 h => ?_)
  refine lv_iload_n hx hb dX10_takes_23 rfl (lv_at hl 1 rfl) ?_
  refine lv_iload_n hx hb dX10_takes_24 rfl (lv_at hl 3 rfl) ?_
  refine r_iast C hW h dX10_takes_25 (fun X6 H locs h hW _ => ?_)
  exact r_vret C hW (Option.some.inj h).symm dX10_takes_26
theorem kd_X10_nameOf {X : Mx} {r : (Int32 × Mx)} {a : Nat} {x1 : Int32} {x2 : Int32} (h : f_X10_nameOf σ X a x1 x2 = some r) : shK σ a = 8 := (grd_inv h).1
set_option maxRecDepth 20000 in
set_option maxHeartbeats 2000000 in
theorem t_X10_nameOf {X : Mx} {r : (Int32 × Mx)} {a : Nat} {x1 : Int32} {x2 : Int32} (h : f_X10_nameOf σ X a x1 x2 = some r) : MtI g l yX10_nameOf cX10_nameOf 7 (some .int) 3 72 [.ref a, .int x1, .int x2] σ X r := by
  refine met_of mk_X10_nameOf (Nat.le_of_ble_eq_true rfl) (fun p e s m args below meth c ls C hW hl => ?_)
  have hx := C.x
  have hb := C.b
  have hl : lv_has ls 7 [(0, .ref a), (1, .int x1), (2, .int x2)] := hl
  unfold f_X10_nameOf at h
  obtain ⟨hk0, h⟩ := grd_inv h
  refine lv_aload_n hx hb dX10_nameOf_0 rfl (lv_at hl 0 rfl) ?_
  refine lv_iload_n hx hb dX10_nameOf_1 rfl (lv_at hl 1 rfl) ?_
  refine lv_iconst (v := 0) hx hb dX10_nameOf_2 (by decide) ?_
  refine lv_iload_n hx hb dX10_nameOf_3 rfl (lv_at hl 2 rfl) ?_
  obtain ⟨v2, h1, h⟩ := bnd_inv h
  refine r_cI hW (run_V (rest := []) C hW (t_X10_nameAt h1) mk_X10_nameAt vk_X10_237 (kd_X10_nameAt h1) rfl rfl (by decide) ⟨Nat.le_of_ble_eq_true rfl, Nat.le_of_ble_eq_true rfl⟩ ⟨Nat.zero_le _, Nat.zero_le _⟩ rfl rfl (Nat.le_of_ble_eq_true rfl) hl.1 dX10_nameOf_4) (fun H locs hW _ => ?_)
  refine lv_istore_n (lv' := [(3, .int v2), (0, .ref a), (1, .int x1), (2, .int x2)]) hx hb dX10_nameOf_7 rfl hl (by decide) rfl (fun ls hl => ?_)
  refine lv_aload_n hx hb dX10_nameOf_8 rfl (lv_at hl 1 rfl) ?_
  refine lv_iload_n hx hb dX10_nameOf_9 rfl (lv_at hl 2 rfl) ?_
  refine lv_iconst (v := 1) hx hb dX10_nameOf_10 (by decide) ?_
  refine lv_iload_n hx hb dX10_nameOf_11 rfl (lv_at hl 3 rfl) ?_
  obtain ⟨v4, h3, h⟩ := bnd_inv h
  refine r_cI hW (run_V (rest := []) C hW (t_X10_nameAt h3) mk_X10_nameAt vk_X10_237 (kd_X10_nameAt h3) rfl rfl (by decide) ⟨Nat.le_of_ble_eq_true rfl, Nat.le_of_ble_eq_true rfl⟩ ⟨Nat.zero_le _, Nat.zero_le _⟩ rfl rfl (Nat.le_of_ble_eq_true rfl) hl.1 dX10_nameOf_12) (fun H locs hW _ => ?_)
  refine lv_istore (lv' := [(4, .int v4), (3, .int v2), (0, .ref a), (1, .int x1), (2, .int x2)]) hx hb dX10_nameOf_15 hl (by decide) rfl (fun ls hl => ?_)
  refine lv_aload_n hx hb dX10_nameOf_17 rfl (lv_at hl 2 rfl) ?_
  refine lv_iload_n hx hb dX10_nameOf_18 rfl (lv_at hl 3 rfl) ?_
  refine lv_iconst (v := 2) hx hb dX10_nameOf_19 (by decide) ?_
  refine lv_iload_n hx hb dX10_nameOf_20 rfl (lv_at hl 4 rfl) ?_
  obtain ⟨v6, h5, h⟩ := bnd_inv h
  refine r_cI hW (run_V (rest := []) C hW (t_X10_nameAt h5) mk_X10_nameAt vk_X10_237 (kd_X10_nameAt h5) rfl rfl (by decide) ⟨Nat.le_of_ble_eq_true rfl, Nat.le_of_ble_eq_true rfl⟩ ⟨Nat.zero_le _, Nat.zero_le _⟩ rfl rfl (Nat.le_of_ble_eq_true rfl) hl.1 dX10_nameOf_21) (fun H locs hW _ => ?_)
  refine lv_istore (lv' := [(5, .int v6), (4, .int v4), (3, .int v2), (0, .ref a), (1, .int x1), (2, .int x2)]) hx hb dX10_nameOf_24 hl (by decide) rfl (fun ls hl => ?_)
  refine lv_iload_n hx hb dX10_nameOf_26 rfl (lv_at hl 2 rfl) ?_
  refine lv_iload hx hb dX10_nameOf_27 (lv_at hl 1 rfl) ?_
  refine r_br h (lv_icmp_eq (tgt := 39) hx hb dX10_nameOf_29 (by decide)) (fun h => ?_) (fun h => ?_)
  · refine lv_iload_n hx hb dX10_nameOf_39 rfl (lv_at hl 2 rfl) ?_
    exact r_iret C hW (Option.some.inj h).symm rfl dX10_nameOf_40
  · refine lv_iload hx hb dX10_nameOf_32 (lv_at hl 1 rfl) ?_
    refine lv_iload hx hb dX10_nameOf_34 (lv_at hl 0 rfl) ?_
    refine r_brn h (lv_icmp_ne (tgt := 41) hx hb dX10_nameOf_36 (by decide)) (fun h => ?_) (fun h => ?_)
    · refine lv_iload_n hx hb dX10_nameOf_41 rfl (lv_at hl 2 rfl) ?_
      refine lv_iload hx hb dX10_nameOf_42 (lv_at hl 0 rfl) ?_
      refine r_brn h (lv_icmp_ne (tgt := 50) hx hb dX10_nameOf_44 (by decide)) (fun h => ?_) (fun h => ?_)
      · refine lv_aload_n hx hb dX10_nameOf_50 rfl (lv_at hl 3 rfl) ?_
        refine lv_iload_n hx hb dX10_nameOf_51 rfl (lv_at hl 4 rfl) ?_
        refine lv_iconst (v := 1) hx hb dX10_nameOf_52 (by decide) ?_
        refine lv_iload_n hx hb dX10_nameOf_53 rfl (lv_at hl 5 rfl) ?_
        refine lv_iconst (v := 0) hx hb dX10_nameOf_54 (by decide) ?_
        refine lv_iload_n hx hb dX10_nameOf_55 rfl (lv_at hl 2 rfl) ?_
        refine lv_iload hx hb dX10_nameOf_56 (lv_at hl 1 rfl) ?_
        obtain ⟨v9, X8, h7, h⟩ := bnd2_inv h
        refine r_cI hW (run_V (rest := []) C hW (t_X10_comesUp h7) mk_X10_comesUp vk_X10_294 (kd_X10_comesUp h7) rfl rfl (by decide) ⟨Nat.le_of_ble_eq_true rfl, Nat.le_of_ble_eq_true rfl⟩ ⟨Nat.zero_le _, Nat.zero_le _⟩ rfl rfl (Nat.le_of_ble_eq_true rfl) hl.1 dX10_nameOf_58) (fun H locs hW _ => ?_)
        refine lv_istore (lv' := [(6, .int v9), (5, .int v6), (4, .int v4), (3, .int v2), (0, .ref a), (1, .int x1), (2, .int x2)]) hx hb dX10_nameOf_61 hl (by decide) rfl (fun ls hl => ?_)
        refine lv_iload hx hb dX10_nameOf_63 (lv_at hl 0 rfl) ?_
        refine lv_iconst (v := 1) hx hb dX10_nameOf_65 (by decide) ?_
        refine r_brn h (lv_icmp_ne (tgt := 73) hx hb dX10_nameOf_66 (by decide)) (fun h => ?_) (fun h => ?_)
        · refine lv_iload hx hb dX10_nameOf_73 (lv_at hl 0 rfl) ?_
          refine lv_iconst (v := 2) hx hb dX10_nameOf_75 (by decide) ?_
          refine r_brn h (lv_icmp_ne (tgt := 84) hx hb dX10_nameOf_76 (by decide)) (fun h => ?_) (fun h => ?_)
          · refine lv_iload hx hb dX10_nameOf_84 (lv_at hl 1 rfl) ?_
            exact r_iret C hW (Option.some.inj h).symm rfl dX10_nameOf_86
          · refine lv_iload hx hb dX10_nameOf_79 (lv_at hl 2 rfl) ?_
            refine lv_goto (tgt := 86) hx hb dX10_nameOf_81 (by decide) ?_
            exact r_iret C hW (Option.some.inj h).symm rfl dX10_nameOf_86
        · refine lv_iload_n hx hb dX10_nameOf_69 rfl (lv_at hl 3 rfl) ?_
          refine lv_goto (tgt := 86) hx hb dX10_nameOf_70 (by decide) ?_
          exact r_iret C hW (Option.some.inj h).symm rfl dX10_nameOf_86
      · refine lv_iload hx hb dX10_nameOf_47 (lv_at hl 1 rfl) ?_
        exact r_iret C hW (Option.some.inj h).symm rfl dX10_nameOf_49
    · refine lv_iload_n hx hb dX10_nameOf_39 rfl (lv_at hl 2 rfl) ?_
      exact r_iret C hW (Option.some.inj h).symm rfl dX10_nameOf_40
set_option maxRecDepth 20000 in
set_option maxHeartbeats 2000000 in
theorem b_X10_typeBy_74 {a : Nat} {x1 : Int32} {x2 : Int32} {x3 : Int32} {x4 : Int32} {x5 : Int32} (C : Cx g RX10 cX10_typeBy 7 (some .int) p s m args meth c) {r : (Int32 × Mx)} {X : Mx} (hW : Wd g σ X s H locs) (hl : lv_has ls 7 [(0, .ref a), (1, .int x1), (2, .int x2), (3, .int x3), (4, .int x4), (5, .int x5)]) (h : f_X10_typeBy_74 σ a x1 x2 x3 x4 x5 X = some r) : W p l e (rmZ 3 72) s m args below meth c H locs 0 0 (QI g σ below args s r) (F0 m 74 ls []) := by
  have hx := C.x
  have hb := C.b
  unfold f_X10_typeBy_74 at h
  refine lv_iload_n hx hb dX10_typeBy_74 rfl (lv_at hl 3 rfl) ?_
  refine r_brn h (lv_if_ne (tgt := 81) hx hb dX10_typeBy_75 (by decide)) (fun h => ?_) (fun h => ?_)
  · refine lv_iload hx hb dX10_typeBy_81 (lv_at hl 4 rfl) ?_
    refine r_brn h (lv_if_ne (tgt := 88) hx hb dX10_typeBy_83 (by decide)) (fun h => ?_) (fun h => ?_)
    · refine lv_aload_n hx hb dX10_typeBy_88 rfl (lv_at hl 0 rfl) ?_
      refine lv_iload_n hx hb dX10_typeBy_89 rfl (lv_at hl 1 rfl) ?_
      refine lv_iconst (v := 2) hx hb dX10_typeBy_90 (by decide) ?_
      refine lv_iload_n hx hb dX10_typeBy_91 rfl (lv_at hl 2 rfl) ?_
      refine lv_iconst (v := 0) hx hb dX10_typeBy_92 (by decide) ?_
      refine lv_iload_n hx hb dX10_typeBy_93 rfl (lv_at hl 3 rfl) ?_
      refine lv_iload hx hb dX10_typeBy_94 (lv_at hl 4 rfl) ?_
      obtain ⟨v3, X2, h1, h⟩ := bnd2_inv h
      refine r_cI hW (run_V (rest := []) C hW (t_X10_comesUp h1) mk_X10_comesUp vk_X10_294 (kd_X10_comesUp h1) rfl rfl (by decide) ⟨Nat.le_of_ble_eq_true rfl, Nat.le_of_ble_eq_true rfl⟩ ⟨Nat.zero_le _, Nat.zero_le _⟩ rfl rfl (Nat.le_of_ble_eq_true rfl) hl.1 dX10_typeBy_96) (fun H locs hW _ => ?_)
      refine lv_istore (lv' := [(6, .int v3), (0, .ref a), (1, .int x1), (2, .int x2), (3, .int x3), (4, .int x4), (5, .int x5)]) hx hb dX10_typeBy_99 hl (by decide) rfl (fun ls hl => ?_)
      refine lv_iload hx hb dX10_typeBy_101 (lv_at hl 0 rfl) ?_
      refine lv_iconst (v := 1) hx hb dX10_typeBy_103 (by decide) ?_
      refine r_brn h (lv_icmp_ne (tgt := 111) hx hb dX10_typeBy_104 (by decide)) (fun h => ?_) (fun h => ?_)
      · refine lv_iload hx hb dX10_typeBy_111 (lv_at hl 0 rfl) ?_
        refine lv_iconst (v := 2) hx hb dX10_typeBy_113 (by decide) ?_
        refine r_brn h (lv_icmp_ne (tgt := 122) hx hb dX10_typeBy_114 (by decide)) (fun h => ?_) (fun h => ?_)
        · refine lv_iload hx hb dX10_typeBy_122 (lv_at hl 6 rfl) ?_
          exact r_iret C hW (Option.some.inj h).symm rfl dX10_typeBy_124
        · refine lv_iload hx hb dX10_typeBy_117 (lv_at hl 5 rfl) ?_
          refine lv_goto (tgt := 124) hx hb dX10_typeBy_119 (by decide) ?_
          exact r_iret C hW (Option.some.inj h).symm rfl dX10_typeBy_124
      · refine lv_iload_n hx hb dX10_typeBy_107 rfl (lv_at hl 4 rfl) ?_
        refine lv_goto (tgt := 124) hx hb dX10_typeBy_108 (by decide) ?_
        exact r_iret C hW (Option.some.inj h).symm rfl dX10_typeBy_124
    · refine lv_iload_n hx hb dX10_typeBy_86 rfl (lv_at hl 3 rfl) ?_
      exact r_iret C hW (Option.some.inj h).symm rfl dX10_typeBy_87
  · refine lv_iload hx hb dX10_typeBy_78 (lv_at hl 4 rfl) ?_
    exact r_iret C hW (Option.some.inj h).symm rfl dX10_typeBy_80
set_option maxRecDepth 20000 in
set_option maxHeartbeats 2000000 in
theorem b_X10_typeBy_61 {a : Nat} {x1 : Int32} {x2 : Int32} {x3 : Int32} {x4 : Int32} {x5 : Int32} (C : Cx g RX10 cX10_typeBy 7 (some .int) p s m args meth c) {r : (Int32 × Mx)} {X : Mx} (hW : Wd g σ X s H locs) (hl : lv_has ls 7 [(0, .ref a), (1, .int x1), (2, .int x2), (3, .int x3), (4, .int x4), (5, .int x5)]) (h : f_X10_typeBy_61 σ a x1 x2 x3 x4 x5 X = some r) : W p l e (rmZ 3 72) s m args below meth c H locs 0 0 (QI g σ below args s r) (F0 m 61 ls []) := by
  have hx := C.x
  have hb := C.b
  unfold f_X10_typeBy_61 at h
  refine lv_iload_n hx hb dX10_typeBy_61 rfl (lv_at hl 3 rfl) ?_
  refine lv_iconst (v := 1) hx hb dX10_typeBy_62 (by decide) ?_
  refine r_brn h (lv_icmp_ne (tgt := 74) hx hb dX10_typeBy_63 (by decide)) (fun h => ?_) (fun h => ?_)
  · exact b_X10_typeBy_74 C hW (lv_sub hl [0, 1, 2, 3, 4, 5] rfl) h
  · refine lv_iload hx hb dX10_typeBy_66 (lv_at hl 4 rfl) ?_
    refine lv_iconst (v := 3) hx hb dX10_typeBy_68 (by decide) ?_
    refine r_brn h (lv_icmp_ne (tgt := 74) hx hb dX10_typeBy_69 (by decide)) (fun h => ?_) (fun h => ?_)
    · exact b_X10_typeBy_74 C hW (lv_sub hl [0, 1, 2, 3, 4, 5] rfl) h
    · refine lv_iconst (v := 3) hx hb dX10_typeBy_72 (by decide) ?_
      exact r_iret C hW (Option.some.inj h).symm rfl dX10_typeBy_73
theorem kd_X10_typeBy {X : Mx} {r : (Int32 × Mx)} {a : Nat} {x1 : Int32} {x2 : Int32} (h : f_X10_typeBy σ X a x1 x2 = some r) : shK σ a = 8 := (grd_inv h).1
set_option maxRecDepth 20000 in
set_option maxHeartbeats 2000000 in
theorem t_X10_typeBy {X : Mx} {r : (Int32 × Mx)} {a : Nat} {x1 : Int32} {x2 : Int32} (h : f_X10_typeBy σ X a x1 x2 = some r) : MtI g l yX10_typeBy cX10_typeBy 7 (some .int) 3 72 [.ref a, .int x1, .int x2] σ X r := by
  refine met_of mk_X10_typeBy (Nat.le_of_ble_eq_true rfl) (fun p e s m args below meth c ls C hW hl => ?_)
  have hx := C.x
  have hb := C.b
  have hl : lv_has ls 7 [(0, .ref a), (1, .int x1), (2, .int x2)] := hl
  unfold f_X10_typeBy at h
  obtain ⟨hk0, h⟩ := grd_inv h
  refine lv_aload_n hx hb dX10_typeBy_0 rfl (lv_at hl 0 rfl) ?_
  refine lv_iload_n hx hb dX10_typeBy_1 rfl (lv_at hl 1 rfl) ?_
  refine lv_iconst (v := 0) hx hb dX10_typeBy_2 (by decide) ?_
  refine lv_iload_n hx hb dX10_typeBy_3 rfl (lv_at hl 2 rfl) ?_
  obtain ⟨v2, h1, h⟩ := bnd_inv h
  refine r_cI hW (run_V (rest := []) C hW (t_X10_typeAt h1) mk_X10_typeAt vk_X10_166 (kd_X10_typeAt h1) rfl rfl (by decide) ⟨Nat.le_of_ble_eq_true rfl, Nat.le_of_ble_eq_true rfl⟩ ⟨Nat.zero_le _, Nat.zero_le _⟩ rfl rfl (Nat.le_of_ble_eq_true rfl) hl.1 dX10_typeBy_4) (fun H locs hW _ => ?_)
  refine lv_istore_n (lv' := [(3, .int v2), (0, .ref a), (1, .int x1), (2, .int x2)]) hx hb dX10_typeBy_7 rfl hl (by decide) rfl (fun ls hl => ?_)
  refine lv_aload_n hx hb dX10_typeBy_8 rfl (lv_at hl 1 rfl) ?_
  refine lv_iload_n hx hb dX10_typeBy_9 rfl (lv_at hl 2 rfl) ?_
  refine lv_iconst (v := 1) hx hb dX10_typeBy_10 (by decide) ?_
  refine lv_iload_n hx hb dX10_typeBy_11 rfl (lv_at hl 3 rfl) ?_
  obtain ⟨v4, h3, h⟩ := bnd_inv h
  refine r_cI hW (run_V (rest := []) C hW (t_X10_typeAt h3) mk_X10_typeAt vk_X10_166 (kd_X10_typeAt h3) rfl rfl (by decide) ⟨Nat.le_of_ble_eq_true rfl, Nat.le_of_ble_eq_true rfl⟩ ⟨Nat.zero_le _, Nat.zero_le _⟩ rfl rfl (Nat.le_of_ble_eq_true rfl) hl.1 dX10_typeBy_12) (fun H locs hW _ => ?_)
  refine lv_istore (lv' := [(4, .int v4), (3, .int v2), (0, .ref a), (1, .int x1), (2, .int x2)]) hx hb dX10_typeBy_15 hl (by decide) rfl (fun ls hl => ?_)
  refine lv_aload_n hx hb dX10_typeBy_17 rfl (lv_at hl 2 rfl) ?_
  refine lv_iload_n hx hb dX10_typeBy_18 rfl (lv_at hl 3 rfl) ?_
  refine lv_iconst (v := 2) hx hb dX10_typeBy_19 (by decide) ?_
  refine lv_iload_n hx hb dX10_typeBy_20 rfl (lv_at hl 4 rfl) ?_
  obtain ⟨v6, h5, h⟩ := bnd_inv h
  refine r_cI hW (run_V (rest := []) C hW (t_X10_typeAt h5) mk_X10_typeAt vk_X10_166 (kd_X10_typeAt h5) rfl rfl (by decide) ⟨Nat.le_of_ble_eq_true rfl, Nat.le_of_ble_eq_true rfl⟩ ⟨Nat.zero_le _, Nat.zero_le _⟩ rfl rfl (Nat.le_of_ble_eq_true rfl) hl.1 dX10_typeBy_21) (fun H locs hW _ => ?_)
  refine lv_istore (lv' := [(5, .int v6), (4, .int v4), (3, .int v2), (0, .ref a), (1, .int x1), (2, .int x2)]) hx hb dX10_typeBy_24 hl (by decide) rfl (fun ls hl => ?_)
  refine lv_iload_n hx hb dX10_typeBy_26 rfl (lv_at hl 2 rfl) ?_
  refine lv_iload hx hb dX10_typeBy_27 (lv_at hl 1 rfl) ?_
  refine r_br h (lv_icmp_eq (tgt := 39) hx hb dX10_typeBy_29 (by decide)) (fun h => ?_) (fun h => ?_)
  · refine lv_iload_n hx hb dX10_typeBy_39 rfl (lv_at hl 2 rfl) ?_
    exact r_iret C hW (Option.some.inj h).symm rfl dX10_typeBy_40
  · refine lv_iload hx hb dX10_typeBy_32 (lv_at hl 1 rfl) ?_
    refine lv_iload hx hb dX10_typeBy_34 (lv_at hl 0 rfl) ?_
    refine r_brn h (lv_icmp_ne (tgt := 41) hx hb dX10_typeBy_36 (by decide)) (fun h => ?_) (fun h => ?_)
    · refine lv_iload_n hx hb dX10_typeBy_41 rfl (lv_at hl 2 rfl) ?_
      refine lv_iload hx hb dX10_typeBy_42 (lv_at hl 0 rfl) ?_
      refine r_brn h (lv_icmp_ne (tgt := 50) hx hb dX10_typeBy_44 (by decide)) (fun h => ?_) (fun h => ?_)
      · refine lv_iload_n hx hb dX10_typeBy_50 rfl (lv_at hl 2 rfl) ?_
        refine lv_iconst (v := 3) hx hb dX10_typeBy_51 (by decide) ?_
        refine r_brn h (lv_icmp_ne (tgt := 61) hx hb dX10_typeBy_52 (by decide)) (fun h => ?_) (fun h => ?_)
        · exact b_X10_typeBy_61 C hW (lv_sub hl [3, 4, 5, 2, 1, 0] rfl) h
        · refine lv_iload hx hb dX10_typeBy_55 (lv_at hl 1 rfl) ?_
          refine lv_iconst (v := 1) hx hb dX10_typeBy_57 (by decide) ?_
          refine r_br h (lv_icmp_eq (tgt := 72) hx hb dX10_typeBy_58 (by decide)) (fun h => ?_) (fun h => ?_)
          · refine lv_iconst (v := 3) hx hb dX10_typeBy_72 (by decide) ?_
            exact r_iret C hW (Option.some.inj h).symm rfl dX10_typeBy_73
          · exact b_X10_typeBy_61 C hW (lv_sub hl [3, 4, 5, 2, 1, 0] rfl) h
      · refine lv_iload hx hb dX10_typeBy_47 (lv_at hl 1 rfl) ?_
        exact r_iret C hW (Option.some.inj h).symm rfl dX10_typeBy_49
    · refine lv_iload_n hx hb dX10_typeBy_39 rfl (lv_at hl 2 rfl) ?_
      exact r_iret C hW (Option.some.inj h).symm rfl dX10_typeBy_40
set_option maxRecDepth 20000 in
set_option maxHeartbeats 2000000 in
theorem b_X10_mergesOwn_111 {a : Nat} {x1 : Int32} {x2 : Int32} (C : Cx g RX10 cX10_mergesOwn 6 none p s m args meth c) {r : Mx} {X : Mx} {y0 : Int32} (hW : Wd g σ X s H locs) (hl : lv_has ls 6 [(0, .ref a), (1, .int x1), (2, .int x2)]) (h : f_X10_mergesOwn_111 σ a x1 x2 X y0 = some r) : W p l e (rmZ 5 116) s m args below meth c H locs 0 0 (QV g σ below args s r) (F0 m 111 ls [.int y0]) := by
  have hx := C.x
  have hb := C.b
  unfold f_X10_mergesOwn_111 at h
  refine lv_istore (lv' := [(5, .int y0), (0, .ref a), (1, .int x1), (2, .int x2)]) hx hb dX10_mergesOwn_111 hl (by decide) rfl (fun ls hl => ?_)
  refine lv_aload_n hx hb dX10_mergesOwn_113 rfl (lv_at hl 1 rfl) ?_
  refine lv_iload_n hx hb dX10_mergesOwn_114 rfl (lv_at hl 2 rfl) ?_
  refine lv_iload hx hb dX10_mergesOwn_115 (lv_at hl 0 rfl) ?_
  refine lv_iload_n hx hb dX10_mergesOwn_117 rfl (lv_at hl 3 rfl) ?_
  obtain ⟨v2, h1, h⟩ := bnd_inv h
  refine r_cI hW (run_V (rest := []) C hW (t_X10_isColumnChanged h1) mk_X10_isColumnChanged vk_X10_308 (kd_X10_isColumnChanged h1) rfl rfl (by decide) ⟨Nat.le_of_ble_eq_true rfl, Nat.le_of_ble_eq_true rfl⟩ ⟨Nat.zero_le _, Nat.zero_le _⟩ rfl rfl (Nat.le_of_ble_eq_true rfl) hl.1 dX10_mergesOwn_118) (fun H locs hW _ => ?_)
  refine r_br h (lv_if_eq (tgt := 159) hx hb dX10_mergesOwn_121 (by decide)) (fun h => ?_) (fun h => ?_)
  · exact r_vret C hW (Option.some.inj h).symm dX10_mergesOwn_159
  · refine lv_aload_n hx hb dX10_mergesOwn_124 rfl (lv_at hl 1 rfl) ?_
    refine lv_iload_n hx hb dX10_mergesOwn_125 rfl (lv_at hl 2 rfl) ?_
    refine lv_iconst (v := 0) hx hb dX10_mergesOwn_126 (by decide) ?_
    refine lv_iload_n hx hb dX10_mergesOwn_127 rfl (lv_at hl 3 rfl) ?_
    refine lv_iconst (v := 0) hx hb dX10_mergesOwn_128 (by decide) ?_
    refine lv_iconst (v := (-1)) hx hb dX10_mergesOwn_129 (by decide) ?_
    refine lv_iconst (v := (-1)) hx hb dX10_mergesOwn_130 (by decide) ?_
    obtain ⟨v5, X4, h3, h⟩ := bnd2_inv h
    refine r_cI hW (run_V (rest := []) C hW (t_X10_comesUp h3) mk_X10_comesUp vk_X10_294 (kd_X10_comesUp h3) rfl rfl (by decide) ⟨Nat.le_of_ble_eq_true rfl, Nat.le_of_ble_eq_true rfl⟩ ⟨Nat.zero_le _, Nat.zero_le _⟩ rfl rfl (Nat.le_of_ble_eq_true rfl) hl.1 dX10_mergesOwn_131) (fun H locs hW _ => ?_)
    refine lv_iconst (v := 1) hx hb dX10_mergesOwn_134 (by decide) ?_
    refine r_br h (lv_icmp_eq (tgt := 159) hx hb dX10_mergesOwn_135 (by decide)) (fun h => ?_) (fun h => ?_)
    · exact r_vret C hW (Option.some.inj h).symm dX10_mergesOwn_159
    · refine lv_aload_n hx hb dX10_mergesOwn_138 rfl (lv_at hl 1 rfl) ?_
      refine lv_iload_n hx hb dX10_mergesOwn_139 rfl (lv_at hl 3 rfl) ?_
      refine lv_aload_n hx hb dX10_mergesOwn_140 rfl (lv_at hl 1 rfl) ?_
      refine lv_iload_n hx hb dX10_mergesOwn_141 rfl (lv_at hl 2 rfl) ?_
      refine lv_iload hx hb dX10_mergesOwn_142 (lv_at hl 0 rfl) ?_
      refine lv_iload_n hx hb dX10_mergesOwn_144 rfl (lv_at hl 3 rfl) ?_
      obtain ⟨v7, h6, h⟩ := bnd_inv h
      refine r_cI hW (run_V (rest := [.int x2, .ref a]) C hW (t_X10_nameAt h6) mk_X10_nameAt vk_X10_237 (kd_X10_nameAt h6) rfl rfl (by decide) ⟨Nat.le_of_ble_eq_true rfl, Nat.le_of_ble_eq_true rfl⟩ ⟨Nat.zero_le _, Nat.zero_le _⟩ rfl rfl (Nat.le_of_ble_eq_true rfl) hl.1 dX10_mergesOwn_145) (fun H locs hW _ => ?_)
      refine lv_aload_n hx hb dX10_mergesOwn_148 rfl (lv_at hl 1 rfl) ?_
      refine lv_iload_n hx hb dX10_mergesOwn_149 rfl (lv_at hl 2 rfl) ?_
      refine lv_iload hx hb dX10_mergesOwn_150 (lv_at hl 0 rfl) ?_
      refine lv_iload_n hx hb dX10_mergesOwn_152 rfl (lv_at hl 3 rfl) ?_
      obtain ⟨v9, h8, h⟩ := bnd_inv h
      refine r_cI hW (run_V (rest := [.int v7, .int x2, .ref a]) C hW (t_X10_typeAt h8) mk_X10_typeAt vk_X10_166 (kd_X10_typeAt h8) rfl rfl (by decide) ⟨Nat.le_of_ble_eq_true rfl, Nat.le_of_ble_eq_true rfl⟩ ⟨Nat.zero_le _, Nat.zero_le _⟩ rfl rfl (Nat.le_of_ble_eq_true rfl) hl.1 dX10_mergesOwn_153) (fun H locs hW _ => ?_)
      obtain ⟨X11, h10, h⟩ := bnd_inv h
      refine r_cV hW (run_V (rest := []) C hW (t_X10_takes h10) mk_X10_takes vk_X10_304 (kd_X10_takes h10) rfl rfl (by decide) ⟨Nat.le_of_ble_eq_true rfl, Nat.le_of_ble_eq_true rfl⟩ ⟨Nat.zero_le _, Nat.zero_le _⟩ rfl rfl (Nat.le_of_ble_eq_true rfl) hl.1 dX10_mergesOwn_156) (fun H locs hW _ => ?_)
      exact r_vret C hW (Option.some.inj h).symm dX10_mergesOwn_159
set_option maxRecDepth 20000 in
set_option maxHeartbeats 2000000 in
theorem b_X10_mergesOwn_102 {a : Nat} {x1 : Int32} {x2 : Int32} {x3 : Int32} (C : Cx g RX10 cX10_mergesOwn 6 none p s m args meth c) {r : Mx} {X : Mx} (hW : Wd g σ X s H locs) (hl : lv_has ls 6 [(0, .ref a), (1, .int x1), (2, .int x2), (3, .int x3)]) (h : f_X10_mergesOwn_102 σ a x1 x2 x3 X = some r) : W p l e (rmZ 5 116) s m args below meth c H locs 0 0 (QV g σ below args s r) (F0 m 102 ls []) := by
  have hx := C.x
  have hb := C.b
  unfold f_X10_mergesOwn_102 at h
  refine lv_iload_n hx hb dX10_mergesOwn_102 rfl (lv_at hl 3 rfl) ?_
  refine r_br h (lv_if_eq (tgt := 110) hx hb dX10_mergesOwn_103 (by decide)) (fun h => ?_) (fun h => ?_)
  · refine lv_iconst (v := 1) hx hb dX10_mergesOwn_110 (by decide) ?_
    exact b_X10_mergesOwn_111 C hW (lv_sub hl [0, 1, 2] rfl) h
  · refine lv_iconst (v := 0) hx hb dX10_mergesOwn_106 (by decide) ?_
    refine lv_goto (tgt := 111) hx hb dX10_mergesOwn_107 (by decide) ?_
    exact b_X10_mergesOwn_111 C hW (lv_sub hl [0, 1, 2] rfl) h
set_option maxRecDepth 20000 in
set_option maxHeartbeats 2000000 in
theorem b_X10_mergesOwn_70 {a : Nat} {x1 : Int32} {x2 : Int32} {x3 : Int32} {x4 : Int32} (C : Cx g RX10 cX10_mergesOwn 6 none p s m args meth c) {r : Mx} {X : Mx} {y0 : Nat} {y1 : Int32} {y2 : Int32} (hW : Wd g σ X s H locs) (hl : lv_has ls 6 [(0, .ref a), (1, .int x1), (2, .int x2), (3, .int x3), (4, .int x4)]) (h : f_X10_mergesOwn_70 σ a x1 x2 x3 x4 X y0 y1 y2 = some r) : W p l e (rmZ 5 116) s m args below meth c H locs 0 0 (QV g σ below args s r) (F0 m 70 ls [.int y2, .int y1, .ref y0]) := by
  have hx := C.x
  have hb := C.b
  unfold f_X10_mergesOwn_70 at h
  refine r_iast C hW h dX10_mergesOwn_70 (fun X1 H locs h hW _ => ?_)
  refine lv_iload_n hx hb dX10_mergesOwn_71 rfl (lv_at hl 3 rfl) ?_
  refine r_br h (lv_if_eq (tgt := 102) hx hb dX10_mergesOwn_72 (by decide)) (fun h => ?_) (fun h => ?_)
  · exact b_X10_mergesOwn_102 C hW (lv_sub hl [0, 1, 2, 3] rfl) h
  · refine lv_iload hx hb dX10_mergesOwn_75 (lv_at hl 4 rfl) ?_
    refine r_br h (lv_if_eq (tgt := 102) hx hb dX10_mergesOwn_77 (by decide)) (fun h => ?_) (fun h => ?_)
    · exact b_X10_mergesOwn_102 C hW (lv_sub hl [0, 1, 2, 3] rfl) h
    · refine lv_aload_n hx hb dX10_mergesOwn_80 rfl (lv_at hl 0 rfl) ?_
      refine lv_iload_n hx hb dX10_mergesOwn_81 rfl (lv_at hl 1 rfl) ?_
      refine lv_iload_n hx hb dX10_mergesOwn_82 rfl (lv_at hl 2 rfl) ?_
      obtain ⟨v4, X3, h2, h⟩ := bnd2_inv h
      refine r_cI hW (run_V (rest := []) C hW (t_X10_nameOf h2) mk_X10_nameOf vk_X10_298 (kd_X10_nameOf h2) rfl rfl (by decide) ⟨Nat.le_of_ble_eq_true rfl, Nat.le_of_ble_eq_true rfl⟩ ⟨Nat.zero_le _, Nat.zero_le _⟩ rfl rfl (Nat.le_of_ble_eq_true rfl) hl.1 dX10_mergesOwn_83) (fun H locs hW _ => ?_)
      refine lv_istore (lv' := [(5, .int v4), (0, .ref a), (1, .int x1), (2, .int x2), (3, .int x3), (4, .int x4)]) hx hb dX10_mergesOwn_86 hl (by decide) rfl (fun ls hl => ?_)
      refine lv_aload_n hx hb dX10_mergesOwn_88 rfl (lv_at hl 1 rfl) ?_
      refine lv_iload_n hx hb dX10_mergesOwn_89 rfl (lv_at hl 3 rfl) ?_
      refine lv_iload hx hb dX10_mergesOwn_90 (lv_at hl 0 rfl) ?_
      refine lv_aload_n hx hb dX10_mergesOwn_92 rfl (lv_at hl 1 rfl) ?_
      refine lv_iload_n hx hb dX10_mergesOwn_93 rfl (lv_at hl 2 rfl) ?_
      refine lv_iload_n hx hb dX10_mergesOwn_94 rfl (lv_at hl 3 rfl) ?_
      obtain ⟨v7, X6, h5, h⟩ := bnd2_inv h
      refine r_cI hW (run_V (rest := [.int v4, .int x2, .ref a]) C hW (t_X10_typeBy h5) mk_X10_typeBy vk_X10_301 (kd_X10_typeBy h5) rfl rfl (by decide) ⟨Nat.le_of_ble_eq_true rfl, Nat.le_of_ble_eq_true rfl⟩ ⟨Nat.zero_le _, Nat.zero_le _⟩ rfl rfl (Nat.le_of_ble_eq_true rfl) hl.1 dX10_mergesOwn_95) (fun H locs hW _ => ?_)
      obtain ⟨X9, h8, h⟩ := bnd_inv h
      refine r_cV hW (run_V (rest := []) C hW (t_X10_takes h8) mk_X10_takes vk_X10_304 (kd_X10_takes h8) rfl rfl (by decide) ⟨Nat.le_of_ble_eq_true rfl, Nat.le_of_ble_eq_true rfl⟩ ⟨Nat.zero_le _, Nat.zero_le _⟩ rfl rfl (Nat.le_of_ble_eq_true rfl) hl.1 dX10_mergesOwn_98) (fun H locs hW _ => ?_)
      exact r_vret C hW (Option.some.inj h).symm dX10_mergesOwn_101
set_option maxRecDepth 20000 in
set_option maxHeartbeats 2000000 in
theorem b_X10_mergesOwn_51 {a : Nat} {x1 : Int32} {x2 : Int32} {x3 : Int32} {x4 : Int32} (C : Cx g RX10 cX10_mergesOwn 6 none p s m args meth c) {r : Mx} {X : Mx} {y0 : Nat} {y1 : Int32} {y2 : Int32} (hW : Wd g σ X s H locs) (hl : lv_has ls 6 [(0, .ref a), (1, .int x1), (2, .int x2), (3, .int x3), (4, .int x4)]) (h : f_X10_mergesOwn_51 σ a x1 x2 x3 x4 X y0 y1 y2 = some r) : W p l e (rmZ 5 116) s m args below meth c H locs 0 0 (QV g σ below args s r) (F0 m 51 ls [.int y2, .int y1, .ref y0]) := by
  have hx := C.x
  have hb := C.b
  unfold f_X10_mergesOwn_51 at h
  refine r_iast C hW h dX10_mergesOwn_51 (fun X1 H locs h hW _ => ?_)
  refine lv_aload_n hx hb dX10_mergesOwn_52 rfl (lv_at hl 0 rfl) ?_
  refine r_gR C hW h fl_X10_38 (by decide) dX10_mergesOwn_53 (fun b2 h => ?_)
  refine lv_bipush (v := 9) hx hb dX10_mergesOwn_56 (by decide) ?_
  refine lv_iload_n hx hb dX10_mergesOwn_58 rfl (lv_at hl 2 rfl) ?_
  refine lv_iadd hx hb dX10_mergesOwn_59 ?_
  refine lv_iload hx hb dX10_mergesOwn_60 (lv_at hl 4 rfl) ?_
  refine r_br h (lv_if_eq (tgt := 69) hx hb dX10_mergesOwn_62 (by decide)) (fun h => ?_) (fun h => ?_)
  · refine lv_iconst (v := (-1)) hx hb dX10_mergesOwn_69 (by decide) ?_
    exact b_X10_mergesOwn_70 C hW (lv_sub hl [0, 1, 2, 3, 4] rfl) h
  · refine lv_iload_n hx hb dX10_mergesOwn_65 rfl (lv_at hl 2 rfl) ?_
    refine lv_goto (tgt := 70) hx hb dX10_mergesOwn_66 (by decide) ?_
    exact b_X10_mergesOwn_70 C hW (lv_sub hl [0, 1, 2, 3, 4] rfl) h
set_option maxRecDepth 20000 in
set_option maxHeartbeats 2000000 in
theorem b_X10_mergesOwn_37 {a : Nat} {x1 : Int32} {x2 : Int32} {x3 : Int32} {x4 : Int32} (C : Cx g RX10 cX10_mergesOwn 6 none p s m args meth c) {r : Mx} {X : Mx} (hW : Wd g σ X s H locs) (hl : lv_has ls 6 [(0, .ref a), (1, .int x1), (2, .int x2), (3, .int x3), (4, .int x4)]) (h : f_X10_mergesOwn_37 σ a x1 x2 x3 x4 X = some r) : W p l e (rmZ 5 116) s m args below meth c H locs 0 0 (QV g σ below args s r) (F0 m 37 ls []) := by
  have hx := C.x
  have hb := C.b
  unfold f_X10_mergesOwn_37 at h
  refine lv_aload_n hx hb dX10_mergesOwn_37 rfl (lv_at hl 0 rfl) ?_
  refine r_gR C hW h fl_X10_38 (by decide) dX10_mergesOwn_38 (fun b1 h => ?_)
  refine lv_iload_n hx hb dX10_mergesOwn_41 rfl (lv_at hl 2 rfl) ?_
  refine lv_iload_n hx hb dX10_mergesOwn_42 rfl (lv_at hl 3 rfl) ?_
  refine r_br h (lv_if_eq (tgt := 50) hx hb dX10_mergesOwn_43 (by decide)) (fun h => ?_) (fun h => ?_)
  · refine lv_iconst (v := (-1)) hx hb dX10_mergesOwn_50 (by decide) ?_
    exact b_X10_mergesOwn_51 C hW (lv_sub hl [0, 1, 2, 3, 4] rfl) h
  · refine lv_iload_n hx hb dX10_mergesOwn_46 rfl (lv_at hl 2 rfl) ?_
    refine lv_goto (tgt := 51) hx hb dX10_mergesOwn_47 (by decide) ?_
    exact b_X10_mergesOwn_51 C hW (lv_sub hl [0, 1, 2, 3, 4] rfl) h
theorem kd_X10_mergesOwn {X : Mx} {r : Mx} {a : Nat} {x1 : Int32} {x2 : Int32} (h : f_X10_mergesOwn σ X a x1 x2 = some r) : shK σ a = 8 := (grd_inv h).1
set_option maxRecDepth 20000 in
set_option maxHeartbeats 2000000 in
theorem t_X10_mergesOwn {X : Mx} {r : Mx} {a : Nat} {x1 : Int32} {x2 : Int32} (h : f_X10_mergesOwn σ X a x1 x2 = some r) : MtV g l yX10_mergesOwn cX10_mergesOwn 6 none 5 116 [.ref a, .int x1, .int x2] σ X r := by
  refine met_of mk_X10_mergesOwn (Nat.le_of_ble_eq_true rfl) (fun p e s m args below meth c ls C hW hl => ?_)
  have hx := C.x
  have hb := C.b
  have hl : lv_has ls 6 [(0, .ref a), (1, .int x1), (2, .int x2)] := hl
  unfold f_X10_mergesOwn at h
  obtain ⟨hk0, h⟩ := grd_inv h
  refine lv_aload_n hx hb dX10_mergesOwn_0 rfl (lv_at hl 0 rfl) ?_
  refine lv_iload_n hx hb dX10_mergesOwn_1 rfl (lv_at hl 1 rfl) ?_
  refine lv_iconst (v := 0) hx hb dX10_mergesOwn_2 (by decide) ?_
  refine lv_iload_n hx hb dX10_mergesOwn_3 rfl (lv_at hl 2 rfl) ?_
  obtain ⟨v2, h1, h⟩ := bnd_inv h
  refine r_cI hW (run_V (rest := []) C hW (t_X10_hasColumn h1) mk_X10_hasColumn vk_X10_234 (kd_X10_hasColumn h1) rfl rfl (by decide) ⟨Nat.le_of_ble_eq_true rfl, Nat.le_of_ble_eq_true rfl⟩ ⟨Nat.zero_le _, Nat.zero_le _⟩ rfl rfl (Nat.le_of_ble_eq_true rfl) hl.1 dX10_mergesOwn_4) (fun H locs hW _ => ?_)
  refine lv_istore_n (lv' := [(3, .int v2), (0, .ref a), (1, .int x1), (2, .int x2)]) hx hb dX10_mergesOwn_7 rfl hl (by decide) rfl (fun ls hl => ?_)
  refine lv_aload_n hx hb dX10_mergesOwn_8 rfl (lv_at hl 1 rfl) ?_
  refine lv_iload_n hx hb dX10_mergesOwn_9 rfl (lv_at hl 2 rfl) ?_
  refine lv_iconst (v := 1) hx hb dX10_mergesOwn_10 (by decide) ?_
  refine lv_iload_n hx hb dX10_mergesOwn_11 rfl (lv_at hl 3 rfl) ?_
  obtain ⟨v4, h3, h⟩ := bnd_inv h
  refine r_cI hW (run_V (rest := []) C hW (t_X10_hasColumn h3) mk_X10_hasColumn vk_X10_234 (kd_X10_hasColumn h3) rfl rfl (by decide) ⟨Nat.le_of_ble_eq_true rfl, Nat.le_of_ble_eq_true rfl⟩ ⟨Nat.zero_le _, Nat.zero_le _⟩ rfl rfl (Nat.le_of_ble_eq_true rfl) hl.1 dX10_mergesOwn_12) (fun H locs hW _ => ?_)
  refine lv_istore (lv' := [(4, .int v4), (3, .int v2), (0, .ref a), (1, .int x1), (2, .int x2)]) hx hb dX10_mergesOwn_15 hl (by decide) rfl (fun ls hl => ?_)
  refine lv_aload_n hx hb dX10_mergesOwn_17 rfl (lv_at hl 2 rfl) ?_
  refine lv_iload_n hx hb dX10_mergesOwn_18 rfl (lv_at hl 3 rfl) ?_
  refine lv_iconst (v := 2) hx hb dX10_mergesOwn_19 (by decide) ?_
  refine lv_iload_n hx hb dX10_mergesOwn_20 rfl (lv_at hl 4 rfl) ?_
  obtain ⟨v6, h5, h⟩ := bnd_inv h
  refine r_cI hW (run_V (rest := []) C hW (t_X10_hasColumn h5) mk_X10_hasColumn vk_X10_234 (kd_X10_hasColumn h5) rfl rfl (by decide) ⟨Nat.le_of_ble_eq_true rfl, Nat.le_of_ble_eq_true rfl⟩ ⟨Nat.zero_le _, Nat.zero_le _⟩ rfl rfl (Nat.le_of_ble_eq_true rfl) hl.1 dX10_mergesOwn_21) (fun H locs hW _ => ?_)
  refine r_br h (lv_if_eq (tgt := 36) hx hb dX10_mergesOwn_24 (by decide)) (fun h => ?_) (fun h => ?_)
  · exact r_vret C hW (Option.some.inj h).symm dX10_mergesOwn_36
  · refine lv_iload_n hx hb dX10_mergesOwn_27 rfl (lv_at hl 1 rfl) ?_
    refine r_brn h (lv_if_ne (tgt := 37) hx hb dX10_mergesOwn_28 (by decide)) (fun h => ?_) (fun h => ?_)
    · exact b_X10_mergesOwn_37 C hW (lv_sub hl [2, 3, 4, 1, 0] rfl) h
    · refine lv_iload hx hb dX10_mergesOwn_31 (lv_at hl 0 rfl) ?_
      refine r_brn h (lv_if_ne (tgt := 37) hx hb dX10_mergesOwn_33 (by decide)) (fun h => ?_) (fun h => ?_)
      · exact b_X10_mergesOwn_37 C hW (lv_sub hl [2, 3, 4, 1, 0] rfl) h
      · exact r_vret C hW (Option.some.inj h).symm dX10_mergesOwn_36
set_option maxRecDepth 20000 in
set_option maxHeartbeats 2000000 in
theorem b_X10_mergesAdded_47 {k2 : Mx → Int32 → Option Mx} {a : Nat} {x1 : Int32} {x2 : Int32} (C : Cx g RX10 cX10_mergesAdded 5 none p s m args meth c) {r : Mx} {X : Mx} (hk2 : ∀ {H' : Heap} {locs' : List Loc} {ls' : Array Slot} {X' : Mx} {x2' : Int32}, Wd g σ X' s H' locs' → lv_has ls' 5 [(0, .ref a), (1, .int x1), (2, .int x2')] → k2 X' x2' = some r → W p l e (rmZ 2 45) s m args below meth c H' locs' 0 0 (QV g σ below args s r) (F0 m 2 ls' [])) (hW : Wd g σ X s H locs) (hl : lv_has ls 5 [(0, .ref a), (1, .int x1), (2, .int x2)]) (h : f_X10_mergesAdded_47 k2 σ a x1 x2 X = some r) : W p l e (rmZ 2 45) s m args below meth c H locs 0 0 (QV g σ below args s r) (F0 m 47 ls []) := by
  have hx := C.x
  have hb := C.b
  unfold f_X10_mergesAdded_47 at h
  refine lv_iinc (v := (x2 + 1)) (lv' := [(2, .int (x2 + 1)), (0, .ref a), (1, .int x1)]) hx hb dX10_mergesAdded_47 hl (k := 2) rfl rfl (by decide) rfl (fun ls hl => ?_)
  refine lv_goto (tgt := 2) hx hb dX10_mergesAdded_50 (by decide) ?_
  exact hk2 hW (lv_sub hl [1, 2, 0] rfl) h
set_option maxRecDepth 20000 in
set_option maxHeartbeats 2000000 in
theorem b_X10_mergesAdded_189 {k56 : Mx → Int32 → Option Mx} {a : Nat} {x1 : Int32} {x2 : Int32} (C : Cx g RX10 cX10_mergesAdded 5 none p s m args meth c) {r : Mx} {X : Mx} (hk56 : ∀ {H' : Heap} {locs' : List Loc} {ls' : Array Slot} {X' : Mx} {x2' : Int32}, Wd g σ X' s H' locs' → lv_has ls' 5 [(0, .ref a), (1, .int x1), (2, .int x2')] → k56 X' x2' = some r → W p l e (rmZ 2 45) s m args below meth c H' locs' 0 0 (QV g σ below args s r) (F0 m 56 ls' [])) (hW : Wd g σ X s H locs) (hl : lv_has ls 5 [(0, .ref a), (1, .int x1), (2, .int x2)]) (h : f_X10_mergesAdded_189 k56 σ a x1 x2 X = some r) : W p l e (rmZ 2 45) s m args below meth c H locs 0 0 (QV g σ below args s r) (F0 m 189 ls []) := by
  have hx := C.x
  have hb := C.b
  unfold f_X10_mergesAdded_189 at h
  refine lv_iinc (v := (x2 + 1)) (lv' := [(2, .int (x2 + 1)), (0, .ref a), (1, .int x1)]) hx hb dX10_mergesAdded_189 hl (k := 2) rfl rfl (by decide) rfl (fun ls hl => ?_)
  refine lv_goto (tgt := 56) hx hb dX10_mergesAdded_192 (by decide) ?_
  exact hk56 hW (lv_sub hl [1, 2, 0] rfl) h
set_option maxRecDepth 20000 in
set_option maxHeartbeats 2000000 in
theorem b_X10_mergesAdded_149 {k56 : Mx → Int32 → Option Mx} {k81 : Mx → Int32 → Int32 → Option Mx} {a : Nat} {x1 : Int32} {x2 : Int32} {x3 : Int32} {x4 : Int32} (C : Cx g RX10 cX10_mergesAdded 5 none p s m args meth c) {r : Mx} {X : Mx} (hk56 : ∀ {H' : Heap} {locs' : List Loc} {ls' : Array Slot} {X' : Mx} {x2' : Int32}, Wd g σ X' s H' locs' → lv_has ls' 5 [(0, .ref a), (1, .int x1), (2, .int x2')] → k56 X' x2' = some r → W p l e (rmZ 2 45) s m args below meth c H' locs' 0 0 (QV g σ below args s r) (F0 m 56 ls' [])) (hk81 : ∀ {H' : Heap} {locs' : List Loc} {ls' : Array Slot} {X' : Mx} {x3' : Int32} {x4' : Int32}, Wd g σ X' s H' locs' → lv_has ls' 5 [(0, .ref a), (1, .int x1), (2, .int x2), (3, .int x3'), (4, .int x4')] → k81 X' x3' x4' = some r → W p l e (rmZ 2 45) s m args below meth c H' locs' 0 0 (QV g σ below args s r) (F0 m 81 ls' [])) (hW : Wd g σ X s H locs) (hl : lv_has ls 5 [(0, .ref a), (1, .int x1), (2, .int x2), (3, .int x3), (4, .int x4)]) (h : f_X10_mergesAdded_149 k56 k81 σ a x1 x2 x3 x4 X = some r) : W p l e (rmZ 2 45) s m args below meth c H locs 0 0 (QV g σ below args s r) (F0 m 149 ls []) := by
  have hx := C.x
  have hb := C.b
  unfold f_X10_mergesAdded_149 at h
  refine lv_iinc (v := (x4 + (-1))) (lv' := [(4, .int (x4 + (-1))), (0, .ref a), (1, .int x1), (2, .int x2), (3, .int x3)]) hx hb dX10_mergesAdded_149 hl (k := 4) rfl rfl (by decide) rfl (fun ls hl => ?_)
  refine lv_goto (tgt := 81) hx hb dX10_mergesAdded_152 (by decide) ?_
  exact hk81 hW (lv_sub hl [1, 2, 3, 4, 0] rfl) h
set_option maxRecDepth 20000 in
set_option maxHeartbeats 2000000 in
theorem b_X10_mergesAdded_81 {k56 : Mx → Int32 → Option Mx} {a : Nat} {x1 : Int32} {x2 : Int32} (C : Cx g RX10 cX10_mergesAdded 5 none p s m args meth c) {r : Mx} (hk56 : ∀ {H' : Heap} {locs' : List Loc} {ls' : Array Slot} {X' : Mx} {x2' : Int32}, Wd g σ X' s H' locs' → lv_has ls' 5 [(0, .ref a), (1, .int x1), (2, .int x2')] → k56 X' x2' = some r → W p l e (rmZ 2 45) s m args below meth c H' locs' 0 0 (QV g σ below args s r) (F0 m 56 ls' [])) : ∀ (n : Nat) {X : Mx} {x3 : Int32} {x4 : Int32} {H : Heap} {locs : List Loc} {ls : Array Slot} (hW : Wd g σ X s H locs) (hl : lv_has ls 5 [(0, .ref a), (1, .int x1), (2, .int x2), (3, .int x3), (4, .int x4)]) (h : f_X10_mergesAdded_81 k56 σ a x1 x2 n X x3 x4 = some r), W p l e (rmZ 2 45) s m args below meth c H locs 0 0 (QV g σ below args s r) (F0 m 81 ls []) := by
  have hx := C.x
  have hb := C.b
  intro n
  induction n with
  | zero =>
    intro X x3 x4 H locs ls hW hl h
    cases (show none = some r from h)
  | succ n ih =>
    intro X x3 x4 H locs ls hW hl h
    rw [f_X10_mergesAdded_81] at h
    refine lv_iload hx hb dX10_mergesAdded_81 (lv_at hl 4 rfl) ?_
    refine lv_iconst (v := 5) hx hb dX10_mergesAdded_83 (by decide) ?_
    refine r_br h (lv_icmp_lt (tgt := 155) hx hb dX10_mergesAdded_84 (by decide)) (fun h => ?_) (fun h => ?_)
    · refine lv_aload_n hx hb dX10_mergesAdded_155 rfl (lv_at hl 0 rfl) ?_
      refine r_gR C hW h fl_X10_38 (by decide) dX10_mergesAdded_156 (fun b1 h => ?_)
      refine lv_bipush (v := 9) hx hb dX10_mergesAdded_159 (by decide) ?_
      refine lv_iload_n hx hb dX10_mergesAdded_161 rfl (lv_at hl 3 rfl) ?_
      refine lv_iadd hx hb dX10_mergesAdded_162 ?_
      refine lv_iload_n hx hb dX10_mergesAdded_163 rfl (lv_at hl 2 rfl) ?_
      refine r_iast C hW h dX10_mergesAdded_164 (fun X2 H locs h hW _ => ?_)
      refine lv_iload_n hx hb dX10_mergesAdded_165 rfl (lv_at hl 3 rfl) ?_
      refine lv_iload_n hx hb dX10_mergesAdded_166 rfl (lv_at hl 2 rfl) ?_
      refine r_brn h (lv_icmp_ne (tgt := 189) hx hb dX10_mergesAdded_167 (by decide)) (fun h => ?_) (fun h => ?_)
      · exact b_X10_mergesAdded_189 C hk56 hW (lv_sub hl [0, 1, 2] rfl) h
      · refine lv_aload_n hx hb dX10_mergesAdded_170 rfl (lv_at hl 0 rfl) ?_
        refine lv_iload_n hx hb dX10_mergesAdded_171 rfl (lv_at hl 2 rfl) ?_
        refine lv_aload_n hx hb dX10_mergesAdded_172 rfl (lv_at hl 0 rfl) ?_
        refine lv_iload_n hx hb dX10_mergesAdded_173 rfl (lv_at hl 1 rfl) ?_
        refine lv_iconst (v := 1) hx hb dX10_mergesAdded_174 (by decide) ?_
        refine lv_iload_n hx hb dX10_mergesAdded_175 rfl (lv_at hl 2 rfl) ?_
        obtain ⟨v4, h3, h⟩ := bnd_inv h
        refine r_cI hW (run_V (rest := [.int x2, .ref a]) C hW (t_X10_nameAt h3) mk_X10_nameAt vk_X10_237 (kd_X10_nameAt h3) rfl rfl (by decide) ⟨Nat.le_of_ble_eq_true rfl, Nat.le_of_ble_eq_true rfl⟩ ⟨Nat.zero_le _, Nat.zero_le _⟩ rfl rfl (Nat.le_of_ble_eq_true rfl) hl.1 dX10_mergesAdded_176) (fun H locs hW _ => ?_)
        refine lv_aload_n hx hb dX10_mergesAdded_179 rfl (lv_at hl 0 rfl) ?_
        refine lv_iload_n hx hb dX10_mergesAdded_180 rfl (lv_at hl 1 rfl) ?_
        refine lv_iconst (v := 1) hx hb dX10_mergesAdded_181 (by decide) ?_
        refine lv_iload_n hx hb dX10_mergesAdded_182 rfl (lv_at hl 2 rfl) ?_
        obtain ⟨v6, h5, h⟩ := bnd_inv h
        refine r_cI hW (run_V (rest := [.int v4, .int x2, .ref a]) C hW (t_X10_typeAt h5) mk_X10_typeAt vk_X10_166 (kd_X10_typeAt h5) rfl rfl (by decide) ⟨Nat.le_of_ble_eq_true rfl, Nat.le_of_ble_eq_true rfl⟩ ⟨Nat.zero_le _, Nat.zero_le _⟩ rfl rfl (Nat.le_of_ble_eq_true rfl) hl.1 dX10_mergesAdded_183) (fun H locs hW _ => ?_)
        obtain ⟨X8, h7, h⟩ := bnd_inv h
        refine r_cV hW (run_V (rest := []) C hW (t_X10_takes h7) mk_X10_takes vk_X10_304 (kd_X10_takes h7) rfl rfl (by decide) ⟨Nat.le_of_ble_eq_true rfl, Nat.le_of_ble_eq_true rfl⟩ ⟨Nat.zero_le _, Nat.zero_le _⟩ rfl rfl (Nat.le_of_ble_eq_true rfl) hl.1 dX10_mergesAdded_186) (fun H locs hW _ => ?_)
        exact b_X10_mergesAdded_189 C hk56 hW (lv_sub hl [0, 1, 2] rfl) h
    · refine lv_aload_n hx hb dX10_mergesAdded_87 rfl (lv_at hl 0 rfl) ?_
      refine lv_iload_n hx hb dX10_mergesAdded_88 rfl (lv_at hl 1 rfl) ?_
      refine lv_iconst (v := 0) hx hb dX10_mergesAdded_89 (by decide) ?_
      refine lv_iload hx hb dX10_mergesAdded_90 (lv_at hl 4 rfl) ?_
      obtain ⟨v10, h9, h⟩ := bnd_inv h
      refine r_cI hW (run_V (rest := []) C hW (t_X10_hasColumn h9) mk_X10_hasColumn vk_X10_234 (kd_X10_hasColumn h9) rfl rfl (by decide) ⟨Nat.le_of_ble_eq_true rfl, Nat.le_of_ble_eq_true rfl⟩ ⟨Nat.zero_le _, Nat.zero_le _⟩ rfl rfl (Nat.le_of_ble_eq_true rfl) hl.1 dX10_mergesAdded_92) (fun H locs hW _ => ?_)
      refine r_br h (lv_if_eq (tgt := 149) hx hb dX10_mergesAdded_95 (by decide)) (fun h => ?_) (fun h => ?_)
      · exact b_X10_mergesAdded_149 C hk56 (fun hW hl h => ih hW hl h) hW (lv_sub hl [0, 1, 2, 3, 4] rfl) h
      · refine lv_aload_n hx hb dX10_mergesAdded_98 rfl (lv_at hl 0 rfl) ?_
        refine r_gR C hW h fl_X10_38 (by decide) dX10_mergesAdded_99 (fun b11 h => ?_)
        refine lv_bipush (v := 9) hx hb dX10_mergesAdded_102 (by decide) ?_
        refine lv_iload hx hb dX10_mergesAdded_104 (lv_at hl 4 rfl) ?_
        refine lv_iadd hx hb dX10_mergesAdded_106 ?_
        refine r_iald C hW h dX10_mergesAdded_107 (fun v12 h => ?_)
        refine lv_iconst (v := (-1)) hx hb dX10_mergesAdded_108 (by decide) ?_
        refine r_brn h (lv_icmp_ne (tgt := 149) hx hb dX10_mergesAdded_109 (by decide)) (fun h => ?_) (fun h => ?_)
        · exact b_X10_mergesAdded_149 C hk56 (fun hW hl h => ih hW hl h) hW (lv_sub hl [0, 1, 2, 3, 4] rfl) h
        · refine lv_aload_n hx hb dX10_mergesAdded_112 rfl (lv_at hl 0 rfl) ?_
          refine r_gR C hW h fl_X10_26 (by decide) dX10_mergesAdded_113 (fun b13 h => ?_)
          refine lv_iload hx hb dX10_mergesAdded_116 (lv_at hl 4 rfl) ?_
          refine r_iald C hW h dX10_mergesAdded_118 (fun v14 h => ?_)
          refine lv_aload_n hx hb dX10_mergesAdded_119 rfl (lv_at hl 0 rfl) ?_
          refine lv_iload_n hx hb dX10_mergesAdded_120 rfl (lv_at hl 1 rfl) ?_
          refine lv_iconst (v := 1) hx hb dX10_mergesAdded_121 (by decide) ?_
          refine lv_iload_n hx hb dX10_mergesAdded_122 rfl (lv_at hl 2 rfl) ?_
          obtain ⟨v16, h15, h⟩ := bnd_inv h
          refine r_cI hW (run_V (rest := [.int v14]) C hW (t_X10_nameAt h15) mk_X10_nameAt vk_X10_237 (kd_X10_nameAt h15) rfl rfl (by decide) ⟨Nat.le_of_ble_eq_true rfl, Nat.le_of_ble_eq_true rfl⟩ ⟨Nat.zero_le _, Nat.zero_le _⟩ rfl rfl (Nat.le_of_ble_eq_true rfl) hl.1 dX10_mergesAdded_123) (fun H locs hW _ => ?_)
          refine r_brn h (lv_icmp_ne (tgt := 149) hx hb dX10_mergesAdded_126 (by decide)) (fun h => ?_) (fun h => ?_)
          · exact b_X10_mergesAdded_149 C hk56 (fun hW hl h => ih hW hl h) hW (lv_sub hl [0, 1, 2, 3, 4] rfl) h
          · refine lv_aload_n hx hb dX10_mergesAdded_129 rfl (lv_at hl 0 rfl) ?_
            refine r_gR C hW h fl_X10_29 (by decide) dX10_mergesAdded_130 (fun b17 h => ?_)
            refine lv_iload hx hb dX10_mergesAdded_133 (lv_at hl 4 rfl) ?_
            refine r_iald C hW h dX10_mergesAdded_135 (fun v18 h => ?_)
            refine lv_aload_n hx hb dX10_mergesAdded_136 rfl (lv_at hl 0 rfl) ?_
            refine lv_iload_n hx hb dX10_mergesAdded_137 rfl (lv_at hl 1 rfl) ?_
            refine lv_iconst (v := 1) hx hb dX10_mergesAdded_138 (by decide) ?_
            refine lv_iload_n hx hb dX10_mergesAdded_139 rfl (lv_at hl 2 rfl) ?_
            obtain ⟨v20, h19, h⟩ := bnd_inv h
            refine r_cI hW (run_V (rest := [.int v18]) C hW (t_X10_typeAt h19) mk_X10_typeAt vk_X10_166 (kd_X10_typeAt h19) rfl rfl (by decide) ⟨Nat.le_of_ble_eq_true rfl, Nat.le_of_ble_eq_true rfl⟩ ⟨Nat.zero_le _, Nat.zero_le _⟩ rfl rfl (Nat.le_of_ble_eq_true rfl) hl.1 dX10_mergesAdded_140) (fun H locs hW _ => ?_)
            refine r_brn h (lv_icmp_ne (tgt := 149) hx hb dX10_mergesAdded_143 (by decide)) (fun h => ?_) (fun h => ?_)
            · exact b_X10_mergesAdded_149 C hk56 (fun hW hl h => ih hW hl h) hW (lv_sub hl [0, 1, 2, 3, 4] rfl) h
            · refine lv_iload hx hb dX10_mergesAdded_146 (lv_at hl 4 rfl) ?_
              refine lv_istore_n (lv' := [(3, .int x4), (0, .ref a), (1, .int x1), (2, .int x2), (4, .int x4)]) hx hb dX10_mergesAdded_148 rfl hl (by decide) rfl (fun ls hl => ?_)
              exact b_X10_mergesAdded_149 C hk56 (fun hW hl h => ih hW hl h) hW (lv_sub hl [1, 2, 3, 0, 4] rfl) h
set_option maxRecDepth 20000 in
set_option maxHeartbeats 2000000 in
theorem b_X10_mergesAdded_56 {a : Nat} {x1 : Int32} (C : Cx g RX10 cX10_mergesAdded 5 none p s m args meth c) {r : Mx} : ∀ (n : Nat) {X : Mx} {x2 : Int32} {H : Heap} {locs : List Loc} {ls : Array Slot} (hW : Wd g σ X s H locs) (hl : lv_has ls 5 [(0, .ref a), (1, .int x1), (2, .int x2)]) (h : f_X10_mergesAdded_56 σ a x1 n X x2 = some r), W p l e (rmZ 2 45) s m args below meth c H locs 0 0 (QV g σ below args s r) (F0 m 56 ls []) := by
  have hx := C.x
  have hb := C.b
  intro n
  induction n with
  | zero =>
    intro X x2 H locs ls hW hl h
    cases (show none = some r from h)
  | succ n ih =>
    intro X x2 H locs ls hW hl h
    rw [f_X10_mergesAdded_56] at h
    refine lv_iload_n hx hb dX10_mergesAdded_56 rfl (lv_at hl 2 rfl) ?_
    refine lv_bipush (v := 9) hx hb dX10_mergesAdded_57 (by decide) ?_
    refine r_br h (lv_icmp_ge (tgt := 195) hx hb dX10_mergesAdded_59 (by decide)) (fun h => ?_) (fun h => ?_)
    · exact r_vret C hW (Option.some.inj h).symm dX10_mergesAdded_195
    · refine lv_aload_n hx hb dX10_mergesAdded_62 rfl (lv_at hl 0 rfl) ?_
      refine lv_iload_n hx hb dX10_mergesAdded_63 rfl (lv_at hl 1 rfl) ?_
      refine lv_iconst (v := 1) hx hb dX10_mergesAdded_64 (by decide) ?_
      refine lv_iload_n hx hb dX10_mergesAdded_65 rfl (lv_at hl 2 rfl) ?_
      obtain ⟨v2, h1, h⟩ := bnd_inv h
      refine r_cI hW (run_V (rest := []) C hW (t_X10_hasColumn h1) mk_X10_hasColumn vk_X10_234 (kd_X10_hasColumn h1) rfl rfl (by decide) ⟨Nat.le_of_ble_eq_true rfl, Nat.le_of_ble_eq_true rfl⟩ ⟨Nat.zero_le _, Nat.zero_le _⟩ rfl rfl (Nat.le_of_ble_eq_true rfl) hl.1 dX10_mergesAdded_66) (fun H locs hW _ => ?_)
      refine r_brn h (lv_if_ne (tgt := 75) hx hb dX10_mergesAdded_69 (by decide)) (fun h => ?_) (fun h => ?_)
      · refine lv_iload_n hx hb dX10_mergesAdded_75 rfl (lv_at hl 2 rfl) ?_
        refine lv_istore_n (lv' := [(3, .int x2), (0, .ref a), (1, .int x1), (2, .int x2)]) hx hb dX10_mergesAdded_76 rfl hl (by decide) rfl (fun ls hl => ?_)
        refine lv_bipush (v := 6) hx hb dX10_mergesAdded_77 (by decide) ?_
        refine lv_istore (lv' := [(4, .int 6), (3, .int x2), (0, .ref a), (1, .int x1), (2, .int x2)]) hx hb dX10_mergesAdded_79 hl (by decide) rfl (fun ls hl => ?_)
        exact b_X10_mergesAdded_81 C (fun hW hl h => ih hW hl h) FU hW (lv_sub hl [2, 3, 4, 1, 0] rfl) h
      · refine lv_goto (tgt := 189) hx hb dX10_mergesAdded_72 (by decide) ?_
        exact b_X10_mergesAdded_189 C (fun hW hl h => ih hW hl h) hW (lv_sub hl [0, 1, 2] rfl) h
set_option maxRecDepth 20000 in
set_option maxHeartbeats 2000000 in
theorem b_X10_mergesAdded_2 {a : Nat} {x1 : Int32} (C : Cx g RX10 cX10_mergesAdded 5 none p s m args meth c) {r : Mx} : ∀ (n : Nat) {X : Mx} {x2 : Int32} {H : Heap} {locs : List Loc} {ls : Array Slot} (hW : Wd g σ X s H locs) (hl : lv_has ls 5 [(0, .ref a), (1, .int x1), (2, .int x2)]) (h : f_X10_mergesAdded_2 σ a x1 n X x2 = some r), W p l e (rmZ 2 45) s m args below meth c H locs 0 0 (QV g σ below args s r) (F0 m 2 ls []) := by
  have hx := C.x
  have hb := C.b
  intro n
  induction n with
  | zero =>
    intro X x2 H locs ls hW hl h
    cases (show none = some r from h)
  | succ n ih =>
    intro X x2 H locs ls hW hl h
    rw [f_X10_mergesAdded_2] at h
    refine lv_iload_n hx hb dX10_mergesAdded_2 rfl (lv_at hl 2 rfl) ?_
    refine lv_bipush (v := 7) hx hb dX10_mergesAdded_3 (by decide) ?_
    refine r_br h (lv_icmp_ge (tgt := 53) hx hb dX10_mergesAdded_5 (by decide)) (fun h => ?_) (fun h => ?_)
    · refine lv_bipush (v := 7) hx hb dX10_mergesAdded_53 (by decide) ?_
      refine lv_istore_n (lv' := [(2, .int 7), (0, .ref a), (1, .int x1)]) hx hb dX10_mergesAdded_55 rfl hl (by decide) rfl (fun ls hl => ?_)
      exact b_X10_mergesAdded_56 C FU hW (lv_sub hl [1, 2, 0] rfl) h
    · refine lv_aload_n hx hb dX10_mergesAdded_8 rfl (lv_at hl 0 rfl) ?_
      refine lv_iload_n hx hb dX10_mergesAdded_9 rfl (lv_at hl 1 rfl) ?_
      refine lv_iconst (v := 0) hx hb dX10_mergesAdded_10 (by decide) ?_
      refine lv_iload_n hx hb dX10_mergesAdded_11 rfl (lv_at hl 2 rfl) ?_
      obtain ⟨v2, h1, h⟩ := bnd_inv h
      refine r_cI hW (run_V (rest := []) C hW (t_X10_hasColumn h1) mk_X10_hasColumn vk_X10_234 (kd_X10_hasColumn h1) rfl rfl (by decide) ⟨Nat.le_of_ble_eq_true rfl, Nat.le_of_ble_eq_true rfl⟩ ⟨Nat.zero_le _, Nat.zero_le _⟩ rfl rfl (Nat.le_of_ble_eq_true rfl) hl.1 dX10_mergesAdded_12) (fun H locs hW _ => ?_)
      refine r_brn h (lv_if_ne (tgt := 21) hx hb dX10_mergesAdded_15 (by decide)) (fun h => ?_) (fun h => ?_)
      · refine lv_aload_n hx hb dX10_mergesAdded_21 rfl (lv_at hl 0 rfl) ?_
        refine r_gR C hW h fl_X10_38 (by decide) dX10_mergesAdded_22 (fun b3 h => ?_)
        refine lv_iload_n hx hb dX10_mergesAdded_25 rfl (lv_at hl 2 rfl) ?_
        refine lv_iload_n hx hb dX10_mergesAdded_26 rfl (lv_at hl 2 rfl) ?_
        refine r_iast C hW h dX10_mergesAdded_27 (fun X4 H locs h hW _ => ?_)
        refine lv_aload_n hx hb dX10_mergesAdded_28 rfl (lv_at hl 0 rfl) ?_
        refine lv_iload_n hx hb dX10_mergesAdded_29 rfl (lv_at hl 2 rfl) ?_
        refine lv_aload_n hx hb dX10_mergesAdded_30 rfl (lv_at hl 0 rfl) ?_
        refine lv_iload_n hx hb dX10_mergesAdded_31 rfl (lv_at hl 1 rfl) ?_
        refine lv_iconst (v := 0) hx hb dX10_mergesAdded_32 (by decide) ?_
        refine lv_iload_n hx hb dX10_mergesAdded_33 rfl (lv_at hl 2 rfl) ?_
        obtain ⟨v6, h5, h⟩ := bnd_inv h
        refine r_cI hW (run_V (rest := [.int x2, .ref a]) C hW (t_X10_nameAt h5) mk_X10_nameAt vk_X10_237 (kd_X10_nameAt h5) rfl rfl (by decide) ⟨Nat.le_of_ble_eq_true rfl, Nat.le_of_ble_eq_true rfl⟩ ⟨Nat.zero_le _, Nat.zero_le _⟩ rfl rfl (Nat.le_of_ble_eq_true rfl) hl.1 dX10_mergesAdded_34) (fun H locs hW _ => ?_)
        refine lv_aload_n hx hb dX10_mergesAdded_37 rfl (lv_at hl 0 rfl) ?_
        refine lv_iload_n hx hb dX10_mergesAdded_38 rfl (lv_at hl 1 rfl) ?_
        refine lv_iconst (v := 0) hx hb dX10_mergesAdded_39 (by decide) ?_
        refine lv_iload_n hx hb dX10_mergesAdded_40 rfl (lv_at hl 2 rfl) ?_
        obtain ⟨v8, h7, h⟩ := bnd_inv h
        refine r_cI hW (run_V (rest := [.int v6, .int x2, .ref a]) C hW (t_X10_typeAt h7) mk_X10_typeAt vk_X10_166 (kd_X10_typeAt h7) rfl rfl (by decide) ⟨Nat.le_of_ble_eq_true rfl, Nat.le_of_ble_eq_true rfl⟩ ⟨Nat.zero_le _, Nat.zero_le _⟩ rfl rfl (Nat.le_of_ble_eq_true rfl) hl.1 dX10_mergesAdded_41) (fun H locs hW _ => ?_)
        obtain ⟨X10, h9, h⟩ := bnd_inv h
        refine r_cV hW (run_V (rest := []) C hW (t_X10_takes h9) mk_X10_takes vk_X10_304 (kd_X10_takes h9) rfl rfl (by decide) ⟨Nat.le_of_ble_eq_true rfl, Nat.le_of_ble_eq_true rfl⟩ ⟨Nat.zero_le _, Nat.zero_le _⟩ rfl rfl (Nat.le_of_ble_eq_true rfl) hl.1 dX10_mergesAdded_44) (fun H locs hW _ => ?_)
        exact b_X10_mergesAdded_47 C (fun hW hl h => ih hW hl h) hW (lv_sub hl [0, 1, 2] rfl) h
      · refine lv_goto (tgt := 47) hx hb dX10_mergesAdded_18 (by decide) ?_
        exact b_X10_mergesAdded_47 C (fun hW hl h => ih hW hl h) hW (lv_sub hl [0, 1, 2] rfl) h
theorem kd_X10_mergesAdded {X : Mx} {r : Mx} {a : Nat} {x1 : Int32} (h : f_X10_mergesAdded σ X a x1 = some r) : shK σ a = 8 := (grd_inv h).1
set_option maxRecDepth 20000 in
set_option maxHeartbeats 2000000 in
theorem t_X10_mergesAdded {X : Mx} {r : Mx} {a : Nat} {x1 : Int32} (h : f_X10_mergesAdded σ X a x1 = some r) : MtV g l yX10_mergesAdded cX10_mergesAdded 5 none 2 45 [.ref a, .int x1] σ X r := by
  refine met_of mk_X10_mergesAdded (Nat.le_of_ble_eq_true rfl) (fun p e s m args below meth c ls C hW hl => ?_)
  have hx := C.x
  have hb := C.b
  have hl : lv_has ls 5 [(0, .ref a), (1, .int x1)] := hl
  unfold f_X10_mergesAdded at h
  obtain ⟨hk0, h⟩ := grd_inv h
  refine lv_iconst (v := 5) hx hb dX10_mergesAdded_0 (by decide) ?_
  refine lv_istore_n (lv' := [(2, .int 5), (0, .ref a), (1, .int x1)]) hx hb dX10_mergesAdded_1 rfl hl (by decide) rfl (fun ls hl => ?_)
  exact b_X10_mergesAdded_2 C FU hW (lv_sub hl [1, 2, 0] rfl) h
set_option maxRecDepth 20000 in
set_option maxHeartbeats 2000000 in
theorem b_X10_isNamed_31 {k2 : Int32 → Option Int32} {a : Nat} {x1 : Int32} {x2 : Int32} {x3 : Int32} (C : Cx g RX10 cX10_isNamed 4 (some .boolean) p s m args meth c) {r : Int32} {X : Mx} (hk2 : ∀ {H' : Heap} {locs' : List Loc} {ls' : Array Slot} {x3' : Int32}, Wd g σ X s H' locs' → lv_has ls' 4 [(0, .ref a), (1, .int x1), (2, .int x2), (3, .int x3')] → k2 x3' = some r → W p l e (rmZ 0 0) s m args below meth c H' locs' 0 0 (QI g σ below args s (r, X)) (F0 m 2 ls' [])) (hW : Wd g σ X s H locs) (hl : lv_has ls 4 [(0, .ref a), (1, .int x1), (2, .int x2), (3, .int x3)]) (h : f_X10_isNamed_31 k2 σ X a x1 x2 x3 = some r) : W p l e (rmZ 0 0) s m args below meth c H locs 0 0 (QI g σ below args s (r, X)) (F0 m 31 ls []) := by
  have hx := C.x
  have hb := C.b
  unfold f_X10_isNamed_31 at h
  refine lv_iinc (v := (x3 + 1)) (lv' := [(3, .int (x3 + 1)), (0, .ref a), (1, .int x1), (2, .int x2)]) hx hb dX10_isNamed_31 hl (k := 3) rfl rfl (by decide) rfl (fun ls hl => ?_)
  refine lv_goto (tgt := 2) hx hb dX10_isNamed_34 (by decide) ?_
  exact hk2 hW (lv_sub hl [1, 2, 3, 0] rfl) h
set_option maxRecDepth 20000 in
set_option maxHeartbeats 2000000 in
theorem b_X10_isNamed_2 {a : Nat} {x1 : Int32} {x2 : Int32} (C : Cx g RX10 cX10_isNamed 4 (some .boolean) p s m args meth c) {r : Int32} {X : Mx} : ∀ (n : Nat) {x3 : Int32} {H : Heap} {locs : List Loc} {ls : Array Slot} (hW : Wd g σ X s H locs) (hl : lv_has ls 4 [(0, .ref a), (1, .int x1), (2, .int x2), (3, .int x3)]) (h : f_X10_isNamed_2 σ X a x1 x2 n x3 = some r), W p l e (rmZ 0 0) s m args below meth c H locs 0 0 (QI g σ below args s (r, X)) (F0 m 2 ls []) := by
  have hx := C.x
  have hb := C.b
  intro n
  induction n with
  | zero =>
    intro x3 H locs ls hW hl h
    cases (show none = some r from h)
  | succ n ih =>
    intro x3 H locs ls hW hl h
    rw [f_X10_isNamed_2] at h
    refine lv_iload_n hx hb dX10_isNamed_2 rfl (lv_at hl 3 rfl) ?_
    refine lv_iload_n hx hb dX10_isNamed_3 rfl (lv_at hl 2 rfl) ?_
    refine r_br h (lv_icmp_ge (tgt := 37) hx hb dX10_isNamed_4 (by decide)) (fun h => ?_) (fun h => ?_)
    · refine lv_iconst (v := 0) hx hb dX10_isNamed_37 (by decide) ?_
      exact r_iret C hW (rt_R h) rfl dX10_isNamed_38
    · refine lv_aload_n hx hb dX10_isNamed_7 rfl (lv_at hl 0 rfl) ?_
      refine r_gI C hW h fl_X10_291 (by decide) dX10_isNamed_8 (fun v1 h => ?_)
      refine lv_iload_n hx hb dX10_isNamed_11 rfl (lv_at hl 3 rfl) ?_
      refine lv_ishr hx hb dX10_isNamed_12 ?_
      refine lv_iconst (v := 1) hx hb dX10_isNamed_13 (by decide) ?_
      refine lv_iand hx hb dX10_isNamed_14 ?_
      refine lv_iconst (v := 1) hx hb dX10_isNamed_15 (by decide) ?_
      refine r_brn h (lv_icmp_ne (tgt := 31) hx hb dX10_isNamed_16 (by decide)) (fun h => ?_) (fun h => ?_)
      · exact b_X10_isNamed_31 C (fun hW hl h => ih hW hl h) hW (lv_sub hl [0, 1, 2, 3] rfl) h
      · refine lv_aload_n hx hb dX10_isNamed_19 rfl (lv_at hl 0 rfl) ?_
        refine r_gR C hW h fl_X10_26 (by decide) dX10_isNamed_20 (fun b2 h => ?_)
        refine lv_iload_n hx hb dX10_isNamed_23 rfl (lv_at hl 3 rfl) ?_
        refine r_iald C hW h dX10_isNamed_24 (fun v3 h => ?_)
        refine lv_iload_n hx hb dX10_isNamed_25 rfl (lv_at hl 1 rfl) ?_
        refine r_brn h (lv_icmp_ne (tgt := 31) hx hb dX10_isNamed_26 (by decide)) (fun h => ?_) (fun h => ?_)
        · exact b_X10_isNamed_31 C (fun hW hl h => ih hW hl h) hW (lv_sub hl [0, 1, 2, 3] rfl) h
        · refine lv_iconst (v := 1) hx hb dX10_isNamed_29 (by decide) ?_
          exact r_iret C hW (rt_R h) rfl dX10_isNamed_30
theorem kd_X10_isNamed {X : Mx} {r : Int32} {a : Nat} {x1 : Int32} {x2 : Int32} (h : f_X10_isNamed σ X a x1 x2 = some r) : shK σ a = 8 := (grd_inv h).1
set_option maxRecDepth 20000 in
set_option maxHeartbeats 2000000 in
theorem t_X10_isNamed {X : Mx} {r : Int32} {a : Nat} {x1 : Int32} {x2 : Int32} (h : f_X10_isNamed σ X a x1 x2 = some r) : MtI g l yX10_isNamed cX10_isNamed 4 (some .boolean) 0 0 [.ref a, .int x1, .int x2] σ X (r, X) := by
  refine met_of mk_X10_isNamed (Nat.le_of_ble_eq_true rfl) (fun p e s m args below meth c ls C hW hl => ?_)
  have hx := C.x
  have hb := C.b
  have hl : lv_has ls 4 [(0, .ref a), (1, .int x1), (2, .int x2)] := hl
  unfold f_X10_isNamed at h
  obtain ⟨hk0, h⟩ := grd_inv h
  refine lv_iconst (v := 0) hx hb dX10_isNamed_0 (by decide) ?_
  refine lv_istore_n (lv' := [(3, .int 0), (0, .ref a), (1, .int x1), (2, .int x2)]) hx hb dX10_isNamed_1 rfl hl (by decide) rfl (fun ls hl => ?_)
  exact b_X10_isNamed_2 C FU hW (lv_sub hl [1, 2, 3, 0] rfl) h
set_option maxRecDepth 20000 in
set_option maxHeartbeats 2000000 in
theorem b_X10_mergesNames_101 {k2 : Mx → Int32 → Option Mx} {a : Nat} {x1 : Int32} {x2 : Int32} (C : Cx g RX10 cX10_mergesNames 5 none p s m args meth c) {r : Mx} {X : Mx} (hk2 : ∀ {H' : Heap} {locs' : List Loc} {ls' : Array Slot} {X' : Mx} {x2' : Int32}, Wd g σ X' s H' locs' → lv_has ls' 5 [(0, .ref a), (1, .int x1), (2, .int x2')] → k2 X' x2' = some r → W p l e (rmZ 3 72) s m args below meth c H' locs' 0 0 (QV g σ below args s r) (F0 m 2 ls' [])) (hW : Wd g σ X s H locs) (hl : lv_has ls 5 [(0, .ref a), (1, .int x1), (2, .int x2)]) (h : f_X10_mergesNames_101 k2 σ a x1 x2 X = some r) : W p l e (rmZ 3 72) s m args below meth c H locs 0 0 (QV g σ below args s r) (F0 m 101 ls []) := by
  have hx := C.x
  have hb := C.b
  unfold f_X10_mergesNames_101 at h
  refine lv_iinc (v := (x2 + 1)) (lv' := [(2, .int (x2 + 1)), (0, .ref a), (1, .int x1)]) hx hb dX10_mergesNames_101 hl (k := 2) rfl rfl (by decide) rfl (fun ls hl => ?_)
  refine lv_goto (tgt := 2) hx hb dX10_mergesNames_104 (by decide) ?_
  exact hk2 hW (lv_sub hl [1, 2, 0] rfl) h
set_option maxRecDepth 20000 in
set_option maxHeartbeats 2000000 in
theorem b_X10_mergesNames_76 {k2 : Mx → Int32 → Option Mx} {a : Nat} {x1 : Int32} {x2 : Int32} (C : Cx g RX10 cX10_mergesNames 5 none p s m args meth c) {r : Mx} (hk2 : ∀ {H' : Heap} {locs' : List Loc} {ls' : Array Slot} {X' : Mx} {x2' : Int32}, Wd g σ X' s H' locs' → lv_has ls' 5 [(0, .ref a), (1, .int x1), (2, .int x2')] → k2 X' x2' = some r → W p l e (rmZ 3 72) s m args below meth c H' locs' 0 0 (QV g σ below args s r) (F0 m 2 ls' [])) : ∀ (n : Nat) {X : Mx} {x4 : Int32} {H : Heap} {locs : List Loc} {ls : Array Slot} (hW : Wd g σ X s H locs) (hl : lv_has ls 5 [(0, .ref a), (1, .int x1), (2, .int x2), (4, .int x4)]) (h : f_X10_mergesNames_76 k2 σ a x1 x2 n X x4 = some r), W p l e (rmZ 3 72) s m args below meth c H locs 0 0 (QV g σ below args s r) (F0 m 76 ls []) := by
  have hx := C.x
  have hb := C.b
  intro n
  induction n with
  | zero =>
    intro X x4 H locs ls hW hl h
    cases (show none = some r from h)
  | succ n ih =>
    intro X x4 H locs ls hW hl h
    rw [f_X10_mergesNames_76] at h
    refine lv_aload_n hx hb dX10_mergesNames_76 rfl (lv_at hl 0 rfl) ?_
    refine lv_iload hx hb dX10_mergesNames_77 (lv_at hl 3 rfl) ?_
    refine lv_bipush (v := 9) hx hb dX10_mergesNames_79 (by decide) ?_
    obtain ⟨v2, h1, h⟩ := bnd_inv h
    refine r_cI hW (run_V (rest := []) C hW (t_X10_isNamed h1) mk_X10_isNamed vk_X10_311 (kd_X10_isNamed h1) rfl rfl (by decide) ⟨Nat.le_of_ble_eq_true rfl, Nat.le_of_ble_eq_true rfl⟩ ⟨Nat.zero_le _, Nat.zero_le _⟩ rfl rfl (Nat.le_of_ble_eq_true rfl) hl.1 dX10_mergesNames_81) (fun H locs hW _ => ?_)
    refine r_br h (lv_if_eq (tgt := 93) hx hb dX10_mergesNames_84 (by decide)) (fun h => ?_) (fun h => ?_)
    · refine lv_aload_n hx hb dX10_mergesNames_93 rfl (lv_at hl 0 rfl) ?_
      refine r_gR C hW h fl_X10_26 (by decide) dX10_mergesNames_94 (fun b3 h => ?_)
      refine lv_iload_n hx hb dX10_mergesNames_97 rfl (lv_at hl 2 rfl) ?_
      refine lv_iload hx hb dX10_mergesNames_98 (lv_at hl 3 rfl) ?_
      refine r_iast C hW h dX10_mergesNames_100 (fun X4 H locs h hW _ => ?_)
      exact b_X10_mergesNames_101 C hk2 hW (lv_sub hl [0, 1, 2] rfl) h
    · refine lv_iinc (v := (x4 + 1)) (lv' := [(4, .int (x4 + 1)), (0, .ref a), (1, .int x1), (2, .int x2)]) hx hb dX10_mergesNames_87 hl (k := 3) rfl rfl (by decide) rfl (fun ls hl => ?_)
      refine lv_goto (tgt := 76) hx hb dX10_mergesNames_90 (by decide) ?_
      exact ih hW (lv_sub hl [1, 2, 3, 0] rfl) h
set_option maxRecDepth 20000 in
set_option maxHeartbeats 2000000 in
theorem b_X10_mergesNames_66 {k2 : Mx → Int32 → Option Mx} {a : Nat} {x1 : Int32} {x2 : Int32} {x3 : Int32} (C : Cx g RX10 cX10_mergesNames 5 none p s m args meth c) {r : Mx} {X : Mx} (hk2 : ∀ {H' : Heap} {locs' : List Loc} {ls' : Array Slot} {X' : Mx} {x2' : Int32}, Wd g σ X' s H' locs' → lv_has ls' 5 [(0, .ref a), (1, .int x1), (2, .int x2')] → k2 X' x2' = some r → W p l e (rmZ 3 72) s m args below meth c H' locs' 0 0 (QV g σ below args s r) (F0 m 2 ls' [])) (hW : Wd g σ X s H locs) (hl : lv_has ls 5 [(0, .ref a), (1, .int x1), (2, .int x2), (3, .int x3)]) (h : f_X10_mergesNames_66 k2 σ a x1 x2 x3 X = some r) : W p l e (rmZ 3 72) s m args below meth c H locs 0 0 (QV g σ below args s r) (F0 m 66 ls []) := by
  have hx := C.x
  have hb := C.b
  unfold f_X10_mergesNames_66 at h
  refine lv_iload_n hx hb dX10_mergesNames_66 rfl (lv_at hl 3 rfl) ?_
  refine r_br h (lv_if_eq (tgt := 73) hx hb dX10_mergesNames_67 (by decide)) (fun h => ?_) (fun h => ?_)
  · refine lv_iconst (v := 0) hx hb dX10_mergesNames_73 (by decide) ?_
    refine lv_istore (lv' := [(4, .int 0), (0, .ref a), (1, .int x1), (2, .int x2), (3, .int x3)]) hx hb dX10_mergesNames_74 hl (by decide) rfl (fun ls hl => ?_)
    exact b_X10_mergesNames_76 C hk2 FU hW (lv_sub hl [1, 2, 3, 0] rfl) h
  · refine lv_goto (tgt := 101) hx hb dX10_mergesNames_70 (by decide) ?_
    exact b_X10_mergesNames_101 C hk2 hW (lv_sub hl [0, 1, 2] rfl) h
set_option maxRecDepth 20000 in
set_option maxHeartbeats 2000000 in
theorem b_X10_mergesNames_2 {a : Nat} {x1 : Int32} (C : Cx g RX10 cX10_mergesNames 5 none p s m args meth c) {r : Mx} : ∀ (n : Nat) {X : Mx} {x2 : Int32} {H : Heap} {locs : List Loc} {ls : Array Slot} (hW : Wd g σ X s H locs) (hl : lv_has ls 5 [(0, .ref a), (1, .int x1), (2, .int x2)]) (h : f_X10_mergesNames_2 σ a x1 n X x2 = some r), W p l e (rmZ 3 72) s m args below meth c H locs 0 0 (QV g σ below args s r) (F0 m 2 ls []) := by
  have hx := C.x
  have hb := C.b
  intro n
  induction n with
  | zero =>
    intro X x2 H locs ls hW hl h
    cases (show none = some r from h)
  | succ n ih =>
    intro X x2 H locs ls hW hl h
    rw [f_X10_mergesNames_2] at h
    refine lv_iload_n hx hb dX10_mergesNames_2 rfl (lv_at hl 2 rfl) ?_
    refine lv_bipush (v := 9) hx hb dX10_mergesNames_3 (by decide) ?_
    refine r_br h (lv_icmp_ge (tgt := 107) hx hb dX10_mergesNames_5 (by decide)) (fun h => ?_) (fun h => ?_)
    · exact r_vret C hW (Option.some.inj h).symm dX10_mergesNames_107
    · refine lv_aload_n hx hb dX10_mergesNames_8 rfl (lv_at hl 0 rfl) ?_
      refine r_gI C hW h fl_X10_291 (by decide) dX10_mergesNames_9 (fun v1 h => ?_)
      refine lv_iload_n hx hb dX10_mergesNames_12 rfl (lv_at hl 2 rfl) ?_
      refine lv_ishr hx hb dX10_mergesNames_13 ?_
      refine lv_iconst (v := 1) hx hb dX10_mergesNames_14 (by decide) ?_
      refine lv_iand hx hb dX10_mergesNames_15 ?_
      refine r_br h (lv_if_eq (tgt := 101) hx hb dX10_mergesNames_16 (by decide)) (fun h => ?_) (fun h => ?_)
      · exact b_X10_mergesNames_101 C (fun hW hl h => ih hW hl h) hW (lv_sub hl [0, 1, 2] rfl) h
      · refine lv_aload_n hx hb dX10_mergesNames_19 rfl (lv_at hl 0 rfl) ?_
        refine lv_aload_n hx hb dX10_mergesNames_20 rfl (lv_at hl 0 rfl) ?_
        refine r_gR C hW h fl_X10_26 (by decide) dX10_mergesNames_21 (fun b2 h => ?_)
        refine lv_iload_n hx hb dX10_mergesNames_24 rfl (lv_at hl 2 rfl) ?_
        refine r_iald C hW h dX10_mergesNames_25 (fun v3 h => ?_)
        refine lv_iload_n hx hb dX10_mergesNames_26 rfl (lv_at hl 2 rfl) ?_
        obtain ⟨v5, h4, h⟩ := bnd_inv h
        refine r_cI hW (run_V (rest := []) C hW (t_X10_isNamed h4) mk_X10_isNamed vk_X10_311 (kd_X10_isNamed h4) rfl rfl (by decide) ⟨Nat.le_of_ble_eq_true rfl, Nat.le_of_ble_eq_true rfl⟩ ⟨Nat.zero_le _, Nat.zero_le _⟩ rfl rfl (Nat.le_of_ble_eq_true rfl) hl.1 dX10_mergesNames_27) (fun H locs hW _ => ?_)
        refine r_brn h (lv_if_ne (tgt := 36) hx hb dX10_mergesNames_30 (by decide)) (fun h => ?_) (fun h => ?_)
        · refine lv_aload_n hx hb dX10_mergesNames_36 rfl (lv_at hl 0 rfl) ?_
          refine lv_iload_n hx hb dX10_mergesNames_37 rfl (lv_at hl 1 rfl) ?_
          refine lv_iconst (v := 3) hx hb dX10_mergesNames_38 (by decide) ?_
          refine lv_iload_n hx hb dX10_mergesNames_39 rfl (lv_at hl 2 rfl) ?_
          refine lv_iconst (v := 0) hx hb dX10_mergesNames_40 (by decide) ?_
          refine lv_iconst (v := (-1)) hx hb dX10_mergesNames_41 (by decide) ?_
          refine lv_iconst (v := (-1)) hx hb dX10_mergesNames_42 (by decide) ?_
          obtain ⟨v8, X7, h6, h⟩ := bnd2_inv h
          refine r_cI hW (run_V (rest := []) C hW (t_X10_comesUp h6) mk_X10_comesUp vk_X10_294 (kd_X10_comesUp h6) rfl rfl (by decide) ⟨Nat.le_of_ble_eq_true rfl, Nat.le_of_ble_eq_true rfl⟩ ⟨Nat.zero_le _, Nat.zero_le _⟩ rfl rfl (Nat.le_of_ble_eq_true rfl) hl.1 dX10_mergesNames_43) (fun H locs hW _ => ?_)
          refine lv_istore_n (lv' := [(3, .int v8), (0, .ref a), (1, .int x1), (2, .int x2)]) hx hb dX10_mergesNames_46 rfl hl (by decide) rfl (fun ls hl => ?_)
          refine lv_iload_n hx hb dX10_mergesNames_47 rfl (lv_at hl 0 rfl) ?_
          refine lv_iconst (v := 1) hx hb dX10_mergesNames_48 (by decide) ?_
          refine r_brn h (lv_icmp_ne (tgt := 66) hx hb dX10_mergesNames_49 (by decide)) (fun h => ?_) (fun h => ?_)
          · exact b_X10_mergesNames_66 C (fun hW hl h => ih hW hl h) hW (lv_sub hl [1, 2, 3, 0] rfl) h
          · refine lv_aload_n hx hb dX10_mergesNames_52 rfl (lv_at hl 1 rfl) ?_
            refine lv_dup hx hb dX10_mergesNames_53 rfl ?_
            refine r_gI C hW h fl_X10_291 (by decide) dX10_mergesNames_54 (fun v9 h => ?_)
            refine lv_iconst (v := 1) hx hb dX10_mergesNames_57 (by decide) ?_
            refine lv_iload_n hx hb dX10_mergesNames_58 rfl (lv_at hl 3 rfl) ?_
            refine lv_ishl hx hb dX10_mergesNames_59 ?_
            refine lv_iconst (v := (-1)) hx hb dX10_mergesNames_60 (by decide) ?_
            refine lv_ixor hx hb dX10_mergesNames_61 ?_
            refine lv_iand hx hb dX10_mergesNames_62 ?_
            refine r_pI C hW h pf_X10_291 (by decide) rfl rfl dX10_mergesNames_63 (fun X10 H locs h hW _ => ?_)
            exact b_X10_mergesNames_66 C (fun hW hl h => ih hW hl h) hW (lv_sub hl [1, 2, 3, 0] rfl) h
        · refine lv_goto (tgt := 101) hx hb dX10_mergesNames_33 (by decide) ?_
          exact b_X10_mergesNames_101 C (fun hW hl h => ih hW hl h) hW (lv_sub hl [0, 1, 2] rfl) h
theorem kd_X10_mergesNames {X : Mx} {r : Mx} {a : Nat} {x1 : Int32} (h : f_X10_mergesNames σ X a x1 = some r) : shK σ a = 8 := (grd_inv h).1
set_option maxRecDepth 20000 in
set_option maxHeartbeats 2000000 in
theorem t_X10_mergesNames {X : Mx} {r : Mx} {a : Nat} {x1 : Int32} (h : f_X10_mergesNames σ X a x1 = some r) : MtV g l yX10_mergesNames cX10_mergesNames 5 none 3 72 [.ref a, .int x1] σ X r := by
  refine met_of mk_X10_mergesNames (Nat.le_of_ble_eq_true rfl) (fun p e s m args below meth c ls C hW hl => ?_)
  have hx := C.x
  have hb := C.b
  have hl : lv_has ls 5 [(0, .ref a), (1, .int x1)] := hl
  unfold f_X10_mergesNames at h
  obtain ⟨hk0, h⟩ := grd_inv h
  refine lv_iconst (v := 0) hx hb dX10_mergesNames_0 (by decide) ?_
  refine lv_istore_n (lv' := [(2, .int 0), (0, .ref a), (1, .int x1)]) hx hb dX10_mergesNames_1 rfl hl (by decide) rfl (fun ls hl => ?_)
  exact b_X10_mergesNames_2 C FU hW (lv_sub hl [1, 2, 0] rfl) h
set_option maxRecDepth 20000 in
set_option maxHeartbeats 2000000 in
theorem b_X10_isMergedRow_33 {x3 : Int32} {x4 : Int32} (C : Cx g RX10 cX10_isMergedRow 5 (some .boolean) p s m args meth c) {r : (Int32 × Mx)} {X : Mx} (hW : Wd g σ X s H locs) (hl : lv_has ls 5 [(3, .int x3), (4, .int x4)]) (h : f_X10_isMergedRow_33 σ x3 x4 X = some r) : W p l e (rmZ 5 116) s m args below meth c H locs 0 0 (QI g σ below args s r) (F0 m 33 ls []) := by
  have hx := C.x
  have hb := C.b
  unfold f_X10_isMergedRow_33 at h
  refine lv_iload_n hx hb dX10_isMergedRow_33 rfl (lv_at hl 0 rfl) ?_
  refine r_brn h (lv_if_ne (tgt := 42) hx hb dX10_isMergedRow_34 (by decide)) (fun h => ?_) (fun h => ?_)
  · refine lv_iconst (v := 1) hx hb dX10_isMergedRow_42 (by decide) ?_
    refine lv_goto (tgt := 47) hx hb dX10_isMergedRow_43 (by decide) ?_
    exact r_iret C hW (Option.some.inj h).symm rfl dX10_isMergedRow_47
  · refine lv_iload hx hb dX10_isMergedRow_37 (lv_at hl 1 rfl) ?_
    refine r_br h (lv_if_eq (tgt := 46) hx hb dX10_isMergedRow_39 (by decide)) (fun h => ?_) (fun h => ?_)
    · refine lv_iconst (v := 0) hx hb dX10_isMergedRow_46 (by decide) ?_
      exact r_iret C hW (Option.some.inj h).symm rfl dX10_isMergedRow_47
    · refine lv_iconst (v := 1) hx hb dX10_isMergedRow_42 (by decide) ?_
      refine lv_goto (tgt := 47) hx hb dX10_isMergedRow_43 (by decide) ?_
      exact r_iret C hW (Option.some.inj h).symm rfl dX10_isMergedRow_47
set_option maxRecDepth 20000 in
set_option maxHeartbeats 2000000 in
theorem b_X10_isMergedRow_59 {a : Nat} {x1 : Int32} {x2 : Int32} (C : Cx g RX10 cX10_isMergedRow 5 (some .boolean) p s m args meth c) {r : (Int32 × Mx)} {X : Mx} {y0 : Nat} {y1 : Int32} {y2 : Int32} (hW : Wd g σ X s H locs) (hl : lv_has ls 5 [(0, .ref a), (1, .int x1), (2, .int x2)]) (h : f_X10_isMergedRow_59 σ a x1 x2 X y0 y1 y2 = some r) : W p l e (rmZ 5 116) s m args below meth c H locs 0 0 (QI g σ below args s r) (F0 m 59 ls [.int y2, .int y1, .ref y0]) := by
  have hx := C.x
  have hb := C.b
  unfold f_X10_isMergedRow_59 at h
  refine lv_iload_n hx hb dX10_isMergedRow_59 rfl (lv_at hl 2 rfl) ?_
  obtain ⟨v2, h1, h⟩ := bnd_inv h
  refine r_cI hW (run_V (rest := []) C hW (t_X10_isRowChanged h1) mk_X10_isRowChanged vk_X10_314 (kd_X10_isRowChanged h1) rfl rfl (by decide) ⟨Nat.le_of_ble_eq_true rfl, Nat.le_of_ble_eq_true rfl⟩ ⟨Nat.zero_le _, Nat.zero_le _⟩ rfl rfl (Nat.le_of_ble_eq_true rfl) hl.1 dX10_isMergedRow_60) (fun H locs hW _ => ?_)
  refine r_br h (lv_if_eq (tgt := 84) hx hb dX10_isMergedRow_63 (by decide)) (fun h => ?_) (fun h => ?_)
  · refine lv_iconst (v := 0) hx hb dX10_isMergedRow_84 (by decide) ?_
    exact r_iret C hW (Option.some.inj h).symm rfl dX10_isMergedRow_85
  · refine lv_aload_n hx hb dX10_isMergedRow_66 rfl (lv_at hl 0 rfl) ?_
    refine lv_iload_n hx hb dX10_isMergedRow_67 rfl (lv_at hl 1 rfl) ?_
    refine lv_iconst (v := 4) hx hb dX10_isMergedRow_68 (by decide) ?_
    refine lv_iload_n hx hb dX10_isMergedRow_69 rfl (lv_at hl 2 rfl) ?_
    refine lv_iconst (v := 0) hx hb dX10_isMergedRow_70 (by decide) ?_
    refine lv_iconst (v := (-1)) hx hb dX10_isMergedRow_71 (by decide) ?_
    refine lv_iconst (v := (-1)) hx hb dX10_isMergedRow_72 (by decide) ?_
    obtain ⟨v5, X4, h3, h⟩ := bnd2_inv h
    refine r_cI hW (run_V (rest := []) C hW (t_X10_comesUp h3) mk_X10_comesUp vk_X10_294 (kd_X10_comesUp h3) rfl rfl (by decide) ⟨Nat.le_of_ble_eq_true rfl, Nat.le_of_ble_eq_true rfl⟩ ⟨Nat.zero_le _, Nat.zero_le _⟩ rfl rfl (Nat.le_of_ble_eq_true rfl) hl.1 dX10_isMergedRow_73) (fun H locs hW _ => ?_)
    refine lv_iconst (v := 1) hx hb dX10_isMergedRow_76 (by decide) ?_
    refine r_br h (lv_icmp_eq (tgt := 84) hx hb dX10_isMergedRow_77 (by decide)) (fun h => ?_) (fun h => ?_)
    · refine lv_iconst (v := 0) hx hb dX10_isMergedRow_84 (by decide) ?_
      exact r_iret C hW (Option.some.inj h).symm rfl dX10_isMergedRow_85
    · refine lv_iconst (v := 1) hx hb dX10_isMergedRow_80 (by decide) ?_
      refine lv_goto (tgt := 85) hx hb dX10_isMergedRow_81 (by decide) ?_
      exact r_iret C hW (Option.some.inj h).symm rfl dX10_isMergedRow_85
theorem kd_X10_isMergedRow {X : Mx} {r : (Int32 × Mx)} {a : Nat} {x1 : Int32} {x2 : Int32} (h : f_X10_isMergedRow σ X a x1 x2 = some r) : shK σ a = 8 := (grd_inv h).1
set_option maxRecDepth 20000 in
set_option maxHeartbeats 2000000 in
theorem t_X10_isMergedRow {X : Mx} {r : (Int32 × Mx)} {a : Nat} {x1 : Int32} {x2 : Int32} (h : f_X10_isMergedRow σ X a x1 x2 = some r) : MtI g l yX10_isMergedRow cX10_isMergedRow 5 (some .boolean) 5 116 [.ref a, .int x1, .int x2] σ X r := by
  refine met_of mk_X10_isMergedRow (Nat.le_of_ble_eq_true rfl) (fun p e s m args below meth c ls C hW hl => ?_)
  have hx := C.x
  have hb := C.b
  have hl : lv_has ls 5 [(0, .ref a), (1, .int x1), (2, .int x2)] := hl
  unfold f_X10_isMergedRow at h
  obtain ⟨hk0, h⟩ := grd_inv h
  refine lv_aload_n hx hb dX10_isMergedRow_0 rfl (lv_at hl 0 rfl) ?_
  refine lv_iload_n hx hb dX10_isMergedRow_1 rfl (lv_at hl 1 rfl) ?_
  refine lv_iconst (v := 0) hx hb dX10_isMergedRow_2 (by decide) ?_
  refine lv_iload_n hx hb dX10_isMergedRow_3 rfl (lv_at hl 2 rfl) ?_
  obtain ⟨v2, h1, h⟩ := bnd_inv h
  refine r_cI hW (run_V (rest := []) C hW (t_X10_hasRow h1) mk_X10_hasRow vk_X10_160 (kd_X10_hasRow h1) rfl rfl (by decide) ⟨Nat.le_of_ble_eq_true rfl, Nat.le_of_ble_eq_true rfl⟩ ⟨Nat.zero_le _, Nat.zero_le _⟩ rfl rfl (Nat.le_of_ble_eq_true rfl) hl.1 dX10_isMergedRow_4) (fun H locs hW _ => ?_)
  refine lv_istore_n (lv' := [(3, .int v2), (0, .ref a), (1, .int x1), (2, .int x2)]) hx hb dX10_isMergedRow_7 rfl hl (by decide) rfl (fun ls hl => ?_)
  refine lv_aload_n hx hb dX10_isMergedRow_8 rfl (lv_at hl 1 rfl) ?_
  refine lv_iload_n hx hb dX10_isMergedRow_9 rfl (lv_at hl 2 rfl) ?_
  refine lv_iconst (v := 1) hx hb dX10_isMergedRow_10 (by decide) ?_
  refine lv_iload_n hx hb dX10_isMergedRow_11 rfl (lv_at hl 3 rfl) ?_
  obtain ⟨v4, h3, h⟩ := bnd_inv h
  refine r_cI hW (run_V (rest := []) C hW (t_X10_hasRow h3) mk_X10_hasRow vk_X10_160 (kd_X10_hasRow h3) rfl rfl (by decide) ⟨Nat.le_of_ble_eq_true rfl, Nat.le_of_ble_eq_true rfl⟩ ⟨Nat.zero_le _, Nat.zero_le _⟩ rfl rfl (Nat.le_of_ble_eq_true rfl) hl.1 dX10_isMergedRow_12) (fun H locs hW _ => ?_)
  refine lv_istore (lv' := [(4, .int v4), (3, .int v2), (0, .ref a), (1, .int x1), (2, .int x2)]) hx hb dX10_isMergedRow_15 hl (by decide) rfl (fun ls hl => ?_)
  refine lv_aload_n hx hb dX10_isMergedRow_17 rfl (lv_at hl 2 rfl) ?_
  refine lv_iload_n hx hb dX10_isMergedRow_18 rfl (lv_at hl 3 rfl) ?_
  refine lv_iconst (v := 2) hx hb dX10_isMergedRow_19 (by decide) ?_
  refine lv_iload_n hx hb dX10_isMergedRow_20 rfl (lv_at hl 4 rfl) ?_
  obtain ⟨v6, h5, h⟩ := bnd_inv h
  refine r_cI hW (run_V (rest := []) C hW (t_X10_hasRow h5) mk_X10_hasRow vk_X10_160 (kd_X10_hasRow h5) rfl rfl (by decide) ⟨Nat.le_of_ble_eq_true rfl, Nat.le_of_ble_eq_true rfl⟩ ⟨Nat.zero_le _, Nat.zero_le _⟩ rfl rfl (Nat.le_of_ble_eq_true rfl) hl.1 dX10_isMergedRow_21) (fun H locs hW _ => ?_)
  refine r_br h (lv_if_eq (tgt := 33) hx hb dX10_isMergedRow_24 (by decide)) (fun h => ?_) (fun h => ?_)
  · exact b_X10_isMergedRow_33 C hW (lv_sub hl [1, 0] rfl) h
  · refine lv_iload_n hx hb dX10_isMergedRow_27 rfl (lv_at hl 1 rfl) ?_
    refine lv_iload hx hb dX10_isMergedRow_28 (lv_at hl 0 rfl) ?_
    refine r_brn h (lv_icmp_ne (tgt := 48) hx hb dX10_isMergedRow_30 (by decide)) (fun h => ?_) (fun h => ?_)
    · refine lv_aload_n hx hb dX10_isMergedRow_48 rfl (lv_at hl 2 rfl) ?_
      refine lv_iload_n hx hb dX10_isMergedRow_49 rfl (lv_at hl 3 rfl) ?_
      refine lv_iload_n hx hb dX10_isMergedRow_50 rfl (lv_at hl 1 rfl) ?_
      refine r_br h (lv_if_eq (tgt := 58) hx hb dX10_isMergedRow_51 (by decide)) (fun h => ?_) (fun h => ?_)
      · refine lv_iconst (v := 1) hx hb dX10_isMergedRow_58 (by decide) ?_
        exact b_X10_isMergedRow_59 C hW (lv_sub hl [2, 3, 4] rfl) h
      · refine lv_iconst (v := 0) hx hb dX10_isMergedRow_54 (by decide) ?_
        refine lv_goto (tgt := 59) hx hb dX10_isMergedRow_55 (by decide) ?_
        exact b_X10_isMergedRow_59 C hW (lv_sub hl [2, 3, 4] rfl) h
    · exact b_X10_isMergedRow_33 C hW (lv_sub hl [1, 0] rfl) h
theorem kd_X10_isChangedAt {X : Mx} {r : Int32} {a : Nat} {x1 : Int32} {x2 : Int32} {x3 : Int32} {x4 : Int32} (h : f_X10_isChangedAt σ X a x1 x2 x3 x4 = some r) : shK σ a = 8 := (grd_inv h).1
set_option maxRecDepth 20000 in
set_option maxHeartbeats 2000000 in
theorem t_X10_isChangedAt {X : Mx} {r : Int32} {a : Nat} {x1 : Int32} {x2 : Int32} {x3 : Int32} {x4 : Int32} (h : f_X10_isChangedAt σ X a x1 x2 x3 x4 = some r) : MtI g l yX10_isChangedAt cX10_isChangedAt 6 (some .boolean) 4 92 [.ref a, .int x1, .int x2, .int x3, .int x4] σ X (r, X) := by
  refine met_of mk_X10_isChangedAt (Nat.le_of_ble_eq_true rfl) (fun p e s m args below meth c ls C hW hl => ?_)
  have hx := C.x
  have hb := C.b
  have hl : lv_has ls 6 [(0, .ref a), (1, .int x1), (2, .int x2), (3, .int x3), (4, .int x4)] := hl
  unfold f_X10_isChangedAt at h
  obtain ⟨hk0, h⟩ := grd_inv h
  refine lv_aload_n hx hb dX10_isChangedAt_0 rfl (lv_at hl 0 rfl) ?_
  refine r_gR C hW h fl_X10_38 (by decide) dX10_isChangedAt_1 (fun b1 h => ?_)
  refine lv_bipush (v := 9) hx hb dX10_isChangedAt_4 (by decide) ?_
  refine lv_iload_n hx hb dX10_isChangedAt_6 rfl (lv_at hl 2 rfl) ?_
  refine lv_imul hx hb dX10_isChangedAt_7 ?_
  refine lv_iload hx hb dX10_isChangedAt_8 (lv_at hl 4 rfl) ?_
  refine lv_iadd hx hb dX10_isChangedAt_10 ?_
  refine r_iald C hW h dX10_isChangedAt_11 (fun v2 h => ?_)
  refine lv_istore (lv' := [(5, .int v2), (0, .ref a), (1, .int x1), (2, .int x2), (3, .int x3), (4, .int x4)]) hx hb dX10_isChangedAt_12 hl (by decide) rfl (fun ls hl => ?_)
  refine lv_iload hx hb dX10_isChangedAt_14 (lv_at hl 0 rfl) ?_
  refine lv_iconst (v := (-1)) hx hb dX10_isChangedAt_16 (by decide) ?_
  refine r_br h (lv_icmp_eq (tgt := 36) hx hb dX10_isChangedAt_17 (by decide)) (fun h => ?_) (fun h => ?_)
  · refine lv_iconst (v := 0) hx hb dX10_isChangedAt_36 (by decide) ?_
    exact r_iret C hW (rt_R h) rfl dX10_isChangedAt_37
  · refine lv_aload_n hx hb dX10_isChangedAt_20 rfl (lv_at hl 1 rfl) ?_
    refine lv_iload_n hx hb dX10_isChangedAt_21 rfl (lv_at hl 2 rfl) ?_
    refine lv_iload_n hx hb dX10_isChangedAt_22 rfl (lv_at hl 3 rfl) ?_
    refine lv_iload_n hx hb dX10_isChangedAt_23 rfl (lv_at hl 4 rfl) ?_
    refine lv_iload hx hb dX10_isChangedAt_24 (lv_at hl 0 rfl) ?_
    obtain ⟨v4, h3, h⟩ := bnd_inv h
    refine r_cI hW (run_V (rest := []) C hW (t_X10_isChanged h3) mk_X10_isChanged vk_X10_288 (kd_X10_isChanged h3) rfl rfl (by decide) ⟨Nat.le_of_ble_eq_true rfl, Nat.le_of_ble_eq_true rfl⟩ ⟨Nat.zero_le _, Nat.zero_le _⟩ rfl rfl (Nat.le_of_ble_eq_true rfl) hl.1 dX10_isChangedAt_26) (fun H locs hW _ => ?_)
    refine r_br h (lv_if_eq (tgt := 36) hx hb dX10_isChangedAt_29 (by decide)) (fun h => ?_) (fun h => ?_)
    · refine lv_iconst (v := 0) hx hb dX10_isChangedAt_36 (by decide) ?_
      exact r_iret C hW (rt_R h) rfl dX10_isChangedAt_37
    · refine lv_iconst (v := 1) hx hb dX10_isChangedAt_32 (by decide) ?_
      refine lv_goto (tgt := 37) hx hb dX10_isChangedAt_33 (by decide) ?_
      exact r_iret C hW (rt_R h) rfl dX10_isChangedAt_37
theorem kd_X10_sideCell {X : Mx} {r : Int32} {a : Nat} {x1 : Int32} {x2 : Int32} {x3 : Int32} {x4 : Int32} (h : f_X10_sideCell σ X a x1 x2 x3 x4 = some r) : shK σ a = 8 := (grd_inv h).1
set_option maxRecDepth 20000 in
set_option maxHeartbeats 2000000 in
theorem t_X10_sideCell {X : Mx} {r : Int32} {a : Nat} {x1 : Int32} {x2 : Int32} {x3 : Int32} {x4 : Int32} (h : f_X10_sideCell σ X a x1 x2 x3 x4 = some r) : MtI g l yX10_sideCell cX10_sideCell 5 (some .int) 1 23 [.ref a, .int x1, .int x2, .int x3, .int x4] σ X (r, X) := by
  refine met_of mk_X10_sideCell (Nat.le_of_ble_eq_true rfl) (fun p e s m args below meth c ls C hW hl => ?_)
  have hx := C.x
  have hb := C.b
  have hl : lv_has ls 5 [(0, .ref a), (1, .int x1), (2, .int x2), (3, .int x3), (4, .int x4)] := hl
  unfold f_X10_sideCell at h
  obtain ⟨hk0, h⟩ := grd_inv h
  refine lv_aload_n hx hb dX10_sideCell_0 rfl (lv_at hl 0 rfl) ?_
  refine r_gR C hW h fl_X10_29 (by decide) dX10_sideCell_1 (fun b1 h => ?_)
  refine lv_iload hx hb dX10_sideCell_4 (lv_at hl 4 rfl) ?_
  refine r_iald C hW h dX10_sideCell_6 (fun v2 h => ?_)
  refine lv_aload_n hx hb dX10_sideCell_7 rfl (lv_at hl 0 rfl) ?_
  refine r_gR C hW h fl_X10_20 (by decide) dX10_sideCell_8 (fun b3 h => ?_)
  refine lv_iload_n hx hb dX10_sideCell_11 rfl (lv_at hl 1 rfl) ?_
  refine lv_iload_n hx hb dX10_sideCell_12 rfl (lv_at hl 2 rfl) ?_
  refine lv_iload_n hx hb dX10_sideCell_13 rfl (lv_at hl 3 rfl) ?_
  refine lv_aload_n hx hb dX10_sideCell_14 rfl (lv_at hl 0 rfl) ?_
  refine r_gR C hW h fl_X10_38 (by decide) dX10_sideCell_15 (fun b4 h => ?_)
  refine lv_bipush (v := 9) hx hb dX10_sideCell_18 (by decide) ?_
  refine lv_iload_n hx hb dX10_sideCell_20 rfl (lv_at hl 2 rfl) ?_
  refine lv_imul hx hb dX10_sideCell_21 ?_
  refine lv_iload hx hb dX10_sideCell_22 (lv_at hl 4 rfl) ?_
  refine lv_iadd hx hb dX10_sideCell_24 ?_
  refine r_iald C hW h dX10_sideCell_25 (fun v5 h => ?_)
  refine r_cI hW (run_S (rest := [.ref b3, .int v2]) C hW (t_X10_cellAt (X := X)) mk_X10_cellAt sk_X10_174 ⟨Nat.le_of_ble_eq_true rfl, Nat.le_of_ble_eq_true rfl⟩ ⟨Nat.zero_le _, Nat.zero_le _⟩ rfl rfl (Nat.le_of_ble_eq_true rfl) hl.1 dX10_sideCell_26) (fun H locs hW _ => ?_)
  refine r_iald C hW h dX10_sideCell_29 (fun v6 h => ?_)
  refine r_cI hW (run_S (rest := []) C hW (t_X10_castTo (X := X)) mk_X10_castTo sk_X10_243 ⟨Nat.le_of_ble_eq_true rfl, Nat.le_of_ble_eq_true rfl⟩ ⟨Nat.zero_le _, Nat.zero_le _⟩ rfl rfl (Nat.le_of_ble_eq_true rfl) hl.1 dX10_sideCell_30) (fun H locs hW _ => ?_)
  exact r_iret C hW (rt_R h) rfl dX10_sideCell_33
set_option maxRecDepth 20000 in
set_option maxHeartbeats 2000000 in
theorem b_X10_mergesCell_158 {a : Nat} {x4 : Int32} {x7 : Int32} {x8 : Int32} (C : Cx g RX10 cX10_mergesCell 10 none p s m args meth c) {r : Mx} {X : Mx} {y0 : Int32} (hW : Wd g σ X s H locs) (hl : lv_has ls 10 [(0, .ref a), (4, .int x4), (7, .int x7), (8, .int x8)]) (h : f_X10_mergesCell_158 σ a x4 x7 x8 X y0 = some r) : W p l e (rmZ 5 117) s m args below meth c H locs 0 0 (QV g σ below args s r) (F0 m 158 ls [.int y0]) := by
  have hx := C.x
  have hb := C.b
  unfold f_X10_mergesCell_158 at h
  refine lv_istore (lv' := [(9, .int y0), (0, .ref a), (4, .int x4), (7, .int x7), (8, .int x8)]) hx hb dX10_mergesCell_158 hl (by decide) rfl (fun ls hl => ?_)
  refine lv_iload hx hb dX10_mergesCell_160 (lv_at hl 0 rfl) ?_
  refine r_br h (lv_if_gt (tgt := 166) hx hb dX10_mergesCell_162 (by decide)) (fun h => ?_) (fun h => ?_)
  · refine lv_aload_n hx hb dX10_mergesCell_166 rfl (lv_at hl 1 rfl) ?_
    refine r_gR C hW h fl_X10_35 (by decide) dX10_mergesCell_167 (fun b1 h => ?_)
    refine lv_iload hx hb dX10_mergesCell_170 (lv_at hl 2 rfl) ?_
    refine lv_iload hx hb dX10_mergesCell_172 (lv_at hl 0 rfl) ?_
    refine r_iast C hW h dX10_mergesCell_174 (fun X2 H locs h hW _ => ?_)
    refine lv_aload_n hx hb dX10_mergesCell_175 rfl (lv_at hl 1 rfl) ?_
    refine r_gR C hW h fl_X10_32 (by decide) dX10_mergesCell_176 (fun b3 h => ?_)
    refine lv_iload hx hb dX10_mergesCell_179 (lv_at hl 2 rfl) ?_
    refine lv_iload hx hb dX10_mergesCell_181 (lv_at hl 0 rfl) ?_
    refine lv_iconst (v := 2) hx hb dX10_mergesCell_183 (by decide) ?_
    refine r_brn h (lv_icmp_ne (tgt := 192) hx hb dX10_mergesCell_184 (by decide)) (fun h => ?_) (fun h => ?_)
    · refine lv_iload hx hb dX10_mergesCell_192 (lv_at hl 3 rfl) ?_
      refine r_iast C hW h dX10_mergesCell_194 (fun X4 H locs h hW _ => ?_)
      exact r_vret C hW (Option.some.inj h).symm dX10_mergesCell_195
    · refine lv_iload hx hb dX10_mergesCell_187 (lv_at hl 4 rfl) ?_
      refine lv_goto (tgt := 194) hx hb dX10_mergesCell_189 (by decide) ?_
      refine r_iast C hW h dX10_mergesCell_194 (fun X5 H locs h hW _ => ?_)
      exact r_vret C hW (Option.some.inj h).symm dX10_mergesCell_195
  · exact r_vret C hW (Option.some.inj h).symm dX10_mergesCell_165
set_option maxRecDepth 20000 in
set_option maxHeartbeats 2000000 in
theorem b_X10_mergesCell_148 {a : Nat} {x4 : Int32} {x5 : Int32} {x7 : Int32} {x8 : Int32} (C : Cx g RX10 cX10_mergesCell 10 none p s m args meth c) {r : Mx} {X : Mx} (hW : Wd g σ X s H locs) (hl : lv_has ls 10 [(0, .ref a), (4, .int x4), (5, .int x5), (7, .int x7), (8, .int x8)]) (h : f_X10_mergesCell_148 σ a x4 x5 x7 x8 X = some r) : W p l e (rmZ 5 117) s m args below meth c H locs 0 0 (QV g σ below args s r) (F0 m 148 ls []) := by
  have hx := C.x
  have hb := C.b
  unfold f_X10_mergesCell_148 at h
  refine lv_iload hx hb dX10_mergesCell_148 (lv_at hl 2 rfl) ?_
  refine r_br h (lv_if_eq (tgt := 157) hx hb dX10_mergesCell_150 (by decide)) (fun h => ?_) (fun h => ?_)
  · refine lv_iconst (v := 2) hx hb dX10_mergesCell_157 (by decide) ?_
    exact b_X10_mergesCell_158 C hW (lv_sub hl [0, 1, 3, 4] rfl) h
  · refine lv_iconst (v := 1) hx hb dX10_mergesCell_153 (by decide) ?_
    refine lv_goto (tgt := 158) hx hb dX10_mergesCell_154 (by decide) ?_
    exact b_X10_mergesCell_158 C hW (lv_sub hl [0, 1, 3, 4] rfl) h
set_option maxRecDepth 20000 in
set_option maxHeartbeats 2000000 in
theorem b_X10_mergesCell_110 {a : Nat} {x1 : Int32} {x2 : Int32} {x3 : Int32} {x4 : Int32} {x5 : Int32} {x6 : Int32} {x7 : Int32} (C : Cx g RX10 cX10_mergesCell 10 none p s m args meth c) {r : Mx} {X : Mx} {y0 : Int32} (hW : Wd g σ X s H locs) (hl : lv_has ls 10 [(0, .ref a), (1, .int x1), (2, .int x2), (3, .int x3), (4, .int x4), (5, .int x5), (6, .int x6), (7, .int x7)]) (h : f_X10_mergesCell_110 σ a x1 x2 x3 x4 x5 x6 x7 X y0 = some r) : W p l e (rmZ 5 117) s m args below meth c H locs 0 0 (QV g σ below args s r) (F0 m 110 ls [.int y0]) := by
  have hx := C.x
  have hb := C.b
  unfold f_X10_mergesCell_110 at h
  refine lv_istore (lv' := [(8, .int y0), (0, .ref a), (1, .int x1), (2, .int x2), (3, .int x3), (4, .int x4), (5, .int x5), (6, .int x6), (7, .int x7)]) hx hb dX10_mergesCell_110 hl (by decide) rfl (fun ls hl => ?_)
  refine lv_iload hx hb dX10_mergesCell_112 (lv_at hl 6 rfl) ?_
  refine r_br h (lv_if_eq (tgt := 148) hx hb dX10_mergesCell_114 (by decide)) (fun h => ?_) (fun h => ?_)
  · exact b_X10_mergesCell_148 C hW (lv_sub hl [1, 5, 6, 8, 0] rfl) h
  · refine lv_iload hx hb dX10_mergesCell_117 (lv_at hl 7 rfl) ?_
    refine r_br h (lv_if_eq (tgt := 148) hx hb dX10_mergesCell_119 (by decide)) (fun h => ?_) (fun h => ?_)
    · exact b_X10_mergesCell_148 C hW (lv_sub hl [1, 5, 6, 8, 0] rfl) h
    · refine lv_iload hx hb dX10_mergesCell_122 (lv_at hl 8 rfl) ?_
      refine lv_iload hx hb dX10_mergesCell_124 (lv_at hl 0 rfl) ?_
      refine r_brn h (lv_icmp_ne (tgt := 133) hx hb dX10_mergesCell_126 (by decide)) (fun h => ?_) (fun h => ?_)
      · refine lv_aload_n hx hb dX10_mergesCell_133 rfl (lv_at hl 1 rfl) ?_
        refine lv_iload_n hx hb dX10_mergesCell_134 rfl (lv_at hl 2 rfl) ?_
        refine lv_iconst (v := 5) hx hb dX10_mergesCell_135 (by decide) ?_
        refine lv_iload_n hx hb dX10_mergesCell_136 rfl (lv_at hl 3 rfl) ?_
        refine lv_iload_n hx hb dX10_mergesCell_137 rfl (lv_at hl 4 rfl) ?_
        refine lv_iload hx hb dX10_mergesCell_138 (lv_at hl 8 rfl) ?_
        refine lv_iload hx hb dX10_mergesCell_140 (lv_at hl 0 rfl) ?_
        obtain ⟨v3, X2, h1, h⟩ := bnd2_inv h
        refine r_cI hW (run_V (rest := []) C hW (t_X10_comesUp h1) mk_X10_comesUp vk_X10_294 (kd_X10_comesUp h1) rfl rfl (by decide) ⟨Nat.le_of_ble_eq_true rfl, Nat.le_of_ble_eq_true rfl⟩ ⟨Nat.zero_le _, Nat.zero_le _⟩ rfl rfl (Nat.le_of_ble_eq_true rfl) hl.1 dX10_mergesCell_142) (fun H locs hW _ => ?_)
        refine lv_goto (tgt := 158) hx hb dX10_mergesCell_145 (by decide) ?_
        exact b_X10_mergesCell_158 C hW (lv_sub hl [1, 5, 8, 0] rfl) h
      · refine lv_iconst (v := 3) hx hb dX10_mergesCell_129 (by decide) ?_
        refine lv_goto (tgt := 158) hx hb dX10_mergesCell_130 (by decide) ?_
        exact b_X10_mergesCell_158 C hW (lv_sub hl [1, 5, 8, 0] rfl) h
set_option maxRecDepth 20000 in
set_option maxHeartbeats 2000000 in
theorem b_X10_mergesCell_89 {a : Nat} {x1 : Int32} {x2 : Int32} {x3 : Int32} {x4 : Int32} {x5 : Int32} {x6 : Int32} (C : Cx g RX10 cX10_mergesCell 10 none p s m args meth c) {r : Mx} {X : Mx} {y0 : Int32} (hW : Wd g σ X s H locs) (hl : lv_has ls 10 [(0, .ref a), (1, .int x1), (2, .int x2), (3, .int x3), (4, .int x4), (5, .int x5), (6, .int x6)]) (h : f_X10_mergesCell_89 σ a x1 x2 x3 x4 x5 x6 X y0 = some r) : W p l e (rmZ 5 117) s m args below meth c H locs 0 0 (QV g σ below args s r) (F0 m 89 ls [.int y0]) := by
  have hx := C.x
  have hb := C.b
  unfold f_X10_mergesCell_89 at h
  refine lv_istore (lv' := [(7, .int y0), (0, .ref a), (1, .int x1), (2, .int x2), (3, .int x3), (4, .int x4), (5, .int x5), (6, .int x6)]) hx hb dX10_mergesCell_89 hl (by decide) rfl (fun ls hl => ?_)
  refine lv_iload hx hb dX10_mergesCell_91 (lv_at hl 7 rfl) ?_
  refine r_br h (lv_if_eq (tgt := 107) hx hb dX10_mergesCell_93 (by decide)) (fun h => ?_) (fun h => ?_)
  · refine lv_sipush (v := 9999) hx hb dX10_mergesCell_107 (by decide) ?_
    exact b_X10_mergesCell_110 C hW (lv_sub hl [1, 2, 3, 4, 5, 6, 7, 0] rfl) h
  · refine lv_aload_n hx hb dX10_mergesCell_96 rfl (lv_at hl 1 rfl) ?_
    refine lv_iload_n hx hb dX10_mergesCell_97 rfl (lv_at hl 2 rfl) ?_
    refine lv_iconst (v := 1) hx hb dX10_mergesCell_98 (by decide) ?_
    refine lv_iload_n hx hb dX10_mergesCell_99 rfl (lv_at hl 3 rfl) ?_
    refine lv_iload_n hx hb dX10_mergesCell_100 rfl (lv_at hl 4 rfl) ?_
    obtain ⟨v2, h1, h⟩ := bnd_inv h
    refine r_cI hW (run_V (rest := []) C hW (t_X10_sideCell h1) mk_X10_sideCell vk_X10_320 (kd_X10_sideCell h1) rfl rfl (by decide) ⟨Nat.le_of_ble_eq_true rfl, Nat.le_of_ble_eq_true rfl⟩ ⟨Nat.zero_le _, Nat.zero_le _⟩ rfl rfl (Nat.le_of_ble_eq_true rfl) hl.1 dX10_mergesCell_101) (fun H locs hW _ => ?_)
    refine lv_goto (tgt := 110) hx hb dX10_mergesCell_104 (by decide) ?_
    exact b_X10_mergesCell_110 C hW (lv_sub hl [1, 2, 3, 4, 5, 6, 7, 0] rfl) h
set_option maxRecDepth 20000 in
set_option maxHeartbeats 2000000 in
theorem b_X10_mergesCell_70 {a : Nat} {x1 : Int32} {x2 : Int32} {x3 : Int32} {x4 : Int32} {x5 : Int32} {x6 : Int32} (C : Cx g RX10 cX10_mergesCell 10 none p s m args meth c) {r : Mx} {X : Mx} (hW : Wd g σ X s H locs) (hl : lv_has ls 10 [(0, .ref a), (1, .int x1), (2, .int x2), (3, .int x3), (4, .int x4), (5, .int x5), (6, .int x6)]) (h : f_X10_mergesCell_70 σ a x1 x2 x3 x4 x5 x6 X = some r) : W p l e (rmZ 5 117) s m args below meth c H locs 0 0 (QV g σ below args s r) (F0 m 70 ls []) := by
  have hx := C.x
  have hb := C.b
  unfold f_X10_mergesCell_70 at h
  refine lv_iload hx hb dX10_mergesCell_70 (lv_at hl 5 rfl) ?_
  refine r_br h (lv_if_eq (tgt := 86) hx hb dX10_mergesCell_72 (by decide)) (fun h => ?_) (fun h => ?_)
  · refine lv_sipush (v := 9999) hx hb dX10_mergesCell_86 (by decide) ?_
    exact b_X10_mergesCell_89 C hW (lv_sub hl [0, 1, 2, 3, 4, 5, 6] rfl) h
  · refine lv_aload_n hx hb dX10_mergesCell_75 rfl (lv_at hl 0 rfl) ?_
    refine lv_iload_n hx hb dX10_mergesCell_76 rfl (lv_at hl 1 rfl) ?_
    refine lv_iconst (v := 0) hx hb dX10_mergesCell_77 (by decide) ?_
    refine lv_iload_n hx hb dX10_mergesCell_78 rfl (lv_at hl 2 rfl) ?_
    refine lv_iload_n hx hb dX10_mergesCell_79 rfl (lv_at hl 3 rfl) ?_
    obtain ⟨v2, h1, h⟩ := bnd_inv h
    refine r_cI hW (run_V (rest := []) C hW (t_X10_sideCell h1) mk_X10_sideCell vk_X10_320 (kd_X10_sideCell h1) rfl rfl (by decide) ⟨Nat.le_of_ble_eq_true rfl, Nat.le_of_ble_eq_true rfl⟩ ⟨Nat.zero_le _, Nat.zero_le _⟩ rfl rfl (Nat.le_of_ble_eq_true rfl) hl.1 dX10_mergesCell_80) (fun H locs hW _ => ?_)
    refine lv_goto (tgt := 89) hx hb dX10_mergesCell_83 (by decide) ?_
    exact b_X10_mergesCell_89 C hW (lv_sub hl [0, 1, 2, 3, 4, 5, 6] rfl) h
end
