section
variable {p : Program} {l : Launch} {e : Env} {s : State} {m : MethodId} {args : Array Value} {below : List Frame} {meth : Method} {c : Code} {H : Heap} {locs : List Loc} {g : Gp} {σ : Sh} {ls : Array Slot}
set_option maxRecDepth 20000 in
set_option maxHeartbeats 2000000 in
theorem b_X10_retypes_56 {a : Nat} {x1 : Int32} {x2 : Int32} {x3 : Int32} {x4 : Int32} (C : Cx g RX10 cX10_retypes 6 (some .boolean) p s m args meth c) {r : (Int32 × Mx)} : ∀ (n : Nat) {X : Mx} {x5 : Int32} {H : Heap} {locs : List Loc} {ls : Array Slot} (hW : Wd g σ X s H locs) (hl : lv_has ls 6 [(0, .ref a), (1, .int x1), (2, .int x2), (3, .int x3), (4, .int x4), (5, .int x5)]) (h : f_X10_retypes_56 σ a x1 x2 x3 x4 n X x5 = some r), W p l e (rmZ 2 45) s m args below meth c H locs 0 0 (QI g σ below args s r) (F0 m 56 ls []) := by
  have hx := C.x
  have hb := C.b
  intro n
  induction n with
  | zero =>
    intro X x5 H locs ls hW hl h
    cases (show none = some r from h)
  | succ n ih =>
    intro X x5 H locs ls hW hl h
    rw [f_X10_retypes_56] at h
    refine lv_iload hx hb dX10_retypes_56 (lv_at hl 5 rfl) ?_
    refine lv_bipush (v := 20) hx hb dX10_retypes_58 (by decide) ?_
    refine r_br h (lv_icmp_ge (tgt := 111) hx hb dX10_retypes_60 (by decide)) (fun h => ?_) (fun h => ?_)
    · refine lv_iconst (v := 1) hx hb dX10_retypes_111 (by decide) ?_
      exact r_iret C hW (Option.some.inj h).symm rfl dX10_retypes_112
    · refine lv_aload_n hx hb dX10_retypes_63 rfl (lv_at hl 0 rfl) ?_
      refine lv_iload_n hx hb dX10_retypes_64 rfl (lv_at hl 1 rfl) ?_
      refine lv_iload_n hx hb dX10_retypes_65 rfl (lv_at hl 2 rfl) ?_
      refine lv_iload hx hb dX10_retypes_66 (lv_at hl 5 rfl) ?_
      obtain ⟨v2, h1, h⟩ := bnd_inv h
      refine r_cI hW (run_V (rest := []) C hW (t_X10_hasRow h1) mk_X10_hasRow vk_X10_160 (kd_X10_hasRow h1) rfl rfl (by decide) ⟨Nat.le_of_ble_eq_true rfl, Nat.le_of_ble_eq_true rfl⟩ ⟨Nat.zero_le _, Nat.zero_le _⟩ rfl rfl (Nat.le_of_ble_eq_true rfl) hl.1 dX10_retypes_68) (fun H locs hW => ?_)
      refine r_br h (lv_if_eq (tgt := 105) hx hb dX10_retypes_71 (by decide)) (fun h => ?_) (fun h => ?_)
      · exact b_X10_retypes_105 C (fun hW hl h => ih hW hl h) hW (lv_sub hl [0, 1, 2, 3, 4, 5] rfl) h
      · refine lv_aload_n hx hb dX10_retypes_74 rfl (lv_at hl 0 rfl) ?_
        refine r_gR C hW h fl_X10_20 (by decide) dX10_retypes_75 (fun b3 h => ?_)
        refine lv_iload_n hx hb dX10_retypes_78 rfl (lv_at hl 1 rfl) ?_
        refine lv_iload_n hx hb dX10_retypes_79 rfl (lv_at hl 2 rfl) ?_
        refine lv_iload hx hb dX10_retypes_80 (lv_at hl 5 rfl) ?_
        refine lv_iload_n hx hb dX10_retypes_82 rfl (lv_at hl 3 rfl) ?_
        refine r_cI hW (run_S (rest := [.ref b3]) C hW (t_X10_cellAt (X := X)) mk_X10_cellAt sk_X10_174 ⟨Nat.le_of_ble_eq_true rfl, Nat.le_of_ble_eq_true rfl⟩ ⟨Nat.zero_le _, Nat.zero_le _⟩ rfl rfl (Nat.le_of_ble_eq_true rfl) hl.1 dX10_retypes_83) (fun H locs hW => ?_)
        refine lv_iload hx hb dX10_retypes_86 (lv_at hl 4 rfl) ?_
        refine lv_aload_n hx hb dX10_retypes_88 rfl (lv_at hl 0 rfl) ?_
        refine r_gR C hW h fl_X10_20 (by decide) dX10_retypes_89 (fun b4 h => ?_)
        refine lv_iload_n hx hb dX10_retypes_92 rfl (lv_at hl 1 rfl) ?_
        refine lv_iload_n hx hb dX10_retypes_93 rfl (lv_at hl 2 rfl) ?_
        refine lv_iload hx hb dX10_retypes_94 (lv_at hl 5 rfl) ?_
        refine lv_iload_n hx hb dX10_retypes_96 rfl (lv_at hl 3 rfl) ?_
        refine r_cI hW (run_S (rest := [.ref b4, .int x4, .int (f_X10_cellAt x1 x2 x5 x3), .ref b3]) C hW (t_X10_cellAt (X := X)) mk_X10_cellAt sk_X10_174 ⟨Nat.le_of_ble_eq_true rfl, Nat.le_of_ble_eq_true rfl⟩ ⟨Nat.zero_le _, Nat.zero_le _⟩ rfl rfl (Nat.le_of_ble_eq_true rfl) hl.1 dX10_retypes_97) (fun H locs hW => ?_)
        refine r_iald C hW h dX10_retypes_100 (fun v5 h => ?_)
        refine r_cI hW (run_S (rest := [.int (f_X10_cellAt x1 x2 x5 x3), .ref b3]) C hW (t_X10_castTo (X := X)) mk_X10_castTo sk_X10_243 ⟨Nat.le_of_ble_eq_true rfl, Nat.le_of_ble_eq_true rfl⟩ ⟨Nat.zero_le _, Nat.zero_le _⟩ rfl rfl (Nat.le_of_ble_eq_true rfl) hl.1 dX10_retypes_101) (fun H locs hW => ?_)
        refine r_iast C hW h dX10_retypes_104 (fun X6 H locs h hW => ?_)
        exact b_X10_retypes_105 C (fun hW hl h => ih hW hl h) hW (lv_sub hl [0, 1, 2, 3, 4, 5] rfl) h
theorem kd_X10_retypes {X : Mx} {r : (Int32 × Mx)} {a : Nat} {x1 : Int32} {x2 : Int32} {x3 : Int32} {x4 : Int32} (h : f_X10_retypes σ X a x1 x2 x3 x4 = some r) : shK σ a = 8 := (grd_inv h).1
set_option maxRecDepth 20000 in
set_option maxHeartbeats 2000000 in
theorem t_X10_retypes {X : Mx} {r : (Int32 × Mx)} {a : Nat} {x1 : Int32} {x2 : Int32} {x3 : Int32} {x4 : Int32} (h : f_X10_retypes σ X a x1 x2 x3 x4 = some r) : MtI g l yX10_retypes cX10_retypes 6 (some .boolean) 2 45 [.ref a, .int x1, .int x2, .int x3, .int x4] σ X r := by
  refine met_of mk_X10_retypes (Nat.le_of_ble_eq_true rfl) (fun p e s m args below meth c ls C hW hl => ?_)
  have hx := C.x
  have hb := C.b
  have hl : lv_has ls 6 [(0, .ref a), (1, .int x1), (2, .int x2), (3, .int x3), (4, .int x4)] := hl
  unfold f_X10_retypes at h
  obtain ⟨hk0, h⟩ := grd_inv h
  refine lv_aload_n hx hb dX10_retypes_0 rfl (lv_at hl 0 rfl) ?_
  refine lv_iload_n hx hb dX10_retypes_1 rfl (lv_at hl 1 rfl) ?_
  refine lv_iload_n hx hb dX10_retypes_2 rfl (lv_at hl 2 rfl) ?_
  refine lv_iload_n hx hb dX10_retypes_3 rfl (lv_at hl 3 rfl) ?_
  obtain ⟨v2, h1, h⟩ := bnd_inv h
  refine r_cI hW (run_V (rest := []) C hW (t_X10_hasColumn h1) mk_X10_hasColumn vk_X10_234 (kd_X10_hasColumn h1) rfl rfl (by decide) ⟨Nat.le_of_ble_eq_true rfl, Nat.le_of_ble_eq_true rfl⟩ ⟨Nat.zero_le _, Nat.zero_le _⟩ rfl rfl (Nat.le_of_ble_eq_true rfl) hl.1 dX10_retypes_4) (fun H locs hW => ?_)
  refine r_br h (lv_if_eq (tgt := 32) hx hb dX10_retypes_7 (by decide)) (fun h => ?_) (fun h => ?_)
  · refine lv_iconst (v := 0) hx hb dX10_retypes_32 (by decide) ?_
    exact r_iret C hW (Option.some.inj h).symm rfl dX10_retypes_33
  · refine lv_iload hx hb dX10_retypes_10 (lv_at hl 4 rfl) ?_
    refine lv_iconst (v := 0) hx hb dX10_retypes_12 (by decide) ?_
    refine lv_iconst (v := 3) hx hb dX10_retypes_13 (by decide) ?_
    refine r_cI hW (run_S (rest := []) C hW (t_X10_within (X := X)) mk_X10_within sk_X10_231 ⟨Nat.le_of_ble_eq_true rfl, Nat.le_of_ble_eq_true rfl⟩ ⟨Nat.zero_le _, Nat.zero_le _⟩ rfl rfl (Nat.le_of_ble_eq_true rfl) hl.1 dX10_retypes_14) (fun H locs hW => ?_)
    refine r_br h (lv_if_eq (tgt := 32) hx hb dX10_retypes_17 (by decide)) (fun h => ?_) (fun h => ?_)
    · refine lv_iconst (v := 0) hx hb dX10_retypes_32 (by decide) ?_
      exact r_iret C hW (Option.some.inj h).symm rfl dX10_retypes_33
    · refine lv_aload_n hx hb dX10_retypes_20 rfl (lv_at hl 0 rfl) ?_
      refine lv_iload_n hx hb dX10_retypes_21 rfl (lv_at hl 1 rfl) ?_
      refine lv_iload_n hx hb dX10_retypes_22 rfl (lv_at hl 2 rfl) ?_
      refine lv_iload_n hx hb dX10_retypes_23 rfl (lv_at hl 3 rfl) ?_
      obtain ⟨v4, h3, h⟩ := bnd_inv h
      refine r_cI hW (run_V (rest := []) C hW (t_X10_typeAt h3) mk_X10_typeAt vk_X10_166 (kd_X10_typeAt h3) rfl rfl (by decide) ⟨Nat.le_of_ble_eq_true rfl, Nat.le_of_ble_eq_true rfl⟩ ⟨Nat.zero_le _, Nat.zero_le _⟩ rfl rfl (Nat.le_of_ble_eq_true rfl) hl.1 dX10_retypes_24) (fun H locs hW => ?_)
      refine lv_iload hx hb dX10_retypes_27 (lv_at hl 4 rfl) ?_
      refine r_brn h (lv_icmp_ne (tgt := 34) hx hb dX10_retypes_29 (by decide)) (fun h => ?_) (fun h => ?_)
      · refine lv_aload_n hx hb dX10_retypes_34 rfl (lv_at hl 0 rfl) ?_
        refine r_gR C hW h fl_X10_20 (by decide) dX10_retypes_35 (fun b5 h => ?_)
        refine lv_iload_n hx hb dX10_retypes_38 rfl (lv_at hl 1 rfl) ?_
        refine lv_sipush (v := 200) hx hb dX10_retypes_39 (by decide) ?_
        refine lv_iload_n hx hb dX10_retypes_42 rfl (lv_at hl 2 rfl) ?_
        refine lv_imul hx hb dX10_retypes_43 ?_
        refine lv_iadd hx hb dX10_retypes_44 ?_
        refine lv_bipush (v := 11) hx hb dX10_retypes_45 (by decide) ?_
        refine lv_iadd hx hb dX10_retypes_47 ?_
        refine lv_iload_n hx hb dX10_retypes_48 rfl (lv_at hl 3 rfl) ?_
        refine lv_iadd hx hb dX10_retypes_49 ?_
        refine lv_iload hx hb dX10_retypes_50 (lv_at hl 4 rfl) ?_
        refine r_iast C hW h dX10_retypes_52 (fun X6 H locs h hW => ?_)
        refine lv_iconst (v := 0) hx hb dX10_retypes_53 (by decide) ?_
        refine lv_istore (lv' := [(5, .int 0), (0, .ref a), (1, .int x1), (2, .int x2), (3, .int x3), (4, .int x4)]) hx hb dX10_retypes_54 hl (by decide) rfl (fun ls hl => ?_)
        exact b_X10_retypes_56 C FU hW (lv_sub hl [1, 2, 3, 4, 5, 0] rfl) h
      · refine lv_iconst (v := 0) hx hb dX10_retypes_32 (by decide) ?_
        exact r_iret C hW (Option.some.inj h).symm rfl dX10_retypes_33
theorem kd_X10_sets {X : Mx} {r : (Int32 × Mx)} {a : Nat} {x1 : Int32} {x2 : Int32} {x3 : Int32} {x4 : Int32} {x5 : Int32} (h : f_X10_sets σ X a x1 x2 x3 x4 x5 = some r) : shK σ a = 8 := (grd_inv h).1
set_option maxRecDepth 20000 in
set_option maxHeartbeats 2000000 in
theorem t_X10_sets {X : Mx} {r : (Int32 × Mx)} {a : Nat} {x1 : Int32} {x2 : Int32} {x3 : Int32} {x4 : Int32} {x5 : Int32} (h : f_X10_sets σ X a x1 x2 x3 x4 x5 = some r) : MtI g l yX10_sets cX10_sets 6 (some .boolean) 2 45 [.ref a, .int x1, .int x2, .int x3, .int x4, .int x5] σ X r := by
  refine met_of mk_X10_sets (Nat.le_of_ble_eq_true rfl) (fun p e s m args below meth c ls C hW hl => ?_)
  have hx := C.x
  have hb := C.b
  have hl : lv_has ls 6 [(0, .ref a), (1, .int x1), (2, .int x2), (3, .int x3), (4, .int x4), (5, .int x5)] := hl
  unfold f_X10_sets at h
  obtain ⟨hk0, h⟩ := grd_inv h
  refine lv_aload_n hx hb dX10_sets_0 rfl (lv_at hl 0 rfl) ?_
  refine lv_iload_n hx hb dX10_sets_1 rfl (lv_at hl 1 rfl) ?_
  refine lv_iload_n hx hb dX10_sets_2 rfl (lv_at hl 2 rfl) ?_
  refine lv_iload_n hx hb dX10_sets_3 rfl (lv_at hl 3 rfl) ?_
  obtain ⟨v2, h1, h⟩ := bnd_inv h
  refine r_cI hW (run_V (rest := []) C hW (t_X10_hasRow h1) mk_X10_hasRow vk_X10_160 (kd_X10_hasRow h1) rfl rfl (by decide) ⟨Nat.le_of_ble_eq_true rfl, Nat.le_of_ble_eq_true rfl⟩ ⟨Nat.zero_le _, Nat.zero_le _⟩ rfl rfl (Nat.le_of_ble_eq_true rfl) hl.1 dX10_sets_4) (fun H locs hW => ?_)
  refine r_br h (lv_if_eq (tgt := 55) hx hb dX10_sets_7 (by decide)) (fun h => ?_) (fun h => ?_)
  · refine lv_iconst (v := 0) hx hb dX10_sets_55 (by decide) ?_
    exact r_iret C hW (Option.some.inj h).symm rfl dX10_sets_56
  · refine lv_aload_n hx hb dX10_sets_10 rfl (lv_at hl 0 rfl) ?_
    refine lv_iload_n hx hb dX10_sets_11 rfl (lv_at hl 1 rfl) ?_
    refine lv_iload_n hx hb dX10_sets_12 rfl (lv_at hl 2 rfl) ?_
    refine lv_iload hx hb dX10_sets_13 (lv_at hl 4 rfl) ?_
    obtain ⟨v4, h3, h⟩ := bnd_inv h
    refine r_cI hW (run_V (rest := []) C hW (t_X10_hasColumn h3) mk_X10_hasColumn vk_X10_234 (kd_X10_hasColumn h3) rfl rfl (by decide) ⟨Nat.le_of_ble_eq_true rfl, Nat.le_of_ble_eq_true rfl⟩ ⟨Nat.zero_le _, Nat.zero_le _⟩ rfl rfl (Nat.le_of_ble_eq_true rfl) hl.1 dX10_sets_15) (fun H locs hW => ?_)
    refine r_br h (lv_if_eq (tgt := 55) hx hb dX10_sets_18 (by decide)) (fun h => ?_) (fun h => ?_)
    · refine lv_iconst (v := 0) hx hb dX10_sets_55 (by decide) ?_
      exact r_iret C hW (Option.some.inj h).symm rfl dX10_sets_56
    · refine lv_aload_n hx hb dX10_sets_21 rfl (lv_at hl 0 rfl) ?_
      refine lv_iload_n hx hb dX10_sets_22 rfl (lv_at hl 1 rfl) ?_
      refine lv_iload_n hx hb dX10_sets_23 rfl (lv_at hl 2 rfl) ?_
      refine lv_iload hx hb dX10_sets_24 (lv_at hl 4 rfl) ?_
      obtain ⟨v6, h5, h⟩ := bnd_inv h
      refine r_cI hW (run_V (rest := []) C hW (t_X10_typeAt h5) mk_X10_typeAt vk_X10_166 (kd_X10_typeAt h5) rfl rfl (by decide) ⟨Nat.le_of_ble_eq_true rfl, Nat.le_of_ble_eq_true rfl⟩ ⟨Nat.zero_le _, Nat.zero_le _⟩ rfl rfl (Nat.le_of_ble_eq_true rfl) hl.1 dX10_sets_26) (fun H locs hW => ?_)
      refine lv_iload hx hb dX10_sets_29 (lv_at hl 5 rfl) ?_
      obtain ⟨v8, h7, h⟩ := bnd_inv h
      refine r_cI hW (run_S (rest := []) C hW (t_X10_doesHold h7) mk_X10_doesHold sk_X10_170 ⟨Nat.le_of_ble_eq_true rfl, Nat.le_of_ble_eq_true rfl⟩ ⟨Nat.zero_le _, Nat.zero_le _⟩ rfl rfl (Nat.le_of_ble_eq_true rfl) hl.1 dX10_sets_31) (fun H locs hW => ?_)
      refine r_br h (lv_if_eq (tgt := 55) hx hb dX10_sets_34 (by decide)) (fun h => ?_) (fun h => ?_)
      · refine lv_iconst (v := 0) hx hb dX10_sets_55 (by decide) ?_
        exact r_iret C hW (Option.some.inj h).symm rfl dX10_sets_56
      · refine lv_aload_n hx hb dX10_sets_37 rfl (lv_at hl 0 rfl) ?_
        refine r_gR C hW h fl_X10_20 (by decide) dX10_sets_38 (fun b9 h => ?_)
        refine lv_iload_n hx hb dX10_sets_41 rfl (lv_at hl 1 rfl) ?_
        refine lv_iload_n hx hb dX10_sets_42 rfl (lv_at hl 2 rfl) ?_
        refine lv_iload_n hx hb dX10_sets_43 rfl (lv_at hl 3 rfl) ?_
        refine lv_iload hx hb dX10_sets_44 (lv_at hl 4 rfl) ?_
        refine r_cI hW (run_S (rest := [.ref b9]) C hW (t_X10_cellAt (X := X)) mk_X10_cellAt sk_X10_174 ⟨Nat.le_of_ble_eq_true rfl, Nat.le_of_ble_eq_true rfl⟩ ⟨Nat.zero_le _, Nat.zero_le _⟩ rfl rfl (Nat.le_of_ble_eq_true rfl) hl.1 dX10_sets_46) (fun H locs hW => ?_)
        refine r_iald C hW h dX10_sets_49 (fun v10 h => ?_)
        refine lv_iload hx hb dX10_sets_50 (lv_at hl 5 rfl) ?_
        refine r_brn h (lv_icmp_ne (tgt := 57) hx hb dX10_sets_52 (by decide)) (fun h => ?_) (fun h => ?_)
        · refine lv_aload_n hx hb dX10_sets_57 rfl (lv_at hl 0 rfl) ?_
          refine r_gR C hW h fl_X10_20 (by decide) dX10_sets_58 (fun b11 h => ?_)
          refine lv_iload_n hx hb dX10_sets_61 rfl (lv_at hl 1 rfl) ?_
          refine lv_iload_n hx hb dX10_sets_62 rfl (lv_at hl 2 rfl) ?_
          refine lv_iload_n hx hb dX10_sets_63 rfl (lv_at hl 3 rfl) ?_
          refine lv_iload hx hb dX10_sets_64 (lv_at hl 4 rfl) ?_
          refine r_cI hW (run_S (rest := [.ref b11]) C hW (t_X10_cellAt (X := X)) mk_X10_cellAt sk_X10_174 ⟨Nat.le_of_ble_eq_true rfl, Nat.le_of_ble_eq_true rfl⟩ ⟨Nat.zero_le _, Nat.zero_le _⟩ rfl rfl (Nat.le_of_ble_eq_true rfl) hl.1 dX10_sets_66) (fun H locs hW => ?_)
          refine lv_iload hx hb dX10_sets_69 (lv_at hl 5 rfl) ?_
          refine r_iast C hW h dX10_sets_71 (fun X12 H locs h hW => ?_)
          refine lv_iconst (v := 1) hx hb dX10_sets_72 (by decide) ?_
          exact r_iret C hW (Option.some.inj h).symm rfl dX10_sets_73
        · refine lv_iconst (v := 0) hx hb dX10_sets_55 (by decide) ?_
          exact r_iret C hW (Option.some.inj h).symm rfl dX10_sets_56
theorem kd_X10_does {X : Mx} {r : (Int32 × Mx)} {a : Nat} {x1 : Int32} {x2 : Int32} {x3 : Int32} {x4 : Int32} {x5 : Int32} {x6 : Int32} (h : f_X10_does σ X a x1 x2 x3 x4 x5 x6 = some r) : shK σ a = 8 := (grd_inv h).1
set_option maxRecDepth 20000 in
set_option maxHeartbeats 2000000 in
theorem t_X10_does {X : Mx} {r : (Int32 × Mx)} {a : Nat} {x1 : Int32} {x2 : Int32} {x3 : Int32} {x4 : Int32} {x5 : Int32} {x6 : Int32} (h : f_X10_does σ X a x1 x2 x3 x4 x5 x6 = some r) : MtI g l yX10_does cX10_does 7 (some .boolean) 4 95 [.ref a, .int x1, .int x2, .int x3, .int x4, .int x5, .int x6] σ X r := by
  refine met_of mk_X10_does (Nat.le_of_ble_eq_true rfl) (fun p e s m args below meth c ls C hW hl => ?_)
  have hx := C.x
  have hb := C.b
  have hl : lv_has ls 7 [(0, .ref a), (1, .int x1), (2, .int x2), (3, .int x3), (4, .int x4), (5, .int x5), (6, .int x6)] := hl
  unfold f_X10_does at h
  obtain ⟨hk0, h⟩ := grd_inv h
  refine lv_iload_n hx hb dX10_does_0 rfl (lv_at hl 3 rfl) ?_
  refine r_case h (fun ec h => ?_) (fun nc0 h => ?_)
  · refine lv_tableIn (tgt := 40) (off := 39) hx hb dX10_does_1 (by rw [ec]; decide) (by rw [ec]; decide) (by rw [ec]; rfl) (by decide) ?_
    refine lv_aload_n hx hb dX10_does_40 rfl (lv_at hl 0 rfl) ?_
    refine lv_iload_n hx hb dX10_does_41 rfl (lv_at hl 1 rfl) ?_
    refine lv_iload_n hx hb dX10_does_42 rfl (lv_at hl 2 rfl) ?_
    refine lv_iload hx hb dX10_does_43 (lv_at hl 4 rfl) ?_
    refine lv_iload hx hb dX10_does_45 (lv_at hl 5 rfl) ?_
    refine lv_iload hx hb dX10_does_47 (lv_at hl 6 rfl) ?_
    obtain ⟨v3, X2, h1, h⟩ := bnd2_inv h
    refine r_cI hW (run_V (rest := []) C hW (t_X10_sets h1) mk_X10_sets vk_X10_250 (kd_X10_sets h1) rfl rfl (by decide) ⟨Nat.le_of_ble_eq_true rfl, Nat.le_of_ble_eq_true rfl⟩ ⟨Nat.zero_le _, Nat.zero_le _⟩ rfl rfl (Nat.le_of_ble_eq_true rfl) hl.1 dX10_does_49) (fun H locs hW => ?_)
    obtain ⟨hz, h⟩ := grd_inv h
    exact r_iret C hW (Option.some.inj h).symm (zb hz) dX10_does_52
  refine r_case h (fun ec h => ?_) (fun nc1 h => ?_)
  · refine lv_tableIn (tgt := 53) (off := 52) hx hb dX10_does_1 (by rw [ec]; decide) (by rw [ec]; decide) (by rw [ec]; rfl) (by decide) ?_
    refine lv_aload_n hx hb dX10_does_53 rfl (lv_at hl 0 rfl) ?_
    refine lv_iload_n hx hb dX10_does_54 rfl (lv_at hl 1 rfl) ?_
    refine lv_iload_n hx hb dX10_does_55 rfl (lv_at hl 2 rfl) ?_
    refine lv_iload hx hb dX10_does_56 (lv_at hl 4 rfl) ?_
    obtain ⟨v6, X5, h4, h⟩ := bnd2_inv h
    refine r_cI hW (run_V (rest := []) C hW (t_X10_inserts h4) mk_X10_inserts vk_X10_254 (kd_X10_inserts h4) rfl rfl (by decide) ⟨Nat.le_of_ble_eq_true rfl, Nat.le_of_ble_eq_true rfl⟩ ⟨Nat.zero_le _, Nat.zero_le _⟩ rfl rfl (Nat.le_of_ble_eq_true rfl) hl.1 dX10_does_58) (fun H locs hW => ?_)
    obtain ⟨hz, h⟩ := grd_inv h
    exact r_iret C hW (Option.some.inj h).symm (zb hz) dX10_does_61
  refine r_case h (fun ec h => ?_) (fun nc2 h => ?_)
  · refine lv_tableIn (tgt := 62) (off := 61) hx hb dX10_does_1 (by rw [ec]; decide) (by rw [ec]; decide) (by rw [ec]; rfl) (by decide) ?_
    refine lv_aload_n hx hb dX10_does_62 rfl (lv_at hl 0 rfl) ?_
    refine lv_iload_n hx hb dX10_does_63 rfl (lv_at hl 1 rfl) ?_
    refine lv_iload_n hx hb dX10_does_64 rfl (lv_at hl 2 rfl) ?_
    refine lv_iload hx hb dX10_does_65 (lv_at hl 4 rfl) ?_
    obtain ⟨v8, h7, h⟩ := bnd_inv h
    refine r_cI hW (run_V (rest := []) C hW (t_X10_hasRow h7) mk_X10_hasRow vk_X10_160 (kd_X10_hasRow h7) rfl rfl (by decide) ⟨Nat.le_of_ble_eq_true rfl, Nat.le_of_ble_eq_true rfl⟩ ⟨Nat.zero_le _, Nat.zero_le _⟩ rfl rfl (Nat.le_of_ble_eq_true rfl) hl.1 dX10_does_67) (fun H locs hW => ?_)
    refine r_brn h (lv_if_ne (tgt := 75) hx hb dX10_does_70 (by decide)) (fun h => ?_) (fun h => ?_)
    · refine lv_aload_n hx hb dX10_does_75 rfl (lv_at hl 0 rfl) ?_
      refine r_gR C hW h fl_X10_20 (by decide) dX10_does_76 (fun b9 h => ?_)
      refine lv_iload_n hx hb dX10_does_79 rfl (lv_at hl 1 rfl) ?_
      refine lv_sipush (v := 200) hx hb dX10_does_80 (by decide) ?_
      refine lv_iload_n hx hb dX10_does_83 rfl (lv_at hl 2 rfl) ?_
      refine lv_imul hx hb dX10_does_84 ?_
      refine lv_iadd hx hb dX10_does_85 ?_
      refine lv_iconst (v := 1) hx hb dX10_does_86 (by decide) ?_
      refine lv_iadd hx hb dX10_does_87 ?_
      refine lv_dup2_11 hx hb dX10_does_88 rfl rfl ?_
      refine r_iald C hW h dX10_does_89 (fun v10 h => ?_)
      refine lv_iconst (v := 1) hx hb dX10_does_90 (by decide) ?_
      refine lv_iload hx hb dX10_does_91 (lv_at hl 4 rfl) ?_
      refine lv_ishl hx hb dX10_does_93 ?_
      refine lv_iconst (v := (-1)) hx hb dX10_does_94 (by decide) ?_
      refine lv_ixor hx hb dX10_does_95 ?_
      refine lv_iand hx hb dX10_does_96 ?_
      refine r_iast C hW h dX10_does_97 (fun X11 H locs h hW => ?_)
      refine lv_iconst (v := 1) hx hb dX10_does_98 (by decide) ?_
      exact r_iret C hW (Option.some.inj h).symm rfl dX10_does_99
    · refine lv_iconst (v := 0) hx hb dX10_does_73 (by decide) ?_
      exact r_iret C hW (Option.some.inj h).symm rfl dX10_does_74
  refine r_case h (fun ec h => ?_) (fun nc3 h => ?_)
  · refine lv_tableIn (tgt := 100) (off := 99) hx hb dX10_does_1 (by rw [ec]; decide) (by rw [ec]; decide) (by rw [ec]; rfl) (by decide) ?_
    refine lv_aload_n hx hb dX10_does_100 rfl (lv_at hl 0 rfl) ?_
    refine lv_iload_n hx hb dX10_does_101 rfl (lv_at hl 1 rfl) ?_
    refine lv_iload_n hx hb dX10_does_102 rfl (lv_at hl 2 rfl) ?_
    refine lv_iload hx hb dX10_does_103 (lv_at hl 4 rfl) ?_
    refine lv_iload hx hb dX10_does_105 (lv_at hl 5 rfl) ?_
    obtain ⟨v14, X13, h12, h⟩ := bnd2_inv h
    refine r_cI hW (run_V (rest := []) C hW (t_X10_renames h12) mk_X10_renames vk_X10_257 (kd_X10_renames h12) rfl rfl (by decide) ⟨Nat.le_of_ble_eq_true rfl, Nat.le_of_ble_eq_true rfl⟩ ⟨Nat.zero_le _, Nat.zero_le _⟩ rfl rfl (Nat.le_of_ble_eq_true rfl) hl.1 dX10_does_107) (fun H locs hW => ?_)
    obtain ⟨hz, h⟩ := grd_inv h
    exact r_iret C hW (Option.some.inj h).symm (zb hz) dX10_does_110
  refine r_case h (fun ec h => ?_) (fun nc4 h => ?_)
  · refine lv_tableIn (tgt := 111) (off := 110) hx hb dX10_does_1 (by rw [ec]; decide) (by rw [ec]; decide) (by rw [ec]; rfl) (by decide) ?_
    refine lv_aload_n hx hb dX10_does_111 rfl (lv_at hl 0 rfl) ?_
    refine lv_iload_n hx hb dX10_does_112 rfl (lv_at hl 1 rfl) ?_
    refine lv_iload_n hx hb dX10_does_113 rfl (lv_at hl 2 rfl) ?_
    refine lv_iload hx hb dX10_does_114 (lv_at hl 4 rfl) ?_
    refine lv_iload hx hb dX10_does_116 (lv_at hl 5 rfl) ?_
    obtain ⟨v17, X16, h15, h⟩ := bnd2_inv h
    refine r_cI hW (run_V (rest := []) C hW (t_X10_retypes h15) mk_X10_retypes vk_X10_261 (kd_X10_retypes h15) rfl rfl (by decide) ⟨Nat.le_of_ble_eq_true rfl, Nat.le_of_ble_eq_true rfl⟩ ⟨Nat.zero_le _, Nat.zero_le _⟩ rfl rfl (Nat.le_of_ble_eq_true rfl) hl.1 dX10_does_118) (fun H locs hW => ?_)
    obtain ⟨hz, h⟩ := grd_inv h
    exact r_iret C hW (Option.some.inj h).symm (zb hz) dX10_does_121
  refine r_case h (fun ec h => ?_) (fun nc5 h => ?_)
  · refine lv_tableIn (tgt := 122) (off := 121) hx hb dX10_does_1 (by rw [ec]; decide) (by rw [ec]; decide) (by rw [ec]; rfl) (by decide) ?_
    refine lv_aload_n hx hb dX10_does_122 rfl (lv_at hl 0 rfl) ?_
    refine lv_iload_n hx hb dX10_does_123 rfl (lv_at hl 1 rfl) ?_
    refine lv_iload_n hx hb dX10_does_124 rfl (lv_at hl 2 rfl) ?_
    refine lv_iload hx hb dX10_does_125 (lv_at hl 4 rfl) ?_
    refine lv_iload hx hb dX10_does_127 (lv_at hl 5 rfl) ?_
    obtain ⟨v20, X19, h18, h⟩ := bnd2_inv h
    refine r_cI hW (run_V (rest := []) C hW (t_X10_adds h18) mk_X10_adds vk_X10_264 (kd_X10_adds h18) rfl rfl (by decide) ⟨Nat.le_of_ble_eq_true rfl, Nat.le_of_ble_eq_true rfl⟩ ⟨Nat.zero_le _, Nat.zero_le _⟩ rfl rfl (Nat.le_of_ble_eq_true rfl) hl.1 dX10_does_129) (fun H locs hW => ?_)
    obtain ⟨hz, h⟩ := grd_inv h
    exact r_iret C hW (Option.some.inj h).symm (zb hz) dX10_does_132
  refine lv_tableOut (tgt := 133) hx hb dX10_does_1 (sw_out (lo := 11) (n := 5) (sw_s nc5 (sw_s nc4 (sw_s nc3 (sw_s nc2 (sw_s nc1 (sw_0 nc0)))))) (by decide)) (by decide) ?_
  refine lv_aload_n hx hb dX10_does_133 rfl (lv_at hl 0 rfl) ?_
  refine lv_iload_n hx hb dX10_does_134 rfl (lv_at hl 1 rfl) ?_
  refine lv_iload_n hx hb dX10_does_135 rfl (lv_at hl 2 rfl) ?_
  refine lv_iload hx hb dX10_does_136 (lv_at hl 4 rfl) ?_
  obtain ⟨v22, h21, h⟩ := bnd_inv h
  refine r_cI hW (run_V (rest := []) C hW (t_X10_hasColumn h21) mk_X10_hasColumn vk_X10_234 (kd_X10_hasColumn h21) rfl rfl (by decide) ⟨Nat.le_of_ble_eq_true rfl, Nat.le_of_ble_eq_true rfl⟩ ⟨Nat.zero_le _, Nat.zero_le _⟩ rfl rfl (Nat.le_of_ble_eq_true rfl) hl.1 dX10_does_138) (fun H locs hW => ?_)
  refine r_brn h (lv_if_ne (tgt := 146) hx hb dX10_does_141 (by decide)) (fun h => ?_) (fun h => ?_)
  · refine lv_aload_n hx hb dX10_does_146 rfl (lv_at hl 0 rfl) ?_
    refine r_gR C hW h fl_X10_20 (by decide) dX10_does_147 (fun b23 h => ?_)
    refine lv_iload_n hx hb dX10_does_150 rfl (lv_at hl 1 rfl) ?_
    refine lv_sipush (v := 200) hx hb dX10_does_151 (by decide) ?_
    refine lv_iload_n hx hb dX10_does_154 rfl (lv_at hl 2 rfl) ?_
    refine lv_imul hx hb dX10_does_155 ?_
    refine lv_iadd hx hb dX10_does_156 ?_
    refine lv_iconst (v := 0) hx hb dX10_does_157 (by decide) ?_
    refine lv_iadd hx hb dX10_does_158 ?_
    refine lv_dup2_11 hx hb dX10_does_159 rfl rfl ?_
    refine r_iald C hW h dX10_does_160 (fun v24 h => ?_)
    refine lv_iconst (v := 1) hx hb dX10_does_161 (by decide) ?_
    refine lv_iload hx hb dX10_does_162 (lv_at hl 4 rfl) ?_
    refine lv_ishl hx hb dX10_does_164 ?_
    refine lv_iconst (v := (-1)) hx hb dX10_does_165 (by decide) ?_
    refine lv_ixor hx hb dX10_does_166 ?_
    refine lv_iand hx hb dX10_does_167 ?_
    refine r_iast C hW h dX10_does_168 (fun X25 H locs h hW => ?_)
    refine lv_iconst (v := 1) hx hb dX10_does_169 (by decide) ?_
    exact r_iret C hW (Option.some.inj h).symm rfl dX10_does_170
  · refine lv_iconst (v := 0) hx hb dX10_does_144 (by decide) ?_
    exact r_iret C hW (Option.some.inj h).symm rfl dX10_does_145
set_option maxRecDepth 20000 in
set_option maxHeartbeats 2000000 in
theorem b_X10_readsEdit_228 {a : Nat} {x1 : Int32} {x2 : Int32} {x3 : Int32} {x5 : Int32} {x6 : Int32} {x7 : Int32} (C : Cx g RX10 cX10_readsEdit 8 none p s m args meth c) {r : Mx} {X : Mx} (hW : Wd g σ X s H locs) (hl : lv_has ls 8 [(0, .ref a), (1, .int x1), (2, .int x2), (3, .int x3), (5, .int x5), (6, .int x6), (7, .int x7)]) (h : f_X10_readsEdit_228 σ a x1 x2 x3 x5 x6 x7 X = some r) : W p l e (rmZ 5 121) s m args below meth c H locs 0 0 (QV g σ below args s r) (F0 m 228 ls []) := by
  have hx := C.x
  have hb := C.b
  unfold f_X10_readsEdit_228 at h
  refine lv_aload_n hx hb dX10_readsEdit_228 rfl (lv_at hl 0 rfl) ?_
  obtain ⟨v2, h1, h⟩ := bnd_inv h
  refine r_cI hW (run_V (rest := []) C hW (t_X10_isGood h1) mk_X10_isGood vk_X10_124 (kd_X10_isGood h1) rfl rfl (by decide) ⟨Nat.le_of_ble_eq_true rfl, Nat.le_of_ble_eq_true rfl⟩ ⟨Nat.zero_le _, Nat.zero_le _⟩ rfl rfl (Nat.le_of_ble_eq_true rfl) hl.1 dX10_readsEdit_229) (fun H locs hW => ?_)
  refine r_brn h (lv_if_ne (tgt := 236) hx hb dX10_readsEdit_232 (by decide)) (fun h => ?_) (fun h => ?_)
  · refine lv_aload_n hx hb dX10_readsEdit_236 rfl (lv_at hl 0 rfl) ?_
    refine lv_sipush (v := 931) hx hb dX10_readsEdit_237 (by decide) ?_
    refine lv_iload_n hx hb dX10_readsEdit_240 rfl (lv_at hl 1 rfl) ?_
    refine lv_iload_n hx hb dX10_readsEdit_241 rfl (lv_at hl 3 rfl) ?_
    refine lv_iload hx hb dX10_readsEdit_242 (lv_at hl 4 rfl) ?_
    refine lv_iload hx hb dX10_readsEdit_244 (lv_at hl 5 rfl) ?_
    refine lv_iload hx hb dX10_readsEdit_246 (lv_at hl 6 rfl) ?_
    obtain ⟨v5, X4, h3, h⟩ := bnd2_inv h
    refine r_cI hW (run_V (rest := []) C hW (t_X10_does h3) mk_X10_does vk_X10_190 (kd_X10_does h3) rfl rfl (by decide) ⟨Nat.le_of_ble_eq_true rfl, Nat.le_of_ble_eq_true rfl⟩ ⟨Nat.zero_le _, Nat.zero_le _⟩ rfl rfl (Nat.le_of_ble_eq_true rfl) hl.1 dX10_readsEdit_248) (fun H locs hW => ?_)
    refine r_brn h (lv_if_ne (tgt := 265) hx hb dX10_readsEdit_251 (by decide)) (fun h => ?_) (fun h => ?_)
    · exact r_vret C hW (Option.some.inj h).symm dX10_readsEdit_265
    · refine lv_aload_n hx hb dX10_readsEdit_254 rfl (lv_at hl 0 rfl) ?_
      refine lv_bipush (v := 6) hx hb dX10_readsEdit_255 (by decide) ?_
      obtain ⟨X7, h6, h⟩ := bnd_inv h
      refine r_cV hW (run_V (rest := []) C hW (t_X10_wrong h6) mk_X10_wrong vk_X10_131 (kd_X10_wrong h6) rfl rfl (by decide) ⟨Nat.le_of_ble_eq_true rfl, Nat.le_of_ble_eq_true rfl⟩ ⟨Nat.zero_le _, Nat.zero_le _⟩ rfl rfl (Nat.le_of_ble_eq_true rfl) hl.1 dX10_readsEdit_257) (fun H locs hW => ?_)
      refine lv_aload_n hx hb dX10_readsEdit_260 rfl (lv_at hl 0 rfl) ?_
      refine lv_iload_n hx hb dX10_readsEdit_261 rfl (lv_at hl 2 rfl) ?_
      refine r_pI C hW h pf_X10_13 (by decide) rfl rfl dX10_readsEdit_262 (fun X8 H locs h hW => ?_)
      exact r_vret C hW (Option.some.inj h).symm dX10_readsEdit_265
  · exact r_vret C hW (Option.some.inj h).symm dX10_readsEdit_235
set_option maxRecDepth 20000 in
set_option maxHeartbeats 2000000 in
theorem b_X10_readsEdit_205 {a : Nat} {x1 : Int32} {x2 : Int32} {x3 : Int32} {x5 : Int32} {x6 : Int32} (C : Cx g RX10 cX10_readsEdit 8 none p s m args meth c) {r : Mx} {X : Mx} {y0 : Int32} (hW : Wd g σ X s H locs) (hl : lv_has ls 8 [(0, .ref a), (1, .int x1), (2, .int x2), (3, .int x3), (5, .int x5), (6, .int x6)]) (h : f_X10_readsEdit_205 σ a x1 x2 x3 x5 x6 X y0 = some r) : W p l e (rmZ 5 121) s m args below meth c H locs 0 0 (QV g σ below args s r) (F0 m 205 ls [.int y0]) := by
  have hx := C.x
  have hb := C.b
  unfold f_X10_readsEdit_205 at h
  refine lv_istore (lv' := [(7, .int y0), (0, .ref a), (1, .int x1), (2, .int x2), (3, .int x3), (5, .int x5), (6, .int x6)]) hx hb dX10_readsEdit_205 hl (by decide) rfl (fun ls hl => ?_)
  refine lv_aload_n hx hb dX10_readsEdit_207 rfl (lv_at hl 1 rfl) ?_
  obtain ⟨v2, h1, h⟩ := bnd_inv h
  refine r_cI hW (run_V (rest := []) C hW (t_X10_isGood h1) mk_X10_isGood vk_X10_124 (kd_X10_isGood h1) rfl rfl (by decide) ⟨Nat.le_of_ble_eq_true rfl, Nat.le_of_ble_eq_true rfl⟩ ⟨Nat.zero_le _, Nat.zero_le _⟩ rfl rfl (Nat.le_of_ble_eq_true rfl) hl.1 dX10_readsEdit_208) (fun H locs hW => ?_)
  refine r_br h (lv_if_eq (tgt := 228) hx hb dX10_readsEdit_211 (by decide)) (fun h => ?_) (fun h => ?_)
  · exact b_X10_readsEdit_228 C hW (lv_sub hl [1, 2, 3, 4, 5, 6, 0] rfl) h
  · refine lv_aload_n hx hb dX10_readsEdit_214 rfl (lv_at hl 1 rfl) ?_
    refine lv_bipush (v := 59) hx hb dX10_readsEdit_215 (by decide) ?_
    obtain ⟨v4, h3, h⟩ := bnd_inv h
    refine r_cI hW (run_V (rest := []) C hW (t_X10_isSign h3) mk_X10_isSign vk_X10_141 (kd_X10_isSign h3) rfl rfl (by decide) ⟨Nat.le_of_ble_eq_true rfl, Nat.le_of_ble_eq_true rfl⟩ ⟨Nat.zero_le _, Nat.zero_le _⟩ rfl rfl (Nat.le_of_ble_eq_true rfl) hl.1 dX10_readsEdit_217) (fun H locs hW => ?_)
    refine r_brn h (lv_if_ne (tgt := 228) hx hb dX10_readsEdit_220 (by decide)) (fun h => ?_) (fun h => ?_)
    · exact b_X10_readsEdit_228 C hW (lv_sub hl [1, 2, 3, 4, 5, 6, 0] rfl) h
    · refine lv_aload_n hx hb dX10_readsEdit_223 rfl (lv_at hl 1 rfl) ?_
      refine lv_iconst (v := 1) hx hb dX10_readsEdit_224 (by decide) ?_
      obtain ⟨X6, h5, h⟩ := bnd_inv h
      refine r_cV hW (run_V (rest := []) C hW (t_X10_wrong h5) mk_X10_wrong vk_X10_131 (kd_X10_wrong h5) rfl rfl (by decide) ⟨Nat.le_of_ble_eq_true rfl, Nat.le_of_ble_eq_true rfl⟩ ⟨Nat.zero_le _, Nat.zero_le _⟩ rfl rfl (Nat.le_of_ble_eq_true rfl) hl.1 dX10_readsEdit_225) (fun H locs hW => ?_)
      exact b_X10_readsEdit_228 C hW (lv_sub hl [1, 2, 3, 4, 5, 6, 0] rfl) h
set_option maxRecDepth 20000 in
set_option maxHeartbeats 2000000 in
theorem b_X10_readsEdit_191 {a : Nat} {x1 : Int32} {x2 : Int32} {x3 : Int32} {x5 : Int32} {x6 : Int32} (C : Cx g RX10 cX10_readsEdit 8 none p s m args meth c) {r : Mx} {X : Mx} (hW : Wd g σ X s H locs) (hl : lv_has ls 8 [(0, .ref a), (1, .int x1), (2, .int x2), (3, .int x3), (5, .int x5), (6, .int x6)]) (h : f_X10_readsEdit_191 σ a x1 x2 x3 x5 x6 X = some r) : W p l e (rmZ 5 121) s m args below meth c H locs 0 0 (QV g σ below args s r) (F0 m 191 ls []) := by
  have hx := C.x
  have hb := C.b
  unfold f_X10_readsEdit_191 at h
  refine lv_iload_n hx hb dX10_readsEdit_191 rfl (lv_at hl 3 rfl) ?_
  refine lv_bipush (v := 11) hx hb dX10_readsEdit_192 (by decide) ?_
  refine r_brn h (lv_icmp_ne (tgt := 204) hx hb dX10_readsEdit_194 (by decide)) (fun h => ?_) (fun h => ?_)
  · refine lv_iconst (v := 0) hx hb dX10_readsEdit_204 (by decide) ?_
    exact b_X10_readsEdit_205 C hW (lv_sub hl [0, 1, 2, 3, 4, 5] rfl) h
  · refine lv_aload_n hx hb dX10_readsEdit_197 rfl (lv_at hl 0 rfl) ?_
    obtain ⟨v3, X2, h1, h⟩ := bnd2_inv h
    refine r_cI hW (run_V (rest := []) C hW (t_X10_cellOf h1) mk_X10_cellOf vk_X10_163 (kd_X10_cellOf h1) rfl rfl (by decide) ⟨Nat.le_of_ble_eq_true rfl, Nat.le_of_ble_eq_true rfl⟩ ⟨Nat.zero_le _, Nat.zero_le _⟩ rfl rfl (Nat.le_of_ble_eq_true rfl) hl.1 dX10_readsEdit_198) (fun H locs hW => ?_)
    refine lv_goto (tgt := 205) hx hb dX10_readsEdit_201 (by decide) ?_
    exact b_X10_readsEdit_205 C hW (lv_sub hl [0, 1, 2, 3, 4, 5] rfl) h
set_option maxRecDepth 20000 in
set_option maxHeartbeats 2000000 in
theorem b_X10_readsEdit_172 {a : Nat} {x1 : Int32} {x2 : Int32} {x3 : Int32} {x5 : Int32} (C : Cx g RX10 cX10_readsEdit 8 none p s m args meth c) {r : Mx} {X : Mx} {y0 : Int32} (hW : Wd g σ X s H locs) (hl : lv_has ls 8 [(0, .ref a), (1, .int x1), (2, .int x2), (3, .int x3), (5, .int x5)]) (h : f_X10_readsEdit_172 σ a x1 x2 x3 x5 X y0 = some r) : W p l e (rmZ 5 121) s m args below meth c H locs 0 0 (QV g σ below args s r) (F0 m 172 ls [.int y0]) := by
  have hx := C.x
  have hb := C.b
  unfold f_X10_readsEdit_172 at h
  refine lv_istore (lv' := [(6, .int y0), (0, .ref a), (1, .int x1), (2, .int x2), (3, .int x3), (5, .int x5)]) hx hb dX10_readsEdit_172 hl (by decide) rfl (fun ls hl => ?_)
  refine lv_iload_n hx hb dX10_readsEdit_174 rfl (lv_at hl 4 rfl) ?_
  refine lv_bipush (v := 14) hx hb dX10_readsEdit_175 (by decide) ?_
  refine r_brn h (lv_icmp_ne (tgt := 191) hx hb dX10_readsEdit_177 (by decide)) (fun h => ?_) (fun h => ?_)
  · exact b_X10_readsEdit_191 C hW (lv_sub hl [1, 2, 3, 4, 5, 0] rfl) h
  · refine lv_aload_n hx hb dX10_readsEdit_180 rfl (lv_at hl 1 rfl) ?_
    obtain ⟨v2, h1, h⟩ := bnd_inv h
    refine r_cI hW (run_V (rest := []) C hW (t_X10_isGood h1) mk_X10_isGood vk_X10_124 (kd_X10_isGood h1) rfl rfl (by decide) ⟨Nat.le_of_ble_eq_true rfl, Nat.le_of_ble_eq_true rfl⟩ ⟨Nat.zero_le _, Nat.zero_le _⟩ rfl rfl (Nat.le_of_ble_eq_true rfl) hl.1 dX10_readsEdit_181) (fun H locs hW => ?_)
    refine r_br h (lv_if_eq (tgt := 191) hx hb dX10_readsEdit_184 (by decide)) (fun h => ?_) (fun h => ?_)
    · exact b_X10_readsEdit_191 C hW (lv_sub hl [1, 2, 3, 4, 5, 0] rfl) h
    · refine lv_aload_n hx hb dX10_readsEdit_187 rfl (lv_at hl 1 rfl) ?_
      obtain ⟨X4, h3, h⟩ := bnd_inv h
      refine r_cV hW (run_V (rest := []) C hW (t_X10_goes h3) mk_X10_goes vk_X10_128 (kd_X10_goes h3) rfl rfl (by decide) ⟨Nat.le_of_ble_eq_true rfl, Nat.le_of_ble_eq_true rfl⟩ ⟨Nat.zero_le _, Nat.zero_le _⟩ rfl rfl (Nat.le_of_ble_eq_true rfl) hl.1 dX10_readsEdit_188) (fun H locs hW => ?_)
      exact b_X10_readsEdit_191 C hW (lv_sub hl [1, 2, 3, 4, 5, 0] rfl) h
set_option maxRecDepth 20000 in
set_option maxHeartbeats 2000000 in
theorem b_X10_readsEdit_164 {a : Nat} {x1 : Int32} {x2 : Int32} {x3 : Int32} {x5 : Int32} (C : Cx g RX10 cX10_readsEdit 8 none p s m args meth c) {r : Mx} {X : Mx} (hW : Wd g σ X s H locs) (hl : lv_has ls 8 [(0, .ref a), (1, .int x1), (2, .int x2), (3, .int x3), (5, .int x5)]) (h : f_X10_readsEdit_164 σ a x1 x2 x3 x5 X = some r) : W p l e (rmZ 5 121) s m args below meth c H locs 0 0 (QV g σ below args s r) (F0 m 164 ls []) := by
  have hx := C.x
  have hb := C.b
  unfold f_X10_readsEdit_164 at h
  refine lv_aload_n hx hb dX10_readsEdit_164 rfl (lv_at hl 0 rfl) ?_
  obtain ⟨v3, X2, h1, h⟩ := bnd2_inv h
  refine r_cI hW (run_V (rest := []) C hW (t_X10_typeOf h1) mk_X10_typeOf vk_X10_157 (kd_X10_typeOf h1) rfl rfl (by decide) ⟨Nat.le_of_ble_eq_true rfl, Nat.le_of_ble_eq_true rfl⟩ ⟨Nat.zero_le _, Nat.zero_le _⟩ rfl rfl (Nat.le_of_ble_eq_true rfl) hl.1 dX10_readsEdit_165) (fun H locs hW => ?_)
  refine lv_goto (tgt := 172) hx hb dX10_readsEdit_168 (by decide) ?_
  exact b_X10_readsEdit_172 C hW (lv_sub hl [0, 1, 2, 3, 4] rfl) h
set_option maxRecDepth 20000 in
set_option maxHeartbeats 2000000 in
theorem b_X10_readsEdit_123 {a : Nat} {x1 : Int32} {x2 : Int32} {x3 : Int32} {x5 : Int32} (C : Cx g RX10 cX10_readsEdit 8 none p s m args meth c) {r : Mx} {X : Mx} (hW : Wd g σ X s H locs) (hl : lv_has ls 8 [(0, .ref a), (1, .int x1), (2, .int x2), (3, .int x3), (5, .int x5)]) (h : f_X10_readsEdit_123 σ a x1 x2 x3 x5 X = some r) : W p l e (rmZ 5 121) s m args below meth c H locs 0 0 (QV g σ below args s r) (F0 m 123 ls []) := by
  have hx := C.x
  have hb := C.b
  unfold f_X10_readsEdit_123 at h
  refine lv_iload_n hx hb dX10_readsEdit_123 rfl (lv_at hl 3 rfl) ?_
  refine lv_bipush (v := 11) hx hb dX10_readsEdit_124 (by decide) ?_
  refine r_brn h (lv_icmp_ne (tgt := 139) hx hb dX10_readsEdit_126 (by decide)) (fun h => ?_) (fun h => ?_)
  · refine lv_iload_n hx hb dX10_readsEdit_139 rfl (lv_at hl 3 rfl) ?_
    refine lv_bipush (v := 14) hx hb dX10_readsEdit_140 (by decide) ?_
    refine r_brn h (lv_icmp_ne (tgt := 152) hx hb dX10_readsEdit_142 (by decide)) (fun h => ?_) (fun h => ?_)
    · refine lv_iload_n hx hb dX10_readsEdit_152 rfl (lv_at hl 3 rfl) ?_
      refine lv_bipush (v := 15) hx hb dX10_readsEdit_153 (by decide) ?_
      refine r_br h (lv_icmp_eq (tgt := 164) hx hb dX10_readsEdit_155 (by decide)) (fun h => ?_) (fun h => ?_)
      · exact b_X10_readsEdit_164 C hW (lv_sub hl [0, 1, 2, 3, 4] rfl) h
      · refine lv_iload_n hx hb dX10_readsEdit_158 rfl (lv_at hl 3 rfl) ?_
        refine lv_bipush (v := 16) hx hb dX10_readsEdit_159 (by decide) ?_
        refine r_brn h (lv_icmp_ne (tgt := 171) hx hb dX10_readsEdit_161 (by decide)) (fun h => ?_) (fun h => ?_)
        · refine lv_iconst (v := 0) hx hb dX10_readsEdit_171 (by decide) ?_
          exact b_X10_readsEdit_172 C hW (lv_sub hl [0, 1, 2, 3, 4] rfl) h
        · exact b_X10_readsEdit_164 C hW (lv_sub hl [0, 1, 2, 3, 4] rfl) h
    · refine lv_aload_n hx hb dX10_readsEdit_145 rfl (lv_at hl 0 rfl) ?_
      obtain ⟨v3, X2, h1, h⟩ := bnd2_inv h
      refine r_cI hW (run_V (rest := []) C hW (t_X10_nameHere h1) mk_X10_nameHere vk_X10_150 (kd_X10_nameHere h1) rfl rfl (by decide) ⟨Nat.le_of_ble_eq_true rfl, Nat.le_of_ble_eq_true rfl⟩ ⟨Nat.zero_le _, Nat.zero_le _⟩ rfl rfl (Nat.le_of_ble_eq_true rfl) hl.1 dX10_readsEdit_146) (fun H locs hW => ?_)
      refine lv_goto (tgt := 172) hx hb dX10_readsEdit_149 (by decide) ?_
      exact b_X10_readsEdit_172 C hW (lv_sub hl [0, 1, 2, 3, 4] rfl) h
  · refine lv_aload_n hx hb dX10_readsEdit_129 rfl (lv_at hl 0 rfl) ?_
    refine lv_sipush (v := 9999) hx hb dX10_readsEdit_130 (by decide) ?_
    obtain ⟨v6, X5, h4, h⟩ := bnd2_inv h
    refine r_cI hW (run_V (rest := []) C hW (t_X10_number h4) mk_X10_number vk_X10_144 (kd_X10_number h4) rfl rfl (by decide) ⟨Nat.le_of_ble_eq_true rfl, Nat.le_of_ble_eq_true rfl⟩ ⟨Nat.zero_le _, Nat.zero_le _⟩ rfl rfl (Nat.le_of_ble_eq_true rfl) hl.1 dX10_readsEdit_133) (fun H locs hW => ?_)
    refine lv_goto (tgt := 172) hx hb dX10_readsEdit_136 (by decide) ?_
    exact b_X10_readsEdit_172 C hW (lv_sub hl [0, 1, 2, 3, 4] rfl) h
set_option maxRecDepth 20000 in
set_option maxHeartbeats 2000000 in
theorem b_X10_readsEdit_104 {a : Nat} {x1 : Int32} {x2 : Int32} {x3 : Int32} (C : Cx g RX10 cX10_readsEdit 8 none p s m args meth c) {r : Mx} {X : Mx} {y0 : Int32} (hW : Wd g σ X s H locs) (hl : lv_has ls 8 [(0, .ref a), (1, .int x1), (2, .int x2), (3, .int x3)]) (h : f_X10_readsEdit_104 σ a x1 x2 x3 X y0 = some r) : W p l e (rmZ 5 121) s m args below meth c H locs 0 0 (QV g σ below args s r) (F0 m 104 ls [.int y0]) := by
  have hx := C.x
  have hb := C.b
  unfold f_X10_readsEdit_104 at h
  refine lv_istore (lv' := [(5, .int y0), (0, .ref a), (1, .int x1), (2, .int x2), (3, .int x3)]) hx hb dX10_readsEdit_104 hl (by decide) rfl (fun ls hl => ?_)
  refine lv_iload_n hx hb dX10_readsEdit_106 rfl (lv_at hl 4 rfl) ?_
  refine lv_bipush (v := 16) hx hb dX10_readsEdit_107 (by decide) ?_
  refine r_brn h (lv_icmp_ne (tgt := 123) hx hb dX10_readsEdit_109 (by decide)) (fun h => ?_) (fun h => ?_)
  · exact b_X10_readsEdit_123 C hW (lv_sub hl [1, 2, 3, 4, 0] rfl) h
  · refine lv_aload_n hx hb dX10_readsEdit_112 rfl (lv_at hl 1 rfl) ?_
    obtain ⟨v2, h1, h⟩ := bnd_inv h
    refine r_cI hW (run_V (rest := []) C hW (t_X10_isGood h1) mk_X10_isGood vk_X10_124 (kd_X10_isGood h1) rfl rfl (by decide) ⟨Nat.le_of_ble_eq_true rfl, Nat.le_of_ble_eq_true rfl⟩ ⟨Nat.zero_le _, Nat.zero_le _⟩ rfl rfl (Nat.le_of_ble_eq_true rfl) hl.1 dX10_readsEdit_113) (fun H locs hW => ?_)
    refine r_br h (lv_if_eq (tgt := 123) hx hb dX10_readsEdit_116 (by decide)) (fun h => ?_) (fun h => ?_)
    · exact b_X10_readsEdit_123 C hW (lv_sub hl [1, 2, 3, 4, 0] rfl) h
    · refine lv_aload_n hx hb dX10_readsEdit_119 rfl (lv_at hl 1 rfl) ?_
      obtain ⟨X4, h3, h⟩ := bnd_inv h
      refine r_cV hW (run_V (rest := []) C hW (t_X10_goes h3) mk_X10_goes vk_X10_128 (kd_X10_goes h3) rfl rfl (by decide) ⟨Nat.le_of_ble_eq_true rfl, Nat.le_of_ble_eq_true rfl⟩ ⟨Nat.zero_le _, Nat.zero_le _⟩ rfl rfl (Nat.le_of_ble_eq_true rfl) hl.1 dX10_readsEdit_120) (fun H locs hW => ?_)
      exact b_X10_readsEdit_123 C hW (lv_sub hl [1, 2, 3, 4, 0] rfl) h
set_option maxRecDepth 20000 in
set_option maxHeartbeats 2000000 in
theorem b_X10_readsEdit_101 {a : Nat} {x1 : Int32} {x2 : Int32} {x3 : Int32} (C : Cx g RX10 cX10_readsEdit 8 none p s m args meth c) {r : Mx} {X : Mx} {y0 : Nat} {y1 : Int32} (hW : Wd g σ X s H locs) (hl : lv_has ls 8 [(0, .ref a), (1, .int x1), (2, .int x2), (3, .int x3)]) (h : f_X10_readsEdit_101 σ a x1 x2 x3 X y0 y1 = some r) : W p l e (rmZ 5 121) s m args below meth c H locs 0 0 (QV g σ below args s r) (F0 m 101 ls [.int y1, .ref y0]) := by
  have hx := C.x
  have hb := C.b
  unfold f_X10_readsEdit_101 at h
  obtain ⟨v3, X2, h1, h⟩ := bnd2_inv h
  refine r_cI hW (run_V (rest := []) C hW (t_X10_number h1) mk_X10_number vk_X10_144 (kd_X10_number h1) rfl rfl (by decide) ⟨Nat.le_of_ble_eq_true rfl, Nat.le_of_ble_eq_true rfl⟩ ⟨Nat.zero_le _, Nat.zero_le _⟩ rfl rfl (Nat.le_of_ble_eq_true rfl) hl.1 dX10_readsEdit_101) (fun H locs hW => ?_)
  exact b_X10_readsEdit_104 C hW (lv_sub hl [0, 1, 2, 3] rfl) h
set_option maxRecDepth 20000 in
set_option maxHeartbeats 2000000 in
theorem b_X10_readsEdit_72 {a : Nat} {x1 : Int32} {x2 : Int32} {x3 : Int32} (C : Cx g RX10 cX10_readsEdit 8 none p s m args meth c) {r : Mx} {X : Mx} {y0 : Int32} (hW : Wd g σ X s H locs) (hl : lv_has ls 8 [(0, .ref a), (1, .int x1), (2, .int x2), (3, .int x3)]) (h : f_X10_readsEdit_72 σ a x1 x2 x3 X y0 = some r) : W p l e (rmZ 5 121) s m args below meth c H locs 0 0 (QV g σ below args s r) (F0 m 72 ls [.int y0]) := by
  have hx := C.x
  have hb := C.b
  unfold f_X10_readsEdit_72 at h
  refine lv_istore (lv' := [(4, .int y0), (0, .ref a), (1, .int x1), (2, .int x2), (3, .int x3)]) hx hb dX10_readsEdit_72 hl (by decide) rfl (fun ls hl => ?_)
  refine lv_iload_n hx hb dX10_readsEdit_74 rfl (lv_at hl 4 rfl) ?_
  refine lv_bipush (v := 16) hx hb dX10_readsEdit_75 (by decide) ?_
  refine r_brn h (lv_icmp_ne (tgt := 87) hx hb dX10_readsEdit_77 (by decide)) (fun h => ?_) (fun h => ?_)
  · refine lv_aload_n hx hb dX10_readsEdit_87 rfl (lv_at hl 1 rfl) ?_
    refine lv_iload hx hb dX10_readsEdit_88 (lv_at hl 0 rfl) ?_
    refine r_br h (lv_if_eq (tgt := 98) hx hb dX10_readsEdit_90 (by decide)) (fun h => ?_) (fun h => ?_)
    · refine lv_sipush (v := 9999) hx hb dX10_readsEdit_98 (by decide) ?_
      exact b_X10_readsEdit_101 C hW (lv_sub hl [1, 2, 3, 4] rfl) h
    · refine lv_bipush (v := 19) hx hb dX10_readsEdit_93 (by decide) ?_
      refine lv_goto (tgt := 101) hx hb dX10_readsEdit_95 (by decide) ?_
      exact b_X10_readsEdit_101 C hW (lv_sub hl [1, 2, 3, 4] rfl) h
  · refine lv_aload_n hx hb dX10_readsEdit_80 rfl (lv_at hl 1 rfl) ?_
    obtain ⟨v3, X2, h1, h⟩ := bnd2_inv h
    refine r_cI hW (run_V (rest := []) C hW (t_X10_nameHere h1) mk_X10_nameHere vk_X10_150 (kd_X10_nameHere h1) rfl rfl (by decide) ⟨Nat.le_of_ble_eq_true rfl, Nat.le_of_ble_eq_true rfl⟩ ⟨Nat.zero_le _, Nat.zero_le _⟩ rfl rfl (Nat.le_of_ble_eq_true rfl) hl.1 dX10_readsEdit_81) (fun H locs hW => ?_)
    refine lv_goto (tgt := 104) hx hb dX10_readsEdit_84 (by decide) ?_
    exact b_X10_readsEdit_104 C hW (lv_sub hl [1, 2, 3, 4] rfl) h
set_option maxRecDepth 20000 in
set_option maxHeartbeats 2000000 in
theorem b_X10_readsEdit_49 {a : Nat} {x1 : Int32} {x2 : Int32} {x3 : Int32} (C : Cx g RX10 cX10_readsEdit 8 none p s m args meth c) {r : Mx} {X : Mx} (hW : Wd g σ X s H locs) (hl : lv_has ls 8 [(0, .ref a), (1, .int x1), (2, .int x2), (3, .int x3)]) (h : f_X10_readsEdit_49 σ a x1 x2 x3 X = some r) : W p l e (rmZ 5 121) s m args below meth c H locs 0 0 (QV g σ below args s r) (F0 m 49 ls []) := by
  have hx := C.x
  have hb := C.b
  unfold f_X10_readsEdit_49 at h
  refine lv_aload_n hx hb dX10_readsEdit_49 rfl (lv_at hl 0 rfl) ?_
  obtain ⟨v2, h1, h⟩ := bnd_inv h
  refine r_cI hW (run_V (rest := []) C hW (t_X10_isGood h1) mk_X10_isGood vk_X10_124 (kd_X10_isGood h1) rfl rfl (by decide) ⟨Nat.le_of_ble_eq_true rfl, Nat.le_of_ble_eq_true rfl⟩ ⟨Nat.zero_le _, Nat.zero_le _⟩ rfl rfl (Nat.le_of_ble_eq_true rfl) hl.1 dX10_readsEdit_50) (fun H locs hW => ?_)
  refine r_brn h (lv_if_ne (tgt := 57) hx hb dX10_readsEdit_53 (by decide)) (fun h => ?_) (fun h => ?_)
  · refine lv_aload_n hx hb dX10_readsEdit_57 rfl (lv_at hl 0 rfl) ?_
    obtain ⟨X4, h3, h⟩ := bnd_inv h
    refine r_cV hW (run_V (rest := []) C hW (t_X10_goes h3) mk_X10_goes vk_X10_128 (kd_X10_goes h3) rfl rfl (by decide) ⟨Nat.le_of_ble_eq_true rfl, Nat.le_of_ble_eq_true rfl⟩ ⟨Nat.zero_le _, Nat.zero_le _⟩ rfl rfl (Nat.le_of_ble_eq_true rfl) hl.1 dX10_readsEdit_58) (fun H locs hW => ?_)
    refine lv_iload_n hx hb dX10_readsEdit_61 rfl (lv_at hl 3 rfl) ?_
    refine lv_bipush (v := 13) hx hb dX10_readsEdit_62 (by decide) ?_
    refine r_br h (lv_icmp_gt (tgt := 71) hx hb dX10_readsEdit_64 (by decide)) (fun h => ?_) (fun h => ?_)
    · refine lv_iconst (v := 0) hx hb dX10_readsEdit_71 (by decide) ?_
      exact b_X10_readsEdit_72 C hW (lv_sub hl [0, 1, 2, 3] rfl) h
    · refine lv_iconst (v := 1) hx hb dX10_readsEdit_67 (by decide) ?_
      refine lv_goto (tgt := 72) hx hb dX10_readsEdit_68 (by decide) ?_
      exact b_X10_readsEdit_72 C hW (lv_sub hl [0, 1, 2, 3] rfl) h
  · exact r_vret C hW (Option.some.inj h).symm dX10_readsEdit_56
set_option maxRecDepth 20000 in
set_option maxHeartbeats 2000000 in
theorem b_X10_readsEdit_19 {a : Nat} {x1 : Int32} {x2 : Int32} (C : Cx g RX10 cX10_readsEdit 8 none p s m args meth c) {r : Mx} {X : Mx} (hW : Wd g σ X s H locs) (hl : lv_has ls 8 [(0, .ref a), (1, .int x1), (2, .int x2)]) (h : f_X10_readsEdit_19 σ a x1 x2 X = some r) : W p l e (rmZ 5 121) s m args below meth c H locs 0 0 (QV g σ below args s r) (F0 m 19 ls []) := by
  have hx := C.x
  have hb := C.b
  unfold f_X10_readsEdit_19 at h
  refine lv_aload_n hx hb dX10_readsEdit_19 rfl (lv_at hl 0 rfl) ?_
  refine lv_dup hx hb dX10_readsEdit_20 rfl ?_
  refine r_gI C hW h fl_X10_184 (by decide) dX10_readsEdit_21 (fun v1 h => ?_)
  refine lv_iconst (v := 1) hx hb dX10_readsEdit_24 (by decide) ?_
  refine lv_iadd hx hb dX10_readsEdit_25 ?_
  refine r_pI C hW h pf_X10_184 (by decide) rfl rfl dX10_readsEdit_26 (fun X2 H locs h hW => ?_)
  refine lv_aload_n hx hb dX10_readsEdit_29 rfl (lv_at hl 0 rfl) ?_
  obtain ⟨X4, h3, h⟩ := bnd_inv h
  refine r_cV hW (run_V (rest := []) C hW (t_X10_goes h3) mk_X10_goes vk_X10_128 (kd_X10_goes h3) rfl rfl (by decide) ⟨Nat.le_of_ble_eq_true rfl, Nat.le_of_ble_eq_true rfl⟩ ⟨Nat.zero_le _, Nat.zero_le _⟩ rfl rfl (Nat.le_of_ble_eq_true rfl) hl.1 dX10_readsEdit_30) (fun H locs hW => ?_)
  refine lv_aload_n hx hb dX10_readsEdit_33 rfl (lv_at hl 0 rfl) ?_
  obtain ⟨v6, h5, h⟩ := bnd_inv h
  refine r_cI hW (run_V (rest := []) C hW (t_X10_knownWord h5) mk_X10_knownWord vk_X10_137 (kd_X10_knownWord h5) rfl rfl (by decide) ⟨Nat.le_of_ble_eq_true rfl, Nat.le_of_ble_eq_true rfl⟩ ⟨Nat.zero_le _, Nat.zero_le _⟩ rfl rfl (Nat.le_of_ble_eq_true rfl) hl.1 dX10_readsEdit_34) (fun H locs hW => ?_)
  refine lv_istore_n (lv' := [(3, .int v6), (0, .ref a), (1, .int x1), (2, .int x2)]) hx hb dX10_readsEdit_37 rfl hl (by decide) rfl (fun ls hl => ?_)
  refine lv_iload_n hx hb dX10_readsEdit_38 rfl (lv_at hl 0 rfl) ?_
  refine lv_bipush (v := 11) hx hb dX10_readsEdit_39 (by decide) ?_
  refine r_br h (lv_icmp_ge (tgt := 49) hx hb dX10_readsEdit_41 (by decide)) (fun h => ?_) (fun h => ?_)
  · exact b_X10_readsEdit_49 C hW (lv_sub hl [1, 2, 3, 0] rfl) h
  · refine lv_aload_n hx hb dX10_readsEdit_44 rfl (lv_at hl 1 rfl) ?_
    refine lv_iconst (v := 1) hx hb dX10_readsEdit_45 (by decide) ?_
    obtain ⟨X8, h7, h⟩ := bnd_inv h
    refine r_cV hW (run_V (rest := []) C hW (t_X10_wrong h7) mk_X10_wrong vk_X10_131 (kd_X10_wrong h7) rfl rfl (by decide) ⟨Nat.le_of_ble_eq_true rfl, Nat.le_of_ble_eq_true rfl⟩ ⟨Nat.zero_le _, Nat.zero_le _⟩ rfl rfl (Nat.le_of_ble_eq_true rfl) hl.1 dX10_readsEdit_46) (fun H locs hW => ?_)
    exact b_X10_readsEdit_49 C hW (lv_sub hl [1, 2, 3, 0] rfl) h
theorem kd_X10_readsEdit {X : Mx} {r : Mx} {a : Nat} {x1 : Int32} (h : f_X10_readsEdit σ X a x1 = some r) : shK σ a = 8 := (grd_inv h).1
set_option maxRecDepth 20000 in
set_option maxHeartbeats 2000000 in
theorem t_X10_readsEdit {X : Mx} {r : Mx} {a : Nat} {x1 : Int32} (h : f_X10_readsEdit σ X a x1 = some r) : MtV g l yX10_readsEdit cX10_readsEdit 8 none 5 121 [.ref a, .int x1] σ X r := by
  refine met_of mk_X10_readsEdit (Nat.le_of_ble_eq_true rfl) (fun p e s m args below meth c ls C hW hl => ?_)
  have hx := C.x
  have hb := C.b
  have hl : lv_has ls 8 [(0, .ref a), (1, .int x1)] := hl
  unfold f_X10_readsEdit at h
  obtain ⟨hk0, h⟩ := grd_inv h
  refine lv_aload_n hx hb dX10_readsEdit_0 rfl (lv_at hl 0 rfl) ?_
  refine r_gI C hW h fl_X10_85 (by decide) dX10_readsEdit_1 (fun v1 h => ?_)
  refine lv_istore_n (lv' := [(2, .int v1), (0, .ref a), (1, .int x1)]) hx hb dX10_readsEdit_4 rfl hl (by decide) rfl (fun ls hl => ?_)
  refine lv_aload_n hx hb dX10_readsEdit_5 rfl (lv_at hl 1 rfl) ?_
  refine r_gI C hW h fl_X10_184 (by decide) dX10_readsEdit_6 (fun v2 h => ?_)
  refine r_brn h (lv_if_ne (tgt := 19) hx hb dX10_readsEdit_9 (by decide)) (fun h => ?_) (fun h => ?_)
  · exact b_X10_readsEdit_19 C hW (lv_sub hl [1, 2, 0] rfl) h
  · refine lv_aload_n hx hb dX10_readsEdit_12 rfl (lv_at hl 1 rfl) ?_
    refine lv_sipush (v := 931) hx hb dX10_readsEdit_13 (by decide) ?_
    obtain ⟨X4, h3, h⟩ := bnd_inv h
    refine r_cV hW (run_V (rest := []) C hW (t_X10_sidesBegin h3) mk_X10_sidesBegin vk_X10_187 (kd_X10_sidesBegin h3) rfl rfl (by decide) ⟨Nat.le_of_ble_eq_true rfl, Nat.le_of_ble_eq_true rfl⟩ ⟨Nat.zero_le _, Nat.zero_le _⟩ rfl rfl (Nat.le_of_ble_eq_true rfl) hl.1 dX10_readsEdit_16) (fun H locs hW => ?_)
    exact b_X10_readsEdit_19 C hW (lv_sub hl [1, 2, 0] rfl) h
set_option maxRecDepth 20000 in
set_option maxHeartbeats 2000000 in
theorem b_X10_begins_18 {a : Nat} (C : Cx g RX10 cX10_begins 3 (some .boolean) p s m args meth c) {r : (Int32 × Mx)} {X : Mx} (hW : Wd g σ X s H locs) (hl : lv_has ls 3 [(0, .ref a)]) (h : f_X10_begins_18 σ a X = some r) : W p l e (rmZ 2 42) s m args below meth c H locs 0 0 (QI g σ below args s r) (F0 m 18 ls []) := by
  have hx := C.x
  have hb := C.b
  unfold f_X10_begins_18 at h
  refine lv_aload_n hx hb dX10_begins_18 rfl (lv_at hl 0 rfl) ?_
  obtain ⟨v2, h1, h⟩ := bnd_inv h
  refine r_cI hW (run_V (rest := []) C hW (t_X10_isGood h1) mk_X10_isGood vk_X10_124 (kd_X10_isGood h1) rfl rfl (by decide) ⟨Nat.le_of_ble_eq_true rfl, Nat.le_of_ble_eq_true rfl⟩ ⟨Nat.zero_le _, Nat.zero_le _⟩ rfl rfl (Nat.le_of_ble_eq_true rfl) hl.1 dX10_begins_19) (fun H locs hW => ?_)
  refine r_brn h (lv_if_ne (tgt := 27) hx hb dX10_begins_22 (by decide)) (fun h => ?_) (fun h => ?_)
  · refine lv_aload_n hx hb dX10_begins_27 rfl (lv_at hl 0 rfl) ?_
    obtain ⟨X4, h3, h⟩ := bnd_inv h
    refine r_cV hW (run_V (rest := []) C hW (t_X10_goes h3) mk_X10_goes vk_X10_128 (kd_X10_goes h3) rfl rfl (by decide) ⟨Nat.le_of_ble_eq_true rfl, Nat.le_of_ble_eq_true rfl⟩ ⟨Nat.zero_le _, Nat.zero_le _⟩ rfl rfl (Nat.le_of_ble_eq_true rfl) hl.1 dX10_begins_28) (fun H locs hW => ?_)
    refine lv_iconst (v := 1) hx hb dX10_begins_31 (by decide) ?_
    exact r_iret C hW (Option.some.inj h).symm rfl dX10_begins_32
  · refine lv_iconst (v := 0) hx hb dX10_begins_25 (by decide) ?_
    exact r_iret C hW (Option.some.inj h).symm rfl dX10_begins_26
set_option maxRecDepth 20000 in
set_option maxHeartbeats 2000000 in
theorem b_X10_begins_9 {a : Nat} {x2 : Int32} (C : Cx g RX10 cX10_begins 3 (some .boolean) p s m args meth c) {r : (Int32 × Mx)} {X : Mx} (hW : Wd g σ X s H locs) (hl : lv_has ls 3 [(0, .ref a), (2, .int x2)]) (h : f_X10_begins_9 σ a x2 X = some r) : W p l e (rmZ 2 42) s m args below meth c H locs 0 0 (QI g σ below args s r) (F0 m 9 ls []) := by
  have hx := C.x
  have hb := C.b
  unfold f_X10_begins_9 at h
  refine lv_iload_n hx hb dX10_begins_9 rfl (lv_at hl 1 rfl) ?_
  refine r_br h (lv_if_eq (tgt := 18) hx hb dX10_begins_10 (by decide)) (fun h => ?_) (fun h => ?_)
  · exact b_X10_begins_18 C hW (lv_sub hl [0] rfl) h
  · refine lv_aload_n hx hb dX10_begins_13 rfl (lv_at hl 0 rfl) ?_
    refine lv_iconst (v := 2) hx hb dX10_begins_14 (by decide) ?_
    obtain ⟨X2, h1, h⟩ := bnd_inv h
    refine r_cV hW (run_V (rest := []) C hW (t_X10_wrong h1) mk_X10_wrong vk_X10_131 (kd_X10_wrong h1) rfl rfl (by decide) ⟨Nat.le_of_ble_eq_true rfl, Nat.le_of_ble_eq_true rfl⟩ ⟨Nat.zero_le _, Nat.zero_le _⟩ rfl rfl (Nat.le_of_ble_eq_true rfl) hl.1 dX10_begins_15) (fun H locs hW => ?_)
    exact b_X10_begins_18 C hW (lv_sub hl [0] rfl) h
theorem kd_X10_begins {X : Mx} {r : (Int32 × Mx)} {a : Nat} {x1 : Int32} {x2 : Int32} (h : f_X10_begins σ X a x1 x2 = some r) : shK σ a = 8 := (grd_inv h).1
set_option maxRecDepth 20000 in
set_option maxHeartbeats 2000000 in
theorem t_X10_begins {X : Mx} {r : (Int32 × Mx)} {a : Nat} {x1 : Int32} {x2 : Int32} (h : f_X10_begins σ X a x1 x2 = some r) : MtI g l yX10_begins cX10_begins 3 (some .boolean) 2 42 [.ref a, .int x1, .int x2] σ X r := by
  refine met_of mk_X10_begins (Nat.le_of_ble_eq_true rfl) (fun p e s m args below meth c ls C hW hl => ?_)
  have hx := C.x
  have hb := C.b
  have hl : lv_has ls 3 [(0, .ref a), (1, .int x1), (2, .int x2)] := hl
  unfold f_X10_begins at h
  obtain ⟨hk0, h⟩ := grd_inv h
  refine lv_iload_n hx hb dX10_begins_0 rfl (lv_at hl 1 rfl) ?_
  refine r_br h (lv_if_eq (tgt := 9) hx hb dX10_begins_1 (by decide)) (fun h => ?_) (fun h => ?_)
  · exact b_X10_begins_9 C hW (lv_sub hl [0, 2] rfl) h
  · refine lv_aload_n hx hb dX10_begins_4 rfl (lv_at hl 0 rfl) ?_
    refine lv_iconst (v := 1) hx hb dX10_begins_5 (by decide) ?_
    obtain ⟨X2, h1, h⟩ := bnd_inv h
    refine r_cV hW (run_V (rest := []) C hW (t_X10_wrong h1) mk_X10_wrong vk_X10_131 (kd_X10_wrong h1) rfl rfl (by decide) ⟨Nat.le_of_ble_eq_true rfl, Nat.le_of_ble_eq_true rfl⟩ ⟨Nat.zero_le _, Nat.zero_le _⟩ rfl rfl (Nat.le_of_ble_eq_true rfl) hl.1 dX10_begins_6) (fun H locs hW => ?_)
    exact b_X10_begins_9 C hW (lv_sub hl [0, 2] rfl) h
set_option maxRecDepth 20000 in
set_option maxHeartbeats 2000000 in
theorem b_X10_line_188 {a : Nat} (C : Cx g RX10 cX10_line 2 none p s m args meth c) {r : Mx} {X : Mx} (hW : Wd g σ X s H locs) (hl : lv_has ls 2 [(0, .ref a)]) (h : f_X10_line_188 σ a X = some r) : W p l e (rmZ 6 148) s m args below meth c H locs 0 0 (QV g σ below args s r) (F0 m 188 ls []) := by
  have hx := C.x
  have hb := C.b
  unfold f_X10_line_188 at h
  refine lv_aload_n hx hb dX10_line_188 rfl (lv_at hl 0 rfl) ?_
  refine lv_aload_n hx hb dX10_line_189 rfl (lv_at hl 0 rfl) ?_
  refine lv_bipush (v := 59) hx hb dX10_line_190 (by decide) ?_
  obtain ⟨v2, h1, h⟩ := bnd_inv h
  refine r_cI hW (run_V (rest := [.ref a]) C hW (t_X10_isSign h1) mk_X10_isSign vk_X10_141 (kd_X10_isSign h1) rfl rfl (by decide) ⟨Nat.le_of_ble_eq_true rfl, Nat.le_of_ble_eq_true rfl⟩ ⟨Nat.zero_le _, Nat.zero_le _⟩ rfl rfl (Nat.le_of_ble_eq_true rfl) hl.1 dX10_line_192) (fun H locs hW => ?_)
  obtain ⟨X4, h3, h⟩ := bnd_inv h
  refine r_cV hW (run_V (rest := []) C hW (t_X10_need h3) mk_X10_need vk_X10_210 (kd_X10_need h3) rfl rfl (by decide) ⟨Nat.le_of_ble_eq_true rfl, Nat.le_of_ble_eq_true rfl⟩ ⟨Nat.zero_le _, Nat.zero_le _⟩ rfl rfl (Nat.le_of_ble_eq_true rfl) hl.1 dX10_line_195) (fun H locs hW => ?_)
  exact r_vret C hW (Option.some.inj h).symm dX10_line_198
set_option maxRecDepth 20000 in
set_option maxHeartbeats 2000000 in
theorem b_X10_line_43 {a : Nat} (C : Cx g RX10 cX10_line 2 none p s m args meth c) {r : Mx} {X : Mx} {y0 : Nat} {y1 : Int32} {y2 : Int32} (hW : Wd g σ X s H locs) (hl : lv_has ls 2 [(0, .ref a)]) (h : f_X10_line_43 σ a X y0 y1 y2 = some r) : W p l e (rmZ 6 148) s m args below meth c H locs 0 0 (QV g σ below args s r) (F0 m 43 ls [.int y2, .int y1, .ref y0]) := by
  have hx := C.x
  have hb := C.b
  unfold f_X10_line_43 at h
  obtain ⟨v3, X2, h1, h⟩ := bnd2_inv h
  refine r_cI hW (run_V (rest := []) C hW (t_X10_begins h1) mk_X10_begins vk_X10_194 (kd_X10_begins h1) rfl rfl (by decide) ⟨Nat.le_of_ble_eq_true rfl, Nat.le_of_ble_eq_true rfl⟩ ⟨Nat.zero_le _, Nat.zero_le _⟩ rfl rfl (Nat.le_of_ble_eq_true rfl) hl.1 dX10_line_43) (fun H locs hW => ?_)
  refine r_br h (lv_if_eq (tgt := 188) hx hb dX10_line_46 (by decide)) (fun h => ?_) (fun h => ?_)
  · exact b_X10_line_188 C hW (lv_sub hl [0] rfl) h
  · refine lv_aload_n hx hb dX10_line_49 rfl (lv_at hl 0 rfl) ?_
    obtain ⟨X5, h4, h⟩ := bnd_inv h
    refine r_cV hW (run_V (rest := []) C hW (t_X10_readsColumn h4) mk_X10_readsColumn vk_X10_198 (kd_X10_readsColumn h4) rfl rfl (by decide) ⟨Nat.le_of_ble_eq_true rfl, Nat.le_of_ble_eq_true rfl⟩ ⟨Nat.zero_le _, Nat.zero_le _⟩ rfl rfl (Nat.le_of_ble_eq_true rfl) hl.1 dX10_line_50) (fun H locs hW => ?_)
    refine lv_goto (tgt := 188) hx hb dX10_line_53 (by decide) ?_
    exact b_X10_line_188 C hW (lv_sub hl [0] rfl) h
set_option maxRecDepth 20000 in
set_option maxHeartbeats 2000000 in
theorem b_X10_line_30 {a : Nat} (C : Cx g RX10 cX10_line 2 none p s m args meth c) {r : Mx} {X : Mx} {y0 : Nat} {y1 : Int32} (hW : Wd g σ X s H locs) (hl : lv_has ls 2 [(0, .ref a)]) (h : f_X10_line_30 σ a X y0 y1 = some r) : W p l e (rmZ 6 148) s m args below meth c H locs 0 0 (QV g σ below args s r) (F0 m 30 ls [.int y1, .ref y0]) := by
  have hx := C.x
  have hb := C.b
  unfold f_X10_line_30 at h
  refine lv_aload_n hx hb dX10_line_30 rfl (lv_at hl 0 rfl) ?_
  refine r_gI C hW h fl_X10_147 (by decide) dX10_line_31 (fun v1 h => ?_)
  refine lv_iconst (v := 5) hx hb dX10_line_34 (by decide) ?_
  refine r_brn h (lv_icmp_ne (tgt := 42) hx hb dX10_line_35 (by decide)) (fun h => ?_) (fun h => ?_)
  · refine lv_iconst (v := 0) hx hb dX10_line_42 (by decide) ?_
    exact b_X10_line_43 C hW (lv_sub hl [0] rfl) h
  · refine lv_iconst (v := 1) hx hb dX10_line_38 (by decide) ?_
    refine lv_goto (tgt := 43) hx hb dX10_line_39 (by decide) ?_
    exact b_X10_line_43 C hW (lv_sub hl [0] rfl) h
set_option maxRecDepth 20000 in
set_option maxHeartbeats 2000000 in
theorem b_X10_line_25 {a : Nat} (C : Cx g RX10 cX10_line 2 none p s m args meth c) {r : Mx} {X : Mx} {y0 : Nat} (hW : Wd g σ X s H locs) (hl : lv_has ls 2 [(0, .ref a)]) (h : f_X10_line_25 σ a X y0 = some r) : W p l e (rmZ 6 148) s m args below meth c H locs 0 0 (QV g σ below args s r) (F0 m 25 ls [.ref y0]) := by
  have hx := C.x
  have hb := C.b
  unfold f_X10_line_25 at h
  refine lv_iconst (v := 1) hx hb dX10_line_25 (by decide) ?_
  refine lv_goto (tgt := 30) hx hb dX10_line_26 (by decide) ?_
  exact b_X10_line_30 C hW (lv_sub hl [0] rfl) h
set_option maxRecDepth 20000 in
set_option maxHeartbeats 2000000 in
theorem b_X10_line_88 {a : Nat} (C : Cx g RX10 cX10_line 2 none p s m args meth c) {r : Mx} {X : Mx} {y0 : Nat} {y1 : Int32} {y2 : Int32} (hW : Wd g σ X s H locs) (hl : lv_has ls 2 [(0, .ref a)]) (h : f_X10_line_88 σ a X y0 y1 y2 = some r) : W p l e (rmZ 6 148) s m args below meth c H locs 0 0 (QV g σ below args s r) (F0 m 88 ls [.int y2, .int y1, .ref y0]) := by
  have hx := C.x
  have hb := C.b
  unfold f_X10_line_88 at h
  obtain ⟨v3, X2, h1, h⟩ := bnd2_inv h
  refine r_cI hW (run_V (rest := []) C hW (t_X10_begins h1) mk_X10_begins vk_X10_194 (kd_X10_begins h1) rfl rfl (by decide) ⟨Nat.le_of_ble_eq_true rfl, Nat.le_of_ble_eq_true rfl⟩ ⟨Nat.zero_le _, Nat.zero_le _⟩ rfl rfl (Nat.le_of_ble_eq_true rfl) hl.1 dX10_line_88) (fun H locs hW => ?_)
  refine r_br h (lv_if_eq (tgt := 188) hx hb dX10_line_91 (by decide)) (fun h => ?_) (fun h => ?_)
  · exact b_X10_line_188 C hW (lv_sub hl [0] rfl) h
  · refine lv_aload_n hx hb dX10_line_94 rfl (lv_at hl 0 rfl) ?_
    obtain ⟨X5, h4, h⟩ := bnd_inv h
    refine r_cV hW (run_V (rest := []) C hW (t_X10_readsRow h4) mk_X10_readsRow vk_X10_201 (kd_X10_readsRow h4) rfl rfl (by decide) ⟨Nat.le_of_ble_eq_true rfl, Nat.le_of_ble_eq_true rfl⟩ ⟨Nat.zero_le _, Nat.zero_le _⟩ rfl rfl (Nat.le_of_ble_eq_true rfl) hl.1 dX10_line_95) (fun H locs hW => ?_)
    refine lv_goto (tgt := 188) hx hb dX10_line_98 (by decide) ?_
    exact b_X10_line_188 C hW (lv_sub hl [0] rfl) h
set_option maxRecDepth 20000 in
set_option maxHeartbeats 2000000 in
theorem b_X10_line_74 {a : Nat} (C : Cx g RX10 cX10_line 2 none p s m args meth c) {r : Mx} {X : Mx} {y0 : Nat} {y1 : Int32} (hW : Wd g σ X s H locs) (hl : lv_has ls 2 [(0, .ref a)]) (h : f_X10_line_74 σ a X y0 y1 = some r) : W p l e (rmZ 6 148) s m args below meth c H locs 0 0 (QV g σ below args s r) (F0 m 74 ls [.int y1, .ref y0]) := by
  have hx := C.x
  have hb := C.b
  unfold f_X10_line_74 at h
  refine lv_aload_n hx hb dX10_line_74 rfl (lv_at hl 0 rfl) ?_
  refine r_gI C hW h fl_X10_178 (by decide) dX10_line_75 (fun v1 h => ?_)
  refine lv_bipush (v := 12) hx hb dX10_line_78 (by decide) ?_
  refine r_brn h (lv_icmp_ne (tgt := 87) hx hb dX10_line_80 (by decide)) (fun h => ?_) (fun h => ?_)
  · refine lv_iconst (v := 0) hx hb dX10_line_87 (by decide) ?_
    exact b_X10_line_88 C hW (lv_sub hl [0] rfl) h
  · refine lv_iconst (v := 1) hx hb dX10_line_83 (by decide) ?_
    refine lv_goto (tgt := 88) hx hb dX10_line_84 (by decide) ?_
    exact b_X10_line_88 C hW (lv_sub hl [0] rfl) h
set_option maxRecDepth 20000 in
set_option maxHeartbeats 2000000 in
theorem b_X10_line_172 {a : Nat} {x1 : Int32} (C : Cx g RX10 cX10_line 2 none p s m args meth c) {r : Mx} {X : Mx} (hW : Wd g σ X s H locs) (hl : lv_has ls 2 [(0, .ref a), (1, .int x1)]) (h : f_X10_line_172 σ a x1 X = some r) : W p l e (rmZ 6 148) s m args below meth c H locs 0 0 (QV g σ below args s r) (F0 m 172 ls []) := by
  have hx := C.x
  have hb := C.b
  unfold f_X10_line_172 at h
  refine lv_aload_n hx hb dX10_line_172 rfl (lv_at hl 0 rfl) ?_
  refine lv_iload_n hx hb dX10_line_173 rfl (lv_at hl 1 rfl) ?_
  refine lv_bipush (v := 9) hx hb dX10_line_174 (by decide) ?_
  refine lv_isub hx hb dX10_line_176 ?_
  obtain ⟨X2, h1, h⟩ := bnd_inv h
  refine r_cV hW (run_V (rest := []) C hW (t_X10_readsEdit h1) mk_X10_readsEdit vk_X10_207 (kd_X10_readsEdit h1) rfl rfl (by decide) ⟨Nat.le_of_ble_eq_true rfl, Nat.le_of_ble_eq_true rfl⟩ ⟨Nat.zero_le _, Nat.zero_le _⟩ rfl rfl (Nat.le_of_ble_eq_true rfl) hl.1 dX10_line_177) (fun H locs hW => ?_)
  refine lv_goto (tgt := 188) hx hb dX10_line_180 (by decide) ?_
  exact b_X10_line_188 C hW (lv_sub hl [0] rfl) h
set_option maxRecDepth 20000 in
set_option maxHeartbeats 2000000 in
theorem b_X10_line_160 {a : Nat} {x1 : Int32} (C : Cx g RX10 cX10_line 2 none p s m args meth c) {r : Mx} {X : Mx} (hW : Wd g σ X s H locs) (hl : lv_has ls 2 [(0, .ref a), (1, .int x1)]) (h : f_X10_line_160 σ a x1 X = some r) : W p l e (rmZ 6 148) s m args below meth c H locs 0 0 (QV g σ below args s r) (F0 m 160 ls []) := by
  have hx := C.x
  have hb := C.b
  unfold f_X10_line_160 at h
  refine lv_iload_n hx hb dX10_line_160 rfl (lv_at hl 1 rfl) ?_
  refine lv_bipush (v := 9) hx hb dX10_line_161 (by decide) ?_
  refine r_br h (lv_icmp_eq (tgt := 172) hx hb dX10_line_163 (by decide)) (fun h => ?_) (fun h => ?_)
  · exact b_X10_line_172 C hW (lv_sub hl [0, 1] rfl) h
  · refine lv_iload_n hx hb dX10_line_166 rfl (lv_at hl 1 rfl) ?_
    refine lv_bipush (v := 10) hx hb dX10_line_167 (by decide) ?_
    refine r_brn h (lv_icmp_ne (tgt := 183) hx hb dX10_line_169 (by decide)) (fun h => ?_) (fun h => ?_)
    · refine lv_aload_n hx hb dX10_line_183 rfl (lv_at hl 0 rfl) ?_
      refine lv_iconst (v := 1) hx hb dX10_line_184 (by decide) ?_
      obtain ⟨X2, h1, h⟩ := bnd_inv h
      refine r_cV hW (run_V (rest := []) C hW (t_X10_wrong h1) mk_X10_wrong vk_X10_131 (kd_X10_wrong h1) rfl rfl (by decide) ⟨Nat.le_of_ble_eq_true rfl, Nat.le_of_ble_eq_true rfl⟩ ⟨Nat.zero_le _, Nat.zero_le _⟩ rfl rfl (Nat.le_of_ble_eq_true rfl) hl.1 dX10_line_185) (fun H locs hW => ?_)
      exact b_X10_line_188 C hW (lv_sub hl [0] rfl) h
    · exact b_X10_line_172 C hW (lv_sub hl [0, 1] rfl) h
set_option maxRecDepth 20000 in
set_option maxHeartbeats 2000000 in
theorem b_X10_line_143 {a : Nat} {x1 : Int32} (C : Cx g RX10 cX10_line 2 none p s m args meth c) {r : Mx} {X : Mx} {y0 : Nat} {y1 : Int32} {y2 : Int32} (hW : Wd g σ X s H locs) (hl : lv_has ls 2 [(0, .ref a), (1, .int x1)]) (h : f_X10_line_143 σ a x1 X y0 y1 y2 = some r) : W p l e (rmZ 6 148) s m args below meth c H locs 0 0 (QV g σ below args s r) (F0 m 143 ls [.int y2, .int y1, .ref y0]) := by
  have hx := C.x
  have hb := C.b
  unfold f_X10_line_143 at h
  obtain ⟨v3, X2, h1, h⟩ := bnd2_inv h
  refine r_cI hW (run_V (rest := []) C hW (t_X10_begins h1) mk_X10_begins vk_X10_194 (kd_X10_begins h1) rfl rfl (by decide) ⟨Nat.le_of_ble_eq_true rfl, Nat.le_of_ble_eq_true rfl⟩ ⟨Nat.zero_le _, Nat.zero_le _⟩ rfl rfl (Nat.le_of_ble_eq_true rfl) hl.1 dX10_line_143) (fun H locs hW => ?_)
  refine r_br h (lv_if_eq (tgt := 188) hx hb dX10_line_146 (by decide)) (fun h => ?_) (fun h => ?_)
  · exact b_X10_line_188 C hW (lv_sub hl [0] rfl) h
  · refine lv_aload_n hx hb dX10_line_149 rfl (lv_at hl 0 rfl) ?_
    refine lv_iload_n hx hb dX10_line_150 rfl (lv_at hl 1 rfl) ?_
    refine lv_bipush (v := 6) hx hb dX10_line_151 (by decide) ?_
    refine lv_isub hx hb dX10_line_153 ?_
    obtain ⟨X5, h4, h⟩ := bnd_inv h
    refine r_cV hW (run_V (rest := []) C hW (t_X10_readsDemand h4) mk_X10_readsDemand vk_X10_204 (kd_X10_readsDemand h4) rfl rfl (by decide) ⟨Nat.le_of_ble_eq_true rfl, Nat.le_of_ble_eq_true rfl⟩ ⟨Nat.zero_le _, Nat.zero_le _⟩ rfl rfl (Nat.le_of_ble_eq_true rfl) hl.1 dX10_line_154) (fun H locs hW => ?_)
    refine lv_goto (tgt := 188) hx hb dX10_line_157 (by decide) ?_
    exact b_X10_line_188 C hW (lv_sub hl [0] rfl) h
set_option maxRecDepth 20000 in
set_option maxHeartbeats 2000000 in
theorem b_X10_line_126 {a : Nat} {x1 : Int32} (C : Cx g RX10 cX10_line 2 none p s m args meth c) {r : Mx} {X : Mx} {y0 : Nat} {y1 : Int32} (hW : Wd g σ X s H locs) (hl : lv_has ls 2 [(0, .ref a), (1, .int x1)]) (h : f_X10_line_126 σ a x1 X y0 y1 = some r) : W p l e (rmZ 6 148) s m args below meth c H locs 0 0 (QV g σ below args s r) (F0 m 126 ls [.int y1, .ref y0]) := by
  have hx := C.x
  have hb := C.b
  unfold f_X10_line_126 at h
  refine lv_aload_n hx hb dX10_line_126 rfl (lv_at hl 0 rfl) ?_
  refine r_gR C hW h fl_X10_20 (by decide) dX10_line_127 (fun b1 h => ?_)
  refine lv_sipush (v := 1531) hx hb dX10_line_130 (by decide) ?_
  refine r_iald C hW h dX10_line_133 (fun v2 h => ?_)
  refine lv_iconst (v := 4) hx hb dX10_line_134 (by decide) ?_
  refine r_brn h (lv_icmp_ne (tgt := 142) hx hb dX10_line_135 (by decide)) (fun h => ?_) (fun h => ?_)
  · refine lv_iconst (v := 0) hx hb dX10_line_142 (by decide) ?_
    exact b_X10_line_143 C hW (lv_sub hl [0, 1] rfl) h
  · refine lv_iconst (v := 1) hx hb dX10_line_138 (by decide) ?_
    refine lv_goto (tgt := 143) hx hb dX10_line_139 (by decide) ?_
    exact b_X10_line_143 C hW (lv_sub hl [0, 1] rfl) h
theorem kd_X10_line {X : Mx} {r : Mx} {a : Nat} (h : f_X10_line σ X a = some r) : shK σ a = 8 := (grd_inv h).1
set_option maxRecDepth 20000 in
set_option maxHeartbeats 2000000 in
theorem t_X10_line {X : Mx} {r : Mx} {a : Nat} (h : f_X10_line σ X a = some r) : MtV g l yX10_line cX10_line 2 none 6 148 [.ref a] σ X r := by
  refine met_of mk_X10_line (Nat.le_of_ble_eq_true rfl) (fun p e s m args below meth c ls C hW hl => ?_)
  have hx := C.x
  have hb := C.b
  have hl : lv_has ls 2 [(0, .ref a)] := hl
  unfold f_X10_line at h
  obtain ⟨hk0, h⟩ := grd_inv h
  refine lv_aload_n hx hb dX10_line_0 rfl (lv_at hl 0 rfl) ?_
  obtain ⟨v2, h1, h⟩ := bnd_inv h
  refine r_cI hW (run_V (rest := []) C hW (t_X10_knownWord h1) mk_X10_knownWord vk_X10_137 (kd_X10_knownWord h1) rfl rfl (by decide) ⟨Nat.le_of_ble_eq_true rfl, Nat.le_of_ble_eq_true rfl⟩ ⟨Nat.zero_le _, Nat.zero_le _⟩ rfl rfl (Nat.le_of_ble_eq_true rfl) hl.1 dX10_line_1) (fun H locs hW => ?_)
  refine lv_istore_n (lv' := [(1, .int v2), (0, .ref a)]) hx hb dX10_line_4 rfl hl (by decide) rfl (fun ls hl => ?_)
  refine lv_iload_n hx hb dX10_line_5 rfl (lv_at hl 0 rfl) ?_
  refine lv_iconst (v := 4) hx hb dX10_line_6 (by decide) ?_
  refine r_brn h (lv_icmp_ne (tgt := 56) hx hb dX10_line_7 (by decide)) (fun h => ?_) (fun h => ?_)
  · refine lv_iload_n hx hb dX10_line_56 rfl (lv_at hl 0 rfl) ?_
    refine lv_iconst (v := 5) hx hb dX10_line_57 (by decide) ?_
    refine r_brn h (lv_icmp_ne (tgt := 101) hx hb dX10_line_58 (by decide)) (fun h => ?_) (fun h => ?_)
    · refine lv_iload_n hx hb dX10_line_101 rfl (lv_at hl 0 rfl) ?_
      refine lv_bipush (v := 6) hx hb dX10_line_102 (by decide) ?_
      refine r_br h (lv_icmp_lt (tgt := 160) hx hb dX10_line_104 (by decide)) (fun h => ?_) (fun h => ?_)
      · exact b_X10_line_160 C hW (lv_sub hl [1, 0] rfl) h
      · refine lv_iload_n hx hb dX10_line_107 rfl (lv_at hl 0 rfl) ?_
        refine lv_bipush (v := 8) hx hb dX10_line_108 (by decide) ?_
        refine r_br h (lv_icmp_gt (tgt := 160) hx hb dX10_line_110 (by decide)) (fun h => ?_) (fun h => ?_)
        · exact b_X10_line_160 C hW (lv_sub hl [1, 0] rfl) h
        · refine lv_aload_n hx hb dX10_line_113 rfl (lv_at hl 1 rfl) ?_
          refine lv_aload_n hx hb dX10_line_114 rfl (lv_at hl 1 rfl) ?_
          refine r_gI C hW h fl_X10_184 (by decide) dX10_line_115 (fun v3 h => ?_)
          refine r_br h (lv_if_le (tgt := 125) hx hb dX10_line_118 (by decide)) (fun h => ?_) (fun h => ?_)
          · refine lv_iconst (v := 0) hx hb dX10_line_125 (by decide) ?_
            exact b_X10_line_126 C hW (lv_sub hl [1, 0] rfl) h
          · refine lv_iconst (v := 1) hx hb dX10_line_121 (by decide) ?_
            refine lv_goto (tgt := 126) hx hb dX10_line_122 (by decide) ?_
            exact b_X10_line_126 C hW (lv_sub hl [1, 0] rfl) h
    · refine lv_aload_n hx hb dX10_line_61 rfl (lv_at hl 1 rfl) ?_
      refine lv_aload_n hx hb dX10_line_62 rfl (lv_at hl 1 rfl) ?_
      refine r_gI C hW h fl_X10_184 (by decide) dX10_line_63 (fun v4 h => ?_)
      refine r_br h (lv_if_le (tgt := 73) hx hb dX10_line_66 (by decide)) (fun h => ?_) (fun h => ?_)
      · refine lv_iconst (v := 0) hx hb dX10_line_73 (by decide) ?_
        exact b_X10_line_74 C hW (lv_sub hl [1] rfl) h
      · refine lv_iconst (v := 1) hx hb dX10_line_69 (by decide) ?_
        refine lv_goto (tgt := 74) hx hb dX10_line_70 (by decide) ?_
        exact b_X10_line_74 C hW (lv_sub hl [1] rfl) h
  · refine lv_aload_n hx hb dX10_line_10 rfl (lv_at hl 1 rfl) ?_
    refine lv_aload_n hx hb dX10_line_11 rfl (lv_at hl 1 rfl) ?_
    refine r_gI C hW h fl_X10_178 (by decide) dX10_line_12 (fun v5 h => ?_)
    refine r_br h (lv_if_gt (tgt := 25) hx hb dX10_line_15 (by decide)) (fun h => ?_) (fun h => ?_)
    · exact b_X10_line_25 C hW (lv_sub hl [1] rfl) h
    · refine lv_aload_n hx hb dX10_line_18 rfl (lv_at hl 1 rfl) ?_
      refine r_gI C hW h fl_X10_184 (by decide) dX10_line_19 (fun v6 h => ?_)
      refine r_br h (lv_if_le (tgt := 29) hx hb dX10_line_22 (by decide)) (fun h => ?_) (fun h => ?_)
      · refine lv_iconst (v := 0) hx hb dX10_line_29 (by decide) ?_
        exact b_X10_line_30 C hW (lv_sub hl [1] rfl) h
      · exact b_X10_line_25 C hW (lv_sub hl [1] rfl) h
set_option maxRecDepth 20000 in
set_option maxHeartbeats 2000000 in
theorem b_X10_tables_102 {k74 : Mx → Int32 → Option (Int32 × Mx)} {a : Nat} {x2 : Int32} (C : Cx g RX10 cX10_tables 3 (some .int) p s m args meth c) {r : (Int32 × Mx)} {X : Mx} {y0 : Nat} {y1 : Int32} {y2 : Int32} (hk74 : ∀ {H' : Heap} {locs' : List Loc} {ls' : Array Slot} {X' : Mx} {x2' : Int32}, Wd g σ X' s H' locs' → lv_has ls' 3 [(0, .ref a), (2, .int x2')] → k74 X' x2' = some r → W p l e (rmZ 7 169) s m args below meth c H' locs' 0 0 (QI g σ below args s r) (F0 m 74 ls' [])) (hW : Wd g σ X s H locs) (hl : lv_has ls 3 [(0, .ref a), (2, .int x2)]) (h : f_X10_tables_102 k74 σ a x2 X y0 y1 y2 = some r) : W p l e (rmZ 7 169) s m args below meth c H locs 0 0 (QI g σ below args s r) (F0 m 102 ls [.int y2, .int y1, .ref y0]) := by
  have hx := C.x
  have hb := C.b
  unfold f_X10_tables_102 at h
  refine r_iast C hW h dX10_tables_102 (fun X1 H locs h hW => ?_)
  refine lv_iinc (v := (x2 + 1)) (lv' := [(2, .int (x2 + 1)), (0, .ref a)]) hx hb dX10_tables_103 hl (k := 1) rfl rfl (by decide) rfl (fun ls hl => ?_)
  refine lv_goto (tgt := 74) hx hb dX10_tables_106 (by decide) ?_
  exact hk74 hW (lv_sub hl [1, 0] rfl) h
set_option maxRecDepth 20000 in
set_option maxHeartbeats 2000000 in
theorem b_X10_tables_172 {a : Nat} (C : Cx g RX10 cX10_tables 3 (some .int) p s m args meth c) {r : (Int32 × Mx)} : ∀ (n : Nat) {X : Mx} {x2 : Int32} {H : Heap} {locs : List Loc} {ls : Array Slot} (hW : Wd g σ X s H locs) (hl : lv_has ls 3 [(0, .ref a), (2, .int x2)]) (h : f_X10_tables_172 σ a n X x2 = some r), W p l e (rmZ 7 169) s m args below meth c H locs 0 0 (QI g σ below args s r) (F0 m 172 ls []) := by
  have hx := C.x
  have hb := C.b
  intro n
  induction n with
  | zero =>
    intro X x2 H locs ls hW hl h
    cases (show none = some r from h)
  | succ n ih =>
    intro X x2 H locs ls hW hl h
    rw [f_X10_tables_172] at h
    refine lv_iload_n hx hb dX10_tables_172 rfl (lv_at hl 1 rfl) ?_
    refine lv_sipush (v := 931) hx hb dX10_tables_173 (by decide) ?_
    refine r_br h (lv_icmp_ge (tgt := 201) hx hb dX10_tables_176 (by decide)) (fun h => ?_) (fun h => ?_)
    · refine lv_aload_n hx hb dX10_tables_201 rfl (lv_at hl 0 rfl) ?_
      refine lv_iconst (v := 0) hx hb dX10_tables_202 (by decide) ?_
      refine r_pI C hW h pf_X10_221 (by decide) rfl rfl dX10_tables_203 (fun X1 H locs h hW => ?_)
      refine lv_aload_n hx hb dX10_tables_206 rfl (lv_at hl 0 rfl) ?_
      refine lv_iconst (v := 0) hx hb dX10_tables_207 (by decide) ?_
      refine r_pI C hW h pf_X10_224 (by decide) rfl rfl dX10_tables_208 (fun X2 H locs h hW => ?_)
      refine lv_aload_n hx hb dX10_tables_211 rfl (lv_at hl 0 rfl) ?_
      refine lv_iconst (v := 0) hx hb dX10_tables_212 (by decide) ?_
      refine r_pI C hW h pf_X10_227 (by decide) rfl rfl dX10_tables_213 (fun X3 H locs h hW => ?_)
      refine lv_iconst (v := 0) hx hb dX10_tables_216 (by decide) ?_
      exact r_iret C hW (Option.some.inj h).symm rfl dX10_tables_217
    · refine lv_aload_n hx hb dX10_tables_179 rfl (lv_at hl 0 rfl) ?_
      refine r_gR C hW h fl_X10_20 (by decide) dX10_tables_180 (fun b4 h => ?_)
      refine lv_iload_n hx hb dX10_tables_183 rfl (lv_at hl 1 rfl) ?_
      refine lv_aload_n hx hb dX10_tables_184 rfl (lv_at hl 0 rfl) ?_
      refine r_gR C hW h fl_X10_20 (by decide) dX10_tables_185 (fun b5 h => ?_)
      refine lv_sipush (v := 931) hx hb dX10_tables_188 (by decide) ?_
      refine lv_iload_n hx hb dX10_tables_191 rfl (lv_at hl 1 rfl) ?_
      refine lv_iadd hx hb dX10_tables_192 ?_
      refine r_iald C hW h dX10_tables_193 (fun v6 h => ?_)
      refine r_iast C hW h dX10_tables_194 (fun X7 H locs h hW => ?_)
      refine lv_iinc (v := (x2 + 1)) (lv' := [(2, .int (x2 + 1)), (0, .ref a)]) hx hb dX10_tables_195 hl (k := 1) rfl rfl (by decide) rfl (fun ls hl => ?_)
      refine lv_goto (tgt := 172) hx hb dX10_tables_198 (by decide) ?_
      exact ih hW (lv_sub hl [1, 0] rfl) h
set_option maxRecDepth 20000 in
set_option maxHeartbeats 2000000 in
theorem b_X10_tables_170 {a : Nat} (C : Cx g RX10 cX10_tables 3 (some .int) p s m args meth c) {r : (Int32 × Mx)} {X : Mx} (hW : Wd g σ X s H locs) (hl : lv_has ls 3 [(0, .ref a)]) (h : f_X10_tables_170 σ a X = some r) : W p l e (rmZ 7 169) s m args below meth c H locs 0 0 (QI g σ below args s r) (F0 m 170 ls []) := by
  have hx := C.x
  have hb := C.b
  unfold f_X10_tables_170 at h
  refine lv_iconst (v := 0) hx hb dX10_tables_170 (by decide) ?_
  refine lv_istore_n (lv' := [(2, .int 0), (0, .ref a)]) hx hb dX10_tables_171 rfl hl (by decide) rfl (fun ls hl => ?_)
  exact b_X10_tables_172 C FU hW (lv_sub hl [1, 0] rfl) h
set_option maxRecDepth 20000 in
set_option maxHeartbeats 2000000 in
theorem b_X10_tables_134 {a : Nat} (C : Cx g RX10 cX10_tables 3 (some .int) p s m args meth c) {r : (Int32 × Mx)} {X : Mx} (hW : Wd g σ X s H locs) (hl : lv_has ls 3 [(0, .ref a)]) (h : f_X10_tables_134 σ a X = some r) : W p l e (rmZ 7 169) s m args below meth c H locs 0 0 (QI g σ below args s r) (F0 m 134 ls []) := by
  have hx := C.x
  have hb := C.b
  unfold f_X10_tables_134 at h
  refine lv_aload_n hx hb dX10_tables_134 rfl (lv_at hl 0 rfl) ?_
  obtain ⟨v2, h1, h⟩ := bnd_inv h
  refine r_cI hW (run_V (rest := []) C hW (t_X10_isGood h1) mk_X10_isGood vk_X10_124 (kd_X10_isGood h1) rfl rfl (by decide) ⟨Nat.le_of_ble_eq_true rfl, Nat.le_of_ble_eq_true rfl⟩ ⟨Nat.zero_le _, Nat.zero_le _⟩ rfl rfl (Nat.le_of_ble_eq_true rfl) hl.1 dX10_tables_135) (fun H locs hW => ?_)
  refine r_brn h (lv_if_ne (tgt := 156) hx hb dX10_tables_138 (by decide)) (fun h => ?_) (fun h => ?_)
  · refine lv_aload_n hx hb dX10_tables_156 rfl (lv_at hl 0 rfl) ?_
    refine r_gI C hW h fl_X10_184 (by decide) dX10_tables_157 (fun v3 h => ?_)
    refine r_brn h (lv_if_ne (tgt := 170) hx hb dX10_tables_160 (by decide)) (fun h => ?_) (fun h => ?_)
    · exact b_X10_tables_170 C hW (lv_sub hl [0] rfl) h
    · refine lv_aload_n hx hb dX10_tables_163 rfl (lv_at hl 0 rfl) ?_
      refine lv_sipush (v := 931) hx hb dX10_tables_164 (by decide) ?_
      obtain ⟨X5, h4, h⟩ := bnd_inv h
      refine r_cV hW (run_V (rest := []) C hW (t_X10_sidesBegin h4) mk_X10_sidesBegin vk_X10_187 (kd_X10_sidesBegin h4) rfl rfl (by decide) ⟨Nat.le_of_ble_eq_true rfl, Nat.le_of_ble_eq_true rfl⟩ ⟨Nat.zero_le _, Nat.zero_le _⟩ rfl rfl (Nat.le_of_ble_eq_true rfl) hl.1 dX10_tables_167) (fun H locs hW => ?_)
      exact b_X10_tables_170 C hW (lv_sub hl [0] rfl) h
  · refine lv_aload_n hx hb dX10_tables_141 rfl (lv_at hl 0 rfl) ?_
    refine r_gR C hW h fl_X10_17 (by decide) dX10_tables_142 (fun b6 h => ?_)
    refine lv_iconst (v := 0) hx hb dX10_tables_145 (by decide) ?_
    refine lv_dup2_11 hx hb dX10_tables_146 rfl rfl ?_
    refine r_iald C hW h dX10_tables_147 (fun v7 h => ?_)
    refine lv_iconst (v := 1) hx hb dX10_tables_148 (by decide) ?_
    refine lv_iadd hx hb dX10_tables_149 ?_
    refine r_iast C hW h dX10_tables_150 (fun X8 H locs h hW => ?_)
    refine lv_aload_n hx hb dX10_tables_151 rfl (lv_at hl 0 rfl) ?_
    refine r_gI C hW h fl_X10_121 (by decide) dX10_tables_152 (fun v9 h => ?_)
    exact r_iret C hW (Option.some.inj h).symm rfl dX10_tables_155
set_option maxRecDepth 20000 in
set_option maxHeartbeats 2000000 in
theorem b_X10_tables_113 {a : Nat} (C : Cx g RX10 cX10_tables 3 (some .int) p s m args meth c) {r : (Int32 × Mx)} : ∀ (n : Nat) {X : Mx} {H : Heap} {locs : List Loc} {ls : Array Slot} (hW : Wd g σ X s H locs) (hl : lv_has ls 3 [(0, .ref a)]) (h : f_X10_tables_113 σ a n X = some r), W p l e (rmZ 7 169) s m args below meth c H locs 0 0 (QI g σ below args s r) (F0 m 113 ls []) := by
  have hx := C.x
  have hb := C.b
  intro n
  induction n with
  | zero =>
    intro X H locs ls hW hl h
    cases (show none = some r from h)
  | succ n ih =>
    intro X H locs ls hW hl h
    rw [f_X10_tables_113] at h
    refine lv_aload_n hx hb dX10_tables_113 rfl (lv_at hl 0 rfl) ?_
    obtain ⟨v2, h1, h⟩ := bnd_inv h
    refine r_cI hW (run_V (rest := []) C hW (t_X10_isGood h1) mk_X10_isGood vk_X10_124 (kd_X10_isGood h1) rfl rfl (by decide) ⟨Nat.le_of_ble_eq_true rfl, Nat.le_of_ble_eq_true rfl⟩ ⟨Nat.zero_le _, Nat.zero_le _⟩ rfl rfl (Nat.le_of_ble_eq_true rfl) hl.1 dX10_tables_114) (fun H locs hW => ?_)
    refine r_br h (lv_if_eq (tgt := 134) hx hb dX10_tables_117 (by decide)) (fun h => ?_) (fun h => ?_)
    · exact b_X10_tables_134 C hW (lv_sub hl [0] rfl) h
    · refine lv_aload_n hx hb dX10_tables_120 rfl (lv_at hl 0 rfl) ?_
      refine r_gI C hW h fl_X10_98 (by decide) dX10_tables_121 (fun v3 h => ?_)
      refine r_br h (lv_if_eq (tgt := 134) hx hb dX10_tables_124 (by decide)) (fun h => ?_) (fun h => ?_)
      · exact b_X10_tables_134 C hW (lv_sub hl [0] rfl) h
      · refine lv_aload_n hx hb dX10_tables_127 rfl (lv_at hl 0 rfl) ?_
        obtain ⟨X5, h4, h⟩ := bnd_inv h
        refine r_cV hW (run_V (rest := []) C hW (t_X10_line h4) mk_X10_line vk_X10_218 (kd_X10_line h4) rfl rfl (by decide) ⟨Nat.le_of_ble_eq_true rfl, Nat.le_of_ble_eq_true rfl⟩ ⟨Nat.zero_le _, Nat.zero_le _⟩ rfl rfl (Nat.le_of_ble_eq_true rfl) hl.1 dX10_tables_128) (fun H locs hW => ?_)
        refine lv_goto (tgt := 113) hx hb dX10_tables_131 (by decide) ?_
        exact ih hW (lv_sub hl [0] rfl) h
set_option maxRecDepth 20000 in
set_option maxHeartbeats 2000000 in
theorem b_X10_tables_74 {a : Nat} (C : Cx g RX10 cX10_tables 3 (some .int) p s m args meth c) {r : (Int32 × Mx)} : ∀ (n : Nat) {X : Mx} {x2 : Int32} {H : Heap} {locs : List Loc} {ls : Array Slot} (hW : Wd g σ X s H locs) (hl : lv_has ls 3 [(0, .ref a), (2, .int x2)]) (h : f_X10_tables_74 σ a n X x2 = some r), W p l e (rmZ 7 169) s m args below meth c H locs 0 0 (QI g σ below args s r) (F0 m 74 ls []) := by
  have hx := C.x
  have hb := C.b
  intro n
  induction n with
  | zero =>
    intro X x2 H locs ls hW hl h
    cases (show none = some r from h)
  | succ n ih =>
    intro X x2 H locs ls hW hl h
    rw [f_X10_tables_74] at h
    refine lv_iload_n hx hb dX10_tables_74 rfl (lv_at hl 1 rfl) ?_
    refine lv_sipush (v := 931) hx hb dX10_tables_75 (by decide) ?_
    refine r_br h (lv_icmp_ge (tgt := 109) hx hb dX10_tables_78 (by decide)) (fun h => ?_) (fun h => ?_)
    · refine lv_aload_n hx hb dX10_tables_109 rfl (lv_at hl 0 rfl) ?_
      obtain ⟨X2, h1, h⟩ := bnd_inv h
      refine r_cV hW (run_V (rest := []) C hW (t_X10_goes h1) mk_X10_goes vk_X10_128 (kd_X10_goes h1) rfl rfl (by decide) ⟨Nat.le_of_ble_eq_true rfl, Nat.le_of_ble_eq_true rfl⟩ ⟨Nat.zero_le _, Nat.zero_le _⟩ rfl rfl (Nat.le_of_ble_eq_true rfl) hl.1 dX10_tables_110) (fun H locs hW => ?_)
      exact b_X10_tables_113 C FU hW (lv_sub hl [0] rfl) h
    · refine lv_aload_n hx hb dX10_tables_81 rfl (lv_at hl 0 rfl) ?_
      refine r_gR C hW h fl_X10_20 (by decide) dX10_tables_82 (fun b3 h => ?_)
      refine lv_sipush (v := 931) hx hb dX10_tables_85 (by decide) ?_
      refine lv_iload_n hx hb dX10_tables_88 rfl (lv_at hl 1 rfl) ?_
      refine lv_iadd hx hb dX10_tables_89 ?_
      refine lv_iload_n hx hb dX10_tables_90 rfl (lv_at hl 1 rfl) ?_
      refine lv_sipush (v := 615) hx hb dX10_tables_91 (by decide) ?_
      refine r_br h (lv_icmp_lt (tgt := 101) hx hb dX10_tables_94 (by decide)) (fun h => ?_) (fun h => ?_)
      · refine lv_iconst (v := 0) hx hb dX10_tables_101 (by decide) ?_
        exact b_X10_tables_102 C (fun hW hl h => ih hW hl h) hW (lv_sub hl [0, 1] rfl) h
      · refine lv_iconst (v := (-1)) hx hb dX10_tables_97 (by decide) ?_
        refine lv_goto (tgt := 102) hx hb dX10_tables_98 (by decide) ?_
        exact b_X10_tables_102 C (fun hW hl h => ih hW hl h) hW (lv_sub hl [0, 1] rfl) h
set_option maxRecDepth 20000 in
set_option maxHeartbeats 2000000 in
theorem b_X10_tables_23 {a : Nat} {x1 : Int32} (C : Cx g RX10 cX10_tables 3 (some .int) p s m args meth c) {r : (Int32 × Mx)} {X : Mx} {y0 : Nat} {y1 : Int32} (hW : Wd g σ X s H locs) (hl : lv_has ls 3 [(0, .ref a), (1, .int x1)]) (h : f_X10_tables_23 σ a x1 X y0 y1 = some r) : W p l e (rmZ 7 169) s m args below meth c H locs 0 0 (QI g σ below args s r) (F0 m 23 ls [.int y1, .ref y0]) := by
  have hx := C.x
  have hb := C.b
  unfold f_X10_tables_23 at h
  refine lv_iconst (v := 1) hx hb dX10_tables_23 (by decide) ?_
  obtain ⟨v3, X2, h1, h⟩ := bnd2_inv h
  refine r_cI hW (run_V (rest := []) C hW (t_X10_right h1) mk_X10_right vk_X10_214 (kd_X10_right h1) rfl rfl (by decide) ⟨Nat.le_of_ble_eq_true rfl, Nat.le_of_ble_eq_true rfl⟩ ⟨Nat.zero_le _, Nat.zero_le _⟩ rfl rfl (Nat.le_of_ble_eq_true rfl) hl.1 dX10_tables_24) (fun H locs hW => ?_)
  refine r_brn h (lv_if_ne (tgt := 32) hx hb dX10_tables_27 (by decide)) (fun h => ?_) (fun h => ?_)
  · refine lv_aload_n hx hb dX10_tables_32 rfl (lv_at hl 0 rfl) ?_
    refine lv_iconst (v := 0) hx hb dX10_tables_33 (by decide) ?_
    refine r_pI C hW h pf_X10_68 (by decide) rfl rfl dX10_tables_34 (fun X4 H locs h hW => ?_)
    refine lv_aload_n hx hb dX10_tables_37 rfl (lv_at hl 0 rfl) ?_
    refine lv_iconst (v := (-1)) hx hb dX10_tables_38 (by decide) ?_
    refine r_pI C hW h pf_X10_13 (by decide) rfl rfl dX10_tables_39 (fun X5 H locs h hW => ?_)
    refine lv_aload_n hx hb dX10_tables_42 rfl (lv_at hl 0 rfl) ?_
    refine lv_iconst (v := 0) hx hb dX10_tables_43 (by decide) ?_
    refine r_pI C hW h pf_X10_121 (by decide) rfl rfl dX10_tables_44 (fun X6 H locs h hW => ?_)
    refine lv_aload_n hx hb dX10_tables_47 rfl (lv_at hl 0 rfl) ?_
    refine lv_iload_n hx hb dX10_tables_48 rfl (lv_at hl 1 rfl) ?_
    refine r_pI C hW h pf_X10_75 (by decide) rfl rfl dX10_tables_49 (fun X7 H locs h hW => ?_)
    refine lv_aload_n hx hb dX10_tables_52 rfl (lv_at hl 0 rfl) ?_
    refine lv_iconst (v := 0) hx hb dX10_tables_53 (by decide) ?_
    refine r_pI C hW h pf_X10_78 (by decide) rfl rfl dX10_tables_54 (fun X8 H locs h hW => ?_)
    refine lv_aload_n hx hb dX10_tables_57 rfl (lv_at hl 0 rfl) ?_
    refine lv_iconst (v := 0) hx hb dX10_tables_58 (by decide) ?_
    refine r_pI C hW h pf_X10_147 (by decide) rfl rfl dX10_tables_59 (fun X9 H locs h hW => ?_)
    refine lv_aload_n hx hb dX10_tables_62 rfl (lv_at hl 0 rfl) ?_
    refine lv_iconst (v := 0) hx hb dX10_tables_63 (by decide) ?_
    refine r_pI C hW h pf_X10_178 (by decide) rfl rfl dX10_tables_64 (fun X10 H locs h hW => ?_)
    refine lv_aload_n hx hb dX10_tables_67 rfl (lv_at hl 0 rfl) ?_
    refine lv_iconst (v := 0) hx hb dX10_tables_68 (by decide) ?_
    refine r_pI C hW h pf_X10_184 (by decide) rfl rfl dX10_tables_69 (fun X11 H locs h hW => ?_)
    refine lv_iconst (v := 0) hx hb dX10_tables_72 (by decide) ?_
    refine lv_istore_n (lv' := [(2, .int 0), (0, .ref a), (1, .int x1)]) hx hb dX10_tables_73 rfl hl (by decide) rfl (fun ls hl => ?_)
    exact b_X10_tables_74 C FU hW (lv_sub hl [1, 0] rfl) h
  · refine lv_iconst (v := 0) hx hb dX10_tables_30 (by decide) ?_
    exact r_iret C hW (Option.some.inj h).symm rfl dX10_tables_31
set_option maxRecDepth 20000 in
set_option maxHeartbeats 2000000 in
theorem b_X10_tables_22 {a : Nat} {x1 : Int32} (C : Cx g RX10 cX10_tables 3 (some .int) p s m args meth c) {r : (Int32 × Mx)} {X : Mx} {y0 : Nat} (hW : Wd g σ X s H locs) (hl : lv_has ls 3 [(0, .ref a), (1, .int x1)]) (h : f_X10_tables_22 σ a x1 X y0 = some r) : W p l e (rmZ 7 169) s m args below meth c H locs 0 0 (QI g σ below args s r) (F0 m 22 ls [.ref y0]) := by
  have hx := C.x
  have hb := C.b
  unfold f_X10_tables_22 at h
  refine lv_iconst (v := 0) hx hb dX10_tables_22 (by decide) ?_
  exact b_X10_tables_23 C hW (lv_sub hl [0, 1] rfl) h
theorem kd_X10_tables {X : Mx} {r : (Int32 × Mx)} {a : Nat} {x1 : Int32} (h : f_X10_tables σ X a x1 = some r) : shK σ a = 8 := (grd_inv h).1
set_option maxRecDepth 20000 in
set_option maxHeartbeats 2000000 in
theorem t_X10_tables {X : Mx} {r : (Int32 × Mx)} {a : Nat} {x1 : Int32} (h : f_X10_tables σ X a x1 = some r) : MtI g l yX10_tables cX10_tables 3 (some .int) 7 169 [.ref a, .int x1] σ X r := by
  refine met_of mk_X10_tables (Nat.le_of_ble_eq_true rfl) (fun p e s m args below meth c ls C hW hl => ?_)
  have hx := C.x
  have hb := C.b
  have hl : lv_has ls 3 [(0, .ref a), (1, .int x1)] := hl
  unfold f_X10_tables at h
  obtain ⟨hk0, h⟩ := grd_inv h
  refine lv_aload_n hx hb dX10_tables_0 rfl (lv_at hl 0 rfl) ?_
  refine lv_iconst (v := 0) hx hb dX10_tables_1 (by decide) ?_
  refine r_pI C hW h pf_X10_65 (by decide) rfl rfl dX10_tables_2 (fun X1 H locs h hW => ?_)
  refine lv_aload_n hx hb dX10_tables_5 rfl (lv_at hl 0 rfl) ?_
  refine lv_iload_n hx hb dX10_tables_6 rfl (lv_at hl 1 rfl) ?_
  refine r_br h (lv_if_lt (tgt := 22) hx hb dX10_tables_7 (by decide)) (fun h => ?_) (fun h => ?_)
  · exact b_X10_tables_22 C hW (lv_sub hl [0, 1] rfl) h
  · refine lv_iload_n hx hb dX10_tables_10 rfl (lv_at hl 1 rfl) ?_
    refine lv_aload_n hx hb dX10_tables_11 rfl (lv_at hl 0 rfl) ?_
    refine r_gI C hW h fl_X10_68 (by decide) dX10_tables_12 (fun v2 h => ?_)
    refine r_br h (lv_icmp_gt (tgt := 22) hx hb dX10_tables_15 (by decide)) (fun h => ?_) (fun h => ?_)
    · exact b_X10_tables_22 C hW (lv_sub hl [0, 1] rfl) h
    · refine lv_iconst (v := 1) hx hb dX10_tables_18 (by decide) ?_
      refine lv_goto (tgt := 23) hx hb dX10_tables_19 (by decide) ?_
      exact b_X10_tables_23 C hW (lv_sub hl [0, 1] rfl) h
theorem kd_X10_fault {X : Mx} {r : (Int32 × Mx)} {a : Nat} (h : f_X10_fault σ X a = some r) : shK σ a = 8 := (grd_inv h).1
set_option maxRecDepth 20000 in
set_option maxHeartbeats 2000000 in
theorem t_X10_fault {X : Mx} {r : (Int32 × Mx)} {a : Nat} (h : f_X10_fault σ X a = some r) : MtI g l yX10_fault cX10_fault 1 (some .int) 0 0 [.ref a] σ X r := by
  refine met_of mk_X10_fault (Nat.le_of_ble_eq_true rfl) (fun p e s m args below meth c ls C hW hl => ?_)
  have hx := C.x
  have hb := C.b
  have hl : lv_has ls 1 [(0, .ref a)] := hl
  unfold f_X10_fault at h
  obtain ⟨hk0, h⟩ := grd_inv h
  refine lv_aload_n hx hb dX10_fault_0 rfl (lv_at hl 0 rfl) ?_
  refine lv_iconst (v := 0) hx hb dX10_fault_1 (by decide) ?_
  refine r_pI C hW h pf_X10_65 (by decide) rfl rfl dX10_fault_2 (fun X1 H locs h hW => ?_)
  refine lv_aload_n hx hb dX10_fault_5 rfl (lv_at hl 0 rfl) ?_
  refine r_gI C hW h fl_X10_13 (by decide) dX10_fault_6 (fun v2 h => ?_)
  exact r_iret C hW (Option.some.inj h).symm rfl dX10_fault_9
set_option maxRecDepth 20000 in
set_option maxHeartbeats 2000000 in
theorem b_X10_keeps_54 {a : Nat} (C : Cx g RX10 cX10_keeps 2 none p s m args meth c) {r : Mx} : ∀ (n : Nat) {X : Mx} {x1 : Int32} {H : Heap} {locs : List Loc} {ls : Array Slot} (hW : Wd g σ X s H locs) (hl : lv_has ls 2 [(0, .ref a), (1, .int x1)]) (h : f_X10_keeps_54 σ a n X x1 = some r), W p l e (rmZ 0 0) s m args below meth c H locs 0 0 (QV g σ below args s r) (F0 m 54 ls []) := by
  have hx := C.x
  have hb := C.b
  intro n
  induction n with
  | zero =>
    intro X x1 H locs ls hW hl h
    cases (show none = some r from h)
  | succ n ih =>
    intro X x1 H locs ls hW hl h
    rw [f_X10_keeps_54] at h
    refine lv_iload_n hx hb dX10_keeps_54 rfl (lv_at hl 1 rfl) ?_
    refine lv_sipush (v := 931) hx hb dX10_keeps_55 (by decide) ?_
    refine r_br h (lv_icmp_ge (tgt := 88) hx hb dX10_keeps_58 (by decide)) (fun h => ?_) (fun h => ?_)
    · refine lv_aload_n hx hb dX10_keeps_88 rfl (lv_at hl 0 rfl) ?_
      refine lv_dup hx hb dX10_keeps_89 rfl ?_
      refine r_gI C hW h fl_X10_221 (by decide) dX10_keeps_90 (fun v1 h => ?_)
      refine lv_iconst (v := 1) hx hb dX10_keeps_93 (by decide) ?_
      refine lv_iadd hx hb dX10_keeps_94 ?_
      refine r_pI C hW h pf_X10_221 (by decide) rfl rfl dX10_keeps_95 (fun X2 H locs h hW => ?_)
      exact r_vret C hW (Option.some.inj h).symm dX10_keeps_98
    · refine lv_aload_n hx hb dX10_keeps_61 rfl (lv_at hl 0 rfl) ?_
      refine r_gR C hW h fl_X10_23 (by decide) dX10_keeps_62 (fun b3 h => ?_)
      refine lv_sipush (v := 931) hx hb dX10_keeps_65 (by decide) ?_
      refine lv_aload_n hx hb dX10_keeps_68 rfl (lv_at hl 0 rfl) ?_
      refine r_gI C hW h fl_X10_221 (by decide) dX10_keeps_69 (fun v4 h => ?_)
      refine lv_imul hx hb dX10_keeps_72 ?_
      refine lv_iload_n hx hb dX10_keeps_73 rfl (lv_at hl 1 rfl) ?_
      refine lv_iadd hx hb dX10_keeps_74 ?_
      refine lv_aload_n hx hb dX10_keeps_75 rfl (lv_at hl 0 rfl) ?_
      refine r_gR C hW h fl_X10_20 (by decide) dX10_keeps_76 (fun b5 h => ?_)
      refine lv_iload_n hx hb dX10_keeps_79 rfl (lv_at hl 1 rfl) ?_
      refine r_iald C hW h dX10_keeps_80 (fun v6 h => ?_)
      refine r_iast C hW h dX10_keeps_81 (fun X7 H locs h hW => ?_)
      refine lv_iinc (v := (x1 + 1)) (lv' := [(1, .int (x1 + 1)), (0, .ref a)]) hx hb dX10_keeps_82 hl (k := 1) rfl rfl (by decide) rfl (fun ls hl => ?_)
      refine lv_goto (tgt := 54) hx hb dX10_keeps_85 (by decide) ?_
      exact ih hW (lv_sub hl [1, 0] rfl) h
set_option maxRecDepth 20000 in
set_option maxHeartbeats 2000000 in
theorem b_X10_keeps_52 {a : Nat} (C : Cx g RX10 cX10_keeps 2 none p s m args meth c) {r : Mx} {X : Mx} (hW : Wd g σ X s H locs) (hl : lv_has ls 2 [(0, .ref a)]) (h : f_X10_keeps_52 σ a X = some r) : W p l e (rmZ 0 0) s m args below meth c H locs 0 0 (QV g σ below args s r) (F0 m 52 ls []) := by
  have hx := C.x
  have hb := C.b
  unfold f_X10_keeps_52 at h
  refine lv_iconst (v := 0) hx hb dX10_keeps_52 (by decide) ?_
  refine lv_istore_n (lv' := [(1, .int 0), (0, .ref a)]) hx hb dX10_keeps_53 rfl hl (by decide) rfl (fun ls hl => ?_)
  exact b_X10_keeps_54 C FU hW (lv_sub hl [1, 0] rfl) h
set_option maxRecDepth 20000 in
set_option maxHeartbeats 2000000 in
theorem b_X10_keeps_13 {a : Nat} (C : Cx g RX10 cX10_keeps 2 none p s m args meth c) {r : Mx} : ∀ (n : Nat) {X : Mx} {x1 : Int32} {H : Heap} {locs : List Loc} {ls : Array Slot} (hW : Wd g σ X s H locs) (hl : lv_has ls 2 [(0, .ref a), (1, .int x1)]) (h : f_X10_keeps_13 σ a n X x1 = some r), W p l e (rmZ 0 0) s m args below meth c H locs 0 0 (QV g σ below args s r) (F0 m 13 ls []) := by
  have hx := C.x
  have hb := C.b
  intro n
  induction n with
  | zero =>
    intro X x1 H locs ls hW hl h
    cases (show none = some r from h)
  | succ n ih =>
    intro X x1 H locs ls hW hl h
    rw [f_X10_keeps_13] at h
    refine lv_iload_n hx hb dX10_keeps_13 rfl (lv_at hl 1 rfl) ?_
    refine lv_sipush (v := 27930) hx hb dX10_keeps_14 (by decide) ?_
    refine r_br h (lv_icmp_ge (tgt := 42) hx hb dX10_keeps_17 (by decide)) (fun h => ?_) (fun h => ?_)
    · refine lv_aload_n hx hb dX10_keeps_42 rfl (lv_at hl 0 rfl) ?_
      refine lv_dup hx hb dX10_keeps_43 rfl ?_
      refine r_gI C hW h fl_X10_221 (by decide) dX10_keeps_44 (fun v1 h => ?_)
      refine lv_iconst (v := 1) hx hb dX10_keeps_47 (by decide) ?_
      refine lv_isub hx hb dX10_keeps_48 ?_
      refine r_pI C hW h pf_X10_221 (by decide) rfl rfl dX10_keeps_49 (fun X2 H locs h hW => ?_)
      exact b_X10_keeps_52 C hW (lv_sub hl [0] rfl) h
    · refine lv_aload_n hx hb dX10_keeps_20 rfl (lv_at hl 0 rfl) ?_
      refine r_gR C hW h fl_X10_23 (by decide) dX10_keeps_21 (fun b3 h => ?_)
      refine lv_iload_n hx hb dX10_keeps_24 rfl (lv_at hl 1 rfl) ?_
      refine lv_sipush (v := 931) hx hb dX10_keeps_25 (by decide) ?_
      refine lv_isub hx hb dX10_keeps_28 ?_
      refine lv_aload_n hx hb dX10_keeps_29 rfl (lv_at hl 0 rfl) ?_
      refine r_gR C hW h fl_X10_23 (by decide) dX10_keeps_30 (fun b4 h => ?_)
      refine lv_iload_n hx hb dX10_keeps_33 rfl (lv_at hl 1 rfl) ?_
      refine r_iald C hW h dX10_keeps_34 (fun v5 h => ?_)
      refine r_iast C hW h dX10_keeps_35 (fun X6 H locs h hW => ?_)
      refine lv_iinc (v := (x1 + 1)) (lv' := [(1, .int (x1 + 1)), (0, .ref a)]) hx hb dX10_keeps_36 hl (k := 1) rfl rfl (by decide) rfl (fun ls hl => ?_)
      refine lv_goto (tgt := 13) hx hb dX10_keeps_39 (by decide) ?_
      exact ih hW (lv_sub hl [1, 0] rfl) h
theorem kd_X10_keeps {X : Mx} {r : Mx} {a : Nat} (h : f_X10_keeps σ X a = some r) : shK σ a = 8 := (grd_inv h).1
set_option maxRecDepth 20000 in
set_option maxHeartbeats 2000000 in
theorem t_X10_keeps {X : Mx} {r : Mx} {a : Nat} (h : f_X10_keeps σ X a = some r) : MtV g l yX10_keeps cX10_keeps 2 none 0 0 [.ref a] σ X r := by
  refine met_of mk_X10_keeps (Nat.le_of_ble_eq_true rfl) (fun p e s m args below meth c ls C hW hl => ?_)
  have hx := C.x
  have hb := C.b
  have hl : lv_has ls 2 [(0, .ref a)] := hl
  unfold f_X10_keeps at h
  obtain ⟨hk0, h⟩ := grd_inv h
  refine lv_aload_n hx hb dX10_keeps_0 rfl (lv_at hl 0 rfl) ?_
  refine r_gI C hW h fl_X10_221 (by decide) dX10_keeps_1 (fun v1 h => ?_)
  refine lv_bipush (v := 30) hx hb dX10_keeps_4 (by decide) ?_
  refine r_brn h (lv_icmp_ne (tgt := 52) hx hb dX10_keeps_6 (by decide)) (fun h => ?_) (fun h => ?_)
  · exact b_X10_keeps_52 C hW (lv_sub hl [0] rfl) h
  · refine lv_sipush (v := 931) hx hb dX10_keeps_9 (by decide) ?_
    refine lv_istore_n (lv' := [(1, .int 931), (0, .ref a)]) hx hb dX10_keeps_12 rfl hl (by decide) rfl (fun ls hl => ?_)
    exact b_X10_keeps_13 C FU hW (lv_sub hl [1, 0] rfl) h
theorem kd_X10_refuses {X : Mx} {r : (Int32 × Mx)} {a : Nat} {x1 : Int32} (h : f_X10_refuses σ X a x1 = some r) : shK σ a = 8 := (grd_inv h).1
set_option maxRecDepth 20000 in
set_option maxHeartbeats 2000000 in
theorem t_X10_refuses {X : Mx} {r : (Int32 × Mx)} {a : Nat} {x1 : Int32} (h : f_X10_refuses σ X a x1 = some r) : MtI g l yX10_refuses cX10_refuses 2 (some .int) 0 0 [.ref a, .int x1] σ X r := by
  refine met_of mk_X10_refuses (Nat.le_of_ble_eq_true rfl) (fun p e s m args below meth c ls C hW hl => ?_)
  have hx := C.x
  have hb := C.b
  have hl : lv_has ls 2 [(0, .ref a), (1, .int x1)] := hl
  unfold f_X10_refuses at h
  obtain ⟨hk0, h⟩ := grd_inv h
  refine lv_aload_n hx hb dX10_refuses_0 rfl (lv_at hl 0 rfl) ?_
  refine r_gR C hW h fl_X10_17 (by decide) dX10_refuses_1 (fun b1 h => ?_)
  refine lv_iload_n hx hb dX10_refuses_4 rfl (lv_at hl 1 rfl) ?_
  refine lv_dup2_11 hx hb dX10_refuses_5 rfl rfl ?_
  refine r_iald C hW h dX10_refuses_6 (fun v2 h => ?_)
  refine lv_iconst (v := 1) hx hb dX10_refuses_7 (by decide) ?_
  refine lv_iadd hx hb dX10_refuses_8 ?_
  refine r_iast C hW h dX10_refuses_9 (fun X3 H locs h hW => ?_)
  refine lv_iconst (v := (-1)) hx hb dX10_refuses_10 (by decide) ?_
  exact r_iret C hW (Option.some.inj h).symm rfl dX10_refuses_11
set_option maxRecDepth 20000 in
set_option maxHeartbeats 2000000 in
theorem b_X10_undo_26 {a : Nat} (C : Cx g RX10 cX10_undo 2 (some .int) p s m args meth c) {r : (Int32 × Mx)} : ∀ (n : Nat) {X : Mx} {x1 : Int32} {H : Heap} {locs : List Loc} {ls : Array Slot} (hW : Wd g σ X s H locs) (hl : lv_has ls 2 [(0, .ref a), (1, .int x1)]) (h : f_X10_undo_26 σ a n X x1 = some r), W p l e (rmZ 0 0) s m args below meth c H locs 0 0 (QI g σ below args s r) (F0 m 26 ls []) := by
  have hx := C.x
  have hb := C.b
  intro n
  induction n with
  | zero =>
    intro X x1 H locs ls hW hl h
    cases (show none = some r from h)
  | succ n ih =>
    intro X x1 H locs ls hW hl h
    rw [f_X10_undo_26] at h
    refine lv_iload_n hx hb dX10_undo_26 rfl (lv_at hl 1 rfl) ?_
    refine lv_sipush (v := 931) hx hb dX10_undo_27 (by decide) ?_
    refine r_br h (lv_icmp_ge (tgt := 60) hx hb dX10_undo_30 (by decide)) (fun h => ?_) (fun h => ?_)
    · refine lv_aload_n hx hb dX10_undo_60 rfl (lv_at hl 0 rfl) ?_
      refine r_gI C hW h fl_X10_221 (by decide) dX10_undo_61 (fun v1 h => ?_)
      exact r_iret C hW (Option.some.inj h).symm rfl dX10_undo_64
    · refine lv_aload_n hx hb dX10_undo_33 rfl (lv_at hl 0 rfl) ?_
      refine r_gR C hW h fl_X10_20 (by decide) dX10_undo_34 (fun b2 h => ?_)
      refine lv_iload_n hx hb dX10_undo_37 rfl (lv_at hl 1 rfl) ?_
      refine lv_aload_n hx hb dX10_undo_38 rfl (lv_at hl 0 rfl) ?_
      refine r_gR C hW h fl_X10_23 (by decide) dX10_undo_39 (fun b3 h => ?_)
      refine lv_sipush (v := 931) hx hb dX10_undo_42 (by decide) ?_
      refine lv_aload_n hx hb dX10_undo_45 rfl (lv_at hl 0 rfl) ?_
      refine r_gI C hW h fl_X10_221 (by decide) dX10_undo_46 (fun v4 h => ?_)
      refine lv_imul hx hb dX10_undo_49 ?_
      refine lv_iload_n hx hb dX10_undo_50 rfl (lv_at hl 1 rfl) ?_
      refine lv_iadd hx hb dX10_undo_51 ?_
      refine r_iald C hW h dX10_undo_52 (fun v5 h => ?_)
      refine r_iast C hW h dX10_undo_53 (fun X6 H locs h hW => ?_)
      refine lv_iinc (v := (x1 + 1)) (lv' := [(1, .int (x1 + 1)), (0, .ref a)]) hx hb dX10_undo_54 hl (k := 1) rfl rfl (by decide) rfl (fun ls hl => ?_)
      refine lv_goto (tgt := 26) hx hb dX10_undo_57 (by decide) ?_
      exact ih hW (lv_sub hl [1, 0] rfl) h
theorem kd_X10_undo {X : Mx} {r : (Int32 × Mx)} {a : Nat} (h : f_X10_undo σ X a = some r) : shK σ a = 8 := (grd_inv h).1
set_option maxRecDepth 20000 in
set_option maxHeartbeats 2000000 in
theorem t_X10_undo {X : Mx} {r : (Int32 × Mx)} {a : Nat} (h : f_X10_undo σ X a = some r) : MtI g l yX10_undo cX10_undo 2 (some .int) 0 0 [.ref a] σ X r := by
  refine met_of mk_X10_undo (Nat.le_of_ble_eq_true rfl) (fun p e s m args below meth c ls C hW hl => ?_)
  have hx := C.x
  have hb := C.b
  have hl : lv_has ls 2 [(0, .ref a)] := hl
  unfold f_X10_undo at h
  obtain ⟨hk0, h⟩ := grd_inv h
  refine lv_aload_n hx hb dX10_undo_0 rfl (lv_at hl 0 rfl) ?_
  refine lv_iconst (v := 0) hx hb dX10_undo_1 (by decide) ?_
  refine r_pI C hW h pf_X10_65 (by decide) rfl rfl dX10_undo_2 (fun X1 H locs h hW => ?_)
  refine lv_aload_n hx hb dX10_undo_5 rfl (lv_at hl 0 rfl) ?_
  refine r_gI C hW h fl_X10_221 (by decide) dX10_undo_6 (fun v2 h => ?_)
  refine r_brn h (lv_if_ne (tgt := 14) hx hb dX10_undo_9 (by decide)) (fun h => ?_) (fun h => ?_)
  · refine lv_aload_n hx hb dX10_undo_14 rfl (lv_at hl 0 rfl) ?_
    refine lv_dup hx hb dX10_undo_15 rfl ?_
    refine r_gI C hW h fl_X10_221 (by decide) dX10_undo_16 (fun v3 h => ?_)
    refine lv_iconst (v := 1) hx hb dX10_undo_19 (by decide) ?_
    refine lv_isub hx hb dX10_undo_20 ?_
    refine r_pI C hW h pf_X10_221 (by decide) rfl rfl dX10_undo_21 (fun X4 H locs h hW => ?_)
    refine lv_iconst (v := 0) hx hb dX10_undo_24 (by decide) ?_
    refine lv_istore_n (lv' := [(1, .int 0), (0, .ref a)]) hx hb dX10_undo_25 rfl hl (by decide) rfl (fun ls hl => ?_)
    exact b_X10_undo_26 C FU hW (lv_sub hl [1, 0] rfl) h
  · refine lv_iconst (v := (-1)) hx hb dX10_undo_12 (by decide) ?_
    exact r_iret C hW (Option.some.inj h).symm rfl dX10_undo_13
set_option maxRecDepth 20000 in
set_option maxHeartbeats 2000000 in
theorem b_X10_tries_2 {a : Nat} (C : Cx g RX10 cX10_tries 2 none p s m args meth c) {r : Mx} : ∀ (n : Nat) {X : Mx} {x1 : Int32} {H : Heap} {locs : List Loc} {ls : Array Slot} (hW : Wd g σ X s H locs) (hl : lv_has ls 2 [(0, .ref a), (1, .int x1)]) (h : f_X10_tries_2 σ a n X x1 = some r), W p l e (rmZ 0 0) s m args below meth c H locs 0 0 (QV g σ below args s r) (F0 m 2 ls []) := by
  have hx := C.x
  have hb := C.b
  intro n
  induction n with
  | zero =>
    intro X x1 H locs ls hW hl h
    cases (show none = some r from h)
  | succ n ih =>
    intro X x1 H locs ls hW hl h
    rw [f_X10_tries_2] at h
    refine lv_iload_n hx hb dX10_tries_2 rfl (lv_at hl 1 rfl) ?_
    refine lv_sipush (v := 931) hx hb dX10_tries_3 (by decide) ?_
    refine r_br h (lv_icmp_ge (tgt := 31) hx hb dX10_tries_6 (by decide)) (fun h => ?_) (fun h => ?_)
    · exact r_vret C hW (Option.some.inj h).symm dX10_tries_31
    · refine lv_aload_n hx hb dX10_tries_9 rfl (lv_at hl 0 rfl) ?_
      refine r_gR C hW h fl_X10_20 (by decide) dX10_tries_10 (fun b1 h => ?_)
      refine lv_sipush (v := 931) hx hb dX10_tries_13 (by decide) ?_
      refine lv_iload_n hx hb dX10_tries_16 rfl (lv_at hl 1 rfl) ?_
      refine lv_iadd hx hb dX10_tries_17 ?_
      refine lv_aload_n hx hb dX10_tries_18 rfl (lv_at hl 0 rfl) ?_
      refine r_gR C hW h fl_X10_20 (by decide) dX10_tries_19 (fun b2 h => ?_)
      refine lv_iload_n hx hb dX10_tries_22 rfl (lv_at hl 1 rfl) ?_
      refine r_iald C hW h dX10_tries_23 (fun v3 h => ?_)
      refine r_iast C hW h dX10_tries_24 (fun X4 H locs h hW => ?_)
      refine lv_iinc (v := (x1 + 1)) (lv' := [(1, .int (x1 + 1)), (0, .ref a)]) hx hb dX10_tries_25 hl (k := 1) rfl rfl (by decide) rfl (fun ls hl => ?_)
      refine lv_goto (tgt := 2) hx hb dX10_tries_28 (by decide) ?_
      exact ih hW (lv_sub hl [1, 0] rfl) h
theorem kd_X10_tries {X : Mx} {r : Mx} {a : Nat} (h : f_X10_tries σ X a = some r) : shK σ a = 8 := (grd_inv h).1
set_option maxRecDepth 20000 in
set_option maxHeartbeats 2000000 in
theorem t_X10_tries {X : Mx} {r : Mx} {a : Nat} (h : f_X10_tries σ X a = some r) : MtV g l yX10_tries cX10_tries 2 none 0 0 [.ref a] σ X r := by
  refine met_of mk_X10_tries (Nat.le_of_ble_eq_true rfl) (fun p e s m args below meth c ls C hW hl => ?_)
  have hx := C.x
  have hb := C.b
  have hl : lv_has ls 2 [(0, .ref a)] := hl
  unfold f_X10_tries at h
  obtain ⟨hk0, h⟩ := grd_inv h
  refine lv_iconst (v := 0) hx hb dX10_tries_0 (by decide) ?_
  refine lv_istore_n (lv' := [(1, .int 0), (0, .ref a)]) hx hb dX10_tries_1 rfl hl (by decide) rfl (fun ls hl => ?_)
  exact b_X10_tries_2 C FU hW (lv_sub hl [1, 0] rfl) h
set_option maxRecDepth 20000 in
set_option maxHeartbeats 2000000 in
theorem b_X10_edited0_58 {a : Nat} (C : Cx g RX10 cX10_edited0 7 (some .boolean) p s m args meth c) {r : (Int32 × Mx)} : ∀ (n : Nat) {X : Mx} {x6 : Int32} {H : Heap} {locs : List Loc} {ls : Array Slot} (hW : Wd g σ X s H locs) (hl : lv_has ls 7 [(0, .ref a), (6, .int x6)]) (h : f_X10_edited0_58 σ a n X x6 = some r), W p l e (rmZ 5 121) s m args below meth c H locs 0 0 (QI g σ below args s r) (F0 m 58 ls []) := by
  have hx := C.x
  have hb := C.b
  intro n
  induction n with
  | zero =>
    intro X x6 H locs ls hW hl h
    cases (show none = some r from h)
  | succ n ih =>
    intro X x6 H locs ls hW hl h
    rw [f_X10_edited0_58] at h
    refine lv_iload hx hb dX10_edited0_58 (lv_at hl 1 rfl) ?_
    refine lv_sipush (v := 931) hx hb dX10_edited0_60 (by decide) ?_
    refine r_br h (lv_icmp_ge (tgt := 90) hx hb dX10_edited0_63 (by decide)) (fun h => ?_) (fun h => ?_)
    · refine lv_iconst (v := 1) hx hb dX10_edited0_90 (by decide) ?_
      exact r_iret C hW (Option.some.inj h).symm rfl dX10_edited0_91
    · refine lv_aload_n hx hb dX10_edited0_66 rfl (lv_at hl 0 rfl) ?_
      refine r_gR C hW h fl_X10_20 (by decide) dX10_edited0_67 (fun b1 h => ?_)
      refine lv_iload hx hb dX10_edited0_70 (lv_at hl 1 rfl) ?_
      refine lv_aload_n hx hb dX10_edited0_72 rfl (lv_at hl 0 rfl) ?_
      refine r_gR C hW h fl_X10_20 (by decide) dX10_edited0_73 (fun b2 h => ?_)
      refine lv_sipush (v := 931) hx hb dX10_edited0_76 (by decide) ?_
      refine lv_iload hx hb dX10_edited0_79 (lv_at hl 1 rfl) ?_
      refine lv_iadd hx hb dX10_edited0_81 ?_
      refine r_iald C hW h dX10_edited0_82 (fun v3 h => ?_)
      refine r_iast C hW h dX10_edited0_83 (fun X4 H locs h hW => ?_)
      refine lv_iinc (v := (x6 + 1)) (lv' := [(6, .int (x6 + 1)), (0, .ref a)]) hx hb dX10_edited0_84 hl (k := 1) rfl rfl (by decide) rfl (fun ls hl => ?_)
      refine lv_goto (tgt := 58) hx hb dX10_edited0_87 (by decide) ?_
      exact ih hW (lv_sub hl [1, 0] rfl) h
theorem kd_X10_edited0 {X : Mx} {r : (Int32 × Mx)} {a : Nat} {x1 : Int32} {x2 : Int32} {x3 : Int32} {x4 : Int32} {x5 : Int32} (h : f_X10_edited0 σ X a x1 x2 x3 x4 x5 = some r) : shK σ a = 8 := (grd_inv h).1
set_option maxRecDepth 20000 in
set_option maxHeartbeats 2000000 in
theorem t_X10_edited0 {X : Mx} {r : (Int32 × Mx)} {a : Nat} {x1 : Int32} {x2 : Int32} {x3 : Int32} {x4 : Int32} {x5 : Int32} (h : f_X10_edited0 σ X a x1 x2 x3 x4 x5 = some r) : MtI g l yX10_edited0 cX10_edited0 7 (some .boolean) 5 121 [.ref a, .int x1, .int x2, .int x3, .int x4, .int x5] σ X r := by
  refine met_of mk_X10_edited0 (Nat.le_of_ble_eq_true rfl) (fun p e s m args below meth c ls C hW hl => ?_)
  have hx := C.x
  have hb := C.b
  have hl : lv_has ls 7 [(0, .ref a), (1, .int x1), (2, .int x2), (3, .int x3), (4, .int x4), (5, .int x5)] := hl
  unfold f_X10_edited0 at h
  obtain ⟨hk0, h⟩ := grd_inv h
  refine lv_aload_n hx hb dX10_edited0_0 rfl (lv_at hl 0 rfl) ?_
  refine lv_iload_n hx hb dX10_edited0_1 rfl (lv_at hl 1 rfl) ?_
  refine lv_iconst (v := 0) hx hb dX10_edited0_2 (by decide) ?_
  refine lv_iconst (v := 1) hx hb dX10_edited0_3 (by decide) ?_
  refine r_cI hW (run_S (rest := [.ref a]) C hW (t_X10_within (X := X)) mk_X10_within sk_X10_231 ⟨Nat.le_of_ble_eq_true rfl, Nat.le_of_ble_eq_true rfl⟩ ⟨Nat.zero_le _, Nat.zero_le _⟩ rfl rfl (Nat.le_of_ble_eq_true rfl) hl.1 dX10_edited0_4) (fun H locs hW => ?_)
  refine lv_iconst (v := 1) hx hb dX10_edited0_7 (by decide) ?_
  obtain ⟨v3, X2, h1, h⟩ := bnd2_inv h
  refine r_cI hW (run_V (rest := []) C hW (t_X10_right h1) mk_X10_right vk_X10_214 (kd_X10_right h1) rfl rfl (by decide) ⟨Nat.le_of_ble_eq_true rfl, Nat.le_of_ble_eq_true rfl⟩ ⟨Nat.zero_le _, Nat.zero_le _⟩ rfl rfl (Nat.le_of_ble_eq_true rfl) hl.1 dX10_edited0_8) (fun H locs hW => ?_)
  refine r_brn h (lv_if_ne (tgt := 16) hx hb dX10_edited0_11 (by decide)) (fun h => ?_) (fun h => ?_)
  · refine lv_aload_n hx hb dX10_edited0_16 rfl (lv_at hl 0 rfl) ?_
    obtain ⟨X5, h4, h⟩ := bnd_inv h
    refine r_cV hW (run_V (rest := []) C hW (t_X10_tries h4) mk_X10_tries vk_X10_267 (kd_X10_tries h4) rfl rfl (by decide) ⟨Nat.le_of_ble_eq_true rfl, Nat.le_of_ble_eq_true rfl⟩ ⟨Nat.zero_le _, Nat.zero_le _⟩ rfl rfl (Nat.le_of_ble_eq_true rfl) hl.1 dX10_edited0_17) (fun H locs hW => ?_)
    refine lv_aload_n hx hb dX10_edited0_20 rfl (lv_at hl 0 rfl) ?_
    refine lv_sipush (v := 931) hx hb dX10_edited0_21 (by decide) ?_
    refine lv_iload_n hx hb dX10_edited0_24 rfl (lv_at hl 1 rfl) ?_
    refine lv_iload_n hx hb dX10_edited0_25 rfl (lv_at hl 2 rfl) ?_
    refine lv_iload_n hx hb dX10_edited0_26 rfl (lv_at hl 3 rfl) ?_
    refine lv_iload hx hb dX10_edited0_27 (lv_at hl 4 rfl) ?_
    refine lv_iload hx hb dX10_edited0_29 (lv_at hl 5 rfl) ?_
    obtain ⟨v8, X7, h6, h⟩ := bnd2_inv h
    refine r_cI hW (run_V (rest := []) C hW (t_X10_does h6) mk_X10_does vk_X10_190 (kd_X10_does h6) rfl rfl (by decide) ⟨Nat.le_of_ble_eq_true rfl, Nat.le_of_ble_eq_true rfl⟩ ⟨Nat.zero_le _, Nat.zero_le _⟩ rfl rfl (Nat.le_of_ble_eq_true rfl) hl.1 dX10_edited0_31) (fun H locs hW => ?_)
    refine r_brn h (lv_if_ne (tgt := 51) hx hb dX10_edited0_34 (by decide)) (fun h => ?_) (fun h => ?_)
    · refine lv_aload_n hx hb dX10_edited0_51 rfl (lv_at hl 0 rfl) ?_
      obtain ⟨X10, h9, h⟩ := bnd_inv h
      refine r_cV hW (run_V (rest := []) C hW (t_X10_keeps h9) mk_X10_keeps vk_X10_273 (kd_X10_keeps h9) rfl rfl (by decide) ⟨Nat.le_of_ble_eq_true rfl, Nat.le_of_ble_eq_true rfl⟩ ⟨Nat.zero_le _, Nat.zero_le _⟩ rfl rfl (Nat.le_of_ble_eq_true rfl) hl.1 dX10_edited0_52) (fun H locs hW => ?_)
      refine lv_iconst (v := 0) hx hb dX10_edited0_55 (by decide) ?_
      refine lv_istore (lv' := [(6, .int 0), (0, .ref a), (1, .int x1), (2, .int x2), (3, .int x3), (4, .int x4), (5, .int x5)]) hx hb dX10_edited0_56 hl (by decide) rfl (fun ls hl => ?_)
      exact b_X10_edited0_58 C FU hW (lv_sub hl [1, 0] rfl) h
    · refine lv_aload_n hx hb dX10_edited0_37 rfl (lv_at hl 0 rfl) ?_
      refine lv_iconst (v := 1) hx hb dX10_edited0_38 (by decide) ?_
      obtain ⟨v13, X12, h11, h⟩ := bnd2_inv h
      refine r_cI hW (run_V (rest := []) C hW (t_X10_refuses h11) mk_X10_refuses vk_X10_270 (kd_X10_refuses h11) rfl rfl (by decide) ⟨Nat.le_of_ble_eq_true rfl, Nat.le_of_ble_eq_true rfl⟩ ⟨Nat.zero_le _, Nat.zero_le _⟩ rfl rfl (Nat.le_of_ble_eq_true rfl) hl.1 dX10_edited0_39) (fun H locs hW => ?_)
      refine r_br h (lv_if_le (tgt := 49) hx hb dX10_edited0_42 (by decide)) (fun h => ?_) (fun h => ?_)
      · refine lv_iconst (v := 0) hx hb dX10_edited0_49 (by decide) ?_
        exact r_iret C hW (Option.some.inj h).symm rfl dX10_edited0_50
      · refine lv_iconst (v := 1) hx hb dX10_edited0_45 (by decide) ?_
        refine lv_goto (tgt := 50) hx hb dX10_edited0_46 (by decide) ?_
        exact r_iret C hW (Option.some.inj h).symm rfl dX10_edited0_50
  · refine lv_iconst (v := 0) hx hb dX10_edited0_14 (by decide) ?_
    exact r_iret C hW (Option.some.inj h).symm rfl dX10_edited0_15
theorem kd_X10_set {X : Mx} {r : (Int32 × Mx)} {a : Nat} {x1 : Int32} {x2 : Int32} {x3 : Int32} {x4 : Int32} (h : f_X10_set σ X a x1 x2 x3 x4 = some r) : shK σ a = 8 := (grd_inv h).1
set_option maxRecDepth 20000 in
set_option maxHeartbeats 2000000 in
theorem t_X10_set {X : Mx} {r : (Int32 × Mx)} {a : Nat} {x1 : Int32} {x2 : Int32} {x3 : Int32} {x4 : Int32} (h : f_X10_set σ X a x1 x2 x3 x4 = some r) : MtI g l yX10_set cX10_set 5 (some .boolean) 6 147 [.ref a, .int x1, .int x2, .int x3, .int x4] σ X r := by
  refine met_of mk_X10_set (Nat.le_of_ble_eq_true rfl) (fun p e s m args below meth c ls C hW hl => ?_)
  have hx := C.x
  have hb := C.b
  have hl : lv_has ls 5 [(0, .ref a), (1, .int x1), (2, .int x2), (3, .int x3), (4, .int x4)] := hl
  unfold f_X10_set at h
  obtain ⟨hk0, h⟩ := grd_inv h
  refine lv_aload_n hx hb dX10_set_0 rfl (lv_at hl 0 rfl) ?_
  refine lv_iconst (v := 0) hx hb dX10_set_1 (by decide) ?_
  refine r_pI C hW h pf_X10_65 (by decide) rfl rfl dX10_set_2 (fun X1 H locs h hW => ?_)
  refine lv_aload_n hx hb dX10_set_5 rfl (lv_at hl 0 rfl) ?_
  refine lv_iload_n hx hb dX10_set_6 rfl (lv_at hl 1 rfl) ?_
  refine lv_bipush (v := 11) hx hb dX10_set_7 (by decide) ?_
  refine lv_iload_n hx hb dX10_set_9 rfl (lv_at hl 2 rfl) ?_
  refine lv_iload_n hx hb dX10_set_10 rfl (lv_at hl 3 rfl) ?_
  refine lv_iload hx hb dX10_set_11 (lv_at hl 4 rfl) ?_
  obtain ⟨v4, X3, h2, h⟩ := bnd2_inv h
  refine r_cI hW (run_V (rest := []) C hW (t_X10_edited0 h2) mk_X10_edited0 vk_X10_276 (kd_X10_edited0 h2) rfl rfl (by decide) ⟨Nat.le_of_ble_eq_true rfl, Nat.le_of_ble_eq_true rfl⟩ ⟨Nat.zero_le _, Nat.zero_le _⟩ rfl rfl (Nat.le_of_ble_eq_true rfl) hl.1 dX10_set_13) (fun H locs hW => ?_)
  obtain ⟨hz, h⟩ := grd_inv h
  exact r_iret C hW (Option.some.inj h).symm (zb hz) dX10_set_16
theorem kd_X10_insert {X : Mx} {r : (Int32 × Mx)} {a : Nat} {x1 : Int32} {x2 : Int32} (h : f_X10_insert σ X a x1 x2 = some r) : shK σ a = 8 := (grd_inv h).1
set_option maxRecDepth 20000 in
set_option maxHeartbeats 2000000 in
theorem t_X10_insert {X : Mx} {r : (Int32 × Mx)} {a : Nat} {x1 : Int32} {x2 : Int32} (h : f_X10_insert σ X a x1 x2 = some r) : MtI g l yX10_insert cX10_insert 3 (some .boolean) 6 147 [.ref a, .int x1, .int x2] σ X r := by
  refine met_of mk_X10_insert (Nat.le_of_ble_eq_true rfl) (fun p e s m args below meth c ls C hW hl => ?_)
  have hx := C.x
  have hb := C.b
  have hl : lv_has ls 3 [(0, .ref a), (1, .int x1), (2, .int x2)] := hl
  unfold f_X10_insert at h
  obtain ⟨hk0, h⟩ := grd_inv h
  refine lv_aload_n hx hb dX10_insert_0 rfl (lv_at hl 0 rfl) ?_
  refine lv_iconst (v := 0) hx hb dX10_insert_1 (by decide) ?_
  refine r_pI C hW h pf_X10_65 (by decide) rfl rfl dX10_insert_2 (fun X1 H locs h hW => ?_)
  refine lv_aload_n hx hb dX10_insert_5 rfl (lv_at hl 0 rfl) ?_
  refine lv_iload_n hx hb dX10_insert_6 rfl (lv_at hl 1 rfl) ?_
  refine lv_bipush (v := 12) hx hb dX10_insert_7 (by decide) ?_
  refine lv_iload_n hx hb dX10_insert_9 rfl (lv_at hl 2 rfl) ?_
  refine lv_iconst (v := 0) hx hb dX10_insert_10 (by decide) ?_
  refine lv_iconst (v := 0) hx hb dX10_insert_11 (by decide) ?_
  obtain ⟨v4, X3, h2, h⟩ := bnd2_inv h
  refine r_cI hW (run_V (rest := []) C hW (t_X10_edited0 h2) mk_X10_edited0 vk_X10_276 (kd_X10_edited0 h2) rfl rfl (by decide) ⟨Nat.le_of_ble_eq_true rfl, Nat.le_of_ble_eq_true rfl⟩ ⟨Nat.zero_le _, Nat.zero_le _⟩ rfl rfl (Nat.le_of_ble_eq_true rfl) hl.1 dX10_insert_12) (fun H locs hW => ?_)
  obtain ⟨hz, h⟩ := grd_inv h
  exact r_iret C hW (Option.some.inj h).symm (zb hz) dX10_insert_15
theorem kd_X10_delete {X : Mx} {r : (Int32 × Mx)} {a : Nat} {x1 : Int32} {x2 : Int32} (h : f_X10_delete σ X a x1 x2 = some r) : shK σ a = 8 := (grd_inv h).1
set_option maxRecDepth 20000 in
set_option maxHeartbeats 2000000 in
theorem t_X10_delete {X : Mx} {r : (Int32 × Mx)} {a : Nat} {x1 : Int32} {x2 : Int32} (h : f_X10_delete σ X a x1 x2 = some r) : MtI g l yX10_delete cX10_delete 3 (some .boolean) 6 147 [.ref a, .int x1, .int x2] σ X r := by
  refine met_of mk_X10_delete (Nat.le_of_ble_eq_true rfl) (fun p e s m args below meth c ls C hW hl => ?_)
  have hx := C.x
  have hb := C.b
  have hl : lv_has ls 3 [(0, .ref a), (1, .int x1), (2, .int x2)] := hl
  unfold f_X10_delete at h
  obtain ⟨hk0, h⟩ := grd_inv h
  refine lv_aload_n hx hb dX10_delete_0 rfl (lv_at hl 0 rfl) ?_
  refine lv_iconst (v := 0) hx hb dX10_delete_1 (by decide) ?_
  refine r_pI C hW h pf_X10_65 (by decide) rfl rfl dX10_delete_2 (fun X1 H locs h hW => ?_)
  refine lv_aload_n hx hb dX10_delete_5 rfl (lv_at hl 0 rfl) ?_
  refine lv_iload_n hx hb dX10_delete_6 rfl (lv_at hl 1 rfl) ?_
  refine lv_bipush (v := 13) hx hb dX10_delete_7 (by decide) ?_
  refine lv_iload_n hx hb dX10_delete_9 rfl (lv_at hl 2 rfl) ?_
  refine lv_iconst (v := 0) hx hb dX10_delete_10 (by decide) ?_
  refine lv_iconst (v := 0) hx hb dX10_delete_11 (by decide) ?_
  obtain ⟨v4, X3, h2, h⟩ := bnd2_inv h
  refine r_cI hW (run_V (rest := []) C hW (t_X10_edited0 h2) mk_X10_edited0 vk_X10_276 (kd_X10_edited0 h2) rfl rfl (by decide) ⟨Nat.le_of_ble_eq_true rfl, Nat.le_of_ble_eq_true rfl⟩ ⟨Nat.zero_le _, Nat.zero_le _⟩ rfl rfl (Nat.le_of_ble_eq_true rfl) hl.1 dX10_delete_12) (fun H locs hW => ?_)
  obtain ⟨hz, h⟩ := grd_inv h
  exact r_iret C hW (Option.some.inj h).symm (zb hz) dX10_delete_15
theorem kd_X10_rename {X : Mx} {r : (Int32 × Mx)} {a : Nat} {x1 : Int32} {x2 : Int32} {x3 : Int32} (h : f_X10_rename σ X a x1 x2 x3 = some r) : shK σ a = 8 := (grd_inv h).1
set_option maxRecDepth 20000 in
set_option maxHeartbeats 2000000 in
theorem t_X10_rename {X : Mx} {r : (Int32 × Mx)} {a : Nat} {x1 : Int32} {x2 : Int32} {x3 : Int32} (h : f_X10_rename σ X a x1 x2 x3 = some r) : MtI g l yX10_rename cX10_rename 4 (some .boolean) 6 147 [.ref a, .int x1, .int x2, .int x3] σ X r := by
  refine met_of mk_X10_rename (Nat.le_of_ble_eq_true rfl) (fun p e s m args below meth c ls C hW hl => ?_)
  have hx := C.x
  have hb := C.b
  have hl : lv_has ls 4 [(0, .ref a), (1, .int x1), (2, .int x2), (3, .int x3)] := hl
  unfold f_X10_rename at h
  obtain ⟨hk0, h⟩ := grd_inv h
  refine lv_aload_n hx hb dX10_rename_0 rfl (lv_at hl 0 rfl) ?_
  refine lv_iconst (v := 0) hx hb dX10_rename_1 (by decide) ?_
  refine r_pI C hW h pf_X10_65 (by decide) rfl rfl dX10_rename_2 (fun X1 H locs h hW => ?_)
  refine lv_aload_n hx hb dX10_rename_5 rfl (lv_at hl 0 rfl) ?_
  refine lv_iload_n hx hb dX10_rename_6 rfl (lv_at hl 1 rfl) ?_
  refine lv_bipush (v := 14) hx hb dX10_rename_7 (by decide) ?_
  refine lv_iload_n hx hb dX10_rename_9 rfl (lv_at hl 2 rfl) ?_
  refine lv_iload_n hx hb dX10_rename_10 rfl (lv_at hl 3 rfl) ?_
  refine lv_iconst (v := 0) hx hb dX10_rename_11 (by decide) ?_
  obtain ⟨v4, X3, h2, h⟩ := bnd2_inv h
  refine r_cI hW (run_V (rest := []) C hW (t_X10_edited0 h2) mk_X10_edited0 vk_X10_276 (kd_X10_edited0 h2) rfl rfl (by decide) ⟨Nat.le_of_ble_eq_true rfl, Nat.le_of_ble_eq_true rfl⟩ ⟨Nat.zero_le _, Nat.zero_le _⟩ rfl rfl (Nat.le_of_ble_eq_true rfl) hl.1 dX10_rename_12) (fun H locs hW => ?_)
  obtain ⟨hz, h⟩ := grd_inv h
  exact r_iret C hW (Option.some.inj h).symm (zb hz) dX10_rename_15
theorem kd_X10_retype {X : Mx} {r : (Int32 × Mx)} {a : Nat} {x1 : Int32} {x2 : Int32} {x3 : Int32} (h : f_X10_retype σ X a x1 x2 x3 = some r) : shK σ a = 8 := (grd_inv h).1
set_option maxRecDepth 20000 in
set_option maxHeartbeats 2000000 in
theorem t_X10_retype {X : Mx} {r : (Int32 × Mx)} {a : Nat} {x1 : Int32} {x2 : Int32} {x3 : Int32} (h : f_X10_retype σ X a x1 x2 x3 = some r) : MtI g l yX10_retype cX10_retype 4 (some .boolean) 6 147 [.ref a, .int x1, .int x2, .int x3] σ X r := by
  refine met_of mk_X10_retype (Nat.le_of_ble_eq_true rfl) (fun p e s m args below meth c ls C hW hl => ?_)
  have hx := C.x
  have hb := C.b
  have hl : lv_has ls 4 [(0, .ref a), (1, .int x1), (2, .int x2), (3, .int x3)] := hl
  unfold f_X10_retype at h
  obtain ⟨hk0, h⟩ := grd_inv h
  refine lv_aload_n hx hb dX10_retype_0 rfl (lv_at hl 0 rfl) ?_
  refine lv_iconst (v := 0) hx hb dX10_retype_1 (by decide) ?_
  refine r_pI C hW h pf_X10_65 (by decide) rfl rfl dX10_retype_2 (fun X1 H locs h hW => ?_)
  refine lv_aload_n hx hb dX10_retype_5 rfl (lv_at hl 0 rfl) ?_
  refine lv_iload_n hx hb dX10_retype_6 rfl (lv_at hl 1 rfl) ?_
  refine lv_bipush (v := 15) hx hb dX10_retype_7 (by decide) ?_
  refine lv_iload_n hx hb dX10_retype_9 rfl (lv_at hl 2 rfl) ?_
  refine lv_iload_n hx hb dX10_retype_10 rfl (lv_at hl 3 rfl) ?_
  refine lv_iconst (v := 0) hx hb dX10_retype_11 (by decide) ?_
  obtain ⟨v4, X3, h2, h⟩ := bnd2_inv h
  refine r_cI hW (run_V (rest := []) C hW (t_X10_edited0 h2) mk_X10_edited0 vk_X10_276 (kd_X10_edited0 h2) rfl rfl (by decide) ⟨Nat.le_of_ble_eq_true rfl, Nat.le_of_ble_eq_true rfl⟩ ⟨Nat.zero_le _, Nat.zero_le _⟩ rfl rfl (Nat.le_of_ble_eq_true rfl) hl.1 dX10_retype_12) (fun H locs hW => ?_)
  obtain ⟨hz, h⟩ := grd_inv h
  exact r_iret C hW (Option.some.inj h).symm (zb hz) dX10_retype_15
set_option maxRecDepth 20000 in
set_option maxHeartbeats 2000000 in
theorem b_X10_add_24 {a : Nat} {x1 : Int32} {x2 : Int32} {x3 : Int32} (C : Cx g RX10 cX10_add 6 (some .int) p s m args meth c) {r : (Int32 × Mx)} {X : Mx} {y0 : Int32} (hW : Wd g σ X s H locs) (hl : lv_has ls 6 [(0, .ref a), (1, .int x1), (2, .int x2), (3, .int x3)]) (h : f_X10_add_24 σ a x1 x2 x3 X y0 = some r) : W p l e (rmZ 6 147) s m args below meth c H locs 0 0 (QI g σ below args s r) (F0 m 24 ls [.int y0]) := by
  have hx := C.x
  have hb := C.b
  unfold f_X10_add_24 at h
  refine lv_istore (lv' := [(4, .int y0), (0, .ref a), (1, .int x1), (2, .int x2), (3, .int x3)]) hx hb dX10_add_24 hl (by decide) rfl (fun ls hl => ?_)
  refine lv_aload_n hx hb dX10_add_26 rfl (lv_at hl 1 rfl) ?_
  refine lv_iload_n hx hb dX10_add_27 rfl (lv_at hl 2 rfl) ?_
  refine lv_bipush (v := 16) hx hb dX10_add_28 (by decide) ?_
  refine lv_iload_n hx hb dX10_add_30 rfl (lv_at hl 3 rfl) ?_
  refine lv_iload_n hx hb dX10_add_31 rfl (lv_at hl 4 rfl) ?_
  refine lv_iconst (v := 0) hx hb dX10_add_32 (by decide) ?_
  obtain ⟨v3, X2, h1, h⟩ := bnd2_inv h
  refine r_cI hW (run_V (rest := []) C hW (t_X10_edited0 h1) mk_X10_edited0 vk_X10_276 (kd_X10_edited0 h1) rfl rfl (by decide) ⟨Nat.le_of_ble_eq_true rfl, Nat.le_of_ble_eq_true rfl⟩ ⟨Nat.zero_le _, Nat.zero_le _⟩ rfl rfl (Nat.le_of_ble_eq_true rfl) hl.1 dX10_add_33) (fun H locs hW => ?_)
  refine lv_istore (lv' := [(5, .int v3), (4, .int y0), (0, .ref a), (1, .int x1), (2, .int x2), (3, .int x3)]) hx hb dX10_add_36 hl (by decide) rfl (fun ls hl => ?_)
  refine lv_aload_n hx hb dX10_add_38 rfl (lv_at hl 2 rfl) ?_
  refine r_gI C hW h fl_X10_65 (by decide) dX10_add_39 (fun v4 h => ?_)
  refine r_br h (lv_if_eq (tgt := 49) hx hb dX10_add_42 (by decide)) (fun h => ?_) (fun h => ?_)
  · refine lv_iload hx hb dX10_add_49 (lv_at hl 0 rfl) ?_
    refine r_br h (lv_if_eq (tgt := 59) hx hb dX10_add_51 (by decide)) (fun h => ?_) (fun h => ?_)
    · refine lv_iconst (v := (-1)) hx hb dX10_add_59 (by decide) ?_
      exact r_iret C hW (Option.some.inj h).symm rfl dX10_add_60
    · refine lv_iload hx hb dX10_add_54 (lv_at hl 1 rfl) ?_
      refine lv_goto (tgt := 60) hx hb dX10_add_56 (by decide) ?_
      exact r_iret C hW (Option.some.inj h).symm rfl dX10_add_60
  · refine lv_iconst (v := 0) hx hb dX10_add_45 (by decide) ?_
    refine lv_goto (tgt := 60) hx hb dX10_add_46 (by decide) ?_
    exact r_iret C hW (Option.some.inj h).symm rfl dX10_add_60
theorem kd_X10_add {X : Mx} {r : (Int32 × Mx)} {a : Nat} {x1 : Int32} {x2 : Int32} {x3 : Int32} (h : f_X10_add σ X a x1 x2 x3 = some r) : shK σ a = 8 := (grd_inv h).1
set_option maxRecDepth 20000 in
set_option maxHeartbeats 2000000 in
theorem t_X10_add {X : Mx} {r : (Int32 × Mx)} {a : Nat} {x1 : Int32} {x2 : Int32} {x3 : Int32} (h : f_X10_add σ X a x1 x2 x3 = some r) : MtI g l yX10_add cX10_add 6 (some .int) 6 147 [.ref a, .int x1, .int x2, .int x3] σ X r := by
  refine met_of mk_X10_add (Nat.le_of_ble_eq_true rfl) (fun p e s m args below meth c ls C hW hl => ?_)
  have hx := C.x
  have hb := C.b
  have hl : lv_has ls 6 [(0, .ref a), (1, .int x1), (2, .int x2), (3, .int x3)] := hl
  unfold f_X10_add at h
  obtain ⟨hk0, h⟩ := grd_inv h
  refine lv_aload_n hx hb dX10_add_0 rfl (lv_at hl 0 rfl) ?_
  refine lv_iconst (v := 0) hx hb dX10_add_1 (by decide) ?_
  refine r_pI C hW h pf_X10_65 (by decide) rfl rfl dX10_add_2 (fun X1 H locs h hW => ?_)
  refine lv_iload_n hx hb dX10_add_5 rfl (lv_at hl 1 rfl) ?_
  refine lv_iconst (v := 0) hx hb dX10_add_6 (by decide) ?_
  refine lv_iconst (v := 1) hx hb dX10_add_7 (by decide) ?_
  refine r_cI hW (run_S (rest := []) C hW (t_X10_within (X := X1)) mk_X10_within sk_X10_231 ⟨Nat.le_of_ble_eq_true rfl, Nat.le_of_ble_eq_true rfl⟩ ⟨Nat.zero_le _, Nat.zero_le _⟩ rfl rfl (Nat.le_of_ble_eq_true rfl) hl.1 dX10_add_8) (fun H locs hW => ?_)
  refine r_br h (lv_if_eq (tgt := 23) hx hb dX10_add_11 (by decide)) (fun h => ?_) (fun h => ?_)
  · refine lv_iconst (v := (-1)) hx hb dX10_add_23 (by decide) ?_
    exact b_X10_add_24 C hW (lv_sub hl [0, 1, 2, 3] rfl) h
  · refine lv_aload_n hx hb dX10_add_14 rfl (lv_at hl 0 rfl) ?_
    refine lv_iconst (v := 0) hx hb dX10_add_15 (by decide) ?_
    refine lv_iload_n hx hb dX10_add_16 rfl (lv_at hl 1 rfl) ?_
    obtain ⟨v3, h2, h⟩ := bnd_inv h
    refine r_cI hW (run_V (rest := []) C hW (t_X10_nextColumn h2) mk_X10_nextColumn vk_X10_247 (kd_X10_nextColumn h2) rfl rfl (by decide) ⟨Nat.le_of_ble_eq_true rfl, Nat.le_of_ble_eq_true rfl⟩ ⟨Nat.zero_le _, Nat.zero_le _⟩ rfl rfl (Nat.le_of_ble_eq_true rfl) hl.1 dX10_add_17) (fun H locs hW => ?_)
    refine lv_goto (tgt := 24) hx hb dX10_add_20 (by decide) ?_
    exact b_X10_add_24 C hW (lv_sub hl [0, 1, 2, 3] rfl) h
theorem kd_X10_drop {X : Mx} {r : (Int32 × Mx)} {a : Nat} {x1 : Int32} {x2 : Int32} (h : f_X10_drop σ X a x1 x2 = some r) : shK σ a = 8 := (grd_inv h).1
set_option maxRecDepth 20000 in
set_option maxHeartbeats 2000000 in
theorem t_X10_drop {X : Mx} {r : (Int32 × Mx)} {a : Nat} {x1 : Int32} {x2 : Int32} (h : f_X10_drop σ X a x1 x2 = some r) : MtI g l yX10_drop cX10_drop 3 (some .boolean) 6 147 [.ref a, .int x1, .int x2] σ X r := by
  refine met_of mk_X10_drop (Nat.le_of_ble_eq_true rfl) (fun p e s m args below meth c ls C hW hl => ?_)
  have hx := C.x
  have hb := C.b
  have hl : lv_has ls 3 [(0, .ref a), (1, .int x1), (2, .int x2)] := hl
  unfold f_X10_drop at h
  obtain ⟨hk0, h⟩ := grd_inv h
  refine lv_aload_n hx hb dX10_drop_0 rfl (lv_at hl 0 rfl) ?_
  refine lv_iconst (v := 0) hx hb dX10_drop_1 (by decide) ?_
  refine r_pI C hW h pf_X10_65 (by decide) rfl rfl dX10_drop_2 (fun X1 H locs h hW => ?_)
  refine lv_aload_n hx hb dX10_drop_5 rfl (lv_at hl 0 rfl) ?_
  refine lv_iload_n hx hb dX10_drop_6 rfl (lv_at hl 1 rfl) ?_
  refine lv_bipush (v := 17) hx hb dX10_drop_7 (by decide) ?_
  refine lv_iload_n hx hb dX10_drop_9 rfl (lv_at hl 2 rfl) ?_
  refine lv_iconst (v := 0) hx hb dX10_drop_10 (by decide) ?_
  refine lv_iconst (v := 0) hx hb dX10_drop_11 (by decide) ?_
  obtain ⟨v4, X3, h2, h⟩ := bnd2_inv h
  refine r_cI hW (run_V (rest := []) C hW (t_X10_edited0 h2) mk_X10_edited0 vk_X10_276 (kd_X10_edited0 h2) rfl rfl (by decide) ⟨Nat.le_of_ble_eq_true rfl, Nat.le_of_ble_eq_true rfl⟩ ⟨Nat.zero_le _, Nat.zero_le _⟩ rfl rfl (Nat.le_of_ble_eq_true rfl) hl.1 dX10_drop_12) (fun H locs hW => ?_)
  obtain ⟨hz, h⟩ := grd_inv h
  exact r_iret C hW (Option.some.inj h).symm (zb hz) dX10_drop_15
set_option maxRecDepth 20000 in
set_option maxHeartbeats 2000000 in
theorem t_X10_choiceAt {X : Mx} {x0 : Int32} {x1 : Int32} {x2 : Int32} : MtI g l yX10_choiceAt cX10_choiceAt 3 (some .int) 1 22 [.int x0, .int x1, .int x2] σ X (f_X10_choiceAt x0 x1 x2, X) := by
  obtain ⟨r, h⟩ : ∃ r, f_X10_choiceAt x0 x1 x2 = r := ⟨_, rfl⟩
  rw [h]
  refine met_of mk_X10_choiceAt (Nat.le_of_ble_eq_true rfl) (fun p e s m args below meth c ls C hW hl => ?_)
  have hx := C.x
  have hb := C.b
  have hl : lv_has ls 3 [(0, .int x0), (1, .int x1), (2, .int x2)] := hl
  unfold f_X10_choiceAt at h
  refine lv_iload_n hx hb dX10_choiceAt_0 rfl (lv_at hl 0 rfl) ?_
  refine lv_iconst (v := 0) hx hb dX10_choiceAt_1 (by decide) ?_
  refine lv_bipush (v := 6) hx hb dX10_choiceAt_2 (by decide) ?_
  refine r_cI hW (run_S (rest := []) C hW (t_X10_within (X := X)) mk_X10_within sk_X10_231 ⟨Nat.le_of_ble_eq_true rfl, Nat.le_of_ble_eq_true rfl⟩ ⟨Nat.zero_le _, Nat.zero_le _⟩ rfl rfl (Nat.le_of_ble_eq_true rfl) hl.1 dX10_choiceAt_4) (fun H locs hW => ?_)
  refine r_br h (lv_if_eq (tgt := 18) hx hb dX10_choiceAt_7 (by decide)) (fun h => ?_) (fun h => ?_)
  · refine lv_iconst (v := (-1)) hx hb dX10_choiceAt_18 (by decide) ?_
    exact r_iret C hW (rt_T h) rfl dX10_choiceAt_19
  · refine lv_iload_n hx hb dX10_choiceAt_10 rfl (lv_at hl 1 rfl) ?_
    refine r_br h (lv_if_lt (tgt := 18) hx hb dX10_choiceAt_11 (by decide)) (fun h => ?_) (fun h => ?_)
    · refine lv_iconst (v := (-1)) hx hb dX10_choiceAt_18 (by decide) ?_
      exact r_iret C hW (rt_T h) rfl dX10_choiceAt_19
    · refine lv_iload_n hx hb dX10_choiceAt_14 rfl (lv_at hl 2 rfl) ?_
      refine r_br h (lv_if_ge (tgt := 20) hx hb dX10_choiceAt_15 (by decide)) (fun h => ?_) (fun h => ?_)
      · refine lv_iload_n hx hb dX10_choiceAt_20 rfl (lv_at hl 0 rfl) ?_
        refine lv_iconst (v := 4) hx hb dX10_choiceAt_21 (by decide) ?_
        refine r_br h (lv_icmp_ge (tgt := 46) hx hb dX10_choiceAt_22 (by decide)) (fun h => ?_) (fun h => ?_)
        · refine lv_iload_n hx hb dX10_choiceAt_46 rfl (lv_at hl 0 rfl) ?_
          refine lv_iconst (v := 4) hx hb dX10_choiceAt_47 (by decide) ?_
          refine r_brn h (lv_icmp_ne (tgt := 70) hx hb dX10_choiceAt_48 (by decide)) (fun h => ?_) (fun h => ?_)
          · refine lv_iload_n hx hb dX10_choiceAt_70 rfl (lv_at hl 0 rfl) ?_
            refine lv_iconst (v := 5) hx hb dX10_choiceAt_71 (by decide) ?_
            refine r_brn h (lv_icmp_ne (tgt := 101) hx hb dX10_choiceAt_72 (by decide)) (fun h => ?_) (fun h => ?_)
            · refine lv_iload_n hx hb dX10_choiceAt_101 rfl (lv_at hl 1 rfl) ?_
              refine lv_iconst (v := 4) hx hb dX10_choiceAt_102 (by decide) ?_
              refine r_br h (lv_icmp_ge (tgt := 125) hx hb dX10_choiceAt_103 (by decide)) (fun h => ?_) (fun h => ?_)
              · refine lv_iconst (v := (-1)) hx hb dX10_choiceAt_125 (by decide) ?_
                exact r_iret C hW (rt_T h) rfl dX10_choiceAt_126
              · refine lv_iload_n hx hb dX10_choiceAt_106 rfl (lv_at hl 2 rfl) ?_
                refine lv_bipush (v := 20) hx hb dX10_choiceAt_107 (by decide) ?_
                refine r_br h (lv_icmp_ge (tgt := 125) hx hb dX10_choiceAt_109 (by decide)) (fun h => ?_) (fun h => ?_)
                · refine lv_iconst (v := (-1)) hx hb dX10_choiceAt_125 (by decide) ?_
                  exact r_iret C hW (rt_T h) rfl dX10_choiceAt_126
                · refine lv_sipush (v := 236) hx hb dX10_choiceAt_112 (by decide) ?_
                  refine lv_bipush (v := 20) hx hb dX10_choiceAt_115 (by decide) ?_
                  refine lv_iload_n hx hb dX10_choiceAt_117 rfl (lv_at hl 1 rfl) ?_
                  refine lv_imul hx hb dX10_choiceAt_118 ?_
                  refine lv_iadd hx hb dX10_choiceAt_119 ?_
                  refine lv_iload_n hx hb dX10_choiceAt_120 rfl (lv_at hl 2 rfl) ?_
                  refine lv_iadd hx hb dX10_choiceAt_121 ?_
                  refine lv_goto (tgt := 126) hx hb dX10_choiceAt_122 (by decide) ?_
                  exact r_iret C hW (rt_T h) rfl dX10_choiceAt_126
            · refine lv_iload_n hx hb dX10_choiceAt_75 rfl (lv_at hl 1 rfl) ?_
              refine lv_bipush (v := 20) hx hb dX10_choiceAt_76 (by decide) ?_
              refine r_br h (lv_icmp_ge (tgt := 99) hx hb dX10_choiceAt_78 (by decide)) (fun h => ?_) (fun h => ?_)
              · refine lv_iconst (v := (-1)) hx hb dX10_choiceAt_99 (by decide) ?_
                exact r_iret C hW (rt_T h) rfl dX10_choiceAt_100
              · refine lv_iload_n hx hb dX10_choiceAt_81 rfl (lv_at hl 2 rfl) ?_
                refine lv_bipush (v := 9) hx hb dX10_choiceAt_82 (by decide) ?_
                refine r_br h (lv_icmp_ge (tgt := 99) hx hb dX10_choiceAt_84 (by decide)) (fun h => ?_) (fun h => ?_)
                · refine lv_iconst (v := (-1)) hx hb dX10_choiceAt_99 (by decide) ?_
                  exact r_iret C hW (rt_T h) rfl dX10_choiceAt_100
                · refine lv_bipush (v := 56) hx hb dX10_choiceAt_87 (by decide) ?_
                  refine lv_bipush (v := 9) hx hb dX10_choiceAt_89 (by decide) ?_
                  refine lv_iload_n hx hb dX10_choiceAt_91 rfl (lv_at hl 1 rfl) ?_
                  refine lv_imul hx hb dX10_choiceAt_92 ?_
                  refine lv_iadd hx hb dX10_choiceAt_93 ?_
                  refine lv_iload_n hx hb dX10_choiceAt_94 rfl (lv_at hl 2 rfl) ?_
                  refine lv_iadd hx hb dX10_choiceAt_95 ?_
                  refine lv_goto (tgt := 100) hx hb dX10_choiceAt_96 (by decide) ?_
                  exact r_iret C hW (rt_T h) rfl dX10_choiceAt_100
          · refine lv_iload_n hx hb dX10_choiceAt_51 rfl (lv_at hl 1 rfl) ?_
            refine lv_bipush (v := 20) hx hb dX10_choiceAt_52 (by decide) ?_
            refine r_br h (lv_icmp_ge (tgt := 68) hx hb dX10_choiceAt_54 (by decide)) (fun h => ?_) (fun h => ?_)
            · refine lv_iconst (v := (-1)) hx hb dX10_choiceAt_68 (by decide) ?_
              exact r_iret C hW (rt_T h) rfl dX10_choiceAt_69
            · refine lv_iload_n hx hb dX10_choiceAt_57 rfl (lv_at hl 2 rfl) ?_
              refine r_brn h (lv_if_ne (tgt := 68) hx hb dX10_choiceAt_58 (by decide)) (fun h => ?_) (fun h => ?_)
              · refine lv_iconst (v := (-1)) hx hb dX10_choiceAt_68 (by decide) ?_
                exact r_iret C hW (rt_T h) rfl dX10_choiceAt_69
              · refine lv_bipush (v := 36) hx hb dX10_choiceAt_61 (by decide) ?_
                refine lv_iload_n hx hb dX10_choiceAt_63 rfl (lv_at hl 1 rfl) ?_
                refine lv_iadd hx hb dX10_choiceAt_64 ?_
                refine lv_goto (tgt := 69) hx hb dX10_choiceAt_65 (by decide) ?_
                exact r_iret C hW (rt_T h) rfl dX10_choiceAt_69
        · refine lv_iload_n hx hb dX10_choiceAt_25 rfl (lv_at hl 1 rfl) ?_
          refine lv_bipush (v := 9) hx hb dX10_choiceAt_26 (by decide) ?_
          refine r_br h (lv_icmp_ge (tgt := 44) hx hb dX10_choiceAt_28 (by decide)) (fun h => ?_) (fun h => ?_)
          · refine lv_iconst (v := (-1)) hx hb dX10_choiceAt_44 (by decide) ?_
            exact r_iret C hW (rt_T h) rfl dX10_choiceAt_45
          · refine lv_iload_n hx hb dX10_choiceAt_31 rfl (lv_at hl 2 rfl) ?_
            refine r_brn h (lv_if_ne (tgt := 44) hx hb dX10_choiceAt_32 (by decide)) (fun h => ?_) (fun h => ?_)
            · refine lv_iconst (v := (-1)) hx hb dX10_choiceAt_44 (by decide) ?_
              exact r_iret C hW (rt_T h) rfl dX10_choiceAt_45
            · refine lv_bipush (v := 9) hx hb dX10_choiceAt_35 (by decide) ?_
              refine lv_iload_n hx hb dX10_choiceAt_37 rfl (lv_at hl 0 rfl) ?_
              refine lv_imul hx hb dX10_choiceAt_38 ?_
              refine lv_iload_n hx hb dX10_choiceAt_39 rfl (lv_at hl 1 rfl) ?_
              refine lv_iadd hx hb dX10_choiceAt_40 ?_
              refine lv_goto (tgt := 45) hx hb dX10_choiceAt_41 (by decide) ?_
              exact r_iret C hW (rt_T h) rfl dX10_choiceAt_45
      · refine lv_iconst (v := (-1)) hx hb dX10_choiceAt_18 (by decide) ?_
        exact r_iret C hW (rt_T h) rfl dX10_choiceAt_19
set_option maxRecDepth 20000 in
set_option maxHeartbeats 2000000 in
theorem t_X10_choicesOf {X : Mx} {x0 : Int32} : MtI g l yX10_choicesOf cX10_choicesOf 1 (some .int) 0 0 [.int x0] σ X (f_X10_choicesOf x0, X) := by
  obtain ⟨r, h⟩ : ∃ r, f_X10_choicesOf x0 = r := ⟨_, rfl⟩
  rw [h]
  refine met_of mk_X10_choicesOf (Nat.le_of_ble_eq_true rfl) (fun p e s m args below meth c ls C hW hl => ?_)
  have hx := C.x
  have hb := C.b
  have hl : lv_has ls 1 [(0, .int x0)] := hl
  unfold f_X10_choicesOf at h
  refine lv_iload_n hx hb dX10_choicesOf_0 rfl (lv_at hl 0 rfl) ?_
  refine lv_iconst (v := 1) hx hb dX10_choicesOf_1 (by decide) ?_
  refine r_br h (lv_icmp_eq (tgt := 15) hx hb dX10_choicesOf_2 (by decide)) (fun h => ?_) (fun h => ?_)
  · refine lv_iconst (v := 3) hx hb dX10_choicesOf_15 (by decide) ?_
    refine lv_goto (tgt := 20) hx hb dX10_choicesOf_16 (by decide) ?_
    exact r_iret C hW (rt_T h) rfl dX10_choicesOf_20
  · refine lv_iload_n hx hb dX10_choicesOf_5 rfl (lv_at hl 0 rfl) ?_
    refine lv_iconst (v := 2) hx hb dX10_choicesOf_6 (by decide) ?_
    refine r_br h (lv_icmp_eq (tgt := 15) hx hb dX10_choicesOf_7 (by decide)) (fun h => ?_) (fun h => ?_)
    · refine lv_iconst (v := 3) hx hb dX10_choicesOf_15 (by decide) ?_
      refine lv_goto (tgt := 20) hx hb dX10_choicesOf_16 (by decide) ?_
      exact r_iret C hW (rt_T h) rfl dX10_choicesOf_20
    · refine lv_iload_n hx hb dX10_choicesOf_10 rfl (lv_at hl 0 rfl) ?_
      refine lv_iconst (v := 5) hx hb dX10_choicesOf_11 (by decide) ?_
      refine r_brn h (lv_icmp_ne (tgt := 19) hx hb dX10_choicesOf_12 (by decide)) (fun h => ?_) (fun h => ?_)
      · refine lv_iconst (v := 2) hx hb dX10_choicesOf_19 (by decide) ?_
        exact r_iret C hW (rt_T h) rfl dX10_choicesOf_20
      · refine lv_iconst (v := 3) hx hb dX10_choicesOf_15 (by decide) ?_
        refine lv_goto (tgt := 20) hx hb dX10_choicesOf_16 (by decide) ?_
        exact r_iret C hW (rt_T h) rfl dX10_choicesOf_20
theorem kd_X10_comesUp {X : Mx} {r : (Int32 × Mx)} {a : Nat} {x1 : Int32} {x2 : Int32} {x3 : Int32} {x4 : Int32} {x5 : Int32} {x6 : Int32} (h : f_X10_comesUp σ X a x1 x2 x3 x4 x5 x6 = some r) : shK σ a = 8 := (grd_inv h).1
set_option maxRecDepth 20000 in
set_option maxHeartbeats 2000000 in
theorem t_X10_comesUp {X : Mx} {r : (Int32 × Mx)} {a : Nat} {x1 : Int32} {x2 : Int32} {x3 : Int32} {x4 : Int32} {x5 : Int32} {x6 : Int32} (h : f_X10_comesUp σ X a x1 x2 x3 x4 x5 x6 = some r) : MtI g l yX10_comesUp cX10_comesUp 9 (some .int) 2 44 [.ref a, .int x1, .int x2, .int x3, .int x4, .int x5, .int x6] σ X r := by
  refine met_of mk_X10_comesUp (Nat.le_of_ble_eq_true rfl) (fun p e s m args below meth c ls C hW hl => ?_)
  have hx := C.x
  have hb := C.b
  have hl : lv_has ls 9 [(0, .ref a), (1, .int x1), (2, .int x2), (3, .int x3), (4, .int x4), (5, .int x5), (6, .int x6)] := hl
  unfold f_X10_comesUp at h
  obtain ⟨hk0, h⟩ := grd_inv h
  refine lv_iload_n hx hb dX10_comesUp_0 rfl (lv_at hl 2 rfl) ?_
  refine lv_iload_n hx hb dX10_comesUp_1 rfl (lv_at hl 3 rfl) ?_
  refine lv_iload hx hb dX10_comesUp_2 (lv_at hl 4 rfl) ?_
  refine r_cI hW (run_S (rest := []) C hW (t_X10_choiceAt (X := X)) mk_X10_choiceAt sk_X10_279 ⟨Nat.le_of_ble_eq_true rfl, Nat.le_of_ble_eq_true rfl⟩ ⟨Nat.zero_le _, Nat.zero_le _⟩ rfl rfl (Nat.le_of_ble_eq_true rfl) hl.1 dX10_comesUp_4) (fun H locs hW => ?_)
  refine lv_istore (lv' := [(7, .int (f_X10_choiceAt x2 x3 x4)), (0, .ref a), (1, .int x1), (2, .int x2), (3, .int x3), (4, .int x4), (5, .int x5), (6, .int x6)]) hx hb dX10_comesUp_7 hl (by decide) rfl (fun ls hl => ?_)
  refine lv_aload_n hx hb dX10_comesUp_9 rfl (lv_at hl 1 rfl) ?_
  refine r_gR C hW h fl_X10_44 (by decide) dX10_comesUp_10 (fun b1 h => ?_)
  refine lv_iload hx hb dX10_comesUp_13 (lv_at hl 0 rfl) ?_
  refine lv_iconst (v := 1) hx hb dX10_comesUp_15 (by decide) ?_
  refine r_iast C hW h dX10_comesUp_16 (fun X2 H locs h hW => ?_)
  refine lv_aload_n hx hb dX10_comesUp_17 rfl (lv_at hl 1 rfl) ?_
  refine r_gR C hW h fl_X10_20 (by decide) dX10_comesUp_18 (fun b3 h => ?_)
  refine lv_iload_n hx hb dX10_comesUp_21 rfl (lv_at hl 2 rfl) ?_
  refine lv_sipush (v := 615) hx hb dX10_comesUp_22 (by decide) ?_
  refine lv_iadd hx hb dX10_comesUp_25 ?_
  refine lv_iload hx hb dX10_comesUp_26 (lv_at hl 0 rfl) ?_
  refine lv_iadd hx hb dX10_comesUp_28 ?_
  refine r_iald C hW h dX10_comesUp_29 (fun v4 h => ?_)
  refine lv_istore (lv' := [(8, .int v4), (7, .int (f_X10_choiceAt x2 x3 x4)), (0, .ref a), (1, .int x1), (2, .int x2), (3, .int x3), (4, .int x4), (5, .int x5), (6, .int x6)]) hx hb dX10_comesUp_30 hl (by decide) rfl (fun ls hl => ?_)
  refine lv_iload hx hb dX10_comesUp_32 (lv_at hl 0 rfl) ?_
  refine lv_iconst (v := (-1)) hx hb dX10_comesUp_34 (by decide) ?_
  refine r_br h (lv_icmp_eq (tgt := 41) hx hb dX10_comesUp_35 (by decide)) (fun h => ?_) (fun h => ?_)
  · refine lv_aload_n hx hb dX10_comesUp_41 rfl (lv_at hl 2 rfl) ?_
    refine r_gR C hW h fl_X10_41 (by decide) dX10_comesUp_42 (fun b5 h => ?_)
    refine lv_iconst (v := 5) hx hb dX10_comesUp_45 (by decide) ?_
    refine lv_aload_n hx hb dX10_comesUp_46 rfl (lv_at hl 2 rfl) ?_
    refine r_gI C hW h fl_X10_282 (by decide) dX10_comesUp_47 (fun v6 h => ?_)
    refine lv_imul hx hb dX10_comesUp_50 ?_
    refine lv_iload_n hx hb dX10_comesUp_51 rfl (lv_at hl 4 rfl) ?_
    refine r_iast C hW h dX10_comesUp_52 (fun X7 H locs h hW => ?_)
    refine lv_aload_n hx hb dX10_comesUp_53 rfl (lv_at hl 2 rfl) ?_
    refine r_gR C hW h fl_X10_41 (by decide) dX10_comesUp_54 (fun b8 h => ?_)
    refine lv_iconst (v := 5) hx hb dX10_comesUp_57 (by decide) ?_
    refine lv_aload_n hx hb dX10_comesUp_58 rfl (lv_at hl 2 rfl) ?_
    refine r_gI C hW h fl_X10_282 (by decide) dX10_comesUp_59 (fun v9 h => ?_)
    refine lv_imul hx hb dX10_comesUp_62 ?_
    refine lv_iconst (v := 1) hx hb dX10_comesUp_63 (by decide) ?_
    refine lv_iadd hx hb dX10_comesUp_64 ?_
    refine lv_iload_n hx hb dX10_comesUp_65 rfl (lv_at hl 5 rfl) ?_
    refine r_iast C hW h dX10_comesUp_66 (fun X10 H locs h hW => ?_)
    refine lv_aload_n hx hb dX10_comesUp_67 rfl (lv_at hl 2 rfl) ?_
    refine r_gR C hW h fl_X10_41 (by decide) dX10_comesUp_68 (fun b11 h => ?_)
    refine lv_iconst (v := 5) hx hb dX10_comesUp_71 (by decide) ?_
    refine lv_aload_n hx hb dX10_comesUp_72 rfl (lv_at hl 2 rfl) ?_
    refine r_gI C hW h fl_X10_282 (by decide) dX10_comesUp_73 (fun v12 h => ?_)
    refine lv_imul hx hb dX10_comesUp_76 ?_
    refine lv_iconst (v := 2) hx hb dX10_comesUp_77 (by decide) ?_
    refine lv_iadd hx hb dX10_comesUp_78 ?_
    refine lv_iload hx hb dX10_comesUp_79 (lv_at hl 6 rfl) ?_
    refine r_iast C hW h dX10_comesUp_81 (fun X13 H locs h hW => ?_)
    refine lv_aload_n hx hb dX10_comesUp_82 rfl (lv_at hl 2 rfl) ?_
    refine r_gR C hW h fl_X10_41 (by decide) dX10_comesUp_83 (fun b14 h => ?_)
    refine lv_iconst (v := 5) hx hb dX10_comesUp_86 (by decide) ?_
    refine lv_aload_n hx hb dX10_comesUp_87 rfl (lv_at hl 2 rfl) ?_
    refine r_gI C hW h fl_X10_282 (by decide) dX10_comesUp_88 (fun v15 h => ?_)
    refine lv_imul hx hb dX10_comesUp_91 ?_
    refine lv_iconst (v := 3) hx hb dX10_comesUp_92 (by decide) ?_
    refine lv_iadd hx hb dX10_comesUp_93 ?_
    refine lv_iload hx hb dX10_comesUp_94 (lv_at hl 7 rfl) ?_
    refine r_iast C hW h dX10_comesUp_96 (fun X16 H locs h hW => ?_)
    refine lv_aload_n hx hb dX10_comesUp_97 rfl (lv_at hl 2 rfl) ?_
    refine r_gR C hW h fl_X10_41 (by decide) dX10_comesUp_98 (fun b17 h => ?_)
    refine lv_iconst (v := 5) hx hb dX10_comesUp_101 (by decide) ?_
    refine lv_aload_n hx hb dX10_comesUp_102 rfl (lv_at hl 2 rfl) ?_
    refine r_gI C hW h fl_X10_282 (by decide) dX10_comesUp_103 (fun v18 h => ?_)
    refine lv_imul hx hb dX10_comesUp_106 ?_
    refine lv_iconst (v := 4) hx hb dX10_comesUp_107 (by decide) ?_
    refine lv_iadd hx hb dX10_comesUp_108 ?_
    refine lv_iload hx hb dX10_comesUp_109 (lv_at hl 8 rfl) ?_
    refine r_iast C hW h dX10_comesUp_111 (fun X19 H locs h hW => ?_)
    refine lv_aload_n hx hb dX10_comesUp_112 rfl (lv_at hl 2 rfl) ?_
    refine lv_dup hx hb dX10_comesUp_113 rfl ?_
    refine r_gI C hW h fl_X10_282 (by decide) dX10_comesUp_114 (fun v20 h => ?_)
    refine lv_iconst (v := 1) hx hb dX10_comesUp_117 (by decide) ?_
    refine lv_iadd hx hb dX10_comesUp_118 ?_
    refine r_pI C hW h pf_X10_282 (by decide) rfl rfl dX10_comesUp_119 (fun X21 H locs h hW => ?_)
    refine lv_iconst (v := (-1)) hx hb dX10_comesUp_122 (by decide) ?_
    exact r_iret C hW (Option.some.inj h).symm rfl dX10_comesUp_123
  · refine lv_iload hx hb dX10_comesUp_38 (lv_at hl 0 rfl) ?_
    exact r_iret C hW (Option.some.inj h).symm rfl dX10_comesUp_40
theorem kd_X10_baseCell {X : Mx} {r : Int32} {a : Nat} {x1 : Int32} {x2 : Int32} {x3 : Int32} (h : f_X10_baseCell σ X a x1 x2 x3 = some r) : shK σ a = 8 := (grd_inv h).1
set_option maxRecDepth 20000 in
set_option maxHeartbeats 2000000 in
theorem t_X10_baseCell {X : Mx} {r : Int32} {a : Nat} {x1 : Int32} {x2 : Int32} {x3 : Int32} (h : f_X10_baseCell σ X a x1 x2 x3 = some r) : MtI g l yX10_baseCell cX10_baseCell 4 (some .int) 2 45 [.ref a, .int x1, .int x2, .int x3] σ X (r, X) := by
  refine met_of mk_X10_baseCell (Nat.le_of_ble_eq_true rfl) (fun p e s m args below meth c ls C hW hl => ?_)
  have hx := C.x
  have hb := C.b
  have hl : lv_has ls 4 [(0, .ref a), (1, .int x1), (2, .int x2), (3, .int x3)] := hl
  unfold f_X10_baseCell at h
  obtain ⟨hk0, h⟩ := grd_inv h
  refine lv_aload_n hx hb dX10_baseCell_0 rfl (lv_at hl 0 rfl) ?_
  refine lv_iload_n hx hb dX10_baseCell_1 rfl (lv_at hl 1 rfl) ?_
  refine lv_iconst (v := 2) hx hb dX10_baseCell_2 (by decide) ?_
  refine lv_iload_n hx hb dX10_baseCell_3 rfl (lv_at hl 2 rfl) ?_
  obtain ⟨v2, h1, h⟩ := bnd_inv h
  refine r_cI hW (run_V (rest := []) C hW (t_X10_hasRow h1) mk_X10_hasRow vk_X10_160 (kd_X10_hasRow h1) rfl rfl (by decide) ⟨Nat.le_of_ble_eq_true rfl, Nat.le_of_ble_eq_true rfl⟩ ⟨Nat.zero_le _, Nat.zero_le _⟩ rfl rfl (Nat.le_of_ble_eq_true rfl) hl.1 dX10_baseCell_4) (fun H locs hW => ?_)
  refine r_br h (lv_if_eq (tgt := 35) hx hb dX10_baseCell_7 (by decide)) (fun h => ?_) (fun h => ?_)
  · refine lv_sipush (v := 9999) hx hb dX10_baseCell_35 (by decide) ?_
    exact r_iret C hW (rt_R h) rfl dX10_baseCell_38
  · refine lv_aload_n hx hb dX10_baseCell_10 rfl (lv_at hl 0 rfl) ?_
    refine lv_iload_n hx hb dX10_baseCell_11 rfl (lv_at hl 1 rfl) ?_
    refine lv_iconst (v := 2) hx hb dX10_baseCell_12 (by decide) ?_
    refine lv_iload_n hx hb dX10_baseCell_13 rfl (lv_at hl 3 rfl) ?_
    obtain ⟨v4, h3, h⟩ := bnd_inv h
    refine r_cI hW (run_V (rest := []) C hW (t_X10_hasColumn h3) mk_X10_hasColumn vk_X10_234 (kd_X10_hasColumn h3) rfl rfl (by decide) ⟨Nat.le_of_ble_eq_true rfl, Nat.le_of_ble_eq_true rfl⟩ ⟨Nat.zero_le _, Nat.zero_le _⟩ rfl rfl (Nat.le_of_ble_eq_true rfl) hl.1 dX10_baseCell_14) (fun H locs hW => ?_)
    refine r_br h (lv_if_eq (tgt := 35) hx hb dX10_baseCell_17 (by decide)) (fun h => ?_) (fun h => ?_)
    · refine lv_sipush (v := 9999) hx hb dX10_baseCell_35 (by decide) ?_
      exact r_iret C hW (rt_R h) rfl dX10_baseCell_38
    · refine lv_aload_n hx hb dX10_baseCell_20 rfl (lv_at hl 0 rfl) ?_
      refine r_gR C hW h fl_X10_20 (by decide) dX10_baseCell_21 (fun b5 h => ?_)
      refine lv_iload_n hx hb dX10_baseCell_24 rfl (lv_at hl 1 rfl) ?_
      refine lv_iconst (v := 2) hx hb dX10_baseCell_25 (by decide) ?_
      refine lv_iload_n hx hb dX10_baseCell_26 rfl (lv_at hl 2 rfl) ?_
      refine lv_iload_n hx hb dX10_baseCell_27 rfl (lv_at hl 3 rfl) ?_
      refine r_cI hW (run_S (rest := [.ref b5]) C hW (t_X10_cellAt (X := X)) mk_X10_cellAt sk_X10_174 ⟨Nat.le_of_ble_eq_true rfl, Nat.le_of_ble_eq_true rfl⟩ ⟨Nat.zero_le _, Nat.zero_le _⟩ rfl rfl (Nat.le_of_ble_eq_true rfl) hl.1 dX10_baseCell_28) (fun H locs hW => ?_)
      refine r_iald C hW h dX10_baseCell_31 (fun v6 h => ?_)
      refine lv_goto (tgt := 38) hx hb dX10_baseCell_32 (by decide) ?_
      exact r_iret C hW (rt_R h) rfl dX10_baseCell_38
theorem kd_X10_isChanged {X : Mx} {r : Int32} {a : Nat} {x1 : Int32} {x2 : Int32} {x3 : Int32} {x4 : Int32} (h : f_X10_isChanged σ X a x1 x2 x3 x4 = some r) : shK σ a = 8 := (grd_inv h).1
end
