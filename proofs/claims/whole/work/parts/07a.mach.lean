section
variable {p : Program} {l : Launch} {e : Env} {s : State} {m : MethodId} {args : Array Value} {below : List Frame} {meth : Method} {c : Code} {H : Heap} {locs : List Loc} {g : Gp} {σ : Sh} {ls : Array Slot}
theorem kd_X0_clear {X : Mx} {r : Mx} {a : Nat} (h : f_X0_clear σ X a = some r) : shK σ a = 0 := (grd_inv h).1
set_option maxRecDepth 20000 in
set_option maxHeartbeats 2000000 in
theorem t_X0_clear {X : Mx} {r : Mx} {a : Nat} (h : f_X0_clear σ X a = some r) : MtV g l yX0_clear cX0_clear 1 none 0 0 [.ref a] σ X r := by
  refine met_of mk_X0_clear (Nat.le_of_ble_eq_true rfl) (fun p e s m args below meth c ls C hW hl => ?_)
  have hx := C.x
  have hb := C.b
  have hl : lv_has ls 1 [(0, .ref a)] := hl
  unfold f_X0_clear at h
  obtain ⟨hk0, h⟩ := grd_inv h
  refine lv_aload_n hx hb dX0_clear_0 rfl (lv_at hl 0 rfl) ?_
  refine lv_iconst (v := 0) hx hb dX0_clear_1 (by decide) ?_
  refine r_pI C hW h pf_X0_17 (by decide) rfl rfl dX0_clear_2 (fun X1 H locs h hW _ => ?_)
  exact r_vret C hW (Option.some.inj h).symm dX0_clear_5
theorem kd_X0_keepPrepared {X : Mx} {r : Mx} {a : Nat} (h : f_X0_keepPrepared σ X a = some r) : shK σ a = 0 := (grd_inv h).1
set_option maxRecDepth 20000 in
set_option maxHeartbeats 2000000 in
theorem t_X0_keepPrepared {X : Mx} {r : Mx} {a : Nat} (h : f_X0_keepPrepared σ X a = some r) : MtV g l yX0_keepPrepared cX0_keepPrepared 1 none 0 0 [.ref a] σ X r := by
  refine met_of mk_X0_keepPrepared (Nat.le_of_ble_eq_true rfl) (fun p e s m args below meth c ls C hW hl => ?_)
  have hx := C.x
  have hb := C.b
  have hl : lv_has ls 1 [(0, .ref a)] := hl
  unfold f_X0_keepPrepared at h
  obtain ⟨hk0, h⟩ := grd_inv h
  refine lv_aload_n hx hb dX0_keepPrepared_0 rfl (lv_at hl 0 rfl) ?_
  refine r_gI C hW h fl_X0_17 (by decide) dX0_keepPrepared_1 (fun v1 h => ?_)
  refine lv_bipush (v := 30) hx hb dX0_keepPrepared_4 (by decide) ?_
  refine r_br h (lv_icmp_ge (tgt := 22) hx hb dX0_keepPrepared_6 (by decide)) (fun h => ?_) (fun h => ?_)
  · refine lv_aload_n hx hb dX0_keepPrepared_22 rfl (lv_at hl 0 rfl) ?_
    refine lv_aload_n hx hb dX0_keepPrepared_23 rfl (lv_at hl 0 rfl) ?_
    refine r_gI C hW h fl_X0_29 (by decide) dX0_keepPrepared_24 (fun v2 h => ?_)
    refine lv_iconst (v := 1) hx hb dX0_keepPrepared_27 (by decide) ?_
    refine lv_iadd hx hb dX0_keepPrepared_28 ?_
    refine lv_bipush (v := 31) hx hb dX0_keepPrepared_29 (by decide) ?_
    refine lv_irem hx hb dX0_keepPrepared_31 (by decide) ?_
    refine r_pI C hW h pf_X0_29 (by decide) rfl rfl dX0_keepPrepared_32 (fun X3 H locs h hW _ => ?_)
    exact r_vret C hW (Option.some.inj h).symm dX0_keepPrepared_35
  · refine lv_aload_n hx hb dX0_keepPrepared_9 rfl (lv_at hl 0 rfl) ?_
    refine lv_dup hx hb dX0_keepPrepared_10 rfl ?_
    refine r_gI C hW h fl_X0_17 (by decide) dX0_keepPrepared_11 (fun v4 h => ?_)
    refine lv_iconst (v := 1) hx hb dX0_keepPrepared_14 (by decide) ?_
    refine lv_iadd hx hb dX0_keepPrepared_15 ?_
    refine r_pI C hW h pf_X0_17 (by decide) rfl rfl dX0_keepPrepared_16 (fun X5 H locs h hW _ => ?_)
    refine lv_goto (tgt := 35) hx hb dX0_keepPrepared_19 (by decide) ?_
    exact r_vret C hW (Option.some.inj h).symm dX0_keepPrepared_35
set_option maxRecDepth 20000 in
set_option maxHeartbeats 2000000 in
theorem t_X1_within {X : Mx} {x0 : Int32} {x1 : Int32} : MtI g l yX1_within cX1_within 2 (some .boolean) 0 0 [.int x0, .int x1] σ X (f_X1_within x0 x1, X) := by
  obtain ⟨r, h⟩ : ∃ r, f_X1_within x0 x1 = r := ⟨_, rfl⟩
  rw [h]
  refine met_of mk_X1_within (Nat.le_of_ble_eq_true rfl) (fun p e s m args below meth c ls C hW hl => ?_)
  have hx := C.x
  have hb := C.b
  have hl : lv_has ls 2 [(0, .int x0), (1, .int x1)] := hl
  unfold f_X1_within at h
  refine lv_iload_n hx hb dX1_within_0 rfl (lv_at hl 0 rfl) ?_
  refine r_br h (lv_if_lt (tgt := 13) hx hb dX1_within_1 (by decide)) (fun h => ?_) (fun h => ?_)
  · refine lv_iconst (v := 0) hx hb dX1_within_13 (by decide) ?_
    exact r_iret C hW (rt_T h) rfl dX1_within_14
  · refine lv_iload_n hx hb dX1_within_4 rfl (lv_at hl 0 rfl) ?_
    refine lv_iload_n hx hb dX1_within_5 rfl (lv_at hl 1 rfl) ?_
    refine r_br h (lv_icmp_ge (tgt := 13) hx hb dX1_within_6 (by decide)) (fun h => ?_) (fun h => ?_)
    · refine lv_iconst (v := 0) hx hb dX1_within_13 (by decide) ?_
      exact r_iret C hW (rt_T h) rfl dX1_within_14
    · refine lv_iconst (v := 1) hx hb dX1_within_9 (by decide) ?_
      refine lv_goto (tgt := 14) hx hb dX1_within_10 (by decide) ?_
      exact r_iret C hW (rt_T h) rfl dX1_within_14
set_option maxRecDepth 20000 in
set_option maxHeartbeats 2000000 in
theorem t_X1_idOf {X : Mx} {x0 : Int32} {x1 : Int32} {x2 : Int32} : MtI g l yX1_idOf cX1_idOf 3 (some .int) 1 21 [.int x0, .int x1, .int x2] σ X (f_X1_idOf x0 x1 x2, X) := by
  obtain ⟨r, h⟩ : ∃ r, f_X1_idOf x0 x1 x2 = r := ⟨_, rfl⟩
  rw [h]
  refine met_of mk_X1_idOf (Nat.le_of_ble_eq_true rfl) (fun p e s m args below meth c ls C hW hl => ?_)
  have hx := C.x
  have hb := C.b
  have hl : lv_has ls 3 [(0, .int x0), (1, .int x1), (2, .int x2)] := hl
  unfold f_X1_idOf at h
  refine lv_iload_n hx hb dX1_idOf_0 rfl (lv_at hl 0 rfl) ?_
  refine r_case h (fun ec h => ?_) (fun nc0 h => ?_)
  · refine lv_tableIn (tgt := 44) (off := 43) hx hb dX1_idOf_1 (by rw [ec]; decide) (by rw [ec]; decide) (by rw [ec]; rfl) (by decide) ?_
    refine lv_iload_n hx hb dX1_idOf_44 rfl (lv_at hl 1 rfl) ?_
    refine lv_bipush (v := 9) hx hb dX1_idOf_45 (by decide) ?_
    refine r_cI hW (run_S (rest := []) C hW (t_X1_within (X := X)) mk_X1_within sk_X1_11 ⟨Nat.le_of_ble_eq_true rfl, Nat.le_of_ble_eq_true rfl⟩ ⟨Nat.zero_le _, Nat.zero_le _⟩ rfl rfl (Nat.le_of_ble_eq_true rfl) hl.1 dX1_idOf_47) (fun H locs hW _ => ?_)
    refine r_br h (lv_if_eq (tgt := 66) hx hb dX1_idOf_50 (by decide)) (fun h => ?_) (fun h => ?_)
    · refine lv_iconst (v := (-1)) hx hb dX1_idOf_66 (by decide) ?_
      exact r_iret C hW (rt_T h) rfl dX1_idOf_67
    · refine lv_iload_n hx hb dX1_idOf_53 rfl (lv_at hl 2 rfl) ?_
      refine r_brn h (lv_if_ne (tgt := 66) hx hb dX1_idOf_54 (by decide)) (fun h => ?_) (fun h => ?_)
      · refine lv_iconst (v := (-1)) hx hb dX1_idOf_66 (by decide) ?_
        exact r_iret C hW (rt_T h) rfl dX1_idOf_67
      · refine lv_iload_n hx hb dX1_idOf_57 rfl (lv_at hl 0 rfl) ?_
        refine lv_bipush (v := 9) hx hb dX1_idOf_58 (by decide) ?_
        refine lv_imul hx hb dX1_idOf_60 ?_
        refine lv_iload_n hx hb dX1_idOf_61 rfl (lv_at hl 1 rfl) ?_
        refine lv_iadd hx hb dX1_idOf_62 ?_
        refine lv_goto (tgt := 67) hx hb dX1_idOf_63 (by decide) ?_
        exact r_iret C hW (rt_T h) rfl dX1_idOf_67
  refine r_case h (fun ec h => ?_) (fun nc1 h => ?_)
  · refine lv_tableIn (tgt := 44) (off := 43) hx hb dX1_idOf_1 (by rw [ec]; decide) (by rw [ec]; decide) (by rw [ec]; rfl) (by decide) ?_
    refine lv_iload_n hx hb dX1_idOf_44 rfl (lv_at hl 1 rfl) ?_
    refine lv_bipush (v := 9) hx hb dX1_idOf_45 (by decide) ?_
    refine r_cI hW (run_S (rest := []) C hW (t_X1_within (X := X)) mk_X1_within sk_X1_11 ⟨Nat.le_of_ble_eq_true rfl, Nat.le_of_ble_eq_true rfl⟩ ⟨Nat.zero_le _, Nat.zero_le _⟩ rfl rfl (Nat.le_of_ble_eq_true rfl) hl.1 dX1_idOf_47) (fun H locs hW _ => ?_)
    refine r_br h (lv_if_eq (tgt := 66) hx hb dX1_idOf_50 (by decide)) (fun h => ?_) (fun h => ?_)
    · refine lv_iconst (v := (-1)) hx hb dX1_idOf_66 (by decide) ?_
      exact r_iret C hW (rt_T h) rfl dX1_idOf_67
    · refine lv_iload_n hx hb dX1_idOf_53 rfl (lv_at hl 2 rfl) ?_
      refine r_brn h (lv_if_ne (tgt := 66) hx hb dX1_idOf_54 (by decide)) (fun h => ?_) (fun h => ?_)
      · refine lv_iconst (v := (-1)) hx hb dX1_idOf_66 (by decide) ?_
        exact r_iret C hW (rt_T h) rfl dX1_idOf_67
      · refine lv_iload_n hx hb dX1_idOf_57 rfl (lv_at hl 0 rfl) ?_
        refine lv_bipush (v := 9) hx hb dX1_idOf_58 (by decide) ?_
        refine lv_imul hx hb dX1_idOf_60 ?_
        refine lv_iload_n hx hb dX1_idOf_61 rfl (lv_at hl 1 rfl) ?_
        refine lv_iadd hx hb dX1_idOf_62 ?_
        refine lv_goto (tgt := 67) hx hb dX1_idOf_63 (by decide) ?_
        exact r_iret C hW (rt_T h) rfl dX1_idOf_67
  refine r_case h (fun ec h => ?_) (fun nc2 h => ?_)
  · refine lv_tableIn (tgt := 44) (off := 43) hx hb dX1_idOf_1 (by rw [ec]; decide) (by rw [ec]; decide) (by rw [ec]; rfl) (by decide) ?_
    refine lv_iload_n hx hb dX1_idOf_44 rfl (lv_at hl 1 rfl) ?_
    refine lv_bipush (v := 9) hx hb dX1_idOf_45 (by decide) ?_
    refine r_cI hW (run_S (rest := []) C hW (t_X1_within (X := X)) mk_X1_within sk_X1_11 ⟨Nat.le_of_ble_eq_true rfl, Nat.le_of_ble_eq_true rfl⟩ ⟨Nat.zero_le _, Nat.zero_le _⟩ rfl rfl (Nat.le_of_ble_eq_true rfl) hl.1 dX1_idOf_47) (fun H locs hW _ => ?_)
    refine r_br h (lv_if_eq (tgt := 66) hx hb dX1_idOf_50 (by decide)) (fun h => ?_) (fun h => ?_)
    · refine lv_iconst (v := (-1)) hx hb dX1_idOf_66 (by decide) ?_
      exact r_iret C hW (rt_T h) rfl dX1_idOf_67
    · refine lv_iload_n hx hb dX1_idOf_53 rfl (lv_at hl 2 rfl) ?_
      refine r_brn h (lv_if_ne (tgt := 66) hx hb dX1_idOf_54 (by decide)) (fun h => ?_) (fun h => ?_)
      · refine lv_iconst (v := (-1)) hx hb dX1_idOf_66 (by decide) ?_
        exact r_iret C hW (rt_T h) rfl dX1_idOf_67
      · refine lv_iload_n hx hb dX1_idOf_57 rfl (lv_at hl 0 rfl) ?_
        refine lv_bipush (v := 9) hx hb dX1_idOf_58 (by decide) ?_
        refine lv_imul hx hb dX1_idOf_60 ?_
        refine lv_iload_n hx hb dX1_idOf_61 rfl (lv_at hl 1 rfl) ?_
        refine lv_iadd hx hb dX1_idOf_62 ?_
        refine lv_goto (tgt := 67) hx hb dX1_idOf_63 (by decide) ?_
        exact r_iret C hW (rt_T h) rfl dX1_idOf_67
  refine r_case h (fun ec h => ?_) (fun nc3 h => ?_)
  · refine lv_tableIn (tgt := 44) (off := 43) hx hb dX1_idOf_1 (by rw [ec]; decide) (by rw [ec]; decide) (by rw [ec]; rfl) (by decide) ?_
    refine lv_iload_n hx hb dX1_idOf_44 rfl (lv_at hl 1 rfl) ?_
    refine lv_bipush (v := 9) hx hb dX1_idOf_45 (by decide) ?_
    refine r_cI hW (run_S (rest := []) C hW (t_X1_within (X := X)) mk_X1_within sk_X1_11 ⟨Nat.le_of_ble_eq_true rfl, Nat.le_of_ble_eq_true rfl⟩ ⟨Nat.zero_le _, Nat.zero_le _⟩ rfl rfl (Nat.le_of_ble_eq_true rfl) hl.1 dX1_idOf_47) (fun H locs hW _ => ?_)
    refine r_br h (lv_if_eq (tgt := 66) hx hb dX1_idOf_50 (by decide)) (fun h => ?_) (fun h => ?_)
    · refine lv_iconst (v := (-1)) hx hb dX1_idOf_66 (by decide) ?_
      exact r_iret C hW (rt_T h) rfl dX1_idOf_67
    · refine lv_iload_n hx hb dX1_idOf_53 rfl (lv_at hl 2 rfl) ?_
      refine r_brn h (lv_if_ne (tgt := 66) hx hb dX1_idOf_54 (by decide)) (fun h => ?_) (fun h => ?_)
      · refine lv_iconst (v := (-1)) hx hb dX1_idOf_66 (by decide) ?_
        exact r_iret C hW (rt_T h) rfl dX1_idOf_67
      · refine lv_iload_n hx hb dX1_idOf_57 rfl (lv_at hl 0 rfl) ?_
        refine lv_bipush (v := 9) hx hb dX1_idOf_58 (by decide) ?_
        refine lv_imul hx hb dX1_idOf_60 ?_
        refine lv_iload_n hx hb dX1_idOf_61 rfl (lv_at hl 1 rfl) ?_
        refine lv_iadd hx hb dX1_idOf_62 ?_
        refine lv_goto (tgt := 67) hx hb dX1_idOf_63 (by decide) ?_
        exact r_iret C hW (rt_T h) rfl dX1_idOf_67
  refine r_case h (fun ec h => ?_) (fun nc4 h => ?_)
  · refine lv_tableIn (tgt := 68) (off := 67) hx hb dX1_idOf_1 (by rw [ec]; decide) (by rw [ec]; decide) (by rw [ec]; rfl) (by decide) ?_
    refine lv_iload_n hx hb dX1_idOf_68 rfl (lv_at hl 1 rfl) ?_
    refine lv_bipush (v := 20) hx hb dX1_idOf_69 (by decide) ?_
    refine r_cI hW (run_S (rest := []) C hW (t_X1_within (X := X)) mk_X1_within sk_X1_11 ⟨Nat.le_of_ble_eq_true rfl, Nat.le_of_ble_eq_true rfl⟩ ⟨Nat.zero_le _, Nat.zero_le _⟩ rfl rfl (Nat.le_of_ble_eq_true rfl) hl.1 dX1_idOf_71) (fun H locs hW _ => ?_)
    refine r_br h (lv_if_eq (tgt := 88) hx hb dX1_idOf_74 (by decide)) (fun h => ?_) (fun h => ?_)
    · refine lv_iconst (v := (-1)) hx hb dX1_idOf_88 (by decide) ?_
      exact r_iret C hW (rt_T h) rfl dX1_idOf_89
    · refine lv_iload_n hx hb dX1_idOf_77 rfl (lv_at hl 2 rfl) ?_
      refine r_brn h (lv_if_ne (tgt := 88) hx hb dX1_idOf_78 (by decide)) (fun h => ?_) (fun h => ?_)
      · refine lv_iconst (v := (-1)) hx hb dX1_idOf_88 (by decide) ?_
        exact r_iret C hW (rt_T h) rfl dX1_idOf_89
      · refine lv_bipush (v := 36) hx hb dX1_idOf_81 (by decide) ?_
        refine lv_iload_n hx hb dX1_idOf_83 rfl (lv_at hl 1 rfl) ?_
        refine lv_iadd hx hb dX1_idOf_84 ?_
        refine lv_goto (tgt := 89) hx hb dX1_idOf_85 (by decide) ?_
        exact r_iret C hW (rt_T h) rfl dX1_idOf_89
  refine r_case h (fun ec h => ?_) (fun nc5 h => ?_)
  · refine lv_tableIn (tgt := 90) (off := 89) hx hb dX1_idOf_1 (by rw [ec]; decide) (by rw [ec]; decide) (by rw [ec]; rfl) (by decide) ?_
    refine lv_iload_n hx hb dX1_idOf_90 rfl (lv_at hl 1 rfl) ?_
    refine lv_bipush (v := 20) hx hb dX1_idOf_91 (by decide) ?_
    refine r_cI hW (run_S (rest := []) C hW (t_X1_within (X := X)) mk_X1_within sk_X1_11 ⟨Nat.le_of_ble_eq_true rfl, Nat.le_of_ble_eq_true rfl⟩ ⟨Nat.zero_le _, Nat.zero_le _⟩ rfl rfl (Nat.le_of_ble_eq_true rfl) hl.1 dX1_idOf_93) (fun H locs hW _ => ?_)
    refine r_br h (lv_if_eq (tgt := 120) hx hb dX1_idOf_96 (by decide)) (fun h => ?_) (fun h => ?_)
    · refine lv_iconst (v := (-1)) hx hb dX1_idOf_120 (by decide) ?_
      exact r_iret C hW (rt_T h) rfl dX1_idOf_121
    · refine lv_iload_n hx hb dX1_idOf_99 rfl (lv_at hl 2 rfl) ?_
      refine lv_bipush (v := 9) hx hb dX1_idOf_100 (by decide) ?_
      refine r_cI hW (run_S (rest := []) C hW (t_X1_within (X := X)) mk_X1_within sk_X1_11 ⟨Nat.le_of_ble_eq_true rfl, Nat.le_of_ble_eq_true rfl⟩ ⟨Nat.zero_le _, Nat.zero_le _⟩ rfl rfl (Nat.le_of_ble_eq_true rfl) hl.1 dX1_idOf_102) (fun H locs hW _ => ?_)
      refine r_br h (lv_if_eq (tgt := 120) hx hb dX1_idOf_105 (by decide)) (fun h => ?_) (fun h => ?_)
      · refine lv_iconst (v := (-1)) hx hb dX1_idOf_120 (by decide) ?_
        exact r_iret C hW (rt_T h) rfl dX1_idOf_121
      · refine lv_bipush (v := 56) hx hb dX1_idOf_108 (by decide) ?_
        refine lv_iload_n hx hb dX1_idOf_110 rfl (lv_at hl 1 rfl) ?_
        refine lv_bipush (v := 9) hx hb dX1_idOf_111 (by decide) ?_
        refine lv_imul hx hb dX1_idOf_113 ?_
        refine lv_iadd hx hb dX1_idOf_114 ?_
        refine lv_iload_n hx hb dX1_idOf_115 rfl (lv_at hl 2 rfl) ?_
        refine lv_iadd hx hb dX1_idOf_116 ?_
        refine lv_goto (tgt := 121) hx hb dX1_idOf_117 (by decide) ?_
        exact r_iret C hW (rt_T h) rfl dX1_idOf_121
  refine r_case h (fun ec h => ?_) (fun nc6 h => ?_)
  · refine lv_tableIn (tgt := 122) (off := 121) hx hb dX1_idOf_1 (by rw [ec]; decide) (by rw [ec]; decide) (by rw [ec]; rfl) (by decide) ?_
    refine lv_iload_n hx hb dX1_idOf_122 rfl (lv_at hl 1 rfl) ?_
    refine lv_iconst (v := 4) hx hb dX1_idOf_123 (by decide) ?_
    refine r_cI hW (run_S (rest := []) C hW (t_X1_within (X := X)) mk_X1_within sk_X1_11 ⟨Nat.le_of_ble_eq_true rfl, Nat.le_of_ble_eq_true rfl⟩ ⟨Nat.zero_le _, Nat.zero_le _⟩ rfl rfl (Nat.le_of_ble_eq_true rfl) hl.1 dX1_idOf_124) (fun H locs hW _ => ?_)
    refine r_br h (lv_if_eq (tgt := 152) hx hb dX1_idOf_127 (by decide)) (fun h => ?_) (fun h => ?_)
    · refine lv_iconst (v := (-1)) hx hb dX1_idOf_152 (by decide) ?_
      exact r_iret C hW (rt_T h) rfl dX1_idOf_153
    · refine lv_iload_n hx hb dX1_idOf_130 rfl (lv_at hl 2 rfl) ?_
      refine lv_bipush (v := 20) hx hb dX1_idOf_131 (by decide) ?_
      refine r_cI hW (run_S (rest := []) C hW (t_X1_within (X := X)) mk_X1_within sk_X1_11 ⟨Nat.le_of_ble_eq_true rfl, Nat.le_of_ble_eq_true rfl⟩ ⟨Nat.zero_le _, Nat.zero_le _⟩ rfl rfl (Nat.le_of_ble_eq_true rfl) hl.1 dX1_idOf_133) (fun H locs hW _ => ?_)
      refine r_br h (lv_if_eq (tgt := 152) hx hb dX1_idOf_136 (by decide)) (fun h => ?_) (fun h => ?_)
      · refine lv_iconst (v := (-1)) hx hb dX1_idOf_152 (by decide) ?_
        exact r_iret C hW (rt_T h) rfl dX1_idOf_153
      · refine lv_sipush (v := 236) hx hb dX1_idOf_139 (by decide) ?_
        refine lv_iload_n hx hb dX1_idOf_142 rfl (lv_at hl 1 rfl) ?_
        refine lv_bipush (v := 20) hx hb dX1_idOf_143 (by decide) ?_
        refine lv_imul hx hb dX1_idOf_145 ?_
        refine lv_iadd hx hb dX1_idOf_146 ?_
        refine lv_iload_n hx hb dX1_idOf_147 rfl (lv_at hl 2 rfl) ?_
        refine lv_iadd hx hb dX1_idOf_148 ?_
        refine lv_goto (tgt := 153) hx hb dX1_idOf_149 (by decide) ?_
        exact r_iret C hW (rt_T h) rfl dX1_idOf_153
  refine lv_tableOut (tgt := 154) hx hb dX1_idOf_1 (sw_out (lo := 0) (n := 6) (sw_s nc6 (sw_s nc5 (sw_s nc4 (sw_s nc3 (sw_s nc2 (sw_s nc1 (sw_0 nc0))))))) (by decide)) (by decide) ?_
  refine lv_iconst (v := (-1)) hx hb dX1_idOf_154 (by decide) ?_
  exact r_iret C hW (rt_T h) rfl dX1_idOf_155
set_option maxRecDepth 20000 in
set_option maxHeartbeats 2000000 in
theorem t_X1_kindOf {X : Mx} {x0 : Int32} : MtI g l yX1_kindOf cX1_kindOf 1 (some .int) 0 0 [.int x0] σ X (f_X1_kindOf x0, X) := by
  obtain ⟨r, h⟩ : ∃ r, f_X1_kindOf x0 = r := ⟨_, rfl⟩
  rw [h]
  refine met_of mk_X1_kindOf (Nat.le_of_ble_eq_true rfl) (fun p e s m args below meth c ls C hW hl => ?_)
  have hx := C.x
  have hb := C.b
  have hl : lv_has ls 1 [(0, .int x0)] := hl
  unfold f_X1_kindOf at h
  refine lv_iload_n hx hb dX1_kindOf_0 rfl (lv_at hl 0 rfl) ?_
  refine lv_bipush (v := 36) hx hb dX1_kindOf_1 (by decide) ?_
  refine r_br h (lv_icmp_ge (tgt := 11) hx hb dX1_kindOf_3 (by decide)) (fun h => ?_) (fun h => ?_)
  · refine lv_iload_n hx hb dX1_kindOf_11 rfl (lv_at hl 0 rfl) ?_
    refine lv_bipush (v := 56) hx hb dX1_kindOf_12 (by decide) ?_
    refine r_br h (lv_icmp_ge (tgt := 19) hx hb dX1_kindOf_14 (by decide)) (fun h => ?_) (fun h => ?_)
    · refine lv_iload_n hx hb dX1_kindOf_19 rfl (lv_at hl 0 rfl) ?_
      refine lv_sipush (v := 236) hx hb dX1_kindOf_20 (by decide) ?_
      refine r_br h (lv_icmp_ge (tgt := 30) hx hb dX1_kindOf_23 (by decide)) (fun h => ?_) (fun h => ?_)
      · refine lv_bipush (v := 6) hx hb dX1_kindOf_30 (by decide) ?_
        exact r_iret C hW (rt_T h) rfl dX1_kindOf_32
      · refine lv_iconst (v := 5) hx hb dX1_kindOf_26 (by decide) ?_
        refine lv_goto (tgt := 32) hx hb dX1_kindOf_27 (by decide) ?_
        exact r_iret C hW (rt_T h) rfl dX1_kindOf_32
    · refine lv_iconst (v := 4) hx hb dX1_kindOf_17 (by decide) ?_
      exact r_iret C hW (rt_T h) rfl dX1_kindOf_18
  · refine lv_iload_n hx hb dX1_kindOf_6 rfl (lv_at hl 0 rfl) ?_
    refine lv_bipush (v := 9) hx hb dX1_kindOf_7 (by decide) ?_
    refine lv_idiv hx hb dX1_kindOf_9 (by decide) ?_
    exact r_iret C hW (rt_T h) rfl dX1_kindOf_10
set_option maxRecDepth 20000 in
set_option maxHeartbeats 2000000 in
theorem t_X1_firstOf {X : Mx} {x0 : Int32} : MtI g l yX1_firstOf cX1_firstOf 1 (some .int) 0 0 [.int x0] σ X (f_X1_firstOf x0, X) := by
  obtain ⟨r, h⟩ : ∃ r, f_X1_firstOf x0 = r := ⟨_, rfl⟩
  rw [h]
  refine met_of mk_X1_firstOf (Nat.le_of_ble_eq_true rfl) (fun p e s m args below meth c ls C hW hl => ?_)
  have hx := C.x
  have hb := C.b
  have hl : lv_has ls 1 [(0, .int x0)] := hl
  unfold f_X1_firstOf at h
  refine lv_iload_n hx hb dX1_firstOf_0 rfl (lv_at hl 0 rfl) ?_
  refine lv_bipush (v := 36) hx hb dX1_firstOf_1 (by decide) ?_
  refine r_br h (lv_icmp_ge (tgt := 11) hx hb dX1_firstOf_3 (by decide)) (fun h => ?_) (fun h => ?_)
  · refine lv_iload_n hx hb dX1_firstOf_11 rfl (lv_at hl 0 rfl) ?_
    refine lv_bipush (v := 56) hx hb dX1_firstOf_12 (by decide) ?_
    refine r_br h (lv_icmp_ge (tgt := 22) hx hb dX1_firstOf_14 (by decide)) (fun h => ?_) (fun h => ?_)
    · refine lv_iload_n hx hb dX1_firstOf_22 rfl (lv_at hl 0 rfl) ?_
      refine lv_sipush (v := 236) hx hb dX1_firstOf_23 (by decide) ?_
      refine r_br h (lv_icmp_ge (tgt := 39) hx hb dX1_firstOf_26 (by decide)) (fun h => ?_) (fun h => ?_)
      · refine lv_iload_n hx hb dX1_firstOf_39 rfl (lv_at hl 0 rfl) ?_
        refine lv_sipush (v := 236) hx hb dX1_firstOf_40 (by decide) ?_
        refine lv_isub hx hb dX1_firstOf_43 ?_
        refine lv_bipush (v := 20) hx hb dX1_firstOf_44 (by decide) ?_
        refine lv_idiv hx hb dX1_firstOf_46 (by decide) ?_
        exact r_iret C hW (rt_T h) rfl dX1_firstOf_47
      · refine lv_iload_n hx hb dX1_firstOf_29 rfl (lv_at hl 0 rfl) ?_
        refine lv_bipush (v := 56) hx hb dX1_firstOf_30 (by decide) ?_
        refine lv_isub hx hb dX1_firstOf_32 ?_
        refine lv_bipush (v := 9) hx hb dX1_firstOf_33 (by decide) ?_
        refine lv_idiv hx hb dX1_firstOf_35 (by decide) ?_
        refine lv_goto (tgt := 47) hx hb dX1_firstOf_36 (by decide) ?_
        exact r_iret C hW (rt_T h) rfl dX1_firstOf_47
    · refine lv_iload_n hx hb dX1_firstOf_17 rfl (lv_at hl 0 rfl) ?_
      refine lv_bipush (v := 36) hx hb dX1_firstOf_18 (by decide) ?_
      refine lv_isub hx hb dX1_firstOf_20 ?_
      exact r_iret C hW (rt_T h) rfl dX1_firstOf_21
  · refine lv_iload_n hx hb dX1_firstOf_6 rfl (lv_at hl 0 rfl) ?_
    refine lv_bipush (v := 9) hx hb dX1_firstOf_7 (by decide) ?_
    refine lv_irem hx hb dX1_firstOf_9 (by decide) ?_
    exact r_iret C hW (rt_T h) rfl dX1_firstOf_10
set_option maxRecDepth 20000 in
set_option maxHeartbeats 2000000 in
theorem t_X1_secondOf {X : Mx} {x0 : Int32} : MtI g l yX1_secondOf cX1_secondOf 1 (some .int) 0 0 [.int x0] σ X (f_X1_secondOf x0, X) := by
  obtain ⟨r, h⟩ : ∃ r, f_X1_secondOf x0 = r := ⟨_, rfl⟩
  rw [h]
  refine met_of mk_X1_secondOf (Nat.le_of_ble_eq_true rfl) (fun p e s m args below meth c ls C hW hl => ?_)
  have hx := C.x
  have hb := C.b
  have hl : lv_has ls 1 [(0, .int x0)] := hl
  unfold f_X1_secondOf at h
  refine lv_iload_n hx hb dX1_secondOf_0 rfl (lv_at hl 0 rfl) ?_
  refine lv_bipush (v := 56) hx hb dX1_secondOf_1 (by decide) ?_
  refine r_br h (lv_icmp_ge (tgt := 8) hx hb dX1_secondOf_3 (by decide)) (fun h => ?_) (fun h => ?_)
  · refine lv_iload_n hx hb dX1_secondOf_8 rfl (lv_at hl 0 rfl) ?_
    refine lv_sipush (v := 236) hx hb dX1_secondOf_9 (by decide) ?_
    refine r_br h (lv_icmp_ge (tgt := 25) hx hb dX1_secondOf_12 (by decide)) (fun h => ?_) (fun h => ?_)
    · refine lv_iload_n hx hb dX1_secondOf_25 rfl (lv_at hl 0 rfl) ?_
      refine lv_sipush (v := 236) hx hb dX1_secondOf_26 (by decide) ?_
      refine lv_isub hx hb dX1_secondOf_29 ?_
      refine lv_bipush (v := 20) hx hb dX1_secondOf_30 (by decide) ?_
      refine lv_irem hx hb dX1_secondOf_32 (by decide) ?_
      exact r_iret C hW (rt_T h) rfl dX1_secondOf_33
    · refine lv_iload_n hx hb dX1_secondOf_15 rfl (lv_at hl 0 rfl) ?_
      refine lv_bipush (v := 56) hx hb dX1_secondOf_16 (by decide) ?_
      refine lv_isub hx hb dX1_secondOf_18 ?_
      refine lv_bipush (v := 9) hx hb dX1_secondOf_19 (by decide) ?_
      refine lv_irem hx hb dX1_secondOf_21 (by decide) ?_
      refine lv_goto (tgt := 33) hx hb dX1_secondOf_22 (by decide) ?_
      exact r_iret C hW (rt_T h) rfl dX1_secondOf_33
  · refine lv_iconst (v := 0) hx hb dX1_secondOf_6 (by decide) ?_
    exact r_iret C hW (rt_T h) rfl dX1_secondOf_7
set_option maxRecDepth 20000 in
set_option maxHeartbeats 2000000 in
theorem t_X1_isOfSides {X : Mx} {x0 : Int32} : MtI g l yX1_isOfSides cX1_isOfSides 2 (some .boolean) 1 20 [.int x0] σ X (f_X1_isOfSides x0, X) := by
  obtain ⟨r, h⟩ : ∃ r, f_X1_isOfSides x0 = r := ⟨_, rfl⟩
  rw [h]
  refine met_of mk_X1_isOfSides (Nat.le_of_ble_eq_true rfl) (fun p e s m args below meth c ls C hW hl => ?_)
  have hx := C.x
  have hb := C.b
  have hl : lv_has ls 2 [(0, .int x0)] := hl
  unfold f_X1_isOfSides at h
  refine lv_iload_n hx hb dX1_isOfSides_0 rfl (lv_at hl 0 rfl) ?_
  refine r_cI hW (run_S (rest := []) C hW (t_X1_kindOf (X := X)) mk_X1_kindOf sk_X1_19 ⟨Nat.le_of_ble_eq_true rfl, Nat.le_of_ble_eq_true rfl⟩ ⟨Nat.zero_le _, Nat.zero_le _⟩ rfl rfl (Nat.le_of_ble_eq_true rfl) hl.1 dX1_isOfSides_1) (fun H locs hW _ => ?_)
  refine lv_istore_n (lv' := [(1, .int (f_X1_kindOf x0)), (0, .int x0)]) hx hb dX1_isOfSides_4 rfl hl (by decide) rfl (fun ls hl => ?_)
  refine lv_iload_n hx hb dX1_isOfSides_5 rfl (lv_at hl 0 rfl) ?_
  refine lv_iconst (v := 1) hx hb dX1_isOfSides_6 (by decide) ?_
  refine r_br h (lv_icmp_eq (tgt := 20) hx hb dX1_isOfSides_7 (by decide)) (fun h => ?_) (fun h => ?_)
  · refine lv_iconst (v := 1) hx hb dX1_isOfSides_20 (by decide) ?_
    refine lv_goto (tgt := 25) hx hb dX1_isOfSides_21 (by decide) ?_
    exact r_iret C hW (rt_T h) rfl dX1_isOfSides_25
  · refine lv_iload_n hx hb dX1_isOfSides_10 rfl (lv_at hl 0 rfl) ?_
    refine lv_iconst (v := 2) hx hb dX1_isOfSides_11 (by decide) ?_
    refine r_br h (lv_icmp_eq (tgt := 20) hx hb dX1_isOfSides_12 (by decide)) (fun h => ?_) (fun h => ?_)
    · refine lv_iconst (v := 1) hx hb dX1_isOfSides_20 (by decide) ?_
      refine lv_goto (tgt := 25) hx hb dX1_isOfSides_21 (by decide) ?_
      exact r_iret C hW (rt_T h) rfl dX1_isOfSides_25
    · refine lv_iload_n hx hb dX1_isOfSides_15 rfl (lv_at hl 0 rfl) ?_
      refine lv_iconst (v := 5) hx hb dX1_isOfSides_16 (by decide) ?_
      refine r_brn h (lv_icmp_ne (tgt := 24) hx hb dX1_isOfSides_17 (by decide)) (fun h => ?_) (fun h => ?_)
      · refine lv_iconst (v := 0) hx hb dX1_isOfSides_24 (by decide) ?_
        exact r_iret C hW (rt_T h) rfl dX1_isOfSides_25
      · refine lv_iconst (v := 1) hx hb dX1_isOfSides_20 (by decide) ?_
        refine lv_goto (tgt := 25) hx hb dX1_isOfSides_21 (by decide) ?_
        exact r_iret C hW (rt_T h) rfl dX1_isOfSides_25
set_option maxRecDepth 20000 in
set_option maxHeartbeats 2000000 in
theorem t_X1_choicesOf {X : Mx} {x0 : Int32} : MtI g l yX1_choicesOf cX1_choicesOf 1 (some .int) 2 41 [.int x0] σ X (f_X1_choicesOf x0, X) := by
  obtain ⟨r, h⟩ : ∃ r, f_X1_choicesOf x0 = r := ⟨_, rfl⟩
  rw [h]
  refine met_of mk_X1_choicesOf (Nat.le_of_ble_eq_true rfl) (fun p e s m args below meth c ls C hW hl => ?_)
  have hx := C.x
  have hb := C.b
  have hl : lv_has ls 1 [(0, .int x0)] := hl
  unfold f_X1_choicesOf at h
  refine lv_iload_n hx hb dX1_choicesOf_0 rfl (lv_at hl 0 rfl) ?_
  refine r_cI hW (run_S (rest := []) C hW (t_X1_isOfSides (X := X)) mk_X1_isOfSides sk_X1_15 ⟨Nat.le_of_ble_eq_true rfl, Nat.le_of_ble_eq_true rfl⟩ ⟨Nat.zero_le _, Nat.zero_le _⟩ rfl rfl (Nat.le_of_ble_eq_true rfl) hl.1 dX1_choicesOf_1) (fun H locs hW _ => ?_)
  refine r_br h (lv_if_eq (tgt := 11) hx hb dX1_choicesOf_4 (by decide)) (fun h => ?_) (fun h => ?_)
  · refine lv_iconst (v := 2) hx hb dX1_choicesOf_11 (by decide) ?_
    exact r_iret C hW (rt_T h) rfl dX1_choicesOf_12
  · refine lv_iconst (v := 3) hx hb dX1_choicesOf_7 (by decide) ?_
    refine lv_goto (tgt := 12) hx hb dX1_choicesOf_8 (by decide) ?_
    exact r_iret C hW (rt_T h) rfl dX1_choicesOf_12
theorem kd_X2_ask {X : Mx} {r : (Int32 × Mx)} {a : Nat} {a1 : Nat} {x2 : Int32} {x3 : Int32} {x4 : Int32} (h : f_X2_ask σ X a a1 x2 x3 x4 = some r) : shK σ a = 1 := (grd_inv h).1
set_option maxRecDepth 20000 in
set_option maxHeartbeats 2000000 in
theorem t_X2_ask {X : Mx} {r : (Int32 × Mx)} {a : Nat} {a1 : Nat} {x2 : Int32} {x3 : Int32} {x4 : Int32} (h : f_X2_ask σ X a a1 x2 x3 x4 = some r) : MtI g l yX2_ask cX2_ask 6 (some .int) 0 0 [.ref a, .ref a1, .int x2, .int x3, .int x4] σ X r := by
  refine met_of mk_X2_ask (Nat.le_of_ble_eq_true rfl) (fun p e s m args below meth c ls C hW hl => ?_)
  have hx := C.x
  have hb := C.b
  have hl : lv_has ls 6 [(0, .ref a), (1, .ref a1), (2, .int x2), (3, .int x3), (4, .int x4)] := hl
  unfold f_X2_ask at h
  obtain ⟨hk0, h⟩ := grd_inv h
  refine lv_iload_n hx hb dX2_ask_0 rfl (lv_at hl 2 rfl) ?_
  refine r_br h (lv_if_lt (tgt := 11) hx hb dX2_ask_1 (by decide)) (fun h => ?_) (fun h => ?_)
  · refine lv_iconst (v := (-1)) hx hb dX2_ask_11 (by decide) ?_
    exact r_iret C hW (Option.some.inj h).symm rfl dX2_ask_12
  · refine lv_iload_n hx hb dX2_ask_4 rfl (lv_at hl 2 rfl) ?_
    refine lv_sipush (v := 316) hx hb dX2_ask_5 (by decide) ?_
    refine r_br h (lv_icmp_lt (tgt := 13) hx hb dX2_ask_8 (by decide)) (fun h => ?_) (fun h => ?_)
    · refine lv_aload_n hx hb dX2_ask_13 rfl (lv_at hl 1 rfl) ?_
      refine r_gR C hW h fl_X2_79 (by decide) dX2_ask_14 (fun b1 h => ?_)
      refine lv_iload_n hx hb dX2_ask_17 rfl (lv_at hl 2 rfl) ?_
      refine r_iald C hW h dX2_ask_18 (fun v2 h => ?_)
      refine lv_istore (lv' := [(5, .int v2), (0, .ref a), (1, .ref a1), (2, .int x2), (3, .int x3), (4, .int x4)]) hx hb dX2_ask_19 hl (by decide) rfl (fun ls hl => ?_)
      refine lv_iload hx hb dX2_ask_21 (lv_at hl 0 rfl) ?_
      refine lv_iconst (v := (-1)) hx hb dX2_ask_23 (by decide) ?_
      refine r_br h (lv_icmp_eq (tgt := 40) hx hb dX2_ask_24 (by decide)) (fun h => ?_) (fun h => ?_)
      · refine lv_aload_n hx hb dX2_ask_40 rfl (lv_at hl 1 rfl) ?_
        refine r_gI C hW h fl_X2_37 (by decide) dX2_ask_41 (fun v3 h => ?_)
        refine lv_sipush (v := 316) hx hb dX2_ask_44 (by decide) ?_
        refine r_br h (lv_icmp_ge (tgt := 91) hx hb dX2_ask_47 (by decide)) (fun h => ?_) (fun h => ?_)
        · refine lv_iload hx hb dX2_ask_91 (lv_at hl 0 rfl) ?_
          exact r_iret C hW (Option.some.inj h).symm rfl dX2_ask_93
        · refine lv_aload_n hx hb dX2_ask_50 rfl (lv_at hl 1 rfl) ?_
          refine r_gR C hW h fl_X2_22 (by decide) dX2_ask_51 (fun b4 h => ?_)
          refine lv_aload_n hx hb dX2_ask_54 rfl (lv_at hl 1 rfl) ?_
          refine r_gI C hW h fl_X2_37 (by decide) dX2_ask_55 (fun v5 h => ?_)
          refine lv_iload_n hx hb dX2_ask_58 rfl (lv_at hl 3 rfl) ?_
          refine r_iast C hW h dX2_ask_59 (fun X6 H locs h hW _ => ?_)
          refine lv_aload_n hx hb dX2_ask_60 rfl (lv_at hl 1 rfl) ?_
          refine r_gR C hW h fl_X2_25 (by decide) dX2_ask_61 (fun b7 h => ?_)
          refine lv_aload_n hx hb dX2_ask_64 rfl (lv_at hl 1 rfl) ?_
          refine r_gI C hW h fl_X2_37 (by decide) dX2_ask_65 (fun v8 h => ?_)
          refine lv_iload_n hx hb dX2_ask_68 rfl (lv_at hl 4 rfl) ?_
          refine r_iast C hW h dX2_ask_69 (fun X9 H locs h hW _ => ?_)
          refine lv_aload_n hx hb dX2_ask_70 rfl (lv_at hl 1 rfl) ?_
          refine r_gR C hW h fl_X2_28 (by decide) dX2_ask_71 (fun b10 h => ?_)
          refine lv_aload_n hx hb dX2_ask_74 rfl (lv_at hl 1 rfl) ?_
          refine r_gI C hW h fl_X2_37 (by decide) dX2_ask_75 (fun v11 h => ?_)
          refine lv_iload hx hb dX2_ask_78 (lv_at hl 5 rfl) ?_
          refine r_iast C hW h dX2_ask_80 (fun X12 H locs h hW _ => ?_)
          refine lv_aload_n hx hb dX2_ask_81 rfl (lv_at hl 1 rfl) ?_
          refine lv_dup hx hb dX2_ask_82 rfl ?_
          refine r_gI C hW h fl_X2_37 (by decide) dX2_ask_83 (fun v13 h => ?_)
          refine lv_iconst (v := 1) hx hb dX2_ask_86 (by decide) ?_
          refine lv_iadd hx hb dX2_ask_87 ?_
          refine r_pI C hW h pf_X2_37 (by decide) rfl rfl dX2_ask_88 (fun X14 H locs h hW _ => ?_)
          refine lv_iload hx hb dX2_ask_91 (lv_at hl 0 rfl) ?_
          exact r_iret C hW (Option.some.inj h).symm rfl dX2_ask_93
      · refine lv_aload_n hx hb dX2_ask_27 rfl (lv_at hl 1 rfl) ?_
        refine lv_dup hx hb dX2_ask_28 rfl ?_
        refine r_gI C hW h fl_X2_41 (by decide) dX2_ask_29 (fun v15 h => ?_)
        refine lv_iconst (v := 1) hx hb dX2_ask_32 (by decide) ?_
        refine lv_iadd hx hb dX2_ask_33 ?_
        refine r_pI C hW h pf_X2_41 (by decide) rfl rfl dX2_ask_34 (fun X16 H locs h hW _ => ?_)
        refine lv_goto (tgt := 91) hx hb dX2_ask_37 (by decide) ?_
        refine lv_iload hx hb dX2_ask_91 (lv_at hl 0 rfl) ?_
        exact r_iret C hW (Option.some.inj h).symm rfl dX2_ask_93
    · refine lv_iconst (v := (-1)) hx hb dX2_ask_11 (by decide) ?_
      exact r_iret C hW (Option.some.inj h).symm rfl dX2_ask_12
theorem kd_X6_numberAt {X : Mx} {r : Int32} {a : Nat} {x1 : Int32} {x2 : Int32} (h : f_X6_numberAt σ X a x1 x2 = some r) : shK σ a = 5 := (grd_inv h).1
set_option maxRecDepth 20000 in
set_option maxHeartbeats 2000000 in
theorem t_X6_numberAt {X : Mx} {r : Int32} {a : Nat} {x1 : Int32} {x2 : Int32} (h : f_X6_numberAt σ X a x1 x2 = some r) : MtI g l yX6_numberAt cX6_numberAt 3 (some .int) 0 0 [.ref a, .int x1, .int x2] σ X (r, X) := by
  refine met_of mk_X6_numberAt (Nat.le_of_ble_eq_true rfl) (fun p e s m args below meth c ls C hW hl => ?_)
  have hx := C.x
  have hb := C.b
  have hl : lv_has ls 3 [(0, .ref a), (1, .int x1), (2, .int x2)] := hl
  unfold f_X6_numberAt at h
  obtain ⟨hk0, h⟩ := grd_inv h
  refine lv_iload_n hx hb dX6_numberAt_0 rfl (lv_at hl 1 rfl) ?_
  refine r_br h (lv_if_lt (tgt := 20) hx hb dX6_numberAt_1 (by decide)) (fun h => ?_) (fun h => ?_)
  · refine lv_sipush (v := 9999) hx hb dX6_numberAt_20 (by decide) ?_
    exact r_iret C hW (rt_R h) rfl dX6_numberAt_23
  · refine lv_iload_n hx hb dX6_numberAt_4 rfl (lv_at hl 1 rfl) ?_
    refine lv_bipush (v := 20) hx hb dX6_numberAt_5 (by decide) ?_
    refine r_br h (lv_icmp_ge (tgt := 20) hx hb dX6_numberAt_7 (by decide)) (fun h => ?_) (fun h => ?_)
    · refine lv_sipush (v := 9999) hx hb dX6_numberAt_20 (by decide) ?_
      exact r_iret C hW (rt_R h) rfl dX6_numberAt_23
    · refine lv_iload_n hx hb dX6_numberAt_10 rfl (lv_at hl 2 rfl) ?_
      refine r_br h (lv_if_lt (tgt := 20) hx hb dX6_numberAt_11 (by decide)) (fun h => ?_) (fun h => ?_)
      · refine lv_sipush (v := 9999) hx hb dX6_numberAt_20 (by decide) ?_
        exact r_iret C hW (rt_R h) rfl dX6_numberAt_23
      · refine lv_iload_n hx hb dX6_numberAt_14 rfl (lv_at hl 2 rfl) ?_
        refine lv_bipush (v := 9) hx hb dX6_numberAt_15 (by decide) ?_
        refine r_br h (lv_icmp_lt (tgt := 24) hx hb dX6_numberAt_17 (by decide)) (fun h => ?_) (fun h => ?_)
        · refine lv_aload_n hx hb dX6_numberAt_24 rfl (lv_at hl 0 rfl) ?_
          refine r_gR C hW h fl_X6_18 (by decide) dX6_numberAt_25 (fun b1 h => ?_)
          refine lv_iload_n hx hb dX6_numberAt_28 rfl (lv_at hl 1 rfl) ?_
          refine lv_bipush (v := 9) hx hb dX6_numberAt_29 (by decide) ?_
          refine lv_imul hx hb dX6_numberAt_31 ?_
          refine lv_iload_n hx hb dX6_numberAt_32 rfl (lv_at hl 2 rfl) ?_
          refine lv_iadd hx hb dX6_numberAt_33 ?_
          refine r_iald C hW h dX6_numberAt_34 (fun v2 h => ?_)
          exact r_iret C hW (rt_R h) rfl dX6_numberAt_35
        · refine lv_sipush (v := 9999) hx hb dX6_numberAt_20 (by decide) ?_
          exact r_iret C hW (rt_R h) rfl dX6_numberAt_23
set_option maxRecDepth 20000 in
set_option maxHeartbeats 2000000 in
theorem b_X2_isAtLesserKey_3 {a : Nat} {x1 : Int32} {x2 : Int32} {x3 : Int32} (C : Cx g RX2 cX2_isAtLesserKey 5 (some .boolean) p s m args meth c) {r : Int32} {X : Mx} : ∀ (n : Nat) {x4 : Int32} {H : Heap} {locs : List Loc} {ls : Array Slot} (hW : Wd g σ X s H locs) (hl : lv_has ls 5 [(0, .ref a), (1, .int x1), (2, .int x2), (3, .int x3), (4, .int x4)]) (h : f_X2_isAtLesserKey_3 σ X a x1 x2 x3 n x4 = some r), W p l e (rmZ 1 22) s m args below meth c H locs 0 0 (QI g σ below args s (r, X)) (F0 m 3 ls []) := by
  have hx := C.x
  have hb := C.b
  intro n
  induction n with
  | zero =>
    intro x4 H locs ls hW hl h
    cases (show none = some r from h)
  | succ n ih =>
    intro x4 H locs ls hW hl h
    rw [f_X2_isAtLesserKey_3] at h
    refine lv_iload hx hb dX2_isAtLesserKey_3 (lv_at hl 4 rfl) ?_
    refine lv_iload_n hx hb dX2_isAtLesserKey_5 rfl (lv_at hl 3 rfl) ?_
    refine r_br h (lv_icmp_ge (tgt := 38) hx hb dX2_isAtLesserKey_6 (by decide)) (fun h => ?_) (fun h => ?_)
    · refine lv_iconst (v := 0) hx hb dX2_isAtLesserKey_38 (by decide) ?_
      exact r_iret C hW (rt_R h) rfl dX2_isAtLesserKey_39
    · refine lv_iload hx hb dX2_isAtLesserKey_9 (lv_at hl 4 rfl) ?_
      refine lv_bipush (v := 20) hx hb dX2_isAtLesserKey_11 (by decide) ?_
      refine r_br h (lv_icmp_ge (tgt := 38) hx hb dX2_isAtLesserKey_13 (by decide)) (fun h => ?_) (fun h => ?_)
      · refine lv_iconst (v := 0) hx hb dX2_isAtLesserKey_38 (by decide) ?_
        exact r_iret C hW (rt_R h) rfl dX2_isAtLesserKey_39
      · refine lv_aload_n hx hb dX2_isAtLesserKey_16 rfl (lv_at hl 0 rfl) ?_
        refine r_gR C hW h fl_X2_12 (by decide) dX2_isAtLesserKey_17 (fun b1 h => ?_)
        refine lv_iload hx hb dX2_isAtLesserKey_20 (lv_at hl 4 rfl) ?_
        refine lv_iload_n hx hb dX2_isAtLesserKey_22 rfl (lv_at hl 2 rfl) ?_
        obtain ⟨v3, h2, h⟩ := bnd_inv h
        refine r_cI hW (run_V (rest := []) C hW (t_X6_numberAt h2) mk_X6_numberAt vk_X2_164 (kd_X6_numberAt h2) rfl rfl (by decide) ⟨Nat.le_of_ble_eq_true rfl, Nat.le_of_ble_eq_true rfl⟩ ⟨Nat.zero_le _, Nat.zero_le _⟩ rfl rfl (Nat.le_of_ble_eq_true rfl) hl.1 dX2_isAtLesserKey_23) (fun H locs hW _ => ?_)
        refine lv_iload_n hx hb dX2_isAtLesserKey_26 rfl (lv_at hl 1 rfl) ?_
        refine r_brn h (lv_icmp_ne (tgt := 32) hx hb dX2_isAtLesserKey_27 (by decide)) (fun h => ?_) (fun h => ?_)
        · refine lv_iinc (v := (x4 + 1)) (lv' := [(4, .int (x4 + 1)), (0, .ref a), (1, .int x1), (2, .int x2), (3, .int x3)]) hx hb dX2_isAtLesserKey_32 hl (k := 4) rfl rfl (by decide) rfl (fun ls hl => ?_)
          refine lv_goto (tgt := 3) hx hb dX2_isAtLesserKey_35 (by decide) ?_
          exact ih hW (lv_sub hl [1, 2, 3, 4, 0] rfl) h
        · refine lv_iconst (v := 1) hx hb dX2_isAtLesserKey_30 (by decide) ?_
          exact r_iret C hW (rt_R h) rfl dX2_isAtLesserKey_31
theorem kd_X2_isAtLesserKey {X : Mx} {r : Int32} {a : Nat} {x1 : Int32} {x2 : Int32} {x3 : Int32} (h : f_X2_isAtLesserKey σ X a x1 x2 x3 = some r) : shK σ a = 1 := (grd_inv h).1
set_option maxRecDepth 20000 in
set_option maxHeartbeats 2000000 in
theorem t_X2_isAtLesserKey {X : Mx} {r : Int32} {a : Nat} {x1 : Int32} {x2 : Int32} {x3 : Int32} (h : f_X2_isAtLesserKey σ X a x1 x2 x3 = some r) : MtI g l yX2_isAtLesserKey cX2_isAtLesserKey 5 (some .boolean) 1 22 [.ref a, .int x1, .int x2, .int x3] σ X (r, X) := by
  refine met_of mk_X2_isAtLesserKey (Nat.le_of_ble_eq_true rfl) (fun p e s m args below meth c ls C hW hl => ?_)
  have hx := C.x
  have hb := C.b
  have hl : lv_has ls 5 [(0, .ref a), (1, .int x1), (2, .int x2), (3, .int x3)] := hl
  unfold f_X2_isAtLesserKey at h
  obtain ⟨hk0, h⟩ := grd_inv h
  refine lv_iconst (v := 0) hx hb dX2_isAtLesserKey_0 (by decide) ?_
  refine lv_istore (lv' := [(4, .int 0), (0, .ref a), (1, .int x1), (2, .int x2), (3, .int x3)]) hx hb dX2_isAtLesserKey_1 hl (by decide) rfl (fun ls hl => ?_)
  exact b_X2_isAtLesserKey_3 C FU hW (lv_sub hl [1, 2, 3, 4, 0] rfl) h
theorem kd_X2_isBroken {X : Mx} {r : Int32} {a : Nat} {x1 : Int32} {x2 : Int32} {x3 : Int32} {x4 : Int32} (h : f_X2_isBroken σ X a x1 x2 x3 x4 = some r) : shK σ a = 1 := (grd_inv h).1
set_option maxRecDepth 20000 in
set_option maxHeartbeats 2000000 in
theorem t_X2_isBroken {X : Mx} {r : Int32} {a : Nat} {x1 : Int32} {x2 : Int32} {x3 : Int32} {x4 : Int32} (h : f_X2_isBroken σ X a x1 x2 x3 x4 = some r) : MtI g l yX2_isBroken cX2_isBroken 7 (some .boolean) 2 46 [.ref a, .int x1, .int x2, .int x3, .int x4] σ X (r, X) := by
  refine met_of mk_X2_isBroken (Nat.le_of_ble_eq_true rfl) (fun p e s m args below meth c ls C hW hl => ?_)
  have hx := C.x
  have hb := C.b
  have hl : lv_has ls 7 [(0, .ref a), (1, .int x1), (2, .int x2), (3, .int x3), (4, .int x4)] := hl
  unfold f_X2_isBroken at h
  obtain ⟨hk0, h⟩ := grd_inv h
  refine lv_aload_n hx hb dX2_isBroken_0 rfl (lv_at hl 0 rfl) ?_
  refine r_gR C hW h fl_X2_12 (by decide) dX2_isBroken_1 (fun b1 h => ?_)
  refine lv_iload hx hb dX2_isBroken_4 (lv_at hl 4 rfl) ?_
  refine lv_iload_n hx hb dX2_isBroken_6 rfl (lv_at hl 2 rfl) ?_
  obtain ⟨v3, h2, h⟩ := bnd_inv h
  refine r_cI hW (run_V (rest := []) C hW (t_X6_numberAt h2) mk_X6_numberAt vk_X2_164 (kd_X6_numberAt h2) rfl rfl (by decide) ⟨Nat.le_of_ble_eq_true rfl, Nat.le_of_ble_eq_true rfl⟩ ⟨Nat.zero_le _, Nat.zero_le _⟩ rfl rfl (Nat.le_of_ble_eq_true rfl) hl.1 dX2_isBroken_7) (fun H locs hW _ => ?_)
  refine lv_istore (lv' := [(5, .int v3), (0, .ref a), (1, .int x1), (2, .int x2), (3, .int x3), (4, .int x4)]) hx hb dX2_isBroken_10 hl (by decide) rfl (fun ls hl => ?_)
  refine lv_iload_n hx hb dX2_isBroken_12 rfl (lv_at hl 2 rfl) ?_
  refine r_case h (fun ec h => ?_) (fun nc0 h => ?_)
  · refine lv_tableIn (tgt := 40) (off := 27) hx hb dX2_isBroken_13 (by rw [ec]; decide) (by rw [ec]; decide) (by rw [ec]; rfl) (by decide) ?_
    refine lv_iload hx hb dX2_isBroken_40 (lv_at hl 0 rfl) ?_
    refine lv_sipush (v := 9999) hx hb dX2_isBroken_42 (by decide) ?_
    refine r_br h (lv_icmp_eq (tgt := 64) hx hb dX2_isBroken_45 (by decide)) (fun h => ?_) (fun h => ?_)
    · refine lv_iconst (v := 0) hx hb dX2_isBroken_64 (by decide) ?_
      exact r_iret C hW (rt_R h) rfl dX2_isBroken_65
    · refine lv_aload_n hx hb dX2_isBroken_48 rfl (lv_at hl 1 rfl) ?_
      refine lv_iload hx hb dX2_isBroken_49 (lv_at hl 0 rfl) ?_
      refine lv_iload_n hx hb dX2_isBroken_51 rfl (lv_at hl 3 rfl) ?_
      refine lv_iload hx hb dX2_isBroken_52 (lv_at hl 5 rfl) ?_
      obtain ⟨v5, h4, h⟩ := bnd_inv h
      refine r_cI hW (run_V (rest := []) C hW (t_X2_isAtLesserKey h4) mk_X2_isAtLesserKey vk_X2_201 (kd_X2_isAtLesserKey h4) rfl rfl (by decide) ⟨Nat.le_of_ble_eq_true rfl, Nat.le_of_ble_eq_true rfl⟩ ⟨Nat.zero_le _, Nat.zero_le _⟩ rfl rfl (Nat.le_of_ble_eq_true rfl) hl.1 dX2_isBroken_54) (fun H locs hW _ => ?_)
      refine r_br h (lv_if_eq (tgt := 64) hx hb dX2_isBroken_57 (by decide)) (fun h => ?_) (fun h => ?_)
      · refine lv_iconst (v := 0) hx hb dX2_isBroken_64 (by decide) ?_
        exact r_iret C hW (rt_R h) rfl dX2_isBroken_65
      · refine lv_iconst (v := 1) hx hb dX2_isBroken_60 (by decide) ?_
        refine lv_goto (tgt := 65) hx hb dX2_isBroken_61 (by decide) ?_
        exact r_iret C hW (rt_R h) rfl dX2_isBroken_65
  refine r_case h (fun ec h => ?_) (fun nc1 h => ?_)
  · refine lv_tableIn (tgt := 66) (off := 53) hx hb dX2_isBroken_13 (by rw [ec]; decide) (by rw [ec]; decide) (by rw [ec]; rfl) (by decide) ?_
    refine lv_iload hx hb dX2_isBroken_66 (lv_at hl 0 rfl) ?_
    refine lv_sipush (v := 9999) hx hb dX2_isBroken_68 (by decide) ?_
    refine r_brn h (lv_icmp_ne (tgt := 78) hx hb dX2_isBroken_71 (by decide)) (fun h => ?_) (fun h => ?_)
    · refine lv_iconst (v := 0) hx hb dX2_isBroken_78 (by decide) ?_
      exact r_iret C hW (rt_R h) rfl dX2_isBroken_79
    · refine lv_iconst (v := 1) hx hb dX2_isBroken_74 (by decide) ?_
      refine lv_goto (tgt := 79) hx hb dX2_isBroken_75 (by decide) ?_
      exact r_iret C hW (rt_R h) rfl dX2_isBroken_79
  refine r_case h (fun ec h => ?_) (fun nc2 h => ?_)
  · refine lv_tableIn (tgt := 80) (off := 67) hx hb dX2_isBroken_13 (by rw [ec]; decide) (by rw [ec]; decide) (by rw [ec]; rfl) (by decide) ?_
    refine lv_aload_n hx hb dX2_isBroken_80 rfl (lv_at hl 1 rfl) ?_
    refine r_gR C hW h fl_X2_12 (by decide) dX2_isBroken_81 (fun b6 h => ?_)
    refine lv_iload hx hb dX2_isBroken_84 (lv_at hl 5 rfl) ?_
    refine lv_iload_n hx hb dX2_isBroken_86 rfl (lv_at hl 4 rfl) ?_
    obtain ⟨v8, h7, h⟩ := bnd_inv h
    refine r_cI hW (run_V (rest := []) C hW (t_X6_numberAt h7) mk_X6_numberAt vk_X2_164 (kd_X6_numberAt h7) rfl rfl (by decide) ⟨Nat.le_of_ble_eq_true rfl, Nat.le_of_ble_eq_true rfl⟩ ⟨Nat.zero_le _, Nat.zero_le _⟩ rfl rfl (Nat.le_of_ble_eq_true rfl) hl.1 dX2_isBroken_87) (fun H locs hW _ => ?_)
    refine lv_istore (lv' := [(6, .int v8), (5, .int v3), (0, .ref a), (1, .int x1), (2, .int x2), (3, .int x3), (4, .int x4)]) hx hb dX2_isBroken_90 hl (by decide) rfl (fun ls hl => ?_)
    refine lv_iload hx hb dX2_isBroken_92 (lv_at hl 1 rfl) ?_
    refine lv_sipush (v := 9999) hx hb dX2_isBroken_94 (by decide) ?_
    refine r_br h (lv_icmp_eq (tgt := 119) hx hb dX2_isBroken_97 (by decide)) (fun h => ?_) (fun h => ?_)
    · refine lv_iconst (v := 0) hx hb dX2_isBroken_119 (by decide) ?_
      exact r_iret C hW (rt_R h) rfl dX2_isBroken_120
    · refine lv_iload hx hb dX2_isBroken_100 (lv_at hl 0 rfl) ?_
      refine lv_sipush (v := 9999) hx hb dX2_isBroken_102 (by decide) ?_
      refine r_br h (lv_icmp_eq (tgt := 119) hx hb dX2_isBroken_105 (by decide)) (fun h => ?_) (fun h => ?_)
      · refine lv_iconst (v := 0) hx hb dX2_isBroken_119 (by decide) ?_
        exact r_iret C hW (rt_R h) rfl dX2_isBroken_120
      · refine lv_iload hx hb dX2_isBroken_108 (lv_at hl 1 rfl) ?_
        refine lv_iload hx hb dX2_isBroken_110 (lv_at hl 0 rfl) ?_
        refine r_br h (lv_icmp_lt (tgt := 119) hx hb dX2_isBroken_112 (by decide)) (fun h => ?_) (fun h => ?_)
        · refine lv_iconst (v := 0) hx hb dX2_isBroken_119 (by decide) ?_
          exact r_iret C hW (rt_R h) rfl dX2_isBroken_120
        · refine lv_iconst (v := 1) hx hb dX2_isBroken_115 (by decide) ?_
          refine lv_goto (tgt := 120) hx hb dX2_isBroken_116 (by decide) ?_
          exact r_iret C hW (rt_R h) rfl dX2_isBroken_120
  refine lv_tableOut (tgt := 121) hx hb dX2_isBroken_13 (sw_out (lo := 0) (n := 2) (sw_s nc2 (sw_s nc1 (sw_0 nc0))) (by decide)) (by decide) ?_
  refine lv_iconst (v := 0) hx hb dX2_isBroken_121 (by decide) ?_
  exact r_iret C hW (rt_R h) rfl dX2_isBroken_122
theorem kd_X6_hasCell {X : Mx} {r : Int32} {a : Nat} {x1 : Int32} {x2 : Int32} (h : f_X6_hasCell σ X a x1 x2 = some r) : shK σ a = 5 := (grd_inv h).1
set_option maxRecDepth 20000 in
set_option maxHeartbeats 2000000 in
theorem t_X6_hasCell {X : Mx} {r : Int32} {a : Nat} {x1 : Int32} {x2 : Int32} (h : f_X6_hasCell σ X a x1 x2 = some r) : MtI g l yX6_hasCell cX6_hasCell 3 (some .boolean) 0 0 [.ref a, .int x1, .int x2] σ X (r, X) := by
  refine met_of mk_X6_hasCell (Nat.le_of_ble_eq_true rfl) (fun p e s m args below meth c ls C hW hl => ?_)
  have hx := C.x
  have hb := C.b
  have hl : lv_has ls 3 [(0, .ref a), (1, .int x1), (2, .int x2)] := hl
  unfold f_X6_hasCell at h
  obtain ⟨hk0, h⟩ := grd_inv h
  refine lv_iload_n hx hb dX6_hasCell_0 rfl (lv_at hl 1 rfl) ?_
  refine r_br h (lv_if_lt (tgt := 46) hx hb dX6_hasCell_1 (by decide)) (fun h => ?_) (fun h => ?_)
  · refine lv_iconst (v := 0) hx hb dX6_hasCell_46 (by decide) ?_
    exact r_iret C hW (rt_R h) rfl dX6_hasCell_47
  · refine lv_iload_n hx hb dX6_hasCell_4 rfl (lv_at hl 1 rfl) ?_
    refine lv_bipush (v := 20) hx hb dX6_hasCell_5 (by decide) ?_
    refine r_br h (lv_icmp_ge (tgt := 46) hx hb dX6_hasCell_7 (by decide)) (fun h => ?_) (fun h => ?_)
    · refine lv_iconst (v := 0) hx hb dX6_hasCell_46 (by decide) ?_
      exact r_iret C hW (rt_R h) rfl dX6_hasCell_47
    · refine lv_iload_n hx hb dX6_hasCell_10 rfl (lv_at hl 2 rfl) ?_
      refine r_br h (lv_if_lt (tgt := 46) hx hb dX6_hasCell_11 (by decide)) (fun h => ?_) (fun h => ?_)
      · refine lv_iconst (v := 0) hx hb dX6_hasCell_46 (by decide) ?_
        exact r_iret C hW (rt_R h) rfl dX6_hasCell_47
      · refine lv_iload_n hx hb dX6_hasCell_14 rfl (lv_at hl 2 rfl) ?_
        refine lv_bipush (v := 9) hx hb dX6_hasCell_15 (by decide) ?_
        refine r_br h (lv_icmp_ge (tgt := 46) hx hb dX6_hasCell_17 (by decide)) (fun h => ?_) (fun h => ?_)
        · refine lv_iconst (v := 0) hx hb dX6_hasCell_46 (by decide) ?_
          exact r_iret C hW (rt_R h) rfl dX6_hasCell_47
        · refine lv_aload_n hx hb dX6_hasCell_20 rfl (lv_at hl 0 rfl) ?_
          refine r_gI C hW h fl_X6_31 (by decide) dX6_hasCell_21 (fun v1 h => ?_)
          refine lv_iload_n hx hb dX6_hasCell_24 rfl (lv_at hl 1 rfl) ?_
          refine lv_ishr hx hb dX6_hasCell_25 ?_
          refine lv_iconst (v := 1) hx hb dX6_hasCell_26 (by decide) ?_
          refine lv_iand hx hb dX6_hasCell_27 ?_
          refine r_br h (lv_if_eq (tgt := 46) hx hb dX6_hasCell_28 (by decide)) (fun h => ?_) (fun h => ?_)
          · refine lv_iconst (v := 0) hx hb dX6_hasCell_46 (by decide) ?_
            exact r_iret C hW (rt_R h) rfl dX6_hasCell_47
          · refine lv_aload_n hx hb dX6_hasCell_31 rfl (lv_at hl 0 rfl) ?_
            refine r_gI C hW h fl_X6_27 (by decide) dX6_hasCell_32 (fun v2 h => ?_)
            refine lv_iload_n hx hb dX6_hasCell_35 rfl (lv_at hl 2 rfl) ?_
            refine lv_ishr hx hb dX6_hasCell_36 ?_
            refine lv_iconst (v := 1) hx hb dX6_hasCell_37 (by decide) ?_
            refine lv_iand hx hb dX6_hasCell_38 ?_
            refine r_br h (lv_if_eq (tgt := 46) hx hb dX6_hasCell_39 (by decide)) (fun h => ?_) (fun h => ?_)
            · refine lv_iconst (v := 0) hx hb dX6_hasCell_46 (by decide) ?_
              exact r_iret C hW (rt_R h) rfl dX6_hasCell_47
            · refine lv_iconst (v := 1) hx hb dX6_hasCell_42 (by decide) ?_
              refine lv_goto (tgt := 47) hx hb dX6_hasCell_43 (by decide) ?_
              exact r_iret C hW (rt_R h) rfl dX6_hasCell_47
theorem kd_X6_putNumber {X : Mx} {r : Mx} {a : Nat} {x1 : Int32} {x2 : Int32} {x3 : Int32} (h : f_X6_putNumber σ X a x1 x2 x3 = some r) : shK σ a = 5 := (grd_inv h).1
set_option maxRecDepth 20000 in
set_option maxHeartbeats 2000000 in
theorem t_X6_putNumber {X : Mx} {r : Mx} {a : Nat} {x1 : Int32} {x2 : Int32} {x3 : Int32} (h : f_X6_putNumber σ X a x1 x2 x3 = some r) : MtV g l yX6_putNumber cX6_putNumber 4 none 0 0 [.ref a, .int x1, .int x2, .int x3] σ X r := by
  refine met_of mk_X6_putNumber (Nat.le_of_ble_eq_true rfl) (fun p e s m args below meth c ls C hW hl => ?_)
  have hx := C.x
  have hb := C.b
  have hl : lv_has ls 4 [(0, .ref a), (1, .int x1), (2, .int x2), (3, .int x3)] := hl
  unfold f_X6_putNumber at h
  obtain ⟨hk0, h⟩ := grd_inv h
  refine lv_iload_n hx hb dX6_putNumber_0 rfl (lv_at hl 1 rfl) ?_
  refine r_br h (lv_if_lt (tgt := 32) hx hb dX6_putNumber_1 (by decide)) (fun h => ?_) (fun h => ?_)
  · exact r_vret C hW (Option.some.inj h).symm dX6_putNumber_32
  · refine lv_iload_n hx hb dX6_putNumber_4 rfl (lv_at hl 1 rfl) ?_
    refine lv_bipush (v := 20) hx hb dX6_putNumber_5 (by decide) ?_
    refine r_br h (lv_icmp_ge (tgt := 32) hx hb dX6_putNumber_7 (by decide)) (fun h => ?_) (fun h => ?_)
    · exact r_vret C hW (Option.some.inj h).symm dX6_putNumber_32
    · refine lv_iload_n hx hb dX6_putNumber_10 rfl (lv_at hl 2 rfl) ?_
      refine r_br h (lv_if_lt (tgt := 32) hx hb dX6_putNumber_11 (by decide)) (fun h => ?_) (fun h => ?_)
      · exact r_vret C hW (Option.some.inj h).symm dX6_putNumber_32
      · refine lv_iload_n hx hb dX6_putNumber_14 rfl (lv_at hl 2 rfl) ?_
        refine lv_bipush (v := 9) hx hb dX6_putNumber_15 (by decide) ?_
        refine r_br h (lv_icmp_ge (tgt := 32) hx hb dX6_putNumber_17 (by decide)) (fun h => ?_) (fun h => ?_)
        · exact r_vret C hW (Option.some.inj h).symm dX6_putNumber_32
        · refine lv_aload_n hx hb dX6_putNumber_20 rfl (lv_at hl 0 rfl) ?_
          refine r_gR C hW h fl_X6_18 (by decide) dX6_putNumber_21 (fun b1 h => ?_)
          refine lv_iload_n hx hb dX6_putNumber_24 rfl (lv_at hl 1 rfl) ?_
          refine lv_bipush (v := 9) hx hb dX6_putNumber_25 (by decide) ?_
          refine lv_imul hx hb dX6_putNumber_27 ?_
          refine lv_iload_n hx hb dX6_putNumber_28 rfl (lv_at hl 2 rfl) ?_
          refine lv_iadd hx hb dX6_putNumber_29 ?_
          refine lv_iload_n hx hb dX6_putNumber_30 rfl (lv_at hl 3 rfl) ?_
          refine r_iast C hW h dX6_putNumber_31 (fun X2 H locs h hW _ => ?_)
          exact r_vret C hW (Option.some.inj h).symm dX6_putNumber_32
theorem kd_X2_putMerged {X : Mx} {r : Mx} {a : Nat} {x1 : Int32} {x2 : Int32} {x3 : Int32} {x4 : Int32} (h : f_X2_putMerged σ X a x1 x2 x3 x4 = some r) : shK σ a = 1 := (grd_inv h).1
set_option maxRecDepth 20000 in
set_option maxHeartbeats 2000000 in
theorem t_X2_putMerged {X : Mx} {r : Mx} {a : Nat} {x1 : Int32} {x2 : Int32} {x3 : Int32} {x4 : Int32} (h : f_X2_putMerged σ X a x1 x2 x3 x4 = some r) : MtV g l yX2_putMerged cX2_putMerged 5 none 1 23 [.ref a, .int x1, .int x2, .int x3, .int x4] σ X r := by
  refine met_of mk_X2_putMerged (Nat.le_of_ble_eq_true rfl) (fun p e s m args below meth c ls C hW hl => ?_)
  have hx := C.x
  have hb := C.b
  have hl : lv_has ls 5 [(0, .ref a), (1, .int x1), (2, .int x2), (3, .int x3), (4, .int x4)] := hl
  unfold f_X2_putMerged at h
  obtain ⟨hk0, h⟩ := grd_inv h
  refine lv_aload_n hx hb dX2_putMerged_0 rfl (lv_at hl 0 rfl) ?_
  refine r_gR C hW h fl_X2_12 (by decide) dX2_putMerged_1 (fun b1 h => ?_)
  refine lv_iload_n hx hb dX2_putMerged_4 rfl (lv_at hl 1 rfl) ?_
  refine lv_iload_n hx hb dX2_putMerged_5 rfl (lv_at hl 2 rfl) ?_
  obtain ⟨v3, h2, h⟩ := bnd_inv h
  refine r_cI hW (run_V (rest := []) C hW (t_X6_hasCell h2) mk_X6_hasCell vk_X2_179 (kd_X6_hasCell h2) rfl rfl (by decide) ⟨Nat.le_of_ble_eq_true rfl, Nat.le_of_ble_eq_true rfl⟩ ⟨Nat.zero_le _, Nat.zero_le _⟩ rfl rfl (Nat.le_of_ble_eq_true rfl) hl.1 dX2_putMerged_6) (fun H locs hW _ => ?_)
  refine r_br h (lv_if_eq (tgt := 35) hx hb dX2_putMerged_9 (by decide)) (fun h => ?_) (fun h => ?_)
  · exact r_vret C hW (Option.some.inj h).symm dX2_putMerged_35
  · refine lv_aload_n hx hb dX2_putMerged_12 rfl (lv_at hl 0 rfl) ?_
    refine r_gR C hW h fl_X2_12 (by decide) dX2_putMerged_13 (fun b4 h => ?_)
    refine lv_iload_n hx hb dX2_putMerged_16 rfl (lv_at hl 1 rfl) ?_
    refine lv_iload_n hx hb dX2_putMerged_17 rfl (lv_at hl 2 rfl) ?_
    refine lv_iload_n hx hb dX2_putMerged_18 rfl (lv_at hl 3 rfl) ?_
    obtain ⟨X6, h5, h⟩ := bnd_inv h
    refine r_cV hW (run_V (rest := []) C hW (t_X6_putNumber h5) mk_X6_putNumber vk_X2_182 (kd_X6_putNumber h5) rfl rfl (by decide) ⟨Nat.le_of_ble_eq_true rfl, Nat.le_of_ble_eq_true rfl⟩ ⟨Nat.zero_le _, Nat.zero_le _⟩ rfl rfl (Nat.le_of_ble_eq_true rfl) hl.1 dX2_putMerged_19) (fun H locs hW _ => ?_)
    refine lv_aload_n hx hb dX2_putMerged_22 rfl (lv_at hl 0 rfl) ?_
    refine r_gR C hW h fl_X2_18 (by decide) dX2_putMerged_23 (fun b7 h => ?_)
    refine lv_iload_n hx hb dX2_putMerged_26 rfl (lv_at hl 1 rfl) ?_
    refine lv_bipush (v := 9) hx hb dX2_putMerged_27 (by decide) ?_
    refine lv_imul hx hb dX2_putMerged_29 ?_
    refine lv_iload_n hx hb dX2_putMerged_30 rfl (lv_at hl 2 rfl) ?_
    refine lv_iadd hx hb dX2_putMerged_31 ?_
    refine lv_iload hx hb dX2_putMerged_32 (lv_at hl 4 rfl) ?_
    refine r_iast C hW h dX2_putMerged_34 (fun X8 H locs h hW _ => ?_)
    exact r_vret C hW (Option.some.inj h).symm dX2_putMerged_35
theorem kd_X6_hasColumn {X : Mx} {r : Int32} {a : Nat} {x1 : Int32} (h : f_X6_hasColumn σ X a x1 = some r) : shK σ a = 5 := (grd_inv h).1
set_option maxRecDepth 20000 in
set_option maxHeartbeats 2000000 in
theorem t_X6_hasColumn {X : Mx} {r : Int32} {a : Nat} {x1 : Int32} (h : f_X6_hasColumn σ X a x1 = some r) : MtI g l yX6_hasColumn cX6_hasColumn 2 (some .boolean) 0 0 [.ref a, .int x1] σ X (r, X) := by
  refine met_of mk_X6_hasColumn (Nat.le_of_ble_eq_true rfl) (fun p e s m args below meth c ls C hW hl => ?_)
  have hx := C.x
  have hb := C.b
  have hl : lv_has ls 2 [(0, .ref a), (1, .int x1)] := hl
  unfold f_X6_hasColumn at h
  obtain ⟨hk0, h⟩ := grd_inv h
  refine lv_iload_n hx hb dX6_hasColumn_0 rfl (lv_at hl 1 rfl) ?_
  refine r_br h (lv_if_lt (tgt := 25) hx hb dX6_hasColumn_1 (by decide)) (fun h => ?_) (fun h => ?_)
  · refine lv_iconst (v := 0) hx hb dX6_hasColumn_25 (by decide) ?_
    exact r_iret C hW (rt_R h) rfl dX6_hasColumn_26
  · refine lv_iload_n hx hb dX6_hasColumn_4 rfl (lv_at hl 1 rfl) ?_
    refine lv_bipush (v := 9) hx hb dX6_hasColumn_5 (by decide) ?_
    refine r_br h (lv_icmp_ge (tgt := 25) hx hb dX6_hasColumn_7 (by decide)) (fun h => ?_) (fun h => ?_)
    · refine lv_iconst (v := 0) hx hb dX6_hasColumn_25 (by decide) ?_
      exact r_iret C hW (rt_R h) rfl dX6_hasColumn_26
    · refine lv_aload_n hx hb dX6_hasColumn_10 rfl (lv_at hl 0 rfl) ?_
      refine r_gI C hW h fl_X6_27 (by decide) dX6_hasColumn_11 (fun v1 h => ?_)
      refine lv_iload_n hx hb dX6_hasColumn_14 rfl (lv_at hl 1 rfl) ?_
      refine lv_ishr hx hb dX6_hasColumn_15 ?_
      refine lv_iconst (v := 1) hx hb dX6_hasColumn_16 (by decide) ?_
      refine lv_iand hx hb dX6_hasColumn_17 ?_
      refine r_br h (lv_if_eq (tgt := 25) hx hb dX6_hasColumn_18 (by decide)) (fun h => ?_) (fun h => ?_)
      · refine lv_iconst (v := 0) hx hb dX6_hasColumn_25 (by decide) ?_
        exact r_iret C hW (rt_R h) rfl dX6_hasColumn_26
      · refine lv_iconst (v := 1) hx hb dX6_hasColumn_21 (by decide) ?_
        refine lv_goto (tgt := 26) hx hb dX6_hasColumn_22 (by decide) ?_
        exact r_iret C hW (rt_R h) rfl dX6_hasColumn_26
theorem kd_X6_hasRow {X : Mx} {r : Int32} {a : Nat} {x1 : Int32} (h : f_X6_hasRow σ X a x1 = some r) : shK σ a = 5 := (grd_inv h).1
set_option maxRecDepth 20000 in
set_option maxHeartbeats 2000000 in
theorem t_X6_hasRow {X : Mx} {r : Int32} {a : Nat} {x1 : Int32} (h : f_X6_hasRow σ X a x1 = some r) : MtI g l yX6_hasRow cX6_hasRow 2 (some .boolean) 0 0 [.ref a, .int x1] σ X (r, X) := by
  refine met_of mk_X6_hasRow (Nat.le_of_ble_eq_true rfl) (fun p e s m args below meth c ls C hW hl => ?_)
  have hx := C.x
  have hb := C.b
  have hl : lv_has ls 2 [(0, .ref a), (1, .int x1)] := hl
  unfold f_X6_hasRow at h
  obtain ⟨hk0, h⟩ := grd_inv h
  refine lv_iload_n hx hb dX6_hasRow_0 rfl (lv_at hl 1 rfl) ?_
  refine r_br h (lv_if_lt (tgt := 25) hx hb dX6_hasRow_1 (by decide)) (fun h => ?_) (fun h => ?_)
  · refine lv_iconst (v := 0) hx hb dX6_hasRow_25 (by decide) ?_
    exact r_iret C hW (rt_R h) rfl dX6_hasRow_26
  · refine lv_iload_n hx hb dX6_hasRow_4 rfl (lv_at hl 1 rfl) ?_
    refine lv_bipush (v := 20) hx hb dX6_hasRow_5 (by decide) ?_
    refine r_br h (lv_icmp_ge (tgt := 25) hx hb dX6_hasRow_7 (by decide)) (fun h => ?_) (fun h => ?_)
    · refine lv_iconst (v := 0) hx hb dX6_hasRow_25 (by decide) ?_
      exact r_iret C hW (rt_R h) rfl dX6_hasRow_26
    · refine lv_aload_n hx hb dX6_hasRow_10 rfl (lv_at hl 0 rfl) ?_
      refine r_gI C hW h fl_X6_31 (by decide) dX6_hasRow_11 (fun v1 h => ?_)
      refine lv_iload_n hx hb dX6_hasRow_14 rfl (lv_at hl 1 rfl) ?_
      refine lv_ishr hx hb dX6_hasRow_15 ?_
      refine lv_iconst (v := 1) hx hb dX6_hasRow_16 (by decide) ?_
      refine lv_iand hx hb dX6_hasRow_17 ?_
      refine r_br h (lv_if_eq (tgt := 25) hx hb dX6_hasRow_18 (by decide)) (fun h => ?_) (fun h => ?_)
      · refine lv_iconst (v := 0) hx hb dX6_hasRow_25 (by decide) ?_
        exact r_iret C hW (rt_R h) rfl dX6_hasRow_26
      · refine lv_iconst (v := 1) hx hb dX6_hasRow_21 (by decide) ?_
        refine lv_goto (tgt := 26) hx hb dX6_hasRow_22 (by decide) ?_
        exact r_iret C hW (rt_R h) rfl dX6_hasRow_26
set_option maxRecDepth 20000 in
set_option maxHeartbeats 2000000 in
theorem b_X6_takeRow_2 {a : Nat} {x1 : Int32} (C : Cx g RX6 cX6_takeRow 3 none p s m args meth c) {r : Mx} : ∀ (n : Nat) {X : Mx} {x2 : Int32} {H : Heap} {locs : List Loc} {ls : Array Slot} (hW : Wd g σ X s H locs) (hl : lv_has ls 3 [(0, .ref a), (1, .int x1), (2, .int x2)]) (h : f_X6_takeRow_2 σ a x1 n X x2 = some r), W p l e (rmZ 1 23) s m args below meth c H locs 0 0 (QV g σ below args s r) (F0 m 2 ls []) := by
  have hx := C.x
  have hb := C.b
  intro n
  induction n with
  | zero =>
    intro X x2 H locs ls hW hl h
    cases (show none = some r from h)
  | succ n ih =>
    intro X x2 H locs ls hW hl h
    rw [f_X6_takeRow_2] at h
    refine lv_iload_n hx hb dX6_takeRow_2 rfl (lv_at hl 2 rfl) ?_
    refine lv_bipush (v := 9) hx hb dX6_takeRow_3 (by decide) ?_
    refine r_br h (lv_icmp_ge (tgt := 23) hx hb dX6_takeRow_5 (by decide)) (fun h => ?_) (fun h => ?_)
    · refine lv_aload_n hx hb dX6_takeRow_23 rfl (lv_at hl 0 rfl) ?_
      refine lv_iload_n hx hb dX6_takeRow_24 rfl (lv_at hl 1 rfl) ?_
      obtain ⟨v2, h1, h⟩ := bnd_inv h
      refine r_cI hW (run_V (rest := []) C hW (t_X6_hasRow h1) mk_X6_hasRow vk_X6_48 (kd_X6_hasRow h1) rfl rfl (by decide) ⟨Nat.le_of_ble_eq_true rfl, Nat.le_of_ble_eq_true rfl⟩ ⟨Nat.zero_le _, Nat.zero_le _⟩ rfl rfl (Nat.le_of_ble_eq_true rfl) hl.1 dX6_takeRow_25) (fun H locs hW _ => ?_)
      refine r_br h (lv_if_eq (tgt := 45) hx hb dX6_takeRow_28 (by decide)) (fun h => ?_) (fun h => ?_)
      · exact r_vret C hW (Option.some.inj h).symm dX6_takeRow_45
      · refine lv_aload_n hx hb dX6_takeRow_31 rfl (lv_at hl 0 rfl) ?_
        refine lv_dup hx hb dX6_takeRow_32 rfl ?_
        refine r_gI C hW h fl_X6_31 (by decide) dX6_takeRow_33 (fun v3 h => ?_)
        refine lv_iconst (v := 1) hx hb dX6_takeRow_36 (by decide) ?_
        refine lv_iload_n hx hb dX6_takeRow_37 rfl (lv_at hl 1 rfl) ?_
        refine lv_ishl hx hb dX6_takeRow_38 ?_
        refine lv_iconst (v := (-1)) hx hb dX6_takeRow_39 (by decide) ?_
        refine lv_ixor hx hb dX6_takeRow_40 ?_
        refine lv_iand hx hb dX6_takeRow_41 ?_
        refine r_pI C hW h pf_X6_31 (by decide) rfl rfl dX6_takeRow_42 (fun X4 H locs h hW _ => ?_)
        exact r_vret C hW (Option.some.inj h).symm dX6_takeRow_45
    · refine lv_aload_n hx hb dX6_takeRow_8 rfl (lv_at hl 0 rfl) ?_
      refine lv_iload_n hx hb dX6_takeRow_9 rfl (lv_at hl 1 rfl) ?_
      refine lv_iload_n hx hb dX6_takeRow_10 rfl (lv_at hl 2 rfl) ?_
      refine lv_sipush (v := 9999) hx hb dX6_takeRow_11 (by decide) ?_
      obtain ⟨X6, h5, h⟩ := bnd_inv h
      refine r_cV hW (run_V (rest := []) C hW (t_X6_putNumber h5) mk_X6_putNumber vk_X6_44 (kd_X6_putNumber h5) rfl rfl (by decide) ⟨Nat.le_of_ble_eq_true rfl, Nat.le_of_ble_eq_true rfl⟩ ⟨Nat.zero_le _, Nat.zero_le _⟩ rfl rfl (Nat.le_of_ble_eq_true rfl) hl.1 dX6_takeRow_14) (fun H locs hW _ => ?_)
      refine lv_iinc (v := (x2 + 1)) (lv' := [(2, .int (x2 + 1)), (0, .ref a), (1, .int x1)]) hx hb dX6_takeRow_17 hl (k := 2) rfl rfl (by decide) rfl (fun ls hl => ?_)
      refine lv_goto (tgt := 2) hx hb dX6_takeRow_20 (by decide) ?_
      exact ih hW (lv_sub hl [1, 2, 0] rfl) h
theorem kd_X6_takeRow {X : Mx} {r : Mx} {a : Nat} {x1 : Int32} (h : f_X6_takeRow σ X a x1 = some r) : shK σ a = 5 := (grd_inv h).1
set_option maxRecDepth 20000 in
set_option maxHeartbeats 2000000 in
theorem t_X6_takeRow {X : Mx} {r : Mx} {a : Nat} {x1 : Int32} (h : f_X6_takeRow σ X a x1 = some r) : MtV g l yX6_takeRow cX6_takeRow 3 none 1 23 [.ref a, .int x1] σ X r := by
  refine met_of mk_X6_takeRow (Nat.le_of_ble_eq_true rfl) (fun p e s m args below meth c ls C hW hl => ?_)
  have hx := C.x
  have hb := C.b
  have hl : lv_has ls 3 [(0, .ref a), (1, .int x1)] := hl
  unfold f_X6_takeRow at h
  obtain ⟨hk0, h⟩ := grd_inv h
  refine lv_iconst (v := 0) hx hb dX6_takeRow_0 (by decide) ?_
  refine lv_istore_n (lv' := [(2, .int 0), (0, .ref a), (1, .int x1)]) hx hb dX6_takeRow_1 rfl hl (by decide) rfl (fun ls hl => ?_)
  exact b_X6_takeRow_2 C FU hW (lv_sub hl [1, 2, 0] rfl) h
set_option maxRecDepth 20000 in
set_option maxHeartbeats 2000000 in
theorem b_X2_checkDemand_145 {k51 : Mx → Int32 → Option Mx} {a : Nat} {a1 : Nat} {x2 : Int32} {x3 : Int32} {x4 : Int32} {x5 : Int32} {x6 : Int32} (C : Cx g RX2 cX2_checkDemand 8 none p s m args meth c) {r : Mx} {X : Mx} (hk51 : ∀ {H' : Heap} {locs' : List Loc} {ls' : Array Slot} {X' : Mx} {x6' : Int32}, Wd g σ X' s H' locs' → lv_has ls' 8 [(0, .ref a), (1, .ref a1), (2, .int x2), (3, .int x3), (4, .int x4), (5, .int x5), (6, .int x6')] → k51 X' x6' = some r → W p l e (rmZ 3 72) s m args below meth c H' locs' 0 0 (QV g σ below args s r) (F0 m 51 ls' [])) (hW : Wd g σ X s H locs) (hl : lv_has ls 8 [(0, .ref a), (1, .ref a1), (2, .int x2), (3, .int x3), (4, .int x4), (5, .int x5), (6, .int x6)]) (h : f_X2_checkDemand_145 k51 σ a a1 x2 x3 x4 x5 x6 X = some r) : W p l e (rmZ 3 72) s m args below meth c H locs 0 0 (QV g σ below args s r) (F0 m 145 ls []) := by
  have hx := C.x
  have hb := C.b
  unfold f_X2_checkDemand_145 at h
  refine lv_iinc (v := (x6 + 1)) (lv' := [(6, .int (x6 + 1)), (0, .ref a), (1, .ref a1), (2, .int x2), (3, .int x3), (4, .int x4), (5, .int x5)]) hx hb dX2_checkDemand_145 hl (k := 6) rfl rfl (by decide) rfl (fun ls hl => ?_)
  refine lv_goto (tgt := 51) hx hb dX2_checkDemand_148 (by decide) ?_
  exact hk51 hW (lv_sub hl [1, 2, 3, 4, 5, 6, 0] rfl) h
set_option maxRecDepth 20000 in
set_option maxHeartbeats 2000000 in
theorem b_X2_checkDemand_123 {k51 : Mx → Int32 → Option Mx} {a : Nat} {a1 : Nat} {x2 : Int32} {x3 : Int32} {x4 : Int32} {x5 : Int32} {x6 : Int32} (C : Cx g RX2 cX2_checkDemand 8 none p s m args meth c) {r : Mx} {X : Mx} {y0 : Nat} {y1 : Int32} {y2 : Int32} {y3 : Int32} (hk51 : ∀ {H' : Heap} {locs' : List Loc} {ls' : Array Slot} {X' : Mx} {x6' : Int32}, Wd g σ X' s H' locs' → lv_has ls' 8 [(0, .ref a), (1, .ref a1), (2, .int x2), (3, .int x3), (4, .int x4), (5, .int x5), (6, .int x6')] → k51 X' x6' = some r → W p l e (rmZ 3 72) s m args below meth c H' locs' 0 0 (QV g σ below args s r) (F0 m 51 ls' [])) (hW : Wd g σ X s H locs) (hl : lv_has ls 8 [(0, .ref a), (1, .ref a1), (2, .int x2), (3, .int x3), (4, .int x4), (5, .int x5), (6, .int x6)]) (h : f_X2_checkDemand_123 k51 σ a a1 x2 x3 x4 x5 x6 X y0 y1 y2 y3 = some r) : W p l e (rmZ 3 72) s m args below meth c H locs 0 0 (QV g σ below args s r) (F0 m 123 ls [.int y3, .int y2, .int y1, .ref y0]) := by
  have hx := C.x
  have hb := C.b
  unfold f_X2_checkDemand_123 at h
  refine lv_iconst (v := 4) hx hb dX2_checkDemand_123 (by decide) ?_
  obtain ⟨X2, h1, h⟩ := bnd_inv h
  refine r_cV hW (run_V (rest := []) C hW (t_X2_putMerged h1) mk_X2_putMerged vk_X2_170 (kd_X2_putMerged h1) rfl rfl (by decide) ⟨Nat.le_of_ble_eq_true rfl, Nat.le_of_ble_eq_true rfl⟩ ⟨Nat.zero_le _, Nat.zero_le _⟩ rfl rfl (Nat.le_of_ble_eq_true rfl) hl.1 dX2_checkDemand_124) (fun H locs hW _ => ?_)
  refine lv_goto (tgt := 145) hx hb dX2_checkDemand_127 (by decide) ?_
  exact b_X2_checkDemand_145 C hk51 hW (lv_sub hl [0, 1, 2, 3, 4, 5, 6] rfl) h
set_option maxRecDepth 20000 in
set_option maxHeartbeats 2000000 in
theorem b_X2_checkDemand_51 {a : Nat} {a1 : Nat} {x2 : Int32} {x3 : Int32} {x4 : Int32} {x5 : Int32} (C : Cx g RX2 cX2_checkDemand 8 none p s m args meth c) {r : Mx} : ∀ (n : Nat) {X : Mx} {x6 : Int32} {H : Heap} {locs : List Loc} {ls : Array Slot} (hW : Wd g σ X s H locs) (hl : lv_has ls 8 [(0, .ref a), (1, .ref a1), (2, .int x2), (3, .int x3), (4, .int x4), (5, .int x5), (6, .int x6)]) (h : f_X2_checkDemand_51 σ a a1 x2 x3 x4 x5 n X x6 = some r), W p l e (rmZ 3 72) s m args below meth c H locs 0 0 (QV g σ below args s r) (F0 m 51 ls []) := by
  have hx := C.x
  have hb := C.b
  intro n
  induction n with
  | zero =>
    intro X x6 H locs ls hW hl h
    cases (show none = some r from h)
  | succ n ih =>
    intro X x6 H locs ls hW hl h
    rw [f_X2_checkDemand_51] at h
    refine lv_iload hx hb dX2_checkDemand_51 (lv_at hl 6 rfl) ?_
    refine lv_bipush (v := 20) hx hb dX2_checkDemand_53 (by decide) ?_
    refine r_br h (lv_icmp_ge (tgt := 151) hx hb dX2_checkDemand_55 (by decide)) (fun h => ?_) (fun h => ?_)
    · exact r_vret C hW (Option.some.inj h).symm dX2_checkDemand_151
    · refine lv_aload_n hx hb dX2_checkDemand_58 rfl (lv_at hl 0 rfl) ?_
      refine r_gR C hW h fl_X2_12 (by decide) dX2_checkDemand_59 (fun b1 h => ?_)
      refine lv_iload hx hb dX2_checkDemand_62 (lv_at hl 6 rfl) ?_
      obtain ⟨v3, h2, h⟩ := bnd_inv h
      refine r_cI hW (run_V (rest := []) C hW (t_X6_hasRow h2) mk_X6_hasRow vk_X2_67 (kd_X6_hasRow h2) rfl rfl (by decide) ⟨Nat.le_of_ble_eq_true rfl, Nat.le_of_ble_eq_true rfl⟩ ⟨Nat.zero_le _, Nat.zero_le _⟩ rfl rfl (Nat.le_of_ble_eq_true rfl) hl.1 dX2_checkDemand_64) (fun H locs hW _ => ?_)
      refine r_br h (lv_if_eq (tgt := 145) hx hb dX2_checkDemand_67 (by decide)) (fun h => ?_) (fun h => ?_)
      · exact b_X2_checkDemand_145 C (fun hW hl h => ih hW hl h) hW (lv_sub hl [0, 1, 2, 3, 4, 5, 6] rfl) h
      · refine lv_aload_n hx hb dX2_checkDemand_70 rfl (lv_at hl 0 rfl) ?_
        refine lv_iload_n hx hb dX2_checkDemand_71 rfl (lv_at hl 3 rfl) ?_
        refine lv_iload hx hb dX2_checkDemand_72 (lv_at hl 4 rfl) ?_
        refine lv_iload hx hb dX2_checkDemand_74 (lv_at hl 5 rfl) ?_
        refine lv_iload hx hb dX2_checkDemand_76 (lv_at hl 6 rfl) ?_
        obtain ⟨v5, h4, h⟩ := bnd_inv h
        refine r_cI hW (run_V (rest := []) C hW (t_X2_isBroken h4) mk_X2_isBroken vk_X2_194 (kd_X2_isBroken h4) rfl rfl (by decide) ⟨Nat.le_of_ble_eq_true rfl, Nat.le_of_ble_eq_true rfl⟩ ⟨Nat.zero_le _, Nat.zero_le _⟩ rfl rfl (Nat.le_of_ble_eq_true rfl) hl.1 dX2_checkDemand_78) (fun H locs hW _ => ?_)
        refine r_br h (lv_if_eq (tgt := 145) hx hb dX2_checkDemand_81 (by decide)) (fun h => ?_) (fun h => ?_)
        · exact b_X2_checkDemand_145 C (fun hW hl h => ih hW hl h) hW (lv_sub hl [0, 1, 2, 3, 4, 5, 6] rfl) h
        · refine lv_aload_n hx hb dX2_checkDemand_84 rfl (lv_at hl 0 rfl) ?_
          refine lv_aload_n hx hb dX2_checkDemand_85 rfl (lv_at hl 1 rfl) ?_
          refine lv_bipush (v := 6) hx hb dX2_checkDemand_86 (by decide) ?_
          refine lv_iload_n hx hb dX2_checkDemand_88 rfl (lv_at hl 2 rfl) ?_
          refine lv_iload hx hb dX2_checkDemand_89 (lv_at hl 6 rfl) ?_
          refine r_cI hW (run_S (rest := [.ref a1, .ref a]) C hW (t_X1_idOf (X := X)) mk_X1_idOf sk_X2_113 ⟨Nat.le_of_ble_eq_true rfl, Nat.le_of_ble_eq_true rfl⟩ ⟨Nat.zero_le _, Nat.zero_le _⟩ rfl rfl (Nat.le_of_ble_eq_true rfl) hl.1 dX2_checkDemand_91) (fun H locs hW _ => ?_)
          refine lv_iconst (v := (-1)) hx hb dX2_checkDemand_94 (by decide) ?_
          refine lv_iconst (v := (-1)) hx hb dX2_checkDemand_95 (by decide) ?_
          obtain ⟨v8, X7, h6, h⟩ := bnd2_inv h
          refine r_cI hW (run_V (rest := []) C hW (t_X2_ask h6) mk_X2_ask vk_X2_119 (kd_X2_ask h6) rfl rfl (by decide) ⟨Nat.le_of_ble_eq_true rfl, Nat.le_of_ble_eq_true rfl⟩ ⟨Nat.zero_le _, Nat.zero_le _⟩ rfl rfl (Nat.le_of_ble_eq_true rfl) hl.1 dX2_checkDemand_96) (fun H locs hW _ => ?_)
          refine lv_istore (lv' := [(7, .int v8), (0, .ref a), (1, .ref a1), (2, .int x2), (3, .int x3), (4, .int x4), (5, .int x5), (6, .int x6)]) hx hb dX2_checkDemand_99 hl (by decide) rfl (fun ls hl => ?_)
          refine lv_iload hx hb dX2_checkDemand_101 (lv_at hl 0 rfl) ?_
          refine r_brn h (lv_if_ne (tgt := 130) hx hb dX2_checkDemand_103 (by decide)) (fun h => ?_) (fun h => ?_)
          · refine lv_iload hx hb dX2_checkDemand_130 (lv_at hl 0 rfl) ?_
            refine lv_iconst (v := 1) hx hb dX2_checkDemand_132 (by decide) ?_
            refine r_brn h (lv_icmp_ne (tgt := 145) hx hb dX2_checkDemand_133 (by decide)) (fun h => ?_) (fun h => ?_)
            · exact b_X2_checkDemand_145 C (fun hW hl h => ih hW hl h) hW (lv_sub hl [1, 2, 3, 4, 5, 6, 7] rfl) h
            · refine lv_aload_n hx hb dX2_checkDemand_136 rfl (lv_at hl 1 rfl) ?_
              refine r_gR C hW h fl_X2_12 (by decide) dX2_checkDemand_137 (fun b9 h => ?_)
              refine lv_iload hx hb dX2_checkDemand_140 (lv_at hl 7 rfl) ?_
              obtain ⟨X11, h10, h⟩ := bnd_inv h
              refine r_cV hW (run_V (rest := []) C hW (t_X6_takeRow h10) mk_X6_takeRow vk_X2_198 (kd_X6_takeRow h10) rfl rfl (by decide) ⟨Nat.le_of_ble_eq_true rfl, Nat.le_of_ble_eq_true rfl⟩ ⟨Nat.zero_le _, Nat.zero_le _⟩ rfl rfl (Nat.le_of_ble_eq_true rfl) hl.1 dX2_checkDemand_142) (fun H locs hW _ => ?_)
              exact b_X2_checkDemand_145 C (fun hW hl h => ih hW hl h) hW (lv_sub hl [1, 2, 3, 4, 5, 6, 7] rfl) h
          · refine lv_aload_n hx hb dX2_checkDemand_106 rfl (lv_at hl 1 rfl) ?_
            refine lv_iload hx hb dX2_checkDemand_107 (lv_at hl 7 rfl) ?_
            refine lv_iload hx hb dX2_checkDemand_109 (lv_at hl 6 rfl) ?_
            refine lv_iload_n hx hb dX2_checkDemand_111 rfl (lv_at hl 4 rfl) ?_
            refine lv_iconst (v := 1) hx hb dX2_checkDemand_112 (by decide) ?_
            refine r_brn h (lv_icmp_ne (tgt := 120) hx hb dX2_checkDemand_113 (by decide)) (fun h => ?_) (fun h => ?_)
            · refine lv_sipush (v := 9999) hx hb dX2_checkDemand_120 (by decide) ?_
              exact b_X2_checkDemand_123 C (fun hW hl h => ih hW hl h) hW (lv_sub hl [1, 2, 3, 4, 5, 6, 7] rfl) h
            · refine lv_iconst (v := 0) hx hb dX2_checkDemand_116 (by decide) ?_
              refine lv_goto (tgt := 123) hx hb dX2_checkDemand_117 (by decide) ?_
              exact b_X2_checkDemand_123 C (fun hW hl h => ih hW hl h) hW (lv_sub hl [1, 2, 3, 4, 5, 6, 7] rfl) h
theorem kd_X2_checkDemand {X : Mx} {r : Mx} {a : Nat} {a1 : Nat} {x2 : Int32} (h : f_X2_checkDemand σ X a a1 x2 = some r) : shK σ a = 1 := (grd_inv h).1
set_option maxRecDepth 20000 in
set_option maxHeartbeats 2000000 in
theorem t_X2_checkDemand {X : Mx} {r : Mx} {a : Nat} {a1 : Nat} {x2 : Int32} (h : f_X2_checkDemand σ X a a1 x2 = some r) : MtV g l yX2_checkDemand cX2_checkDemand 8 none 3 72 [.ref a, .ref a1, .int x2] σ X r := by
  refine met_of mk_X2_checkDemand (Nat.le_of_ble_eq_true rfl) (fun p e s m args below meth c ls C hW hl => ?_)
  have hx := C.x
  have hb := C.b
  have hl : lv_has ls 8 [(0, .ref a), (1, .ref a1), (2, .int x2)] := hl
  unfold f_X2_checkDemand at h
  obtain ⟨hk0, h⟩ := grd_inv h
  refine lv_aload_n hx hb dX2_checkDemand_0 rfl (lv_at hl 1 rfl) ?_
  refine r_gR C hW h fl_X2_185 (by decide) dX2_checkDemand_1 (fun b1 h => ?_)
  refine lv_iload_n hx hb dX2_checkDemand_4 rfl (lv_at hl 2 rfl) ?_
  refine r_iald C hW h dX2_checkDemand_5 (fun v2 h => ?_)
  refine lv_istore_n (lv' := [(3, .int v2), (0, .ref a), (1, .ref a1), (2, .int x2)]) hx hb dX2_checkDemand_6 rfl hl (by decide) rfl (fun ls hl => ?_)
  refine lv_aload_n hx hb dX2_checkDemand_7 rfl (lv_at hl 2 rfl) ?_
  refine r_gR C hW h fl_X2_188 (by decide) dX2_checkDemand_8 (fun b3 h => ?_)
  refine lv_iload_n hx hb dX2_checkDemand_11 rfl (lv_at hl 3 rfl) ?_
  refine r_iald C hW h dX2_checkDemand_12 (fun v4 h => ?_)
  refine lv_istore (lv' := [(4, .int v4), (3, .int v2), (0, .ref a), (1, .ref a1), (2, .int x2)]) hx hb dX2_checkDemand_13 hl (by decide) rfl (fun ls hl => ?_)
  refine lv_aload_n hx hb dX2_checkDemand_15 rfl (lv_at hl 3 rfl) ?_
  refine r_gR C hW h fl_X2_191 (by decide) dX2_checkDemand_16 (fun b5 h => ?_)
  refine lv_iload_n hx hb dX2_checkDemand_19 rfl (lv_at hl 4 rfl) ?_
  refine r_iald C hW h dX2_checkDemand_20 (fun v6 h => ?_)
  refine lv_istore (lv' := [(5, .int v6), (4, .int v4), (3, .int v2), (0, .ref a), (1, .ref a1), (2, .int x2)]) hx hb dX2_checkDemand_21 hl (by decide) rfl (fun ls hl => ?_)
  refine lv_aload_n hx hb dX2_checkDemand_23 rfl (lv_at hl 3 rfl) ?_
  refine r_gR C hW h fl_X2_12 (by decide) dX2_checkDemand_24 (fun b7 h => ?_)
  refine lv_iload hx hb dX2_checkDemand_27 (lv_at hl 1 rfl) ?_
  obtain ⟨v9, h8, h⟩ := bnd_inv h
  refine r_cI hW (run_V (rest := []) C hW (t_X6_hasColumn h8) mk_X6_hasColumn vk_X2_49 (kd_X6_hasColumn h8) rfl rfl (by decide) ⟨Nat.le_of_ble_eq_true rfl, Nat.le_of_ble_eq_true rfl⟩ ⟨Nat.zero_le _, Nat.zero_le _⟩ rfl rfl (Nat.le_of_ble_eq_true rfl) hl.1 dX2_checkDemand_29) (fun H locs hW _ => ?_)
  refine r_br h (lv_if_eq (tgt := 47) hx hb dX2_checkDemand_32 (by decide)) (fun h => ?_) (fun h => ?_)
  · exact r_vret C hW (Option.some.inj h).symm dX2_checkDemand_47
  · refine lv_aload_n hx hb dX2_checkDemand_35 rfl (lv_at hl 3 rfl) ?_
    refine r_gR C hW h fl_X2_12 (by decide) dX2_checkDemand_36 (fun b10 h => ?_)
    refine lv_iload hx hb dX2_checkDemand_39 (lv_at hl 0 rfl) ?_
    obtain ⟨v12, h11, h⟩ := bnd_inv h
    refine r_cI hW (run_V (rest := []) C hW (t_X6_hasColumn h11) mk_X6_hasColumn vk_X2_49 (kd_X6_hasColumn h11) rfl rfl (by decide) ⟨Nat.le_of_ble_eq_true rfl, Nat.le_of_ble_eq_true rfl⟩ ⟨Nat.zero_le _, Nat.zero_le _⟩ rfl rfl (Nat.le_of_ble_eq_true rfl) hl.1 dX2_checkDemand_41) (fun H locs hW _ => ?_)
    refine r_brn h (lv_if_ne (tgt := 48) hx hb dX2_checkDemand_44 (by decide)) (fun h => ?_) (fun h => ?_)
    · refine lv_iconst (v := 0) hx hb dX2_checkDemand_48 (by decide) ?_
      refine lv_istore (lv' := [(6, .int 0), (5, .int v6), (4, .int v4), (3, .int v2), (0, .ref a), (1, .ref a1), (2, .int x2)]) hx hb dX2_checkDemand_49 hl (by decide) rfl (fun ls hl => ?_)
      exact b_X2_checkDemand_51 C FU hW (lv_sub hl [4, 5, 6, 3, 2, 1, 0] rfl) h
    · exact r_vret C hW (Option.some.inj h).symm dX2_checkDemand_47
set_option maxRecDepth 20000 in
set_option maxHeartbeats 2000000 in
theorem b_X2_twinInLeft_73 {k2 : Int32 → Option Int32} {a : Nat} {a1 : Nat} {x2 : Int32} {x3 : Int32} (C : Cx g RX2 cX2_twinInLeft 4 (some .int) p s m args meth c) {r : Int32} {X : Mx} (hk2 : ∀ {H' : Heap} {locs' : List Loc} {ls' : Array Slot} {x3' : Int32}, Wd g σ X s H' locs' → lv_has ls' 4 [(0, .ref a), (1, .ref a1), (2, .int x2), (3, .int x3')] → k2 x3' = some r → W p l e (rmZ 1 21) s m args below meth c H' locs' 0 0 (QI g σ below args s (r, X)) (F0 m 2 ls' [])) (hW : Wd g σ X s H locs) (hl : lv_has ls 4 [(0, .ref a), (1, .ref a1), (2, .int x2), (3, .int x3)]) (h : f_X2_twinInLeft_73 k2 σ X a a1 x2 x3 = some r) : W p l e (rmZ 1 21) s m args below meth c H locs 0 0 (QI g σ below args s (r, X)) (F0 m 73 ls []) := by
  have hx := C.x
  have hb := C.b
  unfold f_X2_twinInLeft_73 at h
  refine lv_iinc (v := (x3 + 1)) (lv' := [(3, .int (x3 + 1)), (0, .ref a), (1, .ref a1), (2, .int x2)]) hx hb dX2_twinInLeft_73 hl (k := 3) rfl rfl (by decide) rfl (fun ls hl => ?_)
  refine lv_goto (tgt := 2) hx hb dX2_twinInLeft_76 (by decide) ?_
  exact hk2 hW (lv_sub hl [1, 2, 3, 0] rfl) h
set_option maxRecDepth 20000 in
set_option maxHeartbeats 2000000 in
theorem b_X2_twinInLeft_2 {a : Nat} {a1 : Nat} {x2 : Int32} (C : Cx g RX2 cX2_twinInLeft 4 (some .int) p s m args meth c) {r : Int32} {X : Mx} : ∀ (n : Nat) {x3 : Int32} {H : Heap} {locs : List Loc} {ls : Array Slot} (hW : Wd g σ X s H locs) (hl : lv_has ls 4 [(0, .ref a), (1, .ref a1), (2, .int x2), (3, .int x3)]) (h : f_X2_twinInLeft_2 σ X a a1 x2 n x3 = some r), W p l e (rmZ 1 21) s m args below meth c H locs 0 0 (QI g σ below args s (r, X)) (F0 m 2 ls []) := by
  have hx := C.x
  have hb := C.b
  intro n
  induction n with
  | zero =>
    intro x3 H locs ls hW hl h
    cases (show none = some r from h)
  | succ n ih =>
    intro x3 H locs ls hW hl h
    rw [f_X2_twinInLeft_2] at h
    refine lv_iload_n hx hb dX2_twinInLeft_2 rfl (lv_at hl 3 rfl) ?_
    refine lv_bipush (v := 7) hx hb dX2_twinInLeft_3 (by decide) ?_
    refine r_br h (lv_icmp_ge (tgt := 79) hx hb dX2_twinInLeft_5 (by decide)) (fun h => ?_) (fun h => ?_)
    · refine lv_iconst (v := (-1)) hx hb dX2_twinInLeft_79 (by decide) ?_
      exact r_iret C hW (rt_R h) rfl dX2_twinInLeft_80
    · refine lv_aload_n hx hb dX2_twinInLeft_8 rfl (lv_at hl 1 rfl) ?_
      refine r_gR C hW h fl_X2_82 (by decide) dX2_twinInLeft_9 (fun b1 h => ?_)
      refine lv_iload_n hx hb dX2_twinInLeft_12 rfl (lv_at hl 3 rfl) ?_
      obtain ⟨v3, h2, h⟩ := bnd_inv h
      refine r_cI hW (run_V (rest := []) C hW (t_X6_hasColumn h2) mk_X6_hasColumn vk_X2_49 (kd_X6_hasColumn h2) rfl rfl (by decide) ⟨Nat.le_of_ble_eq_true rfl, Nat.le_of_ble_eq_true rfl⟩ ⟨Nat.zero_le _, Nat.zero_le _⟩ rfl rfl (Nat.le_of_ble_eq_true rfl) hl.1 dX2_twinInLeft_13) (fun H locs hW _ => ?_)
      refine r_br h (lv_if_eq (tgt := 73) hx hb dX2_twinInLeft_16 (by decide)) (fun h => ?_) (fun h => ?_)
      · exact b_X2_twinInLeft_73 C (fun hW hl h => ih hW hl h) hW (lv_sub hl [0, 1, 2, 3] rfl) h
      · refine lv_aload_n hx hb dX2_twinInLeft_19 rfl (lv_at hl 0 rfl) ?_
        refine r_gR C hW h fl_X2_31 (by decide) dX2_twinInLeft_20 (fun b4 h => ?_)
        refine lv_iload_n hx hb dX2_twinInLeft_23 rfl (lv_at hl 3 rfl) ?_
        refine r_iald C hW h dX2_twinInLeft_24 (fun v5 h => ?_)
        refine lv_iconst (v := (-1)) hx hb dX2_twinInLeft_25 (by decide) ?_
        refine r_brn h (lv_icmp_ne (tgt := 73) hx hb dX2_twinInLeft_26 (by decide)) (fun h => ?_) (fun h => ?_)
        · exact b_X2_twinInLeft_73 C (fun hW hl h => ih hW hl h) hW (lv_sub hl [0, 1, 2, 3] rfl) h
        · refine lv_aload_n hx hb dX2_twinInLeft_29 rfl (lv_at hl 1 rfl) ?_
          refine r_gR C hW h fl_X2_82 (by decide) dX2_twinInLeft_30 (fun b6 h => ?_)
          refine r_gR C hW h fl_X2_103 (by decide) dX2_twinInLeft_33 (fun b7 h => ?_)
          refine lv_iload_n hx hb dX2_twinInLeft_36 rfl (lv_at hl 3 rfl) ?_
          refine r_iald C hW h dX2_twinInLeft_37 (fun v8 h => ?_)
          refine lv_aload_n hx hb dX2_twinInLeft_38 rfl (lv_at hl 1 rfl) ?_
          refine r_gR C hW h fl_X2_85 (by decide) dX2_twinInLeft_39 (fun b9 h => ?_)
          refine r_gR C hW h fl_X2_103 (by decide) dX2_twinInLeft_42 (fun b10 h => ?_)
          refine lv_iload_n hx hb dX2_twinInLeft_45 rfl (lv_at hl 2 rfl) ?_
          refine r_iald C hW h dX2_twinInLeft_46 (fun v11 h => ?_)
          refine r_brn h (lv_icmp_ne (tgt := 73) hx hb dX2_twinInLeft_47 (by decide)) (fun h => ?_) (fun h => ?_)
          · exact b_X2_twinInLeft_73 C (fun hW hl h => ih hW hl h) hW (lv_sub hl [0, 1, 2, 3] rfl) h
          · refine lv_aload_n hx hb dX2_twinInLeft_50 rfl (lv_at hl 1 rfl) ?_
            refine r_gR C hW h fl_X2_82 (by decide) dX2_twinInLeft_51 (fun b12 h => ?_)
            refine r_gR C hW h fl_X2_106 (by decide) dX2_twinInLeft_54 (fun b13 h => ?_)
            refine lv_iload_n hx hb dX2_twinInLeft_57 rfl (lv_at hl 3 rfl) ?_
            refine r_iald C hW h dX2_twinInLeft_58 (fun v14 h => ?_)
            refine lv_aload_n hx hb dX2_twinInLeft_59 rfl (lv_at hl 1 rfl) ?_
            refine r_gR C hW h fl_X2_85 (by decide) dX2_twinInLeft_60 (fun b15 h => ?_)
            refine r_gR C hW h fl_X2_106 (by decide) dX2_twinInLeft_63 (fun b16 h => ?_)
            refine lv_iload_n hx hb dX2_twinInLeft_66 rfl (lv_at hl 2 rfl) ?_
            refine r_iald C hW h dX2_twinInLeft_67 (fun v17 h => ?_)
            refine r_brn h (lv_icmp_ne (tgt := 73) hx hb dX2_twinInLeft_68 (by decide)) (fun h => ?_) (fun h => ?_)
            · exact b_X2_twinInLeft_73 C (fun hW hl h => ih hW hl h) hW (lv_sub hl [0, 1, 2, 3] rfl) h
            · refine lv_iload_n hx hb dX2_twinInLeft_71 rfl (lv_at hl 3 rfl) ?_
              exact r_iret C hW (rt_R h) rfl dX2_twinInLeft_72
theorem kd_X2_twinInLeft {X : Mx} {r : Int32} {a : Nat} {a1 : Nat} {x2 : Int32} (h : f_X2_twinInLeft σ X a a1 x2 = some r) : shK σ a = 1 := (grd_inv h).1
set_option maxRecDepth 20000 in
set_option maxHeartbeats 2000000 in
theorem t_X2_twinInLeft {X : Mx} {r : Int32} {a : Nat} {a1 : Nat} {x2 : Int32} (h : f_X2_twinInLeft σ X a a1 x2 = some r) : MtI g l yX2_twinInLeft cX2_twinInLeft 4 (some .int) 1 21 [.ref a, .ref a1, .int x2] σ X (r, X) := by
  refine met_of mk_X2_twinInLeft (Nat.le_of_ble_eq_true rfl) (fun p e s m args below meth c ls C hW hl => ?_)
  have hx := C.x
  have hb := C.b
  have hl : lv_has ls 4 [(0, .ref a), (1, .ref a1), (2, .int x2)] := hl
  unfold f_X2_twinInLeft at h
  obtain ⟨hk0, h⟩ := grd_inv h
  refine lv_iconst (v := 5) hx hb dX2_twinInLeft_0 (by decide) ?_
  refine lv_istore_n (lv' := [(3, .int 5), (0, .ref a), (1, .ref a1), (2, .int x2)]) hx hb dX2_twinInLeft_1 rfl hl (by decide) rfl (fun ls hl => ?_)
  exact b_X2_twinInLeft_2 C FU hW (lv_sub hl [1, 2, 3, 0] rfl) h
theorem kd_X6_putColumn {X : Mx} {r : Mx} {a : Nat} {x1 : Int32} {x2 : Int32} {x3 : Int32} (h : f_X6_putColumn σ X a x1 x2 x3 = some r) : shK σ a = 5 := (grd_inv h).1
set_option maxRecDepth 20000 in
set_option maxHeartbeats 2000000 in
theorem t_X6_putColumn {X : Mx} {r : Mx} {a : Nat} {x1 : Int32} {x2 : Int32} {x3 : Int32} (h : f_X6_putColumn σ X a x1 x2 x3 = some r) : MtV g l yX6_putColumn cX6_putColumn 4 none 0 0 [.ref a, .int x1, .int x2, .int x3] σ X r := by
  refine met_of mk_X6_putColumn (Nat.le_of_ble_eq_true rfl) (fun p e s m args below meth c ls C hW hl => ?_)
  have hx := C.x
  have hb := C.b
  have hl : lv_has ls 4 [(0, .ref a), (1, .int x1), (2, .int x2), (3, .int x3)] := hl
  unfold f_X6_putColumn at h
  obtain ⟨hk0, h⟩ := grd_inv h
  refine lv_iload_n hx hb dX6_putColumn_0 rfl (lv_at hl 1 rfl) ?_
  refine r_br h (lv_if_lt (tgt := 36) hx hb dX6_putColumn_1 (by decide)) (fun h => ?_) (fun h => ?_)
  · exact r_vret C hW (Option.some.inj h).symm dX6_putColumn_36
  · refine lv_iload_n hx hb dX6_putColumn_4 rfl (lv_at hl 1 rfl) ?_
    refine lv_bipush (v := 9) hx hb dX6_putColumn_5 (by decide) ?_
    refine r_br h (lv_icmp_ge (tgt := 36) hx hb dX6_putColumn_7 (by decide)) (fun h => ?_) (fun h => ?_)
    · exact r_vret C hW (Option.some.inj h).symm dX6_putColumn_36
    · refine lv_aload_n hx hb dX6_putColumn_10 rfl (lv_at hl 0 rfl) ?_
      refine lv_dup hx hb dX6_putColumn_11 rfl ?_
      refine r_gI C hW h fl_X6_27 (by decide) dX6_putColumn_12 (fun v1 h => ?_)
      refine lv_iconst (v := 1) hx hb dX6_putColumn_15 (by decide) ?_
      refine lv_iload_n hx hb dX6_putColumn_16 rfl (lv_at hl 1 rfl) ?_
      refine lv_ishl hx hb dX6_putColumn_17 ?_
      refine lv_ior hx hb dX6_putColumn_18 ?_
      refine r_pI C hW h pf_X6_27 (by decide) rfl rfl dX6_putColumn_19 (fun X2 H locs h hW _ => ?_)
      refine lv_aload_n hx hb dX6_putColumn_22 rfl (lv_at hl 0 rfl) ?_
      refine r_gR C hW h fl_X6_9 (by decide) dX6_putColumn_23 (fun b3 h => ?_)
      refine lv_iload_n hx hb dX6_putColumn_26 rfl (lv_at hl 1 rfl) ?_
      refine lv_iload_n hx hb dX6_putColumn_27 rfl (lv_at hl 2 rfl) ?_
      refine r_iast C hW h dX6_putColumn_28 (fun X4 H locs h hW _ => ?_)
      refine lv_aload_n hx hb dX6_putColumn_29 rfl (lv_at hl 0 rfl) ?_
      refine r_gR C hW h fl_X6_15 (by decide) dX6_putColumn_30 (fun b5 h => ?_)
      refine lv_iload_n hx hb dX6_putColumn_33 rfl (lv_at hl 1 rfl) ?_
      refine lv_iload_n hx hb dX6_putColumn_34 rfl (lv_at hl 3 rfl) ?_
      refine r_iast C hW h dX6_putColumn_35 (fun X6 H locs h hW _ => ?_)
      exact r_vret C hW (Option.some.inj h).symm dX6_putColumn_36
set_option maxRecDepth 20000 in
set_option maxHeartbeats 2000000 in
theorem b_X2_mergeAddedColumns_52 {k2 : Mx → Int32 → Option Mx} {a : Nat} {a1 : Nat} {x2 : Int32} (C : Cx g RX2 cX2_mergeAddedColumns 4 none p s m args meth c) {r : Mx} {X : Mx} (hk2 : ∀ {H' : Heap} {locs' : List Loc} {ls' : Array Slot} {X' : Mx} {x2' : Int32}, Wd g σ X' s H' locs' → lv_has ls' 4 [(0, .ref a), (1, .ref a1), (2, .int x2')] → k2 X' x2' = some r → W p l e (rmZ 2 44) s m args below meth c H' locs' 0 0 (QV g σ below args s r) (F0 m 2 ls' [])) (hW : Wd g σ X s H locs) (hl : lv_has ls 4 [(0, .ref a), (1, .ref a1), (2, .int x2)]) (h : f_X2_mergeAddedColumns_52 k2 σ a a1 x2 X = some r) : W p l e (rmZ 2 44) s m args below meth c H locs 0 0 (QV g σ below args s r) (F0 m 52 ls []) := by
  have hx := C.x
  have hb := C.b
  unfold f_X2_mergeAddedColumns_52 at h
  refine lv_iinc (v := (x2 + 1)) (lv' := [(2, .int (x2 + 1)), (0, .ref a), (1, .ref a1)]) hx hb dX2_mergeAddedColumns_52 hl (k := 2) rfl rfl (by decide) rfl (fun ls hl => ?_)
  refine lv_goto (tgt := 2) hx hb dX2_mergeAddedColumns_55 (by decide) ?_
  exact hk2 hW (lv_sub hl [1, 2, 0] rfl) h
set_option maxRecDepth 20000 in
set_option maxHeartbeats 2000000 in
theorem b_X2_mergeAddedColumns_126 {k61 : Mx → Int32 → Option Mx} {a : Nat} {a1 : Nat} {x2 : Int32} (C : Cx g RX2 cX2_mergeAddedColumns 4 none p s m args meth c) {r : Mx} {X : Mx} (hk61 : ∀ {H' : Heap} {locs' : List Loc} {ls' : Array Slot} {X' : Mx} {x2' : Int32}, Wd g σ X' s H' locs' → lv_has ls' 4 [(0, .ref a), (1, .ref a1), (2, .int x2')] → k61 X' x2' = some r → W p l e (rmZ 2 44) s m args below meth c H' locs' 0 0 (QV g σ below args s r) (F0 m 61 ls' [])) (hW : Wd g σ X s H locs) (hl : lv_has ls 4 [(0, .ref a), (1, .ref a1), (2, .int x2)]) (h : f_X2_mergeAddedColumns_126 k61 σ a a1 x2 X = some r) : W p l e (rmZ 2 44) s m args below meth c H locs 0 0 (QV g σ below args s r) (F0 m 126 ls []) := by
  have hx := C.x
  have hb := C.b
  unfold f_X2_mergeAddedColumns_126 at h
  refine lv_iinc (v := (x2 + 1)) (lv' := [(2, .int (x2 + 1)), (0, .ref a), (1, .ref a1)]) hx hb dX2_mergeAddedColumns_126 hl (k := 2) rfl rfl (by decide) rfl (fun ls hl => ?_)
  refine lv_goto (tgt := 61) hx hb dX2_mergeAddedColumns_129 (by decide) ?_
  exact hk61 hW (lv_sub hl [1, 2, 0] rfl) h
set_option maxRecDepth 20000 in
set_option maxHeartbeats 2000000 in
theorem b_X2_mergeAddedColumns_61 {a : Nat} {a1 : Nat} (C : Cx g RX2 cX2_mergeAddedColumns 4 none p s m args meth c) {r : Mx} : ∀ (n : Nat) {X : Mx} {x2 : Int32} {H : Heap} {locs : List Loc} {ls : Array Slot} (hW : Wd g σ X s H locs) (hl : lv_has ls 4 [(0, .ref a), (1, .ref a1), (2, .int x2)]) (h : f_X2_mergeAddedColumns_61 σ a a1 n X x2 = some r), W p l e (rmZ 2 44) s m args below meth c H locs 0 0 (QV g σ below args s r) (F0 m 61 ls []) := by
  have hx := C.x
  have hb := C.b
  intro n
  induction n with
  | zero =>
    intro X x2 H locs ls hW hl h
    cases (show none = some r from h)
  | succ n ih =>
    intro X x2 H locs ls hW hl h
    rw [f_X2_mergeAddedColumns_61] at h
    refine lv_iload_n hx hb dX2_mergeAddedColumns_61 rfl (lv_at hl 2 rfl) ?_
    refine lv_bipush (v := 9) hx hb dX2_mergeAddedColumns_62 (by decide) ?_
    refine r_br h (lv_icmp_ge (tgt := 132) hx hb dX2_mergeAddedColumns_64 (by decide)) (fun h => ?_) (fun h => ?_)
    · exact r_vret C hW (Option.some.inj h).symm dX2_mergeAddedColumns_132
    · refine lv_aload_n hx hb dX2_mergeAddedColumns_67 rfl (lv_at hl 1 rfl) ?_
      refine r_gR C hW h fl_X2_85 (by decide) dX2_mergeAddedColumns_68 (fun b1 h => ?_)
      refine lv_iload_n hx hb dX2_mergeAddedColumns_71 rfl (lv_at hl 2 rfl) ?_
      obtain ⟨v3, h2, h⟩ := bnd_inv h
      refine r_cI hW (run_V (rest := []) C hW (t_X6_hasColumn h2) mk_X6_hasColumn vk_X2_49 (kd_X6_hasColumn h2) rfl rfl (by decide) ⟨Nat.le_of_ble_eq_true rfl, Nat.le_of_ble_eq_true rfl⟩ ⟨Nat.zero_le _, Nat.zero_le _⟩ rfl rfl (Nat.le_of_ble_eq_true rfl) hl.1 dX2_mergeAddedColumns_72) (fun H locs hW _ => ?_)
      refine r_br h (lv_if_eq (tgt := 126) hx hb dX2_mergeAddedColumns_75 (by decide)) (fun h => ?_) (fun h => ?_)
      · exact b_X2_mergeAddedColumns_126 C (fun hW hl h => ih hW hl h) hW (lv_sub hl [0, 1, 2] rfl) h
      · refine lv_aload_n hx hb dX2_mergeAddedColumns_78 rfl (lv_at hl 0 rfl) ?_
        refine lv_aload_n hx hb dX2_mergeAddedColumns_79 rfl (lv_at hl 1 rfl) ?_
        refine lv_iload_n hx hb dX2_mergeAddedColumns_80 rfl (lv_at hl 2 rfl) ?_
        obtain ⟨v5, h4, h⟩ := bnd_inv h
        refine r_cI hW (run_V (rest := []) C hW (t_X2_twinInLeft h4) mk_X2_twinInLeft vk_X2_133 (kd_X2_twinInLeft h4) rfl rfl (by decide) ⟨Nat.le_of_ble_eq_true rfl, Nat.le_of_ble_eq_true rfl⟩ ⟨Nat.zero_le _, Nat.zero_le _⟩ rfl rfl (Nat.le_of_ble_eq_true rfl) hl.1 dX2_mergeAddedColumns_81) (fun H locs hW _ => ?_)
        refine lv_istore_n (lv' := [(3, .int v5), (0, .ref a), (1, .ref a1), (2, .int x2)]) hx hb dX2_mergeAddedColumns_84 rfl hl (by decide) rfl (fun ls hl => ?_)
        refine lv_iload_n hx hb dX2_mergeAddedColumns_85 rfl (lv_at hl 0 rfl) ?_
        refine lv_iconst (v := (-1)) hx hb dX2_mergeAddedColumns_86 (by decide) ?_
        refine r_brn h (lv_icmp_ne (tgt := 119) hx hb dX2_mergeAddedColumns_87 (by decide)) (fun h => ?_) (fun h => ?_)
        · refine lv_aload_n hx hb dX2_mergeAddedColumns_119 rfl (lv_at hl 1 rfl) ?_
          refine r_gR C hW h fl_X2_31 (by decide) dX2_mergeAddedColumns_120 (fun b6 h => ?_)
          refine lv_iload_n hx hb dX2_mergeAddedColumns_123 rfl (lv_at hl 0 rfl) ?_
          refine lv_iload_n hx hb dX2_mergeAddedColumns_124 rfl (lv_at hl 3 rfl) ?_
          refine r_iast C hW h dX2_mergeAddedColumns_125 (fun X7 H locs h hW _ => ?_)
          exact b_X2_mergeAddedColumns_126 C (fun hW hl h => ih hW hl h) hW (lv_sub hl [1, 2, 3] rfl) h
        · refine lv_aload_n hx hb dX2_mergeAddedColumns_90 rfl (lv_at hl 1 rfl) ?_
          refine r_gR C hW h fl_X2_12 (by decide) dX2_mergeAddedColumns_91 (fun b8 h => ?_)
          refine lv_iload_n hx hb dX2_mergeAddedColumns_94 rfl (lv_at hl 3 rfl) ?_
          refine lv_aload_n hx hb dX2_mergeAddedColumns_95 rfl (lv_at hl 2 rfl) ?_
          refine r_gR C hW h fl_X2_85 (by decide) dX2_mergeAddedColumns_96 (fun b9 h => ?_)
          refine r_gR C hW h fl_X2_103 (by decide) dX2_mergeAddedColumns_99 (fun b10 h => ?_)
          refine lv_iload_n hx hb dX2_mergeAddedColumns_102 rfl (lv_at hl 3 rfl) ?_
          refine r_iald C hW h dX2_mergeAddedColumns_103 (fun v11 h => ?_)
          refine lv_aload_n hx hb dX2_mergeAddedColumns_104 rfl (lv_at hl 2 rfl) ?_
          refine r_gR C hW h fl_X2_85 (by decide) dX2_mergeAddedColumns_105 (fun b12 h => ?_)
          refine r_gR C hW h fl_X2_106 (by decide) dX2_mergeAddedColumns_108 (fun b13 h => ?_)
          refine lv_iload_n hx hb dX2_mergeAddedColumns_111 rfl (lv_at hl 3 rfl) ?_
          refine r_iald C hW h dX2_mergeAddedColumns_112 (fun v14 h => ?_)
          obtain ⟨X16, h15, h⟩ := bnd_inv h
          refine r_cV hW (run_V (rest := []) C hW (t_X6_putColumn h15) mk_X6_putColumn vk_X2_95 (kd_X6_putColumn h15) rfl rfl (by decide) ⟨Nat.le_of_ble_eq_true rfl, Nat.le_of_ble_eq_true rfl⟩ ⟨Nat.zero_le _, Nat.zero_le _⟩ rfl rfl (Nat.le_of_ble_eq_true rfl) hl.1 dX2_mergeAddedColumns_113) (fun H locs hW _ => ?_)
          refine lv_goto (tgt := 126) hx hb dX2_mergeAddedColumns_116 (by decide) ?_
          exact b_X2_mergeAddedColumns_126 C (fun hW hl h => ih hW hl h) hW (lv_sub hl [1, 2, 3] rfl) h
set_option maxRecDepth 20000 in
set_option maxHeartbeats 2000000 in
theorem b_X2_mergeAddedColumns_2 {a : Nat} {a1 : Nat} (C : Cx g RX2 cX2_mergeAddedColumns 4 none p s m args meth c) {r : Mx} : ∀ (n : Nat) {X : Mx} {x2 : Int32} {H : Heap} {locs : List Loc} {ls : Array Slot} (hW : Wd g σ X s H locs) (hl : lv_has ls 4 [(0, .ref a), (1, .ref a1), (2, .int x2)]) (h : f_X2_mergeAddedColumns_2 σ a a1 n X x2 = some r), W p l e (rmZ 2 44) s m args below meth c H locs 0 0 (QV g σ below args s r) (F0 m 2 ls []) := by
  have hx := C.x
  have hb := C.b
  intro n
  induction n with
  | zero =>
    intro X x2 H locs ls hW hl h
    cases (show none = some r from h)
  | succ n ih =>
    intro X x2 H locs ls hW hl h
    rw [f_X2_mergeAddedColumns_2] at h
    refine lv_iload_n hx hb dX2_mergeAddedColumns_2 rfl (lv_at hl 2 rfl) ?_
    refine lv_bipush (v := 7) hx hb dX2_mergeAddedColumns_3 (by decide) ?_
    refine r_br h (lv_icmp_ge (tgt := 58) hx hb dX2_mergeAddedColumns_5 (by decide)) (fun h => ?_) (fun h => ?_)
    · refine lv_bipush (v := 7) hx hb dX2_mergeAddedColumns_58 (by decide) ?_
      refine lv_istore_n (lv' := [(2, .int 7), (0, .ref a), (1, .ref a1)]) hx hb dX2_mergeAddedColumns_60 rfl hl (by decide) rfl (fun ls hl => ?_)
      exact b_X2_mergeAddedColumns_61 C FU hW (lv_sub hl [1, 2, 0] rfl) h
    · refine lv_aload_n hx hb dX2_mergeAddedColumns_8 rfl (lv_at hl 0 rfl) ?_
      refine r_gR C hW h fl_X2_31 (by decide) dX2_mergeAddedColumns_9 (fun b1 h => ?_)
      refine lv_iload_n hx hb dX2_mergeAddedColumns_12 rfl (lv_at hl 2 rfl) ?_
      refine lv_iconst (v := (-1)) hx hb dX2_mergeAddedColumns_13 (by decide) ?_
      refine r_iast C hW h dX2_mergeAddedColumns_14 (fun X2 H locs h hW _ => ?_)
      refine lv_aload_n hx hb dX2_mergeAddedColumns_15 rfl (lv_at hl 1 rfl) ?_
      refine r_gR C hW h fl_X2_82 (by decide) dX2_mergeAddedColumns_16 (fun b3 h => ?_)
      refine lv_iload_n hx hb dX2_mergeAddedColumns_19 rfl (lv_at hl 2 rfl) ?_
      obtain ⟨v5, h4, h⟩ := bnd_inv h
      refine r_cI hW (run_V (rest := []) C hW (t_X6_hasColumn h4) mk_X6_hasColumn vk_X2_49 (kd_X6_hasColumn h4) rfl rfl (by decide) ⟨Nat.le_of_ble_eq_true rfl, Nat.le_of_ble_eq_true rfl⟩ ⟨Nat.zero_le _, Nat.zero_le _⟩ rfl rfl (Nat.le_of_ble_eq_true rfl) hl.1 dX2_mergeAddedColumns_20) (fun H locs hW _ => ?_)
      refine r_br h (lv_if_eq (tgt := 52) hx hb dX2_mergeAddedColumns_23 (by decide)) (fun h => ?_) (fun h => ?_)
      · exact b_X2_mergeAddedColumns_52 C (fun hW hl h => ih hW hl h) hW (lv_sub hl [0, 1, 2] rfl) h
      · refine lv_aload_n hx hb dX2_mergeAddedColumns_26 rfl (lv_at hl 0 rfl) ?_
        refine r_gR C hW h fl_X2_12 (by decide) dX2_mergeAddedColumns_27 (fun b6 h => ?_)
        refine lv_iload_n hx hb dX2_mergeAddedColumns_30 rfl (lv_at hl 2 rfl) ?_
        refine lv_aload_n hx hb dX2_mergeAddedColumns_31 rfl (lv_at hl 1 rfl) ?_
        refine r_gR C hW h fl_X2_82 (by decide) dX2_mergeAddedColumns_32 (fun b7 h => ?_)
        refine r_gR C hW h fl_X2_103 (by decide) dX2_mergeAddedColumns_35 (fun b8 h => ?_)
        refine lv_iload_n hx hb dX2_mergeAddedColumns_38 rfl (lv_at hl 2 rfl) ?_
        refine r_iald C hW h dX2_mergeAddedColumns_39 (fun v9 h => ?_)
        refine lv_aload_n hx hb dX2_mergeAddedColumns_40 rfl (lv_at hl 1 rfl) ?_
        refine r_gR C hW h fl_X2_82 (by decide) dX2_mergeAddedColumns_41 (fun b10 h => ?_)
        refine r_gR C hW h fl_X2_106 (by decide) dX2_mergeAddedColumns_44 (fun b11 h => ?_)
        refine lv_iload_n hx hb dX2_mergeAddedColumns_47 rfl (lv_at hl 2 rfl) ?_
        refine r_iald C hW h dX2_mergeAddedColumns_48 (fun v12 h => ?_)
        obtain ⟨X14, h13, h⟩ := bnd_inv h
        refine r_cV hW (run_V (rest := []) C hW (t_X6_putColumn h13) mk_X6_putColumn vk_X2_95 (kd_X6_putColumn h13) rfl rfl (by decide) ⟨Nat.le_of_ble_eq_true rfl, Nat.le_of_ble_eq_true rfl⟩ ⟨Nat.zero_le _, Nat.zero_le _⟩ rfl rfl (Nat.le_of_ble_eq_true rfl) hl.1 dX2_mergeAddedColumns_49) (fun H locs hW _ => ?_)
        exact b_X2_mergeAddedColumns_52 C (fun hW hl h => ih hW hl h) hW (lv_sub hl [0, 1, 2] rfl) h
theorem kd_X2_mergeAddedColumns {X : Mx} {r : Mx} {a : Nat} {a1 : Nat} (h : f_X2_mergeAddedColumns σ X a a1 = some r) : shK σ a = 1 := (grd_inv h).1
set_option maxRecDepth 20000 in
set_option maxHeartbeats 2000000 in
theorem t_X2_mergeAddedColumns {X : Mx} {r : Mx} {a : Nat} {a1 : Nat} (h : f_X2_mergeAddedColumns σ X a a1 = some r) : MtV g l yX2_mergeAddedColumns cX2_mergeAddedColumns 4 none 2 44 [.ref a, .ref a1] σ X r := by
  refine met_of mk_X2_mergeAddedColumns (Nat.le_of_ble_eq_true rfl) (fun p e s m args below meth c ls C hW hl => ?_)
  have hx := C.x
  have hb := C.b
  have hl : lv_has ls 4 [(0, .ref a), (1, .ref a1)] := hl
  unfold f_X2_mergeAddedColumns at h
  obtain ⟨hk0, h⟩ := grd_inv h
  refine lv_iconst (v := 5) hx hb dX2_mergeAddedColumns_0 (by decide) ?_
  refine lv_istore_n (lv' := [(2, .int 5), (0, .ref a), (1, .ref a1)]) hx hb dX2_mergeAddedColumns_1 rfl hl (by decide) rfl (fun ls hl => ?_)
  exact b_X2_mergeAddedColumns_2 C FU hW (lv_sub hl [1, 2, 0] rfl) h
set_option maxRecDepth 20000 in
set_option maxHeartbeats 2000000 in
theorem t_J9_max_7cf53 {X : Mx} {x0 : Int32} {x1 : Int32} : MtI g l yJ9_max_7cf53 cJ9_max_7cf53 2 (some .int) 0 0 [.int x0, .int x1] σ X (f_J9_max_7cf53 x0 x1, X) := by
  obtain ⟨r, h⟩ : ∃ r, f_J9_max_7cf53 x0 x1 = r := ⟨_, rfl⟩
  rw [h]
  refine met_of mk_J9_max_7cf53 (Nat.le_of_ble_eq_true rfl) (fun p e s m args below meth c ls C hW hl => ?_)
  have hx := C.x
  have hb := C.b
  have hl : lv_has ls 2 [(0, .int x0), (1, .int x1)] := hl
  unfold f_J9_max_7cf53 at h
  refine lv_iload_n hx hb dJ9_max_7cf53_0 rfl (lv_at hl 0 rfl) ?_
  refine lv_iload_n hx hb dJ9_max_7cf53_1 rfl (lv_at hl 1 rfl) ?_
  refine r_br h (lv_icmp_lt (tgt := 9) hx hb dJ9_max_7cf53_2 (by decide)) (fun h => ?_) (fun h => ?_)
  · refine lv_iload_n hx hb dJ9_max_7cf53_9 rfl (lv_at hl 1 rfl) ?_
    exact r_iret C hW (rt_T h) rfl dJ9_max_7cf53_10
  · refine lv_iload_n hx hb dJ9_max_7cf53_5 rfl (lv_at hl 0 rfl) ?_
    refine lv_goto (tgt := 10) hx hb dJ9_max_7cf53_6 (by decide) ?_
    exact r_iret C hW (rt_T h) rfl dJ9_max_7cf53_10
set_option maxRecDepth 20000 in
set_option maxHeartbeats 2000000 in
theorem t_X2_chosen {X : Mx} {x0 : Int32} {x1 : Int32} {x2 : Int32} {x3 : Int32} : MtI g l yX2_chosen cX2_chosen 4 (some .int) 0 0 [.int x0, .int x1, .int x2, .int x3] σ X (f_X2_chosen x0 x1 x2 x3, X) := by
  obtain ⟨r, h⟩ : ∃ r, f_X2_chosen x0 x1 x2 x3 = r := ⟨_, rfl⟩
  rw [h]
  refine met_of mk_X2_chosen (Nat.le_of_ble_eq_true rfl) (fun p e s m args below meth c ls C hW hl => ?_)
  have hx := C.x
  have hb := C.b
  have hl : lv_has ls 4 [(0, .int x0), (1, .int x1), (2, .int x2), (3, .int x3)] := hl
  unfold f_X2_chosen at h
  refine lv_iload_n hx hb dX2_chosen_0 rfl (lv_at hl 0 rfl) ?_
  refine lv_iconst (v := 1) hx hb dX2_chosen_1 (by decide) ?_
  refine r_brn h (lv_icmp_ne (tgt := 7) hx hb dX2_chosen_2 (by decide)) (fun h => ?_) (fun h => ?_)
  · refine lv_iload_n hx hb dX2_chosen_7 rfl (lv_at hl 0 rfl) ?_
    refine lv_iconst (v := 2) hx hb dX2_chosen_8 (by decide) ?_
    refine r_brn h (lv_icmp_ne (tgt := 16) hx hb dX2_chosen_9 (by decide)) (fun h => ?_) (fun h => ?_)
    · refine lv_iload_n hx hb dX2_chosen_16 rfl (lv_at hl 1 rfl) ?_
      exact r_iret C hW (rt_T h) rfl dX2_chosen_17
    · refine lv_iload_n hx hb dX2_chosen_12 rfl (lv_at hl 3 rfl) ?_
      refine lv_goto (tgt := 17) hx hb dX2_chosen_13 (by decide) ?_
      exact r_iret C hW (rt_T h) rfl dX2_chosen_17
  · refine lv_iload_n hx hb dX2_chosen_5 rfl (lv_at hl 2 rfl) ?_
    exact r_iret C hW (rt_T h) rfl dX2_chosen_6
theorem kd_X5_sideOf {X : Mx} {r : Nat} {a : Nat} {x1 : Int32} (h : f_X5_sideOf σ X a x1 = some r) : shK σ a = 4 := (grd_inv h).1
set_option maxRecDepth 20000 in
set_option maxHeartbeats 2000000 in
theorem t_X5_sideOf {X : Mx} {r : Nat} {a : Nat} {x1 : Int32} (h : f_X5_sideOf σ X a x1 = some r) : MtR g l yX5_sideOf cX5_sideOf 2 (some (.object "TableMerge$Table")) 0 0 [.ref a, .int x1] σ X (r, X) := by
  refine met_of mk_X5_sideOf (Nat.le_of_ble_eq_true rfl) (fun p e s m args below meth c ls C hW hl => ?_)
  have hx := C.x
  have hb := C.b
  have hl : lv_has ls 2 [(0, .ref a), (1, .int x1)] := hl
  unfold f_X5_sideOf at h
  obtain ⟨hk0, h⟩ := grd_inv h
  refine lv_iload_n hx hb dX5_sideOf_0 rfl (lv_at hl 1 rfl) ?_
  refine r_brn h (lv_if_ne (tgt := 11) hx hb dX5_sideOf_1 (by decide)) (fun h => ?_) (fun h => ?_)
  · refine lv_aload_n hx hb dX5_sideOf_11 rfl (lv_at hl 0 rfl) ?_
    refine r_gR C hW h fl_X5_21 (by decide) dX5_sideOf_12 (fun b1 h => ?_)
    exact r_aret C hW (rt_R h) dX5_sideOf_15
  · refine lv_aload_n hx hb dX5_sideOf_4 rfl (lv_at hl 0 rfl) ?_
    refine r_gR C hW h fl_X5_18 (by decide) dX5_sideOf_5 (fun b2 h => ?_)
    refine lv_goto (tgt := 15) hx hb dX5_sideOf_8 (by decide) ?_
    exact r_aret C hW (rt_R h) dX5_sideOf_15
set_option maxRecDepth 20000 in
set_option maxHeartbeats 2000000 in
theorem t_X8_cast {X : Mx} {x0 : Int32} {x1 : Int32} : MtI g l yX8_cast cX8_cast 2 (some .int) 0 0 [.int x0, .int x1] σ X (f_X8_cast x0 x1, X) := by
  obtain ⟨r, h⟩ : ∃ r, f_X8_cast x0 x1 = r := ⟨_, rfl⟩
  rw [h]
  refine met_of mk_X8_cast (Nat.le_of_ble_eq_true rfl) (fun p e s m args below meth c ls C hW hl => ?_)
  have hx := C.x
  have hb := C.b
  have hl : lv_has ls 2 [(0, .int x0), (1, .int x1)] := hl
  unfold f_X8_cast at h
  refine lv_iload_n hx hb dX8_cast_0 rfl (lv_at hl 0 rfl) ?_
  refine lv_sipush (v := 9999) hx hb dX8_cast_1 (by decide) ?_
  refine r_brn h (lv_icmp_ne (tgt := 11) hx hb dX8_cast_4 (by decide)) (fun h => ?_) (fun h => ?_)
  · refine lv_iload_n hx hb dX8_cast_11 rfl (lv_at hl 1 rfl) ?_
    refine r_case h (fun ec h => ?_) (fun nc0 h => ?_)
    · refine lv_tableIn (tgt := 40) (off := 28) hx hb dX8_cast_12 (by rw [ec]; decide) (by rw [ec]; decide) (by rw [ec]; rfl) (by decide) ?_
      refine lv_iload_n hx hb dX8_cast_40 rfl (lv_at hl 0 rfl) ?_
      refine r_br h (lv_if_ge (tgt := 49) hx hb dX8_cast_41 (by decide)) (fun h => ?_) (fun h => ?_)
      · refine lv_iload_n hx hb dX8_cast_49 rfl (lv_at hl 0 rfl) ?_
        refine lv_bipush (v := 10) hx hb dX8_cast_50 (by decide) ?_
        refine lv_irem hx hb dX8_cast_52 (by decide) ?_
        exact r_iret C hW (rt_T h) rfl dX8_cast_53
      · refine lv_iload_n hx hb dX8_cast_44 rfl (lv_at hl 0 rfl) ?_
        refine lv_ineg hx hb dX8_cast_45 ?_
        refine lv_goto (tgt := 50) hx hb dX8_cast_46 (by decide) ?_
        refine lv_bipush (v := 10) hx hb dX8_cast_50 (by decide) ?_
        refine lv_irem hx hb dX8_cast_52 (by decide) ?_
        exact r_iret C hW (rt_T h) rfl dX8_cast_53
    refine r_case h (fun ec h => ?_) (fun nc1 h => ?_)
    · refine lv_tableIn (tgt := 54) (off := 42) hx hb dX8_cast_12 (by rw [ec]; decide) (by rw [ec]; decide) (by rw [ec]; rfl) (by decide) ?_
      refine lv_iload_n hx hb dX8_cast_54 rfl (lv_at hl 0 rfl) ?_
      refine lv_iload_n hx hb dX8_cast_55 rfl (lv_at hl 0 rfl) ?_
      refine lv_iconst (v := 2) hx hb dX8_cast_56 (by decide) ?_
      refine lv_irem hx hb dX8_cast_57 (by decide) ?_
      refine lv_isub hx hb dX8_cast_58 ?_
      exact r_iret C hW (rt_T h) rfl dX8_cast_59
    refine r_case h (fun ec h => ?_) (fun nc2 h => ?_)
    · refine lv_tableIn (tgt := 60) (off := 48) hx hb dX8_cast_12 (by rw [ec]; decide) (by rw [ec]; decide) (by rw [ec]; rfl) (by decide) ?_
      refine lv_iload_n hx hb dX8_cast_60 rfl (lv_at hl 0 rfl) ?_
      refine r_brn h (lv_if_ne (tgt := 68) hx hb dX8_cast_61 (by decide)) (fun h => ?_) (fun h => ?_)
      · refine lv_iconst (v := 1) hx hb dX8_cast_68 (by decide) ?_
        exact r_iret C hW (rt_T h) rfl dX8_cast_69
      · refine lv_iconst (v := 0) hx hb dX8_cast_64 (by decide) ?_
        refine lv_goto (tgt := 69) hx hb dX8_cast_65 (by decide) ?_
        exact r_iret C hW (rt_T h) rfl dX8_cast_69
    refine lv_tableOut (tgt := 70) hx hb dX8_cast_12 (sw_out (lo := 1) (n := 2) (sw_s nc2 (sw_s nc1 (sw_0 nc0))) (by decide)) (by decide) ?_
    refine lv_iload_n hx hb dX8_cast_70 rfl (lv_at hl 0 rfl) ?_
    exact r_iret C hW (rt_T h) rfl dX8_cast_71
  · refine lv_sipush (v := 9999) hx hb dX8_cast_7 (by decide) ?_
    exact r_iret C hW (rt_T h) rfl dX8_cast_10
theorem kd_X5_isChanged {X : Mx} {r : Int32} {a : Nat} {x1 : Int32} {x2 : Int32} {x3 : Int32} (h : f_X5_isChanged σ X a x1 x2 x3 = some r) : shK σ a = 4 := (grd_inv h).1
set_option maxRecDepth 20000 in
set_option maxHeartbeats 2000000 in
theorem t_X5_isChanged {X : Mx} {r : Int32} {a : Nat} {x1 : Int32} {x2 : Int32} {x3 : Int32} (h : f_X5_isChanged σ X a x1 x2 x3 = some r) : MtI g l yX5_isChanged cX5_isChanged 5 (some .boolean) 1 22 [.ref a, .int x1, .int x2, .int x3] σ X (r, X) := by
  refine met_of mk_X5_isChanged (Nat.le_of_ble_eq_true rfl) (fun p e s m args below meth c ls C hW hl => ?_)
  have hx := C.x
  have hb := C.b
  have hl : lv_has ls 5 [(0, .ref a), (1, .int x1), (2, .int x2), (3, .int x3)] := hl
  unfold f_X5_isChanged at h
  obtain ⟨hk0, h⟩ := grd_inv h
  refine lv_aload_n hx hb dX5_isChanged_0 rfl (lv_at hl 0 rfl) ?_
  refine lv_iload_n hx hb dX5_isChanged_1 rfl (lv_at hl 1 rfl) ?_
  obtain ⟨b2, h1, h⟩ := bnd_inv h
  refine r_cR hW (run_V (rest := []) C hW (t_X5_sideOf h1) mk_X5_sideOf vk_X5_69 (kd_X5_sideOf h1) rfl rfl (by decide) ⟨Nat.le_of_ble_eq_true rfl, Nat.le_of_ble_eq_true rfl⟩ ⟨Nat.zero_le _, Nat.zero_le _⟩ rfl rfl (Nat.le_of_ble_eq_true rfl) hl.1 dX5_isChanged_2) (fun H locs hW _ => ?_)
  refine lv_astore (lv' := [(4, .ref b2), (0, .ref a), (1, .int x1), (2, .int x2), (3, .int x3)]) hx hb dX5_isChanged_5 hl (by decide) rfl (fun ls hl => ?_)
  refine lv_aload hx hb dX5_isChanged_7 (lv_at hl 0 rfl) ?_
  refine lv_iload_n hx hb dX5_isChanged_9 rfl (lv_at hl 3 rfl) ?_
  refine lv_iload_n hx hb dX5_isChanged_10 rfl (lv_at hl 4 rfl) ?_
  obtain ⟨v4, h3, h⟩ := bnd_inv h
  refine r_cI hW (run_V (rest := []) C hW (t_X6_hasCell h3) mk_X6_hasCell vk_X5_89 (kd_X6_hasCell h3) rfl rfl (by decide) ⟨Nat.le_of_ble_eq_true rfl, Nat.le_of_ble_eq_true rfl⟩ ⟨Nat.zero_le _, Nat.zero_le _⟩ rfl rfl (Nat.le_of_ble_eq_true rfl) hl.1 dX5_isChanged_11) (fun H locs hW _ => ?_)
  refine r_brn h (lv_if_ne (tgt := 19) hx hb dX5_isChanged_14 (by decide)) (fun h => ?_) (fun h => ?_)
  · refine lv_aload hx hb dX5_isChanged_19 (lv_at hl 0 rfl) ?_
    refine lv_iload_n hx hb dX5_isChanged_21 rfl (lv_at hl 3 rfl) ?_
    refine lv_iload_n hx hb dX5_isChanged_22 rfl (lv_at hl 4 rfl) ?_
    obtain ⟨v6, h5, h⟩ := bnd_inv h
    refine r_cI hW (run_V (rest := []) C hW (t_X6_numberAt h5) mk_X6_numberAt vk_X5_73 (kd_X6_numberAt h5) rfl rfl (by decide) ⟨Nat.le_of_ble_eq_true rfl, Nat.le_of_ble_eq_true rfl⟩ ⟨Nat.zero_le _, Nat.zero_le _⟩ rfl rfl (Nat.le_of_ble_eq_true rfl) hl.1 dX5_isChanged_23) (fun H locs hW _ => ?_)
    refine lv_aload_n hx hb dX5_isChanged_26 rfl (lv_at hl 1 rfl) ?_
    refine r_gR C hW h fl_X5_12 (by decide) dX5_isChanged_27 (fun b7 h => ?_)
    refine lv_iload_n hx hb dX5_isChanged_30 rfl (lv_at hl 3 rfl) ?_
    refine lv_iload_n hx hb dX5_isChanged_31 rfl (lv_at hl 4 rfl) ?_
    obtain ⟨v9, h8, h⟩ := bnd_inv h
    refine r_cI hW (run_V (rest := [.int v6]) C hW (t_X6_numberAt h8) mk_X6_numberAt vk_X5_73 (kd_X6_numberAt h8) rfl rfl (by decide) ⟨Nat.le_of_ble_eq_true rfl, Nat.le_of_ble_eq_true rfl⟩ ⟨Nat.zero_le _, Nat.zero_le _⟩ rfl rfl (Nat.le_of_ble_eq_true rfl) hl.1 dX5_isChanged_32) (fun H locs hW _ => ?_)
    refine lv_aload hx hb dX5_isChanged_35 (lv_at hl 0 rfl) ?_
    refine r_gR C hW h fl_X5_81 (by decide) dX5_isChanged_37 (fun b10 h => ?_)
    refine lv_iload_n hx hb dX5_isChanged_40 rfl (lv_at hl 4 rfl) ?_
    refine r_iald C hW h dX5_isChanged_41 (fun v11 h => ?_)
    refine r_cI hW (run_S (rest := [.int v6]) C hW (t_X8_cast (X := X)) mk_X8_cast sk_X5_84 ⟨Nat.le_of_ble_eq_true rfl, Nat.le_of_ble_eq_true rfl⟩ ⟨Nat.zero_le _, Nat.zero_le _⟩ rfl rfl (Nat.le_of_ble_eq_true rfl) hl.1 dX5_isChanged_42) (fun H locs hW _ => ?_)
    refine r_br h (lv_icmp_eq (tgt := 52) hx hb dX5_isChanged_45 (by decide)) (fun h => ?_) (fun h => ?_)
    · refine lv_iconst (v := 0) hx hb dX5_isChanged_52 (by decide) ?_
      exact r_iret C hW (rt_R h) rfl dX5_isChanged_53
    · refine lv_iconst (v := 1) hx hb dX5_isChanged_48 (by decide) ?_
      refine lv_goto (tgt := 53) hx hb dX5_isChanged_49 (by decide) ?_
      exact r_iret C hW (rt_R h) rfl dX5_isChanged_53
  · refine lv_iconst (v := 0) hx hb dX5_isChanged_17 (by decide) ?_
    exact r_iret C hW (rt_R h) rfl dX5_isChanged_18
set_option maxRecDepth 20000 in
set_option maxHeartbeats 2000000 in
theorem b_X2_mergeCell_176 {x6 : Int32} (C : Cx g RX2 cX2_mergeCell 10 none p s m args meth c) {r : Mx} {X : Mx} {y0 : Nat} {y1 : Int32} {y2 : Int32} {y3 : Int32} (hW : Wd g σ X s H locs) (hl : lv_has ls 10 [(6, .int x6)]) (h : f_X2_mergeCell_176 σ x6 X y0 y1 y2 y3 = some r) : W p l e (rmZ 2 47) s m args below meth c H locs 0 0 (QV g σ below args s r) (F0 m 176 ls [.int y3, .int y2, .int y1, .ref y0]) := by
  have hx := C.x
  have hb := C.b
  unfold f_X2_mergeCell_176 at h
  refine lv_iload hx hb dX2_mergeCell_176 (lv_at hl 0 rfl) ?_
  obtain ⟨X2, h1, h⟩ := bnd_inv h
  refine r_cV hW (run_V (rest := []) C hW (t_X2_putMerged h1) mk_X2_putMerged vk_X2_170 (kd_X2_putMerged h1) rfl rfl (by decide) ⟨Nat.le_of_ble_eq_true rfl, Nat.le_of_ble_eq_true rfl⟩ ⟨Nat.zero_le _, Nat.zero_le _⟩ rfl rfl (Nat.le_of_ble_eq_true rfl) hl.1 dX2_mergeCell_178) (fun H locs hW _ => ?_)
  exact r_vret C hW (Option.some.inj h).symm dX2_mergeCell_181
set_option maxRecDepth 20000 in
set_option maxHeartbeats 2000000 in
theorem b_X2_mergeCell_151 {a : Nat} {x2 : Int32} {x3 : Int32} {x6 : Int32} {x7 : Int32} {x8 : Int32} {x9 : Int32} (C : Cx g RX2 cX2_mergeCell 10 none p s m args meth c) {r : Mx} {X : Mx} (hW : Wd g σ X s H locs) (hl : lv_has ls 10 [(0, .ref a), (2, .int x2), (3, .int x3), (6, .int x6), (7, .int x7), (8, .int x8), (9, .int x9)]) (h : f_X2_mergeCell_151 σ a x2 x3 x6 x7 x8 x9 X = some r) : W p l e (rmZ 2 47) s m args below meth c H locs 0 0 (QV g σ below args s r) (F0 m 151 ls []) := by
  have hx := C.x
  have hb := C.b
  unfold f_X2_mergeCell_151 at h
  refine lv_aload_n hx hb dX2_mergeCell_151 rfl (lv_at hl 0 rfl) ?_
  refine lv_iload_n hx hb dX2_mergeCell_152 rfl (lv_at hl 1 rfl) ?_
  refine lv_iload_n hx hb dX2_mergeCell_153 rfl (lv_at hl 2 rfl) ?_
  refine lv_iload hx hb dX2_mergeCell_154 (lv_at hl 3 rfl) ?_
  refine lv_iconst (v := 3) hx hb dX2_mergeCell_156 (by decide) ?_
  refine r_brn h (lv_icmp_ne (tgt := 165) hx hb dX2_mergeCell_157 (by decide)) (fun h => ?_) (fun h => ?_)
  · refine lv_iload hx hb dX2_mergeCell_165 (lv_at hl 3 rfl) ?_
    refine lv_iload hx hb dX2_mergeCell_167 (lv_at hl 4 rfl) ?_
    refine lv_iload hx hb dX2_mergeCell_169 (lv_at hl 5 rfl) ?_
    refine lv_iload hx hb dX2_mergeCell_171 (lv_at hl 6 rfl) ?_
    refine r_cI hW (run_S (rest := [.int x3, .int x2, .ref a]) C hW (t_X2_chosen (X := X)) mk_X2_chosen sk_X2_123 ⟨Nat.le_of_ble_eq_true rfl, Nat.le_of_ble_eq_true rfl⟩ ⟨Nat.zero_le _, Nat.zero_le _⟩ rfl rfl (Nat.le_of_ble_eq_true rfl) hl.1 dX2_mergeCell_173) (fun H locs hW _ => ?_)
    exact b_X2_mergeCell_176 C hW (lv_sub hl [3] rfl) h
  · refine lv_iload hx hb dX2_mergeCell_160 (lv_at hl 5 rfl) ?_
    refine lv_goto (tgt := 176) hx hb dX2_mergeCell_162 (by decide) ?_
    exact b_X2_mergeCell_176 C hW (lv_sub hl [3] rfl) h
set_option maxRecDepth 20000 in
set_option maxHeartbeats 2000000 in
theorem b_X2_mergeCell_50 {a : Nat} {a1 : Nat} {x2 : Int32} {x3 : Int32} {x4 : Int32} {x5 : Int32} (C : Cx g RX2 cX2_mergeCell 10 none p s m args meth c) {r : Mx} {X : Mx} {y0 : Int32} {y1 : Int32} (hW : Wd g σ X s H locs) (hl : lv_has ls 10 [(0, .ref a), (1, .ref a1), (2, .int x2), (3, .int x3), (4, .int x4), (5, .int x5)]) (h : f_X2_mergeCell_50 σ a a1 x2 x3 x4 x5 X y0 y1 = some r) : W p l e (rmZ 2 47) s m args below meth c H locs 0 0 (QV g σ below args s r) (F0 m 50 ls [.int y1, .int y0]) := by
  have hx := C.x
  have hb := C.b
  unfold f_X2_mergeCell_50 at h
  refine lv_iadd hx hb dX2_mergeCell_50 ?_
  refine lv_istore (lv' := [(6, .int (y0 + y1)), (0, .ref a), (1, .ref a1), (2, .int x2), (3, .int x3), (4, .int x4), (5, .int x5)]) hx hb dX2_mergeCell_51 hl (by decide) rfl (fun ls hl => ?_)
  refine lv_aload_n hx hb dX2_mergeCell_53 rfl (lv_at hl 2 rfl) ?_
  refine r_gR C hW h fl_X2_44 (by decide) dX2_mergeCell_54 (fun b1 h => ?_)
  refine lv_iload_n hx hb dX2_mergeCell_57 rfl (lv_at hl 3 rfl) ?_
  refine lv_iload_n hx hb dX2_mergeCell_58 rfl (lv_at hl 4 rfl) ?_
  obtain ⟨v3, h2, h⟩ := bnd_inv h
  refine r_cI hW (run_V (rest := []) C hW (t_X6_numberAt h2) mk_X6_numberAt vk_X2_164 (kd_X6_numberAt h2) rfl rfl (by decide) ⟨Nat.le_of_ble_eq_true rfl, Nat.le_of_ble_eq_true rfl⟩ ⟨Nat.zero_le _, Nat.zero_le _⟩ rfl rfl (Nat.le_of_ble_eq_true rfl) hl.1 dX2_mergeCell_59) (fun H locs hW _ => ?_)
  refine lv_iload hx hb dX2_mergeCell_62 (lv_at hl 5 rfl) ?_
  refine r_cI hW (run_S (rest := []) C hW (t_X8_cast (X := X)) mk_X8_cast sk_X2_167 ⟨Nat.le_of_ble_eq_true rfl, Nat.le_of_ble_eq_true rfl⟩ ⟨Nat.zero_le _, Nat.zero_le _⟩ rfl rfl (Nat.le_of_ble_eq_true rfl) hl.1 dX2_mergeCell_64) (fun H locs hW _ => ?_)
  refine lv_istore (lv' := [(7, .int (f_X8_cast v3 x4)), (6, .int (y0 + y1)), (0, .ref a), (1, .ref a1), (2, .int x2), (3, .int x3), (4, .int x4), (5, .int x5)]) hx hb dX2_mergeCell_67 hl (by decide) rfl (fun ls hl => ?_)
  refine lv_iload hx hb dX2_mergeCell_69 (lv_at hl 1 rfl) ?_
  refine r_brn h (lv_if_ne (tgt := 84) hx hb dX2_mergeCell_71 (by decide)) (fun h => ?_) (fun h => ?_)
  · refine lv_aload_n hx hb dX2_mergeCell_84 rfl (lv_at hl 3 rfl) ?_
    refine r_gR C hW h fl_X2_82 (by decide) dX2_mergeCell_85 (fun b4 h => ?_)
    refine lv_iload_n hx hb dX2_mergeCell_88 rfl (lv_at hl 4 rfl) ?_
    refine lv_iload_n hx hb dX2_mergeCell_89 rfl (lv_at hl 5 rfl) ?_
    obtain ⟨v6, h5, h⟩ := bnd_inv h
    refine r_cI hW (run_V (rest := []) C hW (t_X6_numberAt h5) mk_X6_numberAt vk_X2_164 (kd_X6_numberAt h5) rfl rfl (by decide) ⟨Nat.le_of_ble_eq_true rfl, Nat.le_of_ble_eq_true rfl⟩ ⟨Nat.zero_le _, Nat.zero_le _⟩ rfl rfl (Nat.le_of_ble_eq_true rfl) hl.1 dX2_mergeCell_90) (fun H locs hW _ => ?_)
    refine lv_iload hx hb dX2_mergeCell_93 (lv_at hl 6 rfl) ?_
    refine r_cI hW (run_S (rest := []) C hW (t_X8_cast (X := X)) mk_X8_cast sk_X2_167 ⟨Nat.le_of_ble_eq_true rfl, Nat.le_of_ble_eq_true rfl⟩ ⟨Nat.zero_le _, Nat.zero_le _⟩ rfl rfl (Nat.le_of_ble_eq_true rfl) hl.1 dX2_mergeCell_95) (fun H locs hW _ => ?_)
    refine lv_istore (lv' := [(8, .int (f_X8_cast v6 x4)), (7, .int (f_X8_cast v3 x4)), (6, .int (y0 + y1)), (0, .ref a), (1, .ref a1), (2, .int x2), (3, .int x3), (4, .int x4), (5, .int x5)]) hx hb dX2_mergeCell_98 hl (by decide) rfl (fun ls hl => ?_)
    refine lv_aload_n hx hb dX2_mergeCell_100 rfl (lv_at hl 4 rfl) ?_
    refine r_gR C hW h fl_X2_85 (by decide) dX2_mergeCell_101 (fun b7 h => ?_)
    refine lv_iload_n hx hb dX2_mergeCell_104 rfl (lv_at hl 5 rfl) ?_
    refine lv_iload hx hb dX2_mergeCell_105 (lv_at hl 8 rfl) ?_
    obtain ⟨v9, h8, h⟩ := bnd_inv h
    refine r_cI hW (run_V (rest := []) C hW (t_X6_numberAt h8) mk_X6_numberAt vk_X2_164 (kd_X6_numberAt h8) rfl rfl (by decide) ⟨Nat.le_of_ble_eq_true rfl, Nat.le_of_ble_eq_true rfl⟩ ⟨Nat.zero_le _, Nat.zero_le _⟩ rfl rfl (Nat.le_of_ble_eq_true rfl) hl.1 dX2_mergeCell_107) (fun H locs hW _ => ?_)
    refine lv_iload hx hb dX2_mergeCell_110 (lv_at hl 7 rfl) ?_
    refine r_cI hW (run_S (rest := []) C hW (t_X8_cast (X := X)) mk_X8_cast sk_X2_167 ⟨Nat.le_of_ble_eq_true rfl, Nat.le_of_ble_eq_true rfl⟩ ⟨Nat.zero_le _, Nat.zero_le _⟩ rfl rfl (Nat.le_of_ble_eq_true rfl) hl.1 dX2_mergeCell_112) (fun H locs hW _ => ?_)
    refine lv_istore (lv' := [(9, .int (f_X8_cast v9 x4)), (8, .int (f_X8_cast v6 x4)), (7, .int (f_X8_cast v3 x4)), (6, .int (y0 + y1)), (0, .ref a), (1, .ref a1), (2, .int x2), (3, .int x3), (4, .int x4), (5, .int x5)]) hx hb dX2_mergeCell_115 hl (by decide) rfl (fun ls hl => ?_)
    refine lv_iload hx hb dX2_mergeCell_117 (lv_at hl 3 rfl) ?_
    refine lv_iconst (v := 3) hx hb dX2_mergeCell_119 (by decide) ?_
    refine r_brn h (lv_icmp_ne (tgt := 151) hx hb dX2_mergeCell_120 (by decide)) (fun h => ?_) (fun h => ?_)
    · exact b_X2_mergeCell_151 C hW (lv_sub hl [4, 6, 7, 3, 2, 1, 0] rfl) h
    · refine lv_iload hx hb dX2_mergeCell_123 (lv_at hl 1 rfl) ?_
      refine lv_iload hx hb dX2_mergeCell_125 (lv_at hl 0 rfl) ?_
      refine r_br h (lv_icmp_eq (tgt := 151) hx hb dX2_mergeCell_127 (by decide)) (fun h => ?_) (fun h => ?_)
      · exact b_X2_mergeCell_151 C hW (lv_sub hl [4, 6, 7, 3, 2, 1, 0] rfl) h
      · refine lv_iconst (v := 0) hx hb dX2_mergeCell_130 (by decide) ?_
        refine lv_aload_n hx hb dX2_mergeCell_131 rfl (lv_at hl 4 rfl) ?_
        refine lv_aload_n hx hb dX2_mergeCell_132 rfl (lv_at hl 5 rfl) ?_
        refine lv_iconst (v := 5) hx hb dX2_mergeCell_133 (by decide) ?_
        refine lv_iload_n hx hb dX2_mergeCell_134 rfl (lv_at hl 6 rfl) ?_
        refine lv_iload_n hx hb dX2_mergeCell_135 rfl (lv_at hl 7 rfl) ?_
        refine r_cI hW (run_S (rest := [.ref a1, .ref a, .int 0]) C hW (t_X1_idOf (X := X)) mk_X1_idOf sk_X2_113 ⟨Nat.le_of_ble_eq_true rfl, Nat.le_of_ble_eq_true rfl⟩ ⟨Nat.zero_le _, Nat.zero_le _⟩ rfl rfl (Nat.le_of_ble_eq_true rfl) hl.1 dX2_mergeCell_136) (fun H locs hW _ => ?_)
        refine lv_iload hx hb dX2_mergeCell_139 (lv_at hl 1 rfl) ?_
        refine lv_iload hx hb dX2_mergeCell_141 (lv_at hl 0 rfl) ?_
        obtain ⟨v12, X11, h10, h⟩ := bnd2_inv h
        refine r_cI hW (run_V (rest := [.int 0]) C hW (t_X2_ask h10) mk_X2_ask vk_X2_119 (kd_X2_ask h10) rfl rfl (by decide) ⟨Nat.le_of_ble_eq_true rfl, Nat.le_of_ble_eq_true rfl⟩ ⟨Nat.zero_le _, Nat.zero_le _⟩ rfl rfl (Nat.le_of_ble_eq_true rfl) hl.1 dX2_mergeCell_143) (fun H locs hW _ => ?_)
        refine r_cI hW (run_S (rest := []) C hW (t_J9_max_7cf53 (X := X11)) mk_J9_max_7cf53 sk_X2_174 ⟨Nat.le_of_ble_eq_true rfl, Nat.le_of_ble_eq_true rfl⟩ ⟨Nat.zero_le _, Nat.zero_le _⟩ rfl rfl (Nat.le_of_ble_eq_true rfl) hl.1 dX2_mergeCell_146) (fun H locs hW _ => ?_)
        refine lv_istore (lv' := [(6, .int (f_J9_max_7cf53 0 v12)), (9, .int (f_X8_cast v9 x4)), (8, .int (f_X8_cast v6 x4)), (7, .int (f_X8_cast v3 x4)), (0, .ref a), (1, .ref a1), (2, .int x2), (3, .int x3), (4, .int x4), (5, .int x5)]) hx hb dX2_mergeCell_149 hl (by decide) rfl (fun ls hl => ?_)
        exact b_X2_mergeCell_151 C hW (lv_sub hl [4, 6, 7, 0, 3, 2, 1] rfl) h
  · refine lv_aload_n hx hb dX2_mergeCell_74 rfl (lv_at hl 2 rfl) ?_
    refine lv_iload_n hx hb dX2_mergeCell_75 rfl (lv_at hl 4 rfl) ?_
    refine lv_iload_n hx hb dX2_mergeCell_76 rfl (lv_at hl 5 rfl) ?_
    refine lv_iload hx hb dX2_mergeCell_77 (lv_at hl 0 rfl) ?_
    refine lv_iconst (v := 0) hx hb dX2_mergeCell_79 (by decide) ?_
    obtain ⟨X14, h13, h⟩ := bnd_inv h
    refine r_cV hW (run_V (rest := []) C hW (t_X2_putMerged h13) mk_X2_putMerged vk_X2_170 (kd_X2_putMerged h13) rfl rfl (by decide) ⟨Nat.le_of_ble_eq_true rfl, Nat.le_of_ble_eq_true rfl⟩ ⟨Nat.zero_le _, Nat.zero_le _⟩ rfl rfl (Nat.le_of_ble_eq_true rfl) hl.1 dX2_mergeCell_80) (fun H locs hW _ => ?_)
    exact r_vret C hW (Option.some.inj h).symm dX2_mergeCell_83
set_option maxRecDepth 20000 in
set_option maxHeartbeats 2000000 in
theorem b_X2_mergeCell_34 {a : Nat} {a1 : Nat} {x2 : Int32} {x3 : Int32} {x4 : Int32} {x5 : Int32} (C : Cx g RX2 cX2_mergeCell 10 none p s m args meth c) {r : Mx} {X : Mx} {y0 : Int32} (hW : Wd g σ X s H locs) (hl : lv_has ls 10 [(0, .ref a), (1, .ref a1), (2, .int x2), (3, .int x3), (4, .int x4), (5, .int x5)]) (h : f_X2_mergeCell_34 σ a a1 x2 x3 x4 x5 X y0 = some r) : W p l e (rmZ 2 47) s m args below meth c H locs 0 0 (QV g σ below args s r) (F0 m 34 ls [.int y0]) := by
  have hx := C.x
  have hb := C.b
  unfold f_X2_mergeCell_34 at h
  refine lv_aload_n hx hb dX2_mergeCell_34 rfl (lv_at hl 1 rfl) ?_
  refine lv_iconst (v := 1) hx hb dX2_mergeCell_35 (by decide) ?_
  refine lv_iload_n hx hb dX2_mergeCell_36 rfl (lv_at hl 2 rfl) ?_
  refine lv_iload hx hb dX2_mergeCell_37 (lv_at hl 5 rfl) ?_
  obtain ⟨v2, h1, h⟩ := bnd_inv h
  refine r_cI hW (run_V (rest := [.int y0]) C hW (t_X5_isChanged h1) mk_X5_isChanged vk_X2_160 (kd_X5_isChanged h1) rfl rfl (by decide) ⟨Nat.le_of_ble_eq_true rfl, Nat.le_of_ble_eq_true rfl⟩ ⟨Nat.zero_le _, Nat.zero_le _⟩ rfl rfl (Nat.le_of_ble_eq_true rfl) hl.1 dX2_mergeCell_39) (fun H locs hW _ => ?_)
  refine r_br h (lv_if_eq (tgt := 49) hx hb dX2_mergeCell_42 (by decide)) (fun h => ?_) (fun h => ?_)
  · refine lv_iconst (v := 0) hx hb dX2_mergeCell_49 (by decide) ?_
    exact b_X2_mergeCell_50 C hW (lv_sub hl [0, 1, 2, 3, 4, 5] rfl) h
  · refine lv_iconst (v := 2) hx hb dX2_mergeCell_45 (by decide) ?_
    refine lv_goto (tgt := 50) hx hb dX2_mergeCell_46 (by decide) ?_
    exact b_X2_mergeCell_50 C hW (lv_sub hl [0, 1, 2, 3, 4, 5] rfl) h
theorem kd_X2_mergeCell {X : Mx} {r : Mx} {a : Nat} {a1 : Nat} {x2 : Int32} {x3 : Int32} (h : f_X2_mergeCell σ X a a1 x2 x3 = some r) : shK σ a = 1 := (grd_inv h).1
set_option maxRecDepth 20000 in
set_option maxHeartbeats 2000000 in
theorem t_X2_mergeCell {X : Mx} {r : Mx} {a : Nat} {a1 : Nat} {x2 : Int32} {x3 : Int32} (h : f_X2_mergeCell σ X a a1 x2 x3 = some r) : MtV g l yX2_mergeCell cX2_mergeCell 10 none 2 47 [.ref a, .ref a1, .int x2, .int x3] σ X r := by
  refine met_of mk_X2_mergeCell (Nat.le_of_ble_eq_true rfl) (fun p e s m args below meth c ls C hW hl => ?_)
  have hx := C.x
  have hb := C.b
  have hl : lv_has ls 10 [(0, .ref a), (1, .ref a1), (2, .int x2), (3, .int x3)] := hl
  unfold f_X2_mergeCell at h
  obtain ⟨hk0, h⟩ := grd_inv h
  refine lv_aload_n hx hb dX2_mergeCell_0 rfl (lv_at hl 0 rfl) ?_
  refine r_gR C hW h fl_X2_12 (by decide) dX2_mergeCell_1 (fun b1 h => ?_)
  refine r_gR C hW h fl_X2_106 (by decide) dX2_mergeCell_4 (fun b2 h => ?_)
  refine lv_iload_n hx hb dX2_mergeCell_7 rfl (lv_at hl 3 rfl) ?_
  refine r_iald C hW h dX2_mergeCell_8 (fun v3 h => ?_)
  refine lv_istore (lv' := [(4, .int v3), (0, .ref a), (1, .ref a1), (2, .int x2), (3, .int x3)]) hx hb dX2_mergeCell_9 hl (by decide) rfl (fun ls hl => ?_)
  refine lv_aload_n hx hb dX2_mergeCell_11 rfl (lv_at hl 1 rfl) ?_
  refine r_gR C hW h fl_X2_31 (by decide) dX2_mergeCell_12 (fun b4 h => ?_)
  refine lv_iload_n hx hb dX2_mergeCell_15 rfl (lv_at hl 4 rfl) ?_
  refine r_iald C hW h dX2_mergeCell_16 (fun v5 h => ?_)
  refine lv_istore (lv' := [(5, .int v5), (4, .int v3), (0, .ref a), (1, .ref a1), (2, .int x2), (3, .int x3)]) hx hb dX2_mergeCell_17 hl (by decide) rfl (fun ls hl => ?_)
  refine lv_aload_n hx hb dX2_mergeCell_19 rfl (lv_at hl 3 rfl) ?_
  refine lv_iconst (v := 0) hx hb dX2_mergeCell_20 (by decide) ?_
  refine lv_iload_n hx hb dX2_mergeCell_21 rfl (lv_at hl 4 rfl) ?_
  refine lv_iload_n hx hb dX2_mergeCell_22 rfl (lv_at hl 5 rfl) ?_
  obtain ⟨v7, h6, h⟩ := bnd_inv h
  refine r_cI hW (run_V (rest := []) C hW (t_X5_isChanged h6) mk_X5_isChanged vk_X2_160 (kd_X5_isChanged h6) rfl rfl (by decide) ⟨Nat.le_of_ble_eq_true rfl, Nat.le_of_ble_eq_true rfl⟩ ⟨Nat.zero_le _, Nat.zero_le _⟩ rfl rfl (Nat.le_of_ble_eq_true rfl) hl.1 dX2_mergeCell_23) (fun H locs hW _ => ?_)
  refine r_br h (lv_if_eq (tgt := 33) hx hb dX2_mergeCell_26 (by decide)) (fun h => ?_) (fun h => ?_)
  · refine lv_iconst (v := 0) hx hb dX2_mergeCell_33 (by decide) ?_
    exact b_X2_mergeCell_34 C hW (lv_sub hl [2, 3, 4, 5, 1, 0] rfl) h
  · refine lv_iconst (v := 1) hx hb dX2_mergeCell_29 (by decide) ?_
    refine lv_goto (tgt := 34) hx hb dX2_mergeCell_30 (by decide) ?_
    exact b_X2_mergeCell_34 C hW (lv_sub hl [2, 3, 4, 5, 1, 0] rfl) h
set_option maxRecDepth 20000 in
set_option maxHeartbeats 2000000 in
theorem b_X2_mergeCells_26 {k2 : Mx → Int32 → Option Mx} {a : Nat} {a1 : Nat} {x2 : Int32} {x3 : Int32} (C : Cx g RX2 cX2_mergeCells 4 none p s m args meth c) {r : Mx} {X : Mx} (hk2 : ∀ {H' : Heap} {locs' : List Loc} {ls' : Array Slot} {X' : Mx} {x3' : Int32}, Wd g σ X' s H' locs' → lv_has ls' 4 [(0, .ref a), (1, .ref a1), (2, .int x2), (3, .int x3')] → k2 X' x3' = some r → W p l e (rmZ 3 76) s m args below meth c H' locs' 0 0 (QV g σ below args s r) (F0 m 2 ls' [])) (hW : Wd g σ X s H locs) (hl : lv_has ls 4 [(0, .ref a), (1, .ref a1), (2, .int x2), (3, .int x3)]) (h : f_X2_mergeCells_26 k2 σ a a1 x2 x3 X = some r) : W p l e (rmZ 3 76) s m args below meth c H locs 0 0 (QV g σ below args s r) (F0 m 26 ls []) := by
  have hx := C.x
  have hb := C.b
  unfold f_X2_mergeCells_26 at h
  refine lv_iinc (v := (x3 + 1)) (lv' := [(3, .int (x3 + 1)), (0, .ref a), (1, .ref a1), (2, .int x2)]) hx hb dX2_mergeCells_26 hl (k := 3) rfl rfl (by decide) rfl (fun ls hl => ?_)
  refine lv_goto (tgt := 2) hx hb dX2_mergeCells_29 (by decide) ?_
  exact hk2 hW (lv_sub hl [1, 2, 3, 0] rfl) h
set_option maxRecDepth 20000 in
set_option maxHeartbeats 2000000 in
theorem b_X2_mergeCells_2 {a : Nat} {a1 : Nat} {x2 : Int32} (C : Cx g RX2 cX2_mergeCells 4 none p s m args meth c) {r : Mx} : ∀ (n : Nat) {X : Mx} {x3 : Int32} {H : Heap} {locs : List Loc} {ls : Array Slot} (hW : Wd g σ X s H locs) (hl : lv_has ls 4 [(0, .ref a), (1, .ref a1), (2, .int x2), (3, .int x3)]) (h : f_X2_mergeCells_2 σ a a1 x2 n X x3 = some r), W p l e (rmZ 3 76) s m args below meth c H locs 0 0 (QV g σ below args s r) (F0 m 2 ls []) := by
  have hx := C.x
  have hb := C.b
  intro n
  induction n with
  | zero =>
    intro X x3 H locs ls hW hl h
    cases (show none = some r from h)
  | succ n ih =>
    intro X x3 H locs ls hW hl h
    rw [f_X2_mergeCells_2] at h
    refine lv_iload_n hx hb dX2_mergeCells_2 rfl (lv_at hl 3 rfl) ?_
    refine lv_bipush (v := 9) hx hb dX2_mergeCells_3 (by decide) ?_
    refine r_br h (lv_icmp_ge (tgt := 32) hx hb dX2_mergeCells_5 (by decide)) (fun h => ?_) (fun h => ?_)
    · exact r_vret C hW (Option.some.inj h).symm dX2_mergeCells_32
    · refine lv_aload_n hx hb dX2_mergeCells_8 rfl (lv_at hl 0 rfl) ?_
      refine r_gR C hW h fl_X2_12 (by decide) dX2_mergeCells_9 (fun b1 h => ?_)
      refine lv_iload_n hx hb dX2_mergeCells_12 rfl (lv_at hl 3 rfl) ?_
      obtain ⟨v3, h2, h⟩ := bnd_inv h
      refine r_cI hW (run_V (rest := []) C hW (t_X6_hasColumn h2) mk_X6_hasColumn vk_X2_49 (kd_X6_hasColumn h2) rfl rfl (by decide) ⟨Nat.le_of_ble_eq_true rfl, Nat.le_of_ble_eq_true rfl⟩ ⟨Nat.zero_le _, Nat.zero_le _⟩ rfl rfl (Nat.le_of_ble_eq_true rfl) hl.1 dX2_mergeCells_13) (fun H locs hW _ => ?_)
      refine r_br h (lv_if_eq (tgt := 26) hx hb dX2_mergeCells_16 (by decide)) (fun h => ?_) (fun h => ?_)
      · exact b_X2_mergeCells_26 C (fun hW hl h => ih hW hl h) hW (lv_sub hl [0, 1, 2, 3] rfl) h
      · refine lv_aload_n hx hb dX2_mergeCells_19 rfl (lv_at hl 0 rfl) ?_
        refine lv_aload_n hx hb dX2_mergeCells_20 rfl (lv_at hl 1 rfl) ?_
        refine lv_iload_n hx hb dX2_mergeCells_21 rfl (lv_at hl 2 rfl) ?_
        refine lv_iload_n hx hb dX2_mergeCells_22 rfl (lv_at hl 3 rfl) ?_
        obtain ⟨X5, h4, h⟩ := bnd_inv h
        refine r_cV hW (run_V (rest := []) C hW (t_X2_mergeCell h4) mk_X2_mergeCell vk_X2_156 (kd_X2_mergeCell h4) rfl rfl (by decide) ⟨Nat.le_of_ble_eq_true rfl, Nat.le_of_ble_eq_true rfl⟩ ⟨Nat.zero_le _, Nat.zero_le _⟩ rfl rfl (Nat.le_of_ble_eq_true rfl) hl.1 dX2_mergeCells_23) (fun H locs hW _ => ?_)
        exact b_X2_mergeCells_26 C (fun hW hl h => ih hW hl h) hW (lv_sub hl [0, 1, 2, 3] rfl) h
theorem kd_X2_mergeCells {X : Mx} {r : Mx} {a : Nat} {a1 : Nat} {x2 : Int32} (h : f_X2_mergeCells σ X a a1 x2 = some r) : shK σ a = 1 := (grd_inv h).1
set_option maxRecDepth 20000 in
set_option maxHeartbeats 2000000 in
theorem t_X2_mergeCells {X : Mx} {r : Mx} {a : Nat} {a1 : Nat} {x2 : Int32} (h : f_X2_mergeCells σ X a a1 x2 = some r) : MtV g l yX2_mergeCells cX2_mergeCells 4 none 3 76 [.ref a, .ref a1, .int x2] σ X r := by
  refine met_of mk_X2_mergeCells (Nat.le_of_ble_eq_true rfl) (fun p e s m args below meth c ls C hW hl => ?_)
  have hx := C.x
  have hb := C.b
  have hl : lv_has ls 4 [(0, .ref a), (1, .ref a1), (2, .int x2)] := hl
  unfold f_X2_mergeCells at h
  obtain ⟨hk0, h⟩ := grd_inv h
  refine lv_iconst (v := 0) hx hb dX2_mergeCells_0 (by decide) ?_
  refine lv_istore_n (lv' := [(3, .int 0), (0, .ref a), (1, .ref a1), (2, .int x2)]) hx hb dX2_mergeCells_1 rfl hl (by decide) rfl (fun ls hl => ?_)
  exact b_X2_mergeCells_2 C FU hW (lv_sub hl [1, 2, 3, 0] rfl) h
theorem kd_X2_mergedName {X : Mx} {r : (Int32 × Mx)} {a : Nat} {a1 : Nat} {x2 : Int32} (h : f_X2_mergedName σ X a a1 x2 = some r) : shK σ a = 1 := (grd_inv h).1
set_option maxRecDepth 20000 in
set_option maxHeartbeats 2000000 in
theorem t_X2_mergedName {X : Mx} {r : (Int32 × Mx)} {a : Nat} {a1 : Nat} {x2 : Int32} (h : f_X2_mergedName σ X a a1 x2 = some r) : MtI g l yX2_mergedName cX2_mergedName 6 (some .int) 2 43 [.ref a, .ref a1, .int x2] σ X r := by
  refine met_of mk_X2_mergedName (Nat.le_of_ble_eq_true rfl) (fun p e s m args below meth c ls C hW hl => ?_)
  have hx := C.x
  have hb := C.b
  have hl : lv_has ls 6 [(0, .ref a), (1, .ref a1), (2, .int x2)] := hl
  unfold f_X2_mergedName at h
  obtain ⟨hk0, h⟩ := grd_inv h
  refine lv_aload_n hx hb dX2_mergedName_0 rfl (lv_at hl 1 rfl) ?_
  refine r_gR C hW h fl_X2_44 (by decide) dX2_mergedName_1 (fun b1 h => ?_)
  refine r_gR C hW h fl_X2_103 (by decide) dX2_mergedName_4 (fun b2 h => ?_)
  refine lv_iload_n hx hb dX2_mergedName_7 rfl (lv_at hl 2 rfl) ?_
  refine r_iald C hW h dX2_mergedName_8 (fun v3 h => ?_)
  refine lv_istore_n (lv' := [(3, .int v3), (0, .ref a), (1, .ref a1), (2, .int x2)]) hx hb dX2_mergedName_9 rfl hl (by decide) rfl (fun ls hl => ?_)
  refine lv_aload_n hx hb dX2_mergedName_10 rfl (lv_at hl 2 rfl) ?_
  refine r_gR C hW h fl_X2_82 (by decide) dX2_mergedName_11 (fun b4 h => ?_)
  refine r_gR C hW h fl_X2_103 (by decide) dX2_mergedName_14 (fun b5 h => ?_)
  refine lv_iload_n hx hb dX2_mergedName_17 rfl (lv_at hl 3 rfl) ?_
  refine r_iald C hW h dX2_mergedName_18 (fun v6 h => ?_)
  refine lv_istore (lv' := [(4, .int v6), (3, .int v3), (0, .ref a), (1, .ref a1), (2, .int x2)]) hx hb dX2_mergedName_19 hl (by decide) rfl (fun ls hl => ?_)
  refine lv_aload_n hx hb dX2_mergedName_21 rfl (lv_at hl 3 rfl) ?_
  refine r_gR C hW h fl_X2_85 (by decide) dX2_mergedName_22 (fun b7 h => ?_)
  refine r_gR C hW h fl_X2_103 (by decide) dX2_mergedName_25 (fun b8 h => ?_)
  refine lv_iload_n hx hb dX2_mergedName_28 rfl (lv_at hl 4 rfl) ?_
  refine r_iald C hW h dX2_mergedName_29 (fun v9 h => ?_)
  refine lv_istore (lv' := [(5, .int v9), (4, .int v6), (3, .int v3), (0, .ref a), (1, .ref a1), (2, .int x2)]) hx hb dX2_mergedName_30 hl (by decide) rfl (fun ls hl => ?_)
  refine lv_iload hx hb dX2_mergedName_32 (lv_at hl 1 rfl) ?_
  refine lv_iload hx hb dX2_mergedName_34 (lv_at hl 0 rfl) ?_
  refine r_br h (lv_icmp_eq (tgt := 45) hx hb dX2_mergedName_36 (by decide)) (fun h => ?_) (fun h => ?_)
  · refine lv_iload hx hb dX2_mergedName_45 (lv_at hl 1 rfl) ?_
    exact r_iret C hW (Option.some.inj h).symm rfl dX2_mergedName_47
  · refine lv_iload hx hb dX2_mergedName_39 (lv_at hl 0 rfl) ?_
    refine lv_iload_n hx hb dX2_mergedName_41 rfl (lv_at hl 2 rfl) ?_
    refine r_brn h (lv_icmp_ne (tgt := 48) hx hb dX2_mergedName_42 (by decide)) (fun h => ?_) (fun h => ?_)
    · refine lv_iload hx hb dX2_mergedName_48 (lv_at hl 1 rfl) ?_
      refine lv_iload_n hx hb dX2_mergedName_50 rfl (lv_at hl 2 rfl) ?_
      refine r_brn h (lv_icmp_ne (tgt := 57) hx hb dX2_mergedName_51 (by decide)) (fun h => ?_) (fun h => ?_)
      · refine lv_aload_n hx hb dX2_mergedName_57 rfl (lv_at hl 3 rfl) ?_
        refine lv_aload_n hx hb dX2_mergedName_58 rfl (lv_at hl 4 rfl) ?_
        refine lv_iconst (v := 1) hx hb dX2_mergedName_59 (by decide) ?_
        refine lv_iload_n hx hb dX2_mergedName_60 rfl (lv_at hl 5 rfl) ?_
        refine lv_iconst (v := 0) hx hb dX2_mergedName_61 (by decide) ?_
        refine r_cI hW (run_S (rest := [.ref a1, .ref a]) C hW (t_X1_idOf (X := X)) mk_X1_idOf sk_X2_113 ⟨Nat.le_of_ble_eq_true rfl, Nat.le_of_ble_eq_true rfl⟩ ⟨Nat.zero_le _, Nat.zero_le _⟩ rfl rfl (Nat.le_of_ble_eq_true rfl) hl.1 dX2_mergedName_62) (fun H locs hW _ => ?_)
        refine lv_iload hx hb dX2_mergedName_65 (lv_at hl 1 rfl) ?_
        refine lv_iload hx hb dX2_mergedName_67 (lv_at hl 0 rfl) ?_
        obtain ⟨v12, X11, h10, h⟩ := bnd2_inv h
        refine r_cI hW (run_V (rest := []) C hW (t_X2_ask h10) mk_X2_ask vk_X2_119 (kd_X2_ask h10) rfl rfl (by decide) ⟨Nat.le_of_ble_eq_true rfl, Nat.le_of_ble_eq_true rfl⟩ ⟨Nat.zero_le _, Nat.zero_le _⟩ rfl rfl (Nat.le_of_ble_eq_true rfl) hl.1 dX2_mergedName_69) (fun H locs hW _ => ?_)
        refine lv_iload_n hx hb dX2_mergedName_72 rfl (lv_at hl 2 rfl) ?_
        refine lv_iload hx hb dX2_mergedName_73 (lv_at hl 1 rfl) ?_
        refine lv_iload hx hb dX2_mergedName_75 (lv_at hl 0 rfl) ?_
        refine r_cI hW (run_S (rest := []) C hW (t_X2_chosen (X := X11)) mk_X2_chosen sk_X2_123 ⟨Nat.le_of_ble_eq_true rfl, Nat.le_of_ble_eq_true rfl⟩ ⟨Nat.zero_le _, Nat.zero_le _⟩ rfl rfl (Nat.le_of_ble_eq_true rfl) hl.1 dX2_mergedName_77) (fun H locs hW _ => ?_)
        exact r_iret C hW (Option.some.inj h).symm rfl dX2_mergedName_80
      · refine lv_iload hx hb dX2_mergedName_54 (lv_at hl 0 rfl) ?_
        exact r_iret C hW (Option.some.inj h).symm rfl dX2_mergedName_56
    · refine lv_iload hx hb dX2_mergedName_45 (lv_at hl 1 rfl) ?_
      exact r_iret C hW (Option.some.inj h).symm rfl dX2_mergedName_47
set_option maxRecDepth 20000 in
set_option maxHeartbeats 2000000 in
theorem b_X8_together_22 {x0 : Int32} {x1 : Int32} (C : Cx g RX8 cX8_together 2 (some .int) p s m args meth c) {r : Int32} {X : Mx} (hW : Wd g σ X s H locs) (hl : lv_has ls 2 [(0, .int x0), (1, .int x1)]) (h : f_X8_together_22 x0 x1 = r) : W p l e (rmZ 0 0) s m args below meth c H locs 0 0 (QI g σ below args s (r, X)) (F0 m 22 ls []) := by
  have hx := C.x
  have hb := C.b
  unfold f_X8_together_22 at h
  refine lv_iload_n hx hb dX8_together_22 rfl (lv_at hl 0 rfl) ?_
  refine r_brn h (lv_if_ne (tgt := 28) hx hb dX8_together_23 (by decide)) (fun h => ?_) (fun h => ?_)
  · refine lv_iload_n hx hb dX8_together_28 rfl (lv_at hl 1 rfl) ?_
    refine r_brn h (lv_if_ne (tgt := 34) hx hb dX8_together_29 (by decide)) (fun h => ?_) (fun h => ?_)
    · refine lv_iconst (v := (-1)) hx hb dX8_together_34 (by decide) ?_
      exact r_iret C hW (rt_T h) rfl dX8_together_35
    · refine lv_iload_n hx hb dX8_together_32 rfl (lv_at hl 0 rfl) ?_
      exact r_iret C hW (rt_T h) rfl dX8_together_33
  · refine lv_iload_n hx hb dX8_together_26 rfl (lv_at hl 1 rfl) ?_
    exact r_iret C hW (rt_T h) rfl dX8_together_27
set_option maxRecDepth 20000 in
set_option maxHeartbeats 2000000 in
theorem b_X8_together_10 {x0 : Int32} {x1 : Int32} (C : Cx g RX8 cX8_together 2 (some .int) p s m args meth c) {r : Int32} {X : Mx} (hW : Wd g σ X s H locs) (hl : lv_has ls 2 [(0, .int x0), (1, .int x1)]) (h : f_X8_together_10 x0 x1 = r) : W p l e (rmZ 0 0) s m args below meth c H locs 0 0 (QI g σ below args s (r, X)) (F0 m 10 ls []) := by
  have hx := C.x
  have hb := C.b
  unfold f_X8_together_10 at h
  refine lv_iload_n hx hb dX8_together_10 rfl (lv_at hl 0 rfl) ?_
  refine lv_iconst (v := 1) hx hb dX8_together_11 (by decide) ?_
  refine r_brn h (lv_icmp_ne (tgt := 22) hx hb dX8_together_12 (by decide)) (fun h => ?_) (fun h => ?_)
  · exact b_X8_together_22 C hW (lv_sub hl [0, 1] rfl) h
  · refine lv_iload_n hx hb dX8_together_15 rfl (lv_at hl 1 rfl) ?_
    refine lv_iconst (v := 3) hx hb dX8_together_16 (by decide) ?_
    refine r_brn h (lv_icmp_ne (tgt := 22) hx hb dX8_together_17 (by decide)) (fun h => ?_) (fun h => ?_)
    · exact b_X8_together_22 C hW (lv_sub hl [0, 1] rfl) h
    · refine lv_iconst (v := 3) hx hb dX8_together_20 (by decide) ?_
      exact r_iret C hW (rt_T h) rfl dX8_together_21
set_option maxRecDepth 20000 in
set_option maxHeartbeats 2000000 in
theorem t_X8_together {X : Mx} {x0 : Int32} {x1 : Int32} : MtI g l yX8_together cX8_together 2 (some .int) 0 0 [.int x0, .int x1] σ X (f_X8_together x0 x1, X) := by
  obtain ⟨r, h⟩ : ∃ r, f_X8_together x0 x1 = r := ⟨_, rfl⟩
  rw [h]
  refine met_of mk_X8_together (Nat.le_of_ble_eq_true rfl) (fun p e s m args below meth c ls C hW hl => ?_)
  have hx := C.x
  have hb := C.b
  have hl : lv_has ls 2 [(0, .int x0), (1, .int x1)] := hl
  unfold f_X8_together at h
  refine lv_iload_n hx hb dX8_together_0 rfl (lv_at hl 0 rfl) ?_
  refine lv_iconst (v := 3) hx hb dX8_together_1 (by decide) ?_
  refine r_brn h (lv_icmp_ne (tgt := 10) hx hb dX8_together_2 (by decide)) (fun h => ?_) (fun h => ?_)
  · exact b_X8_together_10 C hW (lv_sub hl [0, 1] rfl) h
  · refine lv_iload_n hx hb dX8_together_5 rfl (lv_at hl 1 rfl) ?_
    refine lv_iconst (v := 1) hx hb dX8_together_6 (by decide) ?_
    refine r_br h (lv_icmp_eq (tgt := 20) hx hb dX8_together_7 (by decide)) (fun h => ?_) (fun h => ?_)
    · refine lv_iconst (v := 3) hx hb dX8_together_20 (by decide) ?_
      exact r_iret C hW (rt_T h) rfl dX8_together_21
    · exact b_X8_together_10 C hW (lv_sub hl [0, 1] rfl) h
theorem kd_X2_mergedType {X : Mx} {r : (Int32 × Mx)} {a : Nat} {a1 : Nat} {x2 : Int32} (h : f_X2_mergedType σ X a a1 x2 = some r) : shK σ a = 1 := (grd_inv h).1
set_option maxRecDepth 20000 in
set_option maxHeartbeats 2000000 in
theorem t_X2_mergedType {X : Mx} {r : (Int32 × Mx)} {a : Nat} {a1 : Nat} {x2 : Int32} (h : f_X2_mergedType σ X a a1 x2 = some r) : MtI g l yX2_mergedType cX2_mergedType 7 (some .int) 2 43 [.ref a, .ref a1, .int x2] σ X r := by
  refine met_of mk_X2_mergedType (Nat.le_of_ble_eq_true rfl) (fun p e s m args below meth c ls C hW hl => ?_)
  have hx := C.x
  have hb := C.b
  have hl : lv_has ls 7 [(0, .ref a), (1, .ref a1), (2, .int x2)] := hl
  unfold f_X2_mergedType at h
  obtain ⟨hk0, h⟩ := grd_inv h
  refine lv_aload_n hx hb dX2_mergedType_0 rfl (lv_at hl 1 rfl) ?_
  refine r_gR C hW h fl_X2_44 (by decide) dX2_mergedType_1 (fun b1 h => ?_)
  refine r_gR C hW h fl_X2_106 (by decide) dX2_mergedType_4 (fun b2 h => ?_)
  refine lv_iload_n hx hb dX2_mergedType_7 rfl (lv_at hl 2 rfl) ?_
  refine r_iald C hW h dX2_mergedType_8 (fun v3 h => ?_)
  refine lv_istore_n (lv' := [(3, .int v3), (0, .ref a), (1, .ref a1), (2, .int x2)]) hx hb dX2_mergedType_9 rfl hl (by decide) rfl (fun ls hl => ?_)
  refine lv_aload_n hx hb dX2_mergedType_10 rfl (lv_at hl 2 rfl) ?_
  refine r_gR C hW h fl_X2_82 (by decide) dX2_mergedType_11 (fun b4 h => ?_)
  refine r_gR C hW h fl_X2_106 (by decide) dX2_mergedType_14 (fun b5 h => ?_)
  refine lv_iload_n hx hb dX2_mergedType_17 rfl (lv_at hl 3 rfl) ?_
  refine r_iald C hW h dX2_mergedType_18 (fun v6 h => ?_)
  refine lv_istore (lv' := [(4, .int v6), (3, .int v3), (0, .ref a), (1, .ref a1), (2, .int x2)]) hx hb dX2_mergedType_19 hl (by decide) rfl (fun ls hl => ?_)
  refine lv_aload_n hx hb dX2_mergedType_21 rfl (lv_at hl 3 rfl) ?_
  refine r_gR C hW h fl_X2_85 (by decide) dX2_mergedType_22 (fun b7 h => ?_)
  refine r_gR C hW h fl_X2_106 (by decide) dX2_mergedType_25 (fun b8 h => ?_)
  refine lv_iload_n hx hb dX2_mergedType_28 rfl (lv_at hl 4 rfl) ?_
  refine r_iald C hW h dX2_mergedType_29 (fun v9 h => ?_)
  refine lv_istore (lv' := [(5, .int v9), (4, .int v6), (3, .int v3), (0, .ref a), (1, .ref a1), (2, .int x2)]) hx hb dX2_mergedType_30 hl (by decide) rfl (fun ls hl => ?_)
  refine lv_iload hx hb dX2_mergedType_32 (lv_at hl 1 rfl) ?_
  refine lv_iload hx hb dX2_mergedType_34 (lv_at hl 0 rfl) ?_
  refine r_br h (lv_icmp_eq (tgt := 45) hx hb dX2_mergedType_36 (by decide)) (fun h => ?_) (fun h => ?_)
  · refine lv_iload hx hb dX2_mergedType_45 (lv_at hl 1 rfl) ?_
    exact r_iret C hW (Option.some.inj h).symm rfl dX2_mergedType_47
  · refine lv_iload hx hb dX2_mergedType_39 (lv_at hl 0 rfl) ?_
    refine lv_iload_n hx hb dX2_mergedType_41 rfl (lv_at hl 2 rfl) ?_
    refine r_brn h (lv_icmp_ne (tgt := 48) hx hb dX2_mergedType_42 (by decide)) (fun h => ?_) (fun h => ?_)
    · refine lv_iload hx hb dX2_mergedType_48 (lv_at hl 1 rfl) ?_
      refine lv_iload_n hx hb dX2_mergedType_50 rfl (lv_at hl 2 rfl) ?_
      refine r_brn h (lv_icmp_ne (tgt := 57) hx hb dX2_mergedType_51 (by decide)) (fun h => ?_) (fun h => ?_)
      · refine lv_iload hx hb dX2_mergedType_57 (lv_at hl 1 rfl) ?_
        refine lv_iload hx hb dX2_mergedType_59 (lv_at hl 0 rfl) ?_
        refine r_cI hW (run_S (rest := []) C hW (t_X8_together (X := X)) mk_X8_together sk_X2_127 ⟨Nat.le_of_ble_eq_true rfl, Nat.le_of_ble_eq_true rfl⟩ ⟨Nat.zero_le _, Nat.zero_le _⟩ rfl rfl (Nat.le_of_ble_eq_true rfl) hl.1 dX2_mergedType_61) (fun H locs hW _ => ?_)
        refine lv_istore (lv' := [(6, .int (f_X8_together v6 v9)), (5, .int v9), (4, .int v6), (3, .int v3), (0, .ref a), (1, .ref a1), (2, .int x2)]) hx hb dX2_mergedType_64 hl (by decide) rfl (fun ls hl => ?_)
        refine lv_iload hx hb dX2_mergedType_66 (lv_at hl 0 rfl) ?_
        refine lv_iconst (v := (-1)) hx hb dX2_mergedType_68 (by decide) ?_
        refine r_br h (lv_icmp_eq (tgt := 75) hx hb dX2_mergedType_69 (by decide)) (fun h => ?_) (fun h => ?_)
        · refine lv_aload_n hx hb dX2_mergedType_75 rfl (lv_at hl 4 rfl) ?_
          refine lv_aload_n hx hb dX2_mergedType_76 rfl (lv_at hl 5 rfl) ?_
          refine lv_iconst (v := 2) hx hb dX2_mergedType_77 (by decide) ?_
          refine lv_iload_n hx hb dX2_mergedType_78 rfl (lv_at hl 6 rfl) ?_
          refine lv_iconst (v := 0) hx hb dX2_mergedType_79 (by decide) ?_
          refine r_cI hW (run_S (rest := [.ref a1, .ref a]) C hW (t_X1_idOf (X := X)) mk_X1_idOf sk_X2_113 ⟨Nat.le_of_ble_eq_true rfl, Nat.le_of_ble_eq_true rfl⟩ ⟨Nat.zero_le _, Nat.zero_le _⟩ rfl rfl (Nat.le_of_ble_eq_true rfl) hl.1 dX2_mergedType_80) (fun H locs hW _ => ?_)
          refine lv_iload hx hb dX2_mergedType_83 (lv_at hl 2 rfl) ?_
          refine lv_iload hx hb dX2_mergedType_85 (lv_at hl 1 rfl) ?_
          obtain ⟨v12, X11, h10, h⟩ := bnd2_inv h
          refine r_cI hW (run_V (rest := []) C hW (t_X2_ask h10) mk_X2_ask vk_X2_119 (kd_X2_ask h10) rfl rfl (by decide) ⟨Nat.le_of_ble_eq_true rfl, Nat.le_of_ble_eq_true rfl⟩ ⟨Nat.zero_le _, Nat.zero_le _⟩ rfl rfl (Nat.le_of_ble_eq_true rfl) hl.1 dX2_mergedType_87) (fun H locs hW _ => ?_)
          refine lv_iload_n hx hb dX2_mergedType_90 rfl (lv_at hl 3 rfl) ?_
          refine lv_iload hx hb dX2_mergedType_91 (lv_at hl 2 rfl) ?_
          refine lv_iload hx hb dX2_mergedType_93 (lv_at hl 1 rfl) ?_
          refine r_cI hW (run_S (rest := []) C hW (t_X2_chosen (X := X11)) mk_X2_chosen sk_X2_123 ⟨Nat.le_of_ble_eq_true rfl, Nat.le_of_ble_eq_true rfl⟩ ⟨Nat.zero_le _, Nat.zero_le _⟩ rfl rfl (Nat.le_of_ble_eq_true rfl) hl.1 dX2_mergedType_95) (fun H locs hW _ => ?_)
          exact r_iret C hW (Option.some.inj h).symm rfl dX2_mergedType_98
        · refine lv_iload hx hb dX2_mergedType_72 (lv_at hl 0 rfl) ?_
          exact r_iret C hW (Option.some.inj h).symm rfl dX2_mergedType_74
      · refine lv_iload hx hb dX2_mergedType_54 (lv_at hl 0 rfl) ?_
        exact r_iret C hW (Option.some.inj h).symm rfl dX2_mergedType_56
    · refine lv_iload hx hb dX2_mergedType_45 (lv_at hl 1 rfl) ?_
      exact r_iret C hW (Option.some.inj h).symm rfl dX2_mergedType_47
set_option maxRecDepth 20000 in
set_option maxHeartbeats 2000000 in
theorem b_X5_isColumnChanged_2 {a : Nat} {x1 : Int32} {x2 : Int32} (C : Cx g RX5 cX5_isColumnChanged 4 (some .boolean) p s m args meth c) {r : Int32} {X : Mx} : ∀ (n : Nat) {x3 : Int32} {H : Heap} {locs : List Loc} {ls : Array Slot} (hW : Wd g σ X s H locs) (hl : lv_has ls 4 [(0, .ref a), (1, .int x1), (2, .int x2), (3, .int x3)]) (h : f_X5_isColumnChanged_2 σ X a x1 x2 n x3 = some r), W p l e (rmZ 2 46) s m args below meth c H locs 0 0 (QI g σ below args s (r, X)) (F0 m 2 ls []) := by
  have hx := C.x
  have hb := C.b
  intro n
  induction n with
  | zero =>
    intro x3 H locs ls hW hl h
    cases (show none = some r from h)
  | succ n ih =>
    intro x3 H locs ls hW hl h
    rw [f_X5_isColumnChanged_2] at h
    refine lv_iload_n hx hb dX5_isColumnChanged_2 rfl (lv_at hl 3 rfl) ?_
    refine lv_bipush (v := 20) hx hb dX5_isColumnChanged_3 (by decide) ?_
    refine r_br h (lv_icmp_ge (tgt := 26) hx hb dX5_isColumnChanged_5 (by decide)) (fun h => ?_) (fun h => ?_)
    · refine lv_iconst (v := 0) hx hb dX5_isColumnChanged_26 (by decide) ?_
      exact r_iret C hW (rt_R h) rfl dX5_isColumnChanged_27
    · refine lv_aload_n hx hb dX5_isColumnChanged_8 rfl (lv_at hl 0 rfl) ?_
      refine lv_iload_n hx hb dX5_isColumnChanged_9 rfl (lv_at hl 1 rfl) ?_
      refine lv_iload_n hx hb dX5_isColumnChanged_10 rfl (lv_at hl 3 rfl) ?_
      refine lv_iload_n hx hb dX5_isColumnChanged_11 rfl (lv_at hl 2 rfl) ?_
      obtain ⟨v2, h1, h⟩ := bnd_inv h
      refine r_cI hW (run_V (rest := []) C hW (t_X5_isChanged h1) mk_X5_isChanged vk_X5_93 (kd_X5_isChanged h1) rfl rfl (by decide) ⟨Nat.le_of_ble_eq_true rfl, Nat.le_of_ble_eq_true rfl⟩ ⟨Nat.zero_le _, Nat.zero_le _⟩ rfl rfl (Nat.le_of_ble_eq_true rfl) hl.1 dX5_isColumnChanged_12) (fun H locs hW _ => ?_)
      refine r_br h (lv_if_eq (tgt := 20) hx hb dX5_isColumnChanged_15 (by decide)) (fun h => ?_) (fun h => ?_)
      · refine lv_iinc (v := (x3 + 1)) (lv' := [(3, .int (x3 + 1)), (0, .ref a), (1, .int x1), (2, .int x2)]) hx hb dX5_isColumnChanged_20 hl (k := 3) rfl rfl (by decide) rfl (fun ls hl => ?_)
        refine lv_goto (tgt := 2) hx hb dX5_isColumnChanged_23 (by decide) ?_
        exact ih hW (lv_sub hl [1, 2, 3, 0] rfl) h
      · refine lv_iconst (v := 1) hx hb dX5_isColumnChanged_18 (by decide) ?_
        exact r_iret C hW (rt_R h) rfl dX5_isColumnChanged_19
theorem kd_X5_isColumnChanged {X : Mx} {r : Int32} {a : Nat} {x1 : Int32} {x2 : Int32} (h : f_X5_isColumnChanged σ X a x1 x2 = some r) : shK σ a = 4 := (grd_inv h).1
set_option maxRecDepth 20000 in
set_option maxHeartbeats 2000000 in
theorem t_X5_isColumnChanged {X : Mx} {r : Int32} {a : Nat} {x1 : Int32} {x2 : Int32} (h : f_X5_isColumnChanged σ X a x1 x2 = some r) : MtI g l yX5_isColumnChanged cX5_isColumnChanged 4 (some .boolean) 2 46 [.ref a, .int x1, .int x2] σ X (r, X) := by
  refine met_of mk_X5_isColumnChanged (Nat.le_of_ble_eq_true rfl) (fun p e s m args below meth c ls C hW hl => ?_)
  have hx := C.x
  have hb := C.b
  have hl : lv_has ls 4 [(0, .ref a), (1, .int x1), (2, .int x2)] := hl
  unfold f_X5_isColumnChanged at h
  obtain ⟨hk0, h⟩ := grd_inv h
  refine lv_iconst (v := 0) hx hb dX5_isColumnChanged_0 (by decide) ?_
  refine lv_istore_n (lv' := [(3, .int 0), (0, .ref a), (1, .int x1), (2, .int x2)]) hx hb dX5_isColumnChanged_1 rfl hl (by decide) rfl (fun ls hl => ?_)
  exact b_X5_isColumnChanged_2 C FU hW (lv_sub hl [1, 2, 3, 0] rfl) h
set_option maxRecDepth 20000 in
set_option maxHeartbeats 2000000 in
theorem b_X2_mergeColumn_136 {a : Nat} {a1 : Nat} {x2 : Int32} {a6 : Nat} (C : Cx g RX2 cX2_mergeColumn 8 none p s m args meth c) {r : Mx} {X : Mx} {y0 : Int32} (hW : Wd g σ X s H locs) (hl : lv_has ls 8 [(0, .ref a), (1, .ref a1), (2, .int x2), (6, .ref a6)]) (h : f_X2_mergeColumn_136 σ a a1 x2 a6 X y0 = some r) : W p l e (rmZ 3 69) s m args below meth c H locs 0 0 (QV g σ below args s r) (F0 m 136 ls [.int y0]) := by
  have hx := C.x
  have hb := C.b
  unfold f_X2_mergeColumn_136 at h
  refine lv_istore (lv' := [(7, .int y0), (0, .ref a), (1, .ref a1), (2, .int x2), (6, .ref a6)]) hx hb dX2_mergeColumn_136 hl (by decide) rfl (fun ls hl => ?_)
  refine lv_iload hx hb dX2_mergeColumn_138 (lv_at hl 0 rfl) ?_
  refine r_brn h (lv_if_ne (tgt := 182) hx hb dX2_mergeColumn_140 (by decide)) (fun h => ?_) (fun h => ?_)
  · exact r_vret C hW (Option.some.inj h).symm dX2_mergeColumn_182
  · refine lv_aload_n hx hb dX2_mergeColumn_143 rfl (lv_at hl 1 rfl) ?_
    refine lv_aload_n hx hb dX2_mergeColumn_144 rfl (lv_at hl 2 rfl) ?_
    refine lv_iconst (v := 0) hx hb dX2_mergeColumn_145 (by decide) ?_
    refine lv_iload_n hx hb dX2_mergeColumn_146 rfl (lv_at hl 3 rfl) ?_
    refine lv_iconst (v := 0) hx hb dX2_mergeColumn_147 (by decide) ?_
    refine r_cI hW (run_S (rest := [.ref a1, .ref a]) C hW (t_X1_idOf (X := X)) mk_X1_idOf sk_X2_113 ⟨Nat.le_of_ble_eq_true rfl, Nat.le_of_ble_eq_true rfl⟩ ⟨Nat.zero_le _, Nat.zero_le _⟩ rfl rfl (Nat.le_of_ble_eq_true rfl) hl.1 dX2_mergeColumn_148) (fun H locs hW _ => ?_)
    refine lv_iconst (v := (-1)) hx hb dX2_mergeColumn_151 (by decide) ?_
    refine lv_iconst (v := (-1)) hx hb dX2_mergeColumn_152 (by decide) ?_
    obtain ⟨v3, X2, h1, h⟩ := bnd2_inv h
    refine r_cI hW (run_V (rest := []) C hW (t_X2_ask h1) mk_X2_ask vk_X2_119 (kd_X2_ask h1) rfl rfl (by decide) ⟨Nat.le_of_ble_eq_true rfl, Nat.le_of_ble_eq_true rfl⟩ ⟨Nat.zero_le _, Nat.zero_le _⟩ rfl rfl (Nat.le_of_ble_eq_true rfl) hl.1 dX2_mergeColumn_153) (fun H locs hW _ => ?_)
    refine lv_iconst (v := 1) hx hb dX2_mergeColumn_156 (by decide) ?_
    refine r_br h (lv_icmp_eq (tgt := 182) hx hb dX2_mergeColumn_157 (by decide)) (fun h => ?_) (fun h => ?_)
    · exact r_vret C hW (Option.some.inj h).symm dX2_mergeColumn_182
    · refine lv_aload_n hx hb dX2_mergeColumn_160 rfl (lv_at hl 1 rfl) ?_
      refine r_gR C hW h fl_X2_12 (by decide) dX2_mergeColumn_161 (fun b4 h => ?_)
      refine lv_iload_n hx hb dX2_mergeColumn_164 rfl (lv_at hl 3 rfl) ?_
      refine lv_aload hx hb dX2_mergeColumn_165 (lv_at hl 4 rfl) ?_
      refine r_gR C hW h fl_X2_103 (by decide) dX2_mergeColumn_167 (fun b5 h => ?_)
      refine lv_iload_n hx hb dX2_mergeColumn_170 rfl (lv_at hl 3 rfl) ?_
      refine r_iald C hW h dX2_mergeColumn_171 (fun v6 h => ?_)
      refine lv_aload hx hb dX2_mergeColumn_172 (lv_at hl 4 rfl) ?_
      refine r_gR C hW h fl_X2_106 (by decide) dX2_mergeColumn_174 (fun b7 h => ?_)
      refine lv_iload_n hx hb dX2_mergeColumn_177 rfl (lv_at hl 3 rfl) ?_
      refine r_iald C hW h dX2_mergeColumn_178 (fun v8 h => ?_)
      obtain ⟨X10, h9, h⟩ := bnd_inv h
      refine r_cV hW (run_V (rest := []) C hW (t_X6_putColumn h9) mk_X6_putColumn vk_X2_95 (kd_X6_putColumn h9) rfl rfl (by decide) ⟨Nat.le_of_ble_eq_true rfl, Nat.le_of_ble_eq_true rfl⟩ ⟨Nat.zero_le _, Nat.zero_le _⟩ rfl rfl (Nat.le_of_ble_eq_true rfl) hl.1 dX2_mergeColumn_179) (fun H locs hW _ => ?_)
      exact r_vret C hW (Option.some.inj h).symm dX2_mergeColumn_182
end
