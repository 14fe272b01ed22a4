section
variable {p : Program} {l : Launch} {e : Env} {s : State} {m : MethodId} {args : Array Value} {below : List Frame} {meth : Method} {c : Code} {H : Heap} {locs : List Loc} {g : Gp} {σ : Sh} {ls : Array Slot}
set_option maxRecDepth 20000 in
set_option maxHeartbeats 2000000 in
theorem b_X2_mergeColumn_135 {a : Nat} {a1 : Nat} {x2 : Int32} {a6 : Nat} (C : Cx g RX2 cX2_mergeColumn 8 none p s m args meth c) {r : Mx} {X : Mx} (hW : Wd g σ X s H locs) (hl : lv_has ls 8 [(0, .ref a), (1, .ref a1), (2, .int x2), (6, .ref a6)]) (h : f_X2_mergeColumn_135 σ a a1 x2 a6 X = some r) : W p l e (rmZ 3 69) s m args below meth c H locs 0 0 (QV g σ below args s r) (F0 m 135 ls []) := by
  have hx := C.x
  have hb := C.b
  unfold f_X2_mergeColumn_135 at h
  refine lv_iconst (v := 0) hx hb dX2_mergeColumn_135 (by decide) ?_
  exact b_X2_mergeColumn_136 C hW (lv_sub hl [0, 1, 2, 3] rfl) h
set_option maxRecDepth 20000 in
set_option maxHeartbeats 2000000 in
theorem b_X2_mergeColumn_73 {a : Nat} {a1 : Nat} {x2 : Int32} (C : Cx g RX2 cX2_mergeColumn 8 none p s m args meth c) {r : Mx} {X : Mx} {y0 : Int32} (hW : Wd g σ X s H locs) (hl : lv_has ls 8 [(0, .ref a), (1, .ref a1), (2, .int x2)]) (h : f_X2_mergeColumn_73 σ a a1 x2 X y0 = some r) : W p l e (rmZ 3 69) s m args below meth c H locs 0 0 (QV g σ below args s r) (F0 m 73 ls [.int y0]) := by
  have hx := C.x
  have hb := C.b
  unfold f_X2_mergeColumn_73 at h
  refine lv_istore (lv' := [(5, .int y0), (0, .ref a), (1, .ref a1), (2, .int x2)]) hx hb dX2_mergeColumn_73 hl (by decide) rfl (fun ls hl => ?_)
  refine lv_aload_n hx hb dX2_mergeColumn_75 rfl (lv_at hl 2 rfl) ?_
  refine lv_iload hx hb dX2_mergeColumn_76 (lv_at hl 0 rfl) ?_
  obtain ⟨b2, h1, h⟩ := bnd_inv h
  refine r_cR hW (run_V (rest := []) C hW (t_X5_sideOf h1) mk_X5_sideOf vk_X2_99 (kd_X5_sideOf h1) rfl rfl (by decide) ⟨Nat.le_of_ble_eq_true rfl, Nat.le_of_ble_eq_true rfl⟩ ⟨Nat.zero_le _, Nat.zero_le _⟩ rfl rfl (Nat.le_of_ble_eq_true rfl) hl.1 dX2_mergeColumn_78) (fun H locs hW _ => ?_)
  refine lv_astore (lv' := [(6, .ref b2), (5, .int y0), (0, .ref a), (1, .ref a1), (2, .int x2)]) hx hb dX2_mergeColumn_81 hl (by decide) rfl (fun ls hl => ?_)
  refine lv_aload hx hb dX2_mergeColumn_83 (lv_at hl 0 rfl) ?_
  refine r_gR C hW h fl_X2_103 (by decide) dX2_mergeColumn_85 (fun b3 h => ?_)
  refine lv_iload_n hx hb dX2_mergeColumn_88 rfl (lv_at hl 4 rfl) ?_
  refine r_iald C hW h dX2_mergeColumn_89 (fun v4 h => ?_)
  refine lv_aload_n hx hb dX2_mergeColumn_90 rfl (lv_at hl 3 rfl) ?_
  refine r_gR C hW h fl_X2_44 (by decide) dX2_mergeColumn_91 (fun b5 h => ?_)
  refine r_gR C hW h fl_X2_103 (by decide) dX2_mergeColumn_94 (fun b6 h => ?_)
  refine lv_iload_n hx hb dX2_mergeColumn_97 rfl (lv_at hl 4 rfl) ?_
  refine r_iald C hW h dX2_mergeColumn_98 (fun v7 h => ?_)
  refine r_brn h (lv_icmp_ne (tgt := 135) hx hb dX2_mergeColumn_99 (by decide)) (fun h => ?_) (fun h => ?_)
  · exact b_X2_mergeColumn_135 C hW (lv_sub hl [2, 3, 4, 0] rfl) h
  · refine lv_aload hx hb dX2_mergeColumn_102 (lv_at hl 0 rfl) ?_
    refine r_gR C hW h fl_X2_106 (by decide) dX2_mergeColumn_104 (fun b8 h => ?_)
    refine lv_iload_n hx hb dX2_mergeColumn_107 rfl (lv_at hl 4 rfl) ?_
    refine r_iald C hW h dX2_mergeColumn_108 (fun v9 h => ?_)
    refine lv_aload_n hx hb dX2_mergeColumn_109 rfl (lv_at hl 3 rfl) ?_
    refine r_gR C hW h fl_X2_44 (by decide) dX2_mergeColumn_110 (fun b10 h => ?_)
    refine r_gR C hW h fl_X2_106 (by decide) dX2_mergeColumn_113 (fun b11 h => ?_)
    refine lv_iload_n hx hb dX2_mergeColumn_116 rfl (lv_at hl 4 rfl) ?_
    refine r_iald C hW h dX2_mergeColumn_117 (fun v12 h => ?_)
    refine r_brn h (lv_icmp_ne (tgt := 135) hx hb dX2_mergeColumn_118 (by decide)) (fun h => ?_) (fun h => ?_)
    · exact b_X2_mergeColumn_135 C hW (lv_sub hl [2, 3, 4, 0] rfl) h
    · refine lv_aload_n hx hb dX2_mergeColumn_121 rfl (lv_at hl 3 rfl) ?_
      refine lv_iload hx hb dX2_mergeColumn_122 (lv_at hl 1 rfl) ?_
      refine lv_iload_n hx hb dX2_mergeColumn_124 rfl (lv_at hl 4 rfl) ?_
      obtain ⟨v14, h13, h⟩ := bnd_inv h
      refine r_cI hW (run_V (rest := []) C hW (t_X5_isColumnChanged h13) mk_X5_isColumnChanged vk_X2_109 (kd_X5_isColumnChanged h13) rfl rfl (by decide) ⟨Nat.le_of_ble_eq_true rfl, Nat.le_of_ble_eq_true rfl⟩ ⟨Nat.zero_le _, Nat.zero_le _⟩ rfl rfl (Nat.le_of_ble_eq_true rfl) hl.1 dX2_mergeColumn_125) (fun H locs hW _ => ?_)
      refine r_brn h (lv_if_ne (tgt := 135) hx hb dX2_mergeColumn_128 (by decide)) (fun h => ?_) (fun h => ?_)
      · exact b_X2_mergeColumn_135 C hW (lv_sub hl [2, 3, 4, 0] rfl) h
      · refine lv_iconst (v := 1) hx hb dX2_mergeColumn_131 (by decide) ?_
        refine lv_goto (tgt := 136) hx hb dX2_mergeColumn_132 (by decide) ?_
        exact b_X2_mergeColumn_136 C hW (lv_sub hl [2, 3, 4, 0] rfl) h
set_option maxRecDepth 20000 in
set_option maxHeartbeats 2000000 in
theorem b_X2_mergeColumn_64 {a : Nat} {a1 : Nat} {x2 : Int32} {x3 : Int32} (C : Cx g RX2 cX2_mergeColumn 8 none p s m args meth c) {r : Mx} {X : Mx} (hW : Wd g σ X s H locs) (hl : lv_has ls 8 [(0, .ref a), (1, .ref a1), (2, .int x2), (3, .int x3)]) (h : f_X2_mergeColumn_64 σ a a1 x2 x3 X = some r) : W p l e (rmZ 3 69) s m args below meth c H locs 0 0 (QV g σ below args s r) (F0 m 64 ls []) := by
  have hx := C.x
  have hb := C.b
  unfold f_X2_mergeColumn_64 at h
  refine lv_iload_n hx hb dX2_mergeColumn_64 rfl (lv_at hl 3 rfl) ?_
  refine r_br h (lv_if_eq (tgt := 72) hx hb dX2_mergeColumn_65 (by decide)) (fun h => ?_) (fun h => ?_)
  · refine lv_iconst (v := 1) hx hb dX2_mergeColumn_72 (by decide) ?_
    exact b_X2_mergeColumn_73 C hW (lv_sub hl [0, 1, 2] rfl) h
  · refine lv_iconst (v := 0) hx hb dX2_mergeColumn_68 (by decide) ?_
    refine lv_goto (tgt := 73) hx hb dX2_mergeColumn_69 (by decide) ?_
    exact b_X2_mergeColumn_73 C hW (lv_sub hl [0, 1, 2] rfl) h
set_option maxRecDepth 20000 in
set_option maxHeartbeats 2000000 in
theorem b_X2_mergeColumn_55 {a : Nat} {a1 : Nat} {x2 : Int32} {x3 : Int32} {x4 : Int32} (C : Cx g RX2 cX2_mergeColumn 8 none p s m args meth c) {r : Mx} {X : Mx} (hW : Wd g σ X s H locs) (hl : lv_has ls 8 [(0, .ref a), (1, .ref a1), (2, .int x2), (3, .int x3), (4, .int x4)]) (h : f_X2_mergeColumn_55 σ a a1 x2 x3 x4 X = some r) : W p l e (rmZ 3 69) s m args below meth c H locs 0 0 (QV g σ below args s r) (F0 m 55 ls []) := by
  have hx := C.x
  have hb := C.b
  unfold f_X2_mergeColumn_55 at h
  refine lv_iload_n hx hb dX2_mergeColumn_55 rfl (lv_at hl 3 rfl) ?_
  refine r_brn h (lv_if_ne (tgt := 64) hx hb dX2_mergeColumn_56 (by decide)) (fun h => ?_) (fun h => ?_)
  · exact b_X2_mergeColumn_64 C hW (lv_sub hl [0, 1, 2, 3] rfl) h
  · refine lv_iload hx hb dX2_mergeColumn_59 (lv_at hl 4 rfl) ?_
    refine r_br h (lv_if_eq (tgt := 182) hx hb dX2_mergeColumn_61 (by decide)) (fun h => ?_) (fun h => ?_)
    · exact r_vret C hW (Option.some.inj h).symm dX2_mergeColumn_182
    · exact b_X2_mergeColumn_64 C hW (lv_sub hl [0, 1, 2, 3] rfl) h
theorem kd_X2_mergeColumn {X : Mx} {r : Mx} {a : Nat} {a1 : Nat} {x2 : Int32} (h : f_X2_mergeColumn σ X a a1 x2 = some r) : shK σ a = 1 := (grd_inv h).1
set_option maxRecDepth 20000 in
set_option maxHeartbeats 2000000 in
theorem t_X2_mergeColumn {X : Mx} {r : Mx} {a : Nat} {a1 : Nat} {x2 : Int32} (h : f_X2_mergeColumn σ X a a1 x2 = some r) : MtV g l yX2_mergeColumn cX2_mergeColumn 8 none 3 69 [.ref a, .ref a1, .int x2] σ X r := by
  refine met_of mk_X2_mergeColumn (Nat.le_of_ble_eq_true rfl) (fun p e s m args below meth c ls C hW hl => ?_)
  have hx := C.x
  have hb := C.b
  have hl : lv_has ls 8 [(0, .ref a), (1, .ref a1), (2, .int x2)] := hl
  unfold f_X2_mergeColumn at h
  obtain ⟨hk0, h⟩ := grd_inv h
  refine lv_aload_n hx hb dX2_mergeColumn_0 rfl (lv_at hl 1 rfl) ?_
  refine r_gR C hW h fl_X2_82 (by decide) dX2_mergeColumn_1 (fun b1 h => ?_)
  refine lv_iload_n hx hb dX2_mergeColumn_4 rfl (lv_at hl 2 rfl) ?_
  obtain ⟨v3, h2, h⟩ := bnd_inv h
  refine r_cI hW (run_V (rest := []) C hW (t_X6_hasColumn h2) mk_X6_hasColumn vk_X2_49 (kd_X6_hasColumn h2) rfl rfl (by decide) ⟨Nat.le_of_ble_eq_true rfl, Nat.le_of_ble_eq_true rfl⟩ ⟨Nat.zero_le _, Nat.zero_le _⟩ rfl rfl (Nat.le_of_ble_eq_true rfl) hl.1 dX2_mergeColumn_5) (fun H locs hW _ => ?_)
  refine lv_istore_n (lv' := [(3, .int v3), (0, .ref a), (1, .ref a1), (2, .int x2)]) hx hb dX2_mergeColumn_8 rfl hl (by decide) rfl (fun ls hl => ?_)
  refine lv_aload_n hx hb dX2_mergeColumn_9 rfl (lv_at hl 2 rfl) ?_
  refine r_gR C hW h fl_X2_85 (by decide) dX2_mergeColumn_10 (fun b4 h => ?_)
  refine lv_iload_n hx hb dX2_mergeColumn_13 rfl (lv_at hl 3 rfl) ?_
  obtain ⟨v6, h5, h⟩ := bnd_inv h
  refine r_cI hW (run_V (rest := []) C hW (t_X6_hasColumn h5) mk_X6_hasColumn vk_X2_49 (kd_X6_hasColumn h5) rfl rfl (by decide) ⟨Nat.le_of_ble_eq_true rfl, Nat.le_of_ble_eq_true rfl⟩ ⟨Nat.zero_le _, Nat.zero_le _⟩ rfl rfl (Nat.le_of_ble_eq_true rfl) hl.1 dX2_mergeColumn_14) (fun H locs hW _ => ?_)
  refine lv_istore (lv' := [(4, .int v6), (3, .int v3), (0, .ref a), (1, .ref a1), (2, .int x2)]) hx hb dX2_mergeColumn_17 hl (by decide) rfl (fun ls hl => ?_)
  refine lv_iload_n hx hb dX2_mergeColumn_19 rfl (lv_at hl 1 rfl) ?_
  refine r_br h (lv_if_eq (tgt := 55) hx hb dX2_mergeColumn_20 (by decide)) (fun h => ?_) (fun h => ?_)
  · exact b_X2_mergeColumn_55 C hW (lv_sub hl [2, 3, 4, 1, 0] rfl) h
  · refine lv_iload hx hb dX2_mergeColumn_23 (lv_at hl 0 rfl) ?_
    refine r_br h (lv_if_eq (tgt := 55) hx hb dX2_mergeColumn_25 (by decide)) (fun h => ?_) (fun h => ?_)
    · exact b_X2_mergeColumn_55 C hW (lv_sub hl [2, 3, 4, 1, 0] rfl) h
    · refine lv_aload_n hx hb dX2_mergeColumn_28 rfl (lv_at hl 2 rfl) ?_
      refine lv_aload_n hx hb dX2_mergeColumn_29 rfl (lv_at hl 3 rfl) ?_
      refine lv_iload_n hx hb dX2_mergeColumn_30 rfl (lv_at hl 4 rfl) ?_
      obtain ⟨v9, X8, h7, h⟩ := bnd2_inv h
      refine r_cI hW (run_V (rest := []) C hW (t_X2_mergedName h7) mk_X2_mergedName vk_X2_88 (kd_X2_mergedName h7) rfl rfl (by decide) ⟨Nat.le_of_ble_eq_true rfl, Nat.le_of_ble_eq_true rfl⟩ ⟨Nat.zero_le _, Nat.zero_le _⟩ rfl rfl (Nat.le_of_ble_eq_true rfl) hl.1 dX2_mergeColumn_31) (fun H locs hW _ => ?_)
      refine lv_istore (lv' := [(5, .int v9), (4, .int v6), (3, .int v3), (0, .ref a), (1, .ref a1), (2, .int x2)]) hx hb dX2_mergeColumn_34 hl (by decide) rfl (fun ls hl => ?_)
      refine lv_aload_n hx hb dX2_mergeColumn_36 rfl (lv_at hl 3 rfl) ?_
      refine r_gR C hW h fl_X2_12 (by decide) dX2_mergeColumn_37 (fun b10 h => ?_)
      refine lv_iload_n hx hb dX2_mergeColumn_40 rfl (lv_at hl 5 rfl) ?_
      refine lv_iload hx hb dX2_mergeColumn_41 (lv_at hl 0 rfl) ?_
      refine lv_aload_n hx hb dX2_mergeColumn_43 rfl (lv_at hl 3 rfl) ?_
      refine lv_aload_n hx hb dX2_mergeColumn_44 rfl (lv_at hl 4 rfl) ?_
      refine lv_iload_n hx hb dX2_mergeColumn_45 rfl (lv_at hl 5 rfl) ?_
      obtain ⟨v13, X12, h11, h⟩ := bnd2_inv h
      refine r_cI hW (run_V (rest := [.int v9, .int x2, .ref b10]) C hW (t_X2_mergedType h11) mk_X2_mergedType vk_X2_92 (kd_X2_mergedType h11) rfl rfl (by decide) ⟨Nat.le_of_ble_eq_true rfl, Nat.le_of_ble_eq_true rfl⟩ ⟨Nat.zero_le _, Nat.zero_le _⟩ rfl rfl (Nat.le_of_ble_eq_true rfl) hl.1 dX2_mergeColumn_46) (fun H locs hW _ => ?_)
      obtain ⟨X15, h14, h⟩ := bnd_inv h
      refine r_cV hW (run_V (rest := []) C hW (t_X6_putColumn h14) mk_X6_putColumn vk_X2_95 (kd_X6_putColumn h14) rfl rfl (by decide) ⟨Nat.le_of_ble_eq_true rfl, Nat.le_of_ble_eq_true rfl⟩ ⟨Nat.zero_le _, Nat.zero_le _⟩ rfl rfl (Nat.le_of_ble_eq_true rfl) hl.1 dX2_mergeColumn_49) (fun H locs hW _ => ?_)
      refine lv_goto (tgt := 182) hx hb dX2_mergeColumn_52 (by decide) ?_
      exact r_vret C hW (Option.some.inj h).symm dX2_mergeColumn_182
set_option maxRecDepth 20000 in
set_option maxHeartbeats 2000000 in
theorem b_X5_isRowChanged_2 {a : Nat} {x1 : Int32} {x2 : Int32} (C : Cx g RX5 cX5_isRowChanged 4 (some .boolean) p s m args meth c) {r : Int32} {X : Mx} : ∀ (n : Nat) {x3 : Int32} {H : Heap} {locs : List Loc} {ls : Array Slot} (hW : Wd g σ X s H locs) (hl : lv_has ls 4 [(0, .ref a), (1, .int x1), (2, .int x2), (3, .int x3)]) (h : f_X5_isRowChanged_2 σ X a x1 x2 n x3 = some r), W p l e (rmZ 2 46) s m args below meth c H locs 0 0 (QI g σ below args s (r, X)) (F0 m 2 ls []) := by
  have hx := C.x
  have hb := C.b
  intro n
  induction n with
  | zero =>
    intro x3 H locs ls hW hl h
    cases (show none = some r from h)
  | succ n ih =>
    intro x3 H locs ls hW hl h
    rw [f_X5_isRowChanged_2] at h
    refine lv_iload_n hx hb dX5_isRowChanged_2 rfl (lv_at hl 3 rfl) ?_
    refine lv_bipush (v := 9) hx hb dX5_isRowChanged_3 (by decide) ?_
    refine r_br h (lv_icmp_ge (tgt := 26) hx hb dX5_isRowChanged_5 (by decide)) (fun h => ?_) (fun h => ?_)
    · refine lv_iconst (v := 0) hx hb dX5_isRowChanged_26 (by decide) ?_
      exact r_iret C hW (rt_R h) rfl dX5_isRowChanged_27
    · refine lv_aload_n hx hb dX5_isRowChanged_8 rfl (lv_at hl 0 rfl) ?_
      refine lv_iload_n hx hb dX5_isRowChanged_9 rfl (lv_at hl 1 rfl) ?_
      refine lv_iload_n hx hb dX5_isRowChanged_10 rfl (lv_at hl 2 rfl) ?_
      refine lv_iload_n hx hb dX5_isRowChanged_11 rfl (lv_at hl 3 rfl) ?_
      obtain ⟨v2, h1, h⟩ := bnd_inv h
      refine r_cI hW (run_V (rest := []) C hW (t_X5_isChanged h1) mk_X5_isChanged vk_X5_93 (kd_X5_isChanged h1) rfl rfl (by decide) ⟨Nat.le_of_ble_eq_true rfl, Nat.le_of_ble_eq_true rfl⟩ ⟨Nat.zero_le _, Nat.zero_le _⟩ rfl rfl (Nat.le_of_ble_eq_true rfl) hl.1 dX5_isRowChanged_12) (fun H locs hW _ => ?_)
      refine r_br h (lv_if_eq (tgt := 20) hx hb dX5_isRowChanged_15 (by decide)) (fun h => ?_) (fun h => ?_)
      · refine lv_iinc (v := (x3 + 1)) (lv' := [(3, .int (x3 + 1)), (0, .ref a), (1, .int x1), (2, .int x2)]) hx hb dX5_isRowChanged_20 hl (k := 3) rfl rfl (by decide) rfl (fun ls hl => ?_)
        refine lv_goto (tgt := 2) hx hb dX5_isRowChanged_23 (by decide) ?_
        exact ih hW (lv_sub hl [1, 2, 3, 0] rfl) h
      · refine lv_iconst (v := 1) hx hb dX5_isRowChanged_18 (by decide) ?_
        exact r_iret C hW (rt_R h) rfl dX5_isRowChanged_19
theorem kd_X5_isRowChanged {X : Mx} {r : Int32} {a : Nat} {x1 : Int32} {x2 : Int32} (h : f_X5_isRowChanged σ X a x1 x2 = some r) : shK σ a = 4 := (grd_inv h).1
set_option maxRecDepth 20000 in
set_option maxHeartbeats 2000000 in
theorem t_X5_isRowChanged {X : Mx} {r : Int32} {a : Nat} {x1 : Int32} {x2 : Int32} (h : f_X5_isRowChanged σ X a x1 x2 = some r) : MtI g l yX5_isRowChanged cX5_isRowChanged 4 (some .boolean) 2 46 [.ref a, .int x1, .int x2] σ X (r, X) := by
  refine met_of mk_X5_isRowChanged (Nat.le_of_ble_eq_true rfl) (fun p e s m args below meth c ls C hW hl => ?_)
  have hx := C.x
  have hb := C.b
  have hl : lv_has ls 4 [(0, .ref a), (1, .int x1), (2, .int x2)] := hl
  unfold f_X5_isRowChanged at h
  obtain ⟨hk0, h⟩ := grd_inv h
  refine lv_iconst (v := 0) hx hb dX5_isRowChanged_0 (by decide) ?_
  refine lv_istore_n (lv' := [(3, .int 0), (0, .ref a), (1, .int x1), (2, .int x2)]) hx hb dX5_isRowChanged_1 rfl hl (by decide) rfl (fun ls hl => ?_)
  exact b_X5_isRowChanged_2 C FU hW (lv_sub hl [1, 2, 3, 0] rfl) h
theorem kd_X6_putRow {X : Mx} {r : Mx} {a : Nat} {x1 : Int32} (h : f_X6_putRow σ X a x1 = some r) : shK σ a = 5 := (grd_inv h).1
set_option maxRecDepth 20000 in
set_option maxHeartbeats 2000000 in
theorem t_X6_putRow {X : Mx} {r : Mx} {a : Nat} {x1 : Int32} (h : f_X6_putRow σ X a x1 = some r) : MtV g l yX6_putRow cX6_putRow 2 none 0 0 [.ref a, .int x1] σ X r := by
  refine met_of mk_X6_putRow (Nat.le_of_ble_eq_true rfl) (fun p e s m args below meth c ls C hW hl => ?_)
  have hx := C.x
  have hb := C.b
  have hl : lv_has ls 2 [(0, .ref a), (1, .int x1)] := hl
  unfold f_X6_putRow at h
  obtain ⟨hk0, h⟩ := grd_inv h
  refine lv_iload_n hx hb dX6_putRow_0 rfl (lv_at hl 1 rfl) ?_
  refine r_br h (lv_if_lt (tgt := 22) hx hb dX6_putRow_1 (by decide)) (fun h => ?_) (fun h => ?_)
  · exact r_vret C hW (Option.some.inj h).symm dX6_putRow_22
  · refine lv_iload_n hx hb dX6_putRow_4 rfl (lv_at hl 1 rfl) ?_
    refine lv_bipush (v := 20) hx hb dX6_putRow_5 (by decide) ?_
    refine r_br h (lv_icmp_ge (tgt := 22) hx hb dX6_putRow_7 (by decide)) (fun h => ?_) (fun h => ?_)
    · exact r_vret C hW (Option.some.inj h).symm dX6_putRow_22
    · refine lv_aload_n hx hb dX6_putRow_10 rfl (lv_at hl 0 rfl) ?_
      refine lv_dup hx hb dX6_putRow_11 rfl ?_
      refine r_gI C hW h fl_X6_31 (by decide) dX6_putRow_12 (fun v1 h => ?_)
      refine lv_iconst (v := 1) hx hb dX6_putRow_15 (by decide) ?_
      refine lv_iload_n hx hb dX6_putRow_16 rfl (lv_at hl 1 rfl) ?_
      refine lv_ishl hx hb dX6_putRow_17 ?_
      refine lv_ior hx hb dX6_putRow_18 ?_
      refine r_pI C hW h pf_X6_31 (by decide) rfl rfl dX6_putRow_19 (fun X2 H locs h hW _ => ?_)
      exact r_vret C hW (Option.some.inj h).symm dX6_putRow_22
set_option maxRecDepth 20000 in
set_option maxHeartbeats 2000000 in
theorem b_X2_mergeRow_85 {a : Nat} {x2 : Int32} (C : Cx g RX2 cX2_mergeRow 6 none p s m args meth c) {r : Mx} {X : Mx} (hW : Wd g σ X s H locs) (hl : lv_has ls 6 [(0, .ref a), (2, .int x2)]) (h : f_X2_mergeRow_85 σ a x2 X = some r) : W p l e (rmZ 3 69) s m args below meth c H locs 0 0 (QV g σ below args s r) (F0 m 85 ls []) := by
  have hx := C.x
  have hb := C.b
  unfold f_X2_mergeRow_85 at h
  refine lv_aload_n hx hb dX2_mergeRow_85 rfl (lv_at hl 0 rfl) ?_
  refine r_gR C hW h fl_X2_12 (by decide) dX2_mergeRow_86 (fun b1 h => ?_)
  refine lv_iload_n hx hb dX2_mergeRow_89 rfl (lv_at hl 1 rfl) ?_
  obtain ⟨X3, h2, h⟩ := bnd_inv h
  refine r_cV hW (run_V (rest := []) C hW (t_X6_putRow h2) mk_X6_putRow vk_X2_153 (kd_X6_putRow h2) rfl rfl (by decide) ⟨Nat.le_of_ble_eq_true rfl, Nat.le_of_ble_eq_true rfl⟩ ⟨Nat.zero_le _, Nat.zero_le _⟩ rfl rfl (Nat.le_of_ble_eq_true rfl) hl.1 dX2_mergeRow_90) (fun H locs hW _ => ?_)
  exact r_vret C hW (Option.some.inj h).symm dX2_mergeRow_93
set_option maxRecDepth 20000 in
set_option maxHeartbeats 2000000 in
theorem b_X2_mergeRow_56 {a : Nat} {a1 : Nat} {x2 : Int32} (C : Cx g RX2 cX2_mergeRow 6 none p s m args meth c) {r : Mx} {X : Mx} {y0 : Nat} {y1 : Int32} (hW : Wd g σ X s H locs) (hl : lv_has ls 6 [(0, .ref a), (1, .ref a1), (2, .int x2)]) (h : f_X2_mergeRow_56 σ a a1 x2 X y0 y1 = some r) : W p l e (rmZ 3 69) s m args below meth c H locs 0 0 (QV g σ below args s r) (F0 m 56 ls [.int y1, .ref y0]) := by
  have hx := C.x
  have hb := C.b
  unfold f_X2_mergeRow_56 at h
  refine lv_iload_n hx hb dX2_mergeRow_56 rfl (lv_at hl 2 rfl) ?_
  obtain ⟨v2, h1, h⟩ := bnd_inv h
  refine r_cI hW (run_V (rest := []) C hW (t_X5_isRowChanged h1) mk_X5_isRowChanged vk_X2_150 (kd_X5_isRowChanged h1) rfl rfl (by decide) ⟨Nat.le_of_ble_eq_true rfl, Nat.le_of_ble_eq_true rfl⟩ ⟨Nat.zero_le _, Nat.zero_le _⟩ rfl rfl (Nat.le_of_ble_eq_true rfl) hl.1 dX2_mergeRow_57) (fun H locs hW _ => ?_)
  refine lv_istore (lv' := [(5, .int v2), (0, .ref a), (1, .ref a1), (2, .int x2)]) hx hb dX2_mergeRow_60 hl (by decide) rfl (fun ls hl => ?_)
  refine lv_iload hx hb dX2_mergeRow_62 (lv_at hl 0 rfl) ?_
  refine r_br h (lv_if_eq (tgt := 84) hx hb dX2_mergeRow_64 (by decide)) (fun h => ?_) (fun h => ?_)
  · exact r_vret C hW (Option.some.inj h).symm dX2_mergeRow_84
  · refine lv_aload_n hx hb dX2_mergeRow_67 rfl (lv_at hl 1 rfl) ?_
    refine lv_aload_n hx hb dX2_mergeRow_68 rfl (lv_at hl 2 rfl) ?_
    refine lv_iconst (v := 4) hx hb dX2_mergeRow_69 (by decide) ?_
    refine lv_iload_n hx hb dX2_mergeRow_70 rfl (lv_at hl 3 rfl) ?_
    refine lv_iconst (v := 0) hx hb dX2_mergeRow_71 (by decide) ?_
    refine r_cI hW (run_S (rest := [.ref a1, .ref a]) C hW (t_X1_idOf (X := X)) mk_X1_idOf sk_X2_113 ⟨Nat.le_of_ble_eq_true rfl, Nat.le_of_ble_eq_true rfl⟩ ⟨Nat.zero_le _, Nat.zero_le _⟩ rfl rfl (Nat.le_of_ble_eq_true rfl) hl.1 dX2_mergeRow_72) (fun H locs hW _ => ?_)
    refine lv_iconst (v := (-1)) hx hb dX2_mergeRow_75 (by decide) ?_
    refine lv_iconst (v := (-1)) hx hb dX2_mergeRow_76 (by decide) ?_
    obtain ⟨v5, X4, h3, h⟩ := bnd2_inv h
    refine r_cI hW (run_V (rest := []) C hW (t_X2_ask h3) mk_X2_ask vk_X2_119 (kd_X2_ask h3) rfl rfl (by decide) ⟨Nat.le_of_ble_eq_true rfl, Nat.le_of_ble_eq_true rfl⟩ ⟨Nat.zero_le _, Nat.zero_le _⟩ rfl rfl (Nat.le_of_ble_eq_true rfl) hl.1 dX2_mergeRow_77) (fun H locs hW _ => ?_)
    refine lv_iconst (v := 1) hx hb dX2_mergeRow_80 (by decide) ?_
    refine r_brn h (lv_icmp_ne (tgt := 85) hx hb dX2_mergeRow_81 (by decide)) (fun h => ?_) (fun h => ?_)
    · exact b_X2_mergeRow_85 C hW (lv_sub hl [1, 3] rfl) h
    · exact r_vret C hW (Option.some.inj h).symm dX2_mergeRow_84
set_option maxRecDepth 20000 in
set_option maxHeartbeats 2000000 in
theorem b_X2_mergeRow_29 {a : Nat} {a1 : Nat} {x2 : Int32} {x3 : Int32} {x4 : Int32} (C : Cx g RX2 cX2_mergeRow 6 none p s m args meth c) {r : Mx} {X : Mx} (hW : Wd g σ X s H locs) (hl : lv_has ls 6 [(0, .ref a), (1, .ref a1), (2, .int x2), (3, .int x3), (4, .int x4)]) (h : f_X2_mergeRow_29 σ a a1 x2 x3 x4 X = some r) : W p l e (rmZ 3 69) s m args below meth c H locs 0 0 (QV g σ below args s r) (F0 m 29 ls []) := by
  have hx := C.x
  have hb := C.b
  unfold f_X2_mergeRow_29 at h
  refine lv_aload_n hx hb dX2_mergeRow_29 rfl (lv_at hl 1 rfl) ?_
  refine r_gR C hW h fl_X2_44 (by decide) dX2_mergeRow_30 (fun b1 h => ?_)
  refine lv_iload_n hx hb dX2_mergeRow_33 rfl (lv_at hl 2 rfl) ?_
  obtain ⟨v3, h2, h⟩ := bnd_inv h
  refine r_cI hW (run_V (rest := []) C hW (t_X6_hasRow h2) mk_X6_hasRow vk_X2_67 (kd_X6_hasRow h2) rfl rfl (by decide) ⟨Nat.le_of_ble_eq_true rfl, Nat.le_of_ble_eq_true rfl⟩ ⟨Nat.zero_le _, Nat.zero_le _⟩ rfl rfl (Nat.le_of_ble_eq_true rfl) hl.1 dX2_mergeRow_34) (fun H locs hW _ => ?_)
  refine r_br h (lv_if_eq (tgt := 85) hx hb dX2_mergeRow_37 (by decide)) (fun h => ?_) (fun h => ?_)
  · exact b_X2_mergeRow_85 C hW (lv_sub hl [0, 2] rfl) h
  · refine lv_iload_n hx hb dX2_mergeRow_40 rfl (lv_at hl 3 rfl) ?_
    refine lv_iload hx hb dX2_mergeRow_41 (lv_at hl 4 rfl) ?_
    refine r_br h (lv_icmp_eq (tgt := 85) hx hb dX2_mergeRow_43 (by decide)) (fun h => ?_) (fun h => ?_)
    · exact b_X2_mergeRow_85 C hW (lv_sub hl [0, 2] rfl) h
    · refine lv_aload_n hx hb dX2_mergeRow_46 rfl (lv_at hl 1 rfl) ?_
      refine lv_iload_n hx hb dX2_mergeRow_47 rfl (lv_at hl 3 rfl) ?_
      refine r_br h (lv_if_eq (tgt := 55) hx hb dX2_mergeRow_48 (by decide)) (fun h => ?_) (fun h => ?_)
      · refine lv_iconst (v := 1) hx hb dX2_mergeRow_55 (by decide) ?_
        exact b_X2_mergeRow_56 C hW (lv_sub hl [0, 1, 2] rfl) h
      · refine lv_iconst (v := 0) hx hb dX2_mergeRow_51 (by decide) ?_
        refine lv_goto (tgt := 56) hx hb dX2_mergeRow_52 (by decide) ?_
        exact b_X2_mergeRow_56 C hW (lv_sub hl [0, 1, 2] rfl) h
theorem kd_X2_mergeRow {X : Mx} {r : Mx} {a : Nat} {a1 : Nat} {x2 : Int32} (h : f_X2_mergeRow σ X a a1 x2 = some r) : shK σ a = 1 := (grd_inv h).1
set_option maxRecDepth 20000 in
set_option maxHeartbeats 2000000 in
theorem t_X2_mergeRow {X : Mx} {r : Mx} {a : Nat} {a1 : Nat} {x2 : Int32} (h : f_X2_mergeRow σ X a a1 x2 = some r) : MtV g l yX2_mergeRow cX2_mergeRow 6 none 3 69 [.ref a, .ref a1, .int x2] σ X r := by
  refine met_of mk_X2_mergeRow (Nat.le_of_ble_eq_true rfl) (fun p e s m args below meth c ls C hW hl => ?_)
  have hx := C.x
  have hb := C.b
  have hl : lv_has ls 6 [(0, .ref a), (1, .ref a1), (2, .int x2)] := hl
  unfold f_X2_mergeRow at h
  obtain ⟨hk0, h⟩ := grd_inv h
  refine lv_aload_n hx hb dX2_mergeRow_0 rfl (lv_at hl 1 rfl) ?_
  refine r_gR C hW h fl_X2_82 (by decide) dX2_mergeRow_1 (fun b1 h => ?_)
  refine lv_iload_n hx hb dX2_mergeRow_4 rfl (lv_at hl 2 rfl) ?_
  obtain ⟨v3, h2, h⟩ := bnd_inv h
  refine r_cI hW (run_V (rest := []) C hW (t_X6_hasRow h2) mk_X6_hasRow vk_X2_67 (kd_X6_hasRow h2) rfl rfl (by decide) ⟨Nat.le_of_ble_eq_true rfl, Nat.le_of_ble_eq_true rfl⟩ ⟨Nat.zero_le _, Nat.zero_le _⟩ rfl rfl (Nat.le_of_ble_eq_true rfl) hl.1 dX2_mergeRow_5) (fun H locs hW _ => ?_)
  refine lv_istore_n (lv' := [(3, .int v3), (0, .ref a), (1, .ref a1), (2, .int x2)]) hx hb dX2_mergeRow_8 rfl hl (by decide) rfl (fun ls hl => ?_)
  refine lv_aload_n hx hb dX2_mergeRow_9 rfl (lv_at hl 2 rfl) ?_
  refine r_gR C hW h fl_X2_85 (by decide) dX2_mergeRow_10 (fun b4 h => ?_)
  refine lv_iload_n hx hb dX2_mergeRow_13 rfl (lv_at hl 3 rfl) ?_
  obtain ⟨v6, h5, h⟩ := bnd_inv h
  refine r_cI hW (run_V (rest := []) C hW (t_X6_hasRow h5) mk_X6_hasRow vk_X2_67 (kd_X6_hasRow h5) rfl rfl (by decide) ⟨Nat.le_of_ble_eq_true rfl, Nat.le_of_ble_eq_true rfl⟩ ⟨Nat.zero_le _, Nat.zero_le _⟩ rfl rfl (Nat.le_of_ble_eq_true rfl) hl.1 dX2_mergeRow_14) (fun H locs hW _ => ?_)
  refine lv_istore (lv' := [(4, .int v6), (3, .int v3), (0, .ref a), (1, .ref a1), (2, .int x2)]) hx hb dX2_mergeRow_17 hl (by decide) rfl (fun ls hl => ?_)
  refine lv_iload_n hx hb dX2_mergeRow_19 rfl (lv_at hl 1 rfl) ?_
  refine r_brn h (lv_if_ne (tgt := 29) hx hb dX2_mergeRow_20 (by decide)) (fun h => ?_) (fun h => ?_)
  · exact b_X2_mergeRow_29 C hW (lv_sub hl [2, 3, 4, 1, 0] rfl) h
  · refine lv_iload hx hb dX2_mergeRow_23 (lv_at hl 0 rfl) ?_
    refine r_brn h (lv_if_ne (tgt := 29) hx hb dX2_mergeRow_25 (by decide)) (fun h => ?_) (fun h => ?_)
    · exact b_X2_mergeRow_29 C hW (lv_sub hl [2, 3, 4, 1, 0] rfl) h
    · exact r_vret C hW (Option.some.inj h).symm dX2_mergeRow_28
set_option maxRecDepth 20000 in
set_option maxHeartbeats 2000000 in
theorem b_X2_isNameAhead_47 {k2 : Int32 → Option Int32} {a : Nat} {x1 : Int32} {x2 : Int32} (C : Cx g RX2 cX2_isNameAhead 3 (some .boolean) p s m args meth c) {r : Int32} {X : Mx} (hk2 : ∀ {H' : Heap} {locs' : List Loc} {ls' : Array Slot} {x2' : Int32}, Wd g σ X s H' locs' → lv_has ls' 3 [(0, .ref a), (1, .int x1), (2, .int x2')] → k2 x2' = some r → W p l e (rmZ 1 21) s m args below meth c H' locs' 0 0 (QI g σ below args s (r, X)) (F0 m 2 ls' [])) (hW : Wd g σ X s H locs) (hl : lv_has ls 3 [(0, .ref a), (1, .int x1), (2, .int x2)]) (h : f_X2_isNameAhead_47 k2 σ X a x1 x2 = some r) : W p l e (rmZ 1 21) s m args below meth c H locs 0 0 (QI g σ below args s (r, X)) (F0 m 47 ls []) := by
  have hx := C.x
  have hb := C.b
  unfold f_X2_isNameAhead_47 at h
  refine lv_iinc (v := (x2 + 1)) (lv' := [(2, .int (x2 + 1)), (0, .ref a), (1, .int x1)]) hx hb dX2_isNameAhead_47 hl (k := 2) rfl rfl (by decide) rfl (fun ls hl => ?_)
  refine lv_goto (tgt := 2) hx hb dX2_isNameAhead_50 (by decide) ?_
  exact hk2 hW (lv_sub hl [1, 2, 0] rfl) h
set_option maxRecDepth 20000 in
set_option maxHeartbeats 2000000 in
theorem b_X2_isNameAhead_2 {a : Nat} {x1 : Int32} (C : Cx g RX2 cX2_isNameAhead 3 (some .boolean) p s m args meth c) {r : Int32} {X : Mx} : ∀ (n : Nat) {x2 : Int32} {H : Heap} {locs : List Loc} {ls : Array Slot} (hW : Wd g σ X s H locs) (hl : lv_has ls 3 [(0, .ref a), (1, .int x1), (2, .int x2)]) (h : f_X2_isNameAhead_2 σ X a x1 n x2 = some r), W p l e (rmZ 1 21) s m args below meth c H locs 0 0 (QI g σ below args s (r, X)) (F0 m 2 ls []) := by
  have hx := C.x
  have hb := C.b
  intro n
  induction n with
  | zero =>
    intro x2 H locs ls hW hl h
    cases (show none = some r from h)
  | succ n ih =>
    intro x2 H locs ls hW hl h
    rw [f_X2_isNameAhead_2] at h
    refine lv_iload_n hx hb dX2_isNameAhead_2 rfl (lv_at hl 2 rfl) ?_
    refine lv_iload_n hx hb dX2_isNameAhead_3 rfl (lv_at hl 1 rfl) ?_
    refine r_br h (lv_icmp_ge (tgt := 53) hx hb dX2_isNameAhead_4 (by decide)) (fun h => ?_) (fun h => ?_)
    · refine lv_iconst (v := 0) hx hb dX2_isNameAhead_53 (by decide) ?_
      exact r_iret C hW (rt_R h) rfl dX2_isNameAhead_54
    · refine lv_iload_n hx hb dX2_isNameAhead_7 rfl (lv_at hl 2 rfl) ?_
      refine lv_bipush (v := 9) hx hb dX2_isNameAhead_8 (by decide) ?_
      refine r_br h (lv_icmp_ge (tgt := 53) hx hb dX2_isNameAhead_10 (by decide)) (fun h => ?_) (fun h => ?_)
      · refine lv_iconst (v := 0) hx hb dX2_isNameAhead_53 (by decide) ?_
        exact r_iret C hW (rt_R h) rfl dX2_isNameAhead_54
      · refine lv_aload_n hx hb dX2_isNameAhead_13 rfl (lv_at hl 0 rfl) ?_
        refine r_gR C hW h fl_X2_12 (by decide) dX2_isNameAhead_14 (fun b1 h => ?_)
        refine lv_iload_n hx hb dX2_isNameAhead_17 rfl (lv_at hl 2 rfl) ?_
        obtain ⟨v3, h2, h⟩ := bnd_inv h
        refine r_cI hW (run_V (rest := []) C hW (t_X6_hasColumn h2) mk_X6_hasColumn vk_X2_49 (kd_X6_hasColumn h2) rfl rfl (by decide) ⟨Nat.le_of_ble_eq_true rfl, Nat.le_of_ble_eq_true rfl⟩ ⟨Nat.zero_le _, Nat.zero_le _⟩ rfl rfl (Nat.le_of_ble_eq_true rfl) hl.1 dX2_isNameAhead_18) (fun H locs hW _ => ?_)
        refine r_br h (lv_if_eq (tgt := 47) hx hb dX2_isNameAhead_21 (by decide)) (fun h => ?_) (fun h => ?_)
        · exact b_X2_isNameAhead_47 C (fun hW hl h => ih hW hl h) hW (lv_sub hl [0, 1, 2] rfl) h
        · refine lv_aload_n hx hb dX2_isNameAhead_24 rfl (lv_at hl 0 rfl) ?_
          refine r_gR C hW h fl_X2_12 (by decide) dX2_isNameAhead_25 (fun b4 h => ?_)
          refine r_gR C hW h fl_X2_103 (by decide) dX2_isNameAhead_28 (fun b5 h => ?_)
          refine lv_iload_n hx hb dX2_isNameAhead_31 rfl (lv_at hl 2 rfl) ?_
          refine r_iald C hW h dX2_isNameAhead_32 (fun v6 h => ?_)
          refine lv_aload_n hx hb dX2_isNameAhead_33 rfl (lv_at hl 0 rfl) ?_
          refine r_gR C hW h fl_X2_12 (by decide) dX2_isNameAhead_34 (fun b7 h => ?_)
          refine r_gR C hW h fl_X2_103 (by decide) dX2_isNameAhead_37 (fun b8 h => ?_)
          refine lv_iload_n hx hb dX2_isNameAhead_40 rfl (lv_at hl 1 rfl) ?_
          refine r_iald C hW h dX2_isNameAhead_41 (fun v9 h => ?_)
          refine r_brn h (lv_icmp_ne (tgt := 47) hx hb dX2_isNameAhead_42 (by decide)) (fun h => ?_) (fun h => ?_)
          · exact b_X2_isNameAhead_47 C (fun hW hl h => ih hW hl h) hW (lv_sub hl [0, 1, 2] rfl) h
          · refine lv_iconst (v := 1) hx hb dX2_isNameAhead_45 (by decide) ?_
            exact r_iret C hW (rt_R h) rfl dX2_isNameAhead_46
theorem kd_X2_isNameAhead {X : Mx} {r : Int32} {a : Nat} {x1 : Int32} (h : f_X2_isNameAhead σ X a x1 = some r) : shK σ a = 1 := (grd_inv h).1
set_option maxRecDepth 20000 in
set_option maxHeartbeats 2000000 in
theorem t_X2_isNameAhead {X : Mx} {r : Int32} {a : Nat} {x1 : Int32} (h : f_X2_isNameAhead σ X a x1 = some r) : MtI g l yX2_isNameAhead cX2_isNameAhead 3 (some .boolean) 1 21 [.ref a, .int x1] σ X (r, X) := by
  refine met_of mk_X2_isNameAhead (Nat.le_of_ble_eq_true rfl) (fun p e s m args below meth c ls C hW hl => ?_)
  have hx := C.x
  have hb := C.b
  have hl : lv_has ls 3 [(0, .ref a), (1, .int x1)] := hl
  unfold f_X2_isNameAhead at h
  obtain ⟨hk0, h⟩ := grd_inv h
  refine lv_iconst (v := 0) hx hb dX2_isNameAhead_0 (by decide) ?_
  refine lv_istore_n (lv' := [(2, .int 0), (0, .ref a), (1, .int x1)]) hx hb dX2_isNameAhead_1 rfl hl (by decide) rfl (fun ls hl => ?_)
  exact b_X2_isNameAhead_2 C FU hW (lv_sub hl [1, 2, 0] rfl) h
set_option maxRecDepth 20000 in
set_option maxHeartbeats 2000000 in
theorem b_X6_hasName_28 {k2 : Int32 → Option Int32} {a : Nat} {x1 : Int32} {x2 : Int32} (C : Cx g RX6 cX6_hasName 3 (some .boolean) p s m args meth c) {r : Int32} {X : Mx} (hk2 : ∀ {H' : Heap} {locs' : List Loc} {ls' : Array Slot} {x2' : Int32}, Wd g σ X s H' locs' → lv_has ls' 3 [(0, .ref a), (1, .int x1), (2, .int x2')] → k2 x2' = some r → W p l e (rmZ 1 21) s m args below meth c H' locs' 0 0 (QI g σ below args s (r, X)) (F0 m 2 ls' [])) (hW : Wd g σ X s H locs) (hl : lv_has ls 3 [(0, .ref a), (1, .int x1), (2, .int x2)]) (h : f_X6_hasName_28 k2 σ X a x1 x2 = some r) : W p l e (rmZ 1 21) s m args below meth c H locs 0 0 (QI g σ below args s (r, X)) (F0 m 28 ls []) := by
  have hx := C.x
  have hb := C.b
  unfold f_X6_hasName_28 at h
  refine lv_iinc (v := (x2 + 1)) (lv' := [(2, .int (x2 + 1)), (0, .ref a), (1, .int x1)]) hx hb dX6_hasName_28 hl (k := 2) rfl rfl (by decide) rfl (fun ls hl => ?_)
  refine lv_goto (tgt := 2) hx hb dX6_hasName_31 (by decide) ?_
  exact hk2 hW (lv_sub hl [1, 2, 0] rfl) h
set_option maxRecDepth 20000 in
set_option maxHeartbeats 2000000 in
theorem b_X6_hasName_2 {a : Nat} {x1 : Int32} (C : Cx g RX6 cX6_hasName 3 (some .boolean) p s m args meth c) {r : Int32} {X : Mx} : ∀ (n : Nat) {x2 : Int32} {H : Heap} {locs : List Loc} {ls : Array Slot} (hW : Wd g σ X s H locs) (hl : lv_has ls 3 [(0, .ref a), (1, .int x1), (2, .int x2)]) (h : f_X6_hasName_2 σ X a x1 n x2 = some r), W p l e (rmZ 1 21) s m args below meth c H locs 0 0 (QI g σ below args s (r, X)) (F0 m 2 ls []) := by
  have hx := C.x
  have hb := C.b
  intro n
  induction n with
  | zero =>
    intro x2 H locs ls hW hl h
    cases (show none = some r from h)
  | succ n ih =>
    intro x2 H locs ls hW hl h
    rw [f_X6_hasName_2] at h
    refine lv_iload_n hx hb dX6_hasName_2 rfl (lv_at hl 2 rfl) ?_
    refine lv_bipush (v := 9) hx hb dX6_hasName_3 (by decide) ?_
    refine r_br h (lv_icmp_ge (tgt := 34) hx hb dX6_hasName_5 (by decide)) (fun h => ?_) (fun h => ?_)
    · refine lv_iconst (v := 0) hx hb dX6_hasName_34 (by decide) ?_
      exact r_iret C hW (rt_R h) rfl dX6_hasName_35
    · refine lv_aload_n hx hb dX6_hasName_8 rfl (lv_at hl 0 rfl) ?_
      refine lv_iload_n hx hb dX6_hasName_9 rfl (lv_at hl 2 rfl) ?_
      obtain ⟨v2, h1, h⟩ := bnd_inv h
      refine r_cI hW (run_V (rest := []) C hW (t_X6_hasColumn h1) mk_X6_hasColumn vk_X6_40 (kd_X6_hasColumn h1) rfl rfl (by decide) ⟨Nat.le_of_ble_eq_true rfl, Nat.le_of_ble_eq_true rfl⟩ ⟨Nat.zero_le _, Nat.zero_le _⟩ rfl rfl (Nat.le_of_ble_eq_true rfl) hl.1 dX6_hasName_10) (fun H locs hW _ => ?_)
      refine r_br h (lv_if_eq (tgt := 28) hx hb dX6_hasName_13 (by decide)) (fun h => ?_) (fun h => ?_)
      · exact b_X6_hasName_28 C (fun hW hl h => ih hW hl h) hW (lv_sub hl [0, 1, 2] rfl) h
      · refine lv_aload_n hx hb dX6_hasName_16 rfl (lv_at hl 0 rfl) ?_
        refine r_gR C hW h fl_X6_9 (by decide) dX6_hasName_17 (fun b3 h => ?_)
        refine lv_iload_n hx hb dX6_hasName_20 rfl (lv_at hl 2 rfl) ?_
        refine r_iald C hW h dX6_hasName_21 (fun v4 h => ?_)
        refine lv_iload_n hx hb dX6_hasName_22 rfl (lv_at hl 1 rfl) ?_
        refine r_brn h (lv_icmp_ne (tgt := 28) hx hb dX6_hasName_23 (by decide)) (fun h => ?_) (fun h => ?_)
        · exact b_X6_hasName_28 C (fun hW hl h => ih hW hl h) hW (lv_sub hl [0, 1, 2] rfl) h
        · refine lv_iconst (v := 1) hx hb dX6_hasName_26 (by decide) ?_
          exact r_iret C hW (rt_R h) rfl dX6_hasName_27
theorem kd_X6_hasName {X : Mx} {r : Int32} {a : Nat} {x1 : Int32} (h : f_X6_hasName σ X a x1 = some r) : shK σ a = 5 := (grd_inv h).1
set_option maxRecDepth 20000 in
set_option maxHeartbeats 2000000 in
theorem t_X6_hasName {X : Mx} {r : Int32} {a : Nat} {x1 : Int32} (h : f_X6_hasName σ X a x1 = some r) : MtI g l yX6_hasName cX6_hasName 3 (some .boolean) 1 21 [.ref a, .int x1] σ X (r, X) := by
  refine met_of mk_X6_hasName (Nat.le_of_ble_eq_true rfl) (fun p e s m args below meth c ls C hW hl => ?_)
  have hx := C.x
  have hb := C.b
  have hl : lv_has ls 3 [(0, .ref a), (1, .int x1)] := hl
  unfold f_X6_hasName at h
  obtain ⟨hk0, h⟩ := grd_inv h
  refine lv_iconst (v := 0) hx hb dX6_hasName_0 (by decide) ?_
  refine lv_istore_n (lv' := [(2, .int 0), (0, .ref a), (1, .int x1)]) hx hb dX6_hasName_1 rfl hl (by decide) rfl (fun ls hl => ?_)
  exact b_X6_hasName_2 C FU hW (lv_sub hl [1, 2, 0] rfl) h
set_option maxRecDepth 20000 in
set_option maxHeartbeats 2000000 in
theorem b_X2_leastFreeName_4 {a : Nat} (C : Cx g RX2 cX2_leastFreeName 3 (some .int) p s m args meth c) {r : Int32} {X : Mx} : ∀ (n : Nat) {x1 : Int32} {x2 : Int32} {H : Heap} {locs : List Loc} {ls : Array Slot} (hW : Wd g σ X s H locs) (hl : lv_has ls 3 [(0, .ref a), (1, .int x1), (2, .int x2)]) (h : f_X2_leastFreeName_4 σ X a n x1 x2 = some r), W p l e (rmZ 2 43) s m args below meth c H locs 0 0 (QI g σ below args s (r, X)) (F0 m 4 ls []) := by
  have hx := C.x
  have hb := C.b
  intro n
  induction n with
  | zero =>
    intro x1 x2 H locs ls hW hl h
    cases (show none = some r from h)
  | succ n ih =>
    intro x1 x2 H locs ls hW hl h
    rw [f_X2_leastFreeName_4] at h
    refine lv_iload_n hx hb dX2_leastFreeName_4 rfl (lv_at hl 2 rfl) ?_
    refine lv_bipush (v := 26) hx hb dX2_leastFreeName_5 (by decide) ?_
    refine r_br h (lv_icmp_ge (tgt := 30) hx hb dX2_leastFreeName_7 (by decide)) (fun h => ?_) (fun h => ?_)
    · refine lv_iload_n hx hb dX2_leastFreeName_30 rfl (lv_at hl 1 rfl) ?_
      exact r_iret C hW (rt_R h) rfl dX2_leastFreeName_31
    · refine lv_aload_n hx hb dX2_leastFreeName_10 rfl (lv_at hl 0 rfl) ?_
      refine r_gR C hW h fl_X2_12 (by decide) dX2_leastFreeName_11 (fun b1 h => ?_)
      refine lv_iload_n hx hb dX2_leastFreeName_14 rfl (lv_at hl 1 rfl) ?_
      obtain ⟨v3, h2, h⟩ := bnd_inv h
      refine r_cI hW (run_V (rest := []) C hW (t_X6_hasName h2) mk_X6_hasName vk_X2_147 (kd_X6_hasName h2) rfl rfl (by decide) ⟨Nat.le_of_ble_eq_true rfl, Nat.le_of_ble_eq_true rfl⟩ ⟨Nat.zero_le _, Nat.zero_le _⟩ rfl rfl (Nat.le_of_ble_eq_true rfl) hl.1 dX2_leastFreeName_15) (fun H locs hW _ => ?_)
      refine r_br h (lv_if_eq (tgt := 30) hx hb dX2_leastFreeName_18 (by decide)) (fun h => ?_) (fun h => ?_)
      · refine lv_iload_n hx hb dX2_leastFreeName_30 rfl (lv_at hl 1 rfl) ?_
        exact r_iret C hW (rt_R h) rfl dX2_leastFreeName_31
      · refine lv_iinc (v := (x1 + 1)) (lv' := [(1, .int (x1 + 1)), (0, .ref a), (2, .int x2)]) hx hb dX2_leastFreeName_21 hl (k := 1) rfl rfl (by decide) rfl (fun ls hl => ?_)
        refine lv_iinc (v := (x2 + 1)) (lv' := [(2, .int (x2 + 1)), (1, .int (x1 + 1)), (0, .ref a)]) hx hb dX2_leastFreeName_24 hl (k := 2) rfl rfl (by decide) rfl (fun ls hl => ?_)
        refine lv_goto (tgt := 4) hx hb dX2_leastFreeName_27 (by decide) ?_
        exact ih hW (lv_sub hl [2, 1, 0] rfl) h
theorem kd_X2_leastFreeName {X : Mx} {r : Int32} {a : Nat} (h : f_X2_leastFreeName σ X a = some r) : shK σ a = 1 := (grd_inv h).1
set_option maxRecDepth 20000 in
set_option maxHeartbeats 2000000 in
theorem t_X2_leastFreeName {X : Mx} {r : Int32} {a : Nat} (h : f_X2_leastFreeName σ X a = some r) : MtI g l yX2_leastFreeName cX2_leastFreeName 3 (some .int) 2 43 [.ref a] σ X (r, X) := by
  refine met_of mk_X2_leastFreeName (Nat.le_of_ble_eq_true rfl) (fun p e s m args below meth c ls C hW hl => ?_)
  have hx := C.x
  have hb := C.b
  have hl : lv_has ls 3 [(0, .ref a)] := hl
  unfold f_X2_leastFreeName at h
  obtain ⟨hk0, h⟩ := grd_inv h
  refine lv_iconst (v := 0) hx hb dX2_leastFreeName_0 (by decide) ?_
  refine lv_istore_n (lv' := [(1, .int 0), (0, .ref a)]) hx hb dX2_leastFreeName_1 rfl hl (by decide) rfl (fun ls hl => ?_)
  refine lv_iconst (v := 0) hx hb dX2_leastFreeName_2 (by decide) ?_
  refine lv_istore_n (lv' := [(2, .int 0), (1, .int 0), (0, .ref a)]) hx hb dX2_leastFreeName_3 rfl hl (by decide) rfl (fun ls hl => ?_)
  exact b_X2_leastFreeName_4 C FU hW (lv_sub hl [2, 1, 0] rfl) h
set_option maxRecDepth 20000 in
set_option maxHeartbeats 2000000 in
theorem b_X6_takeColumn_2 {a : Nat} {x1 : Int32} (C : Cx g RX6 cX6_takeColumn 3 none p s m args meth c) {r : Mx} : ∀ (n : Nat) {X : Mx} {x2 : Int32} {H : Heap} {locs : List Loc} {ls : Array Slot} (hW : Wd g σ X s H locs) (hl : lv_has ls 3 [(0, .ref a), (1, .int x1), (2, .int x2)]) (h : f_X6_takeColumn_2 σ a x1 n X x2 = some r), W p l e (rmZ 1 23) s m args below meth c H locs 0 0 (QV g σ below args s r) (F0 m 2 ls []) := by
  have hx := C.x
  have hb := C.b
  intro n
  induction n with
  | zero =>
    intro X x2 H locs ls hW hl h
    cases (show none = some r from h)
  | succ n ih =>
    intro X x2 H locs ls hW hl h
    rw [f_X6_takeColumn_2] at h
    refine lv_iload_n hx hb dX6_takeColumn_2 rfl (lv_at hl 2 rfl) ?_
    refine lv_bipush (v := 20) hx hb dX6_takeColumn_3 (by decide) ?_
    refine r_br h (lv_icmp_ge (tgt := 23) hx hb dX6_takeColumn_5 (by decide)) (fun h => ?_) (fun h => ?_)
    · refine lv_aload_n hx hb dX6_takeColumn_23 rfl (lv_at hl 0 rfl) ?_
      refine lv_iload_n hx hb dX6_takeColumn_24 rfl (lv_at hl 1 rfl) ?_
      obtain ⟨v2, h1, h⟩ := bnd_inv h
      refine r_cI hW (run_V (rest := []) C hW (t_X6_hasColumn h1) mk_X6_hasColumn vk_X6_40 (kd_X6_hasColumn h1) rfl rfl (by decide) ⟨Nat.le_of_ble_eq_true rfl, Nat.le_of_ble_eq_true rfl⟩ ⟨Nat.zero_le _, Nat.zero_le _⟩ rfl rfl (Nat.le_of_ble_eq_true rfl) hl.1 dX6_takeColumn_25) (fun H locs hW _ => ?_)
      refine r_br h (lv_if_eq (tgt := 45) hx hb dX6_takeColumn_28 (by decide)) (fun h => ?_) (fun h => ?_)
      · exact r_vret C hW (Option.some.inj h).symm dX6_takeColumn_45
      · refine lv_aload_n hx hb dX6_takeColumn_31 rfl (lv_at hl 0 rfl) ?_
        refine lv_dup hx hb dX6_takeColumn_32 rfl ?_
        refine r_gI C hW h fl_X6_27 (by decide) dX6_takeColumn_33 (fun v3 h => ?_)
        refine lv_iconst (v := 1) hx hb dX6_takeColumn_36 (by decide) ?_
        refine lv_iload_n hx hb dX6_takeColumn_37 rfl (lv_at hl 1 rfl) ?_
        refine lv_ishl hx hb dX6_takeColumn_38 ?_
        refine lv_iconst (v := (-1)) hx hb dX6_takeColumn_39 (by decide) ?_
        refine lv_ixor hx hb dX6_takeColumn_40 ?_
        refine lv_iand hx hb dX6_takeColumn_41 ?_
        refine r_pI C hW h pf_X6_27 (by decide) rfl rfl dX6_takeColumn_42 (fun X4 H locs h hW _ => ?_)
        exact r_vret C hW (Option.some.inj h).symm dX6_takeColumn_45
    · refine lv_aload_n hx hb dX6_takeColumn_8 rfl (lv_at hl 0 rfl) ?_
      refine lv_iload_n hx hb dX6_takeColumn_9 rfl (lv_at hl 2 rfl) ?_
      refine lv_iload_n hx hb dX6_takeColumn_10 rfl (lv_at hl 1 rfl) ?_
      refine lv_sipush (v := 9999) hx hb dX6_takeColumn_11 (by decide) ?_
      obtain ⟨X6, h5, h⟩ := bnd_inv h
      refine r_cV hW (run_V (rest := []) C hW (t_X6_putNumber h5) mk_X6_putNumber vk_X6_44 (kd_X6_putNumber h5) rfl rfl (by decide) ⟨Nat.le_of_ble_eq_true rfl, Nat.le_of_ble_eq_true rfl⟩ ⟨Nat.zero_le _, Nat.zero_le _⟩ rfl rfl (Nat.le_of_ble_eq_true rfl) hl.1 dX6_takeColumn_14) (fun H locs hW _ => ?_)
      refine lv_iinc (v := (x2 + 1)) (lv' := [(2, .int (x2 + 1)), (0, .ref a), (1, .int x1)]) hx hb dX6_takeColumn_17 hl (k := 2) rfl rfl (by decide) rfl (fun ls hl => ?_)
      refine lv_goto (tgt := 2) hx hb dX6_takeColumn_20 (by decide) ?_
      exact ih hW (lv_sub hl [1, 2, 0] rfl) h
theorem kd_X6_takeColumn {X : Mx} {r : Mx} {a : Nat} {x1 : Int32} (h : f_X6_takeColumn σ X a x1 = some r) : shK σ a = 5 := (grd_inv h).1
set_option maxRecDepth 20000 in
set_option maxHeartbeats 2000000 in
theorem t_X6_takeColumn {X : Mx} {r : Mx} {a : Nat} {x1 : Int32} (h : f_X6_takeColumn σ X a x1 = some r) : MtV g l yX6_takeColumn cX6_takeColumn 3 none 1 23 [.ref a, .int x1] σ X r := by
  refine met_of mk_X6_takeColumn (Nat.le_of_ble_eq_true rfl) (fun p e s m args below meth c ls C hW hl => ?_)
  have hx := C.x
  have hb := C.b
  have hl : lv_has ls 3 [(0, .ref a), (1, .int x1)] := hl
  unfold f_X6_takeColumn at h
  obtain ⟨hk0, h⟩ := grd_inv h
  refine lv_iconst (v := 0) hx hb dX6_takeColumn_0 (by decide) ?_
  refine lv_istore_n (lv' := [(2, .int 0), (0, .ref a), (1, .int x1)]) hx hb dX6_takeColumn_1 rfl hl (by decide) rfl (fun ls hl => ?_)
  exact b_X6_takeColumn_2 C FU hW (lv_sub hl [1, 2, 0] rfl) h
set_option maxRecDepth 20000 in
set_option maxHeartbeats 2000000 in
theorem b_X2_partNames_74 {k2 : Mx → Int32 → Option Mx} {a : Nat} {a1 : Nat} {x2 : Int32} (C : Cx g RX2 cX2_partNames 4 none p s m args meth c) {r : Mx} {X : Mx} (hk2 : ∀ {H' : Heap} {locs' : List Loc} {ls' : Array Slot} {X' : Mx} {x2' : Int32}, Wd g σ X' s H' locs' → lv_has ls' 4 [(0, .ref a), (1, .ref a1), (2, .int x2')] → k2 X' x2' = some r → W p l e (rmZ 3 65) s m args below meth c H' locs' 0 0 (QV g σ below args s r) (F0 m 2 ls' [])) (hW : Wd g σ X s H locs) (hl : lv_has ls 4 [(0, .ref a), (1, .ref a1), (2, .int x2)]) (h : f_X2_partNames_74 k2 σ a a1 x2 X = some r) : W p l e (rmZ 3 65) s m args below meth c H locs 0 0 (QV g σ below args s r) (F0 m 74 ls []) := by
  have hx := C.x
  have hb := C.b
  unfold f_X2_partNames_74 at h
  refine lv_iinc (v := (x2 + 1)) (lv' := [(2, .int (x2 + 1)), (0, .ref a), (1, .ref a1)]) hx hb dX2_partNames_74 hl (k := 2) rfl rfl (by decide) rfl (fun ls hl => ?_)
  refine lv_goto (tgt := 2) hx hb dX2_partNames_77 (by decide) ?_
  exact hk2 hW (lv_sub hl [1, 2, 0] rfl) h
set_option maxRecDepth 20000 in
set_option maxHeartbeats 2000000 in
theorem b_X2_partNames_2 {a : Nat} {a1 : Nat} (C : Cx g RX2 cX2_partNames 4 none p s m args meth c) {r : Mx} : ∀ (n : Nat) {X : Mx} {x2 : Int32} {H : Heap} {locs : List Loc} {ls : Array Slot} (hW : Wd g σ X s H locs) (hl : lv_has ls 4 [(0, .ref a), (1, .ref a1), (2, .int x2)]) (h : f_X2_partNames_2 σ a a1 n X x2 = some r), W p l e (rmZ 3 65) s m args below meth c H locs 0 0 (QV g σ below args s r) (F0 m 2 ls []) := by
  have hx := C.x
  have hb := C.b
  intro n
  induction n with
  | zero =>
    intro X x2 H locs ls hW hl h
    cases (show none = some r from h)
  | succ n ih =>
    intro X x2 H locs ls hW hl h
    rw [f_X2_partNames_2] at h
    refine lv_iload_n hx hb dX2_partNames_2 rfl (lv_at hl 2 rfl) ?_
    refine lv_bipush (v := 9) hx hb dX2_partNames_3 (by decide) ?_
    refine r_br h (lv_icmp_ge (tgt := 80) hx hb dX2_partNames_5 (by decide)) (fun h => ?_) (fun h => ?_)
    · exact r_vret C hW (Option.some.inj h).symm dX2_partNames_80
    · refine lv_aload_n hx hb dX2_partNames_8 rfl (lv_at hl 0 rfl) ?_
      refine r_gR C hW h fl_X2_12 (by decide) dX2_partNames_9 (fun b1 h => ?_)
      refine lv_iload_n hx hb dX2_partNames_12 rfl (lv_at hl 2 rfl) ?_
      obtain ⟨v3, h2, h⟩ := bnd_inv h
      refine r_cI hW (run_V (rest := []) C hW (t_X6_hasColumn h2) mk_X6_hasColumn vk_X2_49 (kd_X6_hasColumn h2) rfl rfl (by decide) ⟨Nat.le_of_ble_eq_true rfl, Nat.le_of_ble_eq_true rfl⟩ ⟨Nat.zero_le _, Nat.zero_le _⟩ rfl rfl (Nat.le_of_ble_eq_true rfl) hl.1 dX2_partNames_13) (fun H locs hW _ => ?_)
      refine r_br h (lv_if_eq (tgt := 74) hx hb dX2_partNames_16 (by decide)) (fun h => ?_) (fun h => ?_)
      · exact b_X2_partNames_74 C (fun hW hl h => ih hW hl h) hW (lv_sub hl [0, 1, 2] rfl) h
      · refine lv_aload_n hx hb dX2_partNames_19 rfl (lv_at hl 0 rfl) ?_
        refine lv_iload_n hx hb dX2_partNames_20 rfl (lv_at hl 2 rfl) ?_
        obtain ⟨v5, h4, h⟩ := bnd_inv h
        refine r_cI hW (run_V (rest := []) C hW (t_X2_isNameAhead h4) mk_X2_isNameAhead vk_X2_136 (kd_X2_isNameAhead h4) rfl rfl (by decide) ⟨Nat.le_of_ble_eq_true rfl, Nat.le_of_ble_eq_true rfl⟩ ⟨Nat.zero_le _, Nat.zero_le _⟩ rfl rfl (Nat.le_of_ble_eq_true rfl) hl.1 dX2_partNames_21) (fun H locs hW _ => ?_)
        refine r_br h (lv_if_eq (tgt := 74) hx hb dX2_partNames_24 (by decide)) (fun h => ?_) (fun h => ?_)
        · exact b_X2_partNames_74 C (fun hW hl h => ih hW hl h) hW (lv_sub hl [0, 1, 2] rfl) h
        · refine lv_aload_n hx hb dX2_partNames_27 rfl (lv_at hl 0 rfl) ?_
          refine lv_aload_n hx hb dX2_partNames_28 rfl (lv_at hl 1 rfl) ?_
          refine lv_iconst (v := 3) hx hb dX2_partNames_29 (by decide) ?_
          refine lv_iload_n hx hb dX2_partNames_30 rfl (lv_at hl 2 rfl) ?_
          refine lv_iconst (v := 0) hx hb dX2_partNames_31 (by decide) ?_
          refine r_cI hW (run_S (rest := [.ref a1, .ref a]) C hW (t_X1_idOf (X := X)) mk_X1_idOf sk_X2_113 ⟨Nat.le_of_ble_eq_true rfl, Nat.le_of_ble_eq_true rfl⟩ ⟨Nat.zero_le _, Nat.zero_le _⟩ rfl rfl (Nat.le_of_ble_eq_true rfl) hl.1 dX2_partNames_32) (fun H locs hW _ => ?_)
          refine lv_iconst (v := (-1)) hx hb dX2_partNames_35 (by decide) ?_
          refine lv_iconst (v := (-1)) hx hb dX2_partNames_36 (by decide) ?_
          obtain ⟨v8, X7, h6, h⟩ := bnd2_inv h
          refine r_cI hW (run_V (rest := []) C hW (t_X2_ask h6) mk_X2_ask vk_X2_119 (kd_X2_ask h6) rfl rfl (by decide) ⟨Nat.le_of_ble_eq_true rfl, Nat.le_of_ble_eq_true rfl⟩ ⟨Nat.zero_le _, Nat.zero_le _⟩ rfl rfl (Nat.le_of_ble_eq_true rfl) hl.1 dX2_partNames_37) (fun H locs hW _ => ?_)
          refine lv_istore_n (lv' := [(3, .int v8), (0, .ref a), (1, .ref a1), (2, .int x2)]) hx hb dX2_partNames_40 rfl hl (by decide) rfl (fun ls hl => ?_)
          refine lv_iload_n hx hb dX2_partNames_41 rfl (lv_at hl 0 rfl) ?_
          refine r_brn h (lv_if_ne (tgt := 61) hx hb dX2_partNames_42 (by decide)) (fun h => ?_) (fun h => ?_)
          · refine lv_iload_n hx hb dX2_partNames_61 rfl (lv_at hl 0 rfl) ?_
            refine lv_iconst (v := 1) hx hb dX2_partNames_62 (by decide) ?_
            refine r_brn h (lv_icmp_ne (tgt := 74) hx hb dX2_partNames_63 (by decide)) (fun h => ?_) (fun h => ?_)
            · exact b_X2_partNames_74 C (fun hW hl h => ih hW hl h) hW (lv_sub hl [1, 2, 3] rfl) h
            · refine lv_aload_n hx hb dX2_partNames_66 rfl (lv_at hl 1 rfl) ?_
              refine r_gR C hW h fl_X2_12 (by decide) dX2_partNames_67 (fun b9 h => ?_)
              refine lv_iload_n hx hb dX2_partNames_70 rfl (lv_at hl 3 rfl) ?_
              obtain ⟨X11, h10, h⟩ := bnd_inv h
              refine r_cV hW (run_V (rest := []) C hW (t_X6_takeColumn h10) mk_X6_takeColumn vk_X2_143 (kd_X6_takeColumn h10) rfl rfl (by decide) ⟨Nat.le_of_ble_eq_true rfl, Nat.le_of_ble_eq_true rfl⟩ ⟨Nat.zero_le _, Nat.zero_le _⟩ rfl rfl (Nat.le_of_ble_eq_true rfl) hl.1 dX2_partNames_71) (fun H locs hW _ => ?_)
              exact b_X2_partNames_74 C (fun hW hl h => ih hW hl h) hW (lv_sub hl [1, 2, 3] rfl) h
          · refine lv_aload_n hx hb dX2_partNames_45 rfl (lv_at hl 1 rfl) ?_
            refine r_gR C hW h fl_X2_12 (by decide) dX2_partNames_46 (fun b12 h => ?_)
            refine r_gR C hW h fl_X2_103 (by decide) dX2_partNames_49 (fun b13 h => ?_)
            refine lv_iload_n hx hb dX2_partNames_52 rfl (lv_at hl 3 rfl) ?_
            refine lv_aload_n hx hb dX2_partNames_53 rfl (lv_at hl 1 rfl) ?_
            obtain ⟨v15, h14, h⟩ := bnd_inv h
            refine r_cI hW (run_V (rest := [.int x2, .ref b13]) C hW (t_X2_leastFreeName h14) mk_X2_leastFreeName vk_X2_139 (kd_X2_leastFreeName h14) rfl rfl (by decide) ⟨Nat.le_of_ble_eq_true rfl, Nat.le_of_ble_eq_true rfl⟩ ⟨Nat.zero_le _, Nat.zero_le _⟩ rfl rfl (Nat.le_of_ble_eq_true rfl) hl.1 dX2_partNames_54) (fun H locs hW _ => ?_)
            refine r_iast C hW h dX2_partNames_57 (fun X16 H locs h hW _ => ?_)
            refine lv_goto (tgt := 74) hx hb dX2_partNames_58 (by decide) ?_
            exact b_X2_partNames_74 C (fun hW hl h => ih hW hl h) hW (lv_sub hl [1, 2, 3] rfl) h
theorem kd_X2_partNames {X : Mx} {r : Mx} {a : Nat} {a1 : Nat} (h : f_X2_partNames σ X a a1 = some r) : shK σ a = 1 := (grd_inv h).1
set_option maxRecDepth 20000 in
set_option maxHeartbeats 2000000 in
theorem t_X2_partNames {X : Mx} {r : Mx} {a : Nat} {a1 : Nat} (h : f_X2_partNames σ X a a1 = some r) : MtV g l yX2_partNames cX2_partNames 4 none 3 65 [.ref a, .ref a1] σ X r := by
  refine met_of mk_X2_partNames (Nat.le_of_ble_eq_true rfl) (fun p e s m args below meth c ls C hW hl => ?_)
  have hx := C.x
  have hb := C.b
  have hl : lv_has ls 4 [(0, .ref a), (1, .ref a1)] := hl
  unfold f_X2_partNames at h
  obtain ⟨hk0, h⟩ := grd_inv h
  refine lv_iconst (v := 0) hx hb dX2_partNames_0 (by decide) ?_
  refine lv_istore_n (lv' := [(2, .int 0), (0, .ref a), (1, .ref a1)]) hx hb dX2_partNames_1 rfl hl (by decide) rfl (fun ls hl => ?_)
  exact b_X2_partNames_2 C FU hW (lv_sub hl [1, 2, 0] rfl) h
set_option maxRecDepth 20000 in
set_option maxHeartbeats 2000000 in
theorem b_J7_fill_53178_5 {a0 : Nat} {x1 : Int32} {x3 : Int32} (C : Cx g RJ7 cJ7_fill_53178 4 none p s m args meth c) {r : Mx} : ∀ (n : Nat) {X : Mx} {x2 : Int32} {H : Heap} {locs : List Loc} {ls : Array Slot} (hW : Wd g σ X s H locs) (hl : lv_has ls 4 [(0, .ref a0), (1, .int x1), (2, .int x2), (3, .int x3)]) (h : f_J7_fill_53178_5 σ a0 x1 x3 n X x2 = some r), W p l e (rmZ 0 0) s m args below meth c H locs 0 0 (QV g σ below args s r) (F0 m 5 ls []) := by
  have hx := C.x
  have hb := C.b
  intro n
  induction n with
  | zero =>
    intro X x2 H locs ls hW hl h
    cases (show none = some r from h)
  | succ n ih =>
    intro X x2 H locs ls hW hl h
    rw [f_J7_fill_53178_5] at h
    refine lv_iload_n hx hb dJ7_fill_53178_5 rfl (lv_at hl 2 rfl) ?_
    refine lv_iload_n hx hb dJ7_fill_53178_6 rfl (lv_at hl 3 rfl) ?_
    refine r_br h (lv_icmp_ge (tgt := 20) hx hb dJ7_fill_53178_7 (by decide)) (fun h => ?_) (fun h => ?_)
    · exact r_vret C hW (Option.some.inj h).symm dJ7_fill_53178_20
    · refine lv_aload_n hx hb dJ7_fill_53178_10 rfl (lv_at hl 0 rfl) ?_
      refine lv_iload_n hx hb dJ7_fill_53178_11 rfl (lv_at hl 2 rfl) ?_
      refine lv_iload_n hx hb dJ7_fill_53178_12 rfl (lv_at hl 1 rfl) ?_
      refine r_iast C hW h dJ7_fill_53178_13 (fun X1 H locs h hW _ => ?_)
      refine lv_iinc (v := (x2 + 1)) (lv' := [(2, .int (x2 + 1)), (0, .ref a0), (1, .int x1), (3, .int x3)]) hx hb dJ7_fill_53178_14 hl (k := 2) rfl rfl (by decide) rfl (fun ls hl => ?_)
      refine lv_goto (tgt := 5) hx hb dJ7_fill_53178_17 (by decide) ?_
      exact ih hW (lv_sub hl [1, 2, 0, 3] rfl) h
set_option maxRecDepth 20000 in
set_option maxHeartbeats 2000000 in
theorem t_J7_fill_53178 {X : Mx} {r : Mx} {a0 : Nat} {x1 : Int32} (h : f_J7_fill_53178 σ X a0 x1 = some r) : MtV g l yJ7_fill_53178 cJ7_fill_53178 4 none 0 0 [.ref a0, .int x1] σ X r := by
  refine met_of mk_J7_fill_53178 (Nat.le_of_ble_eq_true rfl) (fun p e s m args below meth c ls C hW hl => ?_)
  have hx := C.x
  have hb := C.b
  have hl : lv_has ls 4 [(0, .ref a0), (1, .int x1)] := hl
  unfold f_J7_fill_53178 at h
  refine lv_iconst (v := 0) hx hb dJ7_fill_53178_0 (by decide) ?_
  refine lv_istore_n (lv' := [(2, .int 0), (0, .ref a0), (1, .int x1)]) hx hb dJ7_fill_53178_1 rfl hl (by decide) rfl (fun ls hl => ?_)
  refine lv_aload_n hx hb dJ7_fill_53178_2 rfl (lv_at hl 1 rfl) ?_
  refine r_alenI C hW h dJ7_fill_53178_3 (fun v1 h => ?_)
  refine lv_istore_n (lv' := [(3, .int v1), (2, .int 0), (0, .ref a0), (1, .int x1)]) hx hb dJ7_fill_53178_4 rfl hl (by decide) rfl (fun ls hl => ?_)
  exact b_J7_fill_53178_5 C FU hW (lv_sub hl [2, 3, 1, 0] rfl) h
theorem kd_X6_clear {X : Mx} {r : Mx} {a : Nat} (h : f_X6_clear σ X a = some r) : shK σ a = 5 := (grd_inv h).1
set_option maxRecDepth 20000 in
set_option maxHeartbeats 2000000 in
theorem t_X6_clear {X : Mx} {r : Mx} {a : Nat} (h : f_X6_clear σ X a = some r) : MtV g l yX6_clear cX6_clear 1 none 1 23 [.ref a] σ X r := by
  refine met_of mk_X6_clear (Nat.le_of_ble_eq_true rfl) (fun p e s m args below meth c ls C hW hl => ?_)
  have hx := C.x
  have hb := C.b
  have hl : lv_has ls 1 [(0, .ref a)] := hl
  unfold f_X6_clear at h
  obtain ⟨hk0, h⟩ := grd_inv h
  refine lv_aload_n hx hb dX6_clear_0 rfl (lv_at hl 0 rfl) ?_
  refine lv_iconst (v := 0) hx hb dX6_clear_1 (by decide) ?_
  refine r_pI C hW h pf_X6_27 (by decide) rfl rfl dX6_clear_2 (fun X1 H locs h hW _ => ?_)
  refine lv_aload_n hx hb dX6_clear_5 rfl (lv_at hl 0 rfl) ?_
  refine lv_iconst (v := 0) hx hb dX6_clear_6 (by decide) ?_
  refine r_pI C hW h pf_X6_31 (by decide) rfl rfl dX6_clear_7 (fun X2 H locs h hW _ => ?_)
  refine lv_aload_n hx hb dX6_clear_10 rfl (lv_at hl 0 rfl) ?_
  refine r_gR C hW h fl_X6_18 (by decide) dX6_clear_11 (fun b3 h => ?_)
  refine lv_sipush (v := 9999) hx hb dX6_clear_14 (by decide) ?_
  obtain ⟨X5, h4, h⟩ := bnd_inv h
  refine r_cV hW (run_S (rest := []) C hW (t_J7_fill_53178 h4) mk_J7_fill_53178 sk_X6_21 ⟨Nat.le_of_ble_eq_true rfl, Nat.le_of_ble_eq_true rfl⟩ ⟨Nat.zero_le _, Nat.zero_le _⟩ rfl rfl (Nat.le_of_ble_eq_true rfl) hl.1 dX6_clear_17) (fun H locs hW _ => ?_)
  exact r_vret C hW (Option.some.inj h).symm dX6_clear_20
set_option maxRecDepth 20000 in
set_option maxHeartbeats 2000000 in
theorem b_X2_run_62 {k40 : Mx → Int32 → Option Mx} {a : Nat} {a1 : Nat} {x2 : Int32} (C : Cx g RX2 cX2_run 3 none p s m args meth c) {r : Mx} {X : Mx} (hk40 : ∀ {H' : Heap} {locs' : List Loc} {ls' : Array Slot} {X' : Mx} {x2' : Int32}, Wd g σ X' s H' locs' → lv_has ls' 3 [(0, .ref a), (1, .ref a1), (2, .int x2')] → k40 X' x2' = some r → W p l e (rmZ 4 99) s m args below meth c H' locs' 0 0 (QV g σ below args s r) (F0 m 40 ls' [])) (hW : Wd g σ X s H locs) (hl : lv_has ls 3 [(0, .ref a), (1, .ref a1), (2, .int x2)]) (h : f_X2_run_62 k40 σ a a1 x2 X = some r) : W p l e (rmZ 4 99) s m args below meth c H locs 0 0 (QV g σ below args s r) (F0 m 62 ls []) := by
  have hx := C.x
  have hb := C.b
  unfold f_X2_run_62 at h
  refine lv_iinc (v := (x2 + 1)) (lv' := [(2, .int (x2 + 1)), (0, .ref a), (1, .ref a1)]) hx hb dX2_run_62 hl (k := 2) rfl rfl (by decide) rfl (fun ls hl => ?_)
  refine lv_goto (tgt := 40) hx hb dX2_run_65 (by decide) ?_
  exact hk40 hW (lv_sub hl [1, 2, 0] rfl) h
set_option maxRecDepth 20000 in
set_option maxHeartbeats 2000000 in
theorem b_X2_run_123 {k100 : Mx → Int32 → Option Mx} {a : Nat} {a1 : Nat} {x2 : Int32} (C : Cx g RX2 cX2_run 3 none p s m args meth c) {r : Mx} {X : Mx} (hk100 : ∀ {H' : Heap} {locs' : List Loc} {ls' : Array Slot} {X' : Mx} {x2' : Int32}, Wd g σ X' s H' locs' → lv_has ls' 3 [(0, .ref a), (1, .ref a1), (2, .int x2')] → k100 X' x2' = some r → W p l e (rmZ 4 99) s m args below meth c H' locs' 0 0 (QV g σ below args s r) (F0 m 100 ls' [])) (hW : Wd g σ X s H locs) (hl : lv_has ls 3 [(0, .ref a), (1, .ref a1), (2, .int x2)]) (h : f_X2_run_123 k100 σ a a1 x2 X = some r) : W p l e (rmZ 4 99) s m args below meth c H locs 0 0 (QV g σ below args s r) (F0 m 123 ls []) := by
  have hx := C.x
  have hb := C.b
  unfold f_X2_run_123 at h
  refine lv_iinc (v := (x2 + 1)) (lv' := [(2, .int (x2 + 1)), (0, .ref a), (1, .ref a1)]) hx hb dX2_run_123 hl (k := 2) rfl rfl (by decide) rfl (fun ls hl => ?_)
  refine lv_goto (tgt := 100) hx hb dX2_run_126 (by decide) ?_
  exact hk100 hW (lv_sub hl [1, 2, 0] rfl) h
set_option maxRecDepth 20000 in
set_option maxHeartbeats 2000000 in
theorem b_X2_run_131 {a : Nat} {a1 : Nat} (C : Cx g RX2 cX2_run 3 none p s m args meth c) {r : Mx} : ∀ (n : Nat) {X : Mx} {x2 : Int32} {H : Heap} {locs : List Loc} {ls : Array Slot} (hW : Wd g σ X s H locs) (hl : lv_has ls 3 [(0, .ref a), (1, .ref a1), (2, .int x2)]) (h : f_X2_run_131 σ a a1 n X x2 = some r), W p l e (rmZ 4 99) s m args below meth c H locs 0 0 (QV g σ below args s r) (F0 m 131 ls []) := by
  have hx := C.x
  have hb := C.b
  intro n
  induction n with
  | zero =>
    intro X x2 H locs ls hW hl h
    cases (show none = some r from h)
  | succ n ih =>
    intro X x2 H locs ls hW hl h
    rw [f_X2_run_131] at h
    refine lv_iload_n hx hb dX2_run_131 rfl (lv_at hl 2 rfl) ?_
    refine lv_aload_n hx hb dX2_run_132 rfl (lv_at hl 1 rfl) ?_
    refine r_gI C hW h fl_X2_73 (by decide) dX2_run_133 (fun v1 h => ?_)
    refine r_br h (lv_icmp_ge (tgt := 156) hx hb dX2_run_136 (by decide)) (fun h => ?_) (fun h => ?_)
    · exact r_vret C hW (Option.some.inj h).symm dX2_run_156
    · refine lv_iload_n hx hb dX2_run_139 rfl (lv_at hl 2 rfl) ?_
      refine lv_iconst (v := 4) hx hb dX2_run_140 (by decide) ?_
      refine r_br h (lv_icmp_ge (tgt := 156) hx hb dX2_run_141 (by decide)) (fun h => ?_) (fun h => ?_)
      · exact r_vret C hW (Option.some.inj h).symm dX2_run_156
      · refine lv_aload_n hx hb dX2_run_144 rfl (lv_at hl 0 rfl) ?_
        refine lv_aload_n hx hb dX2_run_145 rfl (lv_at hl 1 rfl) ?_
        refine lv_iload_n hx hb dX2_run_146 rfl (lv_at hl 2 rfl) ?_
        obtain ⟨X3, h2, h⟩ := bnd_inv h
        refine r_cV hW (run_V (rest := []) C hW (t_X2_checkDemand h2) mk_X2_checkDemand vk_X2_76 (kd_X2_checkDemand h2) rfl rfl (by decide) ⟨Nat.le_of_ble_eq_true rfl, Nat.le_of_ble_eq_true rfl⟩ ⟨Nat.zero_le _, Nat.zero_le _⟩ rfl rfl (Nat.le_of_ble_eq_true rfl) hl.1 dX2_run_147) (fun H locs hW _ => ?_)
        refine lv_iinc (v := (x2 + 1)) (lv' := [(2, .int (x2 + 1)), (0, .ref a), (1, .ref a1)]) hx hb dX2_run_150 hl (k := 2) rfl rfl (by decide) rfl (fun ls hl => ?_)
        refine lv_goto (tgt := 131) hx hb dX2_run_153 (by decide) ?_
        exact ih hW (lv_sub hl [1, 2, 0] rfl) h
set_option maxRecDepth 20000 in
set_option maxHeartbeats 2000000 in
theorem b_X2_run_100 {a : Nat} {a1 : Nat} (C : Cx g RX2 cX2_run 3 none p s m args meth c) {r : Mx} : ∀ (n : Nat) {X : Mx} {x2 : Int32} {H : Heap} {locs : List Loc} {ls : Array Slot} (hW : Wd g σ X s H locs) (hl : lv_has ls 3 [(0, .ref a), (1, .ref a1), (2, .int x2)]) (h : f_X2_run_100 σ a a1 n X x2 = some r), W p l e (rmZ 4 99) s m args below meth c H locs 0 0 (QV g σ below args s r) (F0 m 100 ls []) := by
  have hx := C.x
  have hb := C.b
  intro n
  induction n with
  | zero =>
    intro X x2 H locs ls hW hl h
    cases (show none = some r from h)
  | succ n ih =>
    intro X x2 H locs ls hW hl h
    rw [f_X2_run_100] at h
    refine lv_iload_n hx hb dX2_run_100 rfl (lv_at hl 2 rfl) ?_
    refine lv_bipush (v := 20) hx hb dX2_run_101 (by decide) ?_
    refine r_br h (lv_icmp_ge (tgt := 129) hx hb dX2_run_103 (by decide)) (fun h => ?_) (fun h => ?_)
    · refine lv_iconst (v := 0) hx hb dX2_run_129 (by decide) ?_
      refine lv_istore_n (lv' := [(2, .int 0), (0, .ref a), (1, .ref a1)]) hx hb dX2_run_130 rfl hl (by decide) rfl (fun ls hl => ?_)
      exact b_X2_run_131 C FU hW (lv_sub hl [1, 2, 0] rfl) h
    · refine lv_aload_n hx hb dX2_run_106 rfl (lv_at hl 0 rfl) ?_
      refine r_gR C hW h fl_X2_12 (by decide) dX2_run_107 (fun b1 h => ?_)
      refine lv_iload_n hx hb dX2_run_110 rfl (lv_at hl 2 rfl) ?_
      obtain ⟨v3, h2, h⟩ := bnd_inv h
      refine r_cI hW (run_V (rest := []) C hW (t_X6_hasRow h2) mk_X6_hasRow vk_X2_67 (kd_X6_hasRow h2) rfl rfl (by decide) ⟨Nat.le_of_ble_eq_true rfl, Nat.le_of_ble_eq_true rfl⟩ ⟨Nat.zero_le _, Nat.zero_le _⟩ rfl rfl (Nat.le_of_ble_eq_true rfl) hl.1 dX2_run_111) (fun H locs hW _ => ?_)
      refine r_br h (lv_if_eq (tgt := 123) hx hb dX2_run_114 (by decide)) (fun h => ?_) (fun h => ?_)
      · exact b_X2_run_123 C (fun hW hl h => ih hW hl h) hW (lv_sub hl [0, 1, 2] rfl) h
      · refine lv_aload_n hx hb dX2_run_117 rfl (lv_at hl 0 rfl) ?_
        refine lv_aload_n hx hb dX2_run_118 rfl (lv_at hl 1 rfl) ?_
        refine lv_iload_n hx hb dX2_run_119 rfl (lv_at hl 2 rfl) ?_
        obtain ⟨X5, h4, h⟩ := bnd_inv h
        refine r_cV hW (run_V (rest := []) C hW (t_X2_mergeCells h4) mk_X2_mergeCells vk_X2_70 (kd_X2_mergeCells h4) rfl rfl (by decide) ⟨Nat.le_of_ble_eq_true rfl, Nat.le_of_ble_eq_true rfl⟩ ⟨Nat.zero_le _, Nat.zero_le _⟩ rfl rfl (Nat.le_of_ble_eq_true rfl) hl.1 dX2_run_120) (fun H locs hW _ => ?_)
        exact b_X2_run_123 C (fun hW hl h => ih hW hl h) hW (lv_sub hl [0, 1, 2] rfl) h
set_option maxRecDepth 20000 in
set_option maxHeartbeats 2000000 in
theorem b_X2_run_80 {a : Nat} {a1 : Nat} (C : Cx g RX2 cX2_run 3 none p s m args meth c) {r : Mx} : ∀ (n : Nat) {X : Mx} {x2 : Int32} {H : Heap} {locs : List Loc} {ls : Array Slot} (hW : Wd g σ X s H locs) (hl : lv_has ls 3 [(0, .ref a), (1, .ref a1), (2, .int x2)]) (h : f_X2_run_80 σ a a1 n X x2 = some r), W p l e (rmZ 4 99) s m args below meth c H locs 0 0 (QV g σ below args s r) (F0 m 80 ls []) := by
  have hx := C.x
  have hb := C.b
  intro n
  induction n with
  | zero =>
    intro X x2 H locs ls hW hl h
    cases (show none = some r from h)
  | succ n ih =>
    intro X x2 H locs ls hW hl h
    rw [f_X2_run_80] at h
    refine lv_iload_n hx hb dX2_run_80 rfl (lv_at hl 2 rfl) ?_
    refine lv_bipush (v := 20) hx hb dX2_run_81 (by decide) ?_
    refine r_br h (lv_icmp_ge (tgt := 98) hx hb dX2_run_83 (by decide)) (fun h => ?_) (fun h => ?_)
    · refine lv_iconst (v := 0) hx hb dX2_run_98 (by decide) ?_
      refine lv_istore_n (lv' := [(2, .int 0), (0, .ref a), (1, .ref a1)]) hx hb dX2_run_99 rfl hl (by decide) rfl (fun ls hl => ?_)
      exact b_X2_run_100 C FU hW (lv_sub hl [1, 2, 0] rfl) h
    · refine lv_aload_n hx hb dX2_run_86 rfl (lv_at hl 0 rfl) ?_
      refine lv_aload_n hx hb dX2_run_87 rfl (lv_at hl 1 rfl) ?_
      refine lv_iload_n hx hb dX2_run_88 rfl (lv_at hl 2 rfl) ?_
      obtain ⟨X2, h1, h⟩ := bnd_inv h
      refine r_cV hW (run_V (rest := []) C hW (t_X2_mergeRow h1) mk_X2_mergeRow vk_X2_64 (kd_X2_mergeRow h1) rfl rfl (by decide) ⟨Nat.le_of_ble_eq_true rfl, Nat.le_of_ble_eq_true rfl⟩ ⟨Nat.zero_le _, Nat.zero_le _⟩ rfl rfl (Nat.le_of_ble_eq_true rfl) hl.1 dX2_run_89) (fun H locs hW _ => ?_)
      refine lv_iinc (v := (x2 + 1)) (lv' := [(2, .int (x2 + 1)), (0, .ref a), (1, .ref a1)]) hx hb dX2_run_92 hl (k := 2) rfl rfl (by decide) rfl (fun ls hl => ?_)
      refine lv_goto (tgt := 80) hx hb dX2_run_95 (by decide) ?_
      exact ih hW (lv_sub hl [1, 2, 0] rfl) h
set_option maxRecDepth 20000 in
set_option maxHeartbeats 2000000 in
theorem b_X2_run_40 {a : Nat} {a1 : Nat} (C : Cx g RX2 cX2_run 3 none p s m args meth c) {r : Mx} : ∀ (n : Nat) {X : Mx} {x2 : Int32} {H : Heap} {locs : List Loc} {ls : Array Slot} (hW : Wd g σ X s H locs) (hl : lv_has ls 3 [(0, .ref a), (1, .ref a1), (2, .int x2)]) (h : f_X2_run_40 σ a a1 n X x2 = some r), W p l e (rmZ 4 99) s m args below meth c H locs 0 0 (QV g σ below args s r) (F0 m 40 ls []) := by
  have hx := C.x
  have hb := C.b
  intro n
  induction n with
  | zero =>
    intro X x2 H locs ls hW hl h
    cases (show none = some r from h)
  | succ n ih =>
    intro X x2 H locs ls hW hl h
    rw [f_X2_run_40] at h
    refine lv_iload_n hx hb dX2_run_40 rfl (lv_at hl 2 rfl) ?_
    refine lv_iconst (v := 5) hx hb dX2_run_41 (by decide) ?_
    refine r_br h (lv_icmp_ge (tgt := 68) hx hb dX2_run_42 (by decide)) (fun h => ?_) (fun h => ?_)
    · refine lv_aload_n hx hb dX2_run_68 rfl (lv_at hl 0 rfl) ?_
      refine lv_aload_n hx hb dX2_run_69 rfl (lv_at hl 1 rfl) ?_
      obtain ⟨X2, h1, h⟩ := bnd_inv h
      refine r_cV hW (run_V (rest := []) C hW (t_X2_mergeAddedColumns h1) mk_X2_mergeAddedColumns vk_X2_57 (kd_X2_mergeAddedColumns h1) rfl rfl (by decide) ⟨Nat.le_of_ble_eq_true rfl, Nat.le_of_ble_eq_true rfl⟩ ⟨Nat.zero_le _, Nat.zero_le _⟩ rfl rfl (Nat.le_of_ble_eq_true rfl) hl.1 dX2_run_70) (fun H locs hW _ => ?_)
      refine lv_aload_n hx hb dX2_run_73 rfl (lv_at hl 0 rfl) ?_
      refine lv_aload_n hx hb dX2_run_74 rfl (lv_at hl 1 rfl) ?_
      obtain ⟨X4, h3, h⟩ := bnd_inv h
      refine r_cV hW (run_V (rest := []) C hW (t_X2_partNames h3) mk_X2_partNames vk_X2_61 (kd_X2_partNames h3) rfl rfl (by decide) ⟨Nat.le_of_ble_eq_true rfl, Nat.le_of_ble_eq_true rfl⟩ ⟨Nat.zero_le _, Nat.zero_le _⟩ rfl rfl (Nat.le_of_ble_eq_true rfl) hl.1 dX2_run_75) (fun H locs hW _ => ?_)
      refine lv_iconst (v := 0) hx hb dX2_run_78 (by decide) ?_
      refine lv_istore_n (lv' := [(2, .int 0), (0, .ref a), (1, .ref a1)]) hx hb dX2_run_79 rfl hl (by decide) rfl (fun ls hl => ?_)
      exact b_X2_run_80 C FU hW (lv_sub hl [1, 2, 0] rfl) h
    · refine lv_aload_n hx hb dX2_run_45 rfl (lv_at hl 1 rfl) ?_
      refine r_gR C hW h fl_X2_44 (by decide) dX2_run_46 (fun b5 h => ?_)
      refine lv_iload_n hx hb dX2_run_49 rfl (lv_at hl 2 rfl) ?_
      obtain ⟨v7, h6, h⟩ := bnd_inv h
      refine r_cI hW (run_V (rest := []) C hW (t_X6_hasColumn h6) mk_X6_hasColumn vk_X2_49 (kd_X6_hasColumn h6) rfl rfl (by decide) ⟨Nat.le_of_ble_eq_true rfl, Nat.le_of_ble_eq_true rfl⟩ ⟨Nat.zero_le _, Nat.zero_le _⟩ rfl rfl (Nat.le_of_ble_eq_true rfl) hl.1 dX2_run_50) (fun H locs hW _ => ?_)
      refine r_br h (lv_if_eq (tgt := 62) hx hb dX2_run_53 (by decide)) (fun h => ?_) (fun h => ?_)
      · exact b_X2_run_62 C (fun hW hl h => ih hW hl h) hW (lv_sub hl [0, 1, 2] rfl) h
      · refine lv_aload_n hx hb dX2_run_56 rfl (lv_at hl 0 rfl) ?_
        refine lv_aload_n hx hb dX2_run_57 rfl (lv_at hl 1 rfl) ?_
        refine lv_iload_n hx hb dX2_run_58 rfl (lv_at hl 2 rfl) ?_
        obtain ⟨X9, h8, h⟩ := bnd_inv h
        refine r_cV hW (run_V (rest := []) C hW (t_X2_mergeColumn h8) mk_X2_mergeColumn vk_X2_53 (kd_X2_mergeColumn h8) rfl rfl (by decide) ⟨Nat.le_of_ble_eq_true rfl, Nat.le_of_ble_eq_true rfl⟩ ⟨Nat.zero_le _, Nat.zero_le _⟩ rfl rfl (Nat.le_of_ble_eq_true rfl) hl.1 dX2_run_59) (fun H locs hW _ => ?_)
        exact b_X2_run_62 C (fun hW hl h => ih hW hl h) hW (lv_sub hl [0, 1, 2] rfl) h
set_option maxRecDepth 20000 in
set_option maxHeartbeats 2000000 in
theorem b_X2_run_19 {a : Nat} {a1 : Nat} (C : Cx g RX2 cX2_run 3 none p s m args meth c) {r : Mx} : ∀ (n : Nat) {X : Mx} {x2 : Int32} {H : Heap} {locs : List Loc} {ls : Array Slot} (hW : Wd g σ X s H locs) (hl : lv_has ls 3 [(0, .ref a), (1, .ref a1), (2, .int x2)]) (h : f_X2_run_19 σ a a1 n X x2 = some r), W p l e (rmZ 4 99) s m args below meth c H locs 0 0 (QV g σ below args s r) (F0 m 19 ls []) := by
  have hx := C.x
  have hb := C.b
  intro n
  induction n with
  | zero =>
    intro X x2 H locs ls hW hl h
    cases (show none = some r from h)
  | succ n ih =>
    intro X x2 H locs ls hW hl h
    rw [f_X2_run_19] at h
    refine lv_iload_n hx hb dX2_run_19 rfl (lv_at hl 2 rfl) ?_
    refine lv_bipush (v := 9) hx hb dX2_run_20 (by decide) ?_
    refine r_br h (lv_icmp_ge (tgt := 38) hx hb dX2_run_22 (by decide)) (fun h => ?_) (fun h => ?_)
    · refine lv_iconst (v := 0) hx hb dX2_run_38 (by decide) ?_
      refine lv_istore_n (lv' := [(2, .int 0), (0, .ref a), (1, .ref a1)]) hx hb dX2_run_39 rfl hl (by decide) rfl (fun ls hl => ?_)
      exact b_X2_run_40 C FU hW (lv_sub hl [1, 2, 0] rfl) h
    · refine lv_aload_n hx hb dX2_run_25 rfl (lv_at hl 0 rfl) ?_
      refine r_gR C hW h fl_X2_31 (by decide) dX2_run_26 (fun b1 h => ?_)
      refine lv_iload_n hx hb dX2_run_29 rfl (lv_at hl 2 rfl) ?_
      refine lv_iload_n hx hb dX2_run_30 rfl (lv_at hl 2 rfl) ?_
      refine r_iast C hW h dX2_run_31 (fun X2 H locs h hW _ => ?_)
      refine lv_iinc (v := (x2 + 1)) (lv' := [(2, .int (x2 + 1)), (0, .ref a), (1, .ref a1)]) hx hb dX2_run_32 hl (k := 2) rfl rfl (by decide) rfl (fun ls hl => ?_)
      refine lv_goto (tgt := 19) hx hb dX2_run_35 (by decide) ?_
      exact ih hW (lv_sub hl [1, 2, 0] rfl) h
theorem kd_X2_run {X : Mx} {r : Mx} {a : Nat} {a1 : Nat} (h : f_X2_run σ X a a1 = some r) : shK σ a = 1 := (grd_inv h).1
set_option maxRecDepth 20000 in
set_option maxHeartbeats 2000000 in
theorem t_X2_run {X : Mx} {r : Mx} {a : Nat} {a1 : Nat} (h : f_X2_run σ X a a1 = some r) : MtV g l yX2_run cX2_run 3 none 4 99 [.ref a, .ref a1] σ X r := by
  refine met_of mk_X2_run (Nat.le_of_ble_eq_true rfl) (fun p e s m args below meth c ls C hW hl => ?_)
  have hx := C.x
  have hb := C.b
  have hl : lv_has ls 3 [(0, .ref a), (1, .ref a1)] := hl
  unfold f_X2_run at h
  obtain ⟨hk0, h⟩ := grd_inv h
  refine lv_aload_n hx hb dX2_run_0 rfl (lv_at hl 0 rfl) ?_
  refine r_gR C hW h fl_X2_12 (by decide) dX2_run_1 (fun b1 h => ?_)
  obtain ⟨X3, h2, h⟩ := bnd_inv h
  refine r_cV hW (run_V (rest := []) C hW (t_X6_clear h2) mk_X6_clear vk_X2_34 (kd_X6_clear h2) rfl rfl (by decide) ⟨Nat.le_of_ble_eq_true rfl, Nat.le_of_ble_eq_true rfl⟩ ⟨Nat.zero_le _, Nat.zero_le _⟩ rfl rfl (Nat.le_of_ble_eq_true rfl) hl.1 dX2_run_4) (fun H locs hW _ => ?_)
  refine lv_aload_n hx hb dX2_run_7 rfl (lv_at hl 0 rfl) ?_
  refine lv_iconst (v := 0) hx hb dX2_run_8 (by decide) ?_
  refine r_pI C hW h pf_X2_37 (by decide) rfl rfl dX2_run_9 (fun X4 H locs h hW _ => ?_)
  refine lv_aload_n hx hb dX2_run_12 rfl (lv_at hl 0 rfl) ?_
  refine lv_iconst (v := 0) hx hb dX2_run_13 (by decide) ?_
  refine r_pI C hW h pf_X2_41 (by decide) rfl rfl dX2_run_14 (fun X5 H locs h hW _ => ?_)
  refine lv_iconst (v := 0) hx hb dX2_run_17 (by decide) ?_
  refine lv_istore_n (lv' := [(2, .int 0), (0, .ref a), (1, .ref a1)]) hx hb dX2_run_18 rfl hl (by decide) rfl (fun ls hl => ?_)
  exact b_X2_run_19 C FU hW (lv_sub hl [1, 2, 0] rfl) h
set_option maxRecDepth 20000 in
set_option maxHeartbeats 2000000 in
theorem b_X2_isOpen_2 {a : Nat} {x1 : Int32} (C : Cx g RX2 cX2_isOpen 3 (some .boolean) p s m args meth c) {r : Int32} {X : Mx} : ∀ (n : Nat) {x2 : Int32} {H : Heap} {locs : List Loc} {ls : Array Slot} (hW : Wd g σ X s H locs) (hl : lv_has ls 3 [(0, .ref a), (1, .int x1), (2, .int x2)]) (h : f_X2_isOpen_2 σ X a x1 n x2 = some r), W p l e (rmZ 0 0) s m args below meth c H locs 0 0 (QI g σ below args s (r, X)) (F0 m 2 ls []) := by
  have hx := C.x
  have hb := C.b
  intro n
  induction n with
  | zero =>
    intro x2 H locs ls hW hl h
    cases (show none = some r from h)
  | succ n ih =>
    intro x2 H locs ls hW hl h
    rw [f_X2_isOpen_2] at h
    refine lv_iload_n hx hb dX2_isOpen_2 rfl (lv_at hl 2 rfl) ?_
    refine lv_aload_n hx hb dX2_isOpen_3 rfl (lv_at hl 0 rfl) ?_
    refine r_gI C hW h fl_X2_37 (by decide) dX2_isOpen_4 (fun v1 h => ?_)
    refine r_br h (lv_icmp_ge (tgt := 28) hx hb dX2_isOpen_7 (by decide)) (fun h => ?_) (fun h => ?_)
    · refine lv_iconst (v := 0) hx hb dX2_isOpen_28 (by decide) ?_
      exact r_iret C hW (rt_R h) rfl dX2_isOpen_29
    · refine lv_aload_n hx hb dX2_isOpen_10 rfl (lv_at hl 0 rfl) ?_
      refine r_gR C hW h fl_X2_22 (by decide) dX2_isOpen_11 (fun b2 h => ?_)
      refine lv_iload_n hx hb dX2_isOpen_14 rfl (lv_at hl 2 rfl) ?_
      refine r_iald C hW h dX2_isOpen_15 (fun v3 h => ?_)
      refine lv_iload_n hx hb dX2_isOpen_16 rfl (lv_at hl 1 rfl) ?_
      refine r_brn h (lv_icmp_ne (tgt := 22) hx hb dX2_isOpen_17 (by decide)) (fun h => ?_) (fun h => ?_)
      · refine lv_iinc (v := (x2 + 1)) (lv' := [(2, .int (x2 + 1)), (0, .ref a), (1, .int x1)]) hx hb dX2_isOpen_22 hl (k := 2) rfl rfl (by decide) rfl (fun ls hl => ?_)
        refine lv_goto (tgt := 2) hx hb dX2_isOpen_25 (by decide) ?_
        exact ih hW (lv_sub hl [1, 2, 0] rfl) h
      · refine lv_iconst (v := 1) hx hb dX2_isOpen_20 (by decide) ?_
        exact r_iret C hW (rt_R h) rfl dX2_isOpen_21
theorem kd_X2_isOpen {X : Mx} {r : Int32} {a : Nat} {x1 : Int32} (h : f_X2_isOpen σ X a x1 = some r) : shK σ a = 1 := (grd_inv h).1
set_option maxRecDepth 20000 in
set_option maxHeartbeats 2000000 in
theorem t_X2_isOpen {X : Mx} {r : Int32} {a : Nat} {x1 : Int32} (h : f_X2_isOpen σ X a x1 = some r) : MtI g l yX2_isOpen cX2_isOpen 3 (some .boolean) 0 0 [.ref a, .int x1] σ X (r, X) := by
  refine met_of mk_X2_isOpen (Nat.le_of_ble_eq_true rfl) (fun p e s m args below meth c ls C hW hl => ?_)
  have hx := C.x
  have hb := C.b
  have hl : lv_has ls 3 [(0, .ref a), (1, .int x1)] := hl
  unfold f_X2_isOpen at h
  obtain ⟨hk0, h⟩ := grd_inv h
  refine lv_iconst (v := 0) hx hb dX2_isOpen_0 (by decide) ?_
  refine lv_istore_n (lv' := [(2, .int 0), (0, .ref a), (1, .int x1)]) hx hb dX2_isOpen_1 rfl hl (by decide) rfl (fun ls hl => ?_)
  exact b_X2_isOpen_2 C FU hW (lv_sub hl [1, 2, 0] rfl) h
set_option maxRecDepth 20000 in
set_option maxHeartbeats 2000000 in
theorem b_X2_isMerged_44 {k15 : Int32 → Option Int32} {a : Nat} {x2 : Int32} {x3 : Int32} (C : Cx g RX2 cX2_isMerged 4 (some .boolean) p s m args meth c) {r : Int32} {X : Mx} (hk15 : ∀ {H' : Heap} {locs' : List Loc} {ls' : Array Slot} {x3' : Int32}, Wd g σ X s H' locs' → lv_has ls' 4 [(0, .ref a), (2, .int x2), (3, .int x3')] → k15 x3' = some r → W p l e (rmZ 1 21) s m args below meth c H' locs' 0 0 (QI g σ below args s (r, X)) (F0 m 15 ls' [])) (hW : Wd g σ X s H locs) (hl : lv_has ls 4 [(0, .ref a), (2, .int x2), (3, .int x3)]) (h : f_X2_isMerged_44 k15 σ X a x2 x3 = some r) : W p l e (rmZ 1 21) s m args below meth c H locs 0 0 (QI g σ below args s (r, X)) (F0 m 44 ls []) := by
  have hx := C.x
  have hb := C.b
  unfold f_X2_isMerged_44 at h
  refine lv_iinc (v := (x3 + 1)) (lv' := [(3, .int (x3 + 1)), (0, .ref a), (2, .int x2)]) hx hb dX2_isMerged_44 hl (k := 2) rfl rfl (by decide) rfl (fun ls hl => ?_)
  refine lv_goto (tgt := 15) hx hb dX2_isMerged_47 (by decide) ?_
  exact hk15 hW (lv_sub hl [1, 2, 0] rfl) h
set_option maxRecDepth 20000 in
set_option maxHeartbeats 2000000 in
theorem b_X2_isMerged_15 {a : Nat} {x2 : Int32} (C : Cx g RX2 cX2_isMerged 4 (some .boolean) p s m args meth c) {r : Int32} {X : Mx} : ∀ (n : Nat) {x3 : Int32} {H : Heap} {locs : List Loc} {ls : Array Slot} (hW : Wd g σ X s H locs) (hl : lv_has ls 4 [(0, .ref a), (2, .int x2), (3, .int x3)]) (h : f_X2_isMerged_15 σ X a x2 n x3 = some r), W p l e (rmZ 1 21) s m args below meth c H locs 0 0 (QI g σ below args s (r, X)) (F0 m 15 ls []) := by
  have hx := C.x
  have hb := C.b
  intro n
  induction n with
  | zero =>
    intro x3 H locs ls hW hl h
    cases (show none = some r from h)
  | succ n ih =>
    intro x3 H locs ls hW hl h
    rw [f_X2_isMerged_15] at h
    refine lv_iload_n hx hb dX2_isMerged_15 rfl (lv_at hl 2 rfl) ?_
    refine lv_bipush (v := 9) hx hb dX2_isMerged_16 (by decide) ?_
    refine r_br h (lv_icmp_ge (tgt := 50) hx hb dX2_isMerged_18 (by decide)) (fun h => ?_) (fun h => ?_)
    · refine lv_iconst (v := 0) hx hb dX2_isMerged_50 (by decide) ?_
      exact r_iret C hW (rt_R h) rfl dX2_isMerged_51
    · refine lv_aload_n hx hb dX2_isMerged_21 rfl (lv_at hl 0 rfl) ?_
      refine r_gR C hW h fl_X2_31 (by decide) dX2_isMerged_22 (fun b1 h => ?_)
      refine lv_iload_n hx hb dX2_isMerged_25 rfl (lv_at hl 2 rfl) ?_
      refine r_iald C hW h dX2_isMerged_26 (fun v2 h => ?_)
      refine lv_iload_n hx hb dX2_isMerged_27 rfl (lv_at hl 1 rfl) ?_
      refine r_brn h (lv_icmp_ne (tgt := 44) hx hb dX2_isMerged_28 (by decide)) (fun h => ?_) (fun h => ?_)
      · exact b_X2_isMerged_44 C (fun hW hl h => ih hW hl h) hW (lv_sub hl [0, 1, 2] rfl) h
      · refine lv_aload_n hx hb dX2_isMerged_31 rfl (lv_at hl 0 rfl) ?_
        refine r_gR C hW h fl_X2_12 (by decide) dX2_isMerged_32 (fun b3 h => ?_)
        refine lv_iload_n hx hb dX2_isMerged_35 rfl (lv_at hl 2 rfl) ?_
        obtain ⟨v5, h4, h⟩ := bnd_inv h
        refine r_cI hW (run_V (rest := []) C hW (t_X6_hasColumn h4) mk_X6_hasColumn vk_X2_49 (kd_X6_hasColumn h4) rfl rfl (by decide) ⟨Nat.le_of_ble_eq_true rfl, Nat.le_of_ble_eq_true rfl⟩ ⟨Nat.zero_le _, Nat.zero_le _⟩ rfl rfl (Nat.le_of_ble_eq_true rfl) hl.1 dX2_isMerged_36) (fun H locs hW _ => ?_)
        refine r_br h (lv_if_eq (tgt := 44) hx hb dX2_isMerged_39 (by decide)) (fun h => ?_) (fun h => ?_)
        · exact b_X2_isMerged_44 C (fun hW hl h => ih hW hl h) hW (lv_sub hl [0, 1, 2] rfl) h
        · refine lv_iconst (v := 1) hx hb dX2_isMerged_42 (by decide) ?_
          exact r_iret C hW (rt_R h) rfl dX2_isMerged_43
theorem kd_X2_isMerged {X : Mx} {r : Int32} {a : Nat} {x1 : Int32} {x2 : Int32} (h : f_X2_isMerged σ X a x1 x2 = some r) : shK σ a = 1 := (grd_inv h).1
set_option maxRecDepth 20000 in
set_option maxHeartbeats 2000000 in
theorem t_X2_isMerged {X : Mx} {r : Int32} {a : Nat} {x1 : Int32} {x2 : Int32} (h : f_X2_isMerged σ X a x1 x2 = some r) : MtI g l yX2_isMerged cX2_isMerged 4 (some .boolean) 1 21 [.ref a, .int x1, .int x2] σ X (r, X) := by
  refine met_of mk_X2_isMerged (Nat.le_of_ble_eq_true rfl) (fun p e s m args below meth c ls C hW hl => ?_)
  have hx := C.x
  have hb := C.b
  have hl : lv_has ls 4 [(0, .ref a), (1, .int x1), (2, .int x2)] := hl
  unfold f_X2_isMerged at h
  obtain ⟨hk0, h⟩ := grd_inv h
  refine lv_iload_n hx hb dX2_isMerged_0 rfl (lv_at hl 1 rfl) ?_
  refine r_brn h (lv_if_ne (tgt := 13) hx hb dX2_isMerged_1 (by decide)) (fun h => ?_) (fun h => ?_)
  · refine lv_iconst (v := 0) hx hb dX2_isMerged_13 (by decide) ?_
    refine lv_istore_n (lv' := [(3, .int 0), (0, .ref a), (1, .int x1), (2, .int x2)]) hx hb dX2_isMerged_14 rfl hl (by decide) rfl (fun ls hl => ?_)
    exact b_X2_isMerged_15 C FU hW (lv_sub hl [1, 3, 0] rfl) h
  · refine lv_aload_n hx hb dX2_isMerged_4 rfl (lv_at hl 0 rfl) ?_
    refine r_gR C hW h fl_X2_12 (by decide) dX2_isMerged_5 (fun b1 h => ?_)
    refine lv_iload_n hx hb dX2_isMerged_8 rfl (lv_at hl 2 rfl) ?_
    obtain ⟨v3, h2, h⟩ := bnd_inv h
    refine r_cI hW (run_V (rest := []) C hW (t_X6_hasColumn h2) mk_X6_hasColumn vk_X2_49 (kd_X6_hasColumn h2) rfl rfl (by decide) ⟨Nat.le_of_ble_eq_true rfl, Nat.le_of_ble_eq_true rfl⟩ ⟨Nat.zero_le _, Nat.zero_le _⟩ rfl rfl (Nat.le_of_ble_eq_true rfl) hl.1 dX2_isMerged_9) (fun H locs hW _ => ?_)
    obtain ⟨hz, h⟩ := grd_inv h
    exact r_iret C hW (rt_R h) (zb hz) dX2_isMerged_12
theorem kd_X3_clear {X : Mx} {r : Mx} {a : Nat} (h : f_X3_clear σ X a = some r) : shK σ a = 2 := (grd_inv h).1
set_option maxRecDepth 20000 in
set_option maxHeartbeats 2000000 in
theorem t_X3_clear {X : Mx} {r : Mx} {a : Nat} (h : f_X3_clear σ X a = some r) : MtV g l yX3_clear cX3_clear 1 none 1 23 [.ref a] σ X r := by
  refine met_of mk_X3_clear (Nat.le_of_ble_eq_true rfl) (fun p e s m args below meth c ls C hW hl => ?_)
  have hx := C.x
  have hb := C.b
  have hl : lv_has ls 1 [(0, .ref a)] := hl
  unfold f_X3_clear at h
  obtain ⟨hk0, h⟩ := grd_inv h
  refine lv_aload_n hx hb dX3_clear_0 rfl (lv_at hl 0 rfl) ?_
  refine r_gR C hW h fl_X3_25 (by decide) dX3_clear_1 (fun b1 h => ?_)
  refine lv_iconst (v := 0) hx hb dX3_clear_4 (by decide) ?_
  obtain ⟨X3, h2, h⟩ := bnd_inv h
  refine r_cV hW (run_S (rest := []) C hW (t_J7_fill_53178 h2) mk_J7_fill_53178 sk_X3_35 ⟨Nat.le_of_ble_eq_true rfl, Nat.le_of_ble_eq_true rfl⟩ ⟨Nat.zero_le _, Nat.zero_le _⟩ rfl rfl (Nat.le_of_ble_eq_true rfl) hl.1 dX3_clear_5) (fun H locs hW _ => ?_)
  exact r_vret C hW (Option.some.inj h).symm dX3_clear_8
theorem kd_X3_knows {X : Mx} {r : Int32} {a : Nat} {x1 : Int32} (h : f_X3_knows σ X a x1 = some r) : shK σ a = 2 := (grd_inv h).1
set_option maxRecDepth 20000 in
set_option maxHeartbeats 2000000 in
theorem t_X3_knows {X : Mx} {r : Int32} {a : Nat} {x1 : Int32} (h : f_X3_knows σ X a x1 = some r) : MtI g l yX3_knows cX3_knows 2 (some .boolean) 0 0 [.ref a, .int x1] σ X (r, X) := by
  refine met_of mk_X3_knows (Nat.le_of_ble_eq_true rfl) (fun p e s m args below meth c ls C hW hl => ?_)
  have hx := C.x
  have hb := C.b
  have hl : lv_has ls 2 [(0, .ref a), (1, .int x1)] := hl
  unfold f_X3_knows at h
  obtain ⟨hk0, h⟩ := grd_inv h
  refine lv_iload_n hx hb dX3_knows_0 rfl (lv_at hl 1 rfl) ?_
  refine r_br h (lv_if_lt (tgt := 23) hx hb dX3_knows_1 (by decide)) (fun h => ?_) (fun h => ?_)
  · refine lv_iconst (v := 0) hx hb dX3_knows_23 (by decide) ?_
    exact r_iret C hW (rt_R h) rfl dX3_knows_24
  · refine lv_iload_n hx hb dX3_knows_4 rfl (lv_at hl 1 rfl) ?_
    refine lv_bipush (v := 7) hx hb dX3_knows_5 (by decide) ?_
    refine r_br h (lv_icmp_ge (tgt := 23) hx hb dX3_knows_7 (by decide)) (fun h => ?_) (fun h => ?_)
    · refine lv_iconst (v := 0) hx hb dX3_knows_23 (by decide) ?_
      exact r_iret C hW (rt_R h) rfl dX3_knows_24
    · refine lv_aload_n hx hb dX3_knows_10 rfl (lv_at hl 0 rfl) ?_
      refine r_gR C hW h fl_X3_25 (by decide) dX3_knows_11 (fun b1 h => ?_)
      refine lv_iload_n hx hb dX3_knows_14 rfl (lv_at hl 1 rfl) ?_
      refine r_iald C hW h dX3_knows_15 (fun v2 h => ?_)
      refine r_br h (lv_if_eq (tgt := 23) hx hb dX3_knows_16 (by decide)) (fun h => ?_) (fun h => ?_)
      · refine lv_iconst (v := 0) hx hb dX3_knows_23 (by decide) ?_
        exact r_iret C hW (rt_R h) rfl dX3_knows_24
      · refine lv_iconst (v := 1) hx hb dX3_knows_19 (by decide) ?_
        refine lv_goto (tgt := 24) hx hb dX3_knows_20 (by decide) ?_
        exact r_iret C hW (rt_R h) rfl dX3_knows_24
theorem kd_X3_answerTo {X : Mx} {r : Int32} {a : Nat} {x1 : Int32} {x2 : Int32} (h : f_X3_answerTo σ X a x1 x2 = some r) : shK σ a = 2 := (grd_inv h).1
set_option maxRecDepth 20000 in
set_option maxHeartbeats 2000000 in
theorem t_X3_answerTo {X : Mx} {r : Int32} {a : Nat} {x1 : Int32} {x2 : Int32} (h : f_X3_answerTo σ X a x1 x2 = some r) : MtI g l yX3_answerTo cX3_answerTo 4 (some .int) 0 0 [.ref a, .int x1, .int x2] σ X (r, X) := by
  refine met_of mk_X3_answerTo (Nat.le_of_ble_eq_true rfl) (fun p e s m args below meth c ls C hW hl => ?_)
  have hx := C.x
  have hb := C.b
  have hl : lv_has ls 4 [(0, .ref a), (1, .int x1), (2, .int x2)] := hl
  unfold f_X3_answerTo at h
  obtain ⟨hk0, h⟩ := grd_inv h
  refine lv_iload_n hx hb dX3_answerTo_0 rfl (lv_at hl 1 rfl) ?_
  refine lv_iconst (v := 3) hx hb dX3_answerTo_1 (by decide) ?_
  refine lv_imul hx hb dX3_answerTo_2 ?_
  refine lv_iload_n hx hb dX3_answerTo_3 rfl (lv_at hl 2 rfl) ?_
  refine lv_iadd hx hb dX3_answerTo_4 ?_
  refine lv_istore_n (lv' := [(3, .int ((x1 * 3) + x2)), (0, .ref a), (1, .int x1), (2, .int x2)]) hx hb dX3_answerTo_5 rfl hl (by decide) rfl (fun ls hl => ?_)
  refine lv_iload_n hx hb dX3_answerTo_6 rfl (lv_at hl 0 rfl) ?_
  refine r_br h (lv_if_lt (tgt := 28) hx hb dX3_answerTo_7 (by decide)) (fun h => ?_) (fun h => ?_)
  · refine lv_iconst (v := (-1)) hx hb dX3_answerTo_28 (by decide) ?_
    exact r_iret C hW (rt_R h) rfl dX3_answerTo_29
  · refine lv_iload_n hx hb dX3_answerTo_10 rfl (lv_at hl 0 rfl) ?_
    refine lv_aload_n hx hb dX3_answerTo_11 rfl (lv_at hl 1 rfl) ?_
    refine r_gR C hW h fl_X3_29 (by decide) dX3_answerTo_12 (fun b1 h => ?_)
    refine r_alenI C hW h dX3_answerTo_15 (fun v2 h => ?_)
    refine r_br h (lv_icmp_ge (tgt := 28) hx hb dX3_answerTo_16 (by decide)) (fun h => ?_) (fun h => ?_)
    · refine lv_iconst (v := (-1)) hx hb dX3_answerTo_28 (by decide) ?_
      exact r_iret C hW (rt_R h) rfl dX3_answerTo_29
    · refine lv_aload_n hx hb dX3_answerTo_19 rfl (lv_at hl 1 rfl) ?_
      refine r_gR C hW h fl_X3_29 (by decide) dX3_answerTo_20 (fun b3 h => ?_)
      refine lv_iload_n hx hb dX3_answerTo_23 rfl (lv_at hl 0 rfl) ?_
      refine r_iald C hW h dX3_answerTo_24 (fun v4 h => ?_)
      refine lv_goto (tgt := 29) hx hb dX3_answerTo_25 (by decide) ?_
      exact r_iret C hW (rt_R h) rfl dX3_answerTo_29
theorem kd_X3_keepAnswer {X : Mx} {r : Mx} {a : Nat} {x1 : Int32} {x2 : Int32} {x3 : Int32} {x4 : Int32} (h : f_X3_keepAnswer σ X a x1 x2 x3 x4 = some r) : shK σ a = 2 := (grd_inv h).1
set_option maxRecDepth 20000 in
set_option maxHeartbeats 2000000 in
theorem t_X3_keepAnswer {X : Mx} {r : Mx} {a : Nat} {x1 : Int32} {x2 : Int32} {x3 : Int32} {x4 : Int32} (h : f_X3_keepAnswer σ X a x1 x2 x3 x4 = some r) : MtV g l yX3_keepAnswer cX3_keepAnswer 5 none 0 0 [.ref a, .int x1, .int x2, .int x3, .int x4] σ X r := by
  refine met_of mk_X3_keepAnswer (Nat.le_of_ble_eq_true rfl) (fun p e s m args below meth c ls C hW hl => ?_)
  have hx := C.x
  have hb := C.b
  have hl : lv_has ls 5 [(0, .ref a), (1, .int x1), (2, .int x2), (3, .int x3), (4, .int x4)] := hl
  unfold f_X3_keepAnswer at h
  obtain ⟨hk0, h⟩ := grd_inv h
  refine lv_iload_n hx hb dX3_keepAnswer_0 rfl (lv_at hl 1 rfl) ?_
  refine r_br h (lv_if_lt (tgt := 49) hx hb dX3_keepAnswer_1 (by decide)) (fun h => ?_) (fun h => ?_)
  · exact r_vret C hW (Option.some.inj h).symm dX3_keepAnswer_49
  · refine lv_iload_n hx hb dX3_keepAnswer_4 rfl (lv_at hl 1 rfl) ?_
    refine lv_bipush (v := 7) hx hb dX3_keepAnswer_5 (by decide) ?_
    refine r_br h (lv_icmp_ge (tgt := 49) hx hb dX3_keepAnswer_7 (by decide)) (fun h => ?_) (fun h => ?_)
    · exact r_vret C hW (Option.some.inj h).symm dX3_keepAnswer_49
    · refine lv_aload_n hx hb dX3_keepAnswer_10 rfl (lv_at hl 0 rfl) ?_
      refine r_gR C hW h fl_X3_25 (by decide) dX3_keepAnswer_11 (fun b1 h => ?_)
      refine lv_iload_n hx hb dX3_keepAnswer_14 rfl (lv_at hl 1 rfl) ?_
      refine lv_iconst (v := 1) hx hb dX3_keepAnswer_15 (by decide) ?_
      refine r_iast C hW h dX3_keepAnswer_16 (fun X2 H locs h hW _ => ?_)
      refine lv_aload_n hx hb dX3_keepAnswer_17 rfl (lv_at hl 0 rfl) ?_
      refine r_gR C hW h fl_X3_29 (by decide) dX3_keepAnswer_18 (fun b3 h => ?_)
      refine lv_iload_n hx hb dX3_keepAnswer_21 rfl (lv_at hl 1 rfl) ?_
      refine lv_iconst (v := 3) hx hb dX3_keepAnswer_22 (by decide) ?_
      refine lv_imul hx hb dX3_keepAnswer_23 ?_
      refine lv_iload_n hx hb dX3_keepAnswer_24 rfl (lv_at hl 2 rfl) ?_
      refine r_iast C hW h dX3_keepAnswer_25 (fun X4 H locs h hW _ => ?_)
      refine lv_aload_n hx hb dX3_keepAnswer_26 rfl (lv_at hl 0 rfl) ?_
      refine r_gR C hW h fl_X3_29 (by decide) dX3_keepAnswer_27 (fun b5 h => ?_)
      refine lv_iload_n hx hb dX3_keepAnswer_30 rfl (lv_at hl 1 rfl) ?_
      refine lv_iconst (v := 3) hx hb dX3_keepAnswer_31 (by decide) ?_
      refine lv_imul hx hb dX3_keepAnswer_32 ?_
      refine lv_iconst (v := 1) hx hb dX3_keepAnswer_33 (by decide) ?_
      refine lv_iadd hx hb dX3_keepAnswer_34 ?_
      refine lv_iload_n hx hb dX3_keepAnswer_35 rfl (lv_at hl 3 rfl) ?_
      refine r_iast C hW h dX3_keepAnswer_36 (fun X6 H locs h hW _ => ?_)
      refine lv_aload_n hx hb dX3_keepAnswer_37 rfl (lv_at hl 0 rfl) ?_
      refine r_gR C hW h fl_X3_29 (by decide) dX3_keepAnswer_38 (fun b7 h => ?_)
      refine lv_iload_n hx hb dX3_keepAnswer_41 rfl (lv_at hl 1 rfl) ?_
      refine lv_iconst (v := 3) hx hb dX3_keepAnswer_42 (by decide) ?_
      refine lv_imul hx hb dX3_keepAnswer_43 ?_
      refine lv_iconst (v := 2) hx hb dX3_keepAnswer_44 (by decide) ?_
      refine lv_iadd hx hb dX3_keepAnswer_45 ?_
      refine lv_iload hx hb dX3_keepAnswer_46 (lv_at hl 4 rfl) ?_
      refine r_iast C hW h dX3_keepAnswer_48 (fun X8 H locs h hW _ => ?_)
      exact r_vret C hW (Option.some.inj h).symm dX3_keepAnswer_49
set_option maxRecDepth 20000 in
set_option maxHeartbeats 2000000 in
theorem t_J6_bitCount_0f7a4 {X : Mx} {x0 : Int32} : MtI g l yJ6_bitCount_0f7a4 cJ6_bitCount_0f7a4 1 (some .int) 0 0 [.int x0] σ X (f_J6_bitCount_0f7a4 x0, X) := by
  obtain ⟨r, h⟩ : ∃ r, f_J6_bitCount_0f7a4 x0 = r := ⟨_, rfl⟩
  rw [h]
  refine met_of mk_J6_bitCount_0f7a4 (Nat.le_of_ble_eq_true rfl) (fun p e s m args below meth c ls C hW hl => ?_)
  have hx := C.x
  have hb := C.b
  have hl : lv_has ls 1 [(0, .int x0)] := hl
  unfold f_J6_bitCount_0f7a4 at h
  refine lv_iload_n hx hb dJ6_bitCount_0f7a4_0 rfl (lv_at hl 0 rfl) ?_
  refine lv_iload_n hx hb dJ6_bitCount_0f7a4_1 rfl (lv_at hl 0 rfl) ?_
  refine lv_iconst (v := 1) hx hb dJ6_bitCount_0f7a4_2 (by decide) ?_
  refine lv_iushr (v := (jushr x0 1)) hx hb dJ6_bitCount_0f7a4_3 rfl ?_
  refine lv_ldcw hx hb C.1.2.2.2.1 (C.1.2.2.2.2 _ ck_J6_265) dJ6_bitCount_0f7a4_4 ?_
  refine lv_iand hx hb dJ6_bitCount_0f7a4_7 ?_
  refine lv_isub hx hb dJ6_bitCount_0f7a4_8 ?_
  refine lv_istore_n (lv' := [(0, .int (x0 - ((jushr x0 1) &&& 1431655765)))]) hx hb dJ6_bitCount_0f7a4_9 rfl hl (by decide) rfl (fun ls hl => ?_)
  refine lv_iload_n hx hb dJ6_bitCount_0f7a4_10 rfl (lv_at hl 0 rfl) ?_
  refine lv_ldcw hx hb C.1.2.2.2.1 (C.1.2.2.2.2 _ ck_J6_266) dJ6_bitCount_0f7a4_11 ?_
  refine lv_iand hx hb dJ6_bitCount_0f7a4_14 ?_
  refine lv_iload_n hx hb dJ6_bitCount_0f7a4_15 rfl (lv_at hl 0 rfl) ?_
  refine lv_iconst (v := 2) hx hb dJ6_bitCount_0f7a4_16 (by decide) ?_
  refine lv_iushr (v := (jushr (x0 - ((jushr x0 1) &&& 1431655765)) 2)) hx hb dJ6_bitCount_0f7a4_17 rfl ?_
  refine lv_ldcw hx hb C.1.2.2.2.1 (C.1.2.2.2.2 _ ck_J6_266) dJ6_bitCount_0f7a4_18 ?_
  refine lv_iand hx hb dJ6_bitCount_0f7a4_21 ?_
  refine lv_iadd hx hb dJ6_bitCount_0f7a4_22 ?_
  refine lv_istore_n (lv' := [(0, .int (((x0 - ((jushr x0 1) &&& 1431655765)) &&& 858993459) + ((jushr (x0 - ((jushr x0 1) &&& 1431655765)) 2) &&& 858993459)))]) hx hb dJ6_bitCount_0f7a4_23 rfl hl (by decide) rfl (fun ls hl => ?_)
  refine lv_iload_n hx hb dJ6_bitCount_0f7a4_24 rfl (lv_at hl 0 rfl) ?_
  refine lv_iload_n hx hb dJ6_bitCount_0f7a4_25 rfl (lv_at hl 0 rfl) ?_
  refine lv_iconst (v := 4) hx hb dJ6_bitCount_0f7a4_26 (by decide) ?_
  refine lv_iushr (v := (jushr (((x0 - ((jushr x0 1) &&& 1431655765)) &&& 858993459) + ((jushr (x0 - ((jushr x0 1) &&& 1431655765)) 2) &&& 858993459)) 4)) hx hb dJ6_bitCount_0f7a4_27 rfl ?_
  refine lv_iadd hx hb dJ6_bitCount_0f7a4_28 ?_
  refine lv_ldcw hx hb C.1.2.2.2.1 (C.1.2.2.2.2 _ ck_J6_267) dJ6_bitCount_0f7a4_29 ?_
  refine lv_iand hx hb dJ6_bitCount_0f7a4_32 ?_
  refine lv_istore_n (lv' := [(0, .int (((((x0 - ((jushr x0 1) &&& 1431655765)) &&& 858993459) + ((jushr (x0 - ((jushr x0 1) &&& 1431655765)) 2) &&& 858993459)) + (jushr (((x0 - ((jushr x0 1) &&& 1431655765)) &&& 858993459) + ((jushr (x0 - ((jushr x0 1) &&& 1431655765)) 2) &&& 858993459)) 4)) &&& 252645135))]) hx hb dJ6_bitCount_0f7a4_33 rfl hl (by decide) rfl (fun ls hl => ?_)
  refine lv_iload_n hx hb dJ6_bitCount_0f7a4_34 rfl (lv_at hl 0 rfl) ?_
  refine lv_iload_n hx hb dJ6_bitCount_0f7a4_35 rfl (lv_at hl 0 rfl) ?_
  refine lv_bipush (v := 8) hx hb dJ6_bitCount_0f7a4_36 (by decide) ?_
  refine lv_iushr (v := (jushr (((((x0 - ((jushr x0 1) &&& 1431655765)) &&& 858993459) + ((jushr (x0 - ((jushr x0 1) &&& 1431655765)) 2) &&& 858993459)) + (jushr (((x0 - ((jushr x0 1) &&& 1431655765)) &&& 858993459) + ((jushr (x0 - ((jushr x0 1) &&& 1431655765)) 2) &&& 858993459)) 4)) &&& 252645135) 8)) hx hb dJ6_bitCount_0f7a4_38 rfl ?_
  refine lv_iadd hx hb dJ6_bitCount_0f7a4_39 ?_
  refine lv_istore_n (lv' := [(0, .int ((((((x0 - ((jushr x0 1) &&& 1431655765)) &&& 858993459) + ((jushr (x0 - ((jushr x0 1) &&& 1431655765)) 2) &&& 858993459)) + (jushr (((x0 - ((jushr x0 1) &&& 1431655765)) &&& 858993459) + ((jushr (x0 - ((jushr x0 1) &&& 1431655765)) 2) &&& 858993459)) 4)) &&& 252645135) + (jushr (((((x0 - ((jushr x0 1) &&& 1431655765)) &&& 858993459) + ((jushr (x0 - ((jushr x0 1) &&& 1431655765)) 2) &&& 858993459)) + (jushr (((x0 - ((jushr x0 1) &&& 1431655765)) &&& 858993459) + ((jushr (x0 - ((jushr x0 1) &&& 1431655765)) 2) &&& 858993459)) 4)) &&& 252645135) 8)))]) hx hb dJ6_bitCount_0f7a4_40 rfl hl (by decide) rfl (fun ls hl => ?_)
  refine lv_iload_n hx hb dJ6_bitCount_0f7a4_41 rfl (lv_at hl 0 rfl) ?_
  refine lv_iload_n hx hb dJ6_bitCount_0f7a4_42 rfl (lv_at hl 0 rfl) ?_
  refine lv_bipush (v := 16) hx hb dJ6_bitCount_0f7a4_43 (by decide) ?_
  refine lv_iushr (v := (jushr ((((((x0 - ((jushr x0 1) &&& 1431655765)) &&& 858993459) + ((jushr (x0 - ((jushr x0 1) &&& 1431655765)) 2) &&& 858993459)) + (jushr (((x0 - ((jushr x0 1) &&& 1431655765)) &&& 858993459) + ((jushr (x0 - ((jushr x0 1) &&& 1431655765)) 2) &&& 858993459)) 4)) &&& 252645135) + (jushr (((((x0 - ((jushr x0 1) &&& 1431655765)) &&& 858993459) + ((jushr (x0 - ((jushr x0 1) &&& 1431655765)) 2) &&& 858993459)) + (jushr (((x0 - ((jushr x0 1) &&& 1431655765)) &&& 858993459) + ((jushr (x0 - ((jushr x0 1) &&& 1431655765)) 2) &&& 858993459)) 4)) &&& 252645135) 8)) 16)) hx hb dJ6_bitCount_0f7a4_45 rfl ?_
  refine lv_iadd hx hb dJ6_bitCount_0f7a4_46 ?_
  refine lv_istore_n (lv' := [(0, .int (((((((x0 - ((jushr x0 1) &&& 1431655765)) &&& 858993459) + ((jushr (x0 - ((jushr x0 1) &&& 1431655765)) 2) &&& 858993459)) + (jushr (((x0 - ((jushr x0 1) &&& 1431655765)) &&& 858993459) + ((jushr (x0 - ((jushr x0 1) &&& 1431655765)) 2) &&& 858993459)) 4)) &&& 252645135) + (jushr (((((x0 - ((jushr x0 1) &&& 1431655765)) &&& 858993459) + ((jushr (x0 - ((jushr x0 1) &&& 1431655765)) 2) &&& 858993459)) + (jushr (((x0 - ((jushr x0 1) &&& 1431655765)) &&& 858993459) + ((jushr (x0 - ((jushr x0 1) &&& 1431655765)) 2) &&& 858993459)) 4)) &&& 252645135) 8)) + (jushr ((((((x0 - ((jushr x0 1) &&& 1431655765)) &&& 858993459) + ((jushr (x0 - ((jushr x0 1) &&& 1431655765)) 2) &&& 858993459)) + (jushr (((x0 - ((jushr x0 1) &&& 1431655765)) &&& 858993459) + ((jushr (x0 - ((jushr x0 1) &&& 1431655765)) 2) &&& 858993459)) 4)) &&& 252645135) + (jushr (((((x0 - ((jushr x0 1) &&& 1431655765)) &&& 858993459) + ((jushr (x0 - ((jushr x0 1) &&& 1431655765)) 2) &&& 858993459)) + (jushr (((x0 - ((jushr x0 1) &&& 1431655765)) &&& 858993459) + ((jushr (x0 - ((jushr x0 1) &&& 1431655765)) 2) &&& 858993459)) 4)) &&& 252645135) 8)) 16)))]) hx hb dJ6_bitCount_0f7a4_47 rfl hl (by decide) rfl (fun ls hl => ?_)
  refine lv_iload_n hx hb dJ6_bitCount_0f7a4_48 rfl (lv_at hl 0 rfl) ?_
  refine lv_bipush (v := 63) hx hb dJ6_bitCount_0f7a4_49 (by decide) ?_
  refine lv_iand hx hb dJ6_bitCount_0f7a4_51 ?_
  exact r_iret C hW (rt_T h) rfl dJ6_bitCount_0f7a4_52
set_option maxRecDepth 20000 in
set_option maxHeartbeats 2000000 in
theorem t_J9_min_7cf53 {X : Mx} {x0 : Int32} {x1 : Int32} : MtI g l yJ9_min_7cf53 cJ9_min_7cf53 2 (some .int) 0 0 [.int x0, .int x1] σ X (f_J9_min_7cf53 x0 x1, X) := by
  obtain ⟨r, h⟩ : ∃ r, f_J9_min_7cf53 x0 x1 = r := ⟨_, rfl⟩
  rw [h]
  refine met_of mk_J9_min_7cf53 (Nat.le_of_ble_eq_true rfl) (fun p e s m args below meth c ls C hW hl => ?_)
  have hx := C.x
  have hb := C.b
  have hl : lv_has ls 2 [(0, .int x0), (1, .int x1)] := hl
  unfold f_J9_min_7cf53 at h
  refine lv_iload_n hx hb dJ9_min_7cf53_0 rfl (lv_at hl 0 rfl) ?_
  refine lv_iload_n hx hb dJ9_min_7cf53_1 rfl (lv_at hl 1 rfl) ?_
  refine r_br h (lv_icmp_gt (tgt := 9) hx hb dJ9_min_7cf53_2 (by decide)) (fun h => ?_) (fun h => ?_)
  · refine lv_iload_n hx hb dJ9_min_7cf53_9 rfl (lv_at hl 1 rfl) ?_
    exact r_iret C hW (rt_T h) rfl dJ9_min_7cf53_10
  · refine lv_iload_n hx hb dJ9_min_7cf53_5 rfl (lv_at hl 0 rfl) ?_
    refine lv_goto (tgt := 10) hx hb dJ9_min_7cf53_6 (by decide) ?_
    exact r_iret C hW (rt_T h) rfl dJ9_min_7cf53_10
theorem kd_X6_copyFrom {X : Mx} {r : Mx} {a : Nat} {a1 : Nat} (h : f_X6_copyFrom σ X a a1 = some r) : shK σ a = 5 := (grd_inv h).1
set_option maxRecDepth 20000 in
set_option maxHeartbeats 2000000 in
theorem t_X6_copyFrom {X : Mx} {r : Mx} {a : Nat} {a1 : Nat} (h : f_X6_copyFrom σ X a a1 = some r) : MtV g l yX6_copyFrom cX6_copyFrom 2 none 1 26 [.ref a, .ref a1] σ X r := by
  refine met_of mk_X6_copyFrom (Nat.le_of_ble_eq_true rfl) (fun p e s m args below meth c ls C hW hl => ?_)
  have hx := C.x
  have hb := C.b
  have hl : lv_has ls 2 [(0, .ref a), (1, .ref a1)] := hl
  unfold f_X6_copyFrom at h
  obtain ⟨hk0, h⟩ := grd_inv h
  refine lv_aload_n hx hb dX6_copyFrom_0 rfl (lv_at hl 0 rfl) ?_
  refine lv_aload_n hx hb dX6_copyFrom_1 rfl (lv_at hl 1 rfl) ?_
  refine r_gI C hW h fl_X6_27 (by decide) dX6_copyFrom_2 (fun v1 h => ?_)
  refine r_pI C hW h pf_X6_27 (by decide) rfl rfl dX6_copyFrom_5 (fun X2 H locs h hW _ => ?_)
  refine lv_aload_n hx hb dX6_copyFrom_8 rfl (lv_at hl 0 rfl) ?_
  refine lv_aload_n hx hb dX6_copyFrom_9 rfl (lv_at hl 1 rfl) ?_
  refine r_gI C hW h fl_X6_31 (by decide) dX6_copyFrom_10 (fun v3 h => ?_)
  refine r_pI C hW h pf_X6_31 (by decide) rfl rfl dX6_copyFrom_13 (fun X4 H locs h hW _ => ?_)
  refine lv_aload_n hx hb dX6_copyFrom_16 rfl (lv_at hl 1 rfl) ?_
  refine r_gR C hW h fl_X6_9 (by decide) dX6_copyFrom_17 (fun b5 h => ?_)
  refine lv_iconst (v := 0) hx hb dX6_copyFrom_20 (by decide) ?_
  refine lv_aload_n hx hb dX6_copyFrom_21 rfl (lv_at hl 0 rfl) ?_
  refine r_gR C hW h fl_X6_9 (by decide) dX6_copyFrom_22 (fun b6 h => ?_)
  refine lv_iconst (v := 0) hx hb dX6_copyFrom_25 (by decide) ?_
  refine lv_bipush (v := 9) hx hb dX6_copyFrom_26 (by decide) ?_
  refine r_copy C hW h cpk_X6_34 (by decide) (by decide) hl.1 dX6_copyFrom_28 (fun X7 H locs h hW _ => ?_)
  refine lv_aload_n hx hb dX6_copyFrom_31 rfl (lv_at hl 1 rfl) ?_
  refine r_gR C hW h fl_X6_15 (by decide) dX6_copyFrom_32 (fun b8 h => ?_)
  refine lv_iconst (v := 0) hx hb dX6_copyFrom_35 (by decide) ?_
  refine lv_aload_n hx hb dX6_copyFrom_36 rfl (lv_at hl 0 rfl) ?_
  refine r_gR C hW h fl_X6_15 (by decide) dX6_copyFrom_37 (fun b9 h => ?_)
  refine lv_iconst (v := 0) hx hb dX6_copyFrom_40 (by decide) ?_
  refine lv_bipush (v := 9) hx hb dX6_copyFrom_41 (by decide) ?_
  refine r_copy C hW h cpk_X6_34 (by decide) (by decide) hl.1 dX6_copyFrom_43 (fun X10 H locs h hW _ => ?_)
  refine lv_aload_n hx hb dX6_copyFrom_46 rfl (lv_at hl 1 rfl) ?_
  refine r_gR C hW h fl_X6_18 (by decide) dX6_copyFrom_47 (fun b11 h => ?_)
  refine lv_iconst (v := 0) hx hb dX6_copyFrom_50 (by decide) ?_
  refine lv_aload_n hx hb dX6_copyFrom_51 rfl (lv_at hl 0 rfl) ?_
  refine r_gR C hW h fl_X6_18 (by decide) dX6_copyFrom_52 (fun b12 h => ?_)
  refine lv_iconst (v := 0) hx hb dX6_copyFrom_55 (by decide) ?_
  refine lv_sipush (v := 180) hx hb dX6_copyFrom_56 (by decide) ?_
  refine r_copy C hW h cpk_X6_34 (by decide) (by decide) hl.1 dX6_copyFrom_59 (fun X13 H locs h hW _ => ?_)
  exact r_vret C hW (Option.some.inj h).symm dX6_copyFrom_62
theorem kd_X5_copyFrom {X : Mx} {r : Mx} {a : Nat} {a1 : Nat} (h : f_X5_copyFrom σ X a a1 = some r) : shK σ a = 4 := (grd_inv h).1
set_option maxRecDepth 20000 in
set_option maxHeartbeats 2000000 in
theorem t_X5_copyFrom {X : Mx} {r : Mx} {a : Nat} {a1 : Nat} (h : f_X5_copyFrom σ X a a1 = some r) : MtV g l yX5_copyFrom cX5_copyFrom 2 none 2 47 [.ref a, .ref a1] σ X r := by
  refine met_of mk_X5_copyFrom (Nat.le_of_ble_eq_true rfl) (fun p e s m args below meth c ls C hW hl => ?_)
  have hx := C.x
  have hb := C.b
  have hl : lv_has ls 2 [(0, .ref a), (1, .ref a1)] := hl
  unfold f_X5_copyFrom at h
  obtain ⟨hk0, h⟩ := grd_inv h
  refine lv_aload_n hx hb dX5_copyFrom_0 rfl (lv_at hl 0 rfl) ?_
  refine r_gR C hW h fl_X5_12 (by decide) dX5_copyFrom_1 (fun b1 h => ?_)
  refine lv_aload_n hx hb dX5_copyFrom_4 rfl (lv_at hl 1 rfl) ?_
  refine r_gR C hW h fl_X5_12 (by decide) dX5_copyFrom_5 (fun b2 h => ?_)
  obtain ⟨X4, h3, h⟩ := bnd_inv h
  refine r_cV hW (run_V (rest := []) C hW (t_X6_copyFrom h3) mk_X6_copyFrom vk_X5_53 (kd_X6_copyFrom h3) rfl rfl (by decide) ⟨Nat.le_of_ble_eq_true rfl, Nat.le_of_ble_eq_true rfl⟩ ⟨Nat.zero_le _, Nat.zero_le _⟩ rfl rfl (Nat.le_of_ble_eq_true rfl) hl.1 dX5_copyFrom_8) (fun H locs hW _ => ?_)
  refine lv_aload_n hx hb dX5_copyFrom_11 rfl (lv_at hl 0 rfl) ?_
  refine r_gR C hW h fl_X5_18 (by decide) dX5_copyFrom_12 (fun b5 h => ?_)
  refine lv_aload_n hx hb dX5_copyFrom_15 rfl (lv_at hl 1 rfl) ?_
  refine r_gR C hW h fl_X5_18 (by decide) dX5_copyFrom_16 (fun b6 h => ?_)
  obtain ⟨X8, h7, h⟩ := bnd_inv h
  refine r_cV hW (run_V (rest := []) C hW (t_X6_copyFrom h7) mk_X6_copyFrom vk_X5_53 (kd_X6_copyFrom h7) rfl rfl (by decide) ⟨Nat.le_of_ble_eq_true rfl, Nat.le_of_ble_eq_true rfl⟩ ⟨Nat.zero_le _, Nat.zero_le _⟩ rfl rfl (Nat.le_of_ble_eq_true rfl) hl.1 dX5_copyFrom_19) (fun H locs hW _ => ?_)
  refine lv_aload_n hx hb dX5_copyFrom_22 rfl (lv_at hl 0 rfl) ?_
  refine r_gR C hW h fl_X5_21 (by decide) dX5_copyFrom_23 (fun b9 h => ?_)
  refine lv_aload_n hx hb dX5_copyFrom_26 rfl (lv_at hl 1 rfl) ?_
  refine r_gR C hW h fl_X5_21 (by decide) dX5_copyFrom_27 (fun b10 h => ?_)
  obtain ⟨X12, h11, h⟩ := bnd_inv h
  refine r_cV hW (run_V (rest := []) C hW (t_X6_copyFrom h11) mk_X6_copyFrom vk_X5_53 (kd_X6_copyFrom h11) rfl rfl (by decide) ⟨Nat.le_of_ble_eq_true rfl, Nat.le_of_ble_eq_true rfl⟩ ⟨Nat.zero_le _, Nat.zero_le _⟩ rfl rfl (Nat.le_of_ble_eq_true rfl) hl.1 dX5_copyFrom_30) (fun H locs hW _ => ?_)
  refine lv_aload_n hx hb dX5_copyFrom_33 rfl (lv_at hl 0 rfl) ?_
  refine lv_aload_n hx hb dX5_copyFrom_34 rfl (lv_at hl 1 rfl) ?_
  refine r_gI C hW h fl_X5_57 (by decide) dX5_copyFrom_35 (fun v13 h => ?_)
  refine r_pI C hW h pf_X5_57 (by decide) rfl rfl dX5_copyFrom_38 (fun X14 H locs h hW _ => ?_)
  refine lv_aload_n hx hb dX5_copyFrom_41 rfl (lv_at hl 0 rfl) ?_
  refine lv_aload_n hx hb dX5_copyFrom_42 rfl (lv_at hl 1 rfl) ?_
  refine r_gI C hW h fl_X5_60 (by decide) dX5_copyFrom_43 (fun v15 h => ?_)
  refine r_pI C hW h pf_X5_60 (by decide) rfl rfl dX5_copyFrom_46 (fun X16 H locs h hW _ => ?_)
  refine lv_aload_n hx hb dX5_copyFrom_49 rfl (lv_at hl 0 rfl) ?_
  refine lv_aload_n hx hb dX5_copyFrom_50 rfl (lv_at hl 1 rfl) ?_
  refine r_gI C hW h fl_X5_46 (by decide) dX5_copyFrom_51 (fun v17 h => ?_)
  refine r_pI C hW h pf_X5_46 (by decide) rfl rfl dX5_copyFrom_54 (fun X18 H locs h hW _ => ?_)
  refine lv_aload_n hx hb dX5_copyFrom_57 rfl (lv_at hl 1 rfl) ?_
  refine r_gR C hW h fl_X5_24 (by decide) dX5_copyFrom_58 (fun b19 h => ?_)
  refine lv_iconst (v := 0) hx hb dX5_copyFrom_61 (by decide) ?_
  refine lv_aload_n hx hb dX5_copyFrom_62 rfl (lv_at hl 0 rfl) ?_
  refine r_gR C hW h fl_X5_24 (by decide) dX5_copyFrom_63 (fun b20 h => ?_)
  refine lv_iconst (v := 0) hx hb dX5_copyFrom_66 (by decide) ?_
  refine lv_iconst (v := 4) hx hb dX5_copyFrom_67 (by decide) ?_
  refine r_copy C hW h cpk_X5_63 (by decide) (by decide) hl.1 dX5_copyFrom_68 (fun X21 H locs h hW _ => ?_)
  refine lv_aload_n hx hb dX5_copyFrom_71 rfl (lv_at hl 1 rfl) ?_
  refine r_gR C hW h fl_X5_28 (by decide) dX5_copyFrom_72 (fun b22 h => ?_)
  refine lv_iconst (v := 0) hx hb dX5_copyFrom_75 (by decide) ?_
  refine lv_aload_n hx hb dX5_copyFrom_76 rfl (lv_at hl 0 rfl) ?_
  refine r_gR C hW h fl_X5_28 (by decide) dX5_copyFrom_77 (fun b23 h => ?_)
  refine lv_iconst (v := 0) hx hb dX5_copyFrom_80 (by decide) ?_
  refine lv_iconst (v := 4) hx hb dX5_copyFrom_81 (by decide) ?_
  refine r_copy C hW h cpk_X5_63 (by decide) (by decide) hl.1 dX5_copyFrom_82 (fun X24 H locs h hW _ => ?_)
  refine lv_aload_n hx hb dX5_copyFrom_85 rfl (lv_at hl 1 rfl) ?_
  refine r_gR C hW h fl_X5_31 (by decide) dX5_copyFrom_86 (fun b25 h => ?_)
  refine lv_iconst (v := 0) hx hb dX5_copyFrom_89 (by decide) ?_
  refine lv_aload_n hx hb dX5_copyFrom_90 rfl (lv_at hl 0 rfl) ?_
  refine r_gR C hW h fl_X5_31 (by decide) dX5_copyFrom_91 (fun b26 h => ?_)
  refine lv_iconst (v := 0) hx hb dX5_copyFrom_94 (by decide) ?_
  refine lv_iconst (v := 4) hx hb dX5_copyFrom_95 (by decide) ?_
  refine r_copy C hW h cpk_X5_63 (by decide) (by decide) hl.1 dX5_copyFrom_96 (fun X27 H locs h hW _ => ?_)
  refine lv_aload_n hx hb dX5_copyFrom_99 rfl (lv_at hl 1 rfl) ?_
  refine r_gR C hW h fl_X5_34 (by decide) dX5_copyFrom_100 (fun b28 h => ?_)
  refine lv_iconst (v := 0) hx hb dX5_copyFrom_103 (by decide) ?_
  refine lv_aload_n hx hb dX5_copyFrom_104 rfl (lv_at hl 0 rfl) ?_
  refine r_gR C hW h fl_X5_34 (by decide) dX5_copyFrom_105 (fun b29 h => ?_)
  refine lv_iconst (v := 0) hx hb dX5_copyFrom_108 (by decide) ?_
  refine lv_sipush (v := 316) hx hb dX5_copyFrom_109 (by decide) ?_
  refine r_copy C hW h cpk_X5_63 (by decide) (by decide) hl.1 dX5_copyFrom_112 (fun X30 H locs h hW _ => ?_)
  exact r_vret C hW (Option.some.inj h).symm dX5_copyFrom_115
set_option maxRecDepth 20000 in
set_option maxHeartbeats 2000000 in
theorem b_X3_findAlong_87 {a : Nat} {x2 : Int32} {x3 : Int32} (C : Cx g RX3 cX3_findAlong 5 none p s m args meth c) {r : Mx} {X : Mx} (hW : Wd g σ X s H locs) (hl : lv_has ls 5 [(0, .ref a), (2, .int x2), (3, .int x3)]) (h : f_X3_findAlong_87 σ a x2 x3 X = some r) : W p l e (rmZ 5 121) s m args below meth c H locs 0 0 (QV g σ below args s r) (F0 m 87 ls []) := by
  have hx := C.x
  have hb := C.b
  unfold f_X3_findAlong_87 at h
  refine lv_aload_n hx hb dX3_findAlong_87 rfl (lv_at hl 0 rfl) ?_
  refine lv_iconst (v := 2) hx hb dX3_findAlong_88 (by decide) ?_
  refine lv_iload_n hx hb dX3_findAlong_89 rfl (lv_at hl 1 rfl) ?_
  refine lv_iadd hx hb dX3_findAlong_90 ?_
  refine lv_iload_n hx hb dX3_findAlong_91 rfl (lv_at hl 2 rfl) ?_
  refine lv_aload_n hx hb dX3_findAlong_92 rfl (lv_at hl 0 rfl) ?_
  refine r_gR C hW h fl_X3_21 (by decide) dX3_findAlong_93 (fun b1 h => ?_)
  refine r_gI C hW h fl_X3_48 (by decide) dX3_findAlong_96 (fun v2 h => ?_)
  refine lv_aload_n hx hb dX3_findAlong_99 rfl (lv_at hl 0 rfl) ?_
  refine r_gR C hW h fl_X3_21 (by decide) dX3_findAlong_100 (fun b3 h => ?_)
  refine r_gR C hW h fl_X3_70 (by decide) dX3_findAlong_103 (fun b4 h => ?_)
  refine r_gI C hW h fl_X3_74 (by decide) dX3_findAlong_106 (fun v5 h => ?_)
  refine r_cI hW (run_S (rest := [.int v2, .int x3, .int (2 + x2), .ref a]) C hW (t_J6_bitCount_0f7a4 (X := X)) mk_J6_bitCount_0f7a4 sk_X3_79 ⟨Nat.le_of_ble_eq_true rfl, Nat.le_of_ble_eq_true rfl⟩ ⟨Nat.zero_le _, Nat.zero_le _⟩ rfl rfl (Nat.le_of_ble_eq_true rfl) hl.1 dX3_findAlong_109) (fun H locs hW _ => ?_)
  obtain ⟨X7, h6, h⟩ := bnd_inv h
  refine r_cV hW (run_V (rest := []) C hW (t_X3_keepAnswer h6) mk_X3_keepAnswer vk_X3_84 (kd_X3_keepAnswer h6) rfl rfl (by decide) ⟨Nat.le_of_ble_eq_true rfl, Nat.le_of_ble_eq_true rfl⟩ ⟨Nat.zero_le _, Nat.zero_le _⟩ rfl rfl (Nat.le_of_ble_eq_true rfl) hl.1 dX3_findAlong_112) (fun H locs hW _ => ?_)
  exact r_vret C hW (Option.some.inj h).symm dX3_findAlong_115
set_option maxRecDepth 20000 in
set_option maxHeartbeats 2000000 in
theorem b_X3_findAlong_21 {a : Nat} {x2 : Int32} (C : Cx g RX3 cX3_findAlong 5 none p s m args meth c) {r : Mx} : ∀ (n : Nat) {X : Mx} {x3 : Int32} {H : Heap} {locs : List Loc} {ls : Array Slot} (hW : Wd g σ X s H locs) (hl : lv_has ls 5 [(0, .ref a), (2, .int x2), (3, .int x3)]) (h : f_X3_findAlong_21 σ a x2 n X x3 = some r), W p l e (rmZ 5 121) s m args below meth c H locs 0 0 (QV g σ below args s r) (F0 m 21 ls []) := by
  have hx := C.x
  have hb := C.b
  intro n
  induction n with
  | zero =>
    intro X x3 H locs ls hW hl h
    cases (show none = some r from h)
  | succ n ih =>
    intro X x3 H locs ls hW hl h
    rw [f_X3_findAlong_21] at h
    refine lv_iload_n hx hb dX3_findAlong_21 rfl (lv_at hl 2 rfl) ?_
    refine lv_sipush (v := 200) hx hb dX3_findAlong_22 (by decide) ?_
    refine r_br h (lv_icmp_ge (tgt := 87) hx hb dX3_findAlong_25 (by decide)) (fun h => ?_) (fun h => ?_)
    · exact b_X3_findAlong_87 C hW (lv_sub hl [0, 1, 2] rfl) h
    · refine lv_aload_n hx hb dX3_findAlong_28 rfl (lv_at hl 0 rfl) ?_
      refine r_gR C hW h fl_X3_21 (by decide) dX3_findAlong_29 (fun b1 h => ?_)
      refine r_gI C hW h fl_X3_48 (by decide) dX3_findAlong_32 (fun v2 h => ?_)
      refine r_br h (lv_if_le (tgt := 87) hx hb dX3_findAlong_35 (by decide)) (fun h => ?_) (fun h => ?_)
      · exact b_X3_findAlong_87 C hW (lv_sub hl [0, 1, 2] rfl) h
      · refine lv_aload_n hx hb dX3_findAlong_38 rfl (lv_at hl 0 rfl) ?_
        refine r_gR C hW h fl_X3_21 (by decide) dX3_findAlong_39 (fun b3 h => ?_)
        refine r_gR C hW h fl_X3_52 (by decide) dX3_findAlong_42 (fun b4 h => ?_)
        refine lv_iconst (v := 0) hx hb dX3_findAlong_45 (by decide) ?_
        refine r_iald C hW h dX3_findAlong_46 (fun v5 h => ?_)
        refine lv_istore (lv' := [(4, .int v5), (0, .ref a), (2, .int x2), (3, .int x3)]) hx hb dX3_findAlong_47 hl (by decide) rfl (fun ls hl => ?_)
        refine lv_aload_n hx hb dX3_findAlong_49 rfl (lv_at hl 1 rfl) ?_
        refine r_gR C hW h fl_X3_12 (by decide) dX3_findAlong_50 (fun b6 h => ?_)
        refine r_gR C hW h fl_X3_55 (by decide) dX3_findAlong_53 (fun b7 h => ?_)
        refine lv_iload hx hb dX3_findAlong_56 (lv_at hl 0 rfl) ?_
        refine lv_iload_n hx hb dX3_findAlong_58 rfl (lv_at hl 2 rfl) ?_
        refine lv_iload hx hb dX3_findAlong_59 (lv_at hl 0 rfl) ?_
        refine r_cI hW (run_S (rest := [.int x2, .int v5, .ref b7]) C hW (t_X1_choicesOf (X := X)) mk_X1_choicesOf sk_X3_58 ⟨Nat.le_of_ble_eq_true rfl, Nat.le_of_ble_eq_true rfl⟩ ⟨Nat.zero_le _, Nat.zero_le _⟩ rfl rfl (Nat.le_of_ble_eq_true rfl) hl.1 dX3_findAlong_61) (fun H locs hW _ => ?_)
        refine lv_iconst (v := 1) hx hb dX3_findAlong_64 (by decide) ?_
        refine lv_isub hx hb dX3_findAlong_65 ?_
        refine r_cI hW (run_S (rest := [.int v5, .ref b7]) C hW (t_J9_min_7cf53 (X := X)) mk_J9_min_7cf53 sk_X3_64 ⟨Nat.le_of_ble_eq_true rfl, Nat.le_of_ble_eq_true rfl⟩ ⟨Nat.zero_le _, Nat.zero_le _⟩ rfl rfl (Nat.le_of_ble_eq_true rfl) hl.1 dX3_findAlong_66) (fun H locs hW _ => ?_)
        refine r_iast C hW h dX3_findAlong_69 (fun X8 H locs h hW _ => ?_)
        refine lv_iinc (v := (x3 + 1)) (lv' := [(3, .int (x3 + 1)), (4, .int v5), (0, .ref a), (2, .int x2)]) hx hb dX3_findAlong_70 hl (k := 3) rfl rfl (by decide) rfl (fun ls hl => ?_)
        refine lv_aload_n hx hb dX3_findAlong_73 rfl (lv_at hl 2 rfl) ?_
        refine r_gR C hW h fl_X3_21 (by decide) dX3_findAlong_74 (fun b9 h => ?_)
        refine lv_aload_n hx hb dX3_findAlong_77 rfl (lv_at hl 2 rfl) ?_
        refine r_gR C hW h fl_X3_12 (by decide) dX3_findAlong_78 (fun b10 h => ?_)
        obtain ⟨X12, h11, h⟩ := bnd_inv h
        refine r_cV hW (run_V (rest := []) C hW (t_X2_run h11) mk_X2_run vk_X3_45 (kd_X2_run h11) rfl rfl (by decide) ⟨Nat.le_of_ble_eq_true rfl, Nat.le_of_ble_eq_true rfl⟩ ⟨Nat.zero_le _, Nat.zero_le _⟩ rfl rfl (Nat.le_of_ble_eq_true rfl) hl.1 dX3_findAlong_81) (fun H locs hW _ => ?_)
        refine lv_goto (tgt := 21) hx hb dX3_findAlong_84 (by decide) ?_
        exact ih hW (lv_sub hl [2, 3, 0] rfl) h
theorem kd_X3_findAlong {X : Mx} {r : Mx} {a : Nat} {a1 : Nat} {x2 : Int32} (h : f_X3_findAlong σ X a a1 x2 = some r) : shK σ a = 2 := (grd_inv h).1
set_option maxRecDepth 20000 in
set_option maxHeartbeats 2000000 in
theorem t_X3_findAlong {X : Mx} {r : Mx} {a : Nat} {a1 : Nat} {x2 : Int32} (h : f_X3_findAlong σ X a a1 x2 = some r) : MtV g l yX3_findAlong cX3_findAlong 5 none 5 121 [.ref a, .ref a1, .int x2] σ X r := by
  refine met_of mk_X3_findAlong (Nat.le_of_ble_eq_true rfl) (fun p e s m args below meth c ls C hW hl => ?_)
  have hx := C.x
  have hb := C.b
  have hl : lv_has ls 5 [(0, .ref a), (1, .ref a1), (2, .int x2)] := hl
  unfold f_X3_findAlong at h
  obtain ⟨hk0, h⟩ := grd_inv h
  refine lv_aload_n hx hb dX3_findAlong_0 rfl (lv_at hl 0 rfl) ?_
  refine r_gR C hW h fl_X3_12 (by decide) dX3_findAlong_1 (fun b1 h => ?_)
  refine lv_aload_n hx hb dX3_findAlong_4 rfl (lv_at hl 1 rfl) ?_
  obtain ⟨X3, h2, h⟩ := bnd_inv h
  refine r_cV hW (run_V (rest := []) C hW (t_X5_copyFrom h2) mk_X5_copyFrom vk_X3_41 (kd_X5_copyFrom h2) rfl rfl (by decide) ⟨Nat.le_of_ble_eq_true rfl, Nat.le_of_ble_eq_true rfl⟩ ⟨Nat.zero_le _, Nat.zero_le _⟩ rfl rfl (Nat.le_of_ble_eq_true rfl) hl.1 dX3_findAlong_5) (fun H locs hW _ => ?_)
  refine lv_aload_n hx hb dX3_findAlong_8 rfl (lv_at hl 0 rfl) ?_
  refine r_gR C hW h fl_X3_21 (by decide) dX3_findAlong_9 (fun b4 h => ?_)
  refine lv_aload_n hx hb dX3_findAlong_12 rfl (lv_at hl 0 rfl) ?_
  refine r_gR C hW h fl_X3_12 (by decide) dX3_findAlong_13 (fun b5 h => ?_)
  obtain ⟨X7, h6, h⟩ := bnd_inv h
  refine r_cV hW (run_V (rest := []) C hW (t_X2_run h6) mk_X2_run vk_X3_45 (kd_X2_run h6) rfl rfl (by decide) ⟨Nat.le_of_ble_eq_true rfl, Nat.le_of_ble_eq_true rfl⟩ ⟨Nat.zero_le _, Nat.zero_le _⟩ rfl rfl (Nat.le_of_ble_eq_true rfl) hl.1 dX3_findAlong_16) (fun H locs hW _ => ?_)
  refine lv_iconst (v := 0) hx hb dX3_findAlong_19 (by decide) ?_
  refine lv_istore_n (lv' := [(3, .int 0), (0, .ref a), (1, .ref a1), (2, .int x2)]) hx hb dX3_findAlong_20 rfl hl (by decide) rfl (fun ls hl => ?_)
  exact b_X3_findAlong_21 C FU hW (lv_sub hl [1, 3, 0] rfl) h
set_option maxRecDepth 20000 in
set_option maxHeartbeats 2000000 in
theorem b_X3_pickChanged_95 {k8 : Mx → Int32 → Option Mx} {k18 : Mx → Int32 → Option Mx} {a : Nat} {a1 : Nat} {a2 : Nat} {x3 : Int32} {x4 : Int32} {x5 : Int32} (C : Cx g RX3 cX3_pickChanged 6 none p s m args meth c) {r : Mx} {X : Mx} (hk8 : ∀ {H' : Heap} {locs' : List Loc} {ls' : Array Slot} {X' : Mx} {x4' : Int32}, Wd g σ X' s H' locs' → lv_has ls' 6 [(0, .ref a), (1, .ref a1), (2, .ref a2), (3, .int x3), (4, .int x4')] → k8 X' x4' = some r → W p l e (rmZ 2 46) s m args below meth c H' locs' 0 0 (QV g σ below args s r) (F0 m 8 ls' [])) (hk18 : ∀ {H' : Heap} {locs' : List Loc} {ls' : Array Slot} {X' : Mx} {x5' : Int32}, Wd g σ X' s H' locs' → lv_has ls' 6 [(0, .ref a), (1, .ref a1), (2, .ref a2), (3, .int x3), (4, .int x4), (5, .int x5')] → k18 X' x5' = some r → W p l e (rmZ 2 46) s m args below meth c H' locs' 0 0 (QV g σ below args s r) (F0 m 18 ls' [])) (hW : Wd g σ X s H locs) (hl : lv_has ls 6 [(0, .ref a), (1, .ref a1), (2, .ref a2), (3, .int x3), (4, .int x4), (5, .int x5)]) (h : f_X3_pickChanged_95 k8 k18 σ a a1 a2 x3 x4 x5 X = some r) : W p l e (rmZ 2 46) s m args below meth c H locs 0 0 (QV g σ below args s r) (F0 m 95 ls []) := by
  have hx := C.x
  have hb := C.b
  unfold f_X3_pickChanged_95 at h
  refine lv_iinc (v := (x5 + 1)) (lv' := [(5, .int (x5 + 1)), (0, .ref a), (1, .ref a1), (2, .ref a2), (3, .int x3), (4, .int x4)]) hx hb dX3_pickChanged_95 hl (k := 5) rfl rfl (by decide) rfl (fun ls hl => ?_)
  refine lv_goto (tgt := 18) hx hb dX3_pickChanged_98 (by decide) ?_
  exact hk18 hW (lv_sub hl [1, 2, 3, 4, 5, 0] rfl) h
set_option maxRecDepth 20000 in
set_option maxHeartbeats 2000000 in
theorem b_X3_pickChanged_18 {k8 : Mx → Int32 → Option Mx} {a : Nat} {a1 : Nat} {a2 : Nat} {x3 : Int32} {x4 : Int32} (C : Cx g RX3 cX3_pickChanged 6 none p s m args meth c) {r : Mx} (hk8 : ∀ {H' : Heap} {locs' : List Loc} {ls' : Array Slot} {X' : Mx} {x4' : Int32}, Wd g σ X' s H' locs' → lv_has ls' 6 [(0, .ref a), (1, .ref a1), (2, .ref a2), (3, .int x3), (4, .int x4')] → k8 X' x4' = some r → W p l e (rmZ 2 46) s m args below meth c H' locs' 0 0 (QV g σ below args s r) (F0 m 8 ls' [])) : ∀ (n : Nat) {X : Mx} {x5 : Int32} {H : Heap} {locs : List Loc} {ls : Array Slot} (hW : Wd g σ X s H locs) (hl : lv_has ls 6 [(0, .ref a), (1, .ref a1), (2, .ref a2), (3, .int x3), (4, .int x4), (5, .int x5)]) (h : f_X3_pickChanged_18 k8 σ a a1 a2 x3 x4 n X x5 = some r), W p l e (rmZ 2 46) s m args below meth c H locs 0 0 (QV g σ below args s r) (F0 m 18 ls []) := by
  have hx := C.x
  have hb := C.b
  intro n
  induction n with
  | zero =>
    intro X x5 H locs ls hW hl h
    cases (show none = some r from h)
  | succ n ih =>
    intro X x5 H locs ls hW hl h
    rw [f_X3_pickChanged_18] at h
    refine lv_iload hx hb dX3_pickChanged_18 (lv_at hl 5 rfl) ?_
    refine lv_bipush (v := 9) hx hb dX3_pickChanged_20 (by decide) ?_
    refine r_br h (lv_icmp_ge (tgt := 101) hx hb dX3_pickChanged_22 (by decide)) (fun h => ?_) (fun h => ?_)
    · refine lv_iinc (v := (x4 + 1)) (lv' := [(4, .int (x4 + 1)), (0, .ref a), (1, .ref a1), (2, .ref a2), (3, .int x3), (5, .int x5)]) hx hb dX3_pickChanged_101 hl (k := 4) rfl rfl (by decide) rfl (fun ls hl => ?_)
      refine lv_goto (tgt := 8) hx hb dX3_pickChanged_104 (by decide) ?_
      exact hk8 hW (lv_sub hl [1, 2, 3, 4, 0] rfl) h
    · refine lv_aload_n hx hb dX3_pickChanged_25 rfl (lv_at hl 0 rfl) ?_
      refine r_gI C hW h fl_X3_88 (by decide) dX3_pickChanged_26 (fun v1 h => ?_)
      refine lv_bipush (v := 10) hx hb dX3_pickChanged_29 (by decide) ?_
      refine r_br h (lv_icmp_ge (tgt := 95) hx hb dX3_pickChanged_31 (by decide)) (fun h => ?_) (fun h => ?_)
      · exact b_X3_pickChanged_95 C hk8 (fun hW hl h => ih hW hl h) hW (lv_sub hl [0, 1, 2, 3, 4, 5] rfl) h
      · refine lv_aload_n hx hb dX3_pickChanged_34 rfl (lv_at hl 1 rfl) ?_
        refine lv_iload_n hx hb dX3_pickChanged_35 rfl (lv_at hl 3 rfl) ?_
        refine lv_iload hx hb dX3_pickChanged_36 (lv_at hl 4 rfl) ?_
        refine lv_iload hx hb dX3_pickChanged_38 (lv_at hl 5 rfl) ?_
        obtain ⟨v3, h2, h⟩ := bnd_inv h
        refine r_cI hW (run_V (rest := []) C hW (t_X5_isChanged h2) mk_X5_isChanged vk_X3_91 (kd_X5_isChanged h2) rfl rfl (by decide) ⟨Nat.le_of_ble_eq_true rfl, Nat.le_of_ble_eq_true rfl⟩ ⟨Nat.zero_le _, Nat.zero_le _⟩ rfl rfl (Nat.le_of_ble_eq_true rfl) hl.1 dX3_pickChanged_40) (fun H locs hW _ => ?_)
        refine r_br h (lv_if_eq (tgt := 95) hx hb dX3_pickChanged_43 (by decide)) (fun h => ?_) (fun h => ?_)
        · exact b_X3_pickChanged_95 C hk8 (fun hW hl h => ih hW hl h) hW (lv_sub hl [0, 1, 2, 3, 4, 5] rfl) h
        · refine lv_aload_n hx hb dX3_pickChanged_46 rfl (lv_at hl 2 rfl) ?_
          refine r_gR C hW h fl_X3_70 (by decide) dX3_pickChanged_47 (fun b4 h => ?_)
          refine lv_iload hx hb dX3_pickChanged_50 (lv_at hl 4 rfl) ?_
          obtain ⟨v6, h5, h⟩ := bnd_inv h
          refine r_cI hW (run_V (rest := []) C hW (t_X6_hasRow h5) mk_X6_hasRow vk_X3_95 (kd_X6_hasRow h5) rfl rfl (by decide) ⟨Nat.le_of_ble_eq_true rfl, Nat.le_of_ble_eq_true rfl⟩ ⟨Nat.zero_le _, Nat.zero_le _⟩ rfl rfl (Nat.le_of_ble_eq_true rfl) hl.1 dX3_pickChanged_52) (fun H locs hW _ => ?_)
          refine r_br h (lv_if_eq (tgt := 95) hx hb dX3_pickChanged_55 (by decide)) (fun h => ?_) (fun h => ?_)
          · exact b_X3_pickChanged_95 C hk8 (fun hW hl h => ih hW hl h) hW (lv_sub hl [0, 1, 2, 3, 4, 5] rfl) h
          · refine lv_aload_n hx hb dX3_pickChanged_58 rfl (lv_at hl 2 rfl) ?_
            refine lv_iload_n hx hb dX3_pickChanged_59 rfl (lv_at hl 3 rfl) ?_
            refine lv_iload hx hb dX3_pickChanged_60 (lv_at hl 5 rfl) ?_
            obtain ⟨v8, h7, h⟩ := bnd_inv h
            refine r_cI hW (run_V (rest := []) C hW (t_X2_isMerged h7) mk_X2_isMerged vk_X3_99 (kd_X2_isMerged h7) rfl rfl (by decide) ⟨Nat.le_of_ble_eq_true rfl, Nat.le_of_ble_eq_true rfl⟩ ⟨Nat.zero_le _, Nat.zero_le _⟩ rfl rfl (Nat.le_of_ble_eq_true rfl) hl.1 dX3_pickChanged_62) (fun H locs hW _ => ?_)
            refine r_br h (lv_if_eq (tgt := 95) hx hb dX3_pickChanged_65 (by decide)) (fun h => ?_) (fun h => ?_)
            · exact b_X3_pickChanged_95 C hk8 (fun hW hl h => ih hW hl h) hW (lv_sub hl [0, 1, 2, 3, 4, 5] rfl) h
            · refine lv_aload_n hx hb dX3_pickChanged_68 rfl (lv_at hl 0 rfl) ?_
              refine r_gR C hW h fl_X3_32 (by decide) dX3_pickChanged_69 (fun b9 h => ?_)
              refine lv_aload_n hx hb dX3_pickChanged_72 rfl (lv_at hl 0 rfl) ?_
              refine r_gI C hW h fl_X3_88 (by decide) dX3_pickChanged_73 (fun v10 h => ?_)
              refine lv_iload hx hb dX3_pickChanged_76 (lv_at hl 4 rfl) ?_
              refine lv_bipush (v := 9) hx hb dX3_pickChanged_78 (by decide) ?_
              refine lv_imul hx hb dX3_pickChanged_80 ?_
              refine lv_iload hx hb dX3_pickChanged_81 (lv_at hl 5 rfl) ?_
              refine lv_iadd hx hb dX3_pickChanged_83 ?_
              refine r_iast C hW h dX3_pickChanged_84 (fun X11 H locs h hW _ => ?_)
              refine lv_aload_n hx hb dX3_pickChanged_85 rfl (lv_at hl 0 rfl) ?_
              refine lv_dup hx hb dX3_pickChanged_86 rfl ?_
              refine r_gI C hW h fl_X3_88 (by decide) dX3_pickChanged_87 (fun v12 h => ?_)
              refine lv_iconst (v := 1) hx hb dX3_pickChanged_90 (by decide) ?_
              refine lv_iadd hx hb dX3_pickChanged_91 ?_
              refine r_pI C hW h pf_X3_88 (by decide) rfl rfl dX3_pickChanged_92 (fun X13 H locs h hW _ => ?_)
              exact b_X3_pickChanged_95 C hk8 (fun hW hl h => ih hW hl h) hW (lv_sub hl [0, 1, 2, 3, 4, 5] rfl) h
set_option maxRecDepth 20000 in
set_option maxHeartbeats 2000000 in
theorem b_X3_pickChanged_8 {a : Nat} {a1 : Nat} {a2 : Nat} {x3 : Int32} (C : Cx g RX3 cX3_pickChanged 6 none p s m args meth c) {r : Mx} : ∀ (n : Nat) {X : Mx} {x4 : Int32} {H : Heap} {locs : List Loc} {ls : Array Slot} (hW : Wd g σ X s H locs) (hl : lv_has ls 6 [(0, .ref a), (1, .ref a1), (2, .ref a2), (3, .int x3), (4, .int x4)]) (h : f_X3_pickChanged_8 σ a a1 a2 x3 n X x4 = some r), W p l e (rmZ 2 46) s m args below meth c H locs 0 0 (QV g σ below args s r) (F0 m 8 ls []) := by
  have hx := C.x
  have hb := C.b
  intro n
  induction n with
  | zero =>
    intro X x4 H locs ls hW hl h
    cases (show none = some r from h)
  | succ n ih =>
    intro X x4 H locs ls hW hl h
    rw [f_X3_pickChanged_8] at h
    refine lv_iload hx hb dX3_pickChanged_8 (lv_at hl 4 rfl) ?_
    refine lv_bipush (v := 20) hx hb dX3_pickChanged_10 (by decide) ?_
    refine r_br h (lv_icmp_ge (tgt := 107) hx hb dX3_pickChanged_12 (by decide)) (fun h => ?_) (fun h => ?_)
    · exact r_vret C hW (Option.some.inj h).symm dX3_pickChanged_107
    · refine lv_iconst (v := 0) hx hb dX3_pickChanged_15 (by decide) ?_
      refine lv_istore (lv' := [(5, .int 0), (0, .ref a), (1, .ref a1), (2, .ref a2), (3, .int x3), (4, .int x4)]) hx hb dX3_pickChanged_16 hl (by decide) rfl (fun ls hl => ?_)
      exact b_X3_pickChanged_18 C (fun hW hl h => ih hW hl h) FU hW (lv_sub hl [1, 2, 3, 4, 5, 0] rfl) h
theorem kd_X3_pickChanged {X : Mx} {r : Mx} {a : Nat} {a1 : Nat} {a2 : Nat} {x3 : Int32} (h : f_X3_pickChanged σ X a a1 a2 x3 = some r) : shK σ a = 2 := (grd_inv h).1
set_option maxRecDepth 20000 in
set_option maxHeartbeats 2000000 in
theorem t_X3_pickChanged {X : Mx} {r : Mx} {a : Nat} {a1 : Nat} {a2 : Nat} {x3 : Int32} (h : f_X3_pickChanged σ X a a1 a2 x3 = some r) : MtV g l yX3_pickChanged cX3_pickChanged 6 none 2 46 [.ref a, .ref a1, .ref a2, .int x3] σ X r := by
  refine met_of mk_X3_pickChanged (Nat.le_of_ble_eq_true rfl) (fun p e s m args below meth c ls C hW hl => ?_)
  have hx := C.x
  have hb := C.b
  have hl : lv_has ls 6 [(0, .ref a), (1, .ref a1), (2, .ref a2), (3, .int x3)] := hl
  unfold f_X3_pickChanged at h
  obtain ⟨hk0, h⟩ := grd_inv h
  refine lv_aload_n hx hb dX3_pickChanged_0 rfl (lv_at hl 0 rfl) ?_
  refine lv_iconst (v := 0) hx hb dX3_pickChanged_1 (by decide) ?_
  refine r_pI C hW h pf_X3_88 (by decide) rfl rfl dX3_pickChanged_2 (fun X1 H locs h hW _ => ?_)
  refine lv_iconst (v := 0) hx hb dX3_pickChanged_5 (by decide) ?_
  refine lv_istore (lv' := [(4, .int 0), (0, .ref a), (1, .ref a1), (2, .ref a2), (3, .int x3)]) hx hb dX3_pickChanged_6 hl (by decide) rfl (fun ls hl => ?_)
  exact b_X3_pickChanged_8 C FU hW (lv_sub hl [1, 2, 3, 4, 0] rfl) h
theorem kd_X5_baseCast {X : Mx} {r : Int32} {a : Nat} {x1 : Int32} {x2 : Int32} {x3 : Int32} (h : f_X5_baseCast σ X a x1 x2 x3 = some r) : shK σ a = 4 := (grd_inv h).1
set_option maxRecDepth 20000 in
set_option maxHeartbeats 2000000 in
theorem t_X5_baseCast {X : Mx} {r : Int32} {a : Nat} {x1 : Int32} {x2 : Int32} {x3 : Int32} (h : f_X5_baseCast σ X a x1 x2 x3 = some r) : MtI g l yX5_baseCast cX5_baseCast 6 (some .int) 1 22 [.ref a, .int x1, .int x2, .int x3] σ X (r, X) := by
  refine met_of mk_X5_baseCast (Nat.le_of_ble_eq_true rfl) (fun p e s m args below meth c ls C hW hl => ?_)
  have hx := C.x
  have hb := C.b
  have hl : lv_has ls 6 [(0, .ref a), (1, .int x1), (2, .int x2), (3, .int x3)] := hl
  unfold f_X5_baseCast at h
  obtain ⟨hk0, h⟩ := grd_inv h
  refine lv_aload_n hx hb dX5_baseCast_0 rfl (lv_at hl 0 rfl) ?_
  refine lv_iload_n hx hb dX5_baseCast_1 rfl (lv_at hl 1 rfl) ?_
  obtain ⟨b2, h1, h⟩ := bnd_inv h
  refine r_cR hW (run_V (rest := []) C hW (t_X5_sideOf h1) mk_X5_sideOf vk_X5_69 (kd_X5_sideOf h1) rfl rfl (by decide) ⟨Nat.le_of_ble_eq_true rfl, Nat.le_of_ble_eq_true rfl⟩ ⟨Nat.zero_le _, Nat.zero_le _⟩ rfl rfl (Nat.le_of_ble_eq_true rfl) hl.1 dX5_baseCast_2) (fun H locs hW _ => ?_)
  refine lv_astore (lv' := [(4, .ref b2), (0, .ref a), (1, .int x1), (2, .int x2), (3, .int x3)]) hx hb dX5_baseCast_5 hl (by decide) rfl (fun ls hl => ?_)
  refine lv_aload_n hx hb dX5_baseCast_7 rfl (lv_at hl 1 rfl) ?_
  refine r_gR C hW h fl_X5_12 (by decide) dX5_baseCast_8 (fun b3 h => ?_)
  refine lv_iload_n hx hb dX5_baseCast_11 rfl (lv_at hl 3 rfl) ?_
  refine lv_iload_n hx hb dX5_baseCast_12 rfl (lv_at hl 4 rfl) ?_
  obtain ⟨v5, h4, h⟩ := bnd_inv h
  refine r_cI hW (run_V (rest := []) C hW (t_X6_numberAt h4) mk_X6_numberAt vk_X5_73 (kd_X6_numberAt h4) rfl rfl (by decide) ⟨Nat.le_of_ble_eq_true rfl, Nat.le_of_ble_eq_true rfl⟩ ⟨Nat.zero_le _, Nat.zero_le _⟩ rfl rfl (Nat.le_of_ble_eq_true rfl) hl.1 dX5_baseCast_13) (fun H locs hW _ => ?_)
  refine lv_istore (lv' := [(5, .int v5), (4, .ref b2), (0, .ref a), (1, .int x1), (2, .int x2), (3, .int x3)]) hx hb dX5_baseCast_16 hl (by decide) rfl (fun ls hl => ?_)
  refine lv_aload hx hb dX5_baseCast_18 (lv_at hl 1 rfl) ?_
  refine lv_iload_n hx hb dX5_baseCast_20 rfl (lv_at hl 5 rfl) ?_
  obtain ⟨v7, h6, h⟩ := bnd_inv h
  refine r_cI hW (run_V (rest := []) C hW (t_X6_hasColumn h6) mk_X6_hasColumn vk_X5_77 (kd_X6_hasColumn h6) rfl rfl (by decide) ⟨Nat.le_of_ble_eq_true rfl, Nat.le_of_ble_eq_true rfl⟩ ⟨Nat.zero_le _, Nat.zero_le _⟩ rfl rfl (Nat.le_of_ble_eq_true rfl) hl.1 dX5_baseCast_21) (fun H locs hW _ => ?_)
  refine r_br h (lv_if_eq (tgt := 42) hx hb dX5_baseCast_24 (by decide)) (fun h => ?_) (fun h => ?_)
  · refine lv_iload hx hb dX5_baseCast_42 (lv_at hl 0 rfl) ?_
    exact r_iret C hW (rt_R h) rfl dX5_baseCast_44
  · refine lv_iload hx hb dX5_baseCast_27 (lv_at hl 0 rfl) ?_
    refine lv_aload hx hb dX5_baseCast_29 (lv_at hl 1 rfl) ?_
    refine r_gR C hW h fl_X5_81 (by decide) dX5_baseCast_31 (fun b8 h => ?_)
    refine lv_iload_n hx hb dX5_baseCast_34 rfl (lv_at hl 5 rfl) ?_
    refine r_iald C hW h dX5_baseCast_35 (fun v9 h => ?_)
    refine r_cI hW (run_S (rest := []) C hW (t_X8_cast (X := X)) mk_X8_cast sk_X5_84 ⟨Nat.le_of_ble_eq_true rfl, Nat.le_of_ble_eq_true rfl⟩ ⟨Nat.zero_le _, Nat.zero_le _⟩ rfl rfl (Nat.le_of_ble_eq_true rfl) hl.1 dX5_baseCast_36) (fun H locs hW _ => ?_)
    refine lv_goto (tgt := 44) hx hb dX5_baseCast_39 (by decide) ?_
    exact r_iret C hW (rt_R h) rfl dX5_baseCast_44
set_option maxRecDepth 20000 in
set_option maxHeartbeats 2000000 in
theorem b_X3_leavePicked_108 {k20 : Mx → Int32 → Option Mx} {a : Nat} {a1 : Nat} {x2 : Int32} {x3 : Int32} {a4 : Nat} {a5 : Nat} {x6 : Int32} (C : Cx g RX3 cX3_leavePicked 10 none p s m args meth c) {r : Mx} {X : Mx} {y0 : Nat} {y1 : Int32} {y2 : Int32} {y3 : Int32} (hk20 : ∀ {H' : Heap} {locs' : List Loc} {ls' : Array Slot} {X' : Mx} {x6' : Int32}, Wd g σ X' s H' locs' → lv_has ls' 10 [(0, .ref a), (1, .ref a1), (2, .int x2), (3, .int x3), (4, .ref a4), (5, .ref a5), (6, .int x6')] → k20 X' x6' = some r → W p l e (rmZ 2 47) s m args below meth c H' locs' 0 0 (QV g σ below args s r) (F0 m 20 ls' [])) (hW : Wd g σ X s H locs) (hl : lv_has ls 10 [(0, .ref a), (1, .ref a1), (2, .int x2), (3, .int x3), (4, .ref a4), (5, .ref a5), (6, .int x6)]) (h : f_X3_leavePicked_108 k20 σ a a1 x2 x3 a4 a5 x6 X y0 y1 y2 y3 = some r) : W p l e (rmZ 2 47) s m args below meth c H locs 0 0 (QV g σ below args s r) (F0 m 108 ls [.int y3, .int y2, .int y1, .ref y0]) := by
  have hx := C.x
  have hb := C.b
  unfold f_X3_leavePicked_108 at h
  obtain ⟨X2, h1, h⟩ := bnd_inv h
  refine r_cV hW (run_V (rest := []) C hW (t_X6_putNumber h1) mk_X6_putNumber vk_X3_118 (kd_X6_putNumber h1) rfl rfl (by decide) ⟨Nat.le_of_ble_eq_true rfl, Nat.le_of_ble_eq_true rfl⟩ ⟨Nat.zero_le _, Nat.zero_le _⟩ rfl rfl (Nat.le_of_ble_eq_true rfl) hl.1 dX3_leavePicked_108) (fun H locs hW _ => ?_)
  refine lv_iinc (v := (x6 + 1)) (lv' := [(6, .int (x6 + 1)), (0, .ref a), (1, .ref a1), (2, .int x2), (3, .int x3), (4, .ref a4), (5, .ref a5)]) hx hb dX3_leavePicked_111 hl (k := 6) rfl rfl (by decide) rfl (fun ls hl => ?_)
  refine lv_goto (tgt := 20) hx hb dX3_leavePicked_114 (by decide) ?_
  exact hk20 hW (lv_sub hl [1, 2, 3, 4, 5, 6, 0] rfl) h
set_option maxRecDepth 20000 in
set_option maxHeartbeats 2000000 in
theorem b_X3_leavePicked_74 {k20 : Mx → Int32 → Option Mx} {a : Nat} {a1 : Nat} {x2 : Int32} {x3 : Int32} {a4 : Nat} {a5 : Nat} {x6 : Int32} {x7 : Int32} {x8 : Int32} (C : Cx g RX3 cX3_leavePicked 10 none p s m args meth c) {r : Mx} {X : Mx} {y0 : Int32} (hk20 : ∀ {H' : Heap} {locs' : List Loc} {ls' : Array Slot} {X' : Mx} {x6' : Int32}, Wd g σ X' s H' locs' → lv_has ls' 10 [(0, .ref a), (1, .ref a1), (2, .int x2), (3, .int x3), (4, .ref a4), (5, .ref a5), (6, .int x6')] → k20 X' x6' = some r → W p l e (rmZ 2 47) s m args below meth c H' locs' 0 0 (QV g σ below args s r) (F0 m 20 ls' [])) (hW : Wd g σ X s H locs) (hl : lv_has ls 10 [(0, .ref a), (1, .ref a1), (2, .int x2), (3, .int x3), (4, .ref a4), (5, .ref a5), (6, .int x6), (7, .int x7), (8, .int x8)]) (h : f_X3_leavePicked_74 k20 σ a a1 x2 x3 a4 a5 x6 x7 x8 X y0 = some r) : W p l e (rmZ 2 47) s m args below meth c H locs 0 0 (QV g σ below args s r) (F0 m 74 ls [.int y0]) := by
  have hx := C.x
  have hb := C.b
  unfold f_X3_leavePicked_74 at h
  refine lv_istore (lv' := [(9, .int y0), (0, .ref a), (1, .ref a1), (2, .int x2), (3, .int x3), (4, .ref a4), (5, .ref a5), (6, .int x6), (7, .int x7), (8, .int x8)]) hx hb dX3_leavePicked_74 hl (by decide) rfl (fun ls hl => ?_)
  refine lv_aload hx hb dX3_leavePicked_76 (lv_at hl 6 rfl) ?_
  refine lv_iload hx hb dX3_leavePicked_78 (lv_at hl 8 rfl) ?_
  refine lv_iload hx hb dX3_leavePicked_80 (lv_at hl 9 rfl) ?_
  refine lv_iload hx hb dX3_leavePicked_82 (lv_at hl 0 rfl) ?_
  refine r_br h (lv_if_eq (tgt := 99) hx hb dX3_leavePicked_84 (by decide)) (fun h => ?_) (fun h => ?_)
  · refine lv_aload_n hx hb dX3_leavePicked_99 rfl (lv_at hl 2 rfl) ?_
    refine lv_iload_n hx hb dX3_leavePicked_100 rfl (lv_at hl 3 rfl) ?_
    refine lv_iload hx hb dX3_leavePicked_101 (lv_at hl 8 rfl) ?_
    refine lv_iload hx hb dX3_leavePicked_103 (lv_at hl 9 rfl) ?_
    obtain ⟨v2, h1, h⟩ := bnd_inv h
    refine r_cI hW (run_V (rest := [.int x8, .int x7, .ref a5]) C hW (t_X5_baseCast h1) mk_X5_baseCast vk_X3_114 (kd_X5_baseCast h1) rfl rfl (by decide) ⟨Nat.le_of_ble_eq_true rfl, Nat.le_of_ble_eq_true rfl⟩ ⟨Nat.zero_le _, Nat.zero_le _⟩ rfl rfl (Nat.le_of_ble_eq_true rfl) hl.1 dX3_leavePicked_105) (fun H locs hW _ => ?_)
    exact b_X3_leavePicked_108 C hk20 hW (lv_sub hl [1, 2, 3, 4, 5, 6, 7] rfl) h
  · refine lv_aload hx hb dX3_leavePicked_87 (lv_at hl 5 rfl) ?_
    refine lv_iload hx hb dX3_leavePicked_89 (lv_at hl 8 rfl) ?_
    refine lv_iload hx hb dX3_leavePicked_91 (lv_at hl 9 rfl) ?_
    obtain ⟨v4, h3, h⟩ := bnd_inv h
    refine r_cI hW (run_V (rest := [.int x8, .int x7, .ref a5]) C hW (t_X6_numberAt h3) mk_X6_numberAt vk_X3_111 (kd_X6_numberAt h3) rfl rfl (by decide) ⟨Nat.le_of_ble_eq_true rfl, Nat.le_of_ble_eq_true rfl⟩ ⟨Nat.zero_le _, Nat.zero_le _⟩ rfl rfl (Nat.le_of_ble_eq_true rfl) hl.1 dX3_leavePicked_93) (fun H locs hW _ => ?_)
    refine lv_goto (tgt := 108) hx hb dX3_leavePicked_96 (by decide) ?_
    exact b_X3_leavePicked_108 C hk20 hW (lv_sub hl [1, 2, 3, 4, 5, 6, 7] rfl) h
set_option maxRecDepth 20000 in
set_option maxHeartbeats 2000000 in
theorem b_X3_leavePicked_20 {a : Nat} {a1 : Nat} {x2 : Int32} {x3 : Int32} {a4 : Nat} {a5 : Nat} (C : Cx g RX3 cX3_leavePicked 10 none p s m args meth c) {r : Mx} : ∀ (n : Nat) {X : Mx} {x6 : Int32} {H : Heap} {locs : List Loc} {ls : Array Slot} (hW : Wd g σ X s H locs) (hl : lv_has ls 10 [(0, .ref a), (1, .ref a1), (2, .int x2), (3, .int x3), (4, .ref a4), (5, .ref a5), (6, .int x6)]) (h : f_X3_leavePicked_20 σ a a1 x2 x3 a4 a5 n X x6 = some r), W p l e (rmZ 2 47) s m args below meth c H locs 0 0 (QV g σ below args s r) (F0 m 20 ls []) := by
  have hx := C.x
  have hb := C.b
  intro n
  induction n with
  | zero =>
    intro X x6 H locs ls hW hl h
    cases (show none = some r from h)
  | succ n ih =>
    intro X x6 H locs ls hW hl h
    rw [f_X3_leavePicked_20] at h
    refine lv_iload hx hb dX3_leavePicked_20 (lv_at hl 6 rfl) ?_
    refine lv_aload_n hx hb dX3_leavePicked_22 rfl (lv_at hl 0 rfl) ?_
    refine r_gI C hW h fl_X3_88 (by decide) dX3_leavePicked_23 (fun v1 h => ?_)
    refine r_br h (lv_icmp_ge (tgt := 117) hx hb dX3_leavePicked_26 (by decide)) (fun h => ?_) (fun h => ?_)
    · exact r_vret C hW (Option.some.inj h).symm dX3_leavePicked_117
    · refine lv_iload hx hb dX3_leavePicked_29 (lv_at hl 6 rfl) ?_
      refine lv_bipush (v := 10) hx hb dX3_leavePicked_31 (by decide) ?_
      refine r_br h (lv_icmp_ge (tgt := 117) hx hb dX3_leavePicked_33 (by decide)) (fun h => ?_) (fun h => ?_)
      · exact r_vret C hW (Option.some.inj h).symm dX3_leavePicked_117
      · refine lv_aload_n hx hb dX3_leavePicked_36 rfl (lv_at hl 0 rfl) ?_
        refine r_gR C hW h fl_X3_32 (by decide) dX3_leavePicked_37 (fun b2 h => ?_)
        refine lv_iload hx hb dX3_leavePicked_40 (lv_at hl 6 rfl) ?_
        refine r_iald C hW h dX3_leavePicked_42 (fun v3 h => ?_)
        refine lv_bipush (v := 9) hx hb dX3_leavePicked_43 (by decide) ?_
        refine lv_idiv hx hb dX3_leavePicked_45 (by decide) ?_
        refine lv_istore (lv' := [(7, .int (v3 / 9)), (0, .ref a), (1, .ref a1), (2, .int x2), (3, .int x3), (4, .ref a4), (5, .ref a5), (6, .int x6)]) hx hb dX3_leavePicked_46 hl (by decide) rfl (fun ls hl => ?_)
        refine lv_aload_n hx hb dX3_leavePicked_48 rfl (lv_at hl 1 rfl) ?_
        refine r_gR C hW h fl_X3_32 (by decide) dX3_leavePicked_49 (fun b4 h => ?_)
        refine lv_iload hx hb dX3_leavePicked_52 (lv_at hl 7 rfl) ?_
        refine r_iald C hW h dX3_leavePicked_54 (fun v5 h => ?_)
        refine lv_bipush (v := 9) hx hb dX3_leavePicked_55 (by decide) ?_
        refine lv_irem hx hb dX3_leavePicked_57 (by decide) ?_
        refine lv_istore (lv' := [(8, .int (v5 - v5 / 9 * 9)), (7, .int (v3 / 9)), (0, .ref a), (1, .ref a1), (2, .int x2), (3, .int x3), (4, .ref a4), (5, .ref a5), (6, .int x6)]) hx hb dX3_leavePicked_58 hl (by decide) rfl (fun ls hl => ?_)
        refine lv_iload_n hx hb dX3_leavePicked_60 rfl (lv_at hl 5 rfl) ?_
        refine lv_iload hx hb dX3_leavePicked_61 (lv_at hl 8 rfl) ?_
        refine lv_ishr hx hb dX3_leavePicked_63 ?_
        refine lv_iconst (v := 1) hx hb dX3_leavePicked_64 (by decide) ?_
        refine lv_iand hx hb dX3_leavePicked_65 ?_
        refine r_br h (lv_if_eq (tgt := 73) hx hb dX3_leavePicked_66 (by decide)) (fun h => ?_) (fun h => ?_)
        · refine lv_iconst (v := 0) hx hb dX3_leavePicked_73 (by decide) ?_
          exact b_X3_leavePicked_74 C (fun hW hl h => ih hW hl h) hW (lv_sub hl [2, 3, 4, 5, 6, 7, 8, 1, 0] rfl) h
        · refine lv_iconst (v := 1) hx hb dX3_leavePicked_69 (by decide) ?_
          refine lv_goto (tgt := 74) hx hb dX3_leavePicked_70 (by decide) ?_
          exact b_X3_leavePicked_74 C (fun hW hl h => ih hW hl h) hW (lv_sub hl [2, 3, 4, 5, 6, 7, 8, 1, 0] rfl) h
theorem kd_X3_leavePicked {X : Mx} {r : Mx} {a : Nat} {a1 : Nat} {x2 : Int32} {x3 : Int32} (h : f_X3_leavePicked σ X a a1 x2 x3 = some r) : shK σ a = 2 := (grd_inv h).1
set_option maxRecDepth 20000 in
set_option maxHeartbeats 2000000 in
theorem t_X3_leavePicked {X : Mx} {r : Mx} {a : Nat} {a1 : Nat} {x2 : Int32} {x3 : Int32} (h : f_X3_leavePicked σ X a a1 x2 x3 = some r) : MtV g l yX3_leavePicked cX3_leavePicked 10 none 2 47 [.ref a, .ref a1, .int x2, .int x3] σ X r := by
  refine met_of mk_X3_leavePicked (Nat.le_of_ble_eq_true rfl) (fun p e s m args below meth c ls C hW hl => ?_)
  have hx := C.x
  have hb := C.b
  have hl : lv_has ls 10 [(0, .ref a), (1, .ref a1), (2, .int x2), (3, .int x3)] := hl
  unfold f_X3_leavePicked at h
  obtain ⟨hk0, h⟩ := grd_inv h
  refine lv_aload_n hx hb dX3_leavePicked_0 rfl (lv_at hl 1 rfl) ?_
  refine lv_iload_n hx hb dX3_leavePicked_1 rfl (lv_at hl 2 rfl) ?_
  obtain ⟨b2, h1, h⟩ := bnd_inv h
  refine r_cR hW (run_V (rest := []) C hW (t_X5_sideOf h1) mk_X5_sideOf vk_X3_107 (kd_X5_sideOf h1) rfl rfl (by decide) ⟨Nat.le_of_ble_eq_true rfl, Nat.le_of_ble_eq_true rfl⟩ ⟨Nat.zero_le _, Nat.zero_le _⟩ rfl rfl (Nat.le_of_ble_eq_true rfl) hl.1 dX3_leavePicked_2) (fun H locs hW _ => ?_)
  refine lv_astore (lv' := [(4, .ref b2), (0, .ref a), (1, .ref a1), (2, .int x2), (3, .int x3)]) hx hb dX3_leavePicked_5 hl (by decide) rfl (fun ls hl => ?_)
  refine lv_aload_n hx hb dX3_leavePicked_7 rfl (lv_at hl 1 rfl) ?_
  refine r_gR C hW h fl_X3_12 (by decide) dX3_leavePicked_8 (fun b3 h => ?_)
  refine lv_iload_n hx hb dX3_leavePicked_11 rfl (lv_at hl 3 rfl) ?_
  obtain ⟨b5, h4, h⟩ := bnd_inv h
  refine r_cR hW (run_V (rest := []) C hW (t_X5_sideOf h4) mk_X5_sideOf vk_X3_107 (kd_X5_sideOf h4) rfl rfl (by decide) ⟨Nat.le_of_ble_eq_true rfl, Nat.le_of_ble_eq_true rfl⟩ ⟨Nat.zero_le _, Nat.zero_le _⟩ rfl rfl (Nat.le_of_ble_eq_true rfl) hl.1 dX3_leavePicked_12) (fun H locs hW _ => ?_)
  refine lv_astore (lv' := [(5, .ref b5), (4, .ref b2), (0, .ref a), (1, .ref a1), (2, .int x2), (3, .int x3)]) hx hb dX3_leavePicked_15 hl (by decide) rfl (fun ls hl => ?_)
  refine lv_iconst (v := 0) hx hb dX3_leavePicked_17 (by decide) ?_
  refine lv_istore (lv' := [(6, .int 0), (5, .ref b5), (4, .ref b2), (0, .ref a), (1, .ref a1), (2, .int x2), (3, .int x3)]) hx hb dX3_leavePicked_18 hl (by decide) rfl (fun ls hl => ?_)
  exact b_X3_leavePicked_20 C FU hW (lv_sub hl [3, 4, 5, 6, 2, 1, 0] rfl) h
set_option maxRecDepth 20000 in
set_option maxHeartbeats 2000000 in
theorem b_X3_findAlone_103 {k21 : Mx → Int32 → Int32 → Int32 → Int32 → Option Mx} {a : Nat} {a1 : Nat} {x2 : Int32} {x3 : Int32} {x4 : Int32} {x5 : Int32} {x6 : Int32} (C : Cx g RX3 cX3_findAlone 8 none p s m args meth c) {r : Mx} {X : Mx} (hk21 : ∀ {H' : Heap} {locs' : List Loc} {ls' : Array Slot} {X' : Mx} {x3' : Int32} {x4' : Int32} {x5' : Int32} {x6' : Int32}, Wd g σ X' s H' locs' → lv_has ls' 8 [(0, .ref a), (1, .ref a1), (2, .int x2), (3, .int x3'), (4, .int x4'), (5, .int x5'), (6, .int x6')] → k21 X' x3' x4' x5' x6' = some r → W p l e (rmZ 5 121) s m args below meth c H' locs' 0 0 (QV g σ below args s r) (F0 m 21 ls' [])) (hW : Wd g σ X s H locs) (hl : lv_has ls 8 [(0, .ref a), (1, .ref a1), (2, .int x2), (3, .int x3), (4, .int x4), (5, .int x5), (6, .int x6)]) (h : f_X3_findAlone_103 k21 σ a a1 x2 x3 x4 x5 x6 X = some r) : W p l e (rmZ 5 121) s m args below meth c H locs 0 0 (QV g σ below args s r) (F0 m 103 ls []) := by
  have hx := C.x
  have hb := C.b
  unfold f_X3_findAlone_103 at h
  refine lv_iinc (v := (x6 + 1)) (lv' := [(6, .int (x6 + 1)), (0, .ref a), (1, .ref a1), (2, .int x2), (3, .int x3), (4, .int x4), (5, .int x5)]) hx hb dX3_findAlone_103 hl (k := 6) rfl rfl (by decide) rfl (fun ls hl => ?_)
  refine lv_goto (tgt := 21) hx hb dX3_findAlone_106 (by decide) ?_
  exact hk21 hW (lv_sub hl [1, 2, 3, 4, 5, 6, 0] rfl) h
set_option maxRecDepth 20000 in
set_option maxHeartbeats 2000000 in
theorem b_X3_findAlone_87 {k21 : Mx → Int32 → Int32 → Int32 → Int32 → Option Mx} {a : Nat} {a1 : Nat} {x2 : Int32} {x6 : Int32} {x7 : Int32} (C : Cx g RX3 cX3_findAlone 8 none p s m args meth c) {r : Mx} {X : Mx} (hk21 : ∀ {H' : Heap} {locs' : List Loc} {ls' : Array Slot} {X' : Mx} {x3' : Int32} {x4' : Int32} {x5' : Int32} {x6' : Int32}, Wd g σ X' s H' locs' → lv_has ls' 8 [(0, .ref a), (1, .ref a1), (2, .int x2), (3, .int x3'), (4, .int x4'), (5, .int x5'), (6, .int x6')] → k21 X' x3' x4' x5' x6' = some r → W p l e (rmZ 5 121) s m args below meth c H' locs' 0 0 (QV g σ below args s r) (F0 m 21 ls' [])) (hW : Wd g σ X s H locs) (hl : lv_has ls 8 [(0, .ref a), (1, .ref a1), (2, .int x2), (6, .int x6), (7, .int x7)]) (h : f_X3_findAlone_87 k21 σ a a1 x2 x6 x7 X = some r) : W p l e (rmZ 5 121) s m args below meth c H locs 0 0 (QV g σ below args s r) (F0 m 87 ls []) := by
  have hx := C.x
  have hb := C.b
  unfold f_X3_findAlone_87 at h
  refine lv_aload_n hx hb dX3_findAlone_87 rfl (lv_at hl 0 rfl) ?_
  refine r_gR C hW h fl_X3_21 (by decide) dX3_findAlone_88 (fun b1 h => ?_)
  refine r_gI C hW h fl_X3_48 (by decide) dX3_findAlone_91 (fun v2 h => ?_)
  refine lv_istore_n (lv' := [(3, .int v2), (0, .ref a), (1, .ref a1), (2, .int x2), (6, .int x6), (7, .int x7)]) hx hb dX3_findAlone_94 rfl hl (by decide) rfl (fun ls hl => ?_)
  refine lv_iload hx hb dX3_findAlone_95 (lv_at hl 5 rfl) ?_
  refine lv_istore (lv' := [(4, .int x7), (3, .int v2), (0, .ref a), (1, .ref a1), (2, .int x2), (6, .int x6), (7, .int x7)]) hx hb dX3_findAlone_97 hl (by decide) rfl (fun ls hl => ?_)
  refine lv_iload hx hb dX3_findAlone_99 (lv_at hl 5 rfl) ?_
  refine lv_istore (lv' := [(5, .int x6), (4, .int x7), (3, .int v2), (0, .ref a), (1, .ref a1), (2, .int x2), (6, .int x6), (7, .int x7)]) hx hb dX3_findAlone_101 hl (by decide) rfl (fun ls hl => ?_)
  exact b_X3_findAlone_103 C hk21 hW (lv_sub hl [3, 4, 5, 2, 1, 0, 6] rfl) h
set_option maxRecDepth 20000 in
set_option maxHeartbeats 2000000 in
theorem b_X3_findAlone_21 {a : Nat} {a1 : Nat} {x2 : Int32} (C : Cx g RX3 cX3_findAlone 8 none p s m args meth c) {r : Mx} : ∀ (n : Nat) {X : Mx} {x3 : Int32} {x4 : Int32} {x5 : Int32} {x6 : Int32} {H : Heap} {locs : List Loc} {ls : Array Slot} (hW : Wd g σ X s H locs) (hl : lv_has ls 8 [(0, .ref a), (1, .ref a1), (2, .int x2), (3, .int x3), (4, .int x4), (5, .int x5), (6, .int x6)]) (h : f_X3_findAlone_21 σ a a1 x2 n X x3 x4 x5 x6 = some r), W p l e (rmZ 5 121) s m args below meth c H locs 0 0 (QV g σ below args s r) (F0 m 21 ls []) := by
  have hx := C.x
  have hb := C.b
  intro n
  induction n with
  | zero =>
    intro X x3 x4 x5 x6 H locs ls hW hl h
    cases (show none = some r from h)
  | succ n ih =>
    intro X x3 x4 x5 x6 H locs ls hW hl h
    rw [f_X3_findAlone_21] at h
    refine lv_iload hx hb dX3_findAlone_21 (lv_at hl 6 rfl) ?_
    refine lv_iconst (v := 1) hx hb dX3_findAlone_23 (by decide) ?_
    refine lv_aload_n hx hb dX3_findAlone_24 rfl (lv_at hl 0 rfl) ?_
    refine r_gI C hW h fl_X3_88 (by decide) dX3_findAlone_25 (fun v1 h => ?_)
    refine lv_ishl hx hb dX3_findAlone_28 ?_
    refine r_br h (lv_icmp_ge (tgt := 109) hx hb dX3_findAlone_29 (by decide)) (fun h => ?_) (fun h => ?_)
    · refine lv_aload_n hx hb dX3_findAlone_109 rfl (lv_at hl 0 rfl) ?_
      refine lv_iconst (v := 0) hx hb dX3_findAlone_110 (by decide) ?_
      refine lv_iload_n hx hb dX3_findAlone_111 rfl (lv_at hl 2 rfl) ?_
      refine lv_iadd hx hb dX3_findAlone_112 ?_
      refine lv_iload_n hx hb dX3_findAlone_113 rfl (lv_at hl 3 rfl) ?_
      refine lv_iload hx hb dX3_findAlone_114 (lv_at hl 4 rfl) ?_
      refine lv_iload hx hb dX3_findAlone_116 (lv_at hl 5 rfl) ?_
      obtain ⟨X3, h2, h⟩ := bnd_inv h
      refine r_cV hW (run_V (rest := []) C hW (t_X3_keepAnswer h2) mk_X3_keepAnswer vk_X3_84 (kd_X3_keepAnswer h2) rfl rfl (by decide) ⟨Nat.le_of_ble_eq_true rfl, Nat.le_of_ble_eq_true rfl⟩ ⟨Nat.zero_le _, Nat.zero_le _⟩ rfl rfl (Nat.le_of_ble_eq_true rfl) hl.1 dX3_findAlone_118) (fun H locs hW _ => ?_)
      exact r_vret C hW (Option.some.inj h).symm dX3_findAlone_121
    · refine lv_aload_n hx hb dX3_findAlone_32 rfl (lv_at hl 0 rfl) ?_
      refine lv_aload_n hx hb dX3_findAlone_33 rfl (lv_at hl 1 rfl) ?_
      refine lv_iload_n hx hb dX3_findAlone_34 rfl (lv_at hl 2 rfl) ?_
      refine lv_iload hx hb dX3_findAlone_35 (lv_at hl 6 rfl) ?_
      obtain ⟨X5, h4, h⟩ := bnd_inv h
      refine r_cV hW (run_V (rest := []) C hW (t_X3_leavePicked h4) mk_X3_leavePicked vk_X3_103 (kd_X3_leavePicked h4) rfl rfl (by decide) ⟨Nat.le_of_ble_eq_true rfl, Nat.le_of_ble_eq_true rfl⟩ ⟨Nat.zero_le _, Nat.zero_le _⟩ rfl rfl (Nat.le_of_ble_eq_true rfl) hl.1 dX3_findAlone_37) (fun H locs hW _ => ?_)
      refine lv_aload_n hx hb dX3_findAlone_40 rfl (lv_at hl 0 rfl) ?_
      refine r_gR C hW h fl_X3_21 (by decide) dX3_findAlone_41 (fun b6 h => ?_)
      refine lv_aload_n hx hb dX3_findAlone_44 rfl (lv_at hl 0 rfl) ?_
      refine r_gR C hW h fl_X3_12 (by decide) dX3_findAlone_45 (fun b7 h => ?_)
      obtain ⟨X9, h8, h⟩ := bnd_inv h
      refine r_cV hW (run_V (rest := []) C hW (t_X2_run h8) mk_X2_run vk_X3_45 (kd_X2_run h8) rfl rfl (by decide) ⟨Nat.le_of_ble_eq_true rfl, Nat.le_of_ble_eq_true rfl⟩ ⟨Nat.zero_le _, Nat.zero_le _⟩ rfl rfl (Nat.le_of_ble_eq_true rfl) hl.1 dX3_findAlone_48) (fun H locs hW _ => ?_)
      refine lv_iload hx hb dX3_findAlone_51 (lv_at hl 6 rfl) ?_
      refine r_cI hW (run_S (rest := []) C hW (t_J6_bitCount_0f7a4 (X := X9)) mk_J6_bitCount_0f7a4 sk_X3_79 ⟨Nat.le_of_ble_eq_true rfl, Nat.le_of_ble_eq_true rfl⟩ ⟨Nat.zero_le _, Nat.zero_le _⟩ rfl rfl (Nat.le_of_ble_eq_true rfl) hl.1 dX3_findAlone_53) (fun H locs hW _ => ?_)
      refine lv_istore (lv' := [(7, .int (f_J6_bitCount_0f7a4 x6)), (0, .ref a), (1, .ref a1), (2, .int x2), (3, .int x3), (4, .int x4), (5, .int x5), (6, .int x6)]) hx hb dX3_findAlone_56 hl (by decide) rfl (fun ls hl => ?_)
      refine lv_aload_n hx hb dX3_findAlone_58 rfl (lv_at hl 1 rfl) ?_
      refine r_gR C hW h fl_X3_21 (by decide) dX3_findAlone_59 (fun b10 h => ?_)
      refine r_gI C hW h fl_X3_48 (by decide) dX3_findAlone_62 (fun v11 h => ?_)
      refine lv_iload_n hx hb dX3_findAlone_65 rfl (lv_at hl 4 rfl) ?_
      refine r_br h (lv_icmp_lt (tgt := 87) hx hb dX3_findAlone_66 (by decide)) (fun h => ?_) (fun h => ?_)
      · exact b_X3_findAlone_87 C (fun hW hl h => ih hW hl h) hW (lv_sub hl [1, 2, 3, 7, 0] rfl) h
      · refine lv_aload_n hx hb dX3_findAlone_69 rfl (lv_at hl 1 rfl) ?_
        refine r_gR C hW h fl_X3_21 (by decide) dX3_findAlone_70 (fun b12 h => ?_)
        refine r_gI C hW h fl_X3_48 (by decide) dX3_findAlone_73 (fun v13 h => ?_)
        refine lv_iload_n hx hb dX3_findAlone_76 rfl (lv_at hl 4 rfl) ?_
        refine r_brn h (lv_icmp_ne (tgt := 103) hx hb dX3_findAlone_77 (by decide)) (fun h => ?_) (fun h => ?_)
        · exact b_X3_findAlone_103 C (fun hW hl h => ih hW hl h) hW (lv_sub hl [1, 2, 3, 4, 5, 6, 7] rfl) h
        · refine lv_iload hx hb dX3_findAlone_80 (lv_at hl 0 rfl) ?_
          refine lv_iload hx hb dX3_findAlone_82 (lv_at hl 5 rfl) ?_
          refine r_br h (lv_icmp_le (tgt := 103) hx hb dX3_findAlone_84 (by decide)) (fun h => ?_) (fun h => ?_)
          · exact b_X3_findAlone_103 C (fun hW hl h => ih hW hl h) hW (lv_sub hl [1, 2, 3, 4, 5, 6, 7] rfl) h
          · exact b_X3_findAlone_87 C (fun hW hl h => ih hW hl h) hW (lv_sub hl [1, 2, 3, 7, 0] rfl) h
theorem kd_X3_findAlone {X : Mx} {r : Mx} {a : Nat} {a1 : Nat} {x2 : Int32} (h : f_X3_findAlone σ X a a1 x2 = some r) : shK σ a = 2 := (grd_inv h).1
set_option maxRecDepth 20000 in
set_option maxHeartbeats 2000000 in
theorem t_X3_findAlone {X : Mx} {r : Mx} {a : Nat} {a1 : Nat} {x2 : Int32} (h : f_X3_findAlone σ X a a1 x2 = some r) : MtV g l yX3_findAlone cX3_findAlone 8 none 5 121 [.ref a, .ref a1, .int x2] σ X r := by
  refine met_of mk_X3_findAlone (Nat.le_of_ble_eq_true rfl) (fun p e s m args below meth c ls C hW hl => ?_)
  have hx := C.x
  have hb := C.b
  have hl : lv_has ls 8 [(0, .ref a), (1, .ref a1), (2, .int x2)] := hl
  unfold f_X3_findAlone at h
  obtain ⟨hk0, h⟩ := grd_inv h
  refine lv_aload_n hx hb dX3_findAlone_0 rfl (lv_at hl 0 rfl) ?_
  refine r_gR C hW h fl_X3_12 (by decide) dX3_findAlone_1 (fun b1 h => ?_)
  refine lv_aload_n hx hb dX3_findAlone_4 rfl (lv_at hl 1 rfl) ?_
  obtain ⟨X3, h2, h⟩ := bnd_inv h
  refine r_cV hW (run_V (rest := []) C hW (t_X5_copyFrom h2) mk_X5_copyFrom vk_X3_41 (kd_X5_copyFrom h2) rfl rfl (by decide) ⟨Nat.le_of_ble_eq_true rfl, Nat.le_of_ble_eq_true rfl⟩ ⟨Nat.zero_le _, Nat.zero_le _⟩ rfl rfl (Nat.le_of_ble_eq_true rfl) hl.1 dX3_findAlone_5) (fun H locs hW _ => ?_)
  refine lv_sipush (v := 317) hx hb dX3_findAlone_8 (by decide) ?_
  refine lv_istore_n (lv' := [(3, .int 317), (0, .ref a), (1, .ref a1), (2, .int x2)]) hx hb dX3_findAlone_11 rfl hl (by decide) rfl (fun ls hl => ?_)
  refine lv_iconst (v := 0) hx hb dX3_findAlone_12 (by decide) ?_
  refine lv_istore (lv' := [(4, .int 0), (3, .int 317), (0, .ref a), (1, .ref a1), (2, .int x2)]) hx hb dX3_findAlone_13 hl (by decide) rfl (fun ls hl => ?_)
  refine lv_iconst (v := 0) hx hb dX3_findAlone_15 (by decide) ?_
  refine lv_istore (lv' := [(5, .int 0), (4, .int 0), (3, .int 317), (0, .ref a), (1, .ref a1), (2, .int x2)]) hx hb dX3_findAlone_16 hl (by decide) rfl (fun ls hl => ?_)
  refine lv_iconst (v := 0) hx hb dX3_findAlone_18 (by decide) ?_
  refine lv_istore (lv' := [(6, .int 0), (5, .int 0), (4, .int 0), (3, .int 317), (0, .ref a), (1, .ref a1), (2, .int x2)]) hx hb dX3_findAlone_19 hl (by decide) rfl (fun ls hl => ?_)
  exact b_X3_findAlone_21 C FU hW (lv_sub hl [4, 5, 6, 3, 2, 1, 0] rfl) h
set_option maxRecDepth 20000 in
set_option maxHeartbeats 2000000 in
theorem b_X4_isSo_2 {a : Nat} {a1 : Nat} (C : Cx g RX4 cX4_isSo 3 (some .boolean) p s m args meth c) {r : Int32} {X : Mx} : ∀ (n : Nat) {x2 : Int32} {H : Heap} {locs : List Loc} {ls : Array Slot} (hW : Wd g σ X s H locs) (hl : lv_has ls 3 [(0, .ref a), (1, .ref a1), (2, .int x2)]) (h : f_X4_isSo_2 σ X a a1 n x2 = some r), W p l e (rmZ 1 22) s m args below meth c H locs 0 0 (QI g σ below args s (r, X)) (F0 m 2 ls []) := by
  have hx := C.x
  have hb := C.b
  intro n
  induction n with
  | zero =>
    intro x2 H locs ls hW hl h
    cases (show none = some r from h)
  | succ n ih =>
    intro x2 H locs ls hW hl h
    rw [f_X4_isSo_2] at h
    refine lv_iload_n hx hb dX4_isSo_2 rfl (lv_at hl 2 rfl) ?_
    refine lv_aload_n hx hb dX4_isSo_3 rfl (lv_at hl 0 rfl) ?_
    refine r_gI C hW h fl_X4_21 (by decide) dX4_isSo_4 (fun v1 h => ?_)
    refine r_br h (lv_icmp_ge (tgt := 68) hx hb dX4_isSo_7 (by decide)) (fun h => ?_) (fun h => ?_)
    · refine lv_iconst (v := 1) hx hb dX4_isSo_68 (by decide) ?_
      exact r_iret C hW (rt_R h) rfl dX4_isSo_69
    · refine lv_iload_n hx hb dX4_isSo_10 rfl (lv_at hl 2 rfl) ?_
      refine lv_bipush (v := 8) hx hb dX4_isSo_11 (by decide) ?_
      refine r_br h (lv_icmp_ge (tgt := 68) hx hb dX4_isSo_13 (by decide)) (fun h => ?_) (fun h => ?_)
      · refine lv_iconst (v := 1) hx hb dX4_isSo_68 (by decide) ?_
        exact r_iret C hW (rt_R h) rfl dX4_isSo_69
      · refine lv_aload_n hx hb dX4_isSo_16 rfl (lv_at hl 1 rfl) ?_
        refine lv_aload_n hx hb dX4_isSo_17 rfl (lv_at hl 0 rfl) ?_
        refine r_gR C hW h fl_X4_9 (by decide) dX4_isSo_18 (fun b2 h => ?_)
        refine lv_iload_n hx hb dX4_isSo_21 rfl (lv_at hl 2 rfl) ?_
        refine r_iald C hW h dX4_isSo_22 (fun v3 h => ?_)
        refine lv_aload_n hx hb dX4_isSo_23 rfl (lv_at hl 0 rfl) ?_
        refine r_gR C hW h fl_X4_15 (by decide) dX4_isSo_24 (fun b4 h => ?_)
        refine lv_iload_n hx hb dX4_isSo_27 rfl (lv_at hl 2 rfl) ?_
        refine r_iald C hW h dX4_isSo_28 (fun v5 h => ?_)
        obtain ⟨v7, h6, h⟩ := bnd_inv h
        refine r_cI hW (run_V (rest := []) C hW (t_X6_hasCell h6) mk_X6_hasCell vk_X4_37 (kd_X6_hasCell h6) rfl rfl (by decide) ⟨Nat.le_of_ble_eq_true rfl, Nat.le_of_ble_eq_true rfl⟩ ⟨Nat.zero_le _, Nat.zero_le _⟩ rfl rfl (Nat.le_of_ble_eq_true rfl) hl.1 dX4_isSo_29) (fun H locs hW _ => ?_)
        refine r_br h (lv_if_eq (tgt := 60) hx hb dX4_isSo_32 (by decide)) (fun h => ?_) (fun h => ?_)
        · refine lv_iconst (v := 0) hx hb dX4_isSo_60 (by decide) ?_
          exact r_iret C hW (rt_R h) rfl dX4_isSo_61
        · refine lv_aload_n hx hb dX4_isSo_35 rfl (lv_at hl 1 rfl) ?_
          refine lv_aload_n hx hb dX4_isSo_36 rfl (lv_at hl 0 rfl) ?_
          refine r_gR C hW h fl_X4_9 (by decide) dX4_isSo_37 (fun b8 h => ?_)
          refine lv_iload_n hx hb dX4_isSo_40 rfl (lv_at hl 2 rfl) ?_
          refine r_iald C hW h dX4_isSo_41 (fun v9 h => ?_)
          refine lv_aload_n hx hb dX4_isSo_42 rfl (lv_at hl 0 rfl) ?_
          refine r_gR C hW h fl_X4_15 (by decide) dX4_isSo_43 (fun b10 h => ?_)
          refine lv_iload_n hx hb dX4_isSo_46 rfl (lv_at hl 2 rfl) ?_
          refine r_iald C hW h dX4_isSo_47 (fun v11 h => ?_)
          obtain ⟨v13, h12, h⟩ := bnd_inv h
          refine r_cI hW (run_V (rest := []) C hW (t_X6_numberAt h12) mk_X6_numberAt vk_X4_42 (kd_X6_numberAt h12) rfl rfl (by decide) ⟨Nat.le_of_ble_eq_true rfl, Nat.le_of_ble_eq_true rfl⟩ ⟨Nat.zero_le _, Nat.zero_le _⟩ rfl rfl (Nat.le_of_ble_eq_true rfl) hl.1 dX4_isSo_48) (fun H locs hW _ => ?_)
          refine lv_aload_n hx hb dX4_isSo_51 rfl (lv_at hl 0 rfl) ?_
          refine r_gR C hW h fl_X4_18 (by decide) dX4_isSo_52 (fun b14 h => ?_)
          refine lv_iload_n hx hb dX4_isSo_55 rfl (lv_at hl 2 rfl) ?_
          refine r_iald C hW h dX4_isSo_56 (fun v15 h => ?_)
          refine r_br h (lv_icmp_eq (tgt := 62) hx hb dX4_isSo_57 (by decide)) (fun h => ?_) (fun h => ?_)
          · refine lv_iinc (v := (x2 + 1)) (lv' := [(2, .int (x2 + 1)), (0, .ref a), (1, .ref a1)]) hx hb dX4_isSo_62 hl (k := 2) rfl rfl (by decide) rfl (fun ls hl => ?_)
            refine lv_goto (tgt := 2) hx hb dX4_isSo_65 (by decide) ?_
            exact ih hW (lv_sub hl [1, 2, 0] rfl) h
          · refine lv_iconst (v := 0) hx hb dX4_isSo_60 (by decide) ?_
            exact r_iret C hW (rt_R h) rfl dX4_isSo_61
theorem kd_X4_isSo {X : Mx} {r : Int32} {a : Nat} {a1 : Nat} (h : f_X4_isSo σ X a a1 = some r) : shK σ a = 3 := (grd_inv h).1
set_option maxRecDepth 20000 in
set_option maxHeartbeats 2000000 in
theorem t_X4_isSo {X : Mx} {r : Int32} {a : Nat} {a1 : Nat} (h : f_X4_isSo σ X a a1 = some r) : MtI g l yX4_isSo cX4_isSo 3 (some .boolean) 1 22 [.ref a, .ref a1] σ X (r, X) := by
  refine met_of mk_X4_isSo (Nat.le_of_ble_eq_true rfl) (fun p e s m args below meth c ls C hW hl => ?_)
  have hx := C.x
  have hb := C.b
  have hl : lv_has ls 3 [(0, .ref a), (1, .ref a1)] := hl
  unfold f_X4_isSo at h
  obtain ⟨hk0, h⟩ := grd_inv h
  refine lv_iconst (v := 0) hx hb dX4_isSo_0 (by decide) ?_
  refine lv_istore_n (lv' := [(2, .int 0), (0, .ref a), (1, .ref a1)]) hx hb dX4_isSo_1 rfl hl (by decide) rfl (fun ls hl => ?_)
  exact b_X4_isSo_2 C FU hW (lv_sub hl [1, 2, 0] rfl) h
set_option maxRecDepth 20000 in
set_option maxHeartbeats 2000000 in
theorem t_X8_holds {X : Mx} {x0 : Int32} {x1 : Int32} : MtI g l yX8_holds cX8_holds 2 (some .boolean) 0 0 [.int x0, .int x1] σ X (f_X8_holds x0 x1, X) := by
  obtain ⟨r, h⟩ : ∃ r, f_X8_holds x0 x1 = r := ⟨_, rfl⟩
  rw [h]
  refine met_of mk_X8_holds (Nat.le_of_ble_eq_true rfl) (fun p e s m args below meth c ls C hW hl => ?_)
  have hx := C.x
  have hb := C.b
  have hl : lv_has ls 2 [(0, .int x0), (1, .int x1)] := hl
  unfold f_X8_holds at h
  refine lv_iload_n hx hb dX8_holds_0 rfl (lv_at hl 1 rfl) ?_
  refine lv_sipush (v := 9999) hx hb dX8_holds_1 (by decide) ?_
  refine r_brn h (lv_icmp_ne (tgt := 9) hx hb dX8_holds_4 (by decide)) (fun h => ?_) (fun h => ?_)
  · refine lv_iload_n hx hb dX8_holds_9 rfl (lv_at hl 1 rfl) ?_
    refine lv_sipush (v := (-999)) hx hb dX8_holds_10 (by decide) ?_
    refine r_br h (lv_icmp_lt (tgt := 23) hx hb dX8_holds_13 (by decide)) (fun h => ?_) (fun h => ?_)
    · refine lv_iconst (v := 0) hx hb dX8_holds_23 (by decide) ?_
      exact r_iret C hW (rt_T h) rfl dX8_holds_24
    · refine lv_iload_n hx hb dX8_holds_16 rfl (lv_at hl 1 rfl) ?_
      refine lv_sipush (v := 999) hx hb dX8_holds_17 (by decide) ?_
      refine r_br h (lv_icmp_le (tgt := 25) hx hb dX8_holds_20 (by decide)) (fun h => ?_) (fun h => ?_)
      · refine lv_iload_n hx hb dX8_holds_25 rfl (lv_at hl 0 rfl) ?_
        refine r_case h (fun ec h => ?_) (fun nc0 h => ?_)
        · refine lv_tableIn (tgt := 56) (off := 30) hx hb dX8_holds_26 (by rw [ec]; decide) (by rw [ec]; decide) (by rw [ec]; rfl) (by decide) ?_
          refine lv_iconst (v := 1) hx hb dX8_holds_56 (by decide) ?_
          exact r_iret C hW (rt_T h) rfl dX8_holds_57
        refine r_case h (fun ec h => ?_) (fun nc1 h => ?_)
        · refine lv_tableIn (tgt := 58) (off := 32) hx hb dX8_holds_26 (by rw [ec]; decide) (by rw [ec]; decide) (by rw [ec]; rfl) (by decide) ?_
          refine lv_iload_n hx hb dX8_holds_58 rfl (lv_at hl 1 rfl) ?_
          refine r_br h (lv_if_lt (tgt := 72) hx hb dX8_holds_59 (by decide)) (fun h => ?_) (fun h => ?_)
          · refine lv_iconst (v := 0) hx hb dX8_holds_72 (by decide) ?_
            exact r_iret C hW (rt_T h) rfl dX8_holds_73
          · refine lv_iload_n hx hb dX8_holds_62 rfl (lv_at hl 1 rfl) ?_
            refine lv_bipush (v := 9) hx hb dX8_holds_63 (by decide) ?_
            refine r_br h (lv_icmp_gt (tgt := 72) hx hb dX8_holds_65 (by decide)) (fun h => ?_) (fun h => ?_)
            · refine lv_iconst (v := 0) hx hb dX8_holds_72 (by decide) ?_
              exact r_iret C hW (rt_T h) rfl dX8_holds_73
            · refine lv_iconst (v := 1) hx hb dX8_holds_68 (by decide) ?_
              refine lv_goto (tgt := 73) hx hb dX8_holds_69 (by decide) ?_
              exact r_iret C hW (rt_T h) rfl dX8_holds_73
        refine r_case h (fun ec h => ?_) (fun nc2 h => ?_)
        · refine lv_tableIn (tgt := 74) (off := 48) hx hb dX8_holds_26 (by rw [ec]; decide) (by rw [ec]; decide) (by rw [ec]; rfl) (by decide) ?_
          refine lv_iload_n hx hb dX8_holds_74 rfl (lv_at hl 1 rfl) ?_
          refine lv_iconst (v := 1) hx hb dX8_holds_75 (by decide) ?_
          refine lv_iand hx hb dX8_holds_76 ?_
          refine r_brn h (lv_if_ne (tgt := 84) hx hb dX8_holds_77 (by decide)) (fun h => ?_) (fun h => ?_)
          · refine lv_iconst (v := 0) hx hb dX8_holds_84 (by decide) ?_
            exact r_iret C hW (rt_T h) rfl dX8_holds_85
          · refine lv_iconst (v := 1) hx hb dX8_holds_80 (by decide) ?_
            refine lv_goto (tgt := 85) hx hb dX8_holds_81 (by decide) ?_
            exact r_iret C hW (rt_T h) rfl dX8_holds_85
        refine r_case h (fun ec h => ?_) (fun nc3 h => ?_)
        · refine lv_tableIn (tgt := 86) (off := 60) hx hb dX8_holds_26 (by rw [ec]; decide) (by rw [ec]; decide) (by rw [ec]; rfl) (by decide) ?_
          refine lv_iload_n hx hb dX8_holds_86 rfl (lv_at hl 1 rfl) ?_
          refine r_br h (lv_if_eq (tgt := 95) hx hb dX8_holds_87 (by decide)) (fun h => ?_) (fun h => ?_)
          · refine lv_iconst (v := 1) hx hb dX8_holds_95 (by decide) ?_
            refine lv_goto (tgt := 100) hx hb dX8_holds_96 (by decide) ?_
            exact r_iret C hW (rt_T h) rfl dX8_holds_100
          · refine lv_iload_n hx hb dX8_holds_90 rfl (lv_at hl 1 rfl) ?_
            refine lv_iconst (v := 1) hx hb dX8_holds_91 (by decide) ?_
            refine r_brn h (lv_icmp_ne (tgt := 99) hx hb dX8_holds_92 (by decide)) (fun h => ?_) (fun h => ?_)
            · refine lv_iconst (v := 0) hx hb dX8_holds_99 (by decide) ?_
              exact r_iret C hW (rt_T h) rfl dX8_holds_100
            · refine lv_iconst (v := 1) hx hb dX8_holds_95 (by decide) ?_
              refine lv_goto (tgt := 100) hx hb dX8_holds_96 (by decide) ?_
              exact r_iret C hW (rt_T h) rfl dX8_holds_100
        refine lv_tableOut (tgt := 101) hx hb dX8_holds_26 (sw_out (lo := 0) (n := 3) (sw_s nc3 (sw_s nc2 (sw_s nc1 (sw_0 nc0)))) (by decide)) (by decide) ?_
        refine lv_iconst (v := 0) hx hb dX8_holds_101 (by decide) ?_
        exact r_iret C hW (rt_T h) rfl dX8_holds_102
      · refine lv_iconst (v := 0) hx hb dX8_holds_23 (by decide) ?_
        exact r_iret C hW (rt_T h) rfl dX8_holds_24
  · refine lv_iconst (v := 1) hx hb dX8_holds_7 (by decide) ?_
    exact r_iret C hW (rt_T h) rfl dX8_holds_8
end
